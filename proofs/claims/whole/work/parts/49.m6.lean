set_option maxHeartbeats 4000000 in
set_option maxRecDepth 100000 in
theorem k_X5_basis (l : Launch) (G : zG) (n : Nat) (ad : Nat → Nat) (w : Nat → va_E) (hn : 111 ≤ n) (σ : zS) (hM : MOK G ad w σ) (hs : SOK σ) (x y : Int32) :
    Ci l G yX5_basis cdX5_basis (zr 5) n ad w [.ref (ad (92)), .int (x), .int (y)] (postM G ad w (st_basis σ x y)) := by
  obtain ⟨m92, ⟨f93, m93, v93⟩, ⟨f94, m94, v94⟩, ⟨f95, m95, v95⟩, ⟨f96, m96, v96⟩, ⟨f97, m97, v97⟩, mE2, mE4, mE6, mD, m102, m103, m104, m105, m106, m107, m108, ⟨f109, m109, v109⟩, m110⟩ := id hM
  have hsh := hs.1
  refine ent_i (cc := cX5_basis) (maxL := 4) (ret := (some .int)) (by decide +kernel) rfl (Nat.le_of_ble_eq_true rfl) ?_
  intro p e s m args below meth c A B hr hlk hA H locs ls hW hl
  have hx := B.1
  have hb := B.2.1
  have hl : lv_has ls 4 [(0, .ref (ad (92))), (1, .int (x)), (2, .int (y))] := hl
  have hyr := rngI y
  refine lv_iload_n hx hb dX5_basis_0 rfl (lv_at hl 1 rfl) ?_
  refine call_si B hA hW (k_M_isWeight l G n ad w x) mf_X5_isWeight hw_542 rfl ⟨⟨rfl, rfl⟩, by decide, by decide⟩ ⟨Nat.zero_le _, Nat.zero_le _⟩ hl.1 rfl (Nat.le_of_ble_eq_true rfl) dX5_basis_1 (fun r w9 H locs hp hW => ?_)
  obtain ⟨e1, hp⟩ := hp
  rw [e1] at hW
  rcases hp with ⟨k, hk, hk2, rfl, rfl⟩ | ⟨hnf, rfl⟩
  · refine n_if_ne (tgt := 14) hx hb (by omega) dX5_basis_4 (by decide) (fun hz => ?_) (fun hz => ?_)
    · have hS : st_basis σ (nI k) y = cif (isF (zs k) y) (comeO σ k (bas k (cN y))) (ref σ 3) := by
        unfold st_basis
        rw [cif_t ⟨k, hk, hk2, rfl⟩, cN_nI (by omega)]
      rw [hS]
      have hzl := zs_le k hk
      refine lv_iload_n hx hb dX5_basis_14 rfl (lv_at hl 2 rfl) ?_
      refine r_i2l hx hb dX5_basis_15 ?_
      refine lv_lconst (v := lZ 0) hx hb dX5_basis_16 (by decide) ?_
      refine lv_iload_n hx hb dX5_basis_17 rfl (lv_at hl 1 rfl) ?_
      refine call_si B hA hW (k_M_sizeOf l G n ad w k hk hk2) mf_X5_sizeOf hw_513 rfl ⟨⟨rfl, rfl⟩, by decide, by decide⟩ ⟨Nat.zero_le _, Nat.zero_le _⟩ hl.1 rfl (Nat.le_of_ble_eq_true rfl) dX5_basis_18 (fun r w9 H locs hp hW => ?_)
      obtain ⟨e1, e2⟩ := hp
      rw [e1] at hW
      subst e2
      refine lv_iconst (v := nI 1) hx hb dX5_basis_21 (by decide) ?_
      refine lv_isub hx hb dX5_basis_22 ?_
      refine topi (y := (iZ (((zs k : Nat) : Int) - 1))) (by rw [nI_Z, nI_Z, iZ_sub]; rfl) ?_
      refine z_i2l hx hb (by omega) (by omega) dX5_basis_23 ?_
      refine call_si B hA hW (k_M_isIn l G n ad w y.toInt 0 (((zs k : Nat) : Int) - 1) (by omega) (by omega) (by omega) (by omega) (by omega) (by omega)) mf_X5_isIn hw_462 rfl ⟨⟨rfl, rfl⟩, by decide, by decide⟩ ⟨Nat.zero_le _, Nat.zero_le _⟩ hl.1 rfl (Nat.le_of_ble_eq_true rfl) dX5_basis_24 (fun r w9 H locs hp hW => ?_)
      obtain ⟨e1, hp⟩ := hp
      rw [e1] at hW
      rcases hp with ⟨q1, q2, rfl⟩ | ⟨hnin, rfl⟩
      · refine n_if_ne (tgt := 37) hx hb (by omega) dX5_basis_27 (by decide) (fun hz => ?_) (fun hz => ?_)
        · obtain ⟨q9, hq9, rfl⟩ := nI_of (x := y) (fun z => by rw [Int32.lt_iff_toInt_lt] at z; have e0 : (0 : Int32).toInt = 0 := rfl; omega)
          rw [nI_toInt hq9] at q1 q2
          rw [cif_t ⟨q9, by omega, rfl⟩, cN_nI hq9]
          have h12 := zs_i12 k hk hk2 q9 (by omega)
          refine lv_aload_n hx hb dX5_basis_37 rfl (lv_at hl 0 rfl) ?_
          refine lv_iload_n hx hb dX5_basis_38 rfl (lv_at hl 1 rfl) ?_
          refine lv_iload_n hx hb dX5_basis_39 rfl (lv_at hl 2 rfl) ?_
          refine call_vv B hA hW (92) (by omega) m92 (r := _) rfl rfl (k_M_fillBasis l G n ad w (nI (sH σ)) (rlI (sR σ)) m92 hn mD mE4 mE6 k q9 h12.1 hk hk2 h12.2 m104) mf_X5_fillBasis hw_519 rfl ⟨⟨rfl, rfl⟩, by decide, by decide⟩ ⟨Nat.zero_le _, Nat.zero_le _⟩ hl.1 rfl (Nat.le_of_ble_eq_true rfl) dX5_basis_40 (fun w5 H locs hp hW => ?_)
          obtain ⟨fr5, fb, eb, vb⟩ := hp
          have hM5 : MOK G ad w5 σ := hM.s48 (k := 104) (by decide) ⟨fb, eb⟩ fr5
          refine lv_iconst (v := nI 0) hx hb dX5_basis_43 (by decide) ?_
          refine lv_istore_n (lv' := [(3, .int (nI (0))), (0, .ref (ad (92))), (1, .int (nI (k))), (2, .int (nI (q9)))]) hx hb dX5_basis_44 rfl hl (by decide) rfl (fun ls hl => ?_)
          obtain ⟨f0, x0⟩ := hM5.2.2.2.2.2.2.2.2.2.2.1
          refine z_up (Wg := fun H locs ls => W p l e (zr 5) s m args below meth c H locs 0 0 _ (F0 m 45 ls [])) (I := fun q H locs ls => ∃ (w2 : Nat → va_E) (f : Nat → Int64), Wo G A s.heap n ad w2 H locs ∧ lv_has ls 4 [(3, .int (nI q)), (0, .ref (ad (92))), (1, .int (nI (k))), (2, .int (nI (q9)))] ∧ (∀ j, j ≠ 102 → w2 j = w5 j) ∧ w2 102 = eL G 48 f ∧ (∀ j, j < q → f j = lN (bas k q9 j))) (a := 0) (b := 48) (Nat.zero_le _) ?_ ?_ H locs ls ⟨w5, f0, hW, hl, fun _ _ => rfl, x0, fun j h => by omega⟩
          · rintro q - hq ih H locs ls ⟨w2, f, hW, hl, h1, h2, h3⟩
            have e92b := (h1 92 (by decide)).trans hM5.1
            have e104b := (h1 104 (by decide)).trans eb
            refine lv_iload_n hx hb dX5_basis_45 rfl (lv_at hl 0 rfl) ?_
            refine lv_bipush (v := nI 48) hx hb dX5_basis_46 (by decide) ?_
            refine n_icmp_ge (tgt := 69) hx hb (by omega) (by omega) dX5_basis_48 (by decide) (fun hc2 => ?_) (fun hc2 => ?_)
            · omega
            · refine lv_aload_n hx hb dX5_basis_51 rfl (lv_at hl 1 rfl) ?_
              refine z_get B hW (92) (by omega) e92b rfl inX5 10 (by decide) hw_385 rfl (v := .ref (ad (102))) rfl dX5_basis_52 ?_
              refine lv_iload_n hx hb dX5_basis_55 rfl (lv_at hl 0 rfl) ?_
              refine lv_aload_n hx hb dX5_basis_56 rfl (lv_at hl 1 rfl) ?_
              refine z_get B hW (92) (by omega) e92b rfl inX5 12 (by decide) hw_387 rfl (v := .ref (ad (104))) rfl dX5_basis_57 ?_
              refine lv_iload_n hx hb dX5_basis_60 rfl (lv_at hl 0 rfl) ?_
              refine z_lald B hW (104) (by omega) e104b (q) (by omega) (by decide) (v := (lN (bas k q9 q))) (vb _ hq) dX5_basis_61 ?_
              refine z_last B hW (102) (by omega) h2 (q) (by omega) (by decide) dX5_basis_62 (fun H locs hW => ?_)
              refine lv_iinc (v := (nI (q + 1))) (lv' := [(3, .int (nI (q + 1))), (0, .ref (ad (92))), (1, .int (nI (k))), (2, .int (nI (q9)))]) hx hb dX5_basis_63 hl (k := 0) rfl (iinc1 _) (by decide) rfl (fun ls hl => ?_)
              refine lv_goto (tgt := 45) hx hb dX5_basis_66 (by decide) ?_
              refine ih H locs ls ⟨_, _, hW, hl, fun j hj => by rw [up_n hj]; exact h1 j hj, up_s, fun j hj => ?_⟩
              · by_cases z : j = q
                · rw [z, pk_uLs]
                · rw [pk_uLn z]; exact h3 j (by omega)
          · rintro H locs ls ⟨w2, f, hW, hl, h1, h2, h3⟩
            have hMo : MOK G ad w2 σ := hM5.s48 (k := 102) (by decide) ⟨f, h2⟩ h1
            obtain ⟨-, -, -, ⟨f95o, m95o, v95o⟩, -⟩ := id hMo
            refine lv_iload_n hx hb dX5_basis_45 rfl (lv_at hl 0 rfl) ?_
            refine lv_bipush (v := nI 48) hx hb dX5_basis_46 (by decide) ?_
            refine n_icmp_ge (tgt := 69) hx hb (by omega) (by omega) dX5_basis_48 (by decide) (fun hc2 => ?_) (fun hc2 => ?_)
            · refine lv_aload_n hx hb dX5_basis_69 rfl (lv_at hl 1 rfl) ?_
              refine lv_iload_n hx hb dX5_basis_70 rfl (lv_at hl 2 rfl) ?_
              refine call_vi B hA hW (92) (by omega) hMo.1 (r := _) rfl rfl (k_M_made l G n ad w2 hn σ hMo hs (k) (by omega) (bas k q9) ⟨f, h2, h3⟩ (bas_red _ _ _)) mf_X5_made hw_480 rfl ⟨⟨rfl, rfl⟩, by decide, by decide⟩ ⟨Nat.zero_le _, Nat.zero_le _⟩ hl.1 rfl (Nat.le_of_ble_eq_true rfl) dX5_basis_71 (fun r w9 H locs hp9 hW => ?_)
              exact ret_i B hr hlk hW ⟨hp9.1, hp9.2.1, fun j hj => (hp9.2.2 j hj).trans ((h1 j (by omega)).trans (fr5 j (by omega)))⟩ dX5_basis_74
            · omega
        · exact absurd hz (by decide)
      · refine n_if_ne (tgt := 37) hx hb (by omega) dX5_basis_27 (by decide) (fun hz => ?_) (fun hz => ?_)
        · exact absurd rfl hz
        · refine lv_aload_n hx hb dX5_basis_30 rfl (lv_at hl 0 rfl) ?_
          refine lv_bipush (v := -3) hx hb dX5_basis_31 (by decide) ?_
          refine call_vi B hA hW (92) (by omega) m92 (r := _) rfl rfl (k_M_no l G n ad w hn σ hM (-3) 3 (by decide) (by decide) (by decide)) mf_X5_no hw_449 rfl ⟨⟨rfl, rfl⟩, by decide, by decide⟩ ⟨Nat.zero_le _, Nat.zero_le _⟩ hl.1 rfl (Nat.le_of_ble_eq_true rfl) dX5_basis_33 (fun r w9 H locs hp hW => ?_)
          exact ret_i B hr hlk hW (by rw [cif_f (fun q => hnin ((isF_rng (by omega)).mp q))]; exact hp) dX5_basis_36
    · exact absurd hz (by decide)
  · refine n_if_ne (tgt := 14) hx hb (by omega) dX5_basis_4 (by decide) (fun hz => ?_) (fun hz => ?_)
    · exact absurd rfl hz
    · refine lv_aload_n hx hb dX5_basis_7 rfl (lv_at hl 0 rfl) ?_
      refine lv_bipush (v := -7) hx hb dX5_basis_8 (by decide) ?_
      refine call_vi B hA hW (92) (by omega) m92 (r := _) rfl rfl (k_M_no l G n ad w hn σ hM (-7) 7 (by decide) (by decide) (by decide)) mf_X5_no hw_449 rfl ⟨⟨rfl, rfl⟩, by decide, by decide⟩ ⟨Nat.zero_le _, Nat.zero_le _⟩ hl.1 rfl (Nat.le_of_ble_eq_true rfl) dX5_basis_10 (fun r w9 H locs hp hW => ?_)
      exact ret_i B hr hlk hW (by rw [show st_basis σ x y = ref σ 7 by unfold st_basis; rw [cif_f (P := isW x) hnf]]; exact hp) dX5_basis_13
set_option maxHeartbeats 4000000 in
set_option maxRecDepth 100000 in
theorem k_X5_status (l : Launch) (G : zG) (n : Nat) (ad : Nat → Nat) (w : Nat → va_E) (hn : 111 ≤ n) (σ : zS) (hM : MOK G ad w σ) (hs : SOK σ) (x : Int32) :
    Ci l G yX5_status cdX5_status (zr 5) n ad w [.ref (ad (92)), .int (x)] (postM G ad w (st_status σ x)) := by
  obtain ⟨m92, ⟨f93, m93, v93⟩, ⟨f94, m94, v94⟩, ⟨f95, m95, v95⟩, ⟨f96, m96, v96⟩, ⟨f97, m97, v97⟩, mE2, mE4, mE6, mD, m102, m103, m104, m105, m106, m107, m108, ⟨f109, m109, v109⟩, m110⟩ := id hM
  have hsh := hs.1
  refine ent_i (cc := cX5_status) (maxL := 2) (ret := (some .int)) (by decide +kernel) rfl (Nat.le_of_ble_eq_true rfl) ?_
  intro p e s m args below meth c A B hr hlk hA H locs ls hW hl
  have hx := B.1
  have hb := B.2.1
  have hl : lv_has ls 2 [(0, .ref (ad (92))), (1, .int (x))] := hl
  have hxr := rngI x
  refine lv_iload_n hx hb dX5_status_0 rfl (lv_at hl 1 rfl) ?_
  refine r_i2l hx hb dX5_status_1 ?_
  refine n_ldc2 B hw_629 (x := lZ (-8)) (by decide) dX5_status_2 ?_
  refine n_ldc2 B hw_630 (x := lZ (-2)) (by decide) dX5_status_5 ?_
  refine call_si B hA hW (k_M_isIn l G n ad w x.toInt (-8) (-2) (by omega) (by omega) (by omega) (by omega) (by omega) (by omega)) mf_X5_isIn hw_462 rfl ⟨⟨rfl, rfl⟩, by decide, by decide⟩ ⟨Nat.zero_le _, Nat.zero_le _⟩ hl.1 rfl (Nat.le_of_ble_eq_true rfl) dX5_status_8 (fun r w9 H locs hp hW => ?_)
  obtain ⟨e1, hp⟩ := hp
  rw [e1] at hW
  rcases hp with ⟨q1, q2, rfl⟩ | ⟨hnin, rfl⟩
  · refine n_if_eq (tgt := 24) hx hb (by omega) dX5_status_11 (by decide) (fun hz => ?_) (fun hz => ?_)
    · exact absurd hz (by decide)
    · have h1 : x ≤ -2 := by rw [Int32.le_iff_toInt_le]; exact q2
      have h2 : -8 ≤ x := by rw [Int32.le_iff_toInt_le]; exact q1
      obtain ⟨c9, hc1, hc2, hc3⟩ := neg_rng h1 h2
      refine lv_aload_n hx hb dX5_status_14 rfl (lv_at hl 0 rfl) ?_
      refine z_get B hW (92) (by omega) m92 rfl inX5 5 (by decide) hw_380 rfl (v := .ref (ad (97))) rfl dX5_status_15 ?_
      refine lv_iload_n hx hb dX5_status_18 rfl (lv_at hl 1 rfl) ?_
      refine lv_ineg hx hb dX5_status_19 ?_
      refine topi (y := (nI (c9))) hc3 ?_
      refine z_iald B hW (97) (by omega) m97 (c9) (by omega) (by decide) (v := (sF σ c9)) (v97 _ hc1 hc2) dX5_status_20 ?_
      refine lv_goto (tgt := 30) hx hb dX5_status_21 (by decide) ?_
      exact ret_i B hr hlk hW (by rw [show st_status σ x = (sF σ c9, σ) by unfold st_status; rw [cif_t ⟨h1, h2⟩, hc3, cN_nI (by omega)]]; exact ⟨rfl, hM, fun _ _ => rfl⟩) dX5_status_30
  · refine n_if_eq (tgt := 24) hx hb (by omega) dX5_status_11 (by decide) (fun hz => ?_) (fun hz => ?_)
    · refine lv_aload_n hx hb dX5_status_24 rfl (lv_at hl 0 rfl) ?_
      refine lv_bipush (v := -7) hx hb dX5_status_25 (by decide) ?_
      refine call_vi B hA hW (92) (by omega) m92 (r := _) rfl rfl (k_M_no l G n ad w hn σ hM (-7) 7 (by decide) (by decide) (by decide)) mf_X5_no hw_449 rfl ⟨⟨rfl, rfl⟩, by decide, by decide⟩ ⟨Nat.zero_le _, Nat.zero_le _⟩ hl.1 rfl (Nat.le_of_ble_eq_true rfl) dX5_status_27 (fun r w9 H locs hp hW => ?_)
      exact ret_i B hr hlk hW (by rw [show st_status σ x = ref σ 7 by unfold st_status; rw [cif_f (fun q => hnin ⟨by have := q.2; rw [Int32.le_iff_toInt_le] at this; exact this, by have := q.1; rw [Int32.le_iff_toInt_le] at this; exact this⟩)]]; exact hp) dX5_status_30
    · exact absurd rfl hz
set_option maxHeartbeats 4000000 in
set_option maxRecDepth 100000 in
theorem k_X5_look (l : Launch) (G : zG) (n : Nat) (ad : Nat → Nat) (w : Nat → va_E) (hn : 111 ≤ n) (σ : zS) (hM : MOK G ad w σ) (hs : SOK σ) (f x : Int32) :
    Ci l G yX5_look cdX5_look (zr 5) n ad w [.ref (ad (92)), .int (f), .int (x)] (postM G ad w (st_look σ f x)) := by
  obtain ⟨m92, ⟨f93, m93, v93⟩, ⟨f94, m94, v94⟩, ⟨f95, m95, v95⟩, ⟨f96, m96, v96⟩, ⟨f97, m97, v97⟩, mE2, mE4, mE6, mD, m102, m103, m104, m105, m106, m107, m108, ⟨f109, m109, v109⟩, m110⟩ := id hM
  have hsh := hs.1
  refine ent_i (cc := cX5_look) (maxL := 3) (ret := (some .int)) (by decide +kernel) rfl (Nat.le_of_ble_eq_true rfl) ?_
  intro p e s m args below meth c A B hr hlk hA H locs ls hW hl
  have hx := B.1
  have hb := B.2.1
  have hl : lv_has ls 3 [(0, .ref (ad (92))), (1, .int (f)), (2, .int (x))] := hl
  refine lv_aload_n hx hb dX5_look_0 rfl (lv_at hl 0 rfl) ?_
  refine lv_iload_n hx hb dX5_look_1 rfl (lv_at hl 1 rfl) ?_
  refine call_vi B hA hW (92) (by omega) m92 (r := _) rfl rfl (k_M_isForm l G n ad w hn σ hM hs f) mf_X5_isForm hw_473 rfl ⟨⟨rfl, rfl⟩, by decide, by decide⟩ ⟨Nat.zero_le _, Nat.zero_le _⟩ hl.1 rfl (Nat.le_of_ble_eq_true rfl) dX5_look_2 (fun r w9 H locs hp hW => ?_)
  obtain ⟨e1, hp⟩ := hp
  rw [e1] at hW
  rcases hp with ⟨i, hi, rfl, rfl⟩ | ⟨hnf, rfl⟩
  · obtain ⟨w40_i, w2_i, k4_i, t40_i, r_i, s_i⟩ := hs.2.1 i hi
    have h16_i : i < 16 := by omega
    refine n_if_ne (tgt := 15) hx hb (by omega) dX5_look_5 (by decide) (fun hz => ?_) (fun hz => ?_)
    · have hS : st_look σ (nI i) x = cif (x = nI 0) (nI (sK σ i), σ) (cif (x = nI 1) (nI (sW σ i), σ) (cif (x = nI 2) (theI (lstR (sE σ i)), σ) (cif (x = nI 3) (nI (zs (sW σ i)), σ) (cif (x = nI 4) (cif (sK σ i = 1 ∨ sK σ i = 2) (nI (sT σ i), σ) (ref σ 5)) (ref σ 7))))) := by
        unfold st_look
        rw [cif_t ⟨i, hi, rfl⟩, cN_nI (by omega)]
      rw [hS]
      by_cases h0 : x = nI 0
      · refine lv_iload_n hx hb dX5_look_15 rfl (lv_at hl 2 rfl) ?_
        refine lv_iconst (v := nI 4) hx hb dX5_look_16 (by decide) ?_
        refine lv_icmp_ne (tgt := 47) hx hb dX5_look_17 (by decide) (fun hz => ?_) (fun hz => ?_)
        · refine lv_iload_n hx hb dX5_look_47 rfl (lv_at hl 2 rfl) ?_
          refine topi h0 ?_
          refine lv_tableIn (tgt := 84) hx hb dX5_look_48 (by decide) (by decide) rfl (by decide) ?_
          refine lv_aload_n hx hb dX5_look_84 rfl (lv_at hl 0 rfl) ?_
          refine z_get B hW (92) (by omega) m92 rfl inX5 1 (by decide) hw_376 rfl (v := .ref (ad (94))) rfl dX5_look_85 ?_
          refine lv_iload_n hx hb dX5_look_88 rfl (lv_at hl 1 rfl) ?_
          refine z_iald B hW (94) (by omega) m94 (i) (by omega) (by decide) (v := (nI (sK σ (i)))) (v94 _ (by omega)) dX5_look_89 ?_
          exact ret_i B hr hlk hW (by rw [cif_t h0]; exact ⟨rfl, hM, fun _ _ => rfl⟩) dX5_look_90
        · exact absurd (h0.symm.trans hz) (by decide)
      · by_cases h1 : x = nI 1
        · refine lv_iload_n hx hb dX5_look_15 rfl (lv_at hl 2 rfl) ?_
          refine lv_iconst (v := nI 4) hx hb dX5_look_16 (by decide) ?_
          refine lv_icmp_ne (tgt := 47) hx hb dX5_look_17 (by decide) (fun hz => ?_) (fun hz => ?_)
          · refine lv_iload_n hx hb dX5_look_47 rfl (lv_at hl 2 rfl) ?_
            refine topi h1 ?_
            refine lv_tableIn (tgt := 91) hx hb dX5_look_48 (by decide) (by decide) rfl (by decide) ?_
            refine lv_aload_n hx hb dX5_look_91 rfl (lv_at hl 0 rfl) ?_
            refine z_get B hW (92) (by omega) m92 rfl inX5 2 (by decide) hw_377 rfl (v := .ref (ad (95))) rfl dX5_look_92 ?_
            refine lv_iload_n hx hb dX5_look_95 rfl (lv_at hl 1 rfl) ?_
            refine z_iald B hW (95) (by omega) m95 (i) (by omega) (by decide) (v := (nI (sW σ (i)))) (v95 _ (by omega)) dX5_look_96 ?_
            exact ret_i B hr hlk hW (by rw [cif_f h0, cif_t h1]; exact ⟨rfl, hM, fun _ _ => rfl⟩) dX5_look_97
          · exact absurd (h1.symm.trans hz) (by decide)
        · by_cases h2 : x = nI 2
          · refine lv_iload_n hx hb dX5_look_15 rfl (lv_at hl 2 rfl) ?_
            refine lv_iconst (v := nI 4) hx hb dX5_look_16 (by decide) ?_
            refine lv_icmp_ne (tgt := 47) hx hb dX5_look_17 (by decide) (fun hz => ?_) (fun hz => ?_)
            · refine lv_iload_n hx hb dX5_look_47 rfl (lv_at hl 2 rfl) ?_
              refine topi h2 ?_
              refine lv_tableIn (tgt := 98) hx hb dX5_look_48 (by decide) (by decide) rfl (by decide) ?_
              refine lv_aload_n hx hb dX5_look_98 rfl (lv_at hl 0 rfl) ?_
              refine lv_iload_n hx hb dX5_look_99 rfl (lv_at hl 1 rfl) ?_
              refine call_vi B hA hW (92) (by omega) m92 (r := _) rfl rfl (k_M_leastOf l G n ad w hn σ hM hs i hi) mf_X5_leastOf hw_554 rfl ⟨⟨rfl, rfl⟩, by decide, by decide⟩ ⟨Nat.zero_le _, Nat.zero_le _⟩ hl.1 rfl (Nat.le_of_ble_eq_true rfl) dX5_look_100 (fun r w9 H locs hp hW => ?_)
              obtain ⟨e1, e2⟩ := hp
              rw [e1] at hW
              exact ret_i B hr hlk hW (by rw [cif_f h0, cif_f h1, cif_t h2]; exact ⟨theI_eq e2 (fun _ _ => lstR_one), hM, fun _ _ => rfl⟩) dX5_look_103
            · exact absurd (h2.symm.trans hz) (by decide)
          · by_cases h3 : x = nI 3
            · refine lv_iload_n hx hb dX5_look_15 rfl (lv_at hl 2 rfl) ?_
              refine lv_iconst (v := nI 4) hx hb dX5_look_16 (by decide) ?_
              refine lv_icmp_ne (tgt := 47) hx hb dX5_look_17 (by decide) (fun hz => ?_) (fun hz => ?_)
              · refine lv_iload_n hx hb dX5_look_47 rfl (lv_at hl 2 rfl) ?_
                refine topi h3 ?_
                refine lv_tableIn (tgt := 104) hx hb dX5_look_48 (by decide) (by decide) rfl (by decide) ?_
                refine lv_aload_n hx hb dX5_look_104 rfl (lv_at hl 0 rfl) ?_
                refine z_get B hW (92) (by omega) m92 rfl inX5 2 (by decide) hw_377 rfl (v := .ref (ad (95))) rfl dX5_look_105 ?_
                refine lv_iload_n hx hb dX5_look_108 rfl (lv_at hl 1 rfl) ?_
                refine z_iald B hW (95) (by omega) m95 (i) (by omega) (by decide) (v := (nI (sW σ (i)))) (v95 _ (by omega)) dX5_look_109 ?_
                refine call_si B hA hW (k_M_sizeOf l G n ad w (sW σ i) w40_i w2_i) mf_X5_sizeOf hw_513 rfl ⟨⟨rfl, rfl⟩, by decide, by decide⟩ ⟨Nat.zero_le _, Nat.zero_le _⟩ hl.1 rfl (Nat.le_of_ble_eq_true rfl) dX5_look_110 (fun r w9 H locs hp hW => ?_)
                obtain ⟨e1, e2⟩ := hp
                rw [e1] at hW
                subst e2
                exact ret_i B hr hlk hW (by rw [cif_f h0, cif_f h1, cif_f h2, cif_t h3]; exact ⟨rfl, hM, fun _ _ => rfl⟩) dX5_look_113
              · exact absurd (h3.symm.trans hz) (by decide)
            · by_cases h4 : x = nI 4
              · refine lv_iload_n hx hb dX5_look_15 rfl (lv_at hl 2 rfl) ?_
                refine lv_iconst (v := nI 4) hx hb dX5_look_16 (by decide) ?_
                refine lv_icmp_ne (tgt := 47) hx hb dX5_look_17 (by decide) (fun hz => ?_) (fun hz => ?_)
                · exact absurd h4 hz
                · refine lv_aload_n hx hb dX5_look_20 rfl (lv_at hl 0 rfl) ?_
                  refine z_get B hW (92) (by omega) m92 rfl inX5 1 (by decide) hw_376 rfl (v := .ref (ad (94))) rfl dX5_look_21 ?_
                  refine lv_iload_n hx hb dX5_look_24 rfl (lv_at hl 1 rfl) ?_
                  refine z_iald B hW (94) (by omega) m94 (i) (by omega) (by decide) (v := (nI (sK σ (i)))) (v94 _ (by omega)) dX5_look_25 ?_
                  refine lv_iconst (v := nI 1) hx hb dX5_look_26 (by decide) ?_
                  refine n_icmp_eq (tgt := 47) hx hb (by omega) (by omega) dX5_look_27 (by decide) (fun hd => ?_) (fun hd => ?_)
                  · refine lv_iload_n hx hb dX5_look_47 rfl (lv_at hl 2 rfl) ?_
                    refine topi h4 ?_
                    refine lv_tableIn (tgt := 114) hx hb dX5_look_48 (by decide) (by decide) rfl (by decide) ?_
                    refine lv_aload_n hx hb dX5_look_114 rfl (lv_at hl 0 rfl) ?_
                    refine z_get B hW (92) (by omega) m92 rfl inX5 3 (by decide) hw_378 rfl (v := .ref (ad (96))) rfl dX5_look_115 ?_
                    refine lv_iload_n hx hb dX5_look_118 rfl (lv_at hl 1 rfl) ?_
                    refine z_iald B hW (96) (by omega) m96 (i) (by omega) (by decide) (v := (nI (sT σ (i)))) (v96 _ (by omega)) dX5_look_119 ?_
                    exact ret_i B hr hlk hW (by rw [cif_f h0, cif_f h1, cif_f h2, cif_f h3, cif_t h4, cif_t (Or.inl hd)]; exact ⟨rfl, hM, fun _ _ => rfl⟩) dX5_look_120
                  · refine lv_aload_n hx hb dX5_look_30 rfl (lv_at hl 0 rfl) ?_
                    refine z_get B hW (92) (by omega) m92 rfl inX5 1 (by decide) hw_376 rfl (v := .ref (ad (94))) rfl dX5_look_31 ?_
                    refine lv_iload_n hx hb dX5_look_34 rfl (lv_at hl 1 rfl) ?_
                    refine z_iald B hW (94) (by omega) m94 (i) (by omega) (by decide) (v := (nI (sK σ (i)))) (v94 _ (by omega)) dX5_look_35 ?_
                    refine lv_iconst (v := nI 2) hx hb dX5_look_36 (by decide) ?_
                    refine n_icmp_eq (tgt := 47) hx hb (by omega) (by omega) dX5_look_37 (by decide) (fun he => ?_) (fun he => ?_)
                    · refine lv_iload_n hx hb dX5_look_47 rfl (lv_at hl 2 rfl) ?_
                      refine topi h4 ?_
                      refine lv_tableIn (tgt := 114) hx hb dX5_look_48 (by decide) (by decide) rfl (by decide) ?_
                      refine lv_aload_n hx hb dX5_look_114 rfl (lv_at hl 0 rfl) ?_
                      refine z_get B hW (92) (by omega) m92 rfl inX5 3 (by decide) hw_378 rfl (v := .ref (ad (96))) rfl dX5_look_115 ?_
                      refine lv_iload_n hx hb dX5_look_118 rfl (lv_at hl 1 rfl) ?_
                      refine z_iald B hW (96) (by omega) m96 (i) (by omega) (by decide) (v := (nI (sT σ (i)))) (v96 _ (by omega)) dX5_look_119 ?_
                      exact ret_i B hr hlk hW (by rw [cif_f h0, cif_f h1, cif_f h2, cif_f h3, cif_t h4, cif_t (Or.inr he)]; exact ⟨rfl, hM, fun _ _ => rfl⟩) dX5_look_120
                    · refine lv_aload_n hx hb dX5_look_40 rfl (lv_at hl 0 rfl) ?_
                      refine lv_bipush (v := -5) hx hb dX5_look_41 (by decide) ?_
                      refine call_vi B hA hW (92) (by omega) m92 (r := _) rfl rfl (k_M_no l G n ad w hn σ hM (-5) 5 (by decide) (by decide) (by decide)) mf_X5_no hw_449 rfl ⟨⟨rfl, rfl⟩, by decide, by decide⟩ ⟨Nat.zero_le _, Nat.zero_le _⟩ hl.1 rfl (Nat.le_of_ble_eq_true rfl) dX5_look_43 (fun r w9 H locs hp hW => ?_)
                      exact ret_i B hr hlk hW (by rw [cif_f h0, cif_f h1, cif_f h2, cif_f h3, cif_t h4, cif_f (fun y => by omega)]; exact hp) dX5_look_46
              · have hout : x.toInt < 0 ∨ 4 < x.toInt := by
                  rcases Int.lt_or_le x.toInt 0 with q | q
                  · exact Or.inl q
                  · rcases Int.lt_or_le 4 x.toInt with z | z
                    · exact Or.inr z
                    · exfalso
                      have hz : x.toInt = 0 ∨ x.toInt = 1 ∨ x.toInt = 2 ∨ x.toInt = 3 ∨ x.toInt = 4 := by omega
                      have hxx := iZ_of x
                      rcases hz with h | h | h | h | h <;> rw [h] at hxx
                      · exact h0 hxx.symm
                      · exact h1 hxx.symm
                      · exact h2 hxx.symm
                      · exact h3 hxx.symm
                      · exact h4 hxx.symm
                refine lv_iload_n hx hb dX5_look_15 rfl (lv_at hl 2 rfl) ?_
                refine lv_iconst (v := nI 4) hx hb dX5_look_16 (by decide) ?_
                refine lv_icmp_ne (tgt := 47) hx hb dX5_look_17 (by decide) (fun hz => ?_) (fun hz => ?_)
                · refine lv_iload_n hx hb dX5_look_47 rfl (lv_at hl 2 rfl) ?_
                  refine lv_tableOut (tgt := 121) hx hb dX5_look_48 hout (by decide) ?_
                  refine lv_aload_n hx hb dX5_look_121 rfl (lv_at hl 0 rfl) ?_
                  refine lv_bipush (v := -7) hx hb dX5_look_122 (by decide) ?_
                  refine call_vi B hA hW (92) (by omega) m92 (r := _) rfl rfl (k_M_no l G n ad w hn σ hM (-7) 7 (by decide) (by decide) (by decide)) mf_X5_no hw_449 rfl ⟨⟨rfl, rfl⟩, by decide, by decide⟩ ⟨Nat.zero_le _, Nat.zero_le _⟩ hl.1 rfl (Nat.le_of_ble_eq_true rfl) dX5_look_124 (fun r w9 H locs hp hW => ?_)
                  exact ret_i B hr hlk hW (by rw [cif_f h0, cif_f h1, cif_f h2, cif_f h3, cif_f h4]; exact hp) dX5_look_127
                · exact absurd hz h4
    · exact absurd hz (by decide)
  · refine n_if_ne (tgt := 15) hx hb (by omega) dX5_look_5 (by decide) (fun hz => ?_) (fun hz => ?_)
    · exact absurd rfl hz
    · refine lv_aload_n hx hb dX5_look_8 rfl (lv_at hl 0 rfl) ?_
      refine lv_bipush (v := -3) hx hb dX5_look_9 (by decide) ?_
      refine call_vi B hA hW (92) (by omega) m92 (r := _) rfl rfl (k_M_no l G n ad w hn σ hM (-3) 3 (by decide) (by decide) (by decide)) mf_X5_no hw_449 rfl ⟨⟨rfl, rfl⟩, by decide, by decide⟩ ⟨Nat.zero_le _, Nat.zero_le _⟩ hl.1 rfl (Nat.le_of_ble_eq_true rfl) dX5_look_11 (fun r w9 H locs hp hW => ?_)
      exact ret_i B hr hlk hW (by rw [show st_look σ f x = ref σ 3 by unfold st_look; rw [cif_f hnf]]; exact hp) dX5_look_14
set_option maxHeartbeats 4000000 in
set_option maxRecDepth 100000 in
theorem k_X5_trace (l : Launch) (G : zG) (n : Nat) (ad : Nat → Nat) (w : Nat → va_E) (hn : 111 ≤ n) (σ : zS) (hM : MOK G ad w σ) (hs : SOK σ) (x y : Int32) (c9 : Nat) (hc9 : c9 ≤ 1) :
    Ci l G yX5_trace cdX5_trace (zr 5) n ad w [.ref (ad (92)), .int (x), .int (y), .int (nI (c9))] (postM G ad w (st_trace σ x y c9)) := by
  obtain ⟨m92, ⟨f93, m93, v93⟩, ⟨f94, m94, v94⟩, ⟨f95, m95, v95⟩, ⟨f96, m96, v96⟩, ⟨f97, m97, v97⟩, mE2, mE4, mE6, mD, m102, m103, m104, m105, m106, m107, m108, ⟨f109, m109, v109⟩, m110⟩ := id hM
  have hsh := hs.1
  refine ent_i (cc := cX5_trace) (maxL := 8) (ret := (some .int)) (by decide +kernel) rfl (Nat.le_of_ble_eq_true rfl) ?_
  intro p e s m args below meth c A B hr hlk hA H locs ls hW hl
  have hx := B.1
  have hb := B.2.1
  have hl : lv_has ls 8 [(0, .ref (ad (92))), (1, .int (x)), (2, .int (y)), (3, .int (nI (c9)))] := hl
  refine lv_iload_n hx hb dX5_trace_0 rfl (lv_at hl 1 rfl) ?_
  refine call_si B hA hW (k_M_isWeight l G n ad w x) mf_X5_isWeight hw_542 rfl ⟨⟨rfl, rfl⟩, by decide, by decide⟩ ⟨Nat.zero_le _, Nat.zero_le _⟩ hl.1 rfl (Nat.le_of_ble_eq_true rfl) dX5_trace_1 (fun r w9 H locs hp hW => ?_)
  obtain ⟨e1, hp⟩ := hp
  rw [e1] at hW
  rcases hp with ⟨k, hk, hk2, rfl, rfl⟩ | ⟨hnf, rfl⟩
  · refine n_if_eq (tgt := 19) hx hb (by omega) dX5_trace_4 (by decide) (fun hz => ?_) (fun hz => ?_)
    · exact absurd hz (by decide)
    · refine lv_iload_n hx hb dX5_trace_7 rfl (lv_at hl 1 rfl) ?_
      refine lv_iconst (v := nI 4) hx hb dX5_trace_8 (by decide) ?_
      refine n_icmp_lt (tgt := 19) hx hb (by omega) (by omega) dX5_trace_9 (by decide) (fun hd => ?_) (fun hd => ?_)
      · refine lv_aload_n hx hb dX5_trace_19 rfl (lv_at hl 0 rfl) ?_
        refine lv_bipush (v := -7) hx hb dX5_trace_20 (by decide) ?_
        refine call_vi B hA hW (92) (by omega) m92 (r := _) rfl rfl (k_M_no l G n ad w hn σ hM (-7) 7 (by decide) (by decide) (by decide)) mf_X5_no hw_449 rfl ⟨⟨rfl, rfl⟩, by decide, by decide⟩ ⟨Nat.zero_le _, Nat.zero_le _⟩ hl.1 rfl (Nat.le_of_ble_eq_true rfl) dX5_trace_22 (fun r w9 H locs hp hW => ?_)
        exact ret_i B hr hlk hW (by rw [show st_trace σ (nI k) y c9 = ref σ 7 by unfold st_trace; rw [cN_nI (by omega), cif_f (fun q => by omega)]]; exact hp) dX5_trace_25
      · refine lv_iload_n hx hb dX5_trace_12 rfl (lv_at hl 2 rfl) ?_
        refine call_si B hA hW (k_X5_isPrime l G n ad w y) mf_X5_isPrime hw_531 rfl ⟨⟨rfl, rfl⟩, by decide, by decide⟩ ⟨Nat.zero_le _, Nat.zero_le _⟩ hl.1 rfl (Nat.le_of_ble_eq_true rfl) dX5_trace_13 (fun r w9 H locs hp hW => ?_)
        obtain ⟨e1, hp⟩ := hp
        rw [e1] at hW
        rcases hp with ⟨p9, hp9, rfl, rfl⟩ | ⟨hnp, rfl⟩
        · have hpr := isP_rng hp9
          refine n_if_ne (tgt := 26) hx hb (by omega) dX5_trace_16 (by decide) (fun hz => ?_) (fun hz => ?_)
          · have hS : st_trace σ (nI k) (nI p9) c9 = (nI (trS k p9 c9 (zs k) % 1000003), σ) := by
              unfold st_trace
              rw [cN_nI (by omega), cif_t ⟨⟨k, hk, hk2, rfl⟩, hd, ⟨p9, hp9, rfl⟩⟩, cN_nI (by omega)]
            rw [hS]
            have hzl := zs_le k hk
            have hz0 : c9 ≤ zs k := by
              have : ∀ k, k ≤ 40 → k % 2 = 0 → 4 ≤ k → 1 ≤ zs k := by decide
              have := this k hk hk2 hd
              omega
            refine lv_lconst (v := lN 0) hx hb dX5_trace_26 (by decide) ?_
            refine lv_lstore (lv' := [(4, .long (lN (0))), (0, .ref (ad (92))), (1, .int (nI (k))), (2, .int (nI (p9))), (3, .int (nI (c9)))]) hx hb dX5_trace_27 hl (by decide) rfl (fun ls hl => ?_)
            refine lv_iload_n hx hb dX5_trace_29 rfl (lv_at hl 4 rfl) ?_
            refine n_if_eq (tgt := 37) hx hb (by omega) dX5_trace_30 (by decide) (fun he => ?_) (fun he => ?_)
            · refine lv_iconst (v := nI 0) hx hb dX5_trace_37 (by decide) ?_
              refine topi (y := (nI (c9))) (by congr 1; omega) ?_
              refine lv_istore (lv' := [(6, .int (nI (c9))), (4, .long (lN (0))), (0, .ref (ad (92))), (1, .int (nI (k))), (2, .int (nI (p9))), (3, .int (nI (c9)))]) hx hb dX5_trace_38 hl (by decide) rfl (fun ls hl => ?_)
              refine z_up (Wg := fun H locs ls => W p l e (zr 5) s m args below meth c H locs 0 0 _ (F0 m 40 ls [])) (I := fun t H locs ls => ∃ w2 : Nat → va_E, Wo G A s.heap n ad w2 H locs ∧ lv_has ls 8 [(6, .int (nI t)), (4, .long (lN (trS k p9 c9 t))), (0, .ref (ad 92)), (1, .int (nI k)), (2, .int (nI p9)), (3, .int (nI c9))] ∧ trS k p9 c9 t ≤ t * 1000003 ∧ MOK G ad w2 σ ∧ ∀ j, j < 92 → w2 j = w j) (a := c9) (b := zs k) hz0 ?_ ?_ H locs ls ⟨w, hW, (by rw [show trS k p9 c9 c9 = 0 by rcases (show c9 = 0 ∨ c9 = 1 by omega) with rfl | rfl <;> rfl]; exact hl), (by rw [show trS k p9 c9 c9 = 0 by rcases (show c9 = 0 ∨ c9 = 1 by omega) with rfl | rfl <;> rfl]; exact Nat.zero_le _), hM, fun _ _ => rfl⟩
              · rintro t ht1 ht ih H locs ls ⟨w2, hW, hl, hb9, hM2, hfr⟩
                have h12 := zs_i12 k hk hk2 t ht
                refine lv_iload hx hb dX5_trace_40 (lv_at hl 0 rfl) ?_
                refine lv_iload_n hx hb dX5_trace_42 rfl (lv_at hl 3 rfl) ?_
                refine call_si B hA hW (k_M_sizeOf l G n ad w2 k hk hk2) mf_X5_sizeOf hw_513 rfl ⟨⟨rfl, rfl⟩, by decide, by decide⟩ ⟨Nat.zero_le _, Nat.zero_le _⟩ hl.1 rfl (Nat.le_of_ble_eq_true rfl) dX5_trace_43 (fun r w9 H locs hp hW => ?_)
                obtain ⟨e1, e2⟩ := hp
                rw [e1] at hW
                subst e2
                refine n_icmp_ge (tgt := 110) hx hb (by omega) (by omega) dX5_trace_46 (by decide) (fun hc => ?_) (fun hc => ?_)
                · omega
                · refine lv_aload_n hx hb dX5_trace_49 rfl (lv_at hl 2 rfl) ?_
                  refine lv_iload_n hx hb dX5_trace_50 rfl (lv_at hl 3 rfl) ?_
                  refine lv_iload hx hb dX5_trace_51 (lv_at hl 0 rfl) ?_
                  refine call_vv B hA hW (92) (by omega) hM2.1 (r := _) rfl rfl (k_M_fillBasis l G n ad w2 (nI (sH σ)) (rlI (sR σ)) hM2.1 hn hM2.2.2.2.2.2.2.2.2.2.1 hM2.2.2.2.2.2.2.2.1 hM2.2.2.2.2.2.2.2.2.1 k t h12.1 hk hk2 h12.2 hM2.2.2.2.2.2.2.2.2.2.2.2.2.1) mf_X5_fillBasis hw_519 rfl ⟨⟨rfl, rfl⟩, by decide, by decide⟩ ⟨Nat.zero_le _, Nat.zero_le _⟩ hl.1 rfl (Nat.le_of_ble_eq_true rfl) dX5_trace_53 (fun w5 H locs hp hW => ?_)
                  obtain ⟨fr5, fb, eb, vb⟩ := hp
                  have hM5 : MOK G ad w5 σ := hM2.s48 (k := 104) (by decide) ⟨fb, eb⟩ fr5
                  refine lv_iconst (v := nI 0) hx hb dX5_trace_56 (by decide) ?_
                  refine lv_istore (lv' := [(7, .int (nI (0))), (6, .int (nI (t))), (4, .long (lN (trS k p9 c9 t))), (0, .ref (ad (92))), (1, .int (nI (k))), (2, .int (nI (p9))), (3, .int (nI (c9)))]) hx hb dX5_trace_57 hl (by decide) rfl (fun ls hl => ?_)
                  obtain ⟨f0, x0⟩ := hM5.2.2.2.2.2.2.2.2.2.2.2.2.2.2.1
                  refine z_up (Wg := fun H locs ls => W p l e (zr 5) s m args below meth c H locs 0 0 _ (F0 m 59 ls [])) (I := fun q H locs ls => ∃ (w2 : Nat → va_E) (f : Nat → Int64), Wo G A s.heap n ad w2 H locs ∧ lv_has ls 8 [(7, .int (nI q)), (6, .int (nI (t))), (4, .long (lN (trS k p9 c9 t))), (0, .ref (ad (92))), (1, .int (nI (k))), (2, .int (nI (p9))), (3, .int (nI (c9)))] ∧ (∀ j, j ≠ 106 → w2 j = w5 j) ∧ w2 106 = eL G 48 f ∧ (∀ j, j < q → f j = lN (bas k t j))) (a := 0) (b := 48) (Nat.zero_le _) ?_ ?_ H locs ls ⟨w5, f0, hW, hl, fun _ _ => rfl, x0, fun j h => by omega⟩
                  · rintro q - hq ih H locs ls ⟨w2, f, hW, hl, h1, h2, h3⟩
                    have e92b := (h1 92 (by decide)).trans hM5.1
                    have e104b := (h1 104 (by decide)).trans eb
                    refine lv_iload hx hb dX5_trace_59 (lv_at hl 0 rfl) ?_
                    refine lv_bipush (v := nI 48) hx hb dX5_trace_61 (by decide) ?_
                    refine n_icmp_ge (tgt := 86) hx hb (by omega) (by omega) dX5_trace_63 (by decide) (fun hc2 => ?_) (fun hc2 => ?_)
                    · omega
                    · refine lv_aload_n hx hb dX5_trace_66 rfl (lv_at hl 3 rfl) ?_
                      refine z_get B hW (92) (by omega) e92b rfl inX5 14 (by decide) hw_389 rfl (v := .ref (ad (106))) rfl dX5_trace_67 ?_
                      refine lv_iload hx hb dX5_trace_70 (lv_at hl 0 rfl) ?_
                      refine lv_aload_n hx hb dX5_trace_72 rfl (lv_at hl 3 rfl) ?_
                      refine z_get B hW (92) (by omega) e92b rfl inX5 12 (by decide) hw_387 rfl (v := .ref (ad (104))) rfl dX5_trace_73 ?_
                      refine lv_iload hx hb dX5_trace_76 (lv_at hl 0 rfl) ?_
                      refine z_lald B hW (104) (by omega) e104b (q) (by omega) (by decide) (v := (lN (bas k t q))) (vb _ hq) dX5_trace_78 ?_
                      refine z_last B hW (106) (by omega) h2 (q) (by omega) (by decide) dX5_trace_79 (fun H locs hW => ?_)
                      refine lv_iinc (v := (nI (q + 1))) (lv' := [(7, .int (nI (q + 1))), (6, .int (nI (t))), (4, .long (lN (trS k p9 c9 t))), (0, .ref (ad (92))), (1, .int (nI (k))), (2, .int (nI (p9))), (3, .int (nI (c9)))]) hx hb dX5_trace_80 hl (k := 0) rfl (iinc1 _) (by decide) rfl (fun ls hl => ?_)
                      refine lv_goto (tgt := 59) hx hb dX5_trace_83 (by decide) ?_
                      refine ih H locs ls ⟨_, _, hW, hl, fun j hj => by rw [up_n hj]; exact h1 j hj, up_s, fun j hj => ?_⟩
                      · by_cases z : j = q
                        · rw [z, pk_uLs]
                        · rw [pk_uLn z]; exact h3 j (by omega)
                  · rintro H locs ls ⟨w6, f, hW, hl, h1, h2, h3⟩
                    have hMo : MOK G ad w6 σ := hM5.s48 (k := 106) (by decide) ⟨f, h2⟩ h1
                    obtain ⟨-, -, -, ⟨f95o, m95o, v95o⟩, -⟩ := id hMo
                    refine lv_iload hx hb dX5_trace_59 (lv_at hl 0 rfl) ?_
                    refine lv_bipush (v := nI 48) hx hb dX5_trace_61 (by decide) ?_
                    refine n_icmp_ge (tgt := 86) hx hb (by omega) (by omega) dX5_trace_63 (by decide) (fun hc2 => ?_) (fun hc2 => ?_)
                    · have hM6 := hMo
                      have fr6 := h1
                      have LL : isL G w6 106 48 (bas k t) := ⟨f, h2, h3⟩
                      refine lv_aload_n hx hb dX5_trace_86 rfl (lv_at hl 3 rfl) ?_
                      refine lv_iload_n hx hb dX5_trace_87 rfl (lv_at hl 4 rfl) ?_
                      refine lv_iload_n hx hb dX5_trace_88 rfl (lv_at hl 5 rfl) ?_
                      refine call_vv B hA hW (92) (by omega) hMo.1 (r := _) rfl rfl (k_M_doesTo l G n ad w6 (nI (sH σ)) (rlI (sR σ)) hM6.1 hn hM6.2.2.2.2.2.2.2.2.2.1 hM6.2.2.2.2.2.2.2.1 hM6.2.2.2.2.2.2.2.2.1 (k) p9 (bas k t) hk (by omega) hk2 (isP_rng hp9).1 (isP_rng hp9).2 LL (bas_red k t).s hM6.2.2.2.2.2.2.2.2.2.2.1 hM6.2.2.2.2.2.2.2.2.2.2.2.1 hM6.2.2.2.2.2.2.2.2.2.2.2.2.1 hM6.2.2.2.2.2.2.2.2.2.2.2.2.2.1) mf_X5_doesTo hw_534 rfl ⟨⟨rfl, rfl⟩, by decide, by decide⟩ ⟨Nat.zero_le _, Nat.zero_le _⟩ hl.1 rfl (Nat.le_of_ble_eq_true rfl) dX5_trace_89 (fun w7 H locs hp hW => ?_)
                      obtain ⟨fr7, h27, h37, h47, p7, x7, v7⟩ := hp
                      have hM7 : MOK G ad w7 σ := hM6.doe fr7 h27 h37 h47 ⟨_, x7⟩
                      obtain ⟨m92_7, ⟨f93_7, m93_7, v93_7⟩, ⟨f94_7, m94_7, v94_7⟩, ⟨f95_7, m95_7, v95_7⟩, ⟨f96_7, m96_7, v96_7⟩, ⟨f97_7, m97_7, v97_7⟩, mE2_7, mE4_7, mE6_7, mD_7, m102_7, m103_7, m104_7, m105_7, m106_7, m107_7, m108_7, ⟨f109_7, m109_7, v109_7⟩, m110_7⟩ := id hM7
                      have hpl := prt_lt (b := bas k) (imgS_lt k p9 (bas k t) t)
                      have htr : trS k p9 c9 (t + 1) = trS k p9 c9 t + prt (bas k) (imgS k p9 (bas k t)) t := by show trS k p9 c9 t + (if c9 ≤ t then prt (bas k) (imgS k p9 (bas k t)) t else 0) = _; rw [if_pos ht1]
                      refine lv_lload hx hb dX5_trace_92 (lv_at hl 2 rfl) ?_
                      refine lv_aload_n hx hb dX5_trace_94 rfl (lv_at hl 3 rfl) ?_
                      refine z_get B hW (92) (by omega) m92_7 rfl inX5 13 (by decide) hw_388 rfl (v := .ref (ad (105))) rfl dX5_trace_95 ?_
                      refine lv_iload hx hb dX5_trace_98 (lv_at hl 1 rfl) ?_
                      refine z_lald B hW (105) (by omega) x7 (t) (by omega) (by decide) (v := (lN (prt (bas k) (imgS k p9 (bas k t)) t))) (v7 _ ht) dX5_trace_100 ?_
                      refine n_ladd hx hb dX5_trace_101 ?_
                      refine topl (y := (lN (trS k p9 c9 (t + 1)))) (by rw [htr]) ?_
                      refine lv_lstore (lv' := [(4, .long (lN (trS k p9 c9 (t + 1)))), (7, .int (nI (48))), (6, .int (nI (t))), (0, .ref (ad (92))), (1, .int (nI (k))), (2, .int (nI (p9))), (3, .int (nI (c9)))]) hx hb dX5_trace_102 hl (by decide) rfl (fun ls hl => ?_)
                      refine lv_iinc (v := (nI (t + 1))) (lv' := [(6, .int (nI (t + 1))), (4, .long (lN (trS k p9 c9 (t + 1)))), (7, .int (nI (48))), (0, .ref (ad (92))), (1, .int (nI (k))), (2, .int (nI (p9))), (3, .int (nI (c9)))]) hx hb dX5_trace_104 hl (k := 2) rfl (iinc1 _) (by decide) rfl (fun ls hl => ?_)
                      refine lv_goto (tgt := 40) hx hb dX5_trace_107 (by decide) ?_
                      exact ih H locs ls ⟨w7, hW, lv_sub hl [0, 1, 3, 4, 5, 6] rfl, by omega, hM7, fun j hj => (((fr7 j (by omega) (by omega) (by omega) (by omega)).trans (fr6 j (by omega))).trans (fr5 j (by omega))).trans (hfr j hj)⟩
                    · omega
              · rintro H locs ls ⟨w2, hW, hl, hb9, hM2, hfr⟩
                refine lv_iload hx hb dX5_trace_40 (lv_at hl 0 rfl) ?_
                refine lv_iload_n hx hb dX5_trace_42 rfl (lv_at hl 3 rfl) ?_
                refine call_si B hA hW (k_M_sizeOf l G n ad w2 k hk hk2) mf_X5_sizeOf hw_513 rfl ⟨⟨rfl, rfl⟩, by decide, by decide⟩ ⟨Nat.zero_le _, Nat.zero_le _⟩ hl.1 rfl (Nat.le_of_ble_eq_true rfl) dX5_trace_43 (fun r w9 H locs hp hW => ?_)
                obtain ⟨e1, e2⟩ := hp
                rw [e1] at hW
                subst e2
                refine n_icmp_ge (tgt := 110) hx hb (by omega) (by omega) dX5_trace_46 (by decide) (fun hc => ?_) (fun hc => ?_)
                · refine lv_lload hx hb dX5_trace_110 (lv_at hl 1 rfl) ?_
                  refine n_ldc2 B hw_372 (x := lN 1000003) (by decide) dX5_trace_112 ?_
                  refine n_lrem hx hb (by omega) (by omega) (by omega) dX5_trace_115 ?_
                  refine n_l2i hx hb dX5_trace_116 ?_
                  exact ret_i B hr hlk hW ⟨rfl, hM2, hfr⟩ dX5_trace_117
                · omega
            · refine lv_iconst (v := nI 1) hx hb dX5_trace_33 (by decide) ?_
              refine lv_goto (tgt := 38) hx hb dX5_trace_34 (by decide) ?_
              refine topi (y := (nI (c9))) (by congr 1; omega) ?_
              refine lv_istore (lv' := [(6, .int (nI (c9))), (4, .long (lN (0))), (0, .ref (ad (92))), (1, .int (nI (k))), (2, .int (nI (p9))), (3, .int (nI (c9)))]) hx hb dX5_trace_38 hl (by decide) rfl (fun ls hl => ?_)
              refine z_up (Wg := fun H locs ls => W p l e (zr 5) s m args below meth c H locs 0 0 _ (F0 m 40 ls [])) (I := fun t H locs ls => ∃ w2 : Nat → va_E, Wo G A s.heap n ad w2 H locs ∧ lv_has ls 8 [(6, .int (nI t)), (4, .long (lN (trS k p9 c9 t))), (0, .ref (ad 92)), (1, .int (nI k)), (2, .int (nI p9)), (3, .int (nI c9))] ∧ trS k p9 c9 t ≤ t * 1000003 ∧ MOK G ad w2 σ ∧ ∀ j, j < 92 → w2 j = w j) (a := c9) (b := zs k) hz0 ?_ ?_ H locs ls ⟨w, hW, (by rw [show trS k p9 c9 c9 = 0 by rcases (show c9 = 0 ∨ c9 = 1 by omega) with rfl | rfl <;> rfl]; exact hl), (by rw [show trS k p9 c9 c9 = 0 by rcases (show c9 = 0 ∨ c9 = 1 by omega) with rfl | rfl <;> rfl]; exact Nat.zero_le _), hM, fun _ _ => rfl⟩
              · rintro t ht1 ht ih H locs ls ⟨w2, hW, hl, hb9, hM2, hfr⟩
                have h12 := zs_i12 k hk hk2 t ht
                refine lv_iload hx hb dX5_trace_40 (lv_at hl 0 rfl) ?_
                refine lv_iload_n hx hb dX5_trace_42 rfl (lv_at hl 3 rfl) ?_
                refine call_si B hA hW (k_M_sizeOf l G n ad w2 k hk hk2) mf_X5_sizeOf hw_513 rfl ⟨⟨rfl, rfl⟩, by decide, by decide⟩ ⟨Nat.zero_le _, Nat.zero_le _⟩ hl.1 rfl (Nat.le_of_ble_eq_true rfl) dX5_trace_43 (fun r w9 H locs hp hW => ?_)
                obtain ⟨e1, e2⟩ := hp
                rw [e1] at hW
                subst e2
                refine n_icmp_ge (tgt := 110) hx hb (by omega) (by omega) dX5_trace_46 (by decide) (fun hc => ?_) (fun hc => ?_)
                · omega
                · refine lv_aload_n hx hb dX5_trace_49 rfl (lv_at hl 2 rfl) ?_
                  refine lv_iload_n hx hb dX5_trace_50 rfl (lv_at hl 3 rfl) ?_
                  refine lv_iload hx hb dX5_trace_51 (lv_at hl 0 rfl) ?_
                  refine call_vv B hA hW (92) (by omega) hM2.1 (r := _) rfl rfl (k_M_fillBasis l G n ad w2 (nI (sH σ)) (rlI (sR σ)) hM2.1 hn hM2.2.2.2.2.2.2.2.2.2.1 hM2.2.2.2.2.2.2.2.1 hM2.2.2.2.2.2.2.2.2.1 k t h12.1 hk hk2 h12.2 hM2.2.2.2.2.2.2.2.2.2.2.2.2.1) mf_X5_fillBasis hw_519 rfl ⟨⟨rfl, rfl⟩, by decide, by decide⟩ ⟨Nat.zero_le _, Nat.zero_le _⟩ hl.1 rfl (Nat.le_of_ble_eq_true rfl) dX5_trace_53 (fun w5 H locs hp hW => ?_)
                  obtain ⟨fr5, fb, eb, vb⟩ := hp
                  have hM5 : MOK G ad w5 σ := hM2.s48 (k := 104) (by decide) ⟨fb, eb⟩ fr5
                  refine lv_iconst (v := nI 0) hx hb dX5_trace_56 (by decide) ?_
                  refine lv_istore (lv' := [(7, .int (nI (0))), (6, .int (nI (t))), (4, .long (lN (trS k p9 c9 t))), (0, .ref (ad (92))), (1, .int (nI (k))), (2, .int (nI (p9))), (3, .int (nI (c9)))]) hx hb dX5_trace_57 hl (by decide) rfl (fun ls hl => ?_)
                  obtain ⟨f0, x0⟩ := hM5.2.2.2.2.2.2.2.2.2.2.2.2.2.2.1
                  refine z_up (Wg := fun H locs ls => W p l e (zr 5) s m args below meth c H locs 0 0 _ (F0 m 59 ls [])) (I := fun q H locs ls => ∃ (w2 : Nat → va_E) (f : Nat → Int64), Wo G A s.heap n ad w2 H locs ∧ lv_has ls 8 [(7, .int (nI q)), (6, .int (nI (t))), (4, .long (lN (trS k p9 c9 t))), (0, .ref (ad (92))), (1, .int (nI (k))), (2, .int (nI (p9))), (3, .int (nI (c9)))] ∧ (∀ j, j ≠ 106 → w2 j = w5 j) ∧ w2 106 = eL G 48 f ∧ (∀ j, j < q → f j = lN (bas k t j))) (a := 0) (b := 48) (Nat.zero_le _) ?_ ?_ H locs ls ⟨w5, f0, hW, hl, fun _ _ => rfl, x0, fun j h => by omega⟩
                  · rintro q - hq ih H locs ls ⟨w2, f, hW, hl, h1, h2, h3⟩
                    have e92b := (h1 92 (by decide)).trans hM5.1
                    have e104b := (h1 104 (by decide)).trans eb
                    refine lv_iload hx hb dX5_trace_59 (lv_at hl 0 rfl) ?_
                    refine lv_bipush (v := nI 48) hx hb dX5_trace_61 (by decide) ?_
                    refine n_icmp_ge (tgt := 86) hx hb (by omega) (by omega) dX5_trace_63 (by decide) (fun hc2 => ?_) (fun hc2 => ?_)
                    · omega
                    · refine lv_aload_n hx hb dX5_trace_66 rfl (lv_at hl 3 rfl) ?_
                      refine z_get B hW (92) (by omega) e92b rfl inX5 14 (by decide) hw_389 rfl (v := .ref (ad (106))) rfl dX5_trace_67 ?_
                      refine lv_iload hx hb dX5_trace_70 (lv_at hl 0 rfl) ?_
                      refine lv_aload_n hx hb dX5_trace_72 rfl (lv_at hl 3 rfl) ?_
                      refine z_get B hW (92) (by omega) e92b rfl inX5 12 (by decide) hw_387 rfl (v := .ref (ad (104))) rfl dX5_trace_73 ?_
                      refine lv_iload hx hb dX5_trace_76 (lv_at hl 0 rfl) ?_
                      refine z_lald B hW (104) (by omega) e104b (q) (by omega) (by decide) (v := (lN (bas k t q))) (vb _ hq) dX5_trace_78 ?_
                      refine z_last B hW (106) (by omega) h2 (q) (by omega) (by decide) dX5_trace_79 (fun H locs hW => ?_)
                      refine lv_iinc (v := (nI (q + 1))) (lv' := [(7, .int (nI (q + 1))), (6, .int (nI (t))), (4, .long (lN (trS k p9 c9 t))), (0, .ref (ad (92))), (1, .int (nI (k))), (2, .int (nI (p9))), (3, .int (nI (c9)))]) hx hb dX5_trace_80 hl (k := 0) rfl (iinc1 _) (by decide) rfl (fun ls hl => ?_)
                      refine lv_goto (tgt := 59) hx hb dX5_trace_83 (by decide) ?_
                      refine ih H locs ls ⟨_, _, hW, hl, fun j hj => by rw [up_n hj]; exact h1 j hj, up_s, fun j hj => ?_⟩
                      · by_cases z : j = q
                        · rw [z, pk_uLs]
                        · rw [pk_uLn z]; exact h3 j (by omega)
                  · rintro H locs ls ⟨w6, f, hW, hl, h1, h2, h3⟩
                    have hMo : MOK G ad w6 σ := hM5.s48 (k := 106) (by decide) ⟨f, h2⟩ h1
                    obtain ⟨-, -, -, ⟨f95o, m95o, v95o⟩, -⟩ := id hMo
                    refine lv_iload hx hb dX5_trace_59 (lv_at hl 0 rfl) ?_
                    refine lv_bipush (v := nI 48) hx hb dX5_trace_61 (by decide) ?_
                    refine n_icmp_ge (tgt := 86) hx hb (by omega) (by omega) dX5_trace_63 (by decide) (fun hc2 => ?_) (fun hc2 => ?_)
                    · have hM6 := hMo
                      have fr6 := h1
                      have LL : isL G w6 106 48 (bas k t) := ⟨f, h2, h3⟩
                      refine lv_aload_n hx hb dX5_trace_86 rfl (lv_at hl 3 rfl) ?_
                      refine lv_iload_n hx hb dX5_trace_87 rfl (lv_at hl 4 rfl) ?_
                      refine lv_iload_n hx hb dX5_trace_88 rfl (lv_at hl 5 rfl) ?_
                      refine call_vv B hA hW (92) (by omega) hMo.1 (r := _) rfl rfl (k_M_doesTo l G n ad w6 (nI (sH σ)) (rlI (sR σ)) hM6.1 hn hM6.2.2.2.2.2.2.2.2.2.1 hM6.2.2.2.2.2.2.2.1 hM6.2.2.2.2.2.2.2.2.1 (k) p9 (bas k t) hk (by omega) hk2 (isP_rng hp9).1 (isP_rng hp9).2 LL (bas_red k t).s hM6.2.2.2.2.2.2.2.2.2.2.1 hM6.2.2.2.2.2.2.2.2.2.2.2.1 hM6.2.2.2.2.2.2.2.2.2.2.2.2.1 hM6.2.2.2.2.2.2.2.2.2.2.2.2.2.1) mf_X5_doesTo hw_534 rfl ⟨⟨rfl, rfl⟩, by decide, by decide⟩ ⟨Nat.zero_le _, Nat.zero_le _⟩ hl.1 rfl (Nat.le_of_ble_eq_true rfl) dX5_trace_89 (fun w7 H locs hp hW => ?_)
                      obtain ⟨fr7, h27, h37, h47, p7, x7, v7⟩ := hp
                      have hM7 : MOK G ad w7 σ := hM6.doe fr7 h27 h37 h47 ⟨_, x7⟩
                      obtain ⟨m92_7, ⟨f93_7, m93_7, v93_7⟩, ⟨f94_7, m94_7, v94_7⟩, ⟨f95_7, m95_7, v95_7⟩, ⟨f96_7, m96_7, v96_7⟩, ⟨f97_7, m97_7, v97_7⟩, mE2_7, mE4_7, mE6_7, mD_7, m102_7, m103_7, m104_7, m105_7, m106_7, m107_7, m108_7, ⟨f109_7, m109_7, v109_7⟩, m110_7⟩ := id hM7
                      have hpl := prt_lt (b := bas k) (imgS_lt k p9 (bas k t) t)
                      have htr : trS k p9 c9 (t + 1) = trS k p9 c9 t + prt (bas k) (imgS k p9 (bas k t)) t := by show trS k p9 c9 t + (if c9 ≤ t then prt (bas k) (imgS k p9 (bas k t)) t else 0) = _; rw [if_pos ht1]
                      refine lv_lload hx hb dX5_trace_92 (lv_at hl 2 rfl) ?_
                      refine lv_aload_n hx hb dX5_trace_94 rfl (lv_at hl 3 rfl) ?_
                      refine z_get B hW (92) (by omega) m92_7 rfl inX5 13 (by decide) hw_388 rfl (v := .ref (ad (105))) rfl dX5_trace_95 ?_
                      refine lv_iload hx hb dX5_trace_98 (lv_at hl 1 rfl) ?_
                      refine z_lald B hW (105) (by omega) x7 (t) (by omega) (by decide) (v := (lN (prt (bas k) (imgS k p9 (bas k t)) t))) (v7 _ ht) dX5_trace_100 ?_
                      refine n_ladd hx hb dX5_trace_101 ?_
                      refine topl (y := (lN (trS k p9 c9 (t + 1)))) (by rw [htr]) ?_
                      refine lv_lstore (lv' := [(4, .long (lN (trS k p9 c9 (t + 1)))), (7, .int (nI (48))), (6, .int (nI (t))), (0, .ref (ad (92))), (1, .int (nI (k))), (2, .int (nI (p9))), (3, .int (nI (c9)))]) hx hb dX5_trace_102 hl (by decide) rfl (fun ls hl => ?_)
                      refine lv_iinc (v := (nI (t + 1))) (lv' := [(6, .int (nI (t + 1))), (4, .long (lN (trS k p9 c9 (t + 1)))), (7, .int (nI (48))), (0, .ref (ad (92))), (1, .int (nI (k))), (2, .int (nI (p9))), (3, .int (nI (c9)))]) hx hb dX5_trace_104 hl (k := 2) rfl (iinc1 _) (by decide) rfl (fun ls hl => ?_)
                      refine lv_goto (tgt := 40) hx hb dX5_trace_107 (by decide) ?_
                      exact ih H locs ls ⟨w7, hW, lv_sub hl [0, 1, 3, 4, 5, 6] rfl, by omega, hM7, fun j hj => (((fr7 j (by omega) (by omega) (by omega) (by omega)).trans (fr6 j (by omega))).trans (fr5 j (by omega))).trans (hfr j hj)⟩
                    · omega
              · rintro H locs ls ⟨w2, hW, hl, hb9, hM2, hfr⟩
                refine lv_iload hx hb dX5_trace_40 (lv_at hl 0 rfl) ?_
                refine lv_iload_n hx hb dX5_trace_42 rfl (lv_at hl 3 rfl) ?_
                refine call_si B hA hW (k_M_sizeOf l G n ad w2 k hk hk2) mf_X5_sizeOf hw_513 rfl ⟨⟨rfl, rfl⟩, by decide, by decide⟩ ⟨Nat.zero_le _, Nat.zero_le _⟩ hl.1 rfl (Nat.le_of_ble_eq_true rfl) dX5_trace_43 (fun r w9 H locs hp hW => ?_)
                obtain ⟨e1, e2⟩ := hp
                rw [e1] at hW
                subst e2
                refine n_icmp_ge (tgt := 110) hx hb (by omega) (by omega) dX5_trace_46 (by decide) (fun hc => ?_) (fun hc => ?_)
                · refine lv_lload hx hb dX5_trace_110 (lv_at hl 1 rfl) ?_
                  refine n_ldc2 B hw_372 (x := lN 1000003) (by decide) dX5_trace_112 ?_
                  refine n_lrem hx hb (by omega) (by omega) (by omega) dX5_trace_115 ?_
                  refine n_l2i hx hb dX5_trace_116 ?_
                  exact ret_i B hr hlk hW ⟨rfl, hM2, hfr⟩ dX5_trace_117
                · omega
          · exact absurd hz (by decide)
        · refine n_if_ne (tgt := 26) hx hb (by omega) dX5_trace_16 (by decide) (fun hz => ?_) (fun hz => ?_)
          · exact absurd rfl hz
          · refine lv_aload_n hx hb dX5_trace_19 rfl (lv_at hl 0 rfl) ?_
            refine lv_bipush (v := -7) hx hb dX5_trace_20 (by decide) ?_
            refine call_vi B hA hW (92) (by omega) m92 (r := _) rfl rfl (k_M_no l G n ad w hn σ hM (-7) 7 (by decide) (by decide) (by decide)) mf_X5_no hw_449 rfl ⟨⟨rfl, rfl⟩, by decide, by decide⟩ ⟨Nat.zero_le _, Nat.zero_le _⟩ hl.1 rfl (Nat.le_of_ble_eq_true rfl) dX5_trace_22 (fun r w9 H locs hp hW => ?_)
            exact ret_i B hr hlk hW (by rw [show st_trace σ (nI k) y c9 = ref σ 7 by unfold st_trace; rw [cif_f (fun q => hnp q.2.2)]]; exact hp) dX5_trace_25
  · refine n_if_eq (tgt := 19) hx hb (by omega) dX5_trace_4 (by decide) (fun hz => ?_) (fun hz => ?_)
    · refine lv_aload_n hx hb dX5_trace_19 rfl (lv_at hl 0 rfl) ?_
      refine lv_bipush (v := -7) hx hb dX5_trace_20 (by decide) ?_
      refine call_vi B hA hW (92) (by omega) m92 (r := _) rfl rfl (k_M_no l G n ad w hn σ hM (-7) 7 (by decide) (by decide) (by decide)) mf_X5_no hw_449 rfl ⟨⟨rfl, rfl⟩, by decide, by decide⟩ ⟨Nat.zero_le _, Nat.zero_le _⟩ hl.1 rfl (Nat.le_of_ble_eq_true rfl) dX5_trace_22 (fun r w9 H locs hp hW => ?_)
      exact ret_i B hr hlk hW (by rw [show st_trace σ x y c9 = ref σ 7 by unfold st_trace; rw [cif_f (fun q => hnf q.1)]]; exact hp) dX5_trace_25
    · exact absurd rfl hz
set_option maxHeartbeats 4000000 in
set_option maxRecDepth 100000 in
theorem k_X5_tear (l : Launch) (G : zG) (n : Nat) (ad : Nat → Nat) (w : Nat → va_E) (hn : 111 ≤ n) (σ : zS) (hM : MOK G ad w σ) (hs : SOK σ)  :
    Ci l G yX5_tear cdX5_tear (zr 5) n ad w [.ref (ad (92))] (postM G ad w (st_tear σ)) := by
  obtain ⟨m92, ⟨f93, m93, v93⟩, ⟨f94, m94, v94⟩, ⟨f95, m95, v95⟩, ⟨f96, m96, v96⟩, ⟨f97, m97, v97⟩, mE2, mE4, mE6, mD, m102, m103, m104, m105, m106, m107, m108, ⟨f109, m109, v109⟩, m110⟩ := id hM
  have hsh := hs.1
  refine ent_i (cc := cX5_tear) (maxL := 2) (ret := (some .int)) (by decide +kernel) rfl (Nat.le_of_ble_eq_true rfl) ?_
  intro p e s m args below meth c A B hr hlk hA H locs ls hW hl
  have hx := B.1
  have hb := B.2.1
  have hl : lv_has ls 2 [(0, .ref (ad (92)))] := hl
  rcases hR : sR σ with _ | m9
  · have x0r : w 92 = mO ad (nI (sH σ)) (-1) := by rw [m92, hR]; rfl
    refine lv_aload_n hx hb dX5_tear_0 rfl (lv_at hl 0 rfl) ?_
    refine z_get B hW (92) (by omega) x0r rfl inX5 19 (by decide) hw_394 rfl (v := .int (-1)) rfl dX5_tear_1 ?_
    refine lv_if_lt (tgt := 11) hx hb dX5_tear_4 (by decide) (fun hz => ?_) (fun hz => ?_)
    · refine lv_iconst (v := nI 0) hx hb dX5_tear_11 (by decide) ?_
      refine lv_istore_n (lv' := [(1, .int (nI (0))), (0, .ref (ad (92)))]) hx hb dX5_tear_12 rfl hl (by decide) rfl (fun ls hl => ?_)
      refine lv_aload_n hx hb dX5_tear_13 rfl (lv_at hl 1 rfl) ?_
      refine lv_iconst (v := -1) hx hb dX5_tear_14 (by decide) ?_
      refine z_put B hW (92) (by omega) x0r rfl inX5 tyX5 tyX5_ok nmX5 19 (by decide) hw_394 rfl rfl (v := .int (-1)) rfl rfl (Nat.le_of_ble_eq_true rfl) dX5_tear_15 (fun H locs hW => ?_)
      obtain ⟨w6, hw6⟩ : ∃ w6, w6 = va_up w 92 (mO ad (nI (sH σ)) (-1)) := ⟨_, rfl⟩
      have hW : Wo G A s.heap n ad w6 H locs := by rw [hw6]; exact hW
      have K : ∀ j, j ≠ 92 → w6 j = w j := fun j hj => by rw [hw6, up_n hj]
      refine lv_iload_n hx hb dX5_tear_18 rfl (lv_at hl 0 rfl) ?_
      refine ret_i B hr hlk hW ⟨by unfold st_tear; rw [cif_t hR], ?_, fun j hj => K j (by omega)⟩ dX5_tear_19
      refine ⟨by rw [hw6, up_s]; rfl, ⟨f93, (K 93 (by decide)).trans m93, v93⟩, ⟨f94, (K 94 (by decide)).trans m94, v94⟩, ⟨f95, (K 95 (by decide)).trans m95, v95⟩, ⟨f96, (K 96 (by decide)).trans m96, v96⟩, ⟨f97, (K 97 (by decide)).trans m97, v97⟩, isL_of mE2 (K 98 (by decide)), isL_of mE4 (K 99 (by decide)), isL_of mE6 (K 100 (by decide)), isL_of mD (K 101 (by decide)), by rw [K 102 (by decide)]; exact m102, by rw [K 103 (by decide)]; exact m103, by rw [K 104 (by decide)]; exact m104, by rw [K 105 (by decide)]; exact m105, by rw [K 106 (by decide)]; exact m106, by rw [K 107 (by decide)]; exact m107, by rw [K 108 (by decide)]; exact m108, ⟨f109, (K 109 (by decide)).trans m109, fun i hi => absurd hi (Nat.not_lt_zero i)⟩, by rw [K 110 (by decide)]; exact m110⟩
    · exact absurd (by decide) hz
  · have x0r : w 92 = mO ad (nI (sH σ)) (nI m9) := by rw [m92, hR]; rfl
    obtain ⟨hm48, hmv⟩ := hs.2.2 m9 hR
    have v109r : ∀ i, i < m9 → f109 i = nI (sV σ i) := fun i hi => v109 i (by rw [hR]; exact hi)
    have hgd : (sR σ).getD 0 = m9 := by rw [hR]; rfl
    have hnn : ¬ sR σ = none := by rw [hR]; exact fun q => by cases q
    refine lv_aload_n hx hb dX5_tear_0 rfl (lv_at hl 0 rfl) ?_
    refine z_get B hW (92) (by omega) x0r rfl inX5 19 (by decide) hw_394 rfl (v := .int (nI (m9))) rfl dX5_tear_1 ?_
    refine n_if_lt (tgt := 11) hx hb (by omega) dX5_tear_4 (by decide) ?_
    refine lv_iconst (v := nI 1) hx hb dX5_tear_7 (by decide) ?_
    refine lv_goto (tgt := 12) hx hb dX5_tear_8 (by decide) ?_
    refine lv_istore_n (lv' := [(1, .int (nI (1))), (0, .ref (ad (92)))]) hx hb dX5_tear_12 rfl hl (by decide) rfl (fun ls hl => ?_)
    refine lv_aload_n hx hb dX5_tear_13 rfl (lv_at hl 1 rfl) ?_
    refine lv_iconst (v := -1) hx hb dX5_tear_14 (by decide) ?_
    refine z_put B hW (92) (by omega) x0r rfl inX5 tyX5 tyX5_ok nmX5 19 (by decide) hw_394 rfl rfl (v := .int (-1)) rfl rfl (Nat.le_of_ble_eq_true rfl) dX5_tear_15 (fun H locs hW => ?_)
    obtain ⟨w6, hw6⟩ : ∃ w6, w6 = va_up w 92 (mO ad (nI (sH σ)) (-1)) := ⟨_, rfl⟩
    have hW : Wo G A s.heap n ad w6 H locs := by rw [hw6]; exact hW
    have K : ∀ j, j ≠ 92 → w6 j = w j := fun j hj => by rw [hw6, up_n hj]
    refine lv_iload_n hx hb dX5_tear_18 rfl (lv_at hl 0 rfl) ?_
    refine ret_i B hr hlk hW ⟨by unfold st_tear; rw [cif_f hnn], ?_, fun j hj => K j (by omega)⟩ dX5_tear_19
    refine ⟨by rw [hw6, up_s]; rfl, ⟨f93, (K 93 (by decide)).trans m93, v93⟩, ⟨f94, (K 94 (by decide)).trans m94, v94⟩, ⟨f95, (K 95 (by decide)).trans m95, v95⟩, ⟨f96, (K 96 (by decide)).trans m96, v96⟩, ⟨f97, (K 97 (by decide)).trans m97, v97⟩, isL_of mE2 (K 98 (by decide)), isL_of mE4 (K 99 (by decide)), isL_of mE6 (K 100 (by decide)), isL_of mD (K 101 (by decide)), by rw [K 102 (by decide)]; exact m102, by rw [K 103 (by decide)]; exact m103, by rw [K 104 (by decide)]; exact m104, by rw [K 105 (by decide)]; exact m105, by rw [K 106 (by decide)]; exact m106, by rw [K 107 (by decide)]; exact m107, by rw [K 108 (by decide)]; exact m108, ⟨f109, (K 109 (by decide)).trans m109, fun i hi => absurd hi (Nat.not_lt_zero i)⟩, by rw [K 110 (by decide)]; exact m110⟩
set_option maxHeartbeats 4000000 in
set_option maxRecDepth 100000 in
theorem k_X5_row (l : Launch) (G : zG) (n : Nat) (ad : Nat → Nat) (w : Nat → va_E) (hn : 111 ≤ n) (σ : zS) (hM : MOK G ad w σ) (hs : SOK σ) (x : Int32) :
    Ci l G yX5_row cdX5_row (zr 5) n ad w [.ref (ad (92)), .int (x)] (postM G ad w (st_row σ x)) := by
  obtain ⟨m92, ⟨f93, m93, v93⟩, ⟨f94, m94, v94⟩, ⟨f95, m95, v95⟩, ⟨f96, m96, v96⟩, ⟨f97, m97, v97⟩, mE2, mE4, mE6, mD, m102, m103, m104, m105, m106, m107, m108, ⟨f109, m109, v109⟩, m110⟩ := id hM
  have hsh := hs.1
  refine ent_i (cc := cX5_row) (maxL := 2) (ret := (some .int)) (by decide +kernel) rfl (Nat.le_of_ble_eq_true rfl) ?_
  intro p e s m args below meth c A B hr hlk hA H locs ls hW hl
  have hx := B.1
  have hb := B.2.1
  have hl : lv_has ls 2 [(0, .ref (ad (92))), (1, .int (x))] := hl
  have hxr := rngI x
  rcases hR : sR σ with _ | m9
  · have x0r : w 92 = mO ad (nI (sH σ)) (-1) := by rw [m92, hR]; rfl
    refine lv_aload_n hx hb dX5_row_0 rfl (lv_at hl 0 rfl) ?_
    refine z_get B hW (92) (by omega) x0r rfl inX5 19 (by decide) hw_394 rfl (v := .int (-1)) rfl dX5_row_1 ?_
    refine lv_if_ge (tgt := 14) hx hb dX5_row_4 (by decide) (fun hz => ?_) (fun hz => ?_)
    · exact absurd hz (by decide)
    · refine lv_aload_n hx hb dX5_row_7 rfl (lv_at hl 0 rfl) ?_
      refine lv_bipush (v := -2) hx hb dX5_row_8 (by decide) ?_
      refine call_vi B hA hW (92) (by omega) x0r (r := _) rfl rfl (k_M_no l G n ad w hn σ hM (-2) 2 (by decide) (by decide) (by decide)) mf_X5_no hw_449 rfl ⟨⟨rfl, rfl⟩, by decide, by decide⟩ ⟨Nat.zero_le _, Nat.zero_le _⟩ hl.1 rfl (Nat.le_of_ble_eq_true rfl) dX5_row_10 (fun r w9 H locs hp hW => ?_)
      exact ret_i B hr hlk hW (by rw [show st_row σ x = ref σ 2 by unfold st_row; rw [cif_t hR]]; exact hp) dX5_row_13
  · have x0r : w 92 = mO ad (nI (sH σ)) (nI m9) := by rw [m92, hR]; rfl
    obtain ⟨hm48, hmv⟩ := hs.2.2 m9 hR
    have v109r : ∀ i, i < m9 → f109 i = nI (sV σ i) := fun i hi => v109 i (by rw [hR]; exact hi)
    have hgd : (sR σ).getD 0 = m9 := by rw [hR]; rfl
    have hnn : ¬ sR σ = none := by rw [hR]; exact fun q => by cases q
    refine lv_aload_n hx hb dX5_row_0 rfl (lv_at hl 0 rfl) ?_
    refine z_get B hW (92) (by omega) x0r rfl inX5 19 (by decide) hw_394 rfl (v := .int (nI (m9))) rfl dX5_row_1 ?_
    refine n_if_ge (tgt := 14) hx hb (by omega) dX5_row_4 (by decide) ?_
    have hS : st_row σ x = cif (isF m9 x) (nI (sV σ (cN x)), σ) (ref σ 3) := by unfold st_row; rw [cif_f hnn, hgd]
    rw [hS]
    refine lv_iload_n hx hb dX5_row_14 rfl (lv_at hl 1 rfl) ?_
    refine r_i2l hx hb dX5_row_15 ?_
    refine lv_lconst (v := lZ 0) hx hb dX5_row_16 (by decide) ?_
    refine lv_aload_n hx hb dX5_row_17 rfl (lv_at hl 0 rfl) ?_
    refine z_get B hW (92) (by omega) x0r rfl inX5 19 (by decide) hw_394 rfl (v := .int (nI (m9))) rfl dX5_row_18 ?_
    refine lv_iconst (v := nI 1) hx hb dX5_row_21 (by decide) ?_
    refine lv_isub hx hb dX5_row_22 ?_
    refine topi (y := (iZ (((m9 : Nat) : Int) - 1))) (by rw [nI_Z, nI_Z, iZ_sub]; rfl) ?_
    refine z_i2l hx hb (by omega) (by omega) dX5_row_23 ?_
    refine call_si B hA hW (k_M_isIn l G n ad w x.toInt 0 (((m9 : Nat) : Int) - 1) (by omega) (by omega) (by omega) (by omega) (by omega) (by omega)) mf_X5_isIn hw_462 rfl ⟨⟨rfl, rfl⟩, by decide, by decide⟩ ⟨Nat.zero_le _, Nat.zero_le _⟩ hl.1 rfl (Nat.le_of_ble_eq_true rfl) dX5_row_24 (fun r w9 H locs hp hW => ?_)
    obtain ⟨e1, hp⟩ := hp
    rw [e1] at hW
    rcases hp with ⟨q1, q2, rfl⟩ | ⟨hnin, rfl⟩
    · refine n_if_eq (tgt := 39) hx hb (by omega) dX5_row_27 (by decide) (fun hz => ?_) (fun hz => ?_)
      · exact absurd hz (by decide)
      · obtain ⟨q9, hq9, rfl⟩ := nI_of (x := x) (fun z => by rw [Int32.lt_iff_toInt_lt] at z; have e0 : (0 : Int32).toInt = 0 := rfl; omega)
        rw [nI_toInt hq9] at q1 q2
        refine lv_aload_n hx hb dX5_row_30 rfl (lv_at hl 0 rfl) ?_
        refine z_get B hW (92) (by omega) x0r rfl inX5 17 (by decide) hw_392 rfl (v := .ref (ad (109))) rfl dX5_row_31 ?_
        refine lv_iload_n hx hb dX5_row_34 rfl (lv_at hl 1 rfl) ?_
        refine z_iald B hW (109) (by omega) m109 (q9) (by omega) (by decide) (v := (nI (sV σ (q9)))) (v109r _ (by omega)) dX5_row_35 ?_
        refine lv_goto (tgt := 45) hx hb dX5_row_36 (by decide) ?_
        exact ret_i B hr hlk hW (by rw [cif_t ⟨q9, by omega, rfl⟩, cN_nI hq9]; exact ⟨rfl, hM, fun _ _ => rfl⟩) dX5_row_45
    · refine n_if_eq (tgt := 39) hx hb (by omega) dX5_row_27 (by decide) (fun hz => ?_) (fun hz => ?_)
      · refine lv_aload_n hx hb dX5_row_39 rfl (lv_at hl 0 rfl) ?_
        refine lv_bipush (v := -3) hx hb dX5_row_40 (by decide) ?_
        refine call_vi B hA hW (92) (by omega) x0r (r := _) rfl rfl (k_M_no l G n ad w hn σ hM (-3) 3 (by decide) (by decide) (by decide)) mf_X5_no hw_449 rfl ⟨⟨rfl, rfl⟩, by decide, by decide⟩ ⟨Nat.zero_le _, Nat.zero_le _⟩ hl.1 rfl (Nat.le_of_ble_eq_true rfl) dX5_row_42 (fun r w9 H locs hp hW => ?_)
        exact ret_i B hr hlk hW (by rw [cif_f (fun q => hnin ((isF_rng (by omega)).mp q))]; exact hp) dX5_row_45
      · exact absurd rfl hz
set_option maxHeartbeats 4000000 in
set_option maxRecDepth 100000 in
theorem k_X5_tell (l : Launch) (G : zG) (n : Nat) (ad : Nat → Nat) (w : Nat → va_E) (hn : 111 ≤ n) (σ : zS) (hM : MOK G ad w σ) (hs : SOK σ) (x y : Int32) :
    Ci l G yX5_tell cdX5_tell (zr 5) n ad w [.ref (ad (92)), .int (x), .int (y)] (postM G ad w (st_tell σ x y)) := by
  obtain ⟨m92, ⟨f93, m93, v93⟩, ⟨f94, m94, v94⟩, ⟨f95, m95, v95⟩, ⟨f96, m96, v96⟩, ⟨f97, m97, v97⟩, mE2, mE4, mE6, mD, m102, m103, m104, m105, m106, m107, m108, ⟨f109, m109, v109⟩, m110⟩ := id hM
  have hsh := hs.1
  refine ent_i (cc := cX5_tell) (maxL := 4) (ret := (some .int)) (by decide +kernel) rfl (Nat.le_of_ble_eq_true rfl) ?_
  intro p e s m args below meth c A B hr hlk hA H locs ls hW hl
  have hx := B.1
  have hb := B.2.1
  have hl : lv_has ls 4 [(0, .ref (ad (92))), (1, .int (x)), (2, .int (y))] := hl
  have hxr := rngI x
  rcases hR : sR σ with _ | m9
  · have x0r : w 92 = mO ad (nI (sH σ)) (-1) := by rw [m92, hR]; rfl
    refine lv_aload_n hx hb dX5_tell_0 rfl (lv_at hl 0 rfl) ?_
    refine z_get B hW (92) (by omega) x0r rfl inX5 19 (by decide) hw_394 rfl (v := .int (-1)) rfl dX5_tell_1 ?_
    refine lv_if_ge (tgt := 14) hx hb dX5_tell_4 (by decide) (fun hz => ?_) (fun hz => ?_)
    · exact absurd hz (by decide)
    · refine lv_aload_n hx hb dX5_tell_7 rfl (lv_at hl 0 rfl) ?_
      refine lv_bipush (v := -2) hx hb dX5_tell_8 (by decide) ?_
      refine call_vi B hA hW (92) (by omega) x0r (r := _) rfl rfl (k_M_no l G n ad w hn σ hM (-2) 2 (by decide) (by decide) (by decide)) mf_X5_no hw_449 rfl ⟨⟨rfl, rfl⟩, by decide, by decide⟩ ⟨Nat.zero_le _, Nat.zero_le _⟩ hl.1 rfl (Nat.le_of_ble_eq_true rfl) dX5_tell_10 (fun r w9 H locs hp hW => ?_)
      exact ret_i B hr hlk hW (by rw [show st_tell σ x y = ref σ 2 by unfold st_tell; rw [cif_t hR]]; exact hp) dX5_tell_13
  · have x0r : w 92 = mO ad (nI (sH σ)) (nI m9) := by rw [m92, hR]; rfl
    obtain ⟨hm48, hmv⟩ := hs.2.2 m9 hR
    have v109r : ∀ i, i < m9 → f109 i = nI (sV σ i) := fun i hi => v109 i (by rw [hR]; exact hi)
    have hgd : (sR σ).getD 0 = m9 := by rw [hR]; rfl
    have hnn : ¬ sR σ = none := by rw [hR]; exact fun q => by cases q
    refine lv_aload_n hx hb dX5_tell_0 rfl (lv_at hl 0 rfl) ?_
    refine z_get B hW (92) (by omega) x0r rfl inX5 19 (by decide) hw_394 rfl (v := .int (nI (m9))) rfl dX5_tell_1 ?_
    refine n_if_ge (tgt := 14) hx hb (by omega) dX5_tell_4 (by decide) ?_
    have hS : st_tell σ x y = cif (isF m9 x) (cif (sV σ (cN x) = zm y.toInt) (nI 0) (nI 1), sH σ, sW σ, sK σ, sT σ, sE σ, sF σ, sR σ, va_up (sV σ) (cN x) (zm y.toInt)) (ref σ 3) := by unfold st_tell; rw [cif_f hnn, hgd]
    rw [hS]
    refine lv_iload_n hx hb dX5_tell_14 rfl (lv_at hl 1 rfl) ?_
    refine r_i2l hx hb dX5_tell_15 ?_
    refine lv_lconst (v := lZ 0) hx hb dX5_tell_16 (by decide) ?_
    refine lv_aload_n hx hb dX5_tell_17 rfl (lv_at hl 0 rfl) ?_
    refine z_get B hW (92) (by omega) x0r rfl inX5 19 (by decide) hw_394 rfl (v := .int (nI (m9))) rfl dX5_tell_18 ?_
    refine lv_iconst (v := nI 1) hx hb dX5_tell_21 (by decide) ?_
    refine lv_isub hx hb dX5_tell_22 ?_
    refine topi (y := (iZ (((m9 : Nat) : Int) - 1))) (by rw [nI_Z, nI_Z, iZ_sub]; rfl) ?_
    refine z_i2l hx hb (by omega) (by omega) dX5_tell_23 ?_
    refine call_si B hA hW (k_M_isIn l G n ad w x.toInt 0 (((m9 : Nat) : Int) - 1) (by omega) (by omega) (by omega) (by omega) (by omega) (by omega)) mf_X5_isIn hw_462 rfl ⟨⟨rfl, rfl⟩, by decide, by decide⟩ ⟨Nat.zero_le _, Nat.zero_le _⟩ hl.1 rfl (Nat.le_of_ble_eq_true rfl) dX5_tell_24 (fun r w9 H locs hp hW => ?_)
    obtain ⟨e1, hp⟩ := hp
    rw [e1] at hW
    rcases hp with ⟨q1, q2, rfl⟩ | ⟨hnin, rfl⟩
    · refine n_if_ne (tgt := 37) hx hb (by omega) dX5_tell_27 (by decide) (fun hz => ?_) (fun hz => ?_)
      · obtain ⟨q9, hq9, rfl⟩ := nI_of (x := x) (fun z => by rw [Int32.lt_iff_toInt_lt] at z; have e0 : (0 : Int32).toInt = 0 := rfl; omega)
        rw [nI_toInt hq9] at q1 q2
        rw [cif_t ⟨q9, by omega, rfl⟩, cN_nI hq9]
        have hvl := hmv q9 (by omega)
        have hzl := zm_lt y.toInt
        refine lv_aload_n hx hb dX5_tell_37 rfl (lv_at hl 0 rfl) ?_
        refine z_get B hW (92) (by omega) x0r rfl inX5 17 (by decide) hw_392 rfl (v := .ref (ad (109))) rfl dX5_tell_38 ?_
        refine lv_iload_n hx hb dX5_tell_41 rfl (lv_at hl 1 rfl) ?_
        refine z_iald B hW (109) (by omega) m109 (q9) (by omega) (by decide) (v := (nI (sV σ (q9)))) (v109r _ (by omega)) dX5_tell_42 ?_
        refine lv_istore_n (lv' := [(3, .int (nI (sV σ (q9)))), (0, .ref (ad (92))), (1, .int (nI (q9))), (2, .int (y))]) hx hb dX5_tell_43 rfl hl (by decide) rfl (fun ls hl => ?_)
        refine lv_aload_n hx hb dX5_tell_44 rfl (lv_at hl 1 rfl) ?_
        refine z_get B hW (92) (by omega) x0r rfl inX5 17 (by decide) hw_392 rfl (v := .ref (ad (109))) rfl dX5_tell_45 ?_
        refine lv_iload_n hx hb dX5_tell_48 rfl (lv_at hl 2 rfl) ?_
        refine lv_iload_n hx hb dX5_tell_49 rfl (lv_at hl 3 rfl) ?_
        refine call_sl B hA hW (k_M_rest l G n ad w y) mf_X5_rest hw_477 rfl ⟨⟨rfl, rfl⟩, by decide, by decide⟩ ⟨Nat.zero_le _, Nat.zero_le _⟩ hl.1 rfl (Nat.le_of_ble_eq_true rfl) dX5_tell_50 (fun r w9 H locs hp hW => ?_)
        obtain ⟨e1, e2⟩ := hp
        rw [e1] at hW
        subst e2
        refine n_l2i hx hb dX5_tell_53 ?_
        refine z_iast B hW (109) (by omega) m109 (q9) (by omega) (by decide) dX5_tell_54 (fun H locs hW => ?_)
        obtain ⟨w6, hw6⟩ : ∃ w6, w6 = va_up w 109 (eI G 48 (upd f109 q9 (nI (zm y.toInt)))) := ⟨_, rfl⟩
        rw [← hw6] at hW
        have K : ∀ j, j ≠ 109 → w6 j = w j := fun j hj => by rw [hw6, up_n hj]
        have e109 : w6 109 = eI G 48 (upd f109 q9 (nI (zm y.toInt))) := by rw [hw6, up_s]
        have e92c := (K 92 (by decide)).trans x0r
        have hM2 : MOK G ad w6 (sH σ, sW σ, sK σ, sT σ, sE σ, sF σ, sR σ, va_up (sV σ) q9 (zm y.toInt)) := by
          refine ⟨(K 92 (by decide)).trans m92, ⟨f93, (K 93 (by decide)).trans m93, v93⟩, ⟨f94, (K 94 (by decide)).trans m94, v94⟩, ⟨f95, (K 95 (by decide)).trans m95, v95⟩, ⟨f96, (K 96 (by decide)).trans m96, v96⟩, ⟨f97, (K 97 (by decide)).trans m97, v97⟩, isL_of mE2 (K 98 (by decide)), isL_of mE4 (K 99 (by decide)), isL_of mE6 (K 100 (by decide)), isL_of mD (K 101 (by decide)), by rw [K 102 (by decide)]; exact m102, by rw [K 103 (by decide)]; exact m103, by rw [K 104 (by decide)]; exact m104, by rw [K 105 (by decide)]; exact m105, by rw [K 106 (by decide)]; exact m106, by rw [K 107 (by decide)]; exact m107, by rw [K 108 (by decide)]; exact m108, ⟨_, e109, fun i hi => ?_⟩, by rw [K 110 (by decide)]; exact m110⟩
          show upd f109 q9 (nI (zm y.toInt)) i = nI (va_up (sV σ) q9 (zm y.toInt) i)
          by_cases z : i = q9
          · subst z; rw [pk_us, up_s]
          · rw [pk_un z, up_n z]; exact v109 i hi
        refine lv_iload_n hx hb dX5_tell_55 rfl (lv_at hl 0 rfl) ?_
        refine lv_aload_n hx hb dX5_tell_56 rfl (lv_at hl 1 rfl) ?_
        refine z_get B hW (92) (by omega) e92c rfl inX5 17 (by decide) hw_392 rfl (v := .ref (ad (109))) rfl dX5_tell_57 ?_
        refine lv_iload_n hx hb dX5_tell_60 rfl (lv_at hl 2 rfl) ?_
        refine z_iald B hW (109) (by omega) e109 (q9) (by omega) (by decide) (v := (nI (zm y.toInt))) pk_us dX5_tell_61 ?_
        refine n_icmp_eq (tgt := 69) hx hb (by omega) (by omega) dX5_tell_62 (by decide) (fun he => ?_) (fun he => ?_)
        · refine lv_iconst (v := nI 0) hx hb dX5_tell_69 (by decide) ?_
          exact ret_i B hr hlk hW ⟨by rw [cif_t he], hM2, fun j hj => K j (by omega)⟩ dX5_tell_70
        · refine lv_iconst (v := nI 1) hx hb dX5_tell_65 (by decide) ?_
          refine lv_goto (tgt := 70) hx hb dX5_tell_66 (by decide) ?_
          exact ret_i B hr hlk hW ⟨by rw [cif_f he], hM2, fun j hj => K j (by omega)⟩ dX5_tell_70
      · exact absurd hz (by decide)
    · refine n_if_ne (tgt := 37) hx hb (by omega) dX5_tell_27 (by decide) (fun hz => ?_) (fun hz => ?_)
      · exact absurd rfl hz
      · refine lv_aload_n hx hb dX5_tell_30 rfl (lv_at hl 0 rfl) ?_
        refine lv_bipush (v := -3) hx hb dX5_tell_31 (by decide) ?_
        refine call_vi B hA hW (92) (by omega) x0r (r := _) rfl rfl (k_M_no l G n ad w hn σ hM (-3) 3 (by decide) (by decide) (by decide)) mf_X5_no hw_449 rfl ⟨⟨rfl, rfl⟩, by decide, by decide⟩ ⟨Nat.zero_le _, Nat.zero_le _⟩ hl.1 rfl (Nat.le_of_ble_eq_true rfl) dX5_tell_33 (fun r w9 H locs hp hW => ?_)
        exact ret_i B hr hlk hW (by rw [cif_f (fun q => hnin ((isF_rng (by omega)).mp q))]; exact hp) dX5_tell_36
set_option maxHeartbeats 4000000 in
set_option maxRecDepth 100000 in
theorem k_X5_lay (l : Launch) (G : zG) (n : Nat) (ad : Nat → Nat) (w : Nat → va_E) (hn : 111 ≤ n) (σ : zS) (hM : MOK G ad w σ) (hs : SOK σ) (f x : Int32) :
    Ci l G yX5_lay cdX5_lay (zr 5) n ad w [.ref (ad (92)), .int (f), .int (x)] (postM G ad w (st_lay σ f x)) := by
  obtain ⟨m92, ⟨f93, m93, v93⟩, ⟨f94, m94, v94⟩, ⟨f95, m95, v95⟩, ⟨f96, m96, v96⟩, ⟨f97, m97, v97⟩, mE2, mE4, mE6, mD, m102, m103, m104, m105, m106, m107, m108, ⟨f109, m109, v109⟩, m110⟩ := id hM
  have hsh := hs.1
  refine ent_i (cc := cX5_lay) (maxL := 4) (ret := (some .int)) (by decide +kernel) rfl (Nat.le_of_ble_eq_true rfl) ?_
  intro p e s m args below meth c A B hr hlk hA H locs ls hW hl
  have hx := B.1
  have hb := B.2.1
  have hl : lv_has ls 4 [(0, .ref (ad (92))), (1, .int (f)), (2, .int (x))] := hl
  refine lv_aload_n hx hb dX5_lay_0 rfl (lv_at hl 0 rfl) ?_
  refine lv_iload_n hx hb dX5_lay_1 rfl (lv_at hl 1 rfl) ?_
  refine call_vi B hA hW (92) (by omega) m92 (r := _) rfl rfl (k_M_isForm l G n ad w hn σ hM hs f) mf_X5_isForm hw_473 rfl ⟨⟨rfl, rfl⟩, by decide, by decide⟩ ⟨Nat.zero_le _, Nat.zero_le _⟩ hl.1 rfl (Nat.le_of_ble_eq_true rfl) dX5_lay_2 (fun r w9 H locs hp hW => ?_)
  obtain ⟨e1, hp⟩ := hp
  rw [e1] at hW
  rcases hp with ⟨i, hi, rfl, rfl⟩ | ⟨hnf, rfl⟩
  · obtain ⟨w40_i, w2_i, k4_i, t40_i, r_i, s_i⟩ := hs.2.1 i hi
    have h16_i : i < 16 := by omega
    refine n_if_ne (tgt := 15) hx hb (by omega) dX5_lay_5 (by decide) (fun hz => ?_) (fun hz => ?_)
    · refine lv_iload_n hx hb dX5_lay_15 rfl (lv_at hl 2 rfl) ?_
      refine lv_if_ge (tgt := 26) hx hb dX5_lay_16 (by decide) (fun hc => ?_) (fun hc => ?_)
      · have hnl : ¬ x < 0 := Int32.not_lt.mpr hc
        obtain ⟨t9, ht9, rfl⟩ := nI_of hnl
        refine lv_iload_n hx hb dX5_lay_26 rfl (lv_at hl 2 rfl) ?_
        refine lv_bipush (v := nI 48) hx hb dX5_lay_27 (by decide) ?_
        refine n_icmp_le (tgt := 39) hx hb (by omega) (by omega) dX5_lay_29 (by decide) (fun hd => ?_) (fun hd => ?_)
        · have hS : st_lay σ (nI i) (nI t9) = (nI t9, sH σ, sW σ, sK σ, sT σ, sE σ, sF σ, some t9, sE σ i) := by
            unfold st_lay
            rw [cif_t ⟨i, hi, rfl⟩, cif_f hnl, cN_nI ht9, cif_f (by omega), cN_nI (by omega)]
          rw [hS]
          refine lv_aload_n hx hb dX5_lay_39 rfl (lv_at hl 0 rfl) ?_
          refine lv_iload_n hx hb dX5_lay_40 rfl (lv_at hl 2 rfl) ?_
          refine z_put B hW (92) (by omega) m92 rfl inX5 tyX5 tyX5_ok nmX5 19 (by decide) hw_394 rfl rfl (v := .int (nI (t9))) rfl rfl (Nat.le_of_ble_eq_true rfl) dX5_lay_41 (fun H locs hW => ?_)
          obtain ⟨w6, hw6⟩ : ∃ w6, w6 = va_up w 92 (mO ad (nI (sH σ)) (nI t9)) := ⟨_, rfl⟩
          have hW : Wo G A s.heap n ad w6 H locs := by rw [hw6]; exact hW
          have K6 : ∀ j, j ≠ 92 → w6 j = w j := fun j hj => by rw [hw6, up_n hj]
          have e92c : w6 92 = mO ad (nI (sH σ)) (nI t9) := by rw [hw6, up_s]
          refine lv_iconst (v := nI 0) hx hb dX5_lay_44 (by decide) ?_
          refine lv_istore_n (lv' := [(3, .int (nI (0))), (0, .ref (ad (92))), (1, .int (nI (i))), (2, .int (nI (t9)))]) hx hb dX5_lay_45 rfl hl (by decide) rfl (fun ls hl => ?_)
          refine z_up (Wg := fun H locs ls => W p l e (zr 5) s m args below meth c H locs 0 0 _ (F0 m 46 ls [])) (I := fun q H locs ls => ∃ (w2 : Nat → va_E) (f : Nat → Int32), Wo G A s.heap n ad w2 H locs ∧ lv_has ls 4 [(3, .int (nI q)), (0, .ref (ad 92)), (1, .int (nI i)), (2, .int (nI t9))] ∧ (∀ j, j ≠ 109 → w2 j = w6 j) ∧ w2 109 = eI G 48 f ∧ (∀ j, j < q → f j = nI (sE σ i j))) (a := 0) (b := t9) (Nat.zero_le _) ?_ ?_ H locs ls ⟨w6, f109, hW, hl, fun _ _ => rfl, (K6 109 (by decide)).trans m109, fun j h => by omega⟩
          · rintro q - hq ih H locs ls ⟨w2, f, hW, hl, h1, h2, h3⟩
            have e92b := (h1 92 (by decide)).trans e92c
            have e93b := ((h1 93 (by decide)).trans (K6 93 (by decide))).trans m93
            refine lv_iload_n hx hb dX5_lay_46 rfl (lv_at hl 0 rfl) ?_
            refine lv_iload_n hx hb dX5_lay_47 rfl (lv_at hl 3 rfl) ?_
            refine n_icmp_ge (tgt := 75) hx hb (by omega) (by omega) dX5_lay_48 (by decide) (fun he => ?_) (fun he => ?_)
            · omega
            · refine lv_aload_n hx hb dX5_lay_51 rfl (lv_at hl 1 rfl) ?_
              refine z_get B hW (92) (by omega) e92b rfl inX5 17 (by decide) hw_392 rfl (v := .ref (ad (109))) rfl dX5_lay_52 ?_
              refine lv_iload_n hx hb dX5_lay_55 rfl (lv_at hl 0 rfl) ?_
              refine lv_aload_n hx hb dX5_lay_56 rfl (lv_at hl 1 rfl) ?_
              refine z_get B hW (92) (by omega) e92b rfl inX5 0 (by decide) hw_375 rfl (v := .ref (ad (93))) rfl dX5_lay_57 ?_
              refine lv_bipush (v := nI 48) hx hb dX5_lay_60 (by decide) ?_
              refine lv_iload_n hx hb dX5_lay_62 rfl (lv_at hl 2 rfl) ?_
              refine n_imul hx hb dX5_lay_63 ?_
              refine lv_iload_n hx hb dX5_lay_64 rfl (lv_at hl 0 rfl) ?_
              refine n_iadd hx hb dX5_lay_65 ?_
              refine z_lald B hW (93) (by omega) e93b ((48 * i) + q) (by omega) (by decide) (v := (lN (sE σ i q))) (v93 _ hi _ (by omega)) dX5_lay_66 ?_
              refine n_l2i hx hb dX5_lay_67 ?_
              refine z_iast B hW (109) (by omega) h2 (q) (by omega) (by decide) dX5_lay_68 (fun H locs hW => ?_)
              refine lv_iinc (v := (nI (q + 1))) (lv' := [(3, .int (nI (q + 1))), (0, .ref (ad (92))), (1, .int (nI (i))), (2, .int (nI (t9)))]) hx hb dX5_lay_69 hl (k := 0) rfl (iinc1 _) (by decide) rfl (fun ls hl => ?_)
              refine lv_goto (tgt := 46) hx hb dX5_lay_72 (by decide) ?_
              refine ih H locs ls ⟨_, _, hW, hl, fun j hj => by rw [up_n hj]; exact h1 j hj, up_s, fun j hj => ?_⟩
              by_cases z : j = q
              · rw [z, pk_us]
              · rw [pk_un z]; exact h3 j (by omega)
          · rintro H locs ls ⟨w2, f, hW, hl, h1, h2, h3⟩
            refine lv_iload_n hx hb dX5_lay_46 rfl (lv_at hl 0 rfl) ?_
            refine lv_iload_n hx hb dX5_lay_47 rfl (lv_at hl 3 rfl) ?_
            refine n_icmp_ge (tgt := 75) hx hb (by omega) (by omega) dX5_lay_48 (by decide) (fun he => ?_) (fun he => ?_)
            · refine lv_iload_n hx hb dX5_lay_75 rfl (lv_at hl 3 rfl) ?_
              have K : ∀ j, j ≠ 92 → j ≠ 109 → w2 j = w j := fun j q1 q2 => (h1 j q2).trans (K6 j q1)
              refine ret_i B hr hlk hW ⟨rfl, ?_, fun j hj => K j (by omega) (by omega)⟩ dX5_lay_76
              refine ⟨((h1 92 (by decide)).trans e92c), ⟨f93, (K 93 (by decide) (by decide)).trans m93, v93⟩, ⟨f94, (K 94 (by decide) (by decide)).trans m94, v94⟩, ⟨f95, (K 95 (by decide) (by decide)).trans m95, v95⟩, ⟨f96, (K 96 (by decide) (by decide)).trans m96, v96⟩, ⟨f97, (K 97 (by decide) (by decide)).trans m97, v97⟩, isL_of mE2 (K 98 (by decide) (by decide)), isL_of mE4 (K 99 (by decide) (by decide)), isL_of mE6 (K 100 (by decide) (by decide)), isL_of mD (K 101 (by decide) (by decide)), by rw [K 102 (by decide) (by decide)]; exact m102, by rw [K 103 (by decide) (by decide)]; exact m103, by rw [K 104 (by decide) (by decide)]; exact m104, by rw [K 105 (by decide) (by decide)]; exact m105, by rw [K 106 (by decide) (by decide)]; exact m106, by rw [K 107 (by decide) (by decide)]; exact m107, by rw [K 108 (by decide) (by decide)]; exact m108, ⟨f, h2, h3⟩, by rw [K 110 (by decide) (by decide)]; exact m110⟩
            · omega
        · refine lv_aload_n hx hb dX5_lay_32 rfl (lv_at hl 0 rfl) ?_
          refine lv_bipush (v := -7) hx hb dX5_lay_33 (by decide) ?_
          refine call_vi B hA hW (92) (by omega) m92 (r := _) rfl rfl (k_M_no l G n ad w hn σ hM (-7) 7 (by decide) (by decide) (by decide)) mf_X5_no hw_449 rfl ⟨⟨rfl, rfl⟩, by decide, by decide⟩ ⟨Nat.zero_le _, Nat.zero_le _⟩ hl.1 rfl (Nat.le_of_ble_eq_true rfl) dX5_lay_35 (fun r w9 H locs hp hW => ?_)
          exact ret_i B hr hlk hW (by rw [show st_lay σ (nI i) (nI t9) = ref σ 7 by unfold st_lay; rw [cif_t ⟨i, hi, rfl⟩, cif_f hnl, cN_nI ht9, cif_t (by omega)]]; exact hp) dX5_lay_38
      · refine lv_aload_n hx hb dX5_lay_19 rfl (lv_at hl 0 rfl) ?_
        refine lv_bipush (v := -4) hx hb dX5_lay_20 (by decide) ?_
        refine call_vi B hA hW (92) (by omega) m92 (r := _) rfl rfl (k_M_no l G n ad w hn σ hM (-4) 4 (by decide) (by decide) (by decide)) mf_X5_no hw_449 rfl ⟨⟨rfl, rfl⟩, by decide, by decide⟩ ⟨Nat.zero_le _, Nat.zero_le _⟩ hl.1 rfl (Nat.le_of_ble_eq_true rfl) dX5_lay_22 (fun r w9 H locs hp hW => ?_)
        exact ret_i B hr hlk hW (by rw [show st_lay σ (nI i) x = ref σ 4 by unfold st_lay; rw [cif_t ⟨i, hi, rfl⟩, cif_t (Int32.not_le.mp hc)]]; exact hp) dX5_lay_25
    · exact absurd hz (by decide)
  · refine n_if_ne (tgt := 15) hx hb (by omega) dX5_lay_5 (by decide) (fun hz => ?_) (fun hz => ?_)
    · exact absurd rfl hz
    · refine lv_aload_n hx hb dX5_lay_8 rfl (lv_at hl 0 rfl) ?_
      refine lv_bipush (v := -3) hx hb dX5_lay_9 (by decide) ?_
      refine call_vi B hA hW (92) (by omega) m92 (r := _) rfl rfl (k_M_no l G n ad w hn σ hM (-3) 3 (by decide) (by decide) (by decide)) mf_X5_no hw_449 rfl ⟨⟨rfl, rfl⟩, by decide, by decide⟩ ⟨Nat.zero_le _, Nat.zero_le _⟩ hl.1 rfl (Nat.le_of_ble_eq_true rfl) dX5_lay_11 (fun r w9 H locs hp hW => ?_)
      exact ret_i B hr hlk hW (by rw [show st_lay σ f x = ref σ 3 by unfold st_lay; rw [cif_f hnf]]; exact hp) dX5_lay_14
set_option maxHeartbeats 4000000 in
set_option maxRecDepth 100000 in
theorem k_X5_give (l : Launch) (G : zG) (n : Nat) (ad : Nat → Nat) (w : Nat → va_E) (hn : 111 ≤ n) (σ : zS) (hM : MOK G ad w σ) (hs : SOK σ) (x : Int32) :
    Ci l G yX5_give cdX5_give (zr 5) n ad w [.ref (ad (92)), .int (x)] (postM G ad w (st_give σ x)) := by
  obtain ⟨m92, ⟨f93, m93, v93⟩, ⟨f94, m94, v94⟩, ⟨f95, m95, v95⟩, ⟨f96, m96, v96⟩, ⟨f97, m97, v97⟩, mE2, mE4, mE6, mD, m102, m103, m104, m105, m106, m107, m108, ⟨f109, m109, v109⟩, m110⟩ := id hM
  have hsh := hs.1
  refine ent_i (cc := cX5_give) (maxL := 3) (ret := (some .int)) (by decide +kernel) rfl (Nat.le_of_ble_eq_true rfl) ?_
  intro p e s m args below meth c A B hr hlk hA H locs ls hW hl
  have hx := B.1
  have hb := B.2.1
  have hl : lv_has ls 3 [(0, .ref (ad (92))), (1, .int (x))] := hl
  rcases hR : sR σ with _ | m9
  · have x0r : w 92 = mO ad (nI (sH σ)) (-1) := by rw [m92, hR]; rfl
    refine lv_aload_n hx hb dX5_give_0 rfl (lv_at hl 0 rfl) ?_
    refine z_get B hW (92) (by omega) x0r rfl inX5 19 (by decide) hw_394 rfl (v := .int (-1)) rfl dX5_give_1 ?_
    refine lv_if_ge (tgt := 14) hx hb dX5_give_4 (by decide) (fun hz => ?_) (fun hz => ?_)
    · exact absurd hz (by decide)
    · refine lv_aload_n hx hb dX5_give_7 rfl (lv_at hl 0 rfl) ?_
      refine lv_bipush (v := -2) hx hb dX5_give_8 (by decide) ?_
      refine call_vi B hA hW (92) (by omega) x0r (r := _) rfl rfl (k_M_no l G n ad w hn σ hM (-2) 2 (by decide) (by decide) (by decide)) mf_X5_no hw_449 rfl ⟨⟨rfl, rfl⟩, by decide, by decide⟩ ⟨Nat.zero_le _, Nat.zero_le _⟩ hl.1 rfl (Nat.le_of_ble_eq_true rfl) dX5_give_10 (fun r w9 H locs hp hW => ?_)
      exact ret_i B hr hlk hW (by rw [show st_give σ x = ref σ 2 by unfold st_give; rw [cif_t hR]]; exact hp) dX5_give_13
  · have x0r : w 92 = mO ad (nI (sH σ)) (nI m9) := by rw [m92, hR]; rfl
    obtain ⟨hm48, hmv⟩ := hs.2.2 m9 hR
    have v109r : ∀ i, i < m9 → f109 i = nI (sV σ i) := fun i hi => v109 i (by rw [hR]; exact hi)
    have hgd : (sR σ).getD 0 = m9 := by rw [hR]; rfl
    have hnn : ¬ sR σ = none := by rw [hR]; exact fun q => by cases q
    refine lv_aload_n hx hb dX5_give_0 rfl (lv_at hl 0 rfl) ?_
    refine z_get B hW (92) (by omega) x0r rfl inX5 19 (by decide) hw_394 rfl (v := .int (nI (m9))) rfl dX5_give_1 ?_
    refine n_if_ge (tgt := 14) hx hb (by omega) dX5_give_4 (by decide) ?_
    have hS : st_give σ x = cif (isW x ∧ zs (cN x) ≤ m9) (comeO σ (cN x) (bld (bas (cN x)) (zs (cN x)) (prt (bas (cN x)) (sV σ)))) (ref σ 7) := by unfold st_give; rw [cif_f hnn, hgd]
    rw [hS]
    refine lv_iload_n hx hb dX5_give_14 rfl (lv_at hl 1 rfl) ?_
    refine call_si B hA hW (k_M_isWeight l G n ad w x) mf_X5_isWeight hw_542 rfl ⟨⟨rfl, rfl⟩, by decide, by decide⟩ ⟨Nat.zero_le _, Nat.zero_le _⟩ hl.1 rfl (Nat.le_of_ble_eq_true rfl) dX5_give_15 (fun r w9 H locs hp hW => ?_)
    obtain ⟨e1, hp⟩ := hp
    rw [e1] at hW
    rcases hp with ⟨k, hk, hk2, rfl, rfl⟩ | ⟨hnf, rfl⟩
    · rw [cN_nI (show k < 2 ^ 31 by omega)]
      have hzl := zs_le k hk
      refine n_if_eq (tgt := 32) hx hb (by omega) dX5_give_18 (by decide) (fun hz2 => ?_) (fun hz2 => ?_)
      · exact absurd hz2 (by decide)
      · refine lv_aload_n hx hb dX5_give_21 rfl (lv_at hl 0 rfl) ?_
        refine z_get B hW (92) (by omega) x0r rfl inX5 19 (by decide) hw_394 rfl (v := .int (nI (m9))) rfl dX5_give_22 ?_
        refine lv_iload_n hx hb dX5_give_25 rfl (lv_at hl 1 rfl) ?_
        refine call_si B hA hW (k_M_sizeOf l G n ad w k hk hk2) mf_X5_sizeOf hw_513 rfl ⟨⟨rfl, rfl⟩, by decide, by decide⟩ ⟨Nat.zero_le _, Nat.zero_le _⟩ hl.1 rfl (Nat.le_of_ble_eq_true rfl) dX5_give_26 (fun r w9 H locs hp hW => ?_)
        obtain ⟨e1, e2⟩ := hp
        rw [e1] at hW
        subst e2
        refine n_icmp_ge (tgt := 39) hx hb (by omega) (by omega) dX5_give_29 (by decide) (fun hd => ?_) (fun hd => ?_)
        · rw [cif_t ⟨⟨k, hk, hk2, rfl⟩, hd⟩]
          obtain ⟨f106, x106⟩ := m106
          refine lv_iconst (v := nI 0) hx hb dX5_give_39 (by decide) ?_
          refine lv_istore_n (lv' := [(2, .int (nI (0))), (0, .ref (ad (92))), (1, .int (nI (k)))]) hx hb dX5_give_40 rfl hl (by decide) rfl (fun ls hl => ?_)
          refine z_up (Wg := fun H locs ls => W p l e (zr 5) s m args below meth c H locs 0 0 _ (F0 m 41 ls [])) (I := fun q H locs ls => ∃ (w2 : Nat → va_E) (f : Nat → Int64), Wo G A s.heap n ad w2 H locs ∧ lv_has ls 3 [(2, .int (nI q)), (0, .ref (ad 92)), (1, .int (nI k))] ∧ (∀ j, j ≠ 106 → w2 j = w j) ∧ w2 106 = eL G 48 f ∧ (∀ j, j < q → f j = lN (sV σ j))) (a := 0) (b := zs k) (Nat.zero_le _) ?_ ?_ H locs ls ⟨w, f106, hW, hl, fun _ _ => rfl, x106, fun j h => by omega⟩
          · rintro q - hq ih H locs ls ⟨w2, f, hW, hl, h1, h2, h3⟩
            have e92b := (h1 92 (by decide)).trans x0r
            have e109b := (h1 109 (by decide)).trans m109
            have hvq := hmv q (by omega)
            refine lv_iload_n hx hb dX5_give_41 rfl (lv_at hl 0 rfl) ?_
            refine lv_iload_n hx hb dX5_give_42 rfl (lv_at hl 2 rfl) ?_
            refine call_si B hA hW (k_M_sizeOf l G n ad w2 k hk hk2) mf_X5_sizeOf hw_513 rfl ⟨⟨rfl, rfl⟩, by decide, by decide⟩ ⟨Nat.zero_le _, Nat.zero_le _⟩ hl.1 rfl (Nat.le_of_ble_eq_true rfl) dX5_give_43 (fun r w9 H locs hp hW => ?_)
            obtain ⟨e1, e2⟩ := hp
            rw [e1] at hW
            subst e2
            refine n_icmp_ge (tgt := 68) hx hb (by omega) (by omega) dX5_give_46 (by decide) (fun he => ?_) (fun he => ?_)
            · omega
            · refine lv_aload_n hx hb dX5_give_49 rfl (lv_at hl 1 rfl) ?_
              refine z_get B hW (92) (by omega) e92b rfl inX5 14 (by decide) hw_389 rfl (v := .ref (ad (106))) rfl dX5_give_50 ?_
              refine lv_iload_n hx hb dX5_give_53 rfl (lv_at hl 0 rfl) ?_
              refine lv_aload_n hx hb dX5_give_54 rfl (lv_at hl 1 rfl) ?_
              refine z_get B hW (92) (by omega) e92b rfl inX5 17 (by decide) hw_392 rfl (v := .ref (ad (109))) rfl dX5_give_55 ?_
              refine lv_iload_n hx hb dX5_give_58 rfl (lv_at hl 0 rfl) ?_
              refine z_iald B hW (109) (by omega) e109b (q) (by omega) (by decide) (v := (nI (sV σ q))) (v109r _ (by omega)) dX5_give_59 ?_
              refine n_i2l hx hb (by omega) dX5_give_60 ?_
              refine z_last B hW (106) (by omega) h2 (q) (by omega) (by decide) dX5_give_61 (fun H locs hW => ?_)
              refine lv_iinc (v := (nI (q + 1))) (lv' := [(2, .int (nI (q + 1))), (0, .ref (ad (92))), (1, .int (nI (k)))]) hx hb dX5_give_62 hl (k := 0) rfl (iinc1 _) (by decide) rfl (fun ls hl => ?_)
              refine lv_goto (tgt := 41) hx hb dX5_give_65 (by decide) ?_
              refine ih H locs ls ⟨_, _, hW, hl, fun j hj => by rw [up_n hj]; exact h1 j hj, up_s, fun j hj => ?_⟩
              by_cases z : j = q
              · rw [z, pk_uLs]
              · rw [pk_uLn z]; exact h3 j (by omega)
          · rintro H locs ls ⟨w2, f, hW, hl, h1, h2, h3⟩
            have hM2 : MOK G ad w2 σ := hM.s48 (k := 106) (by decide) ⟨f, h2⟩ h1
            refine lv_iload_n hx hb dX5_give_41 rfl (lv_at hl 0 rfl) ?_
            refine lv_iload_n hx hb dX5_give_42 rfl (lv_at hl 2 rfl) ?_
            refine call_si B hA hW (k_M_sizeOf l G n ad w2 k hk hk2) mf_X5_sizeOf hw_513 rfl ⟨⟨rfl, rfl⟩, by decide, by decide⟩ ⟨Nat.zero_le _, Nat.zero_le _⟩ hl.1 rfl (Nat.le_of_ble_eq_true rfl) dX5_give_43 (fun r w9 H locs hp hW => ?_)
            obtain ⟨e1, e2⟩ := hp
            rw [e1] at hW
            subst e2
            refine n_icmp_ge (tgt := 68) hx hb (by omega) (by omega) dX5_give_46 (by decide) (fun he => ?_) (fun he => ?_)
            · refine lv_aload_n hx hb dX5_give_68 rfl (lv_at hl 1 rfl) ?_
              refine lv_aload_n hx hb dX5_give_69 rfl (lv_at hl 1 rfl) ?_
              refine z_get B hW (92) (by omega) hM2.1 rfl inX5 14 (by decide) hw_389 rfl (v := .ref (ad (106))) rfl dX5_give_70 ?_
              refine lv_iload_n hx hb dX5_give_73 rfl (lv_at hl 2 rfl) ?_
              refine call_vv B hA hW (92) (by omega) hM2.1 (r := _) rfl rfl (k_M_finds l G n ad w2 (nI (sH σ)) (rlI (sR σ)) hM2.1 hn hM2.2.2.2.2.2.2.2.2.2.1 hM2.2.2.2.2.2.2.2.1 hM2.2.2.2.2.2.2.2.2.1 106 (k) (sV σ) hk hk2 (by omega) (by decide) (by decide) (by decide) f h2 h3 (fun q hq => hmv q (by omega)) hM2.2.2.2.2.2.2.2.2.2.2.2.1 hM2.2.2.2.2.2.2.2.2.2.2.2.2.1 hM2.2.2.2.2.2.2.2.2.2.2.2.2.2.1) mf_X5_finds hw_509 rfl ⟨⟨rfl, rfl⟩, by decide, by decide⟩ ⟨Nat.zero_le _, Nat.zero_le _⟩ hl.1 rfl (Nat.le_of_ble_eq_true rfl) dX5_give_74 (fun w3 H locs hp hW => ?_)
              obtain ⟨fr3, h33, h43, p3, x3, v3⟩ := hp
              have hM3 : MOK G ad w3 σ := hM2.fin fr3 h33 h43 ⟨_, x3⟩
              obtain ⟨m92_3, ⟨f93_3, m93_3, v93_3⟩, ⟨f94_3, m94_3, v94_3⟩, ⟨f95_3, m95_3, v95_3⟩, ⟨f96_3, m96_3, v96_3⟩, ⟨f97_3, m97_3, v97_3⟩, mE2_3, mE4_3, mE6_3, mD_3, m102_3, m103_3, m104_3, m105_3, m106_3, m107_3, m108_3, ⟨f109_3, m109_3, v109_3⟩, m110_3⟩ := id hM3
              refine lv_aload_n hx hb dX5_give_77 rfl (lv_at hl 1 rfl) ?_
              refine lv_iload_n hx hb dX5_give_78 rfl (lv_at hl 2 rfl) ?_
              refine lv_iconst (v := nI 0) hx hb dX5_give_79 (by decide) ?_
              refine call_vv B hA hW (92) (by omega) m92_3 (r := _) rfl rfl (k_M_builds l G n ad w3 (nI (sH σ)) (rlI (sR σ)) hM3.1 hn hM3.2.2.2.2.2.2.2.2.2.1 hM3.2.2.2.2.2.2.2.1 hM3.2.2.2.2.2.2.2.2.1 (k) 0 (prt (bas k) (sV σ)) hk hk2 hzl.1 p3 x3 v3 (fun q hq => prt_lt (hmv q (by omega))) hM3.2.2.2.2.2.2.2.2.2.2.1 hM3.2.2.2.2.2.2.2.2.2.2.2.2.1) mf_X5_builds hw_523 rfl ⟨⟨rfl, rfl⟩, by decide, by decide⟩ ⟨Nat.zero_le _, Nat.zero_le _⟩ hl.1 rfl (Nat.le_of_ble_eq_true rfl) dX5_give_80 (fun w4 H locs hp hW => ?_)
              obtain ⟨fr4, h44, L4⟩ := hp
              have hM4 : MOK G ad w4 σ := hM3.bui fr4 ⟨_, L4.choose_spec.1⟩ h44
              obtain ⟨m92_4, ⟨f93_4, m93_4, v93_4⟩, ⟨f94_4, m94_4, v94_4⟩, ⟨f95_4, m95_4, v95_4⟩, ⟨f96_4, m96_4, v96_4⟩, ⟨f97_4, m97_4, v97_4⟩, mE2_4, mE4_4, mE6_4, mD_4, m102_4, m103_4, m104_4, m105_4, m106_4, m107_4, m108_4, ⟨f109_4, m109_4, v109_4⟩, m110_4⟩ := id hM4
              refine lv_aload_n hx hb dX5_give_83 rfl (lv_at hl 1 rfl) ?_
              refine lv_iload_n hx hb dX5_give_84 rfl (lv_at hl 2 rfl) ?_
              refine call_vi B hA hW (92) (by omega) m92_4 (r := _) rfl rfl (k_M_made l G n ad w4 hn σ hM4 hs (k) (by omega) (bld (bas k) (zs k) (prt (bas k) (sV σ))) L4 (bld_lt _ _ _ _)) mf_X5_made hw_480 rfl ⟨⟨rfl, rfl⟩, by decide, by decide⟩ ⟨Nat.zero_le _, Nat.zero_le _⟩ hl.1 rfl (Nat.le_of_ble_eq_true rfl) dX5_give_85 (fun r w9 H locs hp9 hW => ?_)
              exact ret_i B hr hlk hW ⟨hp9.1, hp9.2.1, fun j hj => (hp9.2.2 j hj).trans (((fr4 j (by omega) (by omega)).trans (fr3 j (by omega) (by omega) (by omega))).trans (h1 j (by omega)))⟩ dX5_give_88
            · omega
        · refine lv_aload_n hx hb dX5_give_32 rfl (lv_at hl 0 rfl) ?_
          refine lv_bipush (v := -7) hx hb dX5_give_33 (by decide) ?_
          refine call_vi B hA hW (92) (by omega) x0r (r := _) rfl rfl (k_M_no l G n ad w hn σ hM (-7) 7 (by decide) (by decide) (by decide)) mf_X5_no hw_449 rfl ⟨⟨rfl, rfl⟩, by decide, by decide⟩ ⟨Nat.zero_le _, Nat.zero_le _⟩ hl.1 rfl (Nat.le_of_ble_eq_true rfl) dX5_give_35 (fun r w9 H locs hp hW => ?_)
          exact ret_i B hr hlk hW (by rw [cif_f (fun q => by omega)]; exact hp) dX5_give_38
    · refine n_if_eq (tgt := 32) hx hb (by omega) dX5_give_18 (by decide) (fun hz2 => ?_) (fun hz2 => ?_)
      · refine lv_aload_n hx hb dX5_give_32 rfl (lv_at hl 0 rfl) ?_
        refine lv_bipush (v := -7) hx hb dX5_give_33 (by decide) ?_
        refine call_vi B hA hW (92) (by omega) x0r (r := _) rfl rfl (k_M_no l G n ad w hn σ hM (-7) 7 (by decide) (by decide) (by decide)) mf_X5_no hw_449 rfl ⟨⟨rfl, rfl⟩, by decide, by decide⟩ ⟨Nat.zero_le _, Nat.zero_le _⟩ hl.1 rfl (Nat.le_of_ble_eq_true rfl) dX5_give_35 (fun r w9 H locs hp hW => ?_)
        exact ret_i B hr hlk hW (by rw [cif_f (fun q => hnf q.1)]; exact hp) dX5_give_38
      · exact absurd rfl hz2
set_option maxHeartbeats 4000000 in
set_option maxRecDepth 100000 in
theorem k_X5_copy (l : Launch) (G : zG) (n : Nat) (ad : Nat → Nat) (w : Nat → va_E) (hn : 111 ≤ n) (σ : zS) (hM : MOK G ad w σ) (hs : SOK σ) (x y z : Int32) :
    Ci l G yX5_copy cdX5_copy (zr 5) n ad w [.ref (ad (92)), .int (x), .int (y), .int (z)] (postM G ad w (st_copy σ x y z)) := by
  obtain ⟨m92, ⟨f93, m93, v93⟩, ⟨f94, m94, v94⟩, ⟨f95, m95, v95⟩, ⟨f96, m96, v96⟩, ⟨f97, m97, v97⟩, mE2, mE4, mE6, mD, m102, m103, m104, m105, m106, m107, m108, ⟨f109, m109, v109⟩, m110⟩ := id hM
  have hsh := hs.1
  refine ent_i (cc := cX5_copy) (maxL := 5) (ret := (some .int)) (by decide +kernel) rfl (Nat.le_of_ble_eq_true rfl) ?_
  intro p e s m args below meth c A B hr hlk hA H locs ls hW hl
  have hx := B.1
  have hb := B.2.1
  have hl : lv_has ls 5 [(0, .ref (ad (92))), (1, .int (x)), (2, .int (y)), (3, .int (z))] := hl
  have hxr := rngI x
  have hyr := rngI y
  rcases hR : sR σ with _ | m9
  · have x0r : w 92 = mO ad (nI (sH σ)) (-1) := by rw [m92, hR]; rfl
    refine lv_aload_n hx hb dX5_copy_0 rfl (lv_at hl 0 rfl) ?_
    refine z_get B hW (92) (by omega) x0r rfl inX5 19 (by decide) hw_394 rfl (v := .int (-1)) rfl dX5_copy_1 ?_
    refine lv_if_ge (tgt := 14) hx hb dX5_copy_4 (by decide) (fun hz => ?_) (fun hz => ?_)
    · exact absurd hz (by decide)
    · refine lv_aload_n hx hb dX5_copy_7 rfl (lv_at hl 0 rfl) ?_
      refine lv_bipush (v := -2) hx hb dX5_copy_8 (by decide) ?_
      refine call_vi B hA hW (92) (by omega) x0r (r := _) rfl rfl (k_M_no l G n ad w hn σ hM (-2) 2 (by decide) (by decide) (by decide)) mf_X5_no hw_449 rfl ⟨⟨rfl, rfl⟩, by decide, by decide⟩ ⟨Nat.zero_le _, Nat.zero_le _⟩ hl.1 rfl (Nat.le_of_ble_eq_true rfl) dX5_copy_10 (fun r w9 H locs hp hW => ?_)
      exact ret_i B hr hlk hW (by rw [show st_copy σ x y z = ref σ 2 by unfold st_copy; rw [cif_t hR]]; exact hp) dX5_copy_13
  · have x0r : w 92 = mO ad (nI (sH σ)) (nI m9) := by rw [m92, hR]; rfl
    obtain ⟨hm48, hmv⟩ := hs.2.2 m9 hR
    have v109r : ∀ i, i < m9 → f109 i = nI (sV σ i) := fun i hi => v109 i (by rw [hR]; exact hi)
    have hgd : (sR σ).getD 0 = m9 := by rw [hR]; rfl
    have hnn : ¬ sR σ = none := by rw [hR]; exact fun q => by cases q
    refine lv_aload_n hx hb dX5_copy_0 rfl (lv_at hl 0 rfl) ?_
    refine z_get B hW (92) (by omega) x0r rfl inX5 19 (by decide) hw_394 rfl (v := .int (nI (m9))) rfl dX5_copy_1 ?_
    refine n_if_ge (tgt := 14) hx hb (by omega) dX5_copy_4 (by decide) ?_
    have hS : st_copy σ x y z = cif (z < 0) (ref σ 4) (cif (0 ≤ x.toInt ∧ 0 ≤ y.toInt ∧ x.toInt + z.toInt ≤ ((m9 : Nat) : Int) ∧ y.toInt + z.toInt ≤ ((m9 : Nat) : Int)) (z, sH σ, sW σ, sK σ, sT σ, sE σ, sF σ, sR σ, va_cpy (sV σ) (sV σ) (cN x) (cN y) (cN z)) (ref σ 6)) := by unfold st_copy; rw [cif_f hnn, hgd]
    rw [hS]
    refine lv_iload_n hx hb dX5_copy_14 rfl (lv_at hl 3 rfl) ?_
    refine lv_if_ge (tgt := 25) hx hb dX5_copy_15 (by decide) (fun hc => ?_) (fun hc => ?_)
    · have hnl : ¬ z < 0 := Int32.not_lt.mpr hc
      rw [cif_f hnl]
      obtain ⟨t9, ht9, rfl⟩ := nI_of hnl
      have htI := nI_toInt ht9
      refine lv_iload_n hx hb dX5_copy_25 rfl (lv_at hl 1 rfl) ?_
      refine lv_if_lt (tgt := 61) hx hb dX5_copy_26 (by decide) (fun hc1 => ?_) (fun hc1 => ?_)
      · refine lv_aload_n hx hb dX5_copy_61 rfl (lv_at hl 0 rfl) ?_
        refine lv_bipush (v := -6) hx hb dX5_copy_62 (by decide) ?_
        refine call_vi B hA hW (92) (by omega) x0r (r := _) rfl rfl (k_M_no l G n ad w hn σ hM (-6) 6 (by decide) (by decide) (by decide)) mf_X5_no hw_449 rfl ⟨⟨rfl, rfl⟩, by decide, by decide⟩ ⟨Nat.zero_le _, Nat.zero_le _⟩ hl.1 rfl (Nat.le_of_ble_eq_true rfl) dX5_copy_64 (fun r w9 H locs hp hW => ?_)
        exact ret_i B hr hlk hW (by rw [cif_f (fun ⟨q1, _⟩ => by rw [Int32.lt_iff_toInt_lt] at hc1; exact absurd q1 (Int.not_le.mpr hc1))]; exact hp) dX5_copy_67
      · obtain ⟨i9, hi9, rfl⟩ := nI_of hc1
        have hiI := nI_toInt hi9
        refine lv_iload_n hx hb dX5_copy_29 rfl (lv_at hl 2 rfl) ?_
        refine lv_if_lt (tgt := 61) hx hb dX5_copy_30 (by decide) (fun hc2 => ?_) (fun hc2 => ?_)
        · refine lv_aload_n hx hb dX5_copy_61 rfl (lv_at hl 0 rfl) ?_
          refine lv_bipush (v := -6) hx hb dX5_copy_62 (by decide) ?_
          refine call_vi B hA hW (92) (by omega) x0r (r := _) rfl rfl (k_M_no l G n ad w hn σ hM (-6) 6 (by decide) (by decide) (by decide)) mf_X5_no hw_449 rfl ⟨⟨rfl, rfl⟩, by decide, by decide⟩ ⟨Nat.zero_le _, Nat.zero_le _⟩ hl.1 rfl (Nat.le_of_ble_eq_true rfl) dX5_copy_64 (fun r w9 H locs hp hW => ?_)
          exact ret_i B hr hlk hW (by rw [cif_f (fun ⟨_, q1, _⟩ => by rw [Int32.lt_iff_toInt_lt] at hc2; exact absurd q1 (Int.not_le.mpr hc2))]; exact hp) dX5_copy_67
        · obtain ⟨j9, hj9, rfl⟩ := nI_of hc2
          have hjI := nI_toInt hj9
          refine lv_iload_n hx hb dX5_copy_33 rfl (lv_at hl 1 rfl) ?_
          refine n_i2l hx hb (by omega) dX5_copy_34 ?_
          refine lv_iload_n hx hb dX5_copy_35 rfl (lv_at hl 3 rfl) ?_
          refine n_i2l hx hb (by omega) dX5_copy_36 ?_
          refine n_ladd hx hb dX5_copy_37 ?_
          refine lv_aload_n hx hb dX5_copy_38 rfl (lv_at hl 0 rfl) ?_
          refine z_get B hW (92) (by omega) x0r rfl inX5 19 (by decide) hw_394 rfl (v := .int (nI (m9))) rfl dX5_copy_39 ?_
          refine n_i2l hx hb (by omega) dX5_copy_42 ?_
          refine lc_gt (tgt := 61) hx hb dX5_copy_43 dX5_copy_44 (by decide) (fun hc3 => ?_) (fun hc3 => ?_)
          · refine lv_aload_n hx hb dX5_copy_61 rfl (lv_at hl 0 rfl) ?_
            refine lv_bipush (v := -6) hx hb dX5_copy_62 (by decide) ?_
            refine call_vi B hA hW (92) (by omega) x0r (r := _) rfl rfl (k_M_no l G n ad w hn σ hM (-6) 6 (by decide) (by decide) (by decide)) mf_X5_no hw_449 rfl ⟨⟨rfl, rfl⟩, by decide, by decide⟩ ⟨Nat.zero_le _, Nat.zero_le _⟩ hl.1 rfl (Nat.le_of_ble_eq_true rfl) dX5_copy_64 (fun r w9 H locs hp hW => ?_)
            exact ret_i B hr hlk hW (by rw [cif_f (fun ⟨_, _, q1, q2⟩ => by have := (pk_lLT (by omega) (by omega)).mp hc3; omega)]; exact hp) dX5_copy_67
          · have h3 : i9 + t9 ≤ m9 := (pk_lLE (by omega) (by omega)).mp hc3
            refine lv_iload_n hx hb dX5_copy_47 rfl (lv_at hl 2 rfl) ?_
            refine n_i2l hx hb (by omega) dX5_copy_48 ?_
            refine lv_iload_n hx hb dX5_copy_49 rfl (lv_at hl 3 rfl) ?_
            refine n_i2l hx hb (by omega) dX5_copy_50 ?_
            refine n_ladd hx hb dX5_copy_51 ?_
            refine lv_aload_n hx hb dX5_copy_52 rfl (lv_at hl 0 rfl) ?_
            refine z_get B hW (92) (by omega) x0r rfl inX5 19 (by decide) hw_394 rfl (v := .int (nI (m9))) rfl dX5_copy_53 ?_
            refine n_i2l hx hb (by omega) dX5_copy_56 ?_
            refine lc_le (tgt := 68) hx hb dX5_copy_57 dX5_copy_58 (by decide) (fun hc4 => ?_) (fun hc4 => ?_)
            · have h4 : j9 + t9 ≤ m9 := (pk_lLE (by omega) (by omega)).mp hc4
              rw [cif_t ⟨by omega, by omega, by omega, by omega⟩, cN_nI hi9, cN_nI hj9, cN_nI ht9]
              obtain ⟨f110, x110⟩ := m110
              refine lv_iconst (v := nI 0) hx hb dX5_copy_68 (by decide) ?_
              refine lv_istore (lv' := [(4, .int (nI (0))), (0, .ref (ad (92))), (1, .int (nI (i9))), (2, .int (nI (j9))), (3, .int (nI (t9)))]) hx hb dX5_copy_69 hl (by decide) rfl (fun ls hl => ?_)
              refine z_up (Wg := fun H locs ls => W p l e (zr 5) s m args below meth c H locs 0 0 _ (F0 m 71 ls [])) (I := fun q H locs ls => ∃ (w2 : Nat → va_E) (f : Nat → Int32), Wo G A s.heap n ad w2 H locs ∧ lv_has ls 5 [(4, .int (nI q)), (0, .ref (ad 92)), (1, .int (nI i9)), (2, .int (nI j9)), (3, .int (nI t9))] ∧ (∀ j, j ≠ 110 → w2 j = w j) ∧ w2 110 = eI G 48 f ∧ (∀ j, j < q → f j = nI (sV σ (i9 + j)))) (a := 0) (b := t9) (Nat.zero_le _) ?_ ?_ H locs ls ⟨w, f110, hW, hl, fun _ _ => rfl, x110, fun j h => by omega⟩
              · rintro q - hq ih H locs ls ⟨w2, f, hW, hl, h1, h2, h3b⟩
                have e92b := (h1 92 (by decide)).trans x0r
                have e109b := (h1 109 (by decide)).trans m109
                refine lv_iload hx hb dX5_copy_71 (lv_at hl 0 rfl) ?_
                refine lv_iload_n hx hb dX5_copy_73 rfl (lv_at hl 4 rfl) ?_
                refine n_icmp_ge (tgt := 99) hx hb (by omega) (by omega) dX5_copy_74 (by decide) (fun he => ?_) (fun he => ?_)
                · omega
                · refine lv_aload_n hx hb dX5_copy_77 rfl (lv_at hl 1 rfl) ?_
                  refine z_get B hW (92) (by omega) e92b rfl inX5 18 (by decide) hw_393 rfl (v := .ref (ad (110))) rfl dX5_copy_78 ?_
                  refine lv_iload hx hb dX5_copy_81 (lv_at hl 0 rfl) ?_
                  refine lv_aload_n hx hb dX5_copy_83 rfl (lv_at hl 1 rfl) ?_
                  refine z_get B hW (92) (by omega) e92b rfl inX5 17 (by decide) hw_392 rfl (v := .ref (ad (109))) rfl dX5_copy_84 ?_
                  refine lv_iload_n hx hb dX5_copy_87 rfl (lv_at hl 2 rfl) ?_
                  refine lv_iload hx hb dX5_copy_88 (lv_at hl 0 rfl) ?_
                  refine n_iadd hx hb dX5_copy_90 ?_
                  refine z_iald B hW (109) (by omega) e109b (i9 + q) (by omega) (by decide) (v := (nI (sV σ (i9 + q)))) (v109r _ (by omega)) dX5_copy_91 ?_
                  refine z_iast B hW (110) (by omega) h2 (q) (by omega) (by decide) dX5_copy_92 (fun H locs hW => ?_)
                  refine lv_iinc (v := (nI (q + 1))) (lv' := [(4, .int (nI (q + 1))), (0, .ref (ad (92))), (1, .int (nI (i9))), (2, .int (nI (j9))), (3, .int (nI (t9)))]) hx hb dX5_copy_93 hl (k := 0) rfl (iinc1 _) (by decide) rfl (fun ls hl => ?_)
                  refine lv_goto (tgt := 71) hx hb dX5_copy_96 (by decide) ?_
                  refine ih H locs ls ⟨_, _, hW, hl, fun j hj => by rw [up_n hj]; exact h1 j hj, up_s, fun j hj => ?_⟩
                  by_cases z : j = q
                  · rw [z, pk_us]
                  · rw [pk_un z]; exact h3b j (by omega)
              · rintro H locs ls ⟨w2, f, hW, hl, h1, h2, h3b⟩
                refine lv_iload hx hb dX5_copy_71 (lv_at hl 0 rfl) ?_
                refine lv_iload_n hx hb dX5_copy_73 rfl (lv_at hl 4 rfl) ?_
                refine n_icmp_ge (tgt := 99) hx hb (by omega) (by omega) dX5_copy_74 (by decide) (fun he => ?_) (fun he => ?_)
                · refine lv_iconst (v := nI 0) hx hb dX5_copy_99 (by decide) ?_
                  refine lv_istore (lv' := [(4, .int (nI (0))), (0, .ref (ad (92))), (1, .int (nI (i9))), (2, .int (nI (j9))), (3, .int (nI (t9)))]) hx hb dX5_copy_100 hl (by decide) rfl (fun ls hl => ?_)
                  refine z_up (Wg := fun H locs ls => W p l e (zr 5) s m args below meth c H locs 0 0 _ (F0 m 102 ls [])) (I := fun q H locs ls => ∃ (w5 : Nat → va_E) (g : Nat → Int32), Wo G A s.heap n ad w5 H locs ∧ lv_has ls 5 [(4, .int (nI q)), (0, .ref (ad 92)), (1, .int (nI i9)), (2, .int (nI j9)), (3, .int (nI t9))] ∧ (∀ j, j ≠ 109 → w5 j = w2 j) ∧ w5 109 = eI G 48 g ∧ (∀ r, r < m9 → g r = nI (va_cpy (sV σ) (sV σ) i9 j9 q r))) (a := 0) (b := t9) (Nat.zero_le _) ?_ ?_ H locs ls ⟨w2, f109, hW, hl, fun _ _ => rfl, (h1 109 (by decide)).trans m109, fun r hr => by rw [pk_cpy_out (by omega)]; exact v109r r hr⟩
                  · rintro q - hq ih H locs ls ⟨w5, g, hW, hl, c1, c2, c3⟩
                    have e92d := ((c1 92 (by decide)).trans (h1 92 (by decide))).trans x0r
                    have e110 := (c1 110 (by decide)).trans h2
                    refine lv_iload hx hb dX5_copy_102 (lv_at hl 0 rfl) ?_
                    refine lv_iload_n hx hb dX5_copy_104 rfl (lv_at hl 4 rfl) ?_
                    refine n_icmp_ge (tgt := 130) hx hb (by omega) (by omega) dX5_copy_105 (by decide) (fun he2 => ?_) (fun he2 => ?_)
                    · omega
                    · refine lv_aload_n hx hb dX5_copy_108 rfl (lv_at hl 1 rfl) ?_
                      refine z_get B hW (92) (by omega) e92d rfl inX5 17 (by decide) hw_392 rfl (v := .ref (ad (109))) rfl dX5_copy_109 ?_
                      refine lv_iload_n hx hb dX5_copy_112 rfl (lv_at hl 3 rfl) ?_
                      refine lv_iload hx hb dX5_copy_113 (lv_at hl 0 rfl) ?_
                      refine n_iadd hx hb dX5_copy_115 ?_
                      refine lv_aload_n hx hb dX5_copy_116 rfl (lv_at hl 1 rfl) ?_
                      refine z_get B hW (92) (by omega) e92d rfl inX5 18 (by decide) hw_393 rfl (v := .ref (ad (110))) rfl dX5_copy_117 ?_
                      refine lv_iload hx hb dX5_copy_120 (lv_at hl 0 rfl) ?_
                      refine z_iald B hW (110) (by omega) e110 (q) (by omega) (by decide) (v := (nI (sV σ (i9 + q)))) (h3b _ hq) dX5_copy_122 ?_
                      refine z_iast B hW (109) (by omega) c2 (j9 + q) (by omega) (by decide) dX5_copy_123 (fun H locs hW => ?_)
                      refine lv_iinc (v := (nI (q + 1))) (lv' := [(4, .int (nI (q + 1))), (0, .ref (ad (92))), (1, .int (nI (i9))), (2, .int (nI (j9))), (3, .int (nI (t9)))]) hx hb dX5_copy_124 hl (k := 0) rfl (iinc1 _) (by decide) rfl (fun ls hl => ?_)
                      refine lv_goto (tgt := 102) hx hb dX5_copy_127 (by decide) ?_
                      refine ih H locs ls ⟨_, _, hW, hl, fun j hj => by rw [up_n hj]; exact c1 j hj, up_s, fun r hr => ?_⟩
                      by_cases z : r = j9 + q
                      · rw [z, pk_us, pk_cpy_in (by omega) (by omega)]; congr 2; omega
                      · rw [pk_un z, c3 r hr]
                        by_cases z2 : j9 ≤ r ∧ r < j9 + q
                        · rw [pk_cpy_in z2.1 z2.2, pk_cpy_in z2.1 (by omega)]
                        · rw [pk_cpy_out (by omega), pk_cpy_out (by omega)]
                  · rintro H locs ls ⟨w5, g, hW, hl, c1, c2, c3⟩
                    refine lv_iload hx hb dX5_copy_102 (lv_at hl 0 rfl) ?_
                    refine lv_iload_n hx hb dX5_copy_104 rfl (lv_at hl 4 rfl) ?_
                    refine n_icmp_ge (tgt := 130) hx hb (by omega) (by omega) dX5_copy_105 (by decide) (fun he2 => ?_) (fun he2 => ?_)
                    · refine lv_iload_n hx hb dX5_copy_130 rfl (lv_at hl 4 rfl) ?_
                      have K : ∀ j, j ≠ 109 → j ≠ 110 → w5 j = w j := fun j q1 q2 => (c1 j q1).trans (h1 j q2)
                      refine ret_i B hr hlk hW ⟨rfl, ?_, fun j hj => K j (by omega) (by omega)⟩ dX5_copy_131
                      refine ⟨(K 92 (by decide) (by decide)).trans m92, ⟨f93, (K 93 (by decide) (by decide)).trans m93, v93⟩, ⟨f94, (K 94 (by decide) (by decide)).trans m94, v94⟩, ⟨f95, (K 95 (by decide) (by decide)).trans m95, v95⟩, ⟨f96, (K 96 (by decide) (by decide)).trans m96, v96⟩, ⟨f97, (K 97 (by decide) (by decide)).trans m97, v97⟩, isL_of mE2 (K 98 (by decide) (by decide)), isL_of mE4 (K 99 (by decide) (by decide)), isL_of mE6 (K 100 (by decide) (by decide)), isL_of mD (K 101 (by decide) (by decide)), by rw [K 102 (by decide) (by decide)]; exact m102, by rw [K 103 (by decide) (by decide)]; exact m103, by rw [K 104 (by decide) (by decide)]; exact m104, by rw [K 105 (by decide) (by decide)]; exact m105, by rw [K 106 (by decide) (by decide)]; exact m106, by rw [K 107 (by decide) (by decide)]; exact m107, by rw [K 108 (by decide) (by decide)]; exact m108, ⟨g, c2, fun r hr => c3 r (by rw [← hgd]; exact hr)⟩, ⟨f, (c1 110 (by decide)).trans h2⟩⟩
                    · omega
                · omega
            · refine lv_aload_n hx hb dX5_copy_61 rfl (lv_at hl 0 rfl) ?_
              refine lv_bipush (v := -6) hx hb dX5_copy_62 (by decide) ?_
              refine call_vi B hA hW (92) (by omega) x0r (r := _) rfl rfl (k_M_no l G n ad w hn σ hM (-6) 6 (by decide) (by decide) (by decide)) mf_X5_no hw_449 rfl ⟨⟨rfl, rfl⟩, by decide, by decide⟩ ⟨Nat.zero_le _, Nat.zero_le _⟩ hl.1 rfl (Nat.le_of_ble_eq_true rfl) dX5_copy_64 (fun r w9 H locs hp hW => ?_)
              exact ret_i B hr hlk hW (by rw [cif_f (fun ⟨_, _, q1, q2⟩ => by have := (pk_lLT (by omega) (by omega)).mp hc4; omega)]; exact hp) dX5_copy_67
    · refine lv_aload_n hx hb dX5_copy_18 rfl (lv_at hl 0 rfl) ?_
      refine lv_bipush (v := -4) hx hb dX5_copy_19 (by decide) ?_
      refine call_vi B hA hW (92) (by omega) x0r (r := _) rfl rfl (k_M_no l G n ad w hn σ hM (-4) 4 (by decide) (by decide) (by decide)) mf_X5_no hw_449 rfl ⟨⟨rfl, rfl⟩, by decide, by decide⟩ ⟨Nat.zero_le _, Nat.zero_le _⟩ hl.1 rfl (Nat.le_of_ble_eq_true rfl) dX5_copy_21 (fun r w9 H locs hp hW => ?_)
      exact ret_i B hr hlk hW (by rw [cif_t (Int32.not_le.mp hc)]; exact hp) dX5_copy_24
set_option maxHeartbeats 4000000 in
set_option maxRecDepth 100000 in
theorem k_X5_sums (l : Launch) (G : zG) (n : Nat) (ad : Nat → Nat) (w : Nat → va_E) (hn : 111 ≤ n) (σ : zS) (hM : MOK G ad w σ) (hs : SOK σ) (x : Int32) :
    Ci l G yX5_sums cdX5_sums (zr 5) n ad w [.ref (ad (92)), .int (x)] (postM G ad w (st_sums σ x)) := by
  obtain ⟨m92, ⟨f93, m93, v93⟩, ⟨f94, m94, v94⟩, ⟨f95, m95, v95⟩, ⟨f96, m96, v96⟩, ⟨f97, m97, v97⟩, mE2, mE4, mE6, mD, m102, m103, m104, m105, m106, m107, m108, ⟨f109, m109, v109⟩, m110⟩ := id hM
  have hsh := hs.1
  refine ent_i (cc := cX5_sums) (maxL := 4) (ret := (some .int)) (by decide +kernel) rfl (Nat.le_of_ble_eq_true rfl) ?_
  intro p e s m args below meth c A B hr hlk hA H locs ls hW hl
  have hx := B.1
  have hb := B.2.1
  have hl : lv_has ls 4 [(0, .ref (ad (92))), (1, .int (x))] := hl
  refine lv_iload_n hx hb dX5_sums_0 rfl (lv_at hl 1 rfl) ?_
  refine lv_iconst (v := nI 4) hx hb dX5_sums_1 (by decide) ?_
  refine lv_icmp_ne (tgt := 11) hx hb dX5_sums_2 (by decide) (fun c4 => ?_) (fun c4 => ?_)
  · refine lv_iload_n hx hb dX5_sums_11 rfl (lv_at hl 1 rfl) ?_
    refine lv_bipush (v := nI 6) hx hb dX5_sums_12 (by decide) ?_
    refine lv_icmp_ne (tgt := 23) hx hb dX5_sums_14 (by decide) (fun c6 => ?_) (fun c6 => ?_)
    · refine lv_iload_n hx hb dX5_sums_23 rfl (lv_at hl 1 rfl) ?_
      refine lv_bipush (v := nI 8) hx hb dX5_sums_24 (by decide) ?_
      refine lv_icmp_ne (tgt := 35) hx hb dX5_sums_26 (by decide) (fun c8 => ?_) (fun c8 => ?_)
      · refine lv_iload_n hx hb dX5_sums_35 rfl (lv_at hl 1 rfl) ?_
        refine lv_bipush (v := nI 10) hx hb dX5_sums_36 (by decide) ?_
        refine lv_icmp_ne (tgt := 47) hx hb dX5_sums_38 (by decide) (fun c10 => ?_) (fun c10 => ?_)
        · refine lv_iload_n hx hb dX5_sums_47 rfl (lv_at hl 1 rfl) ?_
          refine lv_bipush (v := nI 12) hx hb dX5_sums_48 (by decide) ?_
          refine lv_icmp_ne (tgt := 70) hx hb dX5_sums_50 (by decide) (fun c12 => ?_) (fun c12 => ?_)
          · refine lv_iload_n hx hb dX5_sums_70 rfl (lv_at hl 1 rfl) ?_
            refine lv_bipush (v := nI 14) hx hb dX5_sums_71 (by decide) ?_
            refine lv_icmp_ne (tgt := 82) hx hb dX5_sums_73 (by decide) (fun c14 => ?_) (fun c14 => ?_)
            · refine lv_lconst (v := lN 0) hx hb dX5_sums_82 (by decide) ?_
              refine lv_lstore_n (lv' := [(2, .long (lN (0))), (0, .ref (ad (92))), (1, .int (x))]) hx hb dX5_sums_83 rfl hl (by decide) rfl (fun ls hl => ?_)
              refine lv_lload_n hx hb dX5_sums_84 rfl (lv_at hl 0 rfl) ?_
              refine lv_lconst (v := lN 0) hx hb dX5_sums_85 (by decide) ?_
              refine lc_ne (tgt := 97) hx hb dX5_sums_86 dX5_sums_87 (by decide) (fun hne => ?_) (fun hne => ?_)
              · exact absurd rfl hne
              · refine lv_aload_n hx hb dX5_sums_90 rfl (lv_at hl 1 rfl) ?_
                refine lv_bipush (v := -7) hx hb dX5_sums_91 (by decide) ?_
                refine call_vi B hA hW (92) (by omega) m92 (r := _) rfl rfl (k_M_no l G n ad w hn σ hM (-7) 7 (by decide) (by decide) (by decide)) mf_X5_no hw_449 rfl ⟨⟨rfl, rfl⟩, by decide, by decide⟩ ⟨Nat.zero_le _, Nat.zero_le _⟩ hl.1 rfl (Nat.le_of_ble_eq_true rfl) dX5_sums_93 (fun r w9 H locs hp hW => ?_)
                exact ret_i B hr hlk hW (by rw [show st_sums σ x = ref σ 7 by unfold st_sums; rw [cif_f (fun ⟨k, q, q2⟩ => by rcases q with rfl | rfl | rfl | rfl | rfl | rfl <;> first | exact c4 q2 | exact c6 q2 | exact c8 q2 | exact c10 q2 | exact c12 q2 | exact c14 q2)]]; exact hp) dX5_sums_96
            · subst c14
              refine n_ldc2 B hw_365 (x := lN 999979) (by decide) dX5_sums_76 ?_
              refine topl (y := (lN (smc 14))) rfl ?_
              refine lv_goto (tgt := 83) hx hb dX5_sums_79 (by decide) ?_
              have hsp := smc_pos 14 (by decide)
              refine lv_lstore_n (lv' := [(2, .long (lN (smc 14))), (0, .ref (ad (92))), (1, .int (nI (14)))]) hx hb dX5_sums_83 rfl hl (by decide) rfl (fun ls hl => ?_)
              refine lv_lload_n hx hb dX5_sums_84 rfl (lv_at hl 0 rfl) ?_
              refine lv_lconst (v := lN 0) hx hb dX5_sums_85 (by decide) ?_
              refine lc_ne (tgt := 97) hx hb dX5_sums_86 dX5_sums_87 (by decide) (fun hne => ?_) (fun hne => ?_)
              · have hS : st_sums σ (nI 14) = come σ 14 1 14 (sumsS (smc 14) (14 - 1)) := by
                  unfold st_sums
                  rw [cif_t ⟨14, by decide, rfl⟩, cN_nI (by decide)]
                rw [hS]
                refine lv_aload_n hx hb dX5_sums_97 rfl (lv_at hl 1 rfl) ?_
                refine z_get B hW (92) (by omega) m92 rfl inX5 10 (by decide) hw_385 rfl (v := .ref (ad (102))) rfl dX5_sums_98 ?_
                refine lv_iload_n hx hb dX5_sums_101 rfl (lv_at hl 2 rfl) ?_
                refine lv_lload_n hx hb dX5_sums_102 rfl (lv_at hl 0 rfl) ?_
                refine call_sv B hA hW (k_M_fillSums l G n ad w 102 14 (smc 14) (by omega) (by decide) (by decide) hsp.2 m102) mf_X5_fillSums hw_366 rfl ⟨⟨rfl, rfl⟩, by decide, by decide⟩ ⟨Nat.zero_le _, Nat.zero_le _⟩ hl.1 rfl (Nat.le_of_ble_eq_true rfl) dX5_sums_103 (fun w5 H locs hp hW => ?_)
                obtain ⟨fr5, L5⟩ := hp
                have hM5 : MOK G ad w5 σ := hM.s48 (k := 102) (by decide) ⟨_, L5.choose_spec.1⟩ fr5
                refine lv_aload_n hx hb dX5_sums_106 rfl (lv_at hl 1 rfl) ?_
                refine lv_iload_n hx hb dX5_sums_107 rfl (lv_at hl 2 rfl) ?_
                refine lv_iconst (v := nI 1) hx hb dX5_sums_108 (by decide) ?_
                refine lv_iload_n hx hb dX5_sums_109 rfl (lv_at hl 2 rfl) ?_
                refine call_vi B hA hW (92) (by omega) hM5.1 (r := _) rfl rfl (k_M_comes l G n ad w5 hn σ hM5 hs 14 1 14 (by decide) (sumsS (smc 14) (14 - 1)) L5) mf_X5_comes hw_453 rfl ⟨⟨rfl, rfl⟩, by decide, by decide⟩ ⟨Nat.zero_le _, Nat.zero_le _⟩ hl.1 rfl (Nat.le_of_ble_eq_true rfl) dX5_sums_110 (fun r w9 H locs hp9 hW => ?_)
                exact ret_i B hr hlk hW ⟨hp9.1, hp9.2.1, fun j hj => (hp9.2.2 j hj).trans (fr5 j (by omega))⟩ dX5_sums_113
              · exact absurd ((pk_lEQ (by omega) (by omega)).mp hne) (by omega)
          · subst c12
            refine n_ldc2 B hw_442 (x := lN 65520) (by decide) dX5_sums_53 ?_
            refine n_ldc2 B hw_443 (x := lN 691) (by decide) dX5_sums_56 ?_
            refine call_sl B hA hW (k_M_inverse l G n ad w 691 (by decide)) mf_X5_inverse hw_444 rfl ⟨⟨rfl, rfl⟩, by decide, by decide⟩ ⟨Nat.zero_le _, Nat.zero_le _⟩ hl.1 rfl (Nat.le_of_ble_eq_true rfl) dX5_sums_59 (fun r w9 H locs hp hW => ?_)
            obtain ⟨e1, e2⟩ := hp
            rw [e1] at hW
            subst e2
            have hil := invM_lt 691
            refine n_lmul hx hb dX5_sums_62 ?_
            refine n_ldc2 B hw_372 (x := lN 1000003) (by decide) dX5_sums_63 ?_
            refine n_lrem hx hb (by omega) (by omega) (by omega) dX5_sums_66 ?_
            refine topl (y := (lN (smc 12))) rfl ?_
            refine lv_goto (tgt := 83) hx hb dX5_sums_67 (by decide) ?_
            have hsp := smc_pos 12 (by decide)
            refine lv_lstore_n (lv' := [(2, .long (lN (smc 12))), (0, .ref (ad (92))), (1, .int (nI (12)))]) hx hb dX5_sums_83 rfl hl (by decide) rfl (fun ls hl => ?_)
            refine lv_lload_n hx hb dX5_sums_84 rfl (lv_at hl 0 rfl) ?_
            refine lv_lconst (v := lN 0) hx hb dX5_sums_85 (by decide) ?_
            refine lc_ne (tgt := 97) hx hb dX5_sums_86 dX5_sums_87 (by decide) (fun hne => ?_) (fun hne => ?_)
            · have hS : st_sums σ (nI 12) = come σ 12 1 12 (sumsS (smc 12) (12 - 1)) := by
                unfold st_sums
                rw [cif_t ⟨12, by decide, rfl⟩, cN_nI (by decide)]
              rw [hS]
              refine lv_aload_n hx hb dX5_sums_97 rfl (lv_at hl 1 rfl) ?_
              refine z_get B hW (92) (by omega) m92 rfl inX5 10 (by decide) hw_385 rfl (v := .ref (ad (102))) rfl dX5_sums_98 ?_
              refine lv_iload_n hx hb dX5_sums_101 rfl (lv_at hl 2 rfl) ?_
              refine lv_lload_n hx hb dX5_sums_102 rfl (lv_at hl 0 rfl) ?_
              refine call_sv B hA hW (k_M_fillSums l G n ad w 102 12 (smc 12) (by omega) (by decide) (by decide) hsp.2 m102) mf_X5_fillSums hw_366 rfl ⟨⟨rfl, rfl⟩, by decide, by decide⟩ ⟨Nat.zero_le _, Nat.zero_le _⟩ hl.1 rfl (Nat.le_of_ble_eq_true rfl) dX5_sums_103 (fun w5 H locs hp hW => ?_)
              obtain ⟨fr5, L5⟩ := hp
              have hM5 : MOK G ad w5 σ := hM.s48 (k := 102) (by decide) ⟨_, L5.choose_spec.1⟩ fr5
              refine lv_aload_n hx hb dX5_sums_106 rfl (lv_at hl 1 rfl) ?_
              refine lv_iload_n hx hb dX5_sums_107 rfl (lv_at hl 2 rfl) ?_
              refine lv_iconst (v := nI 1) hx hb dX5_sums_108 (by decide) ?_
              refine lv_iload_n hx hb dX5_sums_109 rfl (lv_at hl 2 rfl) ?_
              refine call_vi B hA hW (92) (by omega) hM5.1 (r := _) rfl rfl (k_M_comes l G n ad w5 hn σ hM5 hs 12 1 12 (by decide) (sumsS (smc 12) (12 - 1)) L5) mf_X5_comes hw_453 rfl ⟨⟨rfl, rfl⟩, by decide, by decide⟩ ⟨Nat.zero_le _, Nat.zero_le _⟩ hl.1 rfl (Nat.le_of_ble_eq_true rfl) dX5_sums_110 (fun r w9 H locs hp9 hW => ?_)
              exact ret_i B hr hlk hW ⟨hp9.1, hp9.2.1, fun j hj => (hp9.2.2 j hj).trans (fr5 j (by omega))⟩ dX5_sums_113
            · exact absurd ((pk_lEQ (by omega) (by omega)).mp hne) (by omega)
        · subst c10
          refine n_ldc2 B hw_441 (x := lN 999739) (by decide) dX5_sums_41 ?_
          refine topl (y := (lN (smc 10))) rfl ?_
          refine lv_goto (tgt := 83) hx hb dX5_sums_44 (by decide) ?_
          have hsp := smc_pos 10 (by decide)
          refine lv_lstore_n (lv' := [(2, .long (lN (smc 10))), (0, .ref (ad (92))), (1, .int (nI (10)))]) hx hb dX5_sums_83 rfl hl (by decide) rfl (fun ls hl => ?_)
          refine lv_lload_n hx hb dX5_sums_84 rfl (lv_at hl 0 rfl) ?_
          refine lv_lconst (v := lN 0) hx hb dX5_sums_85 (by decide) ?_
          refine lc_ne (tgt := 97) hx hb dX5_sums_86 dX5_sums_87 (by decide) (fun hne => ?_) (fun hne => ?_)
          · have hS : st_sums σ (nI 10) = come σ 10 1 10 (sumsS (smc 10) (10 - 1)) := by
              unfold st_sums
              rw [cif_t ⟨10, by decide, rfl⟩, cN_nI (by decide)]
            rw [hS]
            refine lv_aload_n hx hb dX5_sums_97 rfl (lv_at hl 1 rfl) ?_
            refine z_get B hW (92) (by omega) m92 rfl inX5 10 (by decide) hw_385 rfl (v := .ref (ad (102))) rfl dX5_sums_98 ?_
            refine lv_iload_n hx hb dX5_sums_101 rfl (lv_at hl 2 rfl) ?_
            refine lv_lload_n hx hb dX5_sums_102 rfl (lv_at hl 0 rfl) ?_
            refine call_sv B hA hW (k_M_fillSums l G n ad w 102 10 (smc 10) (by omega) (by decide) (by decide) hsp.2 m102) mf_X5_fillSums hw_366 rfl ⟨⟨rfl, rfl⟩, by decide, by decide⟩ ⟨Nat.zero_le _, Nat.zero_le _⟩ hl.1 rfl (Nat.le_of_ble_eq_true rfl) dX5_sums_103 (fun w5 H locs hp hW => ?_)
            obtain ⟨fr5, L5⟩ := hp
            have hM5 : MOK G ad w5 σ := hM.s48 (k := 102) (by decide) ⟨_, L5.choose_spec.1⟩ fr5
            refine lv_aload_n hx hb dX5_sums_106 rfl (lv_at hl 1 rfl) ?_
            refine lv_iload_n hx hb dX5_sums_107 rfl (lv_at hl 2 rfl) ?_
            refine lv_iconst (v := nI 1) hx hb dX5_sums_108 (by decide) ?_
            refine lv_iload_n hx hb dX5_sums_109 rfl (lv_at hl 2 rfl) ?_
            refine call_vi B hA hW (92) (by omega) hM5.1 (r := _) rfl rfl (k_M_comes l G n ad w5 hn σ hM5 hs 10 1 10 (by decide) (sumsS (smc 10) (10 - 1)) L5) mf_X5_comes hw_453 rfl ⟨⟨rfl, rfl⟩, by decide, by decide⟩ ⟨Nat.zero_le _, Nat.zero_le _⟩ hl.1 rfl (Nat.le_of_ble_eq_true rfl) dX5_sums_110 (fun r w9 H locs hp9 hW => ?_)
            exact ret_i B hr hlk hW ⟨hp9.1, hp9.2.1, fun j hj => (hp9.2.2 j hj).trans (fr5 j (by omega))⟩ dX5_sums_113
          · exact absurd ((pk_lEQ (by omega) (by omega)).mp hne) (by omega)
      · subst c8
        refine n_ldc2 B hw_440 (x := lN 480) (by decide) dX5_sums_29 ?_
        refine topl (y := (lN (smc 8))) rfl ?_
        refine lv_goto (tgt := 83) hx hb dX5_sums_32 (by decide) ?_
        have hsp := smc_pos 8 (by decide)
        refine lv_lstore_n (lv' := [(2, .long (lN (smc 8))), (0, .ref (ad (92))), (1, .int (nI (8)))]) hx hb dX5_sums_83 rfl hl (by decide) rfl (fun ls hl => ?_)
        refine lv_lload_n hx hb dX5_sums_84 rfl (lv_at hl 0 rfl) ?_
        refine lv_lconst (v := lN 0) hx hb dX5_sums_85 (by decide) ?_
        refine lc_ne (tgt := 97) hx hb dX5_sums_86 dX5_sums_87 (by decide) (fun hne => ?_) (fun hne => ?_)
        · have hS : st_sums σ (nI 8) = come σ 8 1 8 (sumsS (smc 8) (8 - 1)) := by
            unfold st_sums
            rw [cif_t ⟨8, by decide, rfl⟩, cN_nI (by decide)]
          rw [hS]
          refine lv_aload_n hx hb dX5_sums_97 rfl (lv_at hl 1 rfl) ?_
          refine z_get B hW (92) (by omega) m92 rfl inX5 10 (by decide) hw_385 rfl (v := .ref (ad (102))) rfl dX5_sums_98 ?_
          refine lv_iload_n hx hb dX5_sums_101 rfl (lv_at hl 2 rfl) ?_
          refine lv_lload_n hx hb dX5_sums_102 rfl (lv_at hl 0 rfl) ?_
          refine call_sv B hA hW (k_M_fillSums l G n ad w 102 8 (smc 8) (by omega) (by decide) (by decide) hsp.2 m102) mf_X5_fillSums hw_366 rfl ⟨⟨rfl, rfl⟩, by decide, by decide⟩ ⟨Nat.zero_le _, Nat.zero_le _⟩ hl.1 rfl (Nat.le_of_ble_eq_true rfl) dX5_sums_103 (fun w5 H locs hp hW => ?_)
          obtain ⟨fr5, L5⟩ := hp
          have hM5 : MOK G ad w5 σ := hM.s48 (k := 102) (by decide) ⟨_, L5.choose_spec.1⟩ fr5
          refine lv_aload_n hx hb dX5_sums_106 rfl (lv_at hl 1 rfl) ?_
          refine lv_iload_n hx hb dX5_sums_107 rfl (lv_at hl 2 rfl) ?_
          refine lv_iconst (v := nI 1) hx hb dX5_sums_108 (by decide) ?_
          refine lv_iload_n hx hb dX5_sums_109 rfl (lv_at hl 2 rfl) ?_
          refine call_vi B hA hW (92) (by omega) hM5.1 (r := _) rfl rfl (k_M_comes l G n ad w5 hn σ hM5 hs 8 1 8 (by decide) (sumsS (smc 8) (8 - 1)) L5) mf_X5_comes hw_453 rfl ⟨⟨rfl, rfl⟩, by decide, by decide⟩ ⟨Nat.zero_le _, Nat.zero_le _⟩ hl.1 rfl (Nat.le_of_ble_eq_true rfl) dX5_sums_110 (fun r w9 H locs hp9 hW => ?_)
          exact ret_i B hr hlk hW ⟨hp9.1, hp9.2.1, fun j hj => (hp9.2.2 j hj).trans (fr5 j (by omega))⟩ dX5_sums_113
        · exact absurd ((pk_lEQ (by omega) (by omega)).mp hne) (by omega)
    · subst c6
      refine n_ldc2 B hw_374 (x := lN 999499) (by decide) dX5_sums_17 ?_
      refine topl (y := (lN (smc 6))) rfl ?_
      refine lv_goto (tgt := 83) hx hb dX5_sums_20 (by decide) ?_
      have hsp := smc_pos 6 (by decide)
      refine lv_lstore_n (lv' := [(2, .long (lN (smc 6))), (0, .ref (ad (92))), (1, .int (nI (6)))]) hx hb dX5_sums_83 rfl hl (by decide) rfl (fun ls hl => ?_)
      refine lv_lload_n hx hb dX5_sums_84 rfl (lv_at hl 0 rfl) ?_
      refine lv_lconst (v := lN 0) hx hb dX5_sums_85 (by decide) ?_
      refine lc_ne (tgt := 97) hx hb dX5_sums_86 dX5_sums_87 (by decide) (fun hne => ?_) (fun hne => ?_)
      · have hS : st_sums σ (nI 6) = come σ 6 1 6 (sumsS (smc 6) (6 - 1)) := by
          unfold st_sums
          rw [cif_t ⟨6, by decide, rfl⟩, cN_nI (by decide)]
        rw [hS]
        refine lv_aload_n hx hb dX5_sums_97 rfl (lv_at hl 1 rfl) ?_
        refine z_get B hW (92) (by omega) m92 rfl inX5 10 (by decide) hw_385 rfl (v := .ref (ad (102))) rfl dX5_sums_98 ?_
        refine lv_iload_n hx hb dX5_sums_101 rfl (lv_at hl 2 rfl) ?_
        refine lv_lload_n hx hb dX5_sums_102 rfl (lv_at hl 0 rfl) ?_
        refine call_sv B hA hW (k_M_fillSums l G n ad w 102 6 (smc 6) (by omega) (by decide) (by decide) hsp.2 m102) mf_X5_fillSums hw_366 rfl ⟨⟨rfl, rfl⟩, by decide, by decide⟩ ⟨Nat.zero_le _, Nat.zero_le _⟩ hl.1 rfl (Nat.le_of_ble_eq_true rfl) dX5_sums_103 (fun w5 H locs hp hW => ?_)
        obtain ⟨fr5, L5⟩ := hp
        have hM5 : MOK G ad w5 σ := hM.s48 (k := 102) (by decide) ⟨_, L5.choose_spec.1⟩ fr5
        refine lv_aload_n hx hb dX5_sums_106 rfl (lv_at hl 1 rfl) ?_
        refine lv_iload_n hx hb dX5_sums_107 rfl (lv_at hl 2 rfl) ?_
        refine lv_iconst (v := nI 1) hx hb dX5_sums_108 (by decide) ?_
        refine lv_iload_n hx hb dX5_sums_109 rfl (lv_at hl 2 rfl) ?_
        refine call_vi B hA hW (92) (by omega) hM5.1 (r := _) rfl rfl (k_M_comes l G n ad w5 hn σ hM5 hs 6 1 6 (by decide) (sumsS (smc 6) (6 - 1)) L5) mf_X5_comes hw_453 rfl ⟨⟨rfl, rfl⟩, by decide, by decide⟩ ⟨Nat.zero_le _, Nat.zero_le _⟩ hl.1 rfl (Nat.le_of_ble_eq_true rfl) dX5_sums_110 (fun r w9 H locs hp9 hW => ?_)
        exact ret_i B hr hlk hW ⟨hp9.1, hp9.2.1, fun j hj => (hp9.2.2 j hj).trans (fr5 j (by omega))⟩ dX5_sums_113
      · exact absurd ((pk_lEQ (by omega) (by omega)).mp hne) (by omega)
  · subst c4
    refine n_ldc2 B hw_373 (x := lN 240) (by decide) dX5_sums_5 ?_
    refine topl (y := (lN (smc 4))) rfl ?_
    refine lv_goto (tgt := 83) hx hb dX5_sums_8 (by decide) ?_
    have hsp := smc_pos 4 (by decide)
    refine lv_lstore_n (lv' := [(2, .long (lN (smc 4))), (0, .ref (ad (92))), (1, .int (nI (4)))]) hx hb dX5_sums_83 rfl hl (by decide) rfl (fun ls hl => ?_)
    refine lv_lload_n hx hb dX5_sums_84 rfl (lv_at hl 0 rfl) ?_
    refine lv_lconst (v := lN 0) hx hb dX5_sums_85 (by decide) ?_
    refine lc_ne (tgt := 97) hx hb dX5_sums_86 dX5_sums_87 (by decide) (fun hne => ?_) (fun hne => ?_)
    · have hS : st_sums σ (nI 4) = come σ 4 1 4 (sumsS (smc 4) (4 - 1)) := by
        unfold st_sums
        rw [cif_t ⟨4, by decide, rfl⟩, cN_nI (by decide)]
      rw [hS]
      refine lv_aload_n hx hb dX5_sums_97 rfl (lv_at hl 1 rfl) ?_
      refine z_get B hW (92) (by omega) m92 rfl inX5 10 (by decide) hw_385 rfl (v := .ref (ad (102))) rfl dX5_sums_98 ?_
      refine lv_iload_n hx hb dX5_sums_101 rfl (lv_at hl 2 rfl) ?_
      refine lv_lload_n hx hb dX5_sums_102 rfl (lv_at hl 0 rfl) ?_
      refine call_sv B hA hW (k_M_fillSums l G n ad w 102 4 (smc 4) (by omega) (by decide) (by decide) hsp.2 m102) mf_X5_fillSums hw_366 rfl ⟨⟨rfl, rfl⟩, by decide, by decide⟩ ⟨Nat.zero_le _, Nat.zero_le _⟩ hl.1 rfl (Nat.le_of_ble_eq_true rfl) dX5_sums_103 (fun w5 H locs hp hW => ?_)
      obtain ⟨fr5, L5⟩ := hp
      have hM5 : MOK G ad w5 σ := hM.s48 (k := 102) (by decide) ⟨_, L5.choose_spec.1⟩ fr5
      refine lv_aload_n hx hb dX5_sums_106 rfl (lv_at hl 1 rfl) ?_
      refine lv_iload_n hx hb dX5_sums_107 rfl (lv_at hl 2 rfl) ?_
      refine lv_iconst (v := nI 1) hx hb dX5_sums_108 (by decide) ?_
      refine lv_iload_n hx hb dX5_sums_109 rfl (lv_at hl 2 rfl) ?_
      refine call_vi B hA hW (92) (by omega) hM5.1 (r := _) rfl rfl (k_M_comes l G n ad w5 hn σ hM5 hs 4 1 4 (by decide) (sumsS (smc 4) (4 - 1)) L5) mf_X5_comes hw_453 rfl ⟨⟨rfl, rfl⟩, by decide, by decide⟩ ⟨Nat.zero_le _, Nat.zero_le _⟩ hl.1 rfl (Nat.le_of_ble_eq_true rfl) dX5_sums_110 (fun r w9 H locs hp9 hW => ?_)
      exact ret_i B hr hlk hW ⟨hp9.1, hp9.2.1, fun j hj => (hp9.2.2 j hj).trans (fr5 j (by omega))⟩ dX5_sums_113
    · exact absurd ((pk_lEQ (by omega) (by omega)).mp hne) (by omega)
set_option maxHeartbeats 4000000 in
set_option maxRecDepth 100000 in
theorem k_X5_squares (l : Launch) (G : zG) (n : Nat) (ad : Nat → Nat) (w : Nat → va_E) (hn : 111 ≤ n) (σ : zS) (hM : MOK G ad w σ) (hs : SOK σ) (x y : Int32) :
    Ci l G yX5_squares cdX5_squares (zr 5) n ad w [.ref (ad (92)), .int (x), .int (y)] (postM G ad w (st_squares σ x y)) := by
  obtain ⟨m92, ⟨f93, m93, v93⟩, ⟨f94, m94, v94⟩, ⟨f95, m95, v95⟩, ⟨f96, m96, v96⟩, ⟨f97, m97, v97⟩, mE2, mE4, mE6, mD, m102, m103, m104, m105, m106, m107, m108, ⟨f109, m109, v109⟩, m110⟩ := id hM
  have hsh := hs.1
  refine ent_i (cc := cX5_squares) (maxL := 6) (ret := (some .int)) (by decide +kernel) rfl (Nat.le_of_ble_eq_true rfl) ?_
  intro p e s m args below meth c A B hr hlk hA H locs ls hW hl
  have hx := B.1
  have hb := B.2.1
  have hl : lv_has ls 6 [(0, .ref (ad (92))), (1, .int (x)), (2, .int (y))] := hl
  have hxr := rngI x
  have hyr := rngI y
  refine lv_iload_n hx hb dX5_squares_0 rfl (lv_at hl 1 rfl) ?_
  refine r_i2l hx hb dX5_squares_1 ?_
  refine lv_lconst (v := lZ 1) hx hb dX5_squares_2 (by decide) ?_
  refine n_ldc2 B hw_595 (x := lZ (8)) (by decide) dX5_squares_3 ?_
  refine call_si B hA hW (k_M_isIn l G n ad w x.toInt 1 8 (by omega) (by omega) (by omega) (by omega) (by omega) (by omega)) mf_X5_isIn hw_462 rfl ⟨⟨rfl, rfl⟩, by decide, by decide⟩ ⟨Nat.zero_le _, Nat.zero_le _⟩ hl.1 rfl (Nat.le_of_ble_eq_true rfl) dX5_squares_6 (fun r w9 H locs hp hW => ?_)
  obtain ⟨e1, hp⟩ := hp
  rw [e1] at hW
  rcases hp with ⟨q1, q2, rfl⟩ | ⟨hnin, rfl⟩
  · refine n_if_eq (tgt := 24) hx hb (by omega) dX5_squares_9 (by decide) (fun hz => ?_) (fun hz => ?_)
    · exact absurd hz (by decide)
    · have p1 := q1
      have p2 := q2
      refine lv_iload_n hx hb dX5_squares_12 rfl (lv_at hl 2 rfl) ?_
      refine r_i2l hx hb dX5_squares_13 ?_
      refine lv_lconst (v := lZ 0) hx hb dX5_squares_14 (by decide) ?_
      refine n_ldc2 B hw_596 (x := lZ (99)) (by decide) dX5_squares_15 ?_
      refine call_si B hA hW (k_M_isIn l G n ad w y.toInt 0 99 (by omega) (by omega) (by omega) (by omega) (by omega) (by omega)) mf_X5_isIn hw_462 rfl ⟨⟨rfl, rfl⟩, by decide, by decide⟩ ⟨Nat.zero_le _, Nat.zero_le _⟩ hl.1 rfl (Nat.le_of_ble_eq_true rfl) dX5_squares_18 (fun r w9 H locs hp hW => ?_)
      obtain ⟨e1, hp⟩ := hp
      rw [e1] at hW
      rcases hp with ⟨q1, q2, rfl⟩ | ⟨hnin, rfl⟩
      · refine n_if_ne (tgt := 31) hx hb (by omega) dX5_squares_21 (by decide) (fun hz => ?_) (fun hz => ?_)
        · obtain ⟨s9, hs9, rfl⟩ := nI_of (x := x) (fun z => by rw [Int32.lt_iff_toInt_lt] at z; have e0 : (0 : Int32).toInt = 0 := rfl; omega)
          obtain ⟨t9, ht9, rfl⟩ := nI_of (x := y) (fun z => by rw [Int32.lt_iff_toInt_lt] at z; have e0 : (0 : Int32).toInt = 0 := rfl; omega)
          rw [nI_toInt hs9] at p1 p2
          rw [nI_toInt ht9] at q1 q2
          have hS : st_squares σ (nI s9) (nI t9) = (nI (sqN s9 t9), σ) := by
            unfold st_squares
            rw [cif_t ⟨⟨s9, by omega, by omega, rfl⟩, ⟨t9, by omega, rfl⟩⟩, cN_nI hs9, cN_nI ht9]
          rw [hS]
          obtain ⟨f107, x107⟩ := m107
          obtain ⟨f108, x108⟩ := m108
          refine lv_iconst (v := nI 0) hx hb dX5_squares_31 (by decide) ?_
          refine lv_istore_n (lv' := [(3, .int (nI (0))), (0, .ref (ad (92))), (1, .int (nI (s9))), (2, .int (nI (t9)))]) hx hb dX5_squares_32 rfl hl (by decide) rfl (fun ls hl => ?_)
          refine z_up (Wg := fun H locs ls => W p l e (zr 5) s m args below meth c H locs 0 0 _ (F0 m 33 ls [])) (I := fun q H locs ls => ∃ (w2 : Nat → va_E) (f : Nat → Int64), Wo G A s.heap n ad w2 H locs ∧ lv_has ls 6 [(3, .int (nI q)), (0, .ref (ad 92)), (1, .int (nI s9)), (2, .int (nI t9))] ∧ (∀ j, j ≠ 107 → w2 j = w j) ∧ w2 107 = eL G 100 f ∧ (∀ j, j < q → f j = lN (sqN 0 j))) (a := 0) (b := 100) (Nat.zero_le _) ?_ ?_ H locs ls ⟨w, f107, hW, hl, fun _ _ => rfl, x107, fun j h => by omega⟩
          · rintro q - hq ih H locs ls ⟨w2, f, hW, hl, h1, h2, h3⟩
            have e92b := (h1 92 (by decide)).trans m92
            refine lv_iload_n hx hb dX5_squares_33 rfl (lv_at hl 0 rfl) ?_
            refine lv_bipush (v := nI 100) hx hb dX5_squares_34 (by decide) ?_
            refine n_icmp_ge (tgt := 60) hx hb (by omega) (by omega) dX5_squares_36 (by decide) (fun hc => ?_) (fun hc => ?_)
            · omega
            · refine lv_aload_n hx hb dX5_squares_39 rfl (lv_at hl 1 rfl) ?_
              refine z_get B hW (92) (by omega) e92b rfl inX5 15 (by decide) hw_390 rfl (v := .ref (ad (107))) rfl dX5_squares_40 ?_
              refine lv_iload_n hx hb dX5_squares_43 rfl (lv_at hl 0 rfl) ?_
              refine lv_iload_n hx hb dX5_squares_44 rfl (lv_at hl 0 rfl) ?_
              refine n_if_ne (tgt := 52) hx hb (by omega) dX5_squares_45 (by decide) (fun hg => ?_) (fun hg => ?_)
              · refine lv_lconst (v := lN 0) hx hb dX5_squares_52 (by decide) ?_
                refine z_last B hW (107) (by omega) h2 (q) (by omega) (by decide) dX5_squares_53 (fun H locs hW => ?_)
                refine lv_iinc (v := (nI (q + 1))) (lv' := [(3, .int (nI (q + 1))), (0, .ref (ad (92))), (1, .int (nI (s9))), (2, .int (nI (t9)))]) hx hb dX5_squares_54 hl (k := 0) rfl (iinc1 _) (by decide) rfl (fun ls hl => ?_)
                refine lv_goto (tgt := 33) hx hb dX5_squares_57 (by decide) ?_
                refine ih H locs ls ⟨_, _, hW, hl, fun j hj => by rw [up_n hj]; exact h1 j hj, up_s, fun j hj => ?_⟩
                by_cases z : j = q
                · rw [z, pk_uLs]; show _ = lN (if q = 0 then 1 else 0); simp [hg]
                · rw [pk_uLn z]; exact h3 j (by omega)
              · refine lv_lconst (v := lN 1) hx hb dX5_squares_48 (by decide) ?_
                refine lv_goto (tgt := 53) hx hb dX5_squares_49 (by decide) ?_
                refine z_last B hW (107) (by omega) h2 (q) (by omega) (by decide) dX5_squares_53 (fun H locs hW => ?_)
                refine lv_iinc (v := (nI (q + 1))) (lv' := [(3, .int (nI (q + 1))), (0, .ref (ad (92))), (1, .int (nI (s9))), (2, .int (nI (t9)))]) hx hb dX5_squares_54 hl (k := 0) rfl (iinc1 _) (by decide) rfl (fun ls hl => ?_)
                refine lv_goto (tgt := 33) hx hb dX5_squares_57 (by decide) ?_
                refine ih H locs ls ⟨_, _, hW, hl, fun j hj => by rw [up_n hj]; exact h1 j hj, up_s, fun j hj => ?_⟩
                by_cases z : j = q
                · rw [z, pk_uLs]; show _ = lN (if q = 0 then 1 else 0); simp [hg]
                · rw [pk_uLn z]; exact h3 j (by omega)
          · rintro H locs ls ⟨w2, f, hW, hl, h1, h2, h3⟩
            refine lv_iload_n hx hb dX5_squares_33 rfl (lv_at hl 0 rfl) ?_
            refine lv_bipush (v := nI 100) hx hb dX5_squares_34 (by decide) ?_
            refine n_icmp_ge (tgt := 60) hx hb (by omega) (by omega) dX5_squares_36 (by decide) (fun hc => ?_) (fun hc => ?_)
            · refine lv_iconst (v := nI 0) hx hb dX5_squares_60 (by decide) ?_
              refine lv_istore_n (lv' := [(3, .int (nI (0))), (0, .ref (ad (92))), (1, .int (nI (s9))), (2, .int (nI (t9)))]) hx hb dX5_squares_61 rfl hl (by decide) rfl (fun ls hl => ?_)
              refine z_up (Wg := fun H locs ls => W p l e (zr 5) s m args below meth c H locs 0 0 _ (F0 m 62 ls [])) (I := fun e9 H locs ls => ∃ (w2 : Nat → va_E) (f g : Nat → Int64), Wo G A s.heap n ad w2 H locs ∧ lv_has ls 6 [(3, .int (nI e9)), (0, .ref (ad 92)), (1, .int (nI s9)), (2, .int (nI t9))] ∧ (∀ j, j ≠ 107 → j ≠ 108 → w2 j = w j) ∧ w2 107 = eL G 100 f ∧ w2 108 = eL G 100 g ∧ (∀ j, j < 100 → f j = lN (sqN e9 j))) (a := 0) (b := s9) (Nat.zero_le _) ?_ ?_ H locs ls ⟨w2, f, f108, hW, hl, fun j q1 _ => h1 j q1, h2, (h1 108 (by decide)).trans x108, h3⟩
              · rintro e9 - he9 ih H locs ls ⟨w2, f, g, hW, hl, h1, h2, h3, h4⟩
                refine lv_iload_n hx hb dX5_squares_62 rfl (lv_at hl 0 rfl) ?_
                refine lv_iload_n hx hb dX5_squares_63 rfl (lv_at hl 2 rfl) ?_
                refine n_icmp_ge (tgt := 179) hx hb (by omega) (by omega) dX5_squares_64 (by decide) (fun hc => ?_) (fun hc => ?_)
                · omega
                · refine lv_iconst (v := nI 0) hx hb dX5_squares_67 (by decide) ?_
                  refine lv_istore (lv' := [(4, .int (nI (0))), (3, .int (nI (e9))), (0, .ref (ad (92))), (1, .int (nI (s9))), (2, .int (nI (t9)))]) hx hb dX5_squares_68 hl (by decide) rfl (fun ls hl => ?_)
                  refine z_up (Wg := fun H locs ls => W p l e (zr 5) s m args below meth c H locs 0 0 _ (F0 m 70 ls [])) (I := fun k9 H locs ls => ∃ (w5 : Nat → va_E) (g5 : Nat → Int64), Wo G A s.heap n ad w5 H locs ∧ lv_has ls 6 [(4, .int (nI k9)), (3, .int (nI e9)), (0, .ref (ad 92)), (1, .int (nI s9)), (2, .int (nI t9))] ∧ (∀ j, j ≠ 108 → w5 j = w2 j) ∧ w5 108 = eL G 100 g5 ∧ (∀ j, j < k9 → g5 j = lN (sqN (e9 + 1) j))) (a := 0) (b := 100) (Nat.zero_le _) ?_ ?_ H locs ls ⟨w2, g, hW, hl, fun _ _ => rfl, h3, fun j h => by omega⟩
                  · rintro k9 - hk9 ih2 H locs ls ⟨w5, g5, hW, hl, c1, c2, c3⟩
                    have e92d := ((c1 92 (by decide)).trans (h1 92 (by decide) (by decide))).trans m92
                    have e107 := (c1 107 (by decide)).trans h2
                    refine lv_iload hx hb dX5_squares_70 (lv_at hl 0 rfl) ?_
                    refine lv_bipush (v := nI 100) hx hb dX5_squares_72 (by decide) ?_
                    refine n_icmp_ge (tgt := 143) hx hb (by omega) (by omega) dX5_squares_74 (by decide) (fun hc => ?_) (fun hc => ?_)
                    · omega
                    · refine lv_aload_n hx hb dX5_squares_77 rfl (lv_at hl 2 rfl) ?_
                      refine z_get B hW (92) (by omega) e92d rfl inX5 16 (by decide) hw_391 rfl (v := .ref (ad (108))) rfl dX5_squares_78 ?_
                      refine lv_iload hx hb dX5_squares_81 (lv_at hl 0 rfl) ?_
                      refine lv_aload_n hx hb dX5_squares_83 rfl (lv_at hl 2 rfl) ?_
                      refine z_get B hW (92) (by omega) e92d rfl inX5 15 (by decide) hw_390 rfl (v := .ref (ad (107))) rfl dX5_squares_84 ?_
                      refine lv_iload hx hb dX5_squares_87 (lv_at hl 0 rfl) ?_
                      refine z_lald B hW (107) (by omega) e107 (k9) (by omega) (by decide) (v := (lN (sqN e9 (k9)))) (h4 _ (by omega)) dX5_squares_89 ?_
                      refine z_last B hW (108) (by omega) c2 (k9) (by omega) (by decide) dX5_squares_90 (fun H locs hW => ?_)
                      refine lv_iconst (v := nI 1) hx hb dX5_squares_91 (by decide) ?_
                      refine lv_istore (lv' := [(5, .int (nI (1))), (4, .int (nI (k9))), (3, .int (nI (e9))), (0, .ref (ad (92))), (1, .int (nI (s9))), (2, .int (nI (t9)))]) hx hb dX5_squares_92 hl (by decide) rfl (fun ls hl => ?_)
                      have hrest : ∀ (r : Nat) (H : Heap) (locs : List Loc) (ls : Array Slot), r ≤ 11 → k9 < r * r → (∃ (w6 : Nat → va_E) (g6 : Nat → Int64), Wo G A s.heap n ad w6 H locs ∧ lv_has ls 6 [(5, .int (nI r)), (4, .int (nI k9)), (3, .int (nI e9)), (0, .ref (ad 92)), (1, .int (nI s9)), (2, .int (nI t9))] ∧ (∀ j, j ≠ 108 → w6 j = w2 j) ∧ w6 108 = eL G 100 g6 ∧ (∀ j, j < k9 → g6 j = lN (sqN (e9 + 1) j)) ∧ g6 k9 = lN (sqN e9 k9 + 2 * pS e9 k9 r)) → W p l e (zr 5) s m args below meth c H locs 0 0 (MQ below (va_Qi (postM G ad w (nI (sqN s9 t9), σ)) (Kp G n ad A) A) args s 0 0 A) (F0 m 137 ls []) := by
                        rintro r H locs ls hr11 hrr ⟨w6, g6, hW, hl, d1, d2, d3, d4⟩
                        refine lv_iinc (v := (nI (k9 + 1))) (lv' := [(4, .int (nI (k9 + 1))), (5, .int (nI (r))), (3, .int (nI (e9))), (0, .ref (ad (92))), (1, .int (nI (s9))), (2, .int (nI (t9)))]) hx hb dX5_squares_137 hl (k := 1) rfl (iinc1 _) (by decide) rfl (fun ls hl => ?_)
                        refine lv_goto (tgt := 70) hx hb dX5_squares_140 (by decide) ?_
                        refine ih2 H locs ls ⟨w6, g6, hW, lv_sub hl [0, 2, 3, 4, 5] rfl, d1, d2, fun j hj => ?_⟩
                        by_cases z : j = k9
                        · rw [z, sqN_succ hrr hr11]; exact d4
                        · exact d3 j (by omega)
                      refine z_up (Wg := fun H locs ls => W p l e (zr 5) s m args below meth c H locs 0 0 _ (F0 m 94 ls [])) (I := fun r H locs ls => ∃ (w6 : Nat → va_E) (g6 : Nat → Int64), Wo G A s.heap n ad w6 H locs ∧ lv_has ls 6 [(5, .int (nI r)), (4, .int (nI k9)), (3, .int (nI e9)), (0, .ref (ad 92)), (1, .int (nI s9)), (2, .int (nI t9))] ∧ (∀ j, j ≠ 108 → w6 j = w2 j) ∧ w6 108 = eL G 100 g6 ∧ (∀ j, j < k9 → g6 j = lN (sqN (e9 + 1) j)) ∧ g6 k9 = lN (sqN e9 k9 + 2 * pS e9 k9 r)) (a := 1) (b := 11) (by decide) ?_ ?_ H locs ls ⟨_, _, hW, hl, fun j hj => by rw [up_n hj]; exact c1 j hj, up_s, fun j hj => by rw [pk_uLn (by omega)]; exact c3 j hj, by rw [pk_uLs, pS_1, Nat.mul_zero, Nat.add_zero]⟩
                      · rintro r hr1 hr ih3 H locs ls ⟨w6, g6, hW, hl, d1, d2, d3, d4⟩
                        have hrl : r * r ≤ 10 * 10 := Nat.mul_le_mul (by omega) (by omega)
                        have e92e := ((d1 92 (by decide)).trans (h1 92 (by decide) (by decide))).trans m92
                        have e107e := (d1 107 (by decide)).trans h2
                        refine lv_iload hx hb dX5_squares_94 (lv_at hl 0 rfl) ?_
                        refine lv_iload hx hb dX5_squares_96 (lv_at hl 0 rfl) ?_
                        refine n_imul hx hb dX5_squares_98 ?_
                        refine lv_iload hx hb dX5_squares_99 (lv_at hl 1 rfl) ?_
                        refine n_icmp_gt (tgt := 137) hx hb (by omega) (by omega) dX5_squares_101 (by decide) (fun hg => ?_) (fun hg => ?_)
                        · exact hrest r H locs ls (by omega) hg ⟨w6, g6, hW, hl, d1, d2, d3, d4⟩
                        · refine lv_aload_n hx hb dX5_squares_104 rfl (lv_at hl 3 rfl) ?_
                          refine z_get B hW (92) (by omega) e92e rfl inX5 16 (by decide) hw_391 rfl (v := .ref (ad (108))) rfl dX5_squares_105 ?_
                          refine lv_iload hx hb dX5_squares_108 (lv_at hl 1 rfl) ?_
                          refine lv_dup2_11 hx hb dX5_squares_110 rfl rfl ?_
                          refine z_lald B hW (108) (by omega) d2 (k9) (by omega) (by decide) (v := (lN (sqN e9 k9 + 2 * pS e9 k9 r))) d4 dX5_squares_111 ?_
                          refine n_ldc2 B hw_448 (x := lN 2) (by decide) dX5_squares_112 ?_
                          refine lv_aload_n hx hb dX5_squares_115 rfl (lv_at hl 3 rfl) ?_
                          refine z_get B hW (92) (by omega) e92e rfl inX5 15 (by decide) hw_390 rfl (v := .ref (ad (107))) rfl dX5_squares_116 ?_
                          refine lv_iload hx hb dX5_squares_119 (lv_at hl 1 rfl) ?_
                          refine lv_iload hx hb dX5_squares_121 (lv_at hl 0 rfl) ?_
                          refine lv_iload hx hb dX5_squares_123 (lv_at hl 0 rfl) ?_
                          refine n_imul hx hb dX5_squares_125 ?_
                          refine n_isub hx hb (by omega) dX5_squares_126 ?_
                          refine z_lald B hW (107) (by omega) e107e (k9 - (r * r)) (by omega) (by decide) (v := (lN (sqN e9 (k9 - r * r)))) (h4 _ (by omega)) dX5_squares_127 ?_
                          refine n_lmul hx hb dX5_squares_128 ?_
                          refine n_ladd hx hb dX5_squares_129 ?_
                          refine topl (y := (lN (sqN e9 k9 + 2 * pS e9 k9 (r + 1)))) (by rw [pS_step hr1 hg, Nat.mul_add, Nat.add_assoc]) ?_
                          refine z_last B hW (108) (by omega) d2 (k9) (by omega) (by decide) dX5_squares_130 (fun H locs hW => ?_)
                          refine lv_iinc (v := (nI (r + 1))) (lv' := [(5, .int (nI (r + 1))), (4, .int (nI (k9))), (3, .int (nI (e9))), (0, .ref (ad (92))), (1, .int (nI (s9))), (2, .int (nI (t9)))]) hx hb dX5_squares_131 hl (k := 0) rfl (iinc1 _) (by decide) rfl (fun ls hl => ?_)
                          refine lv_goto (tgt := 94) hx hb dX5_squares_134 (by decide) ?_
                          refine ih3 H locs ls ⟨_, _, hW, hl, fun j hj => by rw [up_n hj]; exact d1 j hj, up_s, fun j hj => by rw [pk_uLn (by omega)]; exact d3 j hj, pk_uLs⟩
                      · rintro H locs ls ⟨w6, g6, hW, hl, d1, d2, d3, d4⟩
                        refine lv_iload hx hb dX5_squares_94 (lv_at hl 0 rfl) ?_
                        refine lv_iload hx hb dX5_squares_96 (lv_at hl 0 rfl) ?_
                        refine n_imul hx hb dX5_squares_98 ?_
                        refine lv_iload hx hb dX5_squares_99 (lv_at hl 1 rfl) ?_
                        refine n_icmp_gt (tgt := 137) hx hb (by omega) (by omega) dX5_squares_101 (by decide) (fun hg => ?_) (fun hg => ?_)
                        · exact hrest 11 H locs ls (by decide) hg ⟨w6, g6, hW, hl, d1, d2, d3, d4⟩
                        · omega
                  · rintro H locs ls ⟨w5, g5, hW, hl, c1, c2, c3⟩
                    refine lv_iload hx hb dX5_squares_70 (lv_at hl 0 rfl) ?_
                    refine lv_bipush (v := nI 100) hx hb dX5_squares_72 (by decide) ?_
                    refine n_icmp_ge (tgt := 143) hx hb (by omega) (by omega) dX5_squares_74 (by decide) (fun hc => ?_) (fun hc => ?_)
                    · refine lv_iconst (v := nI 0) hx hb dX5_squares_143 (by decide) ?_
                      refine lv_istore (lv' := [(4, .int (nI (0))), (3, .int (nI (e9))), (0, .ref (ad (92))), (1, .int (nI (s9))), (2, .int (nI (t9)))]) hx hb dX5_squares_144 hl (by decide) rfl (fun ls hl => ?_)
                      refine z_up (Wg := fun H locs ls => W p l e (zr 5) s m args below meth c H locs 0 0 _ (F0 m 146 ls [])) (I := fun q H locs ls => ∃ (w6 : Nat → va_E) (f6 : Nat → Int64), Wo G A s.heap n ad w6 H locs ∧ lv_has ls 6 [(4, .int (nI q)), (3, .int (nI e9)), (0, .ref (ad 92)), (1, .int (nI s9)), (2, .int (nI t9))] ∧ (∀ j, j ≠ 107 → w6 j = w5 j) ∧ w6 107 = eL G 100 f6 ∧ (∀ j, j < q → f6 j = lN (sqN (e9 + 1) j))) (a := 0) (b := 100) (Nat.zero_le _) ?_ ?_ H locs ls ⟨w5, f, hW, hl, fun _ _ => rfl, (c1 107 (by decide)).trans h2, fun j h => by omega⟩
                      · rintro q - hq ih3 H locs ls ⟨w6, f6, hW, hl, d1, d2, d3⟩
                        have e92e := (((d1 92 (by decide)).trans (c1 92 (by decide))).trans (h1 92 (by decide) (by decide))).trans m92
                        have e108e := (d1 108 (by decide)).trans c2
                        refine lv_iload hx hb dX5_squares_146 (lv_at hl 0 rfl) ?_
                        refine lv_bipush (v := nI 100) hx hb dX5_squares_148 (by decide) ?_
                        refine n_icmp_ge (tgt := 173) hx hb (by omega) (by omega) dX5_squares_150 (by decide) (fun hg => ?_) (fun hg => ?_)
                        · omega
                        · refine lv_aload_n hx hb dX5_squares_153 rfl (lv_at hl 2 rfl) ?_
                          refine z_get B hW (92) (by omega) e92e rfl inX5 15 (by decide) hw_390 rfl (v := .ref (ad (107))) rfl dX5_squares_154 ?_
                          refine lv_iload hx hb dX5_squares_157 (lv_at hl 0 rfl) ?_
                          refine lv_aload_n hx hb dX5_squares_159 rfl (lv_at hl 2 rfl) ?_
                          refine z_get B hW (92) (by omega) e92e rfl inX5 16 (by decide) hw_391 rfl (v := .ref (ad (108))) rfl dX5_squares_160 ?_
                          refine lv_iload hx hb dX5_squares_163 (lv_at hl 0 rfl) ?_
                          refine z_lald B hW (108) (by omega) e108e (q) (by omega) (by decide) (v := (lN (sqN (e9 + 1) q))) (c3 _ hq) dX5_squares_165 ?_
                          refine z_last B hW (107) (by omega) d2 (q) (by omega) (by decide) dX5_squares_166 (fun H locs hW => ?_)
                          refine lv_iinc (v := (nI (q + 1))) (lv' := [(4, .int (nI (q + 1))), (3, .int (nI (e9))), (0, .ref (ad (92))), (1, .int (nI (s9))), (2, .int (nI (t9)))]) hx hb dX5_squares_167 hl (k := 0) rfl (iinc1 _) (by decide) rfl (fun ls hl => ?_)
                          refine lv_goto (tgt := 146) hx hb dX5_squares_170 (by decide) ?_
                          refine ih3 H locs ls ⟨_, _, hW, hl, fun j hj => by rw [up_n hj]; exact d1 j hj, up_s, fun j hj => ?_⟩
                          by_cases z : j = q
                          · rw [z, pk_uLs]
                          · rw [pk_uLn z]; exact d3 j (by omega)
                      · rintro H locs ls ⟨w6, f6, hW, hl, d1, d2, d3⟩
                        refine lv_iload hx hb dX5_squares_146 (lv_at hl 0 rfl) ?_
                        refine lv_bipush (v := nI 100) hx hb dX5_squares_148 (by decide) ?_
                        refine n_icmp_ge (tgt := 173) hx hb (by omega) (by omega) dX5_squares_150 (by decide) (fun hg => ?_) (fun hg => ?_)
                        · refine lv_iinc (v := (nI (e9 + 1))) (lv' := [(3, .int (nI (e9 + 1))), (4, .int (nI (100))), (0, .ref (ad (92))), (1, .int (nI (s9))), (2, .int (nI (t9)))]) hx hb dX5_squares_173 hl (k := 1) rfl (iinc1 _) (by decide) rfl (fun ls hl => ?_)
                          refine lv_goto (tgt := 62) hx hb dX5_squares_176 (by decide) ?_
                          exact ih H locs ls ⟨w6, f6, g5, hW, lv_sub hl [0, 2, 3, 4] rfl, fun j q1 q2 => ((d1 j q1).trans (c1 j q2)).trans (h1 j q1 q2), d2, (d1 108 (by decide)).trans c2, d3⟩
                        · omega
                    · omega
              · rintro H locs ls ⟨w2, f, g, hW, hl, h1, h2, h3, h4⟩
                have e92b := (h1 92 (by decide) (by decide)).trans m92
                refine lv_iload_n hx hb dX5_squares_62 rfl (lv_at hl 0 rfl) ?_
                refine lv_iload_n hx hb dX5_squares_63 rfl (lv_at hl 2 rfl) ?_
                refine n_icmp_ge (tgt := 179) hx hb (by omega) (by omega) dX5_squares_64 (by decide) (fun hc => ?_) (fun hc => ?_)
                · refine lv_aload_n hx hb dX5_squares_179 rfl (lv_at hl 1 rfl) ?_
                  refine z_get B hW (92) (by omega) e92b rfl inX5 15 (by decide) hw_390 rfl (v := .ref (ad (107))) rfl dX5_squares_180 ?_
                  refine lv_iload_n hx hb dX5_squares_183 rfl (lv_at hl 3 rfl) ?_
                  refine z_lald B hW (107) (by omega) h2 (t9) (by omega) (by decide) (v := (lN (sqN s9 t9))) (h4 _ (by omega)) dX5_squares_184 ?_
                  refine n_l2i hx hb dX5_squares_185 ?_
                  refine ret_i B hr hlk hW ⟨rfl, hM.gen (fun j a1 a2 a3 a4 a5 a6 a7 a8 a9 a10 => h1 j a8 a9) ?_ ?_ ?_ ?_ ?_ ⟨f, h2⟩ ⟨g, h3⟩ ?_, fun j hj => h1 j (by omega) (by omega)⟩ dX5_squares_186
                  · rw [h1 102 (by decide) (by decide)]; exact m102
                  · rw [h1 103 (by decide) (by decide)]; exact m103
                  · rw [h1 104 (by decide) (by decide)]; exact m104
                  · rw [h1 105 (by decide) (by decide)]; exact m105
                  · rw [h1 106 (by decide) (by decide)]; exact m106
                  · rw [h1 110 (by decide) (by decide)]; exact m110
                · omega
            · omega
        · exact absurd hz (by decide)
      · refine n_if_ne (tgt := 31) hx hb (by omega) dX5_squares_21 (by decide) (fun hz => ?_) (fun hz => ?_)
        · exact absurd rfl hz
        · refine lv_aload_n hx hb dX5_squares_24 rfl (lv_at hl 0 rfl) ?_
          refine lv_bipush (v := -7) hx hb dX5_squares_25 (by decide) ?_
          refine call_vi B hA hW (92) (by omega) m92 (r := _) rfl rfl (k_M_no l G n ad w hn σ hM (-7) 7 (by decide) (by decide) (by decide)) mf_X5_no hw_449 rfl ⟨⟨rfl, rfl⟩, by decide, by decide⟩ ⟨Nat.zero_le _, Nat.zero_le _⟩ hl.1 rfl (Nat.le_of_ble_eq_true rfl) dX5_squares_27 (fun r w9 H locs hp hW => ?_)
          exact ret_i B hr hlk hW (by rw [show st_squares σ x y = ref σ 7 by unfold st_squares; rw [cif_f (fun q => hnin ((isF_rng (N := 100) (by omega)).mp q.2))]]; exact hp) dX5_squares_30
  · refine n_if_eq (tgt := 24) hx hb (by omega) dX5_squares_9 (by decide) (fun hz => ?_) (fun hz => ?_)
    · refine lv_aload_n hx hb dX5_squares_24 rfl (lv_at hl 0 rfl) ?_
      refine lv_bipush (v := -7) hx hb dX5_squares_25 (by decide) ?_
      refine call_vi B hA hW (92) (by omega) m92 (r := _) rfl rfl (k_M_no l G n ad w hn σ hM (-7) 7 (by decide) (by decide) (by decide)) mf_X5_no hw_449 rfl ⟨⟨rfl, rfl⟩, by decide, by decide⟩ ⟨Nat.zero_le _, Nat.zero_le _⟩ hl.1 rfl (Nat.le_of_ble_eq_true rfl) dX5_squares_27 (fun r w9 H locs hp hW => ?_)
      exact ret_i B hr hlk hW (by rw [show st_squares σ x y = ref σ 7 by unfold st_squares; rw [cif_f (fun ⟨⟨k, z1, z2, z3⟩, _⟩ => hnin (by rw [z3, nI_toInt (by omega)]; omega))]]; exact hp) dX5_squares_30
    · exact absurd rfl hz
