set_option maxHeartbeats 4000000 in
set_option maxRecDepth 100000 in
theorem k_X5_bracket (l : Launch) (G : zG) (n : Nat) (ad : Nat → Nat) (w : Nat → va_E) (hn : 111 ≤ n) (σ : zS) (hM : MOK G ad w σ) (hs : SOK σ) (f g : Int32) :
    Ci l G yX5_bracket cdX5_bracket (zr 5) n ad w [.ref (ad (92)), .int (f), .int (g)] (postM G ad w (st_bracket σ f g)) := by
  obtain ⟨m92, ⟨f93, m93, v93⟩, ⟨f94, m94, v94⟩, ⟨f95, m95, v95⟩, ⟨f96, m96, v96⟩, ⟨f97, m97, v97⟩, mE2, mE4, mE6, mD, m102, m103, m104, m105, m106, m107, m108, ⟨f109, m109, v109⟩, m110⟩ := id hM
  have hsh := hs.1
  refine ent_i (cc := cX5_bracket) (maxL := 4) (ret := (some .int)) (by decide +kernel) rfl (Nat.le_of_ble_eq_true rfl) ?_
  intro p e s m args below meth c A B hr hlk hA H locs ls hW hl
  have hx := B.1
  have hb := B.2.1
  have hl : lv_has ls 4 [(0, .ref (ad (92))), (1, .int (f)), (2, .int (g))] := hl
  refine lv_aload_n hx hb dX5_bracket_0 rfl (lv_at hl 0 rfl) ?_
  refine lv_iload_n hx hb dX5_bracket_1 rfl (lv_at hl 1 rfl) ?_
  refine call_vi B hA hW (92) (by omega) m92 (r := _) rfl rfl (k_M_isForm l G n ad w hn σ hM hs f) mf_X5_isForm hw_473 rfl ⟨⟨rfl, rfl⟩, by decide, by decide⟩ ⟨Nat.zero_le _, Nat.zero_le _⟩ hl.1 rfl (Nat.le_of_ble_eq_true rfl) dX5_bracket_2 (fun r w9 H locs hp hW => ?_)
  obtain ⟨e1, hp⟩ := hp
  rw [e1] at hW
  rcases hp with ⟨i, hi, rfl, rfl⟩ | ⟨hnf, rfl⟩
  · obtain ⟨w40_i, w2_i, k4_i, t40_i, r_i, s_i⟩ := hs.2.1 i hi
    have h16_i : i < 16 := by omega
    refine n_if_eq (tgt := 16) hx hb (by omega) dX5_bracket_5 (by decide) (fun hz => ?_) (fun hz => ?_)
    · exact absurd hz (by decide)
    · refine lv_aload_n hx hb dX5_bracket_8 rfl (lv_at hl 0 rfl) ?_
      refine lv_iload_n hx hb dX5_bracket_9 rfl (lv_at hl 2 rfl) ?_
      refine call_vi B hA hW (92) (by omega) m92 (r := _) rfl rfl (k_M_isForm l G n ad w hn σ hM hs g) mf_X5_isForm hw_473 rfl ⟨⟨rfl, rfl⟩, by decide, by decide⟩ ⟨Nat.zero_le _, Nat.zero_le _⟩ hl.1 rfl (Nat.le_of_ble_eq_true rfl) dX5_bracket_10 (fun r w9 H locs hp hW => ?_)
      obtain ⟨e1, hp⟩ := hp
      rw [e1] at hW
      rcases hp with ⟨j, hj, rfl, rfl⟩ | ⟨hnf, rfl⟩
      · obtain ⟨w40_j, w2_j, k4_j, t40_j, r_j, s_j⟩ := hs.2.1 j hj
        have h16_j : j < 16 := by omega
        refine n_if_ne (tgt := 23) hx hb (by omega) dX5_bracket_13 (by decide) (fun hz => ?_) (fun hz => ?_)
        · have hS : st_bracket σ (nI i) (nI j) = comeO σ (sW σ i + sW σ j + 2) (brS (sW σ i) (sW σ j) (sE σ i) (sE σ j)) := by
            unfold st_bracket
            rw [cif_t ⟨⟨i, hi, rfl⟩, ⟨j, hj, rfl⟩⟩, cN_nI (by omega), cN_nI (by omega)]
          rw [hS]
          obtain ⟨f106, x106⟩ := m106
          obtain ⟨f103, x103⟩ := m103
          refine lv_iconst (v := nI 0) hx hb dX5_bracket_23 (by decide) ?_
          refine lv_istore_n (lv' := [(3, .int (nI (0))), (0, .ref (ad (92))), (1, .int (nI (i))), (2, .int (nI (j)))]) hx hb dX5_bracket_24 rfl hl (by decide) rfl (fun ls hl => ?_)
          refine z_up (Wg := fun H locs ls => W p l e (zr 5) s m args below meth c H locs 0 0 _ (F0 m 25 ls [])) (I := fun q H locs ls => ∃ (w2 : Nat → va_E) (fA fB : Nat → Int64), Wo G A s.heap n ad w2 H locs ∧ lv_has ls 4 [(3, .int (nI q)), (0, .ref (ad 92)), (1, .int (nI i)), (2, .int (nI j))] ∧ (∀ r, r ≠ 106 → r ≠ 103 → w2 r = w r) ∧ w2 106 = eL G 48 fA ∧ w2 103 = eL G 48 fB ∧ (∀ r, r < q → fA r = lN (sE σ i r)) ∧ (∀ r, r < q → fB r = lN (thS (sE σ j) r))) (a := 0) (b := 48) (Nat.zero_le _) ?_ ?_ H locs ls ⟨w, f106, f103, hW, hl, fun _ _ _ => rfl, x106, x103, fun j h => by omega, fun j h => by omega⟩
          · rintro q - hq ih H locs ls ⟨w2, fA, fB, hW, hl, h1, hA2, hB2, hA3, hB3⟩
            have e92b := (h1 92 (by decide) (by decide)).trans hM.1
            obtain ⟨g93i, d93i, u93i⟩ := hM.ser hi
            obtain ⟨g93j, d93j, u93j⟩ := hM.ser hj
            have e93i := (h1 93 (by decide) (by decide)).trans d93i
            have e93j := (h1 93 (by decide) (by decide)).trans d93j
            have hmi : q * sE σ i q ≤ 47 * 1000003 := Nat.mul_le_mul (by omega) (Nat.le_of_lt (r_i q))
            have hmj : q * sE σ j q ≤ 47 * 1000003 := Nat.mul_le_mul (by omega) (Nat.le_of_lt (r_j q))
            refine lv_iload_n hx hb dX5_bracket_25 rfl (lv_at hl 0 rfl) ?_
            refine lv_bipush (v := nI 48) hx hb dX5_bracket_26 (by decide) ?_
            refine n_icmp_ge (tgt := 78) hx hb (by omega) (by omega) dX5_bracket_28 (by decide) (fun hc2 => ?_) (fun hc2 => ?_)
            · omega
            · refine lv_aload_n hx hb dX5_bracket_31 rfl (lv_at hl 1 rfl) ?_
              refine z_get B hW (92) (by omega) e92b rfl inX5 14 (by decide) hw_389 rfl (v := .ref (ad (106))) rfl dX5_bracket_32 ?_
              refine lv_iload_n hx hb dX5_bracket_35 rfl (lv_at hl 0 rfl) ?_
              refine lv_aload_n hx hb dX5_bracket_36 rfl (lv_at hl 1 rfl) ?_
              refine z_get B hW (92) (by omega) e92b rfl inX5 0 (by decide) hw_375 rfl (v := .ref (ad (93))) rfl dX5_bracket_37 ?_
              refine lv_bipush (v := nI 48) hx hb dX5_bracket_40 (by decide) ?_
              refine lv_iload_n hx hb dX5_bracket_42 rfl (lv_at hl 2 rfl) ?_
              refine n_imul hx hb dX5_bracket_43 ?_
              refine lv_iload_n hx hb dX5_bracket_44 rfl (lv_at hl 0 rfl) ?_
              refine n_iadd hx hb dX5_bracket_45 ?_
              refine z_lald B hW (93) (by omega) e93i ((48 * i) + q) (by omega) (by decide) (v := (lN (sE σ i q))) (u93i _ hq) dX5_bracket_46 ?_
              refine topl (y := (lN (sE σ i q))) rfl ?_
              refine z_last B hW (106) (by omega) hA2 (q) (by omega) (by decide) dX5_bracket_47 (fun H locs hW => ?_)
              obtain ⟨w3, hw3⟩ : ∃ w3, w3 = va_up w2 106 (eL G 48 (vp_updL fA q (lN (sE σ i q)))) := ⟨_, rfl⟩
              rw [← hw3] at hW
              have k3 : ∀ r, r ≠ 106 → w3 r = w2 r := fun r hr => by rw [hw3, up_n hr]
              have eA3 : w3 106 = eL G 48 (vp_updL fA q (lN (sE σ i q))) := by rw [hw3, up_s]
              have eB3 := (k3 103 (by decide)).trans hB2
              have e92c := (k3 92 (by decide)).trans e92b
              have e93jc := (k3 93 (by decide)).trans e93j
              refine lv_aload_n hx hb dX5_bracket_48 rfl (lv_at hl 1 rfl) ?_
              refine z_get B hW (92) (by omega) e92c rfl inX5 11 (by decide) hw_386 rfl (v := .ref (ad (103))) rfl dX5_bracket_49 ?_
              refine lv_iload_n hx hb dX5_bracket_52 rfl (lv_at hl 0 rfl) ?_
              refine lv_iload_n hx hb dX5_bracket_53 rfl (lv_at hl 0 rfl) ?_
              refine n_i2l hx hb (by omega) dX5_bracket_54 ?_
              refine lv_aload_n hx hb dX5_bracket_55 rfl (lv_at hl 1 rfl) ?_
              refine z_get B hW (92) (by omega) e92c rfl inX5 0 (by decide) hw_375 rfl (v := .ref (ad (93))) rfl dX5_bracket_56 ?_
              refine lv_bipush (v := nI 48) hx hb dX5_bracket_59 (by decide) ?_
              refine lv_iload_n hx hb dX5_bracket_61 rfl (lv_at hl 3 rfl) ?_
              refine n_imul hx hb dX5_bracket_62 ?_
              refine lv_iload_n hx hb dX5_bracket_63 rfl (lv_at hl 0 rfl) ?_
              refine n_iadd hx hb dX5_bracket_64 ?_
              refine z_lald B hW (93) (by omega) e93jc ((48 * j) + q) (by omega) (by decide) (v := (lN (sE σ j q))) (u93j _ hq) dX5_bracket_65 ?_
              refine n_lmul hx hb dX5_bracket_66 ?_
              refine n_ldc2 B hw_372 (x := lN 1000003) (by decide) dX5_bracket_67 ?_
              refine n_lrem hx hb (by omega) (by omega) (by omega) dX5_bracket_70 ?_
              refine topl (y := (lN (thS (sE σ j) q))) rfl ?_
              refine z_last B hW (103) (by omega) eB3 (q) (by omega) (by decide) dX5_bracket_71 (fun H locs hW => ?_)
              refine lv_iinc (v := (nI (q + 1))) (lv' := [(3, .int (nI (q + 1))), (0, .ref (ad (92))), (1, .int (nI (i))), (2, .int (nI (j)))]) hx hb dX5_bracket_72 hl (k := 0) rfl (iinc1 _) (by decide) rfl (fun ls hl => ?_)
              refine lv_goto (tgt := 25) hx hb dX5_bracket_75 (by decide) ?_
              refine ih H locs ls ⟨_, _, _, hW, hl, fun r q1 q2 => by rw [up_n q2, k3 r q1]; exact h1 r q1 q2, (up_n (by decide)).trans eA3, up_s, fun r hr => ?_, fun r hr => ?_⟩
              · by_cases z : r = q
                · rw [z, pk_uLs]
                · rw [pk_uLn z]; exact hA3 r (by omega)
              · by_cases z : r = q
                · rw [z, pk_uLs]
                · rw [pk_uLn z]; exact hB3 r (by omega)
          · rintro H locs ls ⟨w5, fA, fB, hW, hl, k5, hA2, hB2, hA3, hB3⟩
            refine lv_iload_n hx hb dX5_bracket_25 rfl (lv_at hl 0 rfl) ?_
            refine lv_bipush (v := nI 48) hx hb dX5_bracket_26 (by decide) ?_
            refine n_icmp_ge (tgt := 78) hx hb (by omega) (by omega) dX5_bracket_28 (by decide) (fun hc2 => ?_) (fun hc2 => ?_)
            · obtain ⟨wx, hwx⟩ : ∃ wx, wx = va_up w 106 (eL G 48 fA) := ⟨_, rfl⟩
              have hMx : MOK G ad wx σ := hM.s48 (k := 106) (by decide) ⟨fA, by rw [hwx, up_s]⟩ (fun r hr => by rw [hwx, up_n hr])
              have hM5 : MOK G ad w5 σ := hMx.s48 (k := 103) (by decide) ⟨fB, hB2⟩ (fun r hr => by
                by_cases z : r = 106
                · rw [z, hA2, hwx, up_s]
                · rw [k5 r z hr, hwx, up_n z])
              have LA : isL G w5 106 48 (sE σ i) := ⟨fA, hA2, hA3⟩
              have LB : isL G w5 103 48 (thS (sE σ j)) := ⟨fB, hB2, hB3⟩
              refine lv_aload_n hx hb dX5_bracket_78 rfl (lv_at hl 1 rfl) ?_
              refine lv_aload_n hx hb dX5_bracket_79 rfl (lv_at hl 1 rfl) ?_
              refine z_get B hW (92) (by omega) hM5.1 rfl inX5 14 (by decide) hw_389 rfl (v := .ref (ad (106))) rfl dX5_bracket_80 ?_
              refine lv_aload_n hx hb dX5_bracket_83 rfl (lv_at hl 1 rfl) ?_
              refine z_get B hW (92) (by omega) hM5.1 rfl inX5 11 (by decide) hw_386 rfl (v := .ref (ad (103))) rfl dX5_bracket_84 ?_
              refine call_vv B hA hW (92) (by omega) hM5.1 (r := _) rfl rfl (k_M_multiplies l G n ad w5 (nI (sH σ)) (rlI (sR σ)) hM5.1 hn 106 103 (sE σ i) (thS (sE σ j)) (by omega) (by omega) (by decide) LA LB r_i.s (fun r _ => Nat.mod_lt _ (by decide))) mf_X5_multiplies hw_465 rfl ⟨⟨rfl, rfl⟩, by decide, by decide⟩ ⟨Nat.zero_le _, Nat.zero_le _⟩ hl.1 rfl (Nat.le_of_ble_eq_true rfl) dX5_bracket_87 (fun w6 H locs hp hW => ?_)
              obtain ⟨fr6, L6⟩ := hp
              have hM6 : MOK G ad w6 σ := hM5.s48 (k := 106) (by decide) ⟨_, L6.choose_spec.1⟩ fr6
              obtain ⟨m92_6, ⟨f93_6, m93_6, v93_6⟩, ⟨f94_6, m94_6, v94_6⟩, ⟨f95_6, m95_6, v95_6⟩, ⟨f96_6, m96_6, v96_6⟩, ⟨f97_6, m97_6, v97_6⟩, mE2_6, mE4_6, mE6_6, mD_6, m102_6, m103_6, m104_6, m105_6, m106_6, m107_6, m108_6, ⟨f109_6, m109_6, v109_6⟩, m110_6⟩ := id hM6
              refine lv_iconst (v := nI 0) hx hb dX5_bracket_90 (by decide) ?_
              refine lv_istore_n (lv' := [(3, .int (nI (0))), (0, .ref (ad (92))), (1, .int (nI (i))), (2, .int (nI (j)))]) hx hb dX5_bracket_91 rfl hl (by decide) rfl (fun ls hl => ?_)
              obtain ⟨f102, x102⟩ := m102_6
              obtain ⟨f103b, x103b⟩ := m103_6
              refine z_up (Wg := fun H locs ls => W p l e (zr 5) s m args below meth c H locs 0 0 _ (F0 m 92 ls [])) (I := fun q H locs ls => ∃ (w2 : Nat → va_E) (fA fB : Nat → Int64), Wo G A s.heap n ad w2 H locs ∧ lv_has ls 4 [(3, .int (nI q)), (0, .ref (ad 92)), (1, .int (nI i)), (2, .int (nI j))] ∧ (∀ r, r ≠ 102 → r ≠ 103 → w2 r = w6 r) ∧ w2 102 = eL G 48 fA ∧ w2 103 = eL G 48 fB ∧ (∀ r, r < q → fA r = lN (thS (sE σ i) r)) ∧ (∀ r, r < q → fB r = lN (sE σ j r))) (a := 0) (b := 48) (Nat.zero_le _) ?_ ?_ H locs ls ⟨w6, f102, f103b, hW, hl, fun _ _ _ => rfl, x102, x103b, fun j h => by omega, fun j h => by omega⟩
              · rintro q - hq ih H locs ls ⟨w2, fA, fB, hW, hl, h1, hA2, hB2, hA3, hB3⟩
                have e92b := (h1 92 (by decide) (by decide)).trans hM6.1
                obtain ⟨g93i, d93i, u93i⟩ := hM6.ser hi
                obtain ⟨g93j, d93j, u93j⟩ := hM6.ser hj
                have e93i := (h1 93 (by decide) (by decide)).trans d93i
                have e93j := (h1 93 (by decide) (by decide)).trans d93j
                have hmi : q * sE σ i q ≤ 47 * 1000003 := Nat.mul_le_mul (by omega) (Nat.le_of_lt (r_i q))
                have hmj : q * sE σ j q ≤ 47 * 1000003 := Nat.mul_le_mul (by omega) (Nat.le_of_lt (r_j q))
                refine lv_iload_n hx hb dX5_bracket_92 rfl (lv_at hl 0 rfl) ?_
                refine lv_bipush (v := nI 48) hx hb dX5_bracket_93 (by decide) ?_
                refine n_icmp_ge (tgt := 145) hx hb (by omega) (by omega) dX5_bracket_95 (by decide) (fun hc2 => ?_) (fun hc2 => ?_)
                · omega
                · refine lv_aload_n hx hb dX5_bracket_98 rfl (lv_at hl 1 rfl) ?_
                  refine z_get B hW (92) (by omega) e92b rfl inX5 10 (by decide) hw_385 rfl (v := .ref (ad (102))) rfl dX5_bracket_99 ?_
                  refine lv_iload_n hx hb dX5_bracket_102 rfl (lv_at hl 0 rfl) ?_
                  refine lv_iload_n hx hb dX5_bracket_103 rfl (lv_at hl 0 rfl) ?_
                  refine n_i2l hx hb (by omega) dX5_bracket_104 ?_
                  refine lv_aload_n hx hb dX5_bracket_105 rfl (lv_at hl 1 rfl) ?_
                  refine z_get B hW (92) (by omega) e92b rfl inX5 0 (by decide) hw_375 rfl (v := .ref (ad (93))) rfl dX5_bracket_106 ?_
                  refine lv_bipush (v := nI 48) hx hb dX5_bracket_109 (by decide) ?_
                  refine lv_iload_n hx hb dX5_bracket_111 rfl (lv_at hl 2 rfl) ?_
                  refine n_imul hx hb dX5_bracket_112 ?_
                  refine lv_iload_n hx hb dX5_bracket_113 rfl (lv_at hl 0 rfl) ?_
                  refine n_iadd hx hb dX5_bracket_114 ?_
                  refine z_lald B hW (93) (by omega) e93i ((48 * i) + q) (by omega) (by decide) (v := (lN (sE σ i q))) (u93i _ hq) dX5_bracket_115 ?_
                  refine n_lmul hx hb dX5_bracket_116 ?_
                  refine n_ldc2 B hw_372 (x := lN 1000003) (by decide) dX5_bracket_117 ?_
                  refine n_lrem hx hb (by omega) (by omega) (by omega) dX5_bracket_120 ?_
                  refine topl (y := (lN (thS (sE σ i) q))) rfl ?_
                  refine z_last B hW (102) (by omega) hA2 (q) (by omega) (by decide) dX5_bracket_121 (fun H locs hW => ?_)
                  obtain ⟨w3, hw3⟩ : ∃ w3, w3 = va_up w2 102 (eL G 48 (vp_updL fA q (lN (thS (sE σ i) q)))) := ⟨_, rfl⟩
                  rw [← hw3] at hW
                  have k3 : ∀ r, r ≠ 102 → w3 r = w2 r := fun r hr => by rw [hw3, up_n hr]
                  have eA3 : w3 102 = eL G 48 (vp_updL fA q (lN (thS (sE σ i) q))) := by rw [hw3, up_s]
                  have eB3 := (k3 103 (by decide)).trans hB2
                  have e92c := (k3 92 (by decide)).trans e92b
                  have e93jc := (k3 93 (by decide)).trans e93j
                  refine lv_aload_n hx hb dX5_bracket_122 rfl (lv_at hl 1 rfl) ?_
                  refine z_get B hW (92) (by omega) e92c rfl inX5 11 (by decide) hw_386 rfl (v := .ref (ad (103))) rfl dX5_bracket_123 ?_
                  refine lv_iload_n hx hb dX5_bracket_126 rfl (lv_at hl 0 rfl) ?_
                  refine lv_aload_n hx hb dX5_bracket_127 rfl (lv_at hl 1 rfl) ?_
                  refine z_get B hW (92) (by omega) e92c rfl inX5 0 (by decide) hw_375 rfl (v := .ref (ad (93))) rfl dX5_bracket_128 ?_
                  refine lv_bipush (v := nI 48) hx hb dX5_bracket_131 (by decide) ?_
                  refine lv_iload_n hx hb dX5_bracket_133 rfl (lv_at hl 3 rfl) ?_
                  refine n_imul hx hb dX5_bracket_134 ?_
                  refine lv_iload_n hx hb dX5_bracket_135 rfl (lv_at hl 0 rfl) ?_
                  refine n_iadd hx hb dX5_bracket_136 ?_
                  refine z_lald B hW (93) (by omega) e93jc ((48 * j) + q) (by omega) (by decide) (v := (lN (sE σ j q))) (u93j _ hq) dX5_bracket_137 ?_
                  refine topl (y := (lN (sE σ j q))) rfl ?_
                  refine z_last B hW (103) (by omega) eB3 (q) (by omega) (by decide) dX5_bracket_138 (fun H locs hW => ?_)
                  refine lv_iinc (v := (nI (q + 1))) (lv' := [(3, .int (nI (q + 1))), (0, .ref (ad (92))), (1, .int (nI (i))), (2, .int (nI (j)))]) hx hb dX5_bracket_139 hl (k := 0) rfl (iinc1 _) (by decide) rfl (fun ls hl => ?_)
                  refine lv_goto (tgt := 92) hx hb dX5_bracket_142 (by decide) ?_
                  refine ih H locs ls ⟨_, _, _, hW, hl, fun r q1 q2 => by rw [up_n q2, k3 r q1]; exact h1 r q1 q2, (up_n (by decide)).trans eA3, up_s, fun r hr => ?_, fun r hr => ?_⟩
                  · by_cases z : r = q
                    · rw [z, pk_uLs]
                    · rw [pk_uLn z]; exact hA3 r (by omega)
                  · by_cases z : r = q
                    · rw [z, pk_uLs]
                    · rw [pk_uLn z]; exact hB3 r (by omega)
              · rintro H locs ls ⟨w7, fA, fB, hW, hl, k7, hA2, hB2, hA3, hB3⟩
                refine lv_iload_n hx hb dX5_bracket_92 rfl (lv_at hl 0 rfl) ?_
                refine lv_bipush (v := nI 48) hx hb dX5_bracket_93 (by decide) ?_
                refine n_icmp_ge (tgt := 145) hx hb (by omega) (by omega) dX5_bracket_95 (by decide) (fun hc2 => ?_) (fun hc2 => ?_)
                · obtain ⟨wy, hwy⟩ : ∃ wy, wy = va_up w6 102 (eL G 48 fA) := ⟨_, rfl⟩
                  have hMy : MOK G ad wy σ := hM6.s48 (k := 102) (by decide) ⟨fA, by rw [hwy, up_s]⟩ (fun r hr => by rw [hwy, up_n hr])
                  have hM7 : MOK G ad w7 σ := hMy.s48 (k := 103) (by decide) ⟨fB, hB2⟩ (fun r hr => by
                    by_cases z : r = 102
                    · rw [z, hA2, hwy, up_s]
                    · rw [k7 r z hr, hwy, up_n z])
                  have LC : isL G w7 102 48 (thS (sE σ i)) := ⟨fA, hA2, hA3⟩
                  have LD : isL G w7 103 48 (sE σ j) := ⟨fB, hB2, hB3⟩
                  refine lv_aload_n hx hb dX5_bracket_145 rfl (lv_at hl 1 rfl) ?_
                  refine lv_aload_n hx hb dX5_bracket_146 rfl (lv_at hl 1 rfl) ?_
                  refine z_get B hW (92) (by omega) hM7.1 rfl inX5 10 (by decide) hw_385 rfl (v := .ref (ad (102))) rfl dX5_bracket_147 ?_
                  refine lv_aload_n hx hb dX5_bracket_150 rfl (lv_at hl 1 rfl) ?_
                  refine z_get B hW (92) (by omega) hM7.1 rfl inX5 11 (by decide) hw_386 rfl (v := .ref (ad (103))) rfl dX5_bracket_151 ?_
                  refine call_vv B hA hW (92) (by omega) hM7.1 (r := _) rfl rfl (k_M_multiplies l G n ad w7 (nI (sH σ)) (rlI (sR σ)) hM7.1 hn 102 103 (thS (sE σ i)) (sE σ j) (by omega) (by omega) (by decide) LC LD (fun r _ => Nat.mod_lt _ (by decide)) r_j.s) mf_X5_multiplies hw_465 rfl ⟨⟨rfl, rfl⟩, by decide, by decide⟩ ⟨Nat.zero_le _, Nat.zero_le _⟩ hl.1 rfl (Nat.le_of_ble_eq_true rfl) dX5_bracket_154 (fun w8 H locs hp hW => ?_)
                  obtain ⟨fr8, L8⟩ := hp
                  have hM8 : MOK G ad w8 σ := hM7.s48 (k := 102) (by decide) ⟨_, L8.choose_spec.1⟩ fr8
                  obtain ⟨m92_8, ⟨f93_8, m93_8, v93_8⟩, ⟨f94_8, m94_8, v94_8⟩, ⟨f95_8, m95_8, v95_8⟩, ⟨f96_8, m96_8, v96_8⟩, ⟨f97_8, m97_8, v97_8⟩, mE2_8, mE4_8, mE6_8, mD_8, m102_8, m103_8, m104_8, m105_8, m106_8, m107_8, m108_8, ⟨f109_8, m109_8, v109_8⟩, m110_8⟩ := id hM8
                  have LL : isL G w8 106 48 (mulS (sE σ i) (thS (sE σ j))) := isL_of L6 ((fr8 106 (by decide)).trans (k7 106 (by decide) (by decide)))
                  obtain ⟨fL, eL8, vL8⟩ := LL
                  refine lv_iconst (v := nI 0) hx hb dX5_bracket_157 (by decide) ?_
                  refine lv_istore_n (lv' := [(3, .int (nI (0))), (0, .ref (ad (92))), (1, .int (nI (i))), (2, .int (nI (j)))]) hx hb dX5_bracket_158 rfl hl (by decide) rfl (fun ls hl => ?_)
                  obtain ⟨f0, x0, y0⟩ := L8
                  refine z_up (Wg := fun H locs ls => W p l e (zr 5) s m args below meth c H locs 0 0 _ (F0 m 159 ls [])) (I := fun q H locs ls => ∃ (w2 : Nat → va_E) (f : Nat → Int64), Wo G A s.heap n ad w2 H locs ∧ lv_has ls 4 [(3, .int (nI q)), (0, .ref (ad (92))), (1, .int (nI (i))), (2, .int (nI (j)))] ∧ (∀ j, j ≠ 102 → w2 j = w8 j) ∧ w2 102 = eL G 48 f ∧ (∀ j', j' < q → f j' = lN (brS (sW σ i) (sW σ j) (sE σ i) (sE σ j) j')) ∧ (∀ j', q ≤ j' → j' < 48 → f j' = lN (mulS (thS (sE σ i)) (sE σ j) j'))) (a := 0) (b := 48) (Nat.zero_le _) ?_ ?_ H locs ls ⟨w8, f0, hW, hl, fun _ _ => rfl, x0, fun j h => by omega, fun j _ hj => y0 j hj⟩
                  · rintro q - hq ih H locs ls ⟨w2, f, hW, hl, h1, h2, h3, h4⟩
                    have e92b := (h1 92 (by decide)).trans hM8.1
                    have e106b := (h1 106 (by decide)).trans eL8
                    have e95b := (h1 95 (by decide)).trans m95_8
                    have hm1 : sW σ i * mulS (sE σ i) (thS (sE σ j)) q ≤ 40 * 1000003 := Nat.mul_le_mul w40_i (Nat.le_of_lt (mulS_lt _ _ _))
                    have hm2 : (1000003 - sW σ j) * mulS (thS (sE σ i)) (sE σ j) q ≤ 1000003 * 1000003 := Nat.mul_le_mul (Nat.sub_le _ _) (Nat.le_of_lt (mulS_lt _ _ _))
                    refine lv_iload_n hx hb dX5_bracket_159 rfl (lv_at hl 0 rfl) ?_
                    refine lv_bipush (v := nI 48) hx hb dX5_bracket_160 (by decide) ?_
                    refine n_icmp_ge (tgt := 214) hx hb (by omega) (by omega) dX5_bracket_162 (by decide) (fun hc2 => ?_) (fun hc2 => ?_)
                    · omega
                    · refine lv_aload_n hx hb dX5_bracket_165 rfl (lv_at hl 1 rfl) ?_
                      refine z_get B hW (92) (by omega) e92b rfl inX5 10 (by decide) hw_385 rfl (v := .ref (ad (102))) rfl dX5_bracket_166 ?_
                      refine lv_iload_n hx hb dX5_bracket_169 rfl (lv_at hl 0 rfl) ?_
                      refine lv_aload_n hx hb dX5_bracket_170 rfl (lv_at hl 1 rfl) ?_
                      refine z_get B hW (92) (by omega) e92b rfl inX5 2 (by decide) hw_377 rfl (v := .ref (ad (95))) rfl dX5_bracket_171 ?_
                      refine lv_iload_n hx hb dX5_bracket_174 rfl (lv_at hl 2 rfl) ?_
                      refine z_iald B hW (95) (by omega) e95b (i) (by omega) (by decide) (v := (nI (sW σ (i)))) (v95_8 _ (by omega)) dX5_bracket_175 ?_
                      refine n_i2l hx hb (by omega) dX5_bracket_176 ?_
                      refine lv_aload_n hx hb dX5_bracket_177 rfl (lv_at hl 1 rfl) ?_
                      refine z_get B hW (92) (by omega) e92b rfl inX5 14 (by decide) hw_389 rfl (v := .ref (ad (106))) rfl dX5_bracket_178 ?_
                      refine lv_iload_n hx hb dX5_bracket_181 rfl (lv_at hl 0 rfl) ?_
                      refine z_lald B hW (106) (by omega) e106b (q) (by omega) (by decide) (v := (lN (mulS (sE σ i) (thS (sE σ j)) q))) (vL8 _ hq) dX5_bracket_182 ?_
                      refine n_lmul hx hb dX5_bracket_183 ?_
                      refine n_ldc2 B hw_372 (x := lN 1000003) (by decide) dX5_bracket_184 ?_
                      refine lv_aload_n hx hb dX5_bracket_187 rfl (lv_at hl 1 rfl) ?_
                      refine z_get B hW (92) (by omega) e92b rfl inX5 2 (by decide) hw_377 rfl (v := .ref (ad (95))) rfl dX5_bracket_188 ?_
                      refine lv_iload_n hx hb dX5_bracket_191 rfl (lv_at hl 3 rfl) ?_
                      refine z_iald B hW (95) (by omega) e95b (j) (by omega) (by decide) (v := (nI (sW σ (j)))) (v95_8 _ (by omega)) dX5_bracket_192 ?_
                      refine n_i2l hx hb (by omega) dX5_bracket_193 ?_
                      refine n_lsub hx hb (by omega) dX5_bracket_194 ?_
                      refine lv_aload_n hx hb dX5_bracket_195 rfl (lv_at hl 1 rfl) ?_
                      refine z_get B hW (92) (by omega) e92b rfl inX5 10 (by decide) hw_385 rfl (v := .ref (ad (102))) rfl dX5_bracket_196 ?_
                      refine lv_iload_n hx hb dX5_bracket_199 rfl (lv_at hl 0 rfl) ?_
                      refine z_lald B hW (102) (by omega) h2 (q) (by omega) (by decide) (v := (lN (mulS (thS (sE σ i)) (sE σ j) q))) (h4 _ (Nat.le_refl _) hq) dX5_bracket_200 ?_
                      refine n_lmul hx hb dX5_bracket_201 ?_
                      refine n_ladd hx hb dX5_bracket_202 ?_
                      refine n_ldc2 B hw_372 (x := lN 1000003) (by decide) dX5_bracket_203 ?_
                      refine n_lrem hx hb (by omega) (by omega) (by omega) dX5_bracket_206 ?_
                      refine topl (y := (lN (brS (sW σ i) (sW σ j) (sE σ i) (sE σ j) q))) rfl ?_
                      refine z_last B hW (102) (by omega) h2 (q) (by omega) (by decide) dX5_bracket_207 (fun H locs hW => ?_)
                      refine lv_iinc (v := (nI (q + 1))) (lv' := [(3, .int (nI (q + 1))), (0, .ref (ad (92))), (1, .int (nI (i))), (2, .int (nI (j)))]) hx hb dX5_bracket_208 hl (k := 0) rfl (iinc1 _) (by decide) rfl (fun ls hl => ?_)
                      refine lv_goto (tgt := 159) hx hb dX5_bracket_211 (by decide) ?_
                      refine ih H locs ls ⟨_, _, hW, hl, fun j hj => by rw [up_n hj]; exact h1 j hj, up_s, fun j hj => ?_, fun j hj1 hj2 => ?_⟩
                      · by_cases z : j = q
                        · rw [z, pk_uLs]
                        · rw [pk_uLn z]; exact h3 j (by omega)
                      · rw [pk_uLn (by omega)]; exact h4 j (by omega) hj2
                  · rintro H locs ls ⟨w2, f, hW, hl, h1, h2, h3, -⟩
                    have hMo : MOK G ad w2 σ := hM8.s48 (k := 102) (by decide) ⟨f, h2⟩ h1
                    obtain ⟨-, -, -, ⟨f95o, m95o, v95o⟩, -⟩ := id hMo
                    refine lv_iload_n hx hb dX5_bracket_159 rfl (lv_at hl 0 rfl) ?_
                    refine lv_bipush (v := nI 48) hx hb dX5_bracket_160 (by decide) ?_
                    refine n_icmp_ge (tgt := 214) hx hb (by omega) (by omega) dX5_bracket_162 (by decide) (fun hc2 => ?_) (fun hc2 => ?_)
                    · refine lv_aload_n hx hb dX5_bracket_214 rfl (lv_at hl 1 rfl) ?_
                      refine lv_aload_n hx hb dX5_bracket_215 rfl (lv_at hl 1 rfl) ?_
                      refine z_get B hW (92) (by omega) hMo.1 rfl inX5 2 (by decide) hw_377 rfl (v := .ref (ad (95))) rfl dX5_bracket_216 ?_
                      refine lv_iload_n hx hb dX5_bracket_219 rfl (lv_at hl 2 rfl) ?_
                      refine z_iald B hW (95) (by omega) m95o (i) (by omega) (by decide) (v := (nI (sW σ (i)))) (v95o _ (by omega)) dX5_bracket_220 ?_
                      refine lv_aload_n hx hb dX5_bracket_221 rfl (lv_at hl 1 rfl) ?_
                      refine z_get B hW (92) (by omega) hMo.1 rfl inX5 2 (by decide) hw_377 rfl (v := .ref (ad (95))) rfl dX5_bracket_222 ?_
                      refine lv_iload_n hx hb dX5_bracket_225 rfl (lv_at hl 3 rfl) ?_
                      refine z_iald B hW (95) (by omega) m95o (j) (by omega) (by decide) (v := (nI (sW σ (j)))) (v95o _ (by omega)) dX5_bracket_226 ?_
                      refine n_iadd hx hb dX5_bracket_227 ?_
                      refine lv_iconst (v := nI 2) hx hb dX5_bracket_228 (by decide) ?_
                      refine n_iadd hx hb dX5_bracket_229 ?_
                      refine call_vi B hA hW (92) (by omega) hMo.1 (r := _) rfl rfl (k_M_made l G n ad w2 hn σ hMo hs (sW σ i + sW σ j + 2) (by omega) (brS (sW σ i) (sW σ j) (sE σ i) (sE σ j)) ⟨f, h2, h3⟩ (Nat.mod_lt _ (by decide))) mf_X5_made hw_480 rfl ⟨⟨rfl, rfl⟩, by decide, by decide⟩ ⟨Nat.zero_le _, Nat.zero_le _⟩ hl.1 rfl (Nat.le_of_ble_eq_true rfl) dX5_bracket_230 (fun r w9 H locs hp9 hW => ?_)
                      exact ret_i B hr hlk hW ⟨hp9.1, hp9.2.1, fun j hj => (hp9.2.2 j hj).trans (((((h1 j (by omega)).trans (fr8 j (by omega))).trans (k7 j (by omega) (by omega))).trans (fr6 j (by omega))).trans (k5 j (by omega) (by omega)))⟩ dX5_bracket_233
                    · omega
                · omega
            · omega
        · exact absurd hz (by decide)
      · refine n_if_ne (tgt := 23) hx hb (by omega) dX5_bracket_13 (by decide) (fun hz => ?_) (fun hz => ?_)
        · exact absurd rfl hz
        · refine lv_aload_n hx hb dX5_bracket_16 rfl (lv_at hl 0 rfl) ?_
          refine lv_bipush (v := -3) hx hb dX5_bracket_17 (by decide) ?_
          refine call_vi B hA hW (92) (by omega) m92 (r := _) rfl rfl (k_M_no l G n ad w hn σ hM (-3) 3 (by decide) (by decide) (by decide)) mf_X5_no hw_449 rfl ⟨⟨rfl, rfl⟩, by decide, by decide⟩ ⟨Nat.zero_le _, Nat.zero_le _⟩ hl.1 rfl (Nat.le_of_ble_eq_true rfl) dX5_bracket_19 (fun r w9 H locs hp hW => ?_)
          exact ret_i B hr hlk hW (by rw [show st_bracket σ (nI i) g = ref σ 3 by unfold st_bracket; rw [cif_f (fun q => hnf q.2)]]; exact hp) dX5_bracket_22
  · refine n_if_eq (tgt := 16) hx hb (by omega) dX5_bracket_5 (by decide) (fun hz => ?_) (fun hz => ?_)
    · refine lv_aload_n hx hb dX5_bracket_16 rfl (lv_at hl 0 rfl) ?_
      refine lv_bipush (v := -3) hx hb dX5_bracket_17 (by decide) ?_
      refine call_vi B hA hW (92) (by omega) m92 (r := _) rfl rfl (k_M_no l G n ad w hn σ hM (-3) 3 (by decide) (by decide) (by decide)) mf_X5_no hw_449 rfl ⟨⟨rfl, rfl⟩, by decide, by decide⟩ ⟨Nat.zero_le _, Nat.zero_le _⟩ hl.1 rfl (Nat.le_of_ble_eq_true rfl) dX5_bracket_19 (fun r w9 H locs hp hW => ?_)
      exact ret_i B hr hlk hW (by rw [show st_bracket σ f g = ref σ 3 by unfold st_bracket; rw [cif_f (fun q => hnf q.1)]]; exact hp) dX5_bracket_22
    · exact absurd rfl hz
set_option maxHeartbeats 4000000 in
set_option maxRecDepth 100000 in
theorem k_X5_over (l : Launch) (G : zG) (n : Nat) (ad : Nat → Nat) (w : Nat → va_E) (hn : 111 ≤ n) (σ : zS) (hM : MOK G ad w σ) (hs : SOK σ) (f : Int32) :
    Ci l G yX5_over cdX5_over (zr 5) n ad w [.ref (ad (92)), .int (f)] (postM G ad w (st_over σ f)) := by
  obtain ⟨m92, ⟨f93, m93, v93⟩, ⟨f94, m94, v94⟩, ⟨f95, m95, v95⟩, ⟨f96, m96, v96⟩, ⟨f97, m97, v97⟩, mE2, mE4, mE6, mD, m102, m103, m104, m105, m106, m107, m108, ⟨f109, m109, v109⟩, m110⟩ := id hM
  have hsh := hs.1
  refine ent_i (cc := cX5_over) (maxL := 2) (ret := (some .int)) (by decide +kernel) rfl (Nat.le_of_ble_eq_true rfl) ?_
  intro p e s m args below meth c A B hr hlk hA H locs ls hW hl
  have hx := B.1
  have hb := B.2.1
  have hl : lv_has ls 2 [(0, .ref (ad (92))), (1, .int (f))] := hl
  refine lv_aload_n hx hb dX5_over_0 rfl (lv_at hl 0 rfl) ?_
  refine lv_iload_n hx hb dX5_over_1 rfl (lv_at hl 1 rfl) ?_
  refine call_vi B hA hW (92) (by omega) m92 (r := _) rfl rfl (k_M_isForm l G n ad w hn σ hM hs f) mf_X5_isForm hw_473 rfl ⟨⟨rfl, rfl⟩, by decide, by decide⟩ ⟨Nat.zero_le _, Nat.zero_le _⟩ hl.1 rfl (Nat.le_of_ble_eq_true rfl) dX5_over_2 (fun r w9 H locs hp hW => ?_)
  obtain ⟨e1, hp⟩ := hp
  rw [e1] at hW
  rcases hp with ⟨i, hi, rfl, rfl⟩ | ⟨hnf, rfl⟩
  · obtain ⟨w40_i, w2_i, k4_i, t40_i, r_i, s_i⟩ := hs.2.1 i hi
    have h16_i : i < 16 := by omega
    refine n_if_ne (tgt := 15) hx hb (by omega) dX5_over_5 (by decide) (fun hz => ?_) (fun hz => ?_)
    · have hS : st_over σ (nI i) = cif (12 ≤ sW σ i ∧ sE σ i 0 = 0) (comeO σ (sW σ i - 12) (ovrS (sW σ i) (sE σ i))) (ref σ 7) := by
        unfold st_over
        rw [cif_t ⟨i, hi, rfl⟩, cN_nI (by omega)]
      rw [hS]
      have hzl := zs_le (sW σ i) w40_i
      refine lv_aload_n hx hb dX5_over_15 rfl (lv_at hl 0 rfl) ?_
      refine z_get B hW (92) (by omega) m92 rfl inX5 2 (by decide) hw_377 rfl (v := .ref (ad (95))) rfl dX5_over_16 ?_
      refine lv_iload_n hx hb dX5_over_19 rfl (lv_at hl 1 rfl) ?_
      refine z_iald B hW (95) (by omega) m95 (i) (by omega) (by decide) (v := (nI (sW σ (i)))) (v95 _ (by omega)) dX5_over_20 ?_
      refine lv_bipush (v := nI 12) hx hb dX5_over_21 (by decide) ?_
      refine n_icmp_lt (tgt := 40) hx hb (by omega) (by omega) dX5_over_23 (by decide) (fun hc => ?_) (fun hc => ?_)
      · refine lv_aload_n hx hb dX5_over_40 rfl (lv_at hl 0 rfl) ?_
        refine lv_bipush (v := -7) hx hb dX5_over_41 (by decide) ?_
        refine call_vi B hA hW (92) (by omega) m92 (r := _) rfl rfl (k_M_no l G n ad w hn σ hM (-7) 7 (by decide) (by decide) (by decide)) mf_X5_no hw_449 rfl ⟨⟨rfl, rfl⟩, by decide, by decide⟩ ⟨Nat.zero_le _, Nat.zero_le _⟩ hl.1 rfl (Nat.le_of_ble_eq_true rfl) dX5_over_43 (fun r w9 H locs hp hW => ?_)
        exact ret_i B hr hlk hW (by rw [cif_f (fun q => by omega)]; exact hp) dX5_over_46
      · refine lv_aload_n hx hb dX5_over_26 rfl (lv_at hl 0 rfl) ?_
        refine z_get B hW (92) (by omega) m92 rfl inX5 0 (by decide) hw_375 rfl (v := .ref (ad (93))) rfl dX5_over_27 ?_
        refine lv_bipush (v := nI 48) hx hb dX5_over_30 (by decide) ?_
        refine lv_iload_n hx hb dX5_over_32 rfl (lv_at hl 1 rfl) ?_
        refine n_imul hx hb dX5_over_33 ?_
        refine z_lald B hW (93) (by omega) m93 (48 * i) (by omega) (by decide) (v := (lN (sE σ i 0))) (v93 _ hi 0 (by decide)) dX5_over_34 ?_
        refine lv_lconst (v := lN 0) hx hb dX5_over_35 (by decide) ?_
        refine lc_eq (tgt := 47) hx hb dX5_over_36 dX5_over_37 (by decide) (fun hd => ?_) (fun hd => ?_)
        · have h0 : sE σ i 0 = 0 := (lN_inj (r_i 0) (by decide)).mp hd
          rw [cif_t ⟨hc, h0⟩]
          have hzd := zs_down (sW σ i) w40_i w2_i hc
          refine lv_aload_n hx hb dX5_over_47 rfl (lv_at hl 0 rfl) ?_
          refine lv_aload_n hx hb dX5_over_48 rfl (lv_at hl 0 rfl) ?_
          refine z_get B hW (92) (by omega) m92 rfl inX5 14 (by decide) hw_389 rfl (v := .ref (ad (106))) rfl dX5_over_49 ?_
          refine lv_iload_n hx hb dX5_over_52 rfl (lv_at hl 1 rfl) ?_
          obtain ⟨g93_2, d93_2, u93_2⟩ := hM.ser (i := i) (by omega)
          refine call_vv B hA hW (92) (by omega) m92 (r := _) rfl rfl (k_M_takes l G n ad w (nI (sH σ)) (rlI (sR σ)) hM.1 hn 106 i (sE σ i) g93_2 d93_2 u93_2 (by omega) (by omega) (by decide) (by decide) hM.2.2.2.2.2.2.2.2.2.2.2.2.2.2.1) mf_X5_takes hw_488 rfl ⟨⟨rfl, rfl⟩, by decide, by decide⟩ ⟨Nat.zero_le _, Nat.zero_le _⟩ hl.1 rfl (Nat.le_of_ble_eq_true rfl) dX5_over_53 (fun w2 H locs hp hW => ?_)
          obtain ⟨fr2, L2⟩ := hp
          have hM2 : MOK G ad w2 σ := hM.s48 (k := 106) (by decide) ⟨_, L2.choose_spec.1⟩ fr2
          obtain ⟨m92_2, ⟨f93_2, m93_2, v93_2⟩, ⟨f94_2, m94_2, v94_2⟩, ⟨f95_2, m95_2, v95_2⟩, ⟨f96_2, m96_2, v96_2⟩, ⟨f97_2, m97_2, v97_2⟩, mE2_2, mE4_2, mE6_2, mD_2, m102_2, m103_2, m104_2, m105_2, m106_2, m107_2, m108_2, ⟨f109_2, m109_2, v109_2⟩, m110_2⟩ := id hM2
          obtain ⟨fL2, eL2, vL2⟩ := id L2
          refine lv_aload_n hx hb dX5_over_56 rfl (lv_at hl 0 rfl) ?_
          refine lv_aload_n hx hb dX5_over_57 rfl (lv_at hl 0 rfl) ?_
          refine z_get B hW (92) (by omega) m92_2 rfl inX5 14 (by decide) hw_389 rfl (v := .ref (ad (106))) rfl dX5_over_58 ?_
          refine lv_aload_n hx hb dX5_over_61 rfl (lv_at hl 0 rfl) ?_
          refine z_get B hW (92) (by omega) m92_2 rfl inX5 2 (by decide) hw_377 rfl (v := .ref (ad (95))) rfl dX5_over_62 ?_
          refine lv_iload_n hx hb dX5_over_65 rfl (lv_at hl 1 rfl) ?_
          refine z_iald B hW (95) (by omega) m95_2 (i) (by omega) (by decide) (v := (nI (sW σ (i)))) (v95_2 _ (by omega)) dX5_over_66 ?_
          refine call_vv B hA hW (92) (by omega) m92_2 (r := _) rfl rfl (k_M_finds l G n ad w2 (nI (sH σ)) (rlI (sR σ)) hM2.1 hn hM2.2.2.2.2.2.2.2.2.2.1 hM2.2.2.2.2.2.2.2.1 hM2.2.2.2.2.2.2.2.2.1 106 (sW σ i) (sE σ i) w40_i w2_i (by omega) (by decide) (by decide) (by decide) fL2 eL2 (fun q hq => vL2 q (by omega)) (fun q _ => r_i q) hM2.2.2.2.2.2.2.2.2.2.2.2.1 hM2.2.2.2.2.2.2.2.2.2.2.2.2.1 hM2.2.2.2.2.2.2.2.2.2.2.2.2.2.1) mf_X5_finds hw_509 rfl ⟨⟨rfl, rfl⟩, by decide, by decide⟩ ⟨Nat.zero_le _, Nat.zero_le _⟩ hl.1 rfl (Nat.le_of_ble_eq_true rfl) dX5_over_67 (fun w3 H locs hp hW => ?_)
          obtain ⟨fr3, h33, h43, p3, x3, v3⟩ := hp
          have hM3 : MOK G ad w3 σ := hM2.fin fr3 h33 h43 ⟨_, x3⟩
          obtain ⟨m92_3, ⟨f93_3, m93_3, v93_3⟩, ⟨f94_3, m94_3, v94_3⟩, ⟨f95_3, m95_3, v95_3⟩, ⟨f96_3, m96_3, v96_3⟩, ⟨f97_3, m97_3, v97_3⟩, mE2_3, mE4_3, mE6_3, mD_3, m102_3, m103_3, m104_3, m105_3, m106_3, m107_3, m108_3, ⟨f109_3, m109_3, v109_3⟩, m110_3⟩ := id hM3
          refine lv_aload_n hx hb dX5_over_70 rfl (lv_at hl 0 rfl) ?_
          refine lv_aload_n hx hb dX5_over_71 rfl (lv_at hl 0 rfl) ?_
          refine z_get B hW (92) (by omega) m92_3 rfl inX5 2 (by decide) hw_377 rfl (v := .ref (ad (95))) rfl dX5_over_72 ?_
          refine lv_iload_n hx hb dX5_over_75 rfl (lv_at hl 1 rfl) ?_
          refine z_iald B hW (95) (by omega) m95_3 (i) (by omega) (by decide) (v := (nI (sW σ (i)))) (v95_3 _ (by omega)) dX5_over_76 ?_
          refine lv_bipush (v := nI 12) hx hb dX5_over_77 (by decide) ?_
          refine n_isub hx hb (by omega) dX5_over_79 ?_
          refine lv_iconst (v := nI 1) hx hb dX5_over_80 (by decide) ?_
          refine call_vv B hA hW (92) (by omega) m92_3 (r := _) rfl rfl (k_M_builds l G n ad w3 (nI (sH σ)) (rlI (sR σ)) hM3.1 hn hM3.2.2.2.2.2.2.2.2.2.1 hM3.2.2.2.2.2.2.2.1 hM3.2.2.2.2.2.2.2.2.1 (sW σ i - 12) 1 (fun q => prt (bas (sW σ i)) (sE σ i) (q + 1)) (by omega) (by omega) (by omega) p3 x3 (fun q hq => v3 (q + 1) (by omega)) (fun q _ => prt_lt (r_i _)) hM3.2.2.2.2.2.2.2.2.2.2.1 hM3.2.2.2.2.2.2.2.2.2.2.2.2.1) mf_X5_builds hw_523 rfl ⟨⟨rfl, rfl⟩, by decide, by decide⟩ ⟨Nat.zero_le _, Nat.zero_le _⟩ hl.1 rfl (Nat.le_of_ble_eq_true rfl) dX5_over_81 (fun w4 H locs hp hW => ?_)
          obtain ⟨fr4, h44, L4⟩ := hp
          have hM4 : MOK G ad w4 σ := hM3.bui fr4 ⟨_, L4.choose_spec.1⟩ h44
          obtain ⟨m92_4, ⟨f93_4, m93_4, v93_4⟩, ⟨f94_4, m94_4, v94_4⟩, ⟨f95_4, m95_4, v95_4⟩, ⟨f96_4, m96_4, v96_4⟩, ⟨f97_4, m97_4, v97_4⟩, mE2_4, mE4_4, mE6_4, mD_4, m102_4, m103_4, m104_4, m105_4, m106_4, m107_4, m108_4, ⟨f109_4, m109_4, v109_4⟩, m110_4⟩ := id hM4
          refine lv_aload_n hx hb dX5_over_84 rfl (lv_at hl 0 rfl) ?_
          refine lv_aload_n hx hb dX5_over_85 rfl (lv_at hl 0 rfl) ?_
          refine z_get B hW (92) (by omega) m92_4 rfl inX5 2 (by decide) hw_377 rfl (v := .ref (ad (95))) rfl dX5_over_86 ?_
          refine lv_iload_n hx hb dX5_over_89 rfl (lv_at hl 1 rfl) ?_
          refine z_iald B hW (95) (by omega) m95_4 (i) (by omega) (by decide) (v := (nI (sW σ (i)))) (v95_4 _ (by omega)) dX5_over_90 ?_
          refine lv_bipush (v := nI 12) hx hb dX5_over_91 (by decide) ?_
          refine n_isub hx hb (by omega) dX5_over_93 ?_
          refine call_vi B hA hW (92) (by omega) m92_4 (r := _) rfl rfl (k_M_made l G n ad w4 hn σ hM4 hs (sW σ i - 12) (by omega) (ovrS (sW σ i) (sE σ i)) L4 (bld_lt _ _ _ _)) mf_X5_made hw_480 rfl ⟨⟨rfl, rfl⟩, by decide, by decide⟩ ⟨Nat.zero_le _, Nat.zero_le _⟩ hl.1 rfl (Nat.le_of_ble_eq_true rfl) dX5_over_94 (fun r w9 H locs hp9 hW => ?_)
          exact ret_i B hr hlk hW ⟨hp9.1, hp9.2.1, fun j hj => (hp9.2.2 j hj).trans (((fr4 j (by omega) (by omega)).trans (fr3 j (by omega) (by omega) (by omega))).trans (fr2 j (by omega)))⟩ dX5_over_97
        · refine lv_aload_n hx hb dX5_over_40 rfl (lv_at hl 0 rfl) ?_
          refine lv_bipush (v := -7) hx hb dX5_over_41 (by decide) ?_
          refine call_vi B hA hW (92) (by omega) m92 (r := _) rfl rfl (k_M_no l G n ad w hn σ hM (-7) 7 (by decide) (by decide) (by decide)) mf_X5_no hw_449 rfl ⟨⟨rfl, rfl⟩, by decide, by decide⟩ ⟨Nat.zero_le _, Nat.zero_le _⟩ hl.1 rfl (Nat.le_of_ble_eq_true rfl) dX5_over_43 (fun r w9 H locs hp hW => ?_)
          exact ret_i B hr hlk hW (by rw [cif_f (fun q => hd (by rw [q.2]))]; exact hp) dX5_over_46
    · exact absurd hz (by decide)
  · refine n_if_ne (tgt := 15) hx hb (by omega) dX5_over_5 (by decide) (fun hz => ?_) (fun hz => ?_)
    · exact absurd rfl hz
    · refine lv_aload_n hx hb dX5_over_8 rfl (lv_at hl 0 rfl) ?_
      refine lv_bipush (v := -3) hx hb dX5_over_9 (by decide) ?_
      refine call_vi B hA hW (92) (by omega) m92 (r := _) rfl rfl (k_M_no l G n ad w hn σ hM (-3) 3 (by decide) (by decide) (by decide)) mf_X5_no hw_449 rfl ⟨⟨rfl, rfl⟩, by decide, by decide⟩ ⟨Nat.zero_le _, Nat.zero_le _⟩ hl.1 rfl (Nat.le_of_ble_eq_true rfl) dX5_over_11 (fun r w9 H locs hp hW => ?_)
      exact ret_i B hr hlk hW (by rw [show st_over σ f = ref σ 3 by unfold st_over; rw [cif_f hnf]]; exact hp) dX5_over_14
set_option maxHeartbeats 4000000 in
set_option maxRecDepth 100000 in
theorem k_X5_part (l : Launch) (G : zG) (n : Nat) (ad : Nat → Nat) (w : Nat → va_E) (hn : 111 ≤ n) (σ : zS) (hM : MOK G ad w σ) (hs : SOK σ) (f x : Int32) :
    Ci l G yX5_part cdX5_part (zr 5) n ad w [.ref (ad (92)), .int (f), .int (x)] (postM G ad w (st_part σ f x)) := by
  obtain ⟨m92, ⟨f93, m93, v93⟩, ⟨f94, m94, v94⟩, ⟨f95, m95, v95⟩, ⟨f96, m96, v96⟩, ⟨f97, m97, v97⟩, mE2, mE4, mE6, mD, m102, m103, m104, m105, m106, m107, m108, ⟨f109, m109, v109⟩, m110⟩ := id hM
  have hsh := hs.1
  refine ent_i (cc := cX5_part) (maxL := 3) (ret := (some .int)) (by decide +kernel) rfl (Nat.le_of_ble_eq_true rfl) ?_
  intro p e s m args below meth c A B hr hlk hA H locs ls hW hl
  have hx := B.1
  have hb := B.2.1
  have hl : lv_has ls 3 [(0, .ref (ad (92))), (1, .int (f)), (2, .int (x))] := hl
  have hxr := rngI x
  refine lv_aload_n hx hb dX5_part_0 rfl (lv_at hl 0 rfl) ?_
  refine lv_iload_n hx hb dX5_part_1 rfl (lv_at hl 1 rfl) ?_
  refine call_vi B hA hW (92) (by omega) m92 (r := _) rfl rfl (k_M_isForm l G n ad w hn σ hM hs f) mf_X5_isForm hw_473 rfl ⟨⟨rfl, rfl⟩, by decide, by decide⟩ ⟨Nat.zero_le _, Nat.zero_le _⟩ hl.1 rfl (Nat.le_of_ble_eq_true rfl) dX5_part_2 (fun r w9 H locs hp hW => ?_)
  obtain ⟨e1, hp⟩ := hp
  rw [e1] at hW
  rcases hp with ⟨i, hi, rfl, rfl⟩ | ⟨hnf, rfl⟩
  · obtain ⟨w40_i, w2_i, k4_i, t40_i, r_i, s_i⟩ := hs.2.1 i hi
    have h16_i : i < 16 := by omega
    refine n_if_eq (tgt := 29) hx hb (by omega) dX5_part_5 (by decide) (fun hz => ?_) (fun hz => ?_)
    · exact absurd hz (by decide)
    · have hzl := zs_le (sW σ i) w40_i
      refine lv_iload_n hx hb dX5_part_8 rfl (lv_at hl 2 rfl) ?_
      refine r_i2l hx hb dX5_part_9 ?_
      refine lv_lconst (v := lZ 0) hx hb dX5_part_10 (by decide) ?_
      refine lv_aload_n hx hb dX5_part_11 rfl (lv_at hl 0 rfl) ?_
      refine z_get B hW (92) (by omega) m92 rfl inX5 2 (by decide) hw_377 rfl (v := .ref (ad (95))) rfl dX5_part_12 ?_
      refine lv_iload_n hx hb dX5_part_15 rfl (lv_at hl 1 rfl) ?_
      refine z_iald B hW (95) (by omega) m95 (i) (by omega) (by decide) (v := (nI (sW σ (i)))) (v95 _ (by omega)) dX5_part_16 ?_
      refine call_si B hA hW (k_M_sizeOf l G n ad w (sW σ i) w40_i w2_i) mf_X5_sizeOf hw_513 rfl ⟨⟨rfl, rfl⟩, by decide, by decide⟩ ⟨Nat.zero_le _, Nat.zero_le _⟩ hl.1 rfl (Nat.le_of_ble_eq_true rfl) dX5_part_17 (fun r w9 H locs hp hW => ?_)
      obtain ⟨e1, e2⟩ := hp
      rw [e1] at hW
      subst e2
      refine lv_iconst (v := nI 1) hx hb dX5_part_20 (by decide) ?_
      refine lv_isub hx hb dX5_part_21 ?_
      refine topi (y := (iZ (((zs (sW σ i) : Nat) : Int) - 1))) (by rw [nI_Z, nI_Z, iZ_sub]; rfl) ?_
      refine z_i2l hx hb (by omega) (by omega) dX5_part_22 ?_
      refine call_si B hA hW (k_M_isIn l G n ad w x.toInt 0 (((zs (sW σ i) : Nat) : Int) - 1) (by omega) (by omega) (by omega) (by omega) (by omega) (by omega)) mf_X5_isIn hw_462 rfl ⟨⟨rfl, rfl⟩, by decide, by decide⟩ ⟨Nat.zero_le _, Nat.zero_le _⟩ hl.1 rfl (Nat.le_of_ble_eq_true rfl) dX5_part_23 (fun r w9 H locs hp hW => ?_)
      obtain ⟨e1, hp⟩ := hp
      rw [e1] at hW
      rcases hp with ⟨q1, q2, rfl⟩ | ⟨hnin, rfl⟩
      · refine n_if_ne (tgt := 36) hx hb (by omega) dX5_part_26 (by decide) (fun hz => ?_) (fun hz => ?_)
        · obtain ⟨q9, hq9, rfl⟩ := nI_of (x := x) (fun z => by rw [Int32.lt_iff_toInt_lt] at z; have e0 : (0 : Int32).toInt = 0 := rfl; omega)
          rw [nI_toInt hq9] at q1 q2
          refine lv_aload_n hx hb dX5_part_36 rfl (lv_at hl 0 rfl) ?_
          refine lv_aload_n hx hb dX5_part_37 rfl (lv_at hl 0 rfl) ?_
          refine z_get B hW (92) (by omega) m92 rfl inX5 14 (by decide) hw_389 rfl (v := .ref (ad (106))) rfl dX5_part_38 ?_
          refine lv_iload_n hx hb dX5_part_41 rfl (lv_at hl 1 rfl) ?_
          obtain ⟨g93_2, d93_2, u93_2⟩ := hM.ser (i := i) (by omega)
          refine call_vv B hA hW (92) (by omega) m92 (r := _) rfl rfl (k_M_takes l G n ad w (nI (sH σ)) (rlI (sR σ)) hM.1 hn 106 i (sE σ i) g93_2 d93_2 u93_2 (by omega) (by omega) (by decide) (by decide) hM.2.2.2.2.2.2.2.2.2.2.2.2.2.2.1) mf_X5_takes hw_488 rfl ⟨⟨rfl, rfl⟩, by decide, by decide⟩ ⟨Nat.zero_le _, Nat.zero_le _⟩ hl.1 rfl (Nat.le_of_ble_eq_true rfl) dX5_part_42 (fun w2 H locs hp hW => ?_)
          obtain ⟨fr2, L2⟩ := hp
          have hM2 : MOK G ad w2 σ := hM.s48 (k := 106) (by decide) ⟨_, L2.choose_spec.1⟩ fr2
          obtain ⟨m92_2, ⟨f93_2, m93_2, v93_2⟩, ⟨f94_2, m94_2, v94_2⟩, ⟨f95_2, m95_2, v95_2⟩, ⟨f96_2, m96_2, v96_2⟩, ⟨f97_2, m97_2, v97_2⟩, mE2_2, mE4_2, mE6_2, mD_2, m102_2, m103_2, m104_2, m105_2, m106_2, m107_2, m108_2, ⟨f109_2, m109_2, v109_2⟩, m110_2⟩ := id hM2
          obtain ⟨fL2, eL2, vL2⟩ := id L2
          refine lv_aload_n hx hb dX5_part_45 rfl (lv_at hl 0 rfl) ?_
          refine lv_aload_n hx hb dX5_part_46 rfl (lv_at hl 0 rfl) ?_
          refine z_get B hW (92) (by omega) m92_2 rfl inX5 14 (by decide) hw_389 rfl (v := .ref (ad (106))) rfl dX5_part_47 ?_
          refine lv_aload_n hx hb dX5_part_50 rfl (lv_at hl 0 rfl) ?_
          refine z_get B hW (92) (by omega) m92_2 rfl inX5 2 (by decide) hw_377 rfl (v := .ref (ad (95))) rfl dX5_part_51 ?_
          refine lv_iload_n hx hb dX5_part_54 rfl (lv_at hl 1 rfl) ?_
          refine z_iald B hW (95) (by omega) m95_2 (i) (by omega) (by decide) (v := (nI (sW σ (i)))) (v95_2 _ (by omega)) dX5_part_55 ?_
          refine call_vv B hA hW (92) (by omega) m92_2 (r := _) rfl rfl (k_M_finds l G n ad w2 (nI (sH σ)) (rlI (sR σ)) hM2.1 hn hM2.2.2.2.2.2.2.2.2.2.1 hM2.2.2.2.2.2.2.2.1 hM2.2.2.2.2.2.2.2.2.1 106 (sW σ i) (sE σ i) w40_i w2_i (by omega) (by decide) (by decide) (by decide) fL2 eL2 (fun q hq => vL2 q (by omega)) (fun q _ => r_i q) hM2.2.2.2.2.2.2.2.2.2.2.2.1 hM2.2.2.2.2.2.2.2.2.2.2.2.2.1 hM2.2.2.2.2.2.2.2.2.2.2.2.2.2.1) mf_X5_finds hw_509 rfl ⟨⟨rfl, rfl⟩, by decide, by decide⟩ ⟨Nat.zero_le _, Nat.zero_le _⟩ hl.1 rfl (Nat.le_of_ble_eq_true rfl) dX5_part_56 (fun w3 H locs hp hW => ?_)
          obtain ⟨fr3, h33, h43, p3, x3, v3⟩ := hp
          have hM3 : MOK G ad w3 σ := hM2.fin fr3 h33 h43 ⟨_, x3⟩
          obtain ⟨m92_3, ⟨f93_3, m93_3, v93_3⟩, ⟨f94_3, m94_3, v94_3⟩, ⟨f95_3, m95_3, v95_3⟩, ⟨f96_3, m96_3, v96_3⟩, ⟨f97_3, m97_3, v97_3⟩, mE2_3, mE4_3, mE6_3, mD_3, m102_3, m103_3, m104_3, m105_3, m106_3, m107_3, m108_3, ⟨f109_3, m109_3, v109_3⟩, m110_3⟩ := id hM3
          refine lv_aload_n hx hb dX5_part_59 rfl (lv_at hl 0 rfl) ?_
          refine z_get B hW (92) (by omega) m92_3 rfl inX5 13 (by decide) hw_388 rfl (v := .ref (ad (105))) rfl dX5_part_60 ?_
          refine lv_iload_n hx hb dX5_part_63 rfl (lv_at hl 2 rfl) ?_
          refine z_lald B hW (105) (by omega) x3 (q9) (by omega) (by decide) (v := (lN (prt (bas (sW σ i)) (sE σ i) q9))) (v3 _ (by omega)) dX5_part_64 ?_
          refine n_l2i hx hb dX5_part_65 ?_
          exact ret_i B hr hlk hW (by rw [show st_part σ (nI i) (nI q9) = (nI (prt (bas (sW σ i)) (sE σ i) q9), σ) by unfold st_part; rw [cN_nI (by omega), cif_t ⟨⟨i, hi, rfl⟩, ⟨q9, by omega, rfl⟩⟩, cN_nI (by omega)]]; exact ⟨rfl, hM3, fun j hj => (fr3 j (by omega) (by omega) (by omega)).trans (fr2 j (by omega))⟩) dX5_part_66
        · exact absurd hz (by decide)
      · refine n_if_ne (tgt := 36) hx hb (by omega) dX5_part_26 (by decide) (fun hz => ?_) (fun hz => ?_)
        · exact absurd rfl hz
        · refine lv_aload_n hx hb dX5_part_29 rfl (lv_at hl 0 rfl) ?_
          refine lv_bipush (v := -3) hx hb dX5_part_30 (by decide) ?_
          refine call_vi B hA hW (92) (by omega) m92 (r := _) rfl rfl (k_M_no l G n ad w hn σ hM (-3) 3 (by decide) (by decide) (by decide)) mf_X5_no hw_449 rfl ⟨⟨rfl, rfl⟩, by decide, by decide⟩ ⟨Nat.zero_le _, Nat.zero_le _⟩ hl.1 rfl (Nat.le_of_ble_eq_true rfl) dX5_part_32 (fun r w9 H locs hp hW => ?_)
          exact ret_i B hr hlk hW (by rw [show st_part σ (nI i) x = ref σ 3 by unfold st_part; rw [cN_nI (by omega), cif_f (fun q => hnin ((isF_rng (by omega)).mp q.2))]]; exact hp) dX5_part_35
  · refine n_if_eq (tgt := 29) hx hb (by omega) dX5_part_5 (by decide) (fun hz => ?_) (fun hz => ?_)
    · refine lv_aload_n hx hb dX5_part_29 rfl (lv_at hl 0 rfl) ?_
      refine lv_bipush (v := -3) hx hb dX5_part_30 (by decide) ?_
      refine call_vi B hA hW (92) (by omega) m92 (r := _) rfl rfl (k_M_no l G n ad w hn σ hM (-3) 3 (by decide) (by decide) (by decide)) mf_X5_no hw_449 rfl ⟨⟨rfl, rfl⟩, by decide, by decide⟩ ⟨Nat.zero_le _, Nat.zero_le _⟩ hl.1 rfl (Nat.le_of_ble_eq_true rfl) dX5_part_32 (fun r w9 H locs hp hW => ?_)
      exact ret_i B hr hlk hW (by rw [show st_part σ f x = ref σ 3 by unfold st_part; rw [cif_f (fun q => hnf q.1)]]; exact hp) dX5_part_35
    · exact absurd rfl hz
set_option maxHeartbeats 4000000 in
set_option maxRecDepth 100000 in
theorem k_X5_at (l : Launch) (G : zG) (n : Nat) (ad : Nat → Nat) (w : Nat → va_E) (hn : 111 ≤ n) (σ : zS) (hM : MOK G ad w σ) (hs : SOK σ) (f x : Int32) :
    Ci l G yX5_at cdX5_at (zr 5) n ad w [.ref (ad (92)), .int (f), .int (x)] (postM G ad w (st_at σ f x)) := by
  obtain ⟨m92, ⟨f93, m93, v93⟩, ⟨f94, m94, v94⟩, ⟨f95, m95, v95⟩, ⟨f96, m96, v96⟩, ⟨f97, m97, v97⟩, mE2, mE4, mE6, mD, m102, m103, m104, m105, m106, m107, m108, ⟨f109, m109, v109⟩, m110⟩ := id hM
  have hsh := hs.1
  refine ent_i (cc := cX5_at) (maxL := 3) (ret := (some .int)) (by decide +kernel) rfl (Nat.le_of_ble_eq_true rfl) ?_
  intro p e s m args below meth c A B hr hlk hA H locs ls hW hl
  have hx := B.1
  have hb := B.2.1
  have hl : lv_has ls 3 [(0, .ref (ad (92))), (1, .int (f)), (2, .int (x))] := hl
  have hxr := rngI x
  refine lv_aload_n hx hb dX5_at_0 rfl (lv_at hl 0 rfl) ?_
  refine lv_iload_n hx hb dX5_at_1 rfl (lv_at hl 1 rfl) ?_
  refine call_vi B hA hW (92) (by omega) m92 (r := _) rfl rfl (k_M_isForm l G n ad w hn σ hM hs f) mf_X5_isForm hw_473 rfl ⟨⟨rfl, rfl⟩, by decide, by decide⟩ ⟨Nat.zero_le _, Nat.zero_le _⟩ hl.1 rfl (Nat.le_of_ble_eq_true rfl) dX5_at_2 (fun r w9 H locs hp hW => ?_)
  obtain ⟨e1, hp⟩ := hp
  rw [e1] at hW
  rcases hp with ⟨i, hi, rfl, rfl⟩ | ⟨hnf, rfl⟩
  · obtain ⟨w40_i, w2_i, k4_i, t40_i, r_i, s_i⟩ := hs.2.1 i hi
    have h16_i : i < 16 := by omega
    refine n_if_eq (tgt := 35) hx hb (by omega) dX5_at_5 (by decide) (fun hz => ?_) (fun hz => ?_)
    · exact absurd hz (by decide)
    · refine lv_iload_n hx hb dX5_at_8 rfl (lv_at hl 2 rfl) ?_
      refine r_i2l hx hb dX5_at_9 ?_
      refine lv_lconst (v := lZ 0) hx hb dX5_at_10 (by decide) ?_
      refine n_ldc2 B hw_562 (x := lZ (47)) (by decide) dX5_at_11 ?_
      refine call_si B hA hW (k_M_isIn l G n ad w x.toInt 0 47 (by omega) (by omega) (by omega) (by omega) (by omega) (by omega)) mf_X5_isIn hw_462 rfl ⟨⟨rfl, rfl⟩, by decide, by decide⟩ ⟨Nat.zero_le _, Nat.zero_le _⟩ hl.1 rfl (Nat.le_of_ble_eq_true rfl) dX5_at_14 (fun r w9 H locs hp hW => ?_)
      obtain ⟨e1, hp⟩ := hp
      rw [e1] at hW
      rcases hp with ⟨q1, q2, rfl⟩ | ⟨hnin, rfl⟩
      · refine n_if_eq (tgt := 35) hx hb (by omega) dX5_at_17 (by decide) (fun hz => ?_) (fun hz => ?_)
        · exact absurd hz (by decide)
        · obtain ⟨q9, hq9, rfl⟩ := nI_of (x := x) (fun z => by rw [Int32.lt_iff_toInt_lt] at z; have e0 : (0 : Int32).toInt = 0 := rfl; omega)
          rw [nI_toInt hq9] at q1 q2
          refine lv_aload_n hx hb dX5_at_20 rfl (lv_at hl 0 rfl) ?_
          refine z_get B hW (92) (by omega) m92 rfl inX5 0 (by decide) hw_375 rfl (v := .ref (ad (93))) rfl dX5_at_21 ?_
          refine lv_bipush (v := nI 48) hx hb dX5_at_24 (by decide) ?_
          refine lv_iload_n hx hb dX5_at_26 rfl (lv_at hl 1 rfl) ?_
          refine n_imul hx hb dX5_at_27 ?_
          refine lv_iload_n hx hb dX5_at_28 rfl (lv_at hl 2 rfl) ?_
          refine n_iadd hx hb dX5_at_29 ?_
          refine z_lald B hW (93) (by omega) m93 ((48 * i) + q9) (by omega) (by decide) (v := (lN (sE σ i q9))) (v93 _ hi _ (by omega)) dX5_at_30 ?_
          refine n_l2i hx hb dX5_at_31 ?_
          refine lv_goto (tgt := 41) hx hb dX5_at_32 (by decide) ?_
          exact ret_i B hr hlk hW (by rw [show st_at σ (nI i) (nI q9) = (nI (sE σ i q9), σ) by unfold st_at; rw [cif_t ⟨⟨i, hi, rfl⟩, ⟨q9, by omega, rfl⟩⟩, cN_nI (by omega), cN_nI (by omega)]]; exact ⟨rfl, hM, fun _ _ => rfl⟩) dX5_at_41
      · refine n_if_eq (tgt := 35) hx hb (by omega) dX5_at_17 (by decide) (fun hz => ?_) (fun hz => ?_)
        · refine lv_aload_n hx hb dX5_at_35 rfl (lv_at hl 0 rfl) ?_
          refine lv_bipush (v := -3) hx hb dX5_at_36 (by decide) ?_
          refine call_vi B hA hW (92) (by omega) m92 (r := _) rfl rfl (k_M_no l G n ad w hn σ hM (-3) 3 (by decide) (by decide) (by decide)) mf_X5_no hw_449 rfl ⟨⟨rfl, rfl⟩, by decide, by decide⟩ ⟨Nat.zero_le _, Nat.zero_le _⟩ hl.1 rfl (Nat.le_of_ble_eq_true rfl) dX5_at_38 (fun r w9 H locs hp hW => ?_)
          exact ret_i B hr hlk hW (by rw [show st_at σ (nI i) x = ref σ 3 by unfold st_at; rw [cif_f (fun q => hnin ((isF_rng (N := 48) (by omega)).mp q.2))]]; exact hp) dX5_at_41
        · exact absurd rfl hz
  · refine n_if_eq (tgt := 35) hx hb (by omega) dX5_at_5 (by decide) (fun hz => ?_) (fun hz => ?_)
    · refine lv_aload_n hx hb dX5_at_35 rfl (lv_at hl 0 rfl) ?_
      refine lv_bipush (v := -3) hx hb dX5_at_36 (by decide) ?_
      refine call_vi B hA hW (92) (by omega) m92 (r := _) rfl rfl (k_M_no l G n ad w hn σ hM (-3) 3 (by decide) (by decide) (by decide)) mf_X5_no hw_449 rfl ⟨⟨rfl, rfl⟩, by decide, by decide⟩ ⟨Nat.zero_le _, Nat.zero_le _⟩ hl.1 rfl (Nat.le_of_ble_eq_true rfl) dX5_at_38 (fun r w9 H locs hp hW => ?_)
      exact ret_i B hr hlk hW (by rw [show st_at σ f x = ref σ 3 by unfold st_at; rw [cif_f (fun q => hnf q.1)]]; exact hp) dX5_at_41
    · exact absurd rfl hz
set_option maxHeartbeats 4000000 in
set_option maxRecDepth 100000 in
theorem k_X5_prime (l : Launch) (G : zG) (n : Nat) (ad : Nat → Nat) (w : Nat → va_E) (hn : 111 ≤ n) (σ : zS) (hM : MOK G ad w σ) (hs : SOK σ) (f x : Int32) :
    Ci l G yX5_prime cdX5_prime (zr 5) n ad w [.ref (ad (92)), .int (f), .int (x)] (postM G ad w (st_prime σ f x)) := by
  obtain ⟨m92, ⟨f93, m93, v93⟩, ⟨f94, m94, v94⟩, ⟨f95, m95, v95⟩, ⟨f96, m96, v96⟩, ⟨f97, m97, v97⟩, mE2, mE4, mE6, mD, m102, m103, m104, m105, m106, m107, m108, ⟨f109, m109, v109⟩, m110⟩ := id hM
  have hsh := hs.1
  refine ent_i (cc := cX5_prime) (maxL := 3) (ret := (some .int)) (by decide +kernel) rfl (Nat.le_of_ble_eq_true rfl) ?_
  intro p e s m args below meth c A B hr hlk hA H locs ls hW hl
  have hx := B.1
  have hb := B.2.1
  have hl : lv_has ls 3 [(0, .ref (ad (92))), (1, .int (f)), (2, .int (x))] := hl
  refine lv_aload_n hx hb dX5_prime_0 rfl (lv_at hl 0 rfl) ?_
  refine lv_iload_n hx hb dX5_prime_1 rfl (lv_at hl 1 rfl) ?_
  refine call_vi B hA hW (92) (by omega) m92 (r := _) rfl rfl (k_M_isForm l G n ad w hn σ hM hs f) mf_X5_isForm hw_473 rfl ⟨⟨rfl, rfl⟩, by decide, by decide⟩ ⟨Nat.zero_le _, Nat.zero_le _⟩ hl.1 rfl (Nat.le_of_ble_eq_true rfl) dX5_prime_2 (fun r w9 H locs hp hW => ?_)
  obtain ⟨e1, hp⟩ := hp
  rw [e1] at hW
  rcases hp with ⟨i, hi, rfl, rfl⟩ | ⟨hnf, rfl⟩
  · obtain ⟨w40_i, w2_i, k4_i, t40_i, r_i, s_i⟩ := hs.2.1 i hi
    have h16_i : i < 16 := by omega
    refine n_if_ne (tgt := 15) hx hb (by omega) dX5_prime_5 (by decide) (fun hz => ?_) (fun hz => ?_)
    · have hzl := zs_le (sW σ i) w40_i
      refine lv_iload_n hx hb dX5_prime_15 rfl (lv_at hl 2 rfl) ?_
      refine call_si B hA hW (k_X5_isPrime l G n ad w x) mf_X5_isPrime hw_531 rfl ⟨⟨rfl, rfl⟩, by decide, by decide⟩ ⟨Nat.zero_le _, Nat.zero_le _⟩ hl.1 rfl (Nat.le_of_ble_eq_true rfl) dX5_prime_16 (fun r w9 H locs hp hW => ?_)
      obtain ⟨e1, hp⟩ := hp
      rw [e1] at hW
      rcases hp with ⟨p9, hp9, rfl, rfl⟩ | ⟨hnp, rfl⟩
      · have hpr := isP_rng hp9
        refine n_if_eq (tgt := 32) hx hb (by omega) dX5_prime_19 (by decide) (fun hz => ?_) (fun hz => ?_)
        · exact absurd hz (by decide)
        · refine lv_aload_n hx hb dX5_prime_22 rfl (lv_at hl 0 rfl) ?_
          refine z_get B hW (92) (by omega) m92 rfl inX5 2 (by decide) hw_377 rfl (v := .ref (ad (95))) rfl dX5_prime_23 ?_
          refine lv_iload_n hx hb dX5_prime_26 rfl (lv_at hl 1 rfl) ?_
          refine z_iald B hW (95) (by omega) m95 (i) (by omega) (by decide) (v := (nI (sW σ (i)))) (v95 _ (by omega)) dX5_prime_27 ?_
          refine lv_iconst (v := nI 4) hx hb dX5_prime_28 (by decide) ?_
          refine n_icmp_ge (tgt := 39) hx hb (by omega) (by omega) dX5_prime_29 (by decide) (fun hd => ?_) (fun hd => ?_)
          · have hS : st_prime σ (nI i) (nI p9) = comeO σ (sW σ i) (prmS (sW σ i) p9 (sE σ i)) := by
              unfold st_prime
              rw [cif_t ⟨i, hi, rfl⟩, cN_nI (by omega), cif_t ⟨⟨p9, hp9, rfl⟩, hd⟩, cN_nI (by omega)]
            rw [hS]
            refine lv_aload_n hx hb dX5_prime_39 rfl (lv_at hl 0 rfl) ?_
            refine lv_aload_n hx hb dX5_prime_40 rfl (lv_at hl 0 rfl) ?_
            refine z_get B hW (92) (by omega) m92 rfl inX5 14 (by decide) hw_389 rfl (v := .ref (ad (106))) rfl dX5_prime_41 ?_
            refine lv_iload_n hx hb dX5_prime_44 rfl (lv_at hl 1 rfl) ?_
            obtain ⟨g93_2, d93_2, u93_2⟩ := hM.ser (i := i) (by omega)
            refine call_vv B hA hW (92) (by omega) m92 (r := _) rfl rfl (k_M_takes l G n ad w (nI (sH σ)) (rlI (sR σ)) hM.1 hn 106 i (sE σ i) g93_2 d93_2 u93_2 (by omega) (by omega) (by decide) (by decide) hM.2.2.2.2.2.2.2.2.2.2.2.2.2.2.1) mf_X5_takes hw_488 rfl ⟨⟨rfl, rfl⟩, by decide, by decide⟩ ⟨Nat.zero_le _, Nat.zero_le _⟩ hl.1 rfl (Nat.le_of_ble_eq_true rfl) dX5_prime_45 (fun w2 H locs hp hW => ?_)
            obtain ⟨fr2, L2⟩ := hp
            have hM2 : MOK G ad w2 σ := hM.s48 (k := 106) (by decide) ⟨_, L2.choose_spec.1⟩ fr2
            obtain ⟨m92_2, ⟨f93_2, m93_2, v93_2⟩, ⟨f94_2, m94_2, v94_2⟩, ⟨f95_2, m95_2, v95_2⟩, ⟨f96_2, m96_2, v96_2⟩, ⟨f97_2, m97_2, v97_2⟩, mE2_2, mE4_2, mE6_2, mD_2, m102_2, m103_2, m104_2, m105_2, m106_2, m107_2, m108_2, ⟨f109_2, m109_2, v109_2⟩, m110_2⟩ := id hM2
            refine lv_aload_n hx hb dX5_prime_48 rfl (lv_at hl 0 rfl) ?_
            refine lv_aload_n hx hb dX5_prime_49 rfl (lv_at hl 0 rfl) ?_
            refine z_get B hW (92) (by omega) m92_2 rfl inX5 2 (by decide) hw_377 rfl (v := .ref (ad (95))) rfl dX5_prime_50 ?_
            refine lv_iload_n hx hb dX5_prime_53 rfl (lv_at hl 1 rfl) ?_
            refine z_iald B hW (95) (by omega) m95_2 (i) (by omega) (by decide) (v := (nI (sW σ (i)))) (v95_2 _ (by omega)) dX5_prime_54 ?_
            refine lv_iload_n hx hb dX5_prime_55 rfl (lv_at hl 2 rfl) ?_
            refine call_vv B hA hW (92) (by omega) m92_2 (r := _) rfl rfl (k_M_doesTo l G n ad w2 (nI (sH σ)) (rlI (sR σ)) hM2.1 hn hM2.2.2.2.2.2.2.2.2.2.1 hM2.2.2.2.2.2.2.2.1 hM2.2.2.2.2.2.2.2.2.1 (sW σ i) p9 (sE σ i) w40_i (by omega) w2_i (isP_rng hp9).1 (isP_rng hp9).2 L2 r_i.s hM2.2.2.2.2.2.2.2.2.2.2.1 hM2.2.2.2.2.2.2.2.2.2.2.2.1 hM2.2.2.2.2.2.2.2.2.2.2.2.2.1 hM2.2.2.2.2.2.2.2.2.2.2.2.2.2.1) mf_X5_doesTo hw_534 rfl ⟨⟨rfl, rfl⟩, by decide, by decide⟩ ⟨Nat.zero_le _, Nat.zero_le _⟩ hl.1 rfl (Nat.le_of_ble_eq_true rfl) dX5_prime_56 (fun w3 H locs hp hW => ?_)
            obtain ⟨fr3, h23, h33, h43, p3, x3, v3⟩ := hp
            have hM3 : MOK G ad w3 σ := hM2.doe fr3 h23 h33 h43 ⟨_, x3⟩
            obtain ⟨m92_3, ⟨f93_3, m93_3, v93_3⟩, ⟨f94_3, m94_3, v94_3⟩, ⟨f95_3, m95_3, v95_3⟩, ⟨f96_3, m96_3, v96_3⟩, ⟨f97_3, m97_3, v97_3⟩, mE2_3, mE4_3, mE6_3, mD_3, m102_3, m103_3, m104_3, m105_3, m106_3, m107_3, m108_3, ⟨f109_3, m109_3, v109_3⟩, m110_3⟩ := id hM3
            refine lv_aload_n hx hb dX5_prime_59 rfl (lv_at hl 0 rfl) ?_
            refine lv_aload_n hx hb dX5_prime_60 rfl (lv_at hl 0 rfl) ?_
            refine z_get B hW (92) (by omega) m92_3 rfl inX5 2 (by decide) hw_377 rfl (v := .ref (ad (95))) rfl dX5_prime_61 ?_
            refine lv_iload_n hx hb dX5_prime_64 rfl (lv_at hl 1 rfl) ?_
            refine z_iald B hW (95) (by omega) m95_3 (i) (by omega) (by decide) (v := (nI (sW σ (i)))) (v95_3 _ (by omega)) dX5_prime_65 ?_
            refine lv_iconst (v := nI 0) hx hb dX5_prime_66 (by decide) ?_
            refine call_vv B hA hW (92) (by omega) m92_3 (r := _) rfl rfl (k_M_builds l G n ad w3 (nI (sH σ)) (rlI (sR σ)) hM3.1 hn hM3.2.2.2.2.2.2.2.2.2.1 hM3.2.2.2.2.2.2.2.1 hM3.2.2.2.2.2.2.2.2.1 (sW σ i) 0 (prt (bas (sW σ i)) (imgS (sW σ i) p9 (sE σ i))) w40_i w2_i hzl.1 p3 x3 v3 (fun q _ => prt_lt (imgS_lt _ _ _ _)) hM3.2.2.2.2.2.2.2.2.2.2.1 hM3.2.2.2.2.2.2.2.2.2.2.2.2.1) mf_X5_builds hw_523 rfl ⟨⟨rfl, rfl⟩, by decide, by decide⟩ ⟨Nat.zero_le _, Nat.zero_le _⟩ hl.1 rfl (Nat.le_of_ble_eq_true rfl) dX5_prime_67 (fun w4 H locs hp hW => ?_)
            obtain ⟨fr4, h44, L4⟩ := hp
            have hM4 : MOK G ad w4 σ := hM3.bui fr4 ⟨_, L4.choose_spec.1⟩ h44
            obtain ⟨m92_4, ⟨f93_4, m93_4, v93_4⟩, ⟨f94_4, m94_4, v94_4⟩, ⟨f95_4, m95_4, v95_4⟩, ⟨f96_4, m96_4, v96_4⟩, ⟨f97_4, m97_4, v97_4⟩, mE2_4, mE4_4, mE6_4, mD_4, m102_4, m103_4, m104_4, m105_4, m106_4, m107_4, m108_4, ⟨f109_4, m109_4, v109_4⟩, m110_4⟩ := id hM4
            refine lv_aload_n hx hb dX5_prime_70 rfl (lv_at hl 0 rfl) ?_
            refine lv_aload_n hx hb dX5_prime_71 rfl (lv_at hl 0 rfl) ?_
            refine z_get B hW (92) (by omega) m92_4 rfl inX5 2 (by decide) hw_377 rfl (v := .ref (ad (95))) rfl dX5_prime_72 ?_
            refine lv_iload_n hx hb dX5_prime_75 rfl (lv_at hl 1 rfl) ?_
            refine z_iald B hW (95) (by omega) m95_4 (i) (by omega) (by decide) (v := (nI (sW σ (i)))) (v95_4 _ (by omega)) dX5_prime_76 ?_
            refine call_vi B hA hW (92) (by omega) m92_4 (r := _) rfl rfl (k_M_made l G n ad w4 hn σ hM4 hs (sW σ i) (by omega) (prmS (sW σ i) p9 (sE σ i)) L4 (bld_lt _ _ _ _)) mf_X5_made hw_480 rfl ⟨⟨rfl, rfl⟩, by decide, by decide⟩ ⟨Nat.zero_le _, Nat.zero_le _⟩ hl.1 rfl (Nat.le_of_ble_eq_true rfl) dX5_prime_77 (fun r w9 H locs hp9 hW => ?_)
            exact ret_i B hr hlk hW ⟨hp9.1, hp9.2.1, fun j hj => (hp9.2.2 j hj).trans (((fr4 j (by omega) (by omega)).trans (fr3 j (by omega) (by omega) (by omega) (by omega))).trans (fr2 j (by omega)))⟩ dX5_prime_80
          · refine lv_aload_n hx hb dX5_prime_32 rfl (lv_at hl 0 rfl) ?_
            refine lv_bipush (v := -7) hx hb dX5_prime_33 (by decide) ?_
            refine call_vi B hA hW (92) (by omega) m92 (r := _) rfl rfl (k_M_no l G n ad w hn σ hM (-7) 7 (by decide) (by decide) (by decide)) mf_X5_no hw_449 rfl ⟨⟨rfl, rfl⟩, by decide, by decide⟩ ⟨Nat.zero_le _, Nat.zero_le _⟩ hl.1 rfl (Nat.le_of_ble_eq_true rfl) dX5_prime_35 (fun r w9 H locs hp hW => ?_)
            exact ret_i B hr hlk hW (by rw [show st_prime σ (nI i) (nI p9) = ref σ 7 by unfold st_prime; rw [cif_t ⟨i, hi, rfl⟩, cN_nI (by omega), cif_f (fun q => by omega)]]; exact hp) dX5_prime_38
      · refine n_if_eq (tgt := 32) hx hb (by omega) dX5_prime_19 (by decide) (fun hz => ?_) (fun hz => ?_)
        · refine lv_aload_n hx hb dX5_prime_32 rfl (lv_at hl 0 rfl) ?_
          refine lv_bipush (v := -7) hx hb dX5_prime_33 (by decide) ?_
          refine call_vi B hA hW (92) (by omega) m92 (r := _) rfl rfl (k_M_no l G n ad w hn σ hM (-7) 7 (by decide) (by decide) (by decide)) mf_X5_no hw_449 rfl ⟨⟨rfl, rfl⟩, by decide, by decide⟩ ⟨Nat.zero_le _, Nat.zero_le _⟩ hl.1 rfl (Nat.le_of_ble_eq_true rfl) dX5_prime_35 (fun r w9 H locs hp hW => ?_)
          exact ret_i B hr hlk hW (by rw [show st_prime σ (nI i) x = ref σ 7 by unfold st_prime; rw [cif_t ⟨i, hi, rfl⟩, cif_f (fun q => hnp q.1)]]; exact hp) dX5_prime_38
        · exact absurd rfl hz
    · exact absurd hz (by decide)
  · refine n_if_ne (tgt := 15) hx hb (by omega) dX5_prime_5 (by decide) (fun hz => ?_) (fun hz => ?_)
    · exact absurd rfl hz
    · refine lv_aload_n hx hb dX5_prime_8 rfl (lv_at hl 0 rfl) ?_
      refine lv_bipush (v := -3) hx hb dX5_prime_9 (by decide) ?_
      refine call_vi B hA hW (92) (by omega) m92 (r := _) rfl rfl (k_M_no l G n ad w hn σ hM (-3) 3 (by decide) (by decide) (by decide)) mf_X5_no hw_449 rfl ⟨⟨rfl, rfl⟩, by decide, by decide⟩ ⟨Nat.zero_le _, Nat.zero_le _⟩ hl.1 rfl (Nat.le_of_ble_eq_true rfl) dX5_prime_11 (fun r w9 H locs hp hW => ?_)
      exact ret_i B hr hlk hW (by rw [show st_prime σ f x = ref σ 3 by unfold st_prime; rw [cif_f hnf]]; exact hp) dX5_prime_14
set_option maxHeartbeats 4000000 in
set_option maxRecDepth 100000 in
theorem k_X5_own (l : Launch) (G : zG) (n : Nat) (ad : Nat → Nat) (w : Nat → va_E) (hn : 111 ≤ n) (σ : zS) (hM : MOK G ad w σ) (hs : SOK σ) (f x : Int32) :
    Ci l G yX5_own cdX5_own (zr 5) n ad w [.ref (ad (92)), .int (f), .int (x)] (postM G ad w (st_own σ f x)) := by
  obtain ⟨m92, ⟨f93, m93, v93⟩, ⟨f94, m94, v94⟩, ⟨f95, m95, v95⟩, ⟨f96, m96, v96⟩, ⟨f97, m97, v97⟩, mE2, mE4, mE6, mD, m102, m103, m104, m105, m106, m107, m108, ⟨f109, m109, v109⟩, m110⟩ := id hM
  have hsh := hs.1
  refine ent_i (cc := cX5_own) (maxL := 7) (ret := (some .int)) (by decide +kernel) rfl (Nat.le_of_ble_eq_true rfl) ?_
  intro p e s m args below meth c A B hr hlk hA H locs ls hW hl
  have hx := B.1
  have hb := B.2.1
  have hl : lv_has ls 7 [(0, .ref (ad (92))), (1, .int (f)), (2, .int (x))] := hl
  refine lv_aload_n hx hb dX5_own_0 rfl (lv_at hl 0 rfl) ?_
  refine lv_iload_n hx hb dX5_own_1 rfl (lv_at hl 1 rfl) ?_
  refine call_vi B hA hW (92) (by omega) m92 (r := _) rfl rfl (k_M_isForm l G n ad w hn σ hM hs f) mf_X5_isForm hw_473 rfl ⟨⟨rfl, rfl⟩, by decide, by decide⟩ ⟨Nat.zero_le _, Nat.zero_le _⟩ hl.1 rfl (Nat.le_of_ble_eq_true rfl) dX5_own_2 (fun r w9 H locs hp hW => ?_)
  obtain ⟨e1, hp⟩ := hp
  rw [e1] at hW
  rcases hp with ⟨i, hi, rfl, rfl⟩ | ⟨hnf, rfl⟩
  · obtain ⟨w40_i, w2_i, k4_i, t40_i, r_i, s_i⟩ := hs.2.1 i hi
    have h16_i : i < 16 := by omega
    refine n_if_ne (tgt := 15) hx hb (by omega) dX5_own_5 (by decide) (fun hz => ?_) (fun hz => ?_)
    · have hzl := zs_le (sW σ i) w40_i
      refine lv_iload_n hx hb dX5_own_15 rfl (lv_at hl 2 rfl) ?_
      refine call_si B hA hW (k_X5_isPrime l G n ad w x) mf_X5_isPrime hw_531 rfl ⟨⟨rfl, rfl⟩, by decide, by decide⟩ ⟨Nat.zero_le _, Nat.zero_le _⟩ hl.1 rfl (Nat.le_of_ble_eq_true rfl) dX5_own_16 (fun r w9 H locs hp hW => ?_)
      obtain ⟨e1, hp⟩ := hp
      rw [e1] at hW
      rcases hp with ⟨p9, hp9, rfl, rfl⟩ | ⟨hnp, rfl⟩
      · have hpr := isP_rng hp9
        refine n_if_eq (tgt := 32) hx hb (by omega) dX5_own_19 (by decide) (fun hz => ?_) (fun hz => ?_)
        · exact absurd hz (by decide)
        · refine lv_aload_n hx hb dX5_own_22 rfl (lv_at hl 0 rfl) ?_
          refine z_get B hW (92) (by omega) m92 rfl inX5 2 (by decide) hw_377 rfl (v := .ref (ad (95))) rfl dX5_own_23 ?_
          refine lv_iload_n hx hb dX5_own_26 rfl (lv_at hl 1 rfl) ?_
          refine z_iald B hW (95) (by omega) m95 (i) (by omega) (by decide) (v := (nI (sW σ (i)))) (v95 _ (by omega)) dX5_own_27 ?_
          refine lv_iconst (v := nI 4) hx hb dX5_own_28 (by decide) ?_
          refine n_icmp_ge (tgt := 39) hx hb (by omega) (by omega) dX5_own_29 (by decide) (fun hd => ?_) (fun hd => ?_)
          · have hS : st_own σ (nI i) (nI p9) = (theI (ratR (imgS (sW σ i) p9 (sE σ i)) (sE σ i) (zs (sW σ i))), σ) := by
              unfold st_own
              rw [cif_t ⟨i, hi, rfl⟩, cN_nI (by omega), cif_t ⟨⟨p9, hp9, rfl⟩, hd⟩, cN_nI (by omega)]
            rw [hS]
            refine lv_aload_n hx hb dX5_own_39 rfl (lv_at hl 0 rfl) ?_
            refine lv_iload_n hx hb dX5_own_40 rfl (lv_at hl 1 rfl) ?_
            refine call_vi B hA hW (92) (by omega) m92 (r := _) rfl rfl (k_M_leastOf l G n ad w hn σ hM hs i hi) mf_X5_leastOf hw_554 rfl ⟨⟨rfl, rfl⟩, by decide, by decide⟩ ⟨Nat.zero_le _, Nat.zero_le _⟩ hl.1 rfl (Nat.le_of_ble_eq_true rfl) dX5_own_41 (fun r w9 H locs hp hW => ?_)
            obtain ⟨e1, hp⟩ := hp
            rw [e1] at hW
            rcases hp with ⟨rfl, hall⟩ | ⟨j, rfl, hj⟩
            · refine lv_istore_n (lv' := [(3, .int (-1)), (0, .ref (ad (92))), (1, .int (nI (i))), (2, .int (nI (p9)))]) hx hb dX5_own_44 rfl hl (by decide) rfl (fun ls hl => ?_)
              refine lv_iload_n hx hb dX5_own_45 rfl (lv_at hl 0 rfl) ?_
              refine lv_if_ge (tgt := 51) hx hb dX5_own_46 (by decide) (fun he => ?_) (fun he => ?_)
              · exact absurd he (by decide)
              · refine lv_iconst (v := -1) hx hb dX5_own_49 (by decide) ?_
                exact ret_i B hr hlk hW ⟨theI_eq (Or.inr ⟨rfl, Or.inl hall⟩) ratR_one, hM, fun _ _ => rfl⟩ dX5_own_50
            · have hj48 := hj.1
              refine lv_istore_n (lv' := [(3, .int (nI (j))), (0, .ref (ad (92))), (1, .int (nI (i))), (2, .int (nI (p9)))]) hx hb dX5_own_44 rfl hl (by decide) rfl (fun ls hl => ?_)
              refine lv_iload_n hx hb dX5_own_45 rfl (lv_at hl 0 rfl) ?_
              refine n_if_ge (tgt := 51) hx hb (by omega) dX5_own_46 (by decide) ?_
              refine lv_aload_n hx hb dX5_own_51 rfl (lv_at hl 1 rfl) ?_
              refine lv_aload_n hx hb dX5_own_52 rfl (lv_at hl 1 rfl) ?_
              refine z_get B hW (92) (by omega) m92 rfl inX5 14 (by decide) hw_389 rfl (v := .ref (ad (106))) rfl dX5_own_53 ?_
              refine lv_iload_n hx hb dX5_own_56 rfl (lv_at hl 2 rfl) ?_
              obtain ⟨g93_2, d93_2, u93_2⟩ := hM.ser (i := i) (by omega)
              refine call_vv B hA hW (92) (by omega) m92 (r := _) rfl rfl (k_M_takes l G n ad w (nI (sH σ)) (rlI (sR σ)) hM.1 hn 106 i (sE σ i) g93_2 d93_2 u93_2 (by omega) (by omega) (by decide) (by decide) hM.2.2.2.2.2.2.2.2.2.2.2.2.2.2.1) mf_X5_takes hw_488 rfl ⟨⟨rfl, rfl⟩, by decide, by decide⟩ ⟨Nat.zero_le _, Nat.zero_le _⟩ hl.1 rfl (Nat.le_of_ble_eq_true rfl) dX5_own_57 (fun w2 H locs hp hW => ?_)
              obtain ⟨fr2, L2⟩ := hp
              have hM2 : MOK G ad w2 σ := hM.s48 (k := 106) (by decide) ⟨_, L2.choose_spec.1⟩ fr2
              obtain ⟨m92_2, ⟨f93_2, m93_2, v93_2⟩, ⟨f94_2, m94_2, v94_2⟩, ⟨f95_2, m95_2, v95_2⟩, ⟨f96_2, m96_2, v96_2⟩, ⟨f97_2, m97_2, v97_2⟩, mE2_2, mE4_2, mE6_2, mD_2, m102_2, m103_2, m104_2, m105_2, m106_2, m107_2, m108_2, ⟨f109_2, m109_2, v109_2⟩, m110_2⟩ := id hM2
              refine lv_aload_n hx hb dX5_own_60 rfl (lv_at hl 1 rfl) ?_
              refine lv_aload_n hx hb dX5_own_61 rfl (lv_at hl 1 rfl) ?_
              refine z_get B hW (92) (by omega) m92_2 rfl inX5 2 (by decide) hw_377 rfl (v := .ref (ad (95))) rfl dX5_own_62 ?_
              refine lv_iload_n hx hb dX5_own_65 rfl (lv_at hl 2 rfl) ?_
              refine z_iald B hW (95) (by omega) m95_2 (i) (by omega) (by decide) (v := (nI (sW σ (i)))) (v95_2 _ (by omega)) dX5_own_66 ?_
              refine lv_iload_n hx hb dX5_own_67 rfl (lv_at hl 3 rfl) ?_
              refine call_vv B hA hW (92) (by omega) m92_2 (r := _) rfl rfl (k_M_doesTo l G n ad w2 (nI (sH σ)) (rlI (sR σ)) hM2.1 hn hM2.2.2.2.2.2.2.2.2.2.1 hM2.2.2.2.2.2.2.2.1 hM2.2.2.2.2.2.2.2.2.1 (sW σ i) p9 (sE σ i) w40_i (by omega) w2_i (isP_rng hp9).1 (isP_rng hp9).2 L2 r_i.s hM2.2.2.2.2.2.2.2.2.2.2.1 hM2.2.2.2.2.2.2.2.2.2.2.2.1 hM2.2.2.2.2.2.2.2.2.2.2.2.2.1 hM2.2.2.2.2.2.2.2.2.2.2.2.2.2.1) mf_X5_doesTo hw_534 rfl ⟨⟨rfl, rfl⟩, by decide, by decide⟩ ⟨Nat.zero_le _, Nat.zero_le _⟩ hl.1 rfl (Nat.le_of_ble_eq_true rfl) dX5_own_68 (fun w3 H locs hp hW => ?_)
              obtain ⟨fr3, h23, h33, h43, p3, x3, v3⟩ := hp
              have hM3 : MOK G ad w3 σ := hM2.doe fr3 h23 h33 h43 ⟨_, x3⟩
              obtain ⟨m92_3, ⟨f93_3, m93_3, v93_3⟩, ⟨f94_3, m94_3, v94_3⟩, ⟨f95_3, m95_3, v95_3⟩, ⟨f96_3, m96_3, v96_3⟩, ⟨f97_3, m97_3, v97_3⟩, mE2_3, mE4_3, mE6_3, mD_3, m102_3, m103_3, m104_3, m105_3, m106_3, m107_3, m108_3, ⟨f109_3, m109_3, v109_3⟩, m110_3⟩ := id hM3
              refine lv_aload_n hx hb dX5_own_71 rfl (lv_at hl 1 rfl) ?_
              refine lv_aload_n hx hb dX5_own_72 rfl (lv_at hl 1 rfl) ?_
              refine z_get B hW (92) (by omega) m92_3 rfl inX5 2 (by decide) hw_377 rfl (v := .ref (ad (95))) rfl dX5_own_73 ?_
              refine lv_iload_n hx hb dX5_own_76 rfl (lv_at hl 2 rfl) ?_
              refine z_iald B hW (95) (by omega) m95_3 (i) (by omega) (by decide) (v := (nI (sW σ (i)))) (v95_3 _ (by omega)) dX5_own_77 ?_
              refine lv_iconst (v := nI 0) hx hb dX5_own_78 (by decide) ?_
              refine call_vv B hA hW (92) (by omega) m92_3 (r := _) rfl rfl (k_M_builds l G n ad w3 (nI (sH σ)) (rlI (sR σ)) hM3.1 hn hM3.2.2.2.2.2.2.2.2.2.1 hM3.2.2.2.2.2.2.2.1 hM3.2.2.2.2.2.2.2.2.1 (sW σ i) 0 (prt (bas (sW σ i)) (imgS (sW σ i) p9 (sE σ i))) w40_i w2_i hzl.1 p3 x3 v3 (fun q _ => prt_lt (imgS_lt _ _ _ _)) hM3.2.2.2.2.2.2.2.2.2.2.1 hM3.2.2.2.2.2.2.2.2.2.2.2.2.1) mf_X5_builds hw_523 rfl ⟨⟨rfl, rfl⟩, by decide, by decide⟩ ⟨Nat.zero_le _, Nat.zero_le _⟩ hl.1 rfl (Nat.le_of_ble_eq_true rfl) dX5_own_79 (fun w4 H locs hp hW => ?_)
              obtain ⟨fr4, h44, L4⟩ := hp
              have hM4 : MOK G ad w4 σ := hM3.bui fr4 ⟨_, L4.choose_spec.1⟩ h44
              obtain ⟨m92_4, ⟨f93_4, m93_4, v93_4⟩, ⟨f94_4, m94_4, v94_4⟩, ⟨f95_4, m95_4, v95_4⟩, ⟨f96_4, m96_4, v96_4⟩, ⟨f97_4, m97_4, v97_4⟩, mE2_4, mE4_4, mE6_4, mD_4, m102_4, m103_4, m104_4, m105_4, m106_4, m107_4, m108_4, ⟨f109_4, m109_4, v109_4⟩, m110_4⟩ := id hM4
              have hfr4 : ∀ j, j < 92 → w4 j = w j := fun j hj => ((fr4 j (by omega) (by omega)).trans (fr3 j (by omega) (by omega) (by omega) (by omega))).trans (fr2 j (by omega))
              obtain ⟨fN, eN, vN⟩ := L4
              have vN : ∀ q, q < 48 → fN q = lN (prmS (sW σ i) p9 (sE σ i) q) := vN
              have rN : ∀ q, prmS (sW σ i) p9 (sE σ i) q < 1000003 := fun q => bld_lt _ _ _ _
              refine lv_aload_n hx hb dX5_own_82 rfl (lv_at hl 1 rfl) ?_
              refine z_get B hW (92) (by omega) m92_4 rfl inX5 10 (by decide) hw_385 rfl (v := .ref (ad (102))) rfl dX5_own_83 ?_
              refine lv_iload_n hx hb dX5_own_86 rfl (lv_at hl 0 rfl) ?_
              refine z_lald B hW (102) (by omega) eN (j) (by omega) (by decide) (v := (lN (prmS (sW σ i) p9 (sE σ i) (j)))) (vN _ (by omega)) dX5_own_87 ?_
              refine lv_aload_n hx hb dX5_own_88 rfl (lv_at hl 1 rfl) ?_
              refine z_get B hW (92) (by omega) m92_4 rfl inX5 0 (by decide) hw_375 rfl (v := .ref (ad (93))) rfl dX5_own_89 ?_
              refine lv_bipush (v := nI 48) hx hb dX5_own_92 (by decide) ?_
              refine lv_iload_n hx hb dX5_own_94 rfl (lv_at hl 2 rfl) ?_
              refine n_imul hx hb dX5_own_95 ?_
              refine lv_iload_n hx hb dX5_own_96 rfl (lv_at hl 0 rfl) ?_
              refine n_iadd hx hb dX5_own_97 ?_
              refine z_lald B hW (93) (by omega) m93_4 ((48 * i) + j) (by omega) (by decide) (v := (lN (sE σ i j))) (v93_4 _ hi _ (by omega)) dX5_own_98 ?_
              refine call_sl B hA hW (k_M_inverse l G n ad w4 (sE σ i j) (r_i j)) mf_X5_inverse hw_444 rfl ⟨⟨rfl, rfl⟩, by decide, by decide⟩ ⟨Nat.zero_le _, Nat.zero_le _⟩ hl.1 rfl (Nat.le_of_ble_eq_true rfl) dX5_own_99 (fun r w9 H locs hp hW => ?_)
              obtain ⟨e1, e2⟩ := hp
              rw [e1] at hW
              subst e2
              have hm := mul_lt (rN j) (invM_lt (sE σ i j))
              refine n_lmul hx hb dX5_own_102 ?_
              refine n_ldc2 B hw_372 (x := lN 1000003) (by decide) dX5_own_103 ?_
              refine n_lrem hx hb (by omega) (by omega) (by omega) dX5_own_106 ?_
              obtain ⟨L, hL⟩ : ∃ L, L = prmS (sW σ i) p9 (sE σ i) j * invM (sE σ i j) % 1000003 := ⟨_, rfl⟩
              have hLl : L < 1000003 := by rw [hL]; exact Nat.mod_lt _ (by decide)
              refine topl (y := (lN (L))) (by rw [hL]) ?_
              refine lv_lstore (lv' := [(4, .long (lN (L))), (3, .int (nI (j))), (0, .ref (ad (92))), (1, .int (nI (i))), (2, .int (nI (p9)))]) hx hb dX5_own_107 hl (by decide) rfl (fun ls hl => ?_)
              refine lv_iconst (v := nI 0) hx hb dX5_own_109 (by decide) ?_
              refine lv_istore (lv' := [(6, .int (nI (0))), (4, .long (lN (L))), (3, .int (nI (j))), (0, .ref (ad (92))), (1, .int (nI (i))), (2, .int (nI (p9)))]) hx hb dX5_own_110 hl (by decide) rfl (fun ls hl => ?_)
              refine z_up1 (Wg := fun ls => W p l e (zr 5) s m args below meth c H locs 0 0 _ (F0 m 112 ls [])) (I := fun q ls => lv_has ls 7 [(6, .int (nI q)), (4, .long (lN L)), (3, .int (nI j)), (0, .ref (ad 92)), (1, .int (nI i)), (2, .int (nI p9))] ∧ ∀ r, r < q → prmS (sW σ i) p9 (sE σ i) r = L * sE σ i r % 1000003) (a := 0) (b := 48) (Nat.zero_le _) ?_ ?_ ls ⟨lv_sub hl [0, 1, 2, 3, 4, 5] rfl, fun r h => by omega⟩
              · rintro q - hq ih ls ⟨hl, h1⟩
                have hm3 := mul_lt hLl (r_i q)
                refine lv_iload hx hb dX5_own_112 (lv_at hl 0 rfl) ?_
                refine lv_bipush (v := nI 48) hx hb dX5_own_114 (by decide) ?_
                refine n_icmp_ge (tgt := 157) hx hb (by omega) (by omega) dX5_own_116 (by decide) (fun hc => ?_) (fun hc => ?_)
                · omega
                · refine lv_aload_n hx hb dX5_own_119 rfl (lv_at hl 3 rfl) ?_
                  refine z_get B hW (92) (by omega) m92_4 rfl inX5 10 (by decide) hw_385 rfl (v := .ref (ad (102))) rfl dX5_own_120 ?_
                  refine lv_iload hx hb dX5_own_123 (lv_at hl 0 rfl) ?_
                  refine z_lald B hW (102) (by omega) eN (q) (by omega) (by decide) (v := (lN (prmS (sW σ i) p9 (sE σ i) (q)))) (vN _ (by omega)) dX5_own_125 ?_
                  refine lv_lload hx hb dX5_own_126 (lv_at hl 1 rfl) ?_
                  refine lv_aload_n hx hb dX5_own_128 rfl (lv_at hl 3 rfl) ?_
                  refine z_get B hW (92) (by omega) m92_4 rfl inX5 0 (by decide) hw_375 rfl (v := .ref (ad (93))) rfl dX5_own_129 ?_
                  refine lv_bipush (v := nI 48) hx hb dX5_own_132 (by decide) ?_
                  refine lv_iload_n hx hb dX5_own_134 rfl (lv_at hl 4 rfl) ?_
                  refine n_imul hx hb dX5_own_135 ?_
                  refine lv_iload hx hb dX5_own_136 (lv_at hl 0 rfl) ?_
                  refine n_iadd hx hb dX5_own_138 ?_
                  refine z_lald B hW (93) (by omega) m93_4 ((48 * i) + q) (by omega) (by decide) (v := (lN (sE σ i q))) (v93_4 _ hi _ hq) dX5_own_139 ?_
                  refine n_lmul hx hb dX5_own_140 ?_
                  refine n_ldc2 B hw_372 (x := lN 1000003) (by decide) dX5_own_141 ?_
                  refine n_lrem hx hb (by omega) (by omega) (by omega) dX5_own_144 ?_
                  refine lc_eq (tgt := 151) hx hb dX5_own_145 dX5_own_146 (by decide) (fun hg => ?_) (fun hg => ?_)
                  · have h0 := (lN_inj (rN q) (Nat.mod_lt _ (by decide))).mp hg
                    refine lv_iinc (v := (nI (q + 1))) (lv' := [(6, .int (nI (q + 1))), (4, .long (lN (L))), (3, .int (nI (j))), (0, .ref (ad (92))), (1, .int (nI (i))), (2, .int (nI (p9)))]) hx hb dX5_own_151 hl (k := 0) rfl (iinc1 _) (by decide) rfl (fun ls hl => ?_)
                    refine lv_goto (tgt := 112) hx hb dX5_own_154 (by decide) ?_
                    exact ih ls ⟨hl, fun r hr => by
                      by_cases z : r = q
                      · rw [z]; exact h0
                      · exact h1 r (by omega)⟩
                  · refine lv_iconst (v := -1) hx hb dX5_own_149 (by decide) ?_
                    exact ret_i B hr hlk hW ⟨theI_eq (own_no s_i hj hq (fun z => hg (by rw [z, hL]))) ratR_one, hM4, hfr4⟩ dX5_own_150
              · rintro ls ⟨hl, h1⟩
                refine lv_iload hx hb dX5_own_112 (lv_at hl 0 rfl) ?_
                refine lv_bipush (v := nI 48) hx hb dX5_own_114 (by decide) ?_
                refine n_icmp_ge (tgt := 157) hx hb (by omega) (by omega) dX5_own_116 (by decide) (fun hc => ?_) (fun hc => ?_)
                · refine lv_lload hx hb dX5_own_157 (lv_at hl 1 rfl) ?_
                  refine n_l2i hx hb dX5_own_159 ?_
                  exact ret_i B hr hlk hW ⟨by rw [hL]; exact theI_eq (own_yes s_i hj (fun q hq => by rw [← hL]; exact h1 q hq)) ratR_one, hM4, hfr4⟩ dX5_own_160
                · omega
          · refine lv_aload_n hx hb dX5_own_32 rfl (lv_at hl 0 rfl) ?_
            refine lv_bipush (v := -7) hx hb dX5_own_33 (by decide) ?_
            refine call_vi B hA hW (92) (by omega) m92 (r := _) rfl rfl (k_M_no l G n ad w hn σ hM (-7) 7 (by decide) (by decide) (by decide)) mf_X5_no hw_449 rfl ⟨⟨rfl, rfl⟩, by decide, by decide⟩ ⟨Nat.zero_le _, Nat.zero_le _⟩ hl.1 rfl (Nat.le_of_ble_eq_true rfl) dX5_own_35 (fun r w9 H locs hp hW => ?_)
            exact ret_i B hr hlk hW (by rw [show st_own σ (nI i) (nI p9) = ref σ 7 by unfold st_own; rw [cif_t ⟨i, hi, rfl⟩, cN_nI (by omega), cif_f (fun q => by omega)]]; exact hp) dX5_own_38
      · refine n_if_eq (tgt := 32) hx hb (by omega) dX5_own_19 (by decide) (fun hz => ?_) (fun hz => ?_)
        · refine lv_aload_n hx hb dX5_own_32 rfl (lv_at hl 0 rfl) ?_
          refine lv_bipush (v := -7) hx hb dX5_own_33 (by decide) ?_
          refine call_vi B hA hW (92) (by omega) m92 (r := _) rfl rfl (k_M_no l G n ad w hn σ hM (-7) 7 (by decide) (by decide) (by decide)) mf_X5_no hw_449 rfl ⟨⟨rfl, rfl⟩, by decide, by decide⟩ ⟨Nat.zero_le _, Nat.zero_le _⟩ hl.1 rfl (Nat.le_of_ble_eq_true rfl) dX5_own_35 (fun r w9 H locs hp hW => ?_)
          exact ret_i B hr hlk hW (by rw [show st_own σ (nI i) x = ref σ 7 by unfold st_own; rw [cif_t ⟨i, hi, rfl⟩, cif_f (fun q => hnp q.1)]]; exact hp) dX5_own_38
        · exact absurd rfl hz
    · exact absurd hz (by decide)
  · refine n_if_ne (tgt := 15) hx hb (by omega) dX5_own_5 (by decide) (fun hz => ?_) (fun hz => ?_)
    · exact absurd rfl hz
    · refine lv_aload_n hx hb dX5_own_8 rfl (lv_at hl 0 rfl) ?_
      refine lv_bipush (v := -3) hx hb dX5_own_9 (by decide) ?_
      refine call_vi B hA hW (92) (by omega) m92 (r := _) rfl rfl (k_M_no l G n ad w hn σ hM (-3) 3 (by decide) (by decide) (by decide)) mf_X5_no hw_449 rfl ⟨⟨rfl, rfl⟩, by decide, by decide⟩ ⟨Nat.zero_le _, Nat.zero_le _⟩ hl.1 rfl (Nat.le_of_ble_eq_true rfl) dX5_own_11 (fun r w9 H locs hp hW => ?_)
      exact ret_i B hr hlk hW (by rw [show st_own σ f x = ref σ 3 by unfold st_own; rw [cif_f hnf]]; exact hp) dX5_own_14
set_option maxHeartbeats 4000000 in
set_option maxRecDepth 100000 in
theorem k_X5_apart (l : Launch) (G : zG) (n : Nat) (ad : Nat → Nat) (w : Nat → va_E) (hn : 111 ≤ n) (σ : zS) (hM : MOK G ad w σ) (hs : SOK σ) (f g : Int32) :
    Ci l G yX5_apart cdX5_apart (zr 5) n ad w [.ref (ad (92)), .int (f), .int (g)] (postM G ad w (st_apart σ f g)) := by
  obtain ⟨m92, ⟨f93, m93, v93⟩, ⟨f94, m94, v94⟩, ⟨f95, m95, v95⟩, ⟨f96, m96, v96⟩, ⟨f97, m97, v97⟩, mE2, mE4, mE6, mD, m102, m103, m104, m105, m106, m107, m108, ⟨f109, m109, v109⟩, m110⟩ := id hM
  have hsh := hs.1
  refine ent_i (cc := cX5_apart) (maxL := 3) (ret := (some .int)) (by decide +kernel) rfl (Nat.le_of_ble_eq_true rfl) ?_
  intro p e s m args below meth c A B hr hlk hA H locs ls hW hl
  have hx := B.1
  have hb := B.2.1
  have hl : lv_has ls 3 [(0, .ref (ad (92))), (1, .int (f)), (2, .int (g))] := hl
  refine lv_aload_n hx hb dX5_apart_0 rfl (lv_at hl 0 rfl) ?_
  refine lv_iload_n hx hb dX5_apart_1 rfl (lv_at hl 1 rfl) ?_
  refine call_vi B hA hW (92) (by omega) m92 (r := _) rfl rfl (k_M_isForm l G n ad w hn σ hM hs f) mf_X5_isForm hw_473 rfl ⟨⟨rfl, rfl⟩, by decide, by decide⟩ ⟨Nat.zero_le _, Nat.zero_le _⟩ hl.1 rfl (Nat.le_of_ble_eq_true rfl) dX5_apart_2 (fun r w9 H locs hp hW => ?_)
  obtain ⟨e1, hp⟩ := hp
  rw [e1] at hW
  rcases hp with ⟨i, hi, rfl, rfl⟩ | ⟨hnf, rfl⟩
  · obtain ⟨w40_i, w2_i, k4_i, t40_i, r_i, s_i⟩ := hs.2.1 i hi
    have h16_i : i < 16 := by omega
    refine n_if_eq (tgt := 16) hx hb (by omega) dX5_apart_5 (by decide) (fun hz => ?_) (fun hz => ?_)
    · exact absurd hz (by decide)
    · refine lv_aload_n hx hb dX5_apart_8 rfl (lv_at hl 0 rfl) ?_
      refine lv_iload_n hx hb dX5_apart_9 rfl (lv_at hl 2 rfl) ?_
      refine call_vi B hA hW (92) (by omega) m92 (r := _) rfl rfl (k_M_isForm l G n ad w hn σ hM hs g) mf_X5_isForm hw_473 rfl ⟨⟨rfl, rfl⟩, by decide, by decide⟩ ⟨Nat.zero_le _, Nat.zero_le _⟩ hl.1 rfl (Nat.le_of_ble_eq_true rfl) dX5_apart_10 (fun r w9 H locs hp hW => ?_)
      obtain ⟨e1, hp⟩ := hp
      rw [e1] at hW
      rcases hp with ⟨j, hj, rfl, rfl⟩ | ⟨hnf, rfl⟩
      · obtain ⟨w40_j, w2_j, k4_j, t40_j, r_j, s_j⟩ := hs.2.1 j hj
        have h16_j : j < 16 := by omega
        refine n_if_ne (tgt := 23) hx hb (by omega) dX5_apart_13 (by decide) (fun hz => ?_) (fun hz => ?_)
        · have hS : st_apart σ (nI i) (nI j) = cif (sW σ i = sW σ j) (theI (unlR (sE σ i) (sE σ j)), σ) (ref σ 7) := by
            unfold st_apart
            rw [cif_t ⟨⟨i, hi, rfl⟩, ⟨j, hj, rfl⟩⟩, cN_nI (by omega), cN_nI (by omega)]
          rw [hS]
          refine lv_aload_n hx hb dX5_apart_23 rfl (lv_at hl 0 rfl) ?_
          refine z_get B hW (92) (by omega) m92 rfl inX5 2 (by decide) hw_377 rfl (v := .ref (ad (95))) rfl dX5_apart_24 ?_
          refine lv_iload_n hx hb dX5_apart_27 rfl (lv_at hl 1 rfl) ?_
          refine z_iald B hW (95) (by omega) m95 (i) (by omega) (by decide) (v := (nI (sW σ (i)))) (v95 _ (by omega)) dX5_apart_28 ?_
          refine lv_aload_n hx hb dX5_apart_29 rfl (lv_at hl 0 rfl) ?_
          refine z_get B hW (92) (by omega) m92 rfl inX5 2 (by decide) hw_377 rfl (v := .ref (ad (95))) rfl dX5_apart_30 ?_
          refine lv_iload_n hx hb dX5_apart_33 rfl (lv_at hl 2 rfl) ?_
          refine z_iald B hW (95) (by omega) m95 (j) (by omega) (by decide) (v := (nI (sW σ (j)))) (v95 _ (by omega)) dX5_apart_34 ?_
          refine n_icmp_ne (tgt := 47) hx hb (by omega) (by omega) dX5_apart_35 (by decide) (fun hd => ?_) (fun hd => ?_)
          · refine lv_aload_n hx hb dX5_apart_47 rfl (lv_at hl 0 rfl) ?_
            refine lv_bipush (v := -7) hx hb dX5_apart_48 (by decide) ?_
            refine call_vi B hA hW (92) (by omega) m92 (r := _) rfl rfl (k_M_no l G n ad w hn σ hM (-7) 7 (by decide) (by decide) (by decide)) mf_X5_no hw_449 rfl ⟨⟨rfl, rfl⟩, by decide, by decide⟩ ⟨Nat.zero_le _, Nat.zero_le _⟩ hl.1 rfl (Nat.le_of_ble_eq_true rfl) dX5_apart_50 (fun r w9 H locs hp hW => ?_)
            exact ret_i B hr hlk hW (by rw [cif_f hd]; exact hp) dX5_apart_53
          · refine lv_aload_n hx hb dX5_apart_38 rfl (lv_at hl 0 rfl) ?_
            refine lv_iload_n hx hb dX5_apart_39 rfl (lv_at hl 1 rfl) ?_
            refine lv_iload_n hx hb dX5_apart_40 rfl (lv_at hl 2 rfl) ?_
            refine call_vi B hA hW (92) (by omega) m92 (r := _) rfl rfl (k_M_firstApart l G n ad w hn σ hM hs i j hi hj) mf_X5_firstApart hw_571 rfl ⟨⟨rfl, rfl⟩, by decide, by decide⟩ ⟨Nat.zero_le _, Nat.zero_le _⟩ hl.1 rfl (Nat.le_of_ble_eq_true rfl) dX5_apart_41 (fun r w9 H locs hp hW => ?_)
            obtain ⟨e1, e2⟩ := hp
            rw [e1] at hW
            refine lv_goto (tgt := 53) hx hb dX5_apart_44 (by decide) ?_
            exact ret_i B hr hlk hW (by rw [cif_t hd]; exact ⟨theI_eq e2 (fun _ _ => unlR_one), hM, fun _ _ => rfl⟩) dX5_apart_53
        · exact absurd hz (by decide)
      · refine n_if_ne (tgt := 23) hx hb (by omega) dX5_apart_13 (by decide) (fun hz => ?_) (fun hz => ?_)
        · exact absurd rfl hz
        · refine lv_aload_n hx hb dX5_apart_16 rfl (lv_at hl 0 rfl) ?_
          refine lv_bipush (v := -3) hx hb dX5_apart_17 (by decide) ?_
          refine call_vi B hA hW (92) (by omega) m92 (r := _) rfl rfl (k_M_no l G n ad w hn σ hM (-3) 3 (by decide) (by decide) (by decide)) mf_X5_no hw_449 rfl ⟨⟨rfl, rfl⟩, by decide, by decide⟩ ⟨Nat.zero_le _, Nat.zero_le _⟩ hl.1 rfl (Nat.le_of_ble_eq_true rfl) dX5_apart_19 (fun r w9 H locs hp hW => ?_)
          exact ret_i B hr hlk hW (by rw [show st_apart σ (nI i) g = ref σ 3 by unfold st_apart; rw [cif_f (fun q => hnf q.2)]]; exact hp) dX5_apart_22
  · refine n_if_eq (tgt := 16) hx hb (by omega) dX5_apart_5 (by decide) (fun hz => ?_) (fun hz => ?_)
    · refine lv_aload_n hx hb dX5_apart_16 rfl (lv_at hl 0 rfl) ?_
      refine lv_bipush (v := -3) hx hb dX5_apart_17 (by decide) ?_
      refine call_vi B hA hW (92) (by omega) m92 (r := _) rfl rfl (k_M_no l G n ad w hn σ hM (-3) 3 (by decide) (by decide) (by decide)) mf_X5_no hw_449 rfl ⟨⟨rfl, rfl⟩, by decide, by decide⟩ ⟨Nat.zero_le _, Nat.zero_le _⟩ hl.1 rfl (Nat.le_of_ble_eq_true rfl) dX5_apart_19 (fun r w9 H locs hp hW => ?_)
      exact ret_i B hr hlk hW (by rw [show st_apart σ f g = ref σ 3 by unfold st_apart; rw [cif_f (fun q => hnf q.1)]]; exact hp) dX5_apart_22
    · exact absurd rfl hz
set_option maxHeartbeats 4000000 in
set_option maxRecDepth 100000 in
theorem k_X5_same (l : Launch) (G : zG) (n : Nat) (ad : Nat → Nat) (w : Nat → va_E) (hn : 111 ≤ n) (σ : zS) (hM : MOK G ad w σ) (hs : SOK σ) (f g : Int32) :
    Ci l G yX5_same cdX5_same (zr 5) n ad w [.ref (ad (92)), .int (f), .int (g)] (postM G ad w (st_same σ f g)) := by
  obtain ⟨m92, ⟨f93, m93, v93⟩, ⟨f94, m94, v94⟩, ⟨f95, m95, v95⟩, ⟨f96, m96, v96⟩, ⟨f97, m97, v97⟩, mE2, mE4, mE6, mD, m102, m103, m104, m105, m106, m107, m108, ⟨f109, m109, v109⟩, m110⟩ := id hM
  have hsh := hs.1
  refine ent_i (cc := cX5_same) (maxL := 4) (ret := (some .int)) (by decide +kernel) rfl (Nat.le_of_ble_eq_true rfl) ?_
  intro p e s m args below meth c A B hr hlk hA H locs ls hW hl
  have hx := B.1
  have hb := B.2.1
  have hl : lv_has ls 4 [(0, .ref (ad (92))), (1, .int (f)), (2, .int (g))] := hl
  refine lv_aload_n hx hb dX5_same_0 rfl (lv_at hl 0 rfl) ?_
  refine lv_iload_n hx hb dX5_same_1 rfl (lv_at hl 1 rfl) ?_
  refine call_vi B hA hW (92) (by omega) m92 (r := _) rfl rfl (k_M_isForm l G n ad w hn σ hM hs f) mf_X5_isForm hw_473 rfl ⟨⟨rfl, rfl⟩, by decide, by decide⟩ ⟨Nat.zero_le _, Nat.zero_le _⟩ hl.1 rfl (Nat.le_of_ble_eq_true rfl) dX5_same_2 (fun r w9 H locs hp hW => ?_)
  obtain ⟨e1, hp⟩ := hp
  rw [e1] at hW
  rcases hp with ⟨i, hi, rfl, rfl⟩ | ⟨hnf, rfl⟩
  · obtain ⟨w40_i, w2_i, k4_i, t40_i, r_i, s_i⟩ := hs.2.1 i hi
    have h16_i : i < 16 := by omega
    refine n_if_eq (tgt := 16) hx hb (by omega) dX5_same_5 (by decide) (fun hz => ?_) (fun hz => ?_)
    · exact absurd hz (by decide)
    · refine lv_aload_n hx hb dX5_same_8 rfl (lv_at hl 0 rfl) ?_
      refine lv_iload_n hx hb dX5_same_9 rfl (lv_at hl 2 rfl) ?_
      refine call_vi B hA hW (92) (by omega) m92 (r := _) rfl rfl (k_M_isForm l G n ad w hn σ hM hs g) mf_X5_isForm hw_473 rfl ⟨⟨rfl, rfl⟩, by decide, by decide⟩ ⟨Nat.zero_le _, Nat.zero_le _⟩ hl.1 rfl (Nat.le_of_ble_eq_true rfl) dX5_same_10 (fun r w9 H locs hp hW => ?_)
      obtain ⟨e1, hp⟩ := hp
      rw [e1] at hW
      rcases hp with ⟨j, hj, rfl, rfl⟩ | ⟨hnf, rfl⟩
      · obtain ⟨w40_j, w2_j, k4_j, t40_j, r_j, s_j⟩ := hs.2.1 j hj
        have h16_j : j < 16 := by omega
        refine n_if_ne (tgt := 23) hx hb (by omega) dX5_same_13 (by decide) (fun hz => ?_) (fun hz => ?_)
        · have hS : st_same σ (nI i) (nI j) = cif ((sW σ i = sW σ j ∨ ∀ q, q < 48 → sE σ i q = 0) ∧ ∀ q, q < 48 → sE σ i q = sE σ j q) (nI 1, σ) (nI 0, σ) := by
            unfold st_same
            rw [cif_t ⟨⟨i, hi, rfl⟩, ⟨j, hj, rfl⟩⟩, cN_nI (by omega), cN_nI (by omega)]
          rw [hS]
          refine lv_aload_n hx hb dX5_same_23 rfl (lv_at hl 0 rfl) ?_
          refine lv_iload_n hx hb dX5_same_24 rfl (lv_at hl 1 rfl) ?_
          refine lv_iload_n hx hb dX5_same_25 rfl (lv_at hl 2 rfl) ?_
          refine call_vi B hA hW (92) (by omega) m92 (r := _) rfl rfl (k_M_firstApart l G n ad w hn σ hM hs i j hi hj) mf_X5_firstApart hw_571 rfl ⟨⟨rfl, rfl⟩, by decide, by decide⟩ ⟨Nat.zero_le _, Nat.zero_le _⟩ hl.1 rfl (Nat.le_of_ble_eq_true rfl) dX5_same_26 (fun r w9 H locs hp hW => ?_)
          obtain ⟨e1, hp⟩ := hp
          rw [e1] at hW
          rcases hp with ⟨rfl, hall⟩ | ⟨p9, rfl, h48, hne, -⟩
          · refine lv_iconst (v := -1) hx hb dX5_same_29 (by decide) ?_
            refine lv_icmp_ne (tgt := 61) hx hb dX5_same_30 (by decide) (fun hz => ?_) (fun hz => ?_)
            · exact absurd rfl hz
            · refine lv_aload_n hx hb dX5_same_33 rfl (lv_at hl 0 rfl) ?_
              refine z_get B hW (92) (by omega) m92 rfl inX5 2 (by decide) hw_377 rfl (v := .ref (ad (95))) rfl dX5_same_34 ?_
              refine lv_iload_n hx hb dX5_same_37 rfl (lv_at hl 1 rfl) ?_
              refine z_iald B hW (95) (by omega) m95 (i) (by omega) (by decide) (v := (nI (sW σ (i)))) (v95 _ (by omega)) dX5_same_38 ?_
              refine lv_aload_n hx hb dX5_same_39 rfl (lv_at hl 0 rfl) ?_
              refine z_get B hW (92) (by omega) m92 rfl inX5 2 (by decide) hw_377 rfl (v := .ref (ad (95))) rfl dX5_same_40 ?_
              refine lv_iload_n hx hb dX5_same_43 rfl (lv_at hl 2 rfl) ?_
              refine z_iald B hW (95) (by omega) m95 (j) (by omega) (by decide) (v := (nI (sW σ (j)))) (v95 _ (by omega)) dX5_same_44 ?_
              refine n_icmp_eq (tgt := 57) hx hb (by omega) (by omega) dX5_same_45 (by decide) (fun hd => ?_) (fun hd => ?_)
              · refine lv_iconst (v := nI 1) hx hb dX5_same_57 (by decide) ?_
                refine lv_goto (tgt := 62) hx hb dX5_same_58 (by decide) ?_
                refine lv_istore_n (lv' := [(3, .int (nI (1))), (0, .ref (ad (92))), (1, .int (nI (i))), (2, .int (nI (j)))]) hx hb dX5_same_62 rfl hl (by decide) rfl (fun ls hl => ?_)
                refine lv_iload_n hx hb dX5_same_63 rfl (lv_at hl 0 rfl) ?_
                refine n_if_eq (tgt := 71) hx hb (by omega) dX5_same_64 (by decide) (fun hy => ?_) (fun hy => ?_)
                · exact absurd hy (by decide)
                · refine lv_iconst (v := nI 1) hx hb dX5_same_67 (by decide) ?_
                  refine lv_goto (tgt := 72) hx hb dX5_same_68 (by decide) ?_
                  exact ret_i B hr hlk hW (by rw [cif_t ⟨Or.inl hd, hall⟩]; exact ⟨rfl, hM, fun _ _ => rfl⟩) dX5_same_72
              · refine lv_aload_n hx hb dX5_same_48 rfl (lv_at hl 0 rfl) ?_
                refine lv_iload_n hx hb dX5_same_49 rfl (lv_at hl 1 rfl) ?_
                refine call_vi B hA hW (92) (by omega) m92 (r := _) rfl rfl (k_M_leastOf l G n ad w hn σ hM hs i hi) mf_X5_leastOf hw_554 rfl ⟨⟨rfl, rfl⟩, by decide, by decide⟩ ⟨Nat.zero_le _, Nat.zero_le _⟩ hl.1 rfl (Nat.le_of_ble_eq_true rfl) dX5_same_50 (fun r w9 H locs hp hW => ?_)
                obtain ⟨e1, hp⟩ := hp
                rw [e1] at hW
                rcases hp with ⟨rfl, hz0⟩ | ⟨p9, rfl, hp9⟩
                · refine lv_iconst (v := -1) hx hb dX5_same_53 (by decide) ?_
                  refine lv_icmp_ne (tgt := 61) hx hb dX5_same_54 (by decide) (fun hx9 => ?_) (fun hx9 => ?_)
                  · exact absurd rfl hx9
                  · refine lv_iconst (v := nI 1) hx hb dX5_same_57 (by decide) ?_
                    refine lv_goto (tgt := 62) hx hb dX5_same_58 (by decide) ?_
                    refine lv_istore_n (lv' := [(3, .int (nI (1))), (0, .ref (ad (92))), (1, .int (nI (i))), (2, .int (nI (j)))]) hx hb dX5_same_62 rfl hl (by decide) rfl (fun ls hl => ?_)
                    refine lv_iload_n hx hb dX5_same_63 rfl (lv_at hl 0 rfl) ?_
                    refine n_if_eq (tgt := 71) hx hb (by omega) dX5_same_64 (by decide) (fun hy => ?_) (fun hy => ?_)
                    · exact absurd hy (by decide)
                    · refine lv_iconst (v := nI 1) hx hb dX5_same_67 (by decide) ?_
                      refine lv_goto (tgt := 72) hx hb dX5_same_68 (by decide) ?_
                      exact ret_i B hr hlk hW (by rw [cif_t ⟨Or.inr hz0, hall⟩]; exact ⟨rfl, hM, fun _ _ => rfl⟩) dX5_same_72
                · have h948 := hp9.1
                  refine lv_iconst (v := -1) hx hb dX5_same_53 (by decide) ?_
                  refine lv_icmp_ne (tgt := 61) hx hb dX5_same_54 (by decide) (fun hx9 => ?_) (fun hx9 => ?_)
                  · refine lv_iconst (v := nI 0) hx hb dX5_same_61 (by decide) ?_
                    refine lv_istore_n (lv' := [(3, .int (nI (0))), (0, .ref (ad (92))), (1, .int (nI (i))), (2, .int (nI (j)))]) hx hb dX5_same_62 rfl hl (by decide) rfl (fun ls hl => ?_)
                    refine lv_iload_n hx hb dX5_same_63 rfl (lv_at hl 0 rfl) ?_
                    refine n_if_eq (tgt := 71) hx hb (by omega) dX5_same_64 (by decide) (fun hy => ?_) (fun hy => ?_)
                    · refine lv_iconst (v := nI 0) hx hb dX5_same_71 (by decide) ?_
                      exact ret_i B hr hlk hW (by rw [cif_f (fun q => by rcases q.1 with q1 | q1; exact hd q1; exact hp9.2.1 (q1 p9 hp9.1))]; exact ⟨rfl, hM, fun _ _ => rfl⟩) dX5_same_72
                    · exact absurd rfl hy
                  · exact absurd hx9 (nI_m1 (by omega))
          · refine lv_iconst (v := -1) hx hb dX5_same_29 (by decide) ?_
            refine lv_icmp_ne (tgt := 61) hx hb dX5_same_30 (by decide) (fun hz => ?_) (fun hz => ?_)
            · refine lv_iconst (v := nI 0) hx hb dX5_same_61 (by decide) ?_
              refine lv_istore_n (lv' := [(3, .int (nI (0))), (0, .ref (ad (92))), (1, .int (nI (i))), (2, .int (nI (j)))]) hx hb dX5_same_62 rfl hl (by decide) rfl (fun ls hl => ?_)
              refine lv_iload_n hx hb dX5_same_63 rfl (lv_at hl 0 rfl) ?_
              refine n_if_eq (tgt := 71) hx hb (by omega) dX5_same_64 (by decide) (fun hy => ?_) (fun hy => ?_)
              · refine lv_iconst (v := nI 0) hx hb dX5_same_71 (by decide) ?_
                exact ret_i B hr hlk hW (by rw [cif_f (fun q => hne (q.2 p9 h48))]; exact ⟨rfl, hM, fun _ _ => rfl⟩) dX5_same_72
              · exact absurd rfl hy
            · exact absurd hz (nI_m1 (by omega))
        · exact absurd hz (by decide)
      · refine n_if_ne (tgt := 23) hx hb (by omega) dX5_same_13 (by decide) (fun hz => ?_) (fun hz => ?_)
        · exact absurd rfl hz
        · refine lv_aload_n hx hb dX5_same_16 rfl (lv_at hl 0 rfl) ?_
          refine lv_bipush (v := -3) hx hb dX5_same_17 (by decide) ?_
          refine call_vi B hA hW (92) (by omega) m92 (r := _) rfl rfl (k_M_no l G n ad w hn σ hM (-3) 3 (by decide) (by decide) (by decide)) mf_X5_no hw_449 rfl ⟨⟨rfl, rfl⟩, by decide, by decide⟩ ⟨Nat.zero_le _, Nat.zero_le _⟩ hl.1 rfl (Nat.le_of_ble_eq_true rfl) dX5_same_19 (fun r w9 H locs hp hW => ?_)
          exact ret_i B hr hlk hW (by rw [show st_same σ (nI i) g = ref σ 3 by unfold st_same; rw [cif_f (fun q => hnf q.2)]]; exact hp) dX5_same_22
  · refine n_if_eq (tgt := 16) hx hb (by omega) dX5_same_5 (by decide) (fun hz => ?_) (fun hz => ?_)
    · refine lv_aload_n hx hb dX5_same_16 rfl (lv_at hl 0 rfl) ?_
      refine lv_bipush (v := -3) hx hb dX5_same_17 (by decide) ?_
      refine call_vi B hA hW (92) (by omega) m92 (r := _) rfl rfl (k_M_no l G n ad w hn σ hM (-3) 3 (by decide) (by decide) (by decide)) mf_X5_no hw_449 rfl ⟨⟨rfl, rfl⟩, by decide, by decide⟩ ⟨Nat.zero_le _, Nat.zero_le _⟩ hl.1 rfl (Nat.le_of_ble_eq_true rfl) dX5_same_19 (fun r w9 H locs hp hW => ?_)
      exact ret_i B hr hlk hW (by rw [show st_same σ f g = ref σ 3 by unfold st_same; rw [cif_f (fun q => hnf q.1)]]; exact hp) dX5_same_22
    · exact absurd rfl hz
