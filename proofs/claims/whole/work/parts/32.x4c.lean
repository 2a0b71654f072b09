theorem k_findParts4 (l : Launch) (G : zG) (n : Nat) (ad : Nat → Nat) (w : Nat → va_E) (k nf kn kp : Nat) (v : Nat → Nat) (hn : 55 ≤ n) (hk : k ≤ 40) (hk2 : k % 2 = 0) (hB : BOK G ad w nf nf) (hkn : 55 ≤ kn) (hkn2 : kn < n) (hkp : 55 ≤ kp) (hkp2 : kp < n) (hne : kn ≠ kp) (fv : Nat → Int64) (ev : w kn = eL G 4 fv) (vv : ∀ i, i < zs k → fv i = lN (v i)) (rv : ∀ i, i < zs k → v i < 1000003) (fp : Nat → Int64) (hp0 : w kp = eL G 4 fp) :
    Cv l G yX0_findParts cdX0_findParts (zr 3) n ad w [.ref (ad 2), .int (nI k), .ref (ad kn), .ref (ad kp)] (fun w' => ∃ nf', BOK G ad w' nf' nf' ∧ (∀ j, j ≠ 2 → ¬ (11 ≤ j ∧ j < 55) → j ≠ kp → w' j = w j) ∧ ∃ f, w' kp = eL G 4 f ∧ (∀ i, i < zs k → f i = lN (prt (bas k) v i)) ∧ ∀ i, zs k ≤ i → f i = fp i) :=
  k_findPartsN l G n ad w k nf kn kp 4 v hn hk hk2 hB hkn hkn2 hkp hkp2 hne (zs_le k hk).1 (by decide) fv ev vv rv fp hp0
set_option maxHeartbeats 4000000 in
set_option maxRecDepth 100000 in
theorem k_X4_prime (l : Launch) (G : zG) (n : Nat) (ad : Nat → Nat) (w : Nat → va_E) (hn : 92 ≤ n) (σ : zS) (hX : XOK G ad w σ) (hs : SOK σ) (f x : Int32) :
    Ci l G yX4_prime cdX4_prime (zr 5) n ad w [.ref (ad (0)), .int (f), .int (x)] (postX G ad w (st_prime σ f x)) := by
  obtain ⟨⟨nf, hB⟩, x0, ⟨f1, x1, v1⟩, ⟨f55, x55⟩, ⟨f56, x56⟩, ⟨f57, x57⟩, ⟨f58, x58, v58⟩, ⟨f59, x59, v59⟩, xf⟩ := id hX
  have hsh := hs.1
  refine ent_i (cc := cX4_prime) (maxL := 4) (ret := (some .int)) (by decide +kernel) rfl (Nat.le_of_ble_eq_true rfl) ?_
  intro p e s m args below meth c A B hr hlk hA H locs ls hW hl
  have hx := B.1
  have hb := B.2.1
  have hl : lv_has ls 4 [(0, .ref (ad (0))), (1, .int (f)), (2, .int (x))] := hl
  obtain ⟨b2, -⟩ := id hB
  refine lv_aload_n hx hb dX4_prime_0 rfl (lv_at hl 0 rfl) ?_
  refine lv_iload_n hx hb dX4_prime_1 rfl (lv_at hl 1 rfl) ?_
  refine call_vi B hA hW (0) (by omega) x0 (r := _) rfl rfl (k_isForm l G n ad w hn σ hX hs f) mf_X4_isForm hw_187 rfl ⟨⟨rfl, rfl⟩, by decide, by decide⟩ ⟨Nat.zero_le _, Nat.zero_le _⟩ hl.1 rfl (Nat.le_of_ble_eq_true rfl) dX4_prime_2 (fun r w9 H locs hp hW => ?_)
  obtain ⟨e1, hp⟩ := hp
  rw [e1] at hW
  rcases hp with ⟨i, hi, rfl, rfl⟩ | ⟨hnf, rfl⟩
  · obtain ⟨w40_i, w2_i, k4_i, t40_i, r_i, s_i⟩ := hs.2.1 i hi
    obtain ⟨o_i, n_i⟩ := hX.form hs hi
    obtain ⟨f_i, e_i, v_i⟩ := id n_i
    refine n_if_ne (tgt := 15) hx hb (by omega) dX4_prime_5 (by decide) (fun hz => ?_) (fun hz => ?_)
    · refine lv_aload_n hx hb dX4_prime_15 rfl (lv_at hl 0 rfl) ?_
      refine z_get B hW (0) (by omega) x0 rfl inX4 0 (by decide) hw_115 rfl (v := .ref (ad (1))) rfl dX4_prime_16 ?_
      refine lv_iload_n hx hb dX4_prime_19 rfl (lv_at hl 1 rfl) ?_
      refine z_aald B hW (1) (by omega) x1 (i) (by omega) (by decide) (q := ad (60 + 2 * (i))) (v1 _ (by omega)) dX4_prime_20 ?_
      refine z_get B hW (60 + 2 * (i)) (by omega) o_i rfl inX1 1 (by decide) hw_103 rfl (v := .int (nI (sW σ i))) rfl dX4_prime_21 ?_
      refine lv_istore_n (lv' := [(3, .int (nI (sW σ i))), (0, .ref (ad (0))), (1, .int (nI (i))), (2, .int (x))]) hx hb dX4_prime_24 rfl hl (by decide) rfl (fun ls hl => ?_)
      refine lv_iload_n hx hb dX4_prime_25 rfl (lv_at hl 3 rfl) ?_
      refine call_si B hA hW (k_X4_isPrime l G n ad w x) mf_X4_isPrime hw_255 rfl ⟨⟨rfl, rfl⟩, by decide, by decide⟩ ⟨Nat.zero_le _, Nat.zero_le _⟩ hl.1 rfl (Nat.le_of_ble_eq_true rfl) dX4_prime_26 (fun r w9 H locs hp hW => ?_)
      obtain ⟨e1, hp⟩ := hp
      rw [e1] at hW
      rcases hp with ⟨p9, hp9, rfl, rfl⟩ | ⟨hnp, rfl⟩
      · refine n_if_eq (tgt := 37) hx hb (by omega) dX4_prime_29 (by decide) (fun hz => ?_) (fun hz => ?_)
        · exact absurd hz (by decide)
        · refine lv_iload_n hx hb dX4_prime_32 rfl (lv_at hl 0 rfl) ?_
          refine lv_iconst (v := nI 4) hx hb dX4_prime_33 (by decide) ?_
          refine n_icmp_ge (tgt := 44) hx hb (by omega) (by omega) dX4_prime_34 (by decide) (fun hd => ?_) (fun hd => ?_)
          · have hS : st_prime σ (nI i) (nI p9) = comeO σ (sW σ i) (prmS (sW σ i) p9 (sE σ i)) := by
              unfold st_prime
              rw [cif_t ⟨i, hi, rfl⟩, cN_nI (by omega), cif_t ⟨⟨p9, hp9, rfl⟩, hd⟩, cN_nI (by have := isP_rng hp9; omega)]
            rw [hS]
            have hzl := zs_le (sW σ i) w40_i
            refine lv_aload_n hx hb dX4_prime_44 rfl (lv_at hl 1 rfl) ?_
            refine lv_iload_n hx hb dX4_prime_45 rfl (lv_at hl 0 rfl) ?_
            refine call_vi B hA hW (0) (by omega) x0 (r := _) rfl rfl (k_hasRoom l G n ad w hn σ hX hs (sW σ i) (by omega)) mf_X4_hasRoom hw_159 rfl ⟨⟨rfl, rfl⟩, by decide, by decide⟩ ⟨Nat.zero_le _, Nat.zero_le _⟩ hl.1 rfl (Nat.le_of_ble_eq_true rfl) dX4_prime_46 (fun r w9 H locs hp hW => ?_)
            obtain ⟨e1, hp⟩ := hp
            rw [e1] at hW
            rcases hp with ⟨hh, hk40, rfl⟩ | ⟨hnr, rfl⟩
            · obtain ⟨xa, ya, za, fa, g1, g2⟩ := hX.free hh
              refine n_if_ne (tgt := 59) hx hb (by omega) dX4_prime_49 (by decide) (fun hz => ?_) (fun hz => ?_)
              · refine lv_aload_n hx hb dX4_prime_59 rfl (lv_at hl 1 rfl) ?_
                refine z_get B hW (0) (by omega) x0 rfl inX4 2 (by decide) hw_117 rfl (v := .ref (ad (2))) rfl dX4_prime_60 ?_
                refine lv_iload_n hx hb dX4_prime_63 rfl (lv_at hl 0 rfl) ?_
                refine lv_aload_n hx hb dX4_prime_64 rfl (lv_at hl 1 rfl) ?_
                refine z_get B hW (0) (by omega) x0 rfl inX4 0 (by decide) hw_115 rfl (v := .ref (ad (1))) rfl dX4_prime_65 ?_
                refine lv_iload_n hx hb dX4_prime_68 rfl (lv_at hl 2 rfl) ?_
                refine z_aald B hW (1) (by omega) x1 (i) (by omega) (by decide) (q := ad (60 + 2 * (i))) (v1 _ (by omega)) dX4_prime_69 ?_
                refine z_get B hW (60 + 2 * (i)) (by omega) o_i rfl inX1 0 (by decide) hw_101 rfl (v := .ref (ad (61 + 2 * (i)))) rfl dX4_prime_70 ?_
                refine lv_iload_n hx hb dX4_prime_73 rfl (lv_at hl 3 rfl) ?_
                refine lv_aload_n hx hb dX4_prime_74 rfl (lv_at hl 1 rfl) ?_
                refine z_get B hW (0) (by omega) x0 rfl inX4 4 (by decide) hw_119 rfl (v := .ref (ad (56))) rfl dX4_prime_75 ?_
                refine call_vv B hA hW (2) (by omega) b2 (r := _) rfl rfl (k_putImage l G n ad w (sW σ i) nf nf (61 + 2 * i) 56 p9 (sE σ i) (by omega) (by omega) (by omega) hB (isP_rng hp9).1 (isP_rng hp9).2 (by omega) (by omega) (by omega) (by omega) n_i r_i.s ⟨f56, x56⟩) mf_X0_putImage hw_258 rfl ⟨⟨rfl, rfl⟩, by decide, by decide⟩ ⟨Nat.zero_le _, Nat.zero_le _⟩ hl.1 rfl (Nat.le_of_ble_eq_true rfl) dX4_prime_78 (fun w2 H locs hp hW => ?_)
                obtain ⟨fr2, i2, j2, v2⟩ := hp
                have hX2 : XOK G ad w2 σ := hX.img fr2 ⟨_, j2⟩
                have hB2 : BOK G ad w2 nf nf := hB.keep (fun j q1 q2 => fr2 j (by omega))
                obtain ⟨b22, -⟩ := id hB2
                obtain ⟨f12, x12, v12⟩ := hX2.2.2.1
                refine lv_aload_n hx hb dX4_prime_81 rfl (lv_at hl 1 rfl) ?_
                refine z_get B hW (0) (by omega) hX2.2.1 rfl inX4 2 (by decide) hw_117 rfl (v := .ref (ad (2))) rfl dX4_prime_82 ?_
                refine lv_iload_n hx hb dX4_prime_85 rfl (lv_at hl 0 rfl) ?_
                refine lv_aload_n hx hb dX4_prime_86 rfl (lv_at hl 1 rfl) ?_
                refine z_get B hW (0) (by omega) hX2.2.1 rfl inX4 4 (by decide) hw_119 rfl (v := .ref (ad (56))) rfl dX4_prime_87 ?_
                refine lv_aload_n hx hb dX4_prime_90 rfl (lv_at hl 1 rfl) ?_
                refine z_get B hW (0) (by omega) hX2.2.1 rfl inX4 3 (by decide) hw_118 rfl (v := .ref (ad (55))) rfl dX4_prime_91 ?_
                obtain ⟨f552, x552⟩ := hX2.2.2.2.1
                refine call_vv B hA hW (2) (by omega) b22 (r := _) rfl rfl (k_findParts4 l G n ad w2 (sW σ i) nf 56 55 (imgS (sW σ i) p9 (sE σ i)) (by omega) w40_i w2_i hB2 (by omega) (by omega) (by omega) (by omega) (by omega) i2 j2 v2 (fun q _ => imgS_lt _ _ _ _) f552 x552) mf_X0_findParts hw_223 rfl ⟨⟨rfl, rfl⟩, by decide, by decide⟩ ⟨Nat.zero_le _, Nat.zero_le _⟩ hl.1 rfl (Nat.le_of_ble_eq_true rfl) dX4_prime_94 (fun w3 H locs hp hW => ?_)
                obtain ⟨nf3, hB3, fr3, p3, q3, v3, -⟩ := hp
                have hX3 : XOK G ad w3 σ := hX2.parts hB3 fr3 ⟨_, q3⟩
                obtain ⟨b23, -⟩ := id hB3
                obtain ⟨f13, x13, v13⟩ := hX3.2.2.1
                obtain ⟨xa3, ya3, za3, fa3, g13, g23⟩ := hX3.free hh
                refine lv_aload_n hx hb dX4_prime_97 rfl (lv_at hl 1 rfl) ?_
                refine z_get B hW (0) (by omega) hX3.2.1 rfl inX4 2 (by decide) hw_117 rfl (v := .ref (ad (2))) rfl dX4_prime_98 ?_
                refine lv_iload_n hx hb dX4_prime_101 rfl (lv_at hl 0 rfl) ?_
                refine lv_aload_n hx hb dX4_prime_102 rfl (lv_at hl 1 rfl) ?_
                refine z_get B hW (0) (by omega) hX3.2.1 rfl inX4 3 (by decide) hw_118 rfl (v := .ref (ad (55))) rfl dX4_prime_103 ?_
                refine lv_aload_n hx hb dX4_prime_106 rfl (lv_at hl 1 rfl) ?_
                refine z_get B hW (0) (by omega) hX3.2.1 rfl inX4 0 (by decide) hw_115 rfl (v := .ref (ad (1))) rfl dX4_prime_107 ?_
                refine lv_aload_n hx hb dX4_prime_110 rfl (lv_at hl 1 rfl) ?_
                refine z_get B hW (0) (by omega) hX3.2.1 rfl inX4 1 (by decide) hw_116 rfl (v := .int (nI (sH σ))) rfl dX4_prime_111 ?_
                refine z_aald B hW (1) (by omega) x13 (sH σ) (by omega) (by decide) (q := ad (60 + 2 * (sH σ))) (v13 _ (by omega)) dX4_prime_114 ?_
                refine z_get B hW (60 + 2 * (sH σ)) (by omega) g13 rfl inX1 0 (by decide) hw_101 rfl (v := .ref (ad (61 + 2 * (sH σ)))) rfl dX4_prime_115 ?_
                refine call_vv B hA hW (2) (by omega) b23 (r := _) rfl rfl (k_join l G n ad w3 (sW σ i) nf3 55 (61 + 2 * sH σ) (prt (bas (sW σ i)) (imgS (sW σ i) p9 (sE σ i))) (by omega) w40_i w2_i hB3 (by omega) (by omega) (by omega) (by omega) (by omega) (fun j _ => prt_lt (imgS_lt _ _ _ _)) p3 q3 v3 ⟨_, g23⟩) mf_X0_join hw_246 rfl ⟨⟨rfl, rfl⟩, by decide, by decide⟩ ⟨Nat.zero_le _, Nat.zero_le _⟩ hl.1 rfl (Nat.le_of_ble_eq_true rfl) dX4_prime_118 (fun w4 H locs hp hW => ?_)
                obtain ⟨nf4, hB4, fr4, hL4⟩ := hp
                have hX2b : XOK G ad w4 σ := hX3.join1 hB4 fr4 ⟨_, hL4.choose_spec.1⟩
                have hX2 := hX2b
                refine lv_aload_n hx hb dX4_prime_121 rfl (lv_at hl 1 rfl) ?_
                refine lv_iload_n hx hb dX4_prime_122 rfl (lv_at hl 0 rfl) ?_
                refine call_vi B hA hW (0) (by omega) hX2.2.1 (r := _) rfl rfl (k_comeOfOthers l G n ad w4 hn σ hX2 hs hh (sW σ i) hk40 (prmS (sW σ i) p9 (sE σ i)) hL4 (bld_lt _ _ _ _)) mf_X4_comeOfOthers hw_192 rfl ⟨⟨rfl, rfl⟩, by decide, by decide⟩ ⟨Nat.zero_le _, Nat.zero_le _⟩ hl.1 rfl (Nat.le_of_ble_eq_true rfl) dX4_prime_123 (fun r w9 H locs hp9 hW => ?_)
                exact ret_i B hr hlk hW ⟨hp9.1, hp9.2.1, fun j hj => (hp9.2.2 j hj).trans (((fr4 j (by omega) (by omega) (by omega)).trans (fr3 j (by omega) (by omega) (by omega))).trans (fr2 j (by omega)))⟩ dX4_prime_126
              · exact absurd hz (by decide)
            · refine n_if_ne (tgt := 59) hx hb (by omega) dX4_prime_49 (by decide) (fun hz => ?_) (fun hz => ?_)
              · exact absurd rfl hz
              · refine lv_aload_n hx hb dX4_prime_52 rfl (lv_at hl 1 rfl) ?_
                refine lv_bipush (v := -8) hx hb dX4_prime_53 (by decide) ?_
                refine call_vi B hA hW (0) (by omega) x0 (r := _) rfl rfl (k_refuse l G n ad w hn σ hX (-8) 8 (by decide) (by decide) (by decide) (by decide) (by decide)) mf_X4_refuse hw_152 rfl ⟨⟨rfl, rfl⟩, by decide, by decide⟩ ⟨Nat.zero_le _, Nat.zero_le _⟩ hl.1 rfl (Nat.le_of_ble_eq_true rfl) dX4_prime_55 (fun r w9 H locs hp hW => ?_)
                exact ret_i B hr hlk hW (by rw [comeO_full hnr]; exact hp) dX4_prime_58
          · refine lv_aload_n hx hb dX4_prime_37 rfl (lv_at hl 1 rfl) ?_
            refine lv_bipush (v := -7) hx hb dX4_prime_38 (by decide) ?_
            refine call_vi B hA hW (0) (by omega) x0 (r := _) rfl rfl (k_refuse l G n ad w hn σ hX (-7) 7 (by decide) (by decide) (by decide) (by decide) (by decide)) mf_X4_refuse hw_152 rfl ⟨⟨rfl, rfl⟩, by decide, by decide⟩ ⟨Nat.zero_le _, Nat.zero_le _⟩ hl.1 rfl (Nat.le_of_ble_eq_true rfl) dX4_prime_40 (fun r w9 H locs hp hW => ?_)
            exact ret_i B hr hlk hW (by rw [show st_prime σ (nI i) (nI p9) = ref σ 7 by unfold st_prime; rw [cif_t ⟨i, hi, rfl⟩, cN_nI (by omega), cif_f (fun q => by omega)]]; exact hp) dX4_prime_43
      · refine n_if_eq (tgt := 37) hx hb (by omega) dX4_prime_29 (by decide) (fun hz => ?_) (fun hz => ?_)
        · refine lv_aload_n hx hb dX4_prime_37 rfl (lv_at hl 1 rfl) ?_
          refine lv_bipush (v := -7) hx hb dX4_prime_38 (by decide) ?_
          refine call_vi B hA hW (0) (by omega) x0 (r := _) rfl rfl (k_refuse l G n ad w hn σ hX (-7) 7 (by decide) (by decide) (by decide) (by decide) (by decide)) mf_X4_refuse hw_152 rfl ⟨⟨rfl, rfl⟩, by decide, by decide⟩ ⟨Nat.zero_le _, Nat.zero_le _⟩ hl.1 rfl (Nat.le_of_ble_eq_true rfl) dX4_prime_40 (fun r w9 H locs hp hW => ?_)
          exact ret_i B hr hlk hW (by rw [show st_prime σ (nI i) x = ref σ 7 by unfold st_prime; rw [cif_t ⟨i, hi, rfl⟩, cif_f (fun q => hnp q.1)]]; exact hp) dX4_prime_43
        · exact absurd rfl hz
    · exact absurd hz (by decide)
  · refine n_if_ne (tgt := 15) hx hb (by omega) dX4_prime_5 (by decide) (fun hz => ?_) (fun hz => ?_)
    · exact absurd rfl hz
    · refine lv_aload_n hx hb dX4_prime_8 rfl (lv_at hl 0 rfl) ?_
      refine lv_bipush (v := -3) hx hb dX4_prime_9 (by decide) ?_
      refine call_vi B hA hW (0) (by omega) x0 (r := _) rfl rfl (k_refuse l G n ad w hn σ hX (-3) 3 (by decide) (by decide) (by decide) (by decide) (by decide)) mf_X4_refuse hw_152 rfl ⟨⟨rfl, rfl⟩, by decide, by decide⟩ ⟨Nat.zero_le _, Nat.zero_le _⟩ hl.1 rfl (Nat.le_of_ble_eq_true rfl) dX4_prime_11 (fun r w9 H locs hp hW => ?_)
      exact ret_i B hr hlk hW (by rw [show st_prime σ f x = ref σ 3 by unfold st_prime; rw [cif_f hnf]]; exact hp) dX4_prime_14
set_option maxHeartbeats 4000000 in
set_option maxRecDepth 100000 in
theorem k_X4_own (l : Launch) (G : zG) (n : Nat) (ad : Nat → Nat) (w : Nat → va_E) (hn : 92 ≤ n) (σ : zS) (hX : XOK G ad w σ) (hs : SOK σ) (f x : Int32) :
    Ci l G yX4_own cdX4_own (zr 5) n ad w [.ref (ad (0)), .int (f), .int (x)] (postX G ad w (st_own σ f x)) := by
  obtain ⟨⟨nf, hB⟩, x0, ⟨f1, x1, v1⟩, ⟨f55, x55⟩, ⟨f56, x56⟩, ⟨f57, x57⟩, ⟨f58, x58, v58⟩, ⟨f59, x59, v59⟩, xf⟩ := id hX
  have hsh := hs.1
  refine ent_i (cc := cX4_own) (maxL := 4) (ret := (some .int)) (by decide +kernel) rfl (Nat.le_of_ble_eq_true rfl) ?_
  intro p e s m args below meth c A B hr hlk hA H locs ls hW hl
  have hx := B.1
  have hb := B.2.1
  have hl : lv_has ls 4 [(0, .ref (ad (0))), (1, .int (f)), (2, .int (x))] := hl
  obtain ⟨b2, -⟩ := id hB
  refine lv_aload_n hx hb dX4_own_0 rfl (lv_at hl 0 rfl) ?_
  refine lv_iload_n hx hb dX4_own_1 rfl (lv_at hl 1 rfl) ?_
  refine call_vi B hA hW (0) (by omega) x0 (r := _) rfl rfl (k_isForm l G n ad w hn σ hX hs f) mf_X4_isForm hw_187 rfl ⟨⟨rfl, rfl⟩, by decide, by decide⟩ ⟨Nat.zero_le _, Nat.zero_le _⟩ hl.1 rfl (Nat.le_of_ble_eq_true rfl) dX4_own_2 (fun r w9 H locs hp hW => ?_)
  obtain ⟨e1, hp⟩ := hp
  rw [e1] at hW
  rcases hp with ⟨i, hi, rfl, rfl⟩ | ⟨hnf, rfl⟩
  · obtain ⟨w40_i, w2_i, k4_i, t40_i, r_i, s_i⟩ := hs.2.1 i hi
    obtain ⟨o_i, n_i⟩ := hX.form hs hi
    obtain ⟨f_i, e_i, v_i⟩ := id n_i
    refine n_if_ne (tgt := 15) hx hb (by omega) dX4_own_5 (by decide) (fun hz => ?_) (fun hz => ?_)
    · refine lv_aload_n hx hb dX4_own_15 rfl (lv_at hl 0 rfl) ?_
      refine z_get B hW (0) (by omega) x0 rfl inX4 0 (by decide) hw_115 rfl (v := .ref (ad (1))) rfl dX4_own_16 ?_
      refine lv_iload_n hx hb dX4_own_19 rfl (lv_at hl 1 rfl) ?_
      refine z_aald B hW (1) (by omega) x1 (i) (by omega) (by decide) (q := ad (60 + 2 * (i))) (v1 _ (by omega)) dX4_own_20 ?_
      refine z_get B hW (60 + 2 * (i)) (by omega) o_i rfl inX1 1 (by decide) hw_103 rfl (v := .int (nI (sW σ i))) rfl dX4_own_21 ?_
      refine lv_istore_n (lv' := [(3, .int (nI (sW σ i))), (0, .ref (ad (0))), (1, .int (nI (i))), (2, .int (x))]) hx hb dX4_own_24 rfl hl (by decide) rfl (fun ls hl => ?_)
      refine lv_iload_n hx hb dX4_own_25 rfl (lv_at hl 3 rfl) ?_
      refine call_si B hA hW (k_X4_isPrime l G n ad w x) mf_X4_isPrime hw_255 rfl ⟨⟨rfl, rfl⟩, by decide, by decide⟩ ⟨Nat.zero_le _, Nat.zero_le _⟩ hl.1 rfl (Nat.le_of_ble_eq_true rfl) dX4_own_26 (fun r w9 H locs hp hW => ?_)
      obtain ⟨e1, hp⟩ := hp
      rw [e1] at hW
      rcases hp with ⟨p9, hp9, rfl, rfl⟩ | ⟨hnp, rfl⟩
      · refine n_if_eq (tgt := 37) hx hb (by omega) dX4_own_29 (by decide) (fun hz => ?_) (fun hz => ?_)
        · exact absurd hz (by decide)
        · refine lv_iload_n hx hb dX4_own_32 rfl (lv_at hl 0 rfl) ?_
          refine lv_iconst (v := nI 4) hx hb dX4_own_33 (by decide) ?_
          refine n_icmp_ge (tgt := 44) hx hb (by omega) (by omega) dX4_own_34 (by decide) (fun hd => ?_) (fun hd => ?_)
          · have hS : st_own σ (nI i) (nI p9) = (theI (ratR (imgS (sW σ i) p9 (sE σ i)) (sE σ i) (zs (sW σ i))), σ) := by
              unfold st_own
              rw [cif_t ⟨i, hi, rfl⟩, cN_nI (by omega), cif_t ⟨⟨p9, hp9, rfl⟩, hd⟩, cN_nI (by have := isP_rng hp9; omega)]
            rw [hS]
            have hzl := zs_le (sW σ i) w40_i
            refine lv_aload_n hx hb dX4_own_44 rfl (lv_at hl 1 rfl) ?_
            refine z_get B hW (0) (by omega) x0 rfl inX4 2 (by decide) hw_117 rfl (v := .ref (ad (2))) rfl dX4_own_45 ?_
            refine lv_iload_n hx hb dX4_own_48 rfl (lv_at hl 0 rfl) ?_
            refine lv_aload_n hx hb dX4_own_49 rfl (lv_at hl 1 rfl) ?_
            refine z_get B hW (0) (by omega) x0 rfl inX4 0 (by decide) hw_115 rfl (v := .ref (ad (1))) rfl dX4_own_50 ?_
            refine lv_iload_n hx hb dX4_own_53 rfl (lv_at hl 2 rfl) ?_
            refine z_aald B hW (1) (by omega) x1 (i) (by omega) (by decide) (q := ad (60 + 2 * (i))) (v1 _ (by omega)) dX4_own_54 ?_
            refine z_get B hW (60 + 2 * (i)) (by omega) o_i rfl inX1 0 (by decide) hw_101 rfl (v := .ref (ad (61 + 2 * (i)))) rfl dX4_own_55 ?_
            refine lv_iload_n hx hb dX4_own_58 rfl (lv_at hl 3 rfl) ?_
            refine lv_aload_n hx hb dX4_own_59 rfl (lv_at hl 1 rfl) ?_
            refine z_get B hW (0) (by omega) x0 rfl inX4 4 (by decide) hw_119 rfl (v := .ref (ad (56))) rfl dX4_own_60 ?_
            refine call_vv B hA hW (2) (by omega) b2 (r := _) rfl rfl (k_putImage l G n ad w (sW σ i) nf nf (61 + 2 * i) 56 p9 (sE σ i) (by omega) (by omega) (by omega) hB (isP_rng hp9).1 (isP_rng hp9).2 (by omega) (by omega) (by omega) (by omega) n_i r_i.s ⟨f56, x56⟩) mf_X0_putImage hw_258 rfl ⟨⟨rfl, rfl⟩, by decide, by decide⟩ ⟨Nat.zero_le _, Nat.zero_le _⟩ hl.1 rfl (Nat.le_of_ble_eq_true rfl) dX4_own_63 (fun w2 H locs hp hW => ?_)
            obtain ⟨fr2, i2, j2, v2⟩ := hp
            have hX2 : XOK G ad w2 σ := hX.img fr2 ⟨_, j2⟩
            have hB2 : BOK G ad w2 nf nf := hB.keep (fun j q1 q2 => fr2 j (by omega))
            obtain ⟨b22, -⟩ := id hB2
            obtain ⟨f12, x12, v12⟩ := hX2.2.2.1
            obtain ⟨o_i2, n_i2⟩ := hX2.form hs hi
            refine lv_aload_n hx hb dX4_own_66 rfl (lv_at hl 1 rfl) ?_
            refine z_get B hW (0) (by omega) hX2.2.1 rfl inX4 4 (by decide) hw_119 rfl (v := .ref (ad (56))) rfl dX4_own_67 ?_
            refine lv_aload_n hx hb dX4_own_70 rfl (lv_at hl 1 rfl) ?_
            refine z_get B hW (0) (by omega) hX2.2.1 rfl inX4 0 (by decide) hw_115 rfl (v := .ref (ad (1))) rfl dX4_own_71 ?_
            refine lv_iload_n hx hb dX4_own_74 rfl (lv_at hl 2 rfl) ?_
            refine z_aald B hW (1) (by omega) x12 (i) (by omega) (by decide) (q := ad (60 + 2 * (i))) (v12 _ (by omega)) dX4_own_75 ?_
            refine z_get B hW (60 + 2 * (i)) (by omega) o_i2 rfl inX1 0 (by decide) hw_101 rfl (v := .ref (ad (61 + 2 * (i)))) rfl dX4_own_76 ?_
            refine lv_aload_n hx hb dX4_own_79 rfl (lv_at hl 1 rfl) ?_
            refine z_get B hW (0) (by omega) hX2.2.1 rfl inX4 2 (by decide) hw_117 rfl (v := .ref (ad (2))) rfl dX4_own_80 ?_
            refine lv_iload_n hx hb dX4_own_83 rfl (lv_at hl 0 rfl) ?_
            refine call_vi B hA hW (2) (by omega) b22 (r := _) rfl rfl (k_sizeOf l G n ad w2 (sW σ i) nf nf (by omega) w40_i hB2) mf_X0_sizeOf hw_245 rfl ⟨⟨rfl, rfl⟩, by decide, by decide⟩ ⟨Nat.zero_le _, Nat.zero_le _⟩ hl.1 rfl (Nat.le_of_ble_eq_true rfl) dX4_own_84 (fun r w9 H locs hp hW => ?_)
            obtain ⟨e1, e2⟩ := hp
            rw [e1] at hW
            subst e2
            refine call_si B hA hW (k_ratio l G n ad w2 56 (61 + 2 * i) (zs (sW σ i)) (sE σ i) (imgS (sW σ i) p9 (sE σ i)) (by omega) (by omega) hzl.1 i2 j2 v2 (fun q _ => imgS_lt _ _ _ _) n_i2 r_i.s) mf_X3_ratio hw_310 rfl ⟨⟨rfl, rfl⟩, by decide, by decide⟩ ⟨Nat.zero_le _, Nat.zero_le _⟩ hl.1 rfl (Nat.le_of_ble_eq_true rfl) dX4_own_87 (fun r w9 H locs hp hW => ?_)
            obtain ⟨e1, e2⟩ := hp
            rw [e1] at hW
            exact ret_i B hr hlk hW ⟨theI_eq e2 ratR_one, hX2, fun j hj => fr2 j (by omega)⟩ dX4_own_90
          · refine lv_aload_n hx hb dX4_own_37 rfl (lv_at hl 1 rfl) ?_
            refine lv_bipush (v := -7) hx hb dX4_own_38 (by decide) ?_
            refine call_vi B hA hW (0) (by omega) x0 (r := _) rfl rfl (k_refuse l G n ad w hn σ hX (-7) 7 (by decide) (by decide) (by decide) (by decide) (by decide)) mf_X4_refuse hw_152 rfl ⟨⟨rfl, rfl⟩, by decide, by decide⟩ ⟨Nat.zero_le _, Nat.zero_le _⟩ hl.1 rfl (Nat.le_of_ble_eq_true rfl) dX4_own_40 (fun r w9 H locs hp hW => ?_)
            exact ret_i B hr hlk hW (by rw [show st_own σ (nI i) (nI p9) = ref σ 7 by unfold st_own; rw [cif_t ⟨i, hi, rfl⟩, cN_nI (by omega), cif_f (fun q => by omega)]]; exact hp) dX4_own_43
      · refine n_if_eq (tgt := 37) hx hb (by omega) dX4_own_29 (by decide) (fun hz => ?_) (fun hz => ?_)
        · refine lv_aload_n hx hb dX4_own_37 rfl (lv_at hl 1 rfl) ?_
          refine lv_bipush (v := -7) hx hb dX4_own_38 (by decide) ?_
          refine call_vi B hA hW (0) (by omega) x0 (r := _) rfl rfl (k_refuse l G n ad w hn σ hX (-7) 7 (by decide) (by decide) (by decide) (by decide) (by decide)) mf_X4_refuse hw_152 rfl ⟨⟨rfl, rfl⟩, by decide, by decide⟩ ⟨Nat.zero_le _, Nat.zero_le _⟩ hl.1 rfl (Nat.le_of_ble_eq_true rfl) dX4_own_40 (fun r w9 H locs hp hW => ?_)
          exact ret_i B hr hlk hW (by rw [show st_own σ (nI i) x = ref σ 7 by unfold st_own; rw [cif_t ⟨i, hi, rfl⟩, cif_f (fun q => hnp q.1)]]; exact hp) dX4_own_43
        · exact absurd rfl hz
    · exact absurd hz (by decide)
  · refine n_if_ne (tgt := 15) hx hb (by omega) dX4_own_5 (by decide) (fun hz => ?_) (fun hz => ?_)
    · exact absurd rfl hz
    · refine lv_aload_n hx hb dX4_own_8 rfl (lv_at hl 0 rfl) ?_
      refine lv_bipush (v := -3) hx hb dX4_own_9 (by decide) ?_
      refine call_vi B hA hW (0) (by omega) x0 (r := _) rfl rfl (k_refuse l G n ad w hn σ hX (-3) 3 (by decide) (by decide) (by decide) (by decide) (by decide)) mf_X4_refuse hw_152 rfl ⟨⟨rfl, rfl⟩, by decide, by decide⟩ ⟨Nat.zero_le _, Nat.zero_le _⟩ hl.1 rfl (Nat.le_of_ble_eq_true rfl) dX4_own_11 (fun r w9 H locs hp hW => ?_)
      exact ret_i B hr hlk hW (by rw [show st_own σ f x = ref σ 3 by unfold st_own; rw [cif_f hnf]]; exact hp) dX4_own_14
set_option maxHeartbeats 4000000 in
set_option maxRecDepth 100000 in
theorem k_X4_trace (l : Launch) (G : zG) (n : Nat) (ad : Nat → Nat) (w : Nat → va_E) (hn : 92 ≤ n) (σ : zS) (hX : XOK G ad w σ) (hs : SOK σ) (x y : Int32) (c9 : Nat) (hc9 : c9 ≤ 1) :
    Ci l G yX4_trace cdX4_trace (zr 5) n ad w [.ref (ad (0)), .int (x), .int (y), .int (nI (c9))] (postX G ad w (st_trace σ x y c9)) := by
  obtain ⟨⟨nf, hB⟩, x0, ⟨f1, x1, v1⟩, ⟨f55, x55⟩, ⟨f56, x56⟩, ⟨f57, x57⟩, ⟨f58, x58, v58⟩, ⟨f59, x59, v59⟩, xf⟩ := id hX
  have hsh := hs.1
  refine ent_i (cc := cX4_trace) (maxL := 7) (ret := (some .int)) (by decide +kernel) rfl (Nat.le_of_ble_eq_true rfl) ?_
  intro p e s m args below meth c A B hr hlk hA H locs ls hW hl
  have hx := B.1
  have hb := B.2.1
  have hl : lv_has ls 7 [(0, .ref (ad (0))), (1, .int (x)), (2, .int (y)), (3, .int (nI (c9)))] := hl
  obtain ⟨b2, -⟩ := id hB
  refine lv_iload_n hx hb dX4_trace_0 rfl (lv_at hl 1 rfl) ?_
  refine call_si B hA hW (k_isWeight l G n ad w x) mf_X4_isWeight hw_267 rfl ⟨⟨rfl, rfl⟩, by decide, by decide⟩ ⟨Nat.zero_le _, Nat.zero_le _⟩ hl.1 rfl (Nat.le_of_ble_eq_true rfl) dX4_trace_1 (fun r w9 H locs hp hW => ?_)
  obtain ⟨e1, hp⟩ := hp
  rw [e1] at hW
  rcases hp with ⟨k, hk, hk2, rfl, rfl⟩ | ⟨hnf, rfl⟩
  · refine n_if_eq (tgt := 19) hx hb (by omega) dX4_trace_4 (by decide) (fun hz => ?_) (fun hz => ?_)
    · exact absurd hz (by decide)
    · refine lv_iload_n hx hb dX4_trace_7 rfl (lv_at hl 1 rfl) ?_
      refine lv_iconst (v := nI 4) hx hb dX4_trace_8 (by decide) ?_
      refine n_icmp_lt (tgt := 19) hx hb (by omega) (by omega) dX4_trace_9 (by decide) (fun hd => ?_) (fun hd => ?_)
      · refine lv_aload_n hx hb dX4_trace_19 rfl (lv_at hl 0 rfl) ?_
        refine lv_bipush (v := -7) hx hb dX4_trace_20 (by decide) ?_
        refine call_vi B hA hW (0) (by omega) x0 (r := _) rfl rfl (k_refuse l G n ad w hn σ hX (-7) 7 (by decide) (by decide) (by decide) (by decide) (by decide)) mf_X4_refuse hw_152 rfl ⟨⟨rfl, rfl⟩, by decide, by decide⟩ ⟨Nat.zero_le _, Nat.zero_le _⟩ hl.1 rfl (Nat.le_of_ble_eq_true rfl) dX4_trace_22 (fun r w9 H locs hp hW => ?_)
        exact ret_i B hr hlk hW (by rw [show st_trace σ (nI k) y c9 = ref σ 7 by unfold st_trace; rw [cN_nI (by omega), cif_f (fun q => by omega)]]; exact hp) dX4_trace_25
      · refine lv_iload_n hx hb dX4_trace_12 rfl (lv_at hl 2 rfl) ?_
        refine call_si B hA hW (k_X4_isPrime l G n ad w y) mf_X4_isPrime hw_255 rfl ⟨⟨rfl, rfl⟩, by decide, by decide⟩ ⟨Nat.zero_le _, Nat.zero_le _⟩ hl.1 rfl (Nat.le_of_ble_eq_true rfl) dX4_trace_13 (fun r w9 H locs hp hW => ?_)
        obtain ⟨e1, hp⟩ := hp
        rw [e1] at hW
        rcases hp with ⟨p9, hp9, rfl, rfl⟩ | ⟨hnp, rfl⟩
        · refine n_if_ne (tgt := 26) hx hb (by omega) dX4_trace_16 (by decide) (fun hz => ?_) (fun hz => ?_)
          · have hS : st_trace σ (nI k) (nI p9) c9 = (nI (trS k p9 c9 (zs k) % 1000003), σ) := by
              unfold st_trace
              rw [cN_nI (by omega), cif_t ⟨⟨k, hk, hk2, rfl⟩, hd, ⟨p9, hp9, rfl⟩⟩, cN_nI (by have := isP_rng hp9; omega)]
            rw [hS]
            have hzl := zs_le k hk
            have hz0 : c9 ≤ zs k := by
              have : ∀ k, k ≤ 40 → k % 2 = 0 → 4 ≤ k → 1 ≤ zs k := by decide
              have := this k hk hk2 hd
              omega
            refine lv_lconst (v := lN 0) hx hb dX4_trace_26 (by decide) ?_
            refine lv_lstore (lv' := [(4, .long (lN (0))), (0, .ref (ad (0))), (1, .int (nI (k))), (2, .int (nI (p9))), (3, .int (nI (c9)))]) hx hb dX4_trace_27 hl (by decide) rfl (fun ls hl => ?_)
            refine lv_iload_n hx hb dX4_trace_29 rfl (lv_at hl 4 rfl) ?_
            refine n_if_eq (tgt := 37) hx hb (by omega) dX4_trace_30 (by decide) (fun he => ?_) (fun he => ?_)
            · refine lv_iconst (v := nI 0) hx hb dX4_trace_37 (by decide) ?_
              refine topi (y := (nI (c9))) (by congr 1; omega) ?_
              refine lv_istore (lv' := [(6, .int (nI (c9))), (4, .long (lN (0))), (0, .ref (ad (0))), (1, .int (nI (k))), (2, .int (nI (p9))), (3, .int (nI (c9)))]) hx hb dX4_trace_38 hl (by decide) rfl (fun ls hl => ?_)
              refine z_up (Wg := fun H locs ls => W p l e (zr 5) s m args below meth c H locs 0 0 _ (F0 m 40 ls [])) (I := fun t H locs ls => ∃ w2 : Nat → va_E, Wo G A s.heap n ad w2 H locs ∧ lv_has ls 7 [(6, .int (nI t)), (4, .long (lN (trS k p9 c9 t))), (0, .ref (ad 0)), (1, .int (nI k)), (2, .int (nI p9)), (3, .int (nI c9))] ∧ trS k p9 c9 t ≤ t * 1000003 ∧ XOK G ad w2 σ ∧ ∀ j, 92 ≤ j → w2 j = w j) (a := c9) (b := zs k) hz0 ?_ ?_ H locs ls ⟨w, hW, (by rw [show trS k p9 c9 c9 = 0 by rcases (show c9 = 0 ∨ c9 = 1 by omega) with rfl | rfl <;> rfl]; exact hl), (by rw [show trS k p9 c9 c9 = 0 by rcases (show c9 = 0 ∨ c9 = 1 by omega) with rfl | rfl <;> rfl]; exact Nat.zero_le _), hX, fun _ _ => rfl⟩
              · rintro t ht1 ht ih H locs ls ⟨w2, hW, hl, hb9, hX2, hfr⟩
                obtain ⟨⟨nf2, hB2⟩, -⟩ := id hX2
                obtain ⟨b22, -⟩ := id hB2
                refine lv_iload hx hb dX4_trace_40 (lv_at hl 0 rfl) ?_
                refine lv_aload_n hx hb dX4_trace_42 rfl (lv_at hl 2 rfl) ?_
                refine z_get B hW (0) (by omega) hX2.2.1 rfl inX4 2 (by decide) hw_117 rfl (v := .ref (ad (2))) rfl dX4_trace_43 ?_
                refine lv_iload_n hx hb dX4_trace_46 rfl (lv_at hl 3 rfl) ?_
                refine call_vi B hA hW (2) (by omega) b22 (r := _) rfl rfl (k_sizeOf l G n ad w2 k nf2 nf2 (by omega) hk hB2) mf_X0_sizeOf hw_245 rfl ⟨⟨rfl, rfl⟩, by decide, by decide⟩ ⟨Nat.zero_le _, Nat.zero_le _⟩ hl.1 rfl (Nat.le_of_ble_eq_true rfl) dX4_trace_47 (fun r w9 H locs hp hW => ?_)
                obtain ⟨e1, e2⟩ := hp
                rw [e1] at hW
                subst e2
                refine n_icmp_ge (tgt := 110) hx hb (by omega) (by omega) dX4_trace_50 (by decide) (fun hc => ?_) (fun hc => ?_)
                · omega
                · refine lv_aload_n hx hb dX4_trace_53 rfl (lv_at hl 2 rfl) ?_
                  refine z_get B hW (0) (by omega) hX2.2.1 rfl inX4 2 (by decide) hw_117 rfl (v := .ref (ad (2))) rfl dX4_trace_54 ?_
                  refine lv_iload_n hx hb dX4_trace_57 rfl (lv_at hl 3 rfl) ?_
                  refine lv_aload_n hx hb dX4_trace_58 rfl (lv_at hl 2 rfl) ?_
                  refine z_get B hW (0) (by omega) hX2.2.1 rfl inX4 2 (by decide) hw_117 rfl (v := .ref (ad (2))) rfl dX4_trace_59 ?_
                  refine lv_iload_n hx hb dX4_trace_62 rfl (lv_at hl 3 rfl) ?_
                  refine lv_iload hx hb dX4_trace_63 (lv_at hl 0 rfl) ?_
                  refine call_vr B hA hW (2) (by omega) b22 (r := _) rfl rfl (k_rowOf l G n ad w2 k t nf2 (by omega) hk hk2 ht hB2) mf_X0_rowOf hw_270 rfl ⟨⟨rfl, rfl⟩, by decide, by decide⟩ ⟨Nat.zero_le _, Nat.zero_le _⟩ hl.1 rfl (Nat.le_of_ble_eq_true rfl) dX4_trace_65 (fun q w3 H locs hp hW => ?_)
                  obtain ⟨rfl, hB3, g3, hL3⟩ := hp
                  have hX3 : XOK G ad w3 σ := hX2.rows hB3 g3
                  obtain ⟨b23, -⟩ := id hB3
                  refine lv_iload_n hx hb dX4_trace_68 rfl (lv_at hl 4 rfl) ?_
                  refine lv_aload_n hx hb dX4_trace_69 rfl (lv_at hl 2 rfl) ?_
                  refine z_get B hW (0) (by omega) hX3.2.1 rfl inX4 4 (by decide) hw_119 rfl (v := .ref (ad (56))) rfl dX4_trace_70 ?_
                  refine call_vv B hA hW (2) (by omega) b23 (r := _) rfl rfl (k_putImage l G n ad w3 (k) (max nf2 (k + 2)) (max nf2 (k + 2)) (11 + (fst k + t)) 56 p9 (bas k t) (by omega) (by omega) (by omega) hB3 (isP_rng hp9).1 (isP_rng hp9).2 (by omega) (by omega) (by omega) (by omega) hL3 (bas_red k t).s hX3.2.2.2.2.1) mf_X0_putImage hw_258 rfl ⟨⟨rfl, rfl⟩, by decide, by decide⟩ ⟨Nat.zero_le _, Nat.zero_le _⟩ hl.1 rfl (Nat.le_of_ble_eq_true rfl) dX4_trace_73 (fun w4 H locs hp hW => ?_)
                  obtain ⟨fr4, i4, j4, v4⟩ := hp
                  have hX4 : XOK G ad w4 σ := hX3.img fr4 ⟨_, j4⟩
                  have hB4 : BOK G ad w4 (max nf2 (k + 2)) (max nf2 (k + 2)) := hB3.keep (fun j q1 q2 => fr4 j (by omega))
                  obtain ⟨b24, -⟩ := id hB4
                  obtain ⟨f14, x14, v14⟩ := hX4.2.2.1
                  obtain ⟨f554, x554⟩ := hX4.2.2.2.1
                  refine lv_aload_n hx hb dX4_trace_76 rfl (lv_at hl 2 rfl) ?_
                  refine z_get B hW (0) (by omega) hX4.2.1 rfl inX4 2 (by decide) hw_117 rfl (v := .ref (ad (2))) rfl dX4_trace_77 ?_
                  refine lv_iload_n hx hb dX4_trace_80 rfl (lv_at hl 3 rfl) ?_
                  refine lv_aload_n hx hb dX4_trace_81 rfl (lv_at hl 2 rfl) ?_
                  refine z_get B hW (0) (by omega) hX4.2.1 rfl inX4 4 (by decide) hw_119 rfl (v := .ref (ad (56))) rfl dX4_trace_82 ?_
                  refine lv_aload_n hx hb dX4_trace_85 rfl (lv_at hl 2 rfl) ?_
                  refine z_get B hW (0) (by omega) hX4.2.1 rfl inX4 3 (by decide) hw_118 rfl (v := .ref (ad (55))) rfl dX4_trace_86 ?_
                  refine call_vv B hA hW (2) (by omega) b24 (r := _) rfl rfl (k_findParts4 l G n ad w4 k (max nf2 (k + 2)) 56 55 (imgS k p9 (bas k t)) (by omega) hk hk2 hB4 (by omega) (by omega) (by omega) (by omega) (by omega) i4 j4 v4 (fun q _ => imgS_lt _ _ _ _) f554 x554) mf_X0_findParts hw_223 rfl ⟨⟨rfl, rfl⟩, by decide, by decide⟩ ⟨Nat.zero_le _, Nat.zero_le _⟩ hl.1 rfl (Nat.le_of_ble_eq_true rfl) dX4_trace_89 (fun w5 H locs hp hW => ?_)
                  obtain ⟨nf5, hB5, fr5, p5, q5, v5, -⟩ := hp
                  have hX5 : XOK G ad w5 σ := hX4.parts hB5 fr5 ⟨_, q5⟩
                  obtain ⟨b25, -⟩ := id hB5
                  obtain ⟨f15, x15, v15⟩ := hX5.2.2.1
                  have hpl := prt_lt (b := bas k) (imgS_lt k p9 (bas k t) t)
                  have htr : trS k p9 c9 (t + 1) = trS k p9 c9 t + prt (bas k) (imgS k p9 (bas k t)) t := by show trS k p9 c9 t + (if c9 ≤ t then prt (bas k) (imgS k p9 (bas k t)) t else 0) = _; rw [if_pos ht1]
                  refine lv_lload hx hb dX4_trace_92 (lv_at hl 1 rfl) ?_
                  refine lv_aload_n hx hb dX4_trace_94 rfl (lv_at hl 2 rfl) ?_
                  refine z_get B hW (0) (by omega) hX5.2.1 rfl inX4 3 (by decide) hw_118 rfl (v := .ref (ad (55))) rfl dX4_trace_95 ?_
                  refine lv_iload hx hb dX4_trace_98 (lv_at hl 0 rfl) ?_
                  refine z_lald B hW (55) (by omega) q5 (t) (by omega) (by decide) (v := (lN (prt (bas k) (imgS k p9 (bas k t)) t))) (v5 _ ht) dX4_trace_100 ?_
                  refine n_ladd hx hb dX4_trace_101 ?_
                  refine topl (y := (lN (trS k p9 c9 (t + 1)))) (by rw [htr]) ?_
                  refine lv_lstore (lv' := [(4, .long (lN (trS k p9 c9 (t + 1)))), (6, .int (nI (t))), (0, .ref (ad (0))), (1, .int (nI (k))), (2, .int (nI (p9))), (3, .int (nI (c9)))]) hx hb dX4_trace_102 hl (by decide) rfl (fun ls hl => ?_)
                  refine lv_iinc (v := (nI (t + 1))) (lv' := [(6, .int (nI (t + 1))), (4, .long (lN (trS k p9 c9 (t + 1)))), (0, .ref (ad (0))), (1, .int (nI (k))), (2, .int (nI (p9))), (3, .int (nI (c9)))]) hx hb dX4_trace_104 hl (k := 1) rfl (iinc1 _) (by decide) rfl (fun ls hl => ?_)
                  refine lv_goto (tgt := 40) hx hb dX4_trace_107 (by decide) ?_
                  exact ih H locs ls ⟨w5, hW, lv_sub hl [0, 1, 2, 3, 4, 5] rfl, by omega, hX5, fun j hj => (((fr5 j (by omega) (by omega) (by omega)).trans (fr4 j (by omega))).trans (g3 j (by omega) (by omega))).trans (hfr j hj)⟩
              · rintro H locs ls ⟨w2, hW, hl, hb9, hX2, hfr⟩
                obtain ⟨⟨nf2, hB2⟩, -⟩ := id hX2
                obtain ⟨b22, -⟩ := id hB2
                refine lv_iload hx hb dX4_trace_40 (lv_at hl 0 rfl) ?_
                refine lv_aload_n hx hb dX4_trace_42 rfl (lv_at hl 2 rfl) ?_
                refine z_get B hW (0) (by omega) hX2.2.1 rfl inX4 2 (by decide) hw_117 rfl (v := .ref (ad (2))) rfl dX4_trace_43 ?_
                refine lv_iload_n hx hb dX4_trace_46 rfl (lv_at hl 3 rfl) ?_
                refine call_vi B hA hW (2) (by omega) b22 (r := _) rfl rfl (k_sizeOf l G n ad w2 k nf2 nf2 (by omega) hk hB2) mf_X0_sizeOf hw_245 rfl ⟨⟨rfl, rfl⟩, by decide, by decide⟩ ⟨Nat.zero_le _, Nat.zero_le _⟩ hl.1 rfl (Nat.le_of_ble_eq_true rfl) dX4_trace_47 (fun r w9 H locs hp hW => ?_)
                obtain ⟨e1, e2⟩ := hp
                rw [e1] at hW
                subst e2
                refine n_icmp_ge (tgt := 110) hx hb (by omega) (by omega) dX4_trace_50 (by decide) (fun hc => ?_) (fun hc => ?_)
                · refine lv_lload hx hb dX4_trace_110 (lv_at hl 1 rfl) ?_
                  refine topl (y := (lZ (((trS k p9 c9 (zs k) : Nat) : Int)))) (lN_Z _) ?_
                  refine call_sl B hA hW (k_rest l G n ad w2 ((trS k p9 c9 (zs k) : Nat) : Int) (by omega) (by omega)) mf_X2_rest hw_191 rfl ⟨⟨rfl, rfl⟩, by decide, by decide⟩ ⟨Nat.zero_le _, Nat.zero_le _⟩ hl.1 rfl (Nat.le_of_ble_eq_true rfl) dX4_trace_112 (fun r w9 H locs hp hW => ?_)
                  obtain ⟨e1, e2⟩ := hp
                  rw [e1] at hW
                  subst e2
                  refine n_l2i hx hb dX4_trace_115 ?_
                  exact ret_i B hr hlk hW ⟨by rw [zm_nat], hX2, hfr⟩ dX4_trace_116
                · omega
            · refine lv_iconst (v := nI 1) hx hb dX4_trace_33 (by decide) ?_
              refine lv_goto (tgt := 38) hx hb dX4_trace_34 (by decide) ?_
              refine topi (y := (nI (c9))) (by congr 1; omega) ?_
              refine lv_istore (lv' := [(6, .int (nI (c9))), (4, .long (lN (0))), (0, .ref (ad (0))), (1, .int (nI (k))), (2, .int (nI (p9))), (3, .int (nI (c9)))]) hx hb dX4_trace_38 hl (by decide) rfl (fun ls hl => ?_)
              refine z_up (Wg := fun H locs ls => W p l e (zr 5) s m args below meth c H locs 0 0 _ (F0 m 40 ls [])) (I := fun t H locs ls => ∃ w2 : Nat → va_E, Wo G A s.heap n ad w2 H locs ∧ lv_has ls 7 [(6, .int (nI t)), (4, .long (lN (trS k p9 c9 t))), (0, .ref (ad 0)), (1, .int (nI k)), (2, .int (nI p9)), (3, .int (nI c9))] ∧ trS k p9 c9 t ≤ t * 1000003 ∧ XOK G ad w2 σ ∧ ∀ j, 92 ≤ j → w2 j = w j) (a := c9) (b := zs k) hz0 ?_ ?_ H locs ls ⟨w, hW, (by rw [show trS k p9 c9 c9 = 0 by rcases (show c9 = 0 ∨ c9 = 1 by omega) with rfl | rfl <;> rfl]; exact hl), (by rw [show trS k p9 c9 c9 = 0 by rcases (show c9 = 0 ∨ c9 = 1 by omega) with rfl | rfl <;> rfl]; exact Nat.zero_le _), hX, fun _ _ => rfl⟩
              · rintro t ht1 ht ih H locs ls ⟨w2, hW, hl, hb9, hX2, hfr⟩
                obtain ⟨⟨nf2, hB2⟩, -⟩ := id hX2
                obtain ⟨b22, -⟩ := id hB2
                refine lv_iload hx hb dX4_trace_40 (lv_at hl 0 rfl) ?_
                refine lv_aload_n hx hb dX4_trace_42 rfl (lv_at hl 2 rfl) ?_
                refine z_get B hW (0) (by omega) hX2.2.1 rfl inX4 2 (by decide) hw_117 rfl (v := .ref (ad (2))) rfl dX4_trace_43 ?_
                refine lv_iload_n hx hb dX4_trace_46 rfl (lv_at hl 3 rfl) ?_
                refine call_vi B hA hW (2) (by omega) b22 (r := _) rfl rfl (k_sizeOf l G n ad w2 k nf2 nf2 (by omega) hk hB2) mf_X0_sizeOf hw_245 rfl ⟨⟨rfl, rfl⟩, by decide, by decide⟩ ⟨Nat.zero_le _, Nat.zero_le _⟩ hl.1 rfl (Nat.le_of_ble_eq_true rfl) dX4_trace_47 (fun r w9 H locs hp hW => ?_)
                obtain ⟨e1, e2⟩ := hp
                rw [e1] at hW
                subst e2
                refine n_icmp_ge (tgt := 110) hx hb (by omega) (by omega) dX4_trace_50 (by decide) (fun hc => ?_) (fun hc => ?_)
                · omega
                · refine lv_aload_n hx hb dX4_trace_53 rfl (lv_at hl 2 rfl) ?_
                  refine z_get B hW (0) (by omega) hX2.2.1 rfl inX4 2 (by decide) hw_117 rfl (v := .ref (ad (2))) rfl dX4_trace_54 ?_
                  refine lv_iload_n hx hb dX4_trace_57 rfl (lv_at hl 3 rfl) ?_
                  refine lv_aload_n hx hb dX4_trace_58 rfl (lv_at hl 2 rfl) ?_
                  refine z_get B hW (0) (by omega) hX2.2.1 rfl inX4 2 (by decide) hw_117 rfl (v := .ref (ad (2))) rfl dX4_trace_59 ?_
                  refine lv_iload_n hx hb dX4_trace_62 rfl (lv_at hl 3 rfl) ?_
                  refine lv_iload hx hb dX4_trace_63 (lv_at hl 0 rfl) ?_
                  refine call_vr B hA hW (2) (by omega) b22 (r := _) rfl rfl (k_rowOf l G n ad w2 k t nf2 (by omega) hk hk2 ht hB2) mf_X0_rowOf hw_270 rfl ⟨⟨rfl, rfl⟩, by decide, by decide⟩ ⟨Nat.zero_le _, Nat.zero_le _⟩ hl.1 rfl (Nat.le_of_ble_eq_true rfl) dX4_trace_65 (fun q w3 H locs hp hW => ?_)
                  obtain ⟨rfl, hB3, g3, hL3⟩ := hp
                  have hX3 : XOK G ad w3 σ := hX2.rows hB3 g3
                  obtain ⟨b23, -⟩ := id hB3
                  refine lv_iload_n hx hb dX4_trace_68 rfl (lv_at hl 4 rfl) ?_
                  refine lv_aload_n hx hb dX4_trace_69 rfl (lv_at hl 2 rfl) ?_
                  refine z_get B hW (0) (by omega) hX3.2.1 rfl inX4 4 (by decide) hw_119 rfl (v := .ref (ad (56))) rfl dX4_trace_70 ?_
                  refine call_vv B hA hW (2) (by omega) b23 (r := _) rfl rfl (k_putImage l G n ad w3 (k) (max nf2 (k + 2)) (max nf2 (k + 2)) (11 + (fst k + t)) 56 p9 (bas k t) (by omega) (by omega) (by omega) hB3 (isP_rng hp9).1 (isP_rng hp9).2 (by omega) (by omega) (by omega) (by omega) hL3 (bas_red k t).s hX3.2.2.2.2.1) mf_X0_putImage hw_258 rfl ⟨⟨rfl, rfl⟩, by decide, by decide⟩ ⟨Nat.zero_le _, Nat.zero_le _⟩ hl.1 rfl (Nat.le_of_ble_eq_true rfl) dX4_trace_73 (fun w4 H locs hp hW => ?_)
                  obtain ⟨fr4, i4, j4, v4⟩ := hp
                  have hX4 : XOK G ad w4 σ := hX3.img fr4 ⟨_, j4⟩
                  have hB4 : BOK G ad w4 (max nf2 (k + 2)) (max nf2 (k + 2)) := hB3.keep (fun j q1 q2 => fr4 j (by omega))
                  obtain ⟨b24, -⟩ := id hB4
                  obtain ⟨f14, x14, v14⟩ := hX4.2.2.1
                  obtain ⟨f554, x554⟩ := hX4.2.2.2.1
                  refine lv_aload_n hx hb dX4_trace_76 rfl (lv_at hl 2 rfl) ?_
                  refine z_get B hW (0) (by omega) hX4.2.1 rfl inX4 2 (by decide) hw_117 rfl (v := .ref (ad (2))) rfl dX4_trace_77 ?_
                  refine lv_iload_n hx hb dX4_trace_80 rfl (lv_at hl 3 rfl) ?_
                  refine lv_aload_n hx hb dX4_trace_81 rfl (lv_at hl 2 rfl) ?_
                  refine z_get B hW (0) (by omega) hX4.2.1 rfl inX4 4 (by decide) hw_119 rfl (v := .ref (ad (56))) rfl dX4_trace_82 ?_
                  refine lv_aload_n hx hb dX4_trace_85 rfl (lv_at hl 2 rfl) ?_
                  refine z_get B hW (0) (by omega) hX4.2.1 rfl inX4 3 (by decide) hw_118 rfl (v := .ref (ad (55))) rfl dX4_trace_86 ?_
                  refine call_vv B hA hW (2) (by omega) b24 (r := _) rfl rfl (k_findParts4 l G n ad w4 k (max nf2 (k + 2)) 56 55 (imgS k p9 (bas k t)) (by omega) hk hk2 hB4 (by omega) (by omega) (by omega) (by omega) (by omega) i4 j4 v4 (fun q _ => imgS_lt _ _ _ _) f554 x554) mf_X0_findParts hw_223 rfl ⟨⟨rfl, rfl⟩, by decide, by decide⟩ ⟨Nat.zero_le _, Nat.zero_le _⟩ hl.1 rfl (Nat.le_of_ble_eq_true rfl) dX4_trace_89 (fun w5 H locs hp hW => ?_)
                  obtain ⟨nf5, hB5, fr5, p5, q5, v5, -⟩ := hp
                  have hX5 : XOK G ad w5 σ := hX4.parts hB5 fr5 ⟨_, q5⟩
                  obtain ⟨b25, -⟩ := id hB5
                  obtain ⟨f15, x15, v15⟩ := hX5.2.2.1
                  have hpl := prt_lt (b := bas k) (imgS_lt k p9 (bas k t) t)
                  have htr : trS k p9 c9 (t + 1) = trS k p9 c9 t + prt (bas k) (imgS k p9 (bas k t)) t := by show trS k p9 c9 t + (if c9 ≤ t then prt (bas k) (imgS k p9 (bas k t)) t else 0) = _; rw [if_pos ht1]
                  refine lv_lload hx hb dX4_trace_92 (lv_at hl 1 rfl) ?_
                  refine lv_aload_n hx hb dX4_trace_94 rfl (lv_at hl 2 rfl) ?_
                  refine z_get B hW (0) (by omega) hX5.2.1 rfl inX4 3 (by decide) hw_118 rfl (v := .ref (ad (55))) rfl dX4_trace_95 ?_
                  refine lv_iload hx hb dX4_trace_98 (lv_at hl 0 rfl) ?_
                  refine z_lald B hW (55) (by omega) q5 (t) (by omega) (by decide) (v := (lN (prt (bas k) (imgS k p9 (bas k t)) t))) (v5 _ ht) dX4_trace_100 ?_
                  refine n_ladd hx hb dX4_trace_101 ?_
                  refine topl (y := (lN (trS k p9 c9 (t + 1)))) (by rw [htr]) ?_
                  refine lv_lstore (lv' := [(4, .long (lN (trS k p9 c9 (t + 1)))), (6, .int (nI (t))), (0, .ref (ad (0))), (1, .int (nI (k))), (2, .int (nI (p9))), (3, .int (nI (c9)))]) hx hb dX4_trace_102 hl (by decide) rfl (fun ls hl => ?_)
                  refine lv_iinc (v := (nI (t + 1))) (lv' := [(6, .int (nI (t + 1))), (4, .long (lN (trS k p9 c9 (t + 1)))), (0, .ref (ad (0))), (1, .int (nI (k))), (2, .int (nI (p9))), (3, .int (nI (c9)))]) hx hb dX4_trace_104 hl (k := 1) rfl (iinc1 _) (by decide) rfl (fun ls hl => ?_)
                  refine lv_goto (tgt := 40) hx hb dX4_trace_107 (by decide) ?_
                  exact ih H locs ls ⟨w5, hW, lv_sub hl [0, 1, 2, 3, 4, 5] rfl, by omega, hX5, fun j hj => (((fr5 j (by omega) (by omega) (by omega)).trans (fr4 j (by omega))).trans (g3 j (by omega) (by omega))).trans (hfr j hj)⟩
              · rintro H locs ls ⟨w2, hW, hl, hb9, hX2, hfr⟩
                obtain ⟨⟨nf2, hB2⟩, -⟩ := id hX2
                obtain ⟨b22, -⟩ := id hB2
                refine lv_iload hx hb dX4_trace_40 (lv_at hl 0 rfl) ?_
                refine lv_aload_n hx hb dX4_trace_42 rfl (lv_at hl 2 rfl) ?_
                refine z_get B hW (0) (by omega) hX2.2.1 rfl inX4 2 (by decide) hw_117 rfl (v := .ref (ad (2))) rfl dX4_trace_43 ?_
                refine lv_iload_n hx hb dX4_trace_46 rfl (lv_at hl 3 rfl) ?_
                refine call_vi B hA hW (2) (by omega) b22 (r := _) rfl rfl (k_sizeOf l G n ad w2 k nf2 nf2 (by omega) hk hB2) mf_X0_sizeOf hw_245 rfl ⟨⟨rfl, rfl⟩, by decide, by decide⟩ ⟨Nat.zero_le _, Nat.zero_le _⟩ hl.1 rfl (Nat.le_of_ble_eq_true rfl) dX4_trace_47 (fun r w9 H locs hp hW => ?_)
                obtain ⟨e1, e2⟩ := hp
                rw [e1] at hW
                subst e2
                refine n_icmp_ge (tgt := 110) hx hb (by omega) (by omega) dX4_trace_50 (by decide) (fun hc => ?_) (fun hc => ?_)
                · refine lv_lload hx hb dX4_trace_110 (lv_at hl 1 rfl) ?_
                  refine topl (y := (lZ (((trS k p9 c9 (zs k) : Nat) : Int)))) (lN_Z _) ?_
                  refine call_sl B hA hW (k_rest l G n ad w2 ((trS k p9 c9 (zs k) : Nat) : Int) (by omega) (by omega)) mf_X2_rest hw_191 rfl ⟨⟨rfl, rfl⟩, by decide, by decide⟩ ⟨Nat.zero_le _, Nat.zero_le _⟩ hl.1 rfl (Nat.le_of_ble_eq_true rfl) dX4_trace_112 (fun r w9 H locs hp hW => ?_)
                  obtain ⟨e1, e2⟩ := hp
                  rw [e1] at hW
                  subst e2
                  refine n_l2i hx hb dX4_trace_115 ?_
                  exact ret_i B hr hlk hW ⟨by rw [zm_nat], hX2, hfr⟩ dX4_trace_116
                · omega
          · exact absurd hz (by decide)
        · refine n_if_ne (tgt := 26) hx hb (by omega) dX4_trace_16 (by decide) (fun hz => ?_) (fun hz => ?_)
          · exact absurd rfl hz
          · refine lv_aload_n hx hb dX4_trace_19 rfl (lv_at hl 0 rfl) ?_
            refine lv_bipush (v := -7) hx hb dX4_trace_20 (by decide) ?_
            refine call_vi B hA hW (0) (by omega) x0 (r := _) rfl rfl (k_refuse l G n ad w hn σ hX (-7) 7 (by decide) (by decide) (by decide) (by decide) (by decide)) mf_X4_refuse hw_152 rfl ⟨⟨rfl, rfl⟩, by decide, by decide⟩ ⟨Nat.zero_le _, Nat.zero_le _⟩ hl.1 rfl (Nat.le_of_ble_eq_true rfl) dX4_trace_22 (fun r w9 H locs hp hW => ?_)
            exact ret_i B hr hlk hW (by rw [show st_trace σ (nI k) y c9 = ref σ 7 by unfold st_trace; rw [cif_f (fun q => hnp q.2.2)]]; exact hp) dX4_trace_25
  · refine n_if_eq (tgt := 19) hx hb (by omega) dX4_trace_4 (by decide) (fun hz => ?_) (fun hz => ?_)
    · refine lv_aload_n hx hb dX4_trace_19 rfl (lv_at hl 0 rfl) ?_
      refine lv_bipush (v := -7) hx hb dX4_trace_20 (by decide) ?_
      refine call_vi B hA hW (0) (by omega) x0 (r := _) rfl rfl (k_refuse l G n ad w hn σ hX (-7) 7 (by decide) (by decide) (by decide) (by decide) (by decide)) mf_X4_refuse hw_152 rfl ⟨⟨rfl, rfl⟩, by decide, by decide⟩ ⟨Nat.zero_le _, Nat.zero_le _⟩ hl.1 rfl (Nat.le_of_ble_eq_true rfl) dX4_trace_22 (fun r w9 H locs hp hW => ?_)
      exact ret_i B hr hlk hW (by rw [show st_trace σ x y c9 = ref σ 7 by unfold st_trace; rw [cif_f (fun q => hnf q.1)]]; exact hp) dX4_trace_25
    · exact absurd rfl hz
set_option maxHeartbeats 4000000 in
set_option maxRecDepth 100000 in
theorem k_X4_basis (l : Launch) (G : zG) (n : Nat) (ad : Nat → Nat) (w : Nat → va_E) (hn : 92 ≤ n) (σ : zS) (hX : XOK G ad w σ) (hs : SOK σ) (x y : Int32) :
    Ci l G yX4_basis cdX4_basis (zr 5) n ad w [.ref (ad (0)), .int (x), .int (y)] (postX G ad w (st_basis σ x y)) := by
  obtain ⟨⟨nf, hB⟩, x0, ⟨f1, x1, v1⟩, ⟨f55, x55⟩, ⟨f56, x56⟩, ⟨f57, x57⟩, ⟨f58, x58, v58⟩, ⟨f59, x59, v59⟩, xf⟩ := id hX
  have hsh := hs.1
  refine ent_i (cc := cX4_basis) (maxL := 3) (ret := (some .int)) (by decide +kernel) rfl (Nat.le_of_ble_eq_true rfl) ?_
  intro p e s m args below meth c A B hr hlk hA H locs ls hW hl
  have hx := B.1
  have hb := B.2.1
  have hl : lv_has ls 3 [(0, .ref (ad (0))), (1, .int (x)), (2, .int (y))] := hl
  obtain ⟨b2, -⟩ := id hB
  refine lv_iload_n hx hb dX4_basis_0 rfl (lv_at hl 1 rfl) ?_
  refine call_si B hA hW (k_isWeight l G n ad w x) mf_X4_isWeight hw_267 rfl ⟨⟨rfl, rfl⟩, by decide, by decide⟩ ⟨Nat.zero_le _, Nat.zero_le _⟩ hl.1 rfl (Nat.le_of_ble_eq_true rfl) dX4_basis_1 (fun r w9 H locs hp hW => ?_)
  obtain ⟨e1, hp⟩ := hp
  rw [e1] at hW
  rcases hp with ⟨k, hk, hk2, rfl, rfl⟩ | ⟨hnf, rfl⟩
  · refine n_if_ne (tgt := 14) hx hb (by omega) dX4_basis_4 (by decide) (fun hz => ?_) (fun hz => ?_)
    · have hS : st_basis σ (nI k) y = cif (isF (zs k) y) (comeO σ k (bas k (cN y))) (ref σ 3) := by
        unfold st_basis
        rw [cif_t ⟨k, hk, hk2, rfl⟩, cN_nI (by omega)]
      rw [hS]
      have hzl := zs_le k hk
      refine lv_iload_n hx hb dX4_basis_14 rfl (lv_at hl 2 rfl) ?_
      refine lv_if_lt (tgt := 30) hx hb dX4_basis_15 (by decide) (fun hc => ?_) (fun hc => ?_)
      · refine lv_aload_n hx hb dX4_basis_30 rfl (lv_at hl 0 rfl) ?_
        refine lv_bipush (v := -3) hx hb dX4_basis_31 (by decide) ?_
        refine call_vi B hA hW (0) (by omega) x0 (r := _) rfl rfl (k_refuse l G n ad w hn σ hX (-3) 3 (by decide) (by decide) (by decide) (by decide) (by decide)) mf_X4_refuse hw_152 rfl ⟨⟨rfl, rfl⟩, by decide, by decide⟩ ⟨Nat.zero_le _, Nat.zero_le _⟩ hl.1 rfl (Nat.le_of_ble_eq_true rfl) dX4_basis_33 (fun r w9 H locs hp hW => ?_)
        exact ret_i B hr hlk hW (by rw [cif_f (fun ⟨q, q1, q2⟩ => nI_pos (by omega) (q2 ▸ hc))]; exact hp) dX4_basis_36
      · obtain ⟨q9, hq9, rfl⟩ := nI_of hc
        refine lv_iload_n hx hb dX4_basis_18 rfl (lv_at hl 2 rfl) ?_
        refine lv_aload_n hx hb dX4_basis_19 rfl (lv_at hl 0 rfl) ?_
        refine z_get B hW (0) (by omega) x0 rfl inX4 2 (by decide) hw_117 rfl (v := .ref (ad (2))) rfl dX4_basis_20 ?_
        refine lv_iload_n hx hb dX4_basis_23 rfl (lv_at hl 1 rfl) ?_
        refine call_vi B hA hW (2) (by omega) b2 (r := _) rfl rfl (k_sizeOf l G n ad w k nf nf (by omega) hk hB) mf_X0_sizeOf hw_245 rfl ⟨⟨rfl, rfl⟩, by decide, by decide⟩ ⟨Nat.zero_le _, Nat.zero_le _⟩ hl.1 rfl (Nat.le_of_ble_eq_true rfl) dX4_basis_24 (fun r w9 H locs hp hW => ?_)
        obtain ⟨e1, e2⟩ := hp
        rw [e1] at hW
        subst e2
        refine n_icmp_lt (tgt := 37) hx hb (by omega) (by omega) dX4_basis_27 (by decide) (fun hd => ?_) (fun hd => ?_)
        · rw [cif_t ⟨q9, hd, rfl⟩, cN_nI hq9]
          refine lv_aload_n hx hb dX4_basis_37 rfl (lv_at hl 0 rfl) ?_
          refine lv_iload_n hx hb dX4_basis_38 rfl (lv_at hl 1 rfl) ?_
          refine call_vi B hA hW (0) (by omega) x0 (r := _) rfl rfl (k_hasRoom l G n ad w hn σ hX hs (k) (by omega)) mf_X4_hasRoom hw_159 rfl ⟨⟨rfl, rfl⟩, by decide, by decide⟩ ⟨Nat.zero_le _, Nat.zero_le _⟩ hl.1 rfl (Nat.le_of_ble_eq_true rfl) dX4_basis_39 (fun r w9 H locs hp hW => ?_)
          obtain ⟨e1, hp⟩ := hp
          rw [e1] at hW
          rcases hp with ⟨hh, hk40, rfl⟩ | ⟨hnr, rfl⟩
          · obtain ⟨xa, ya, za, fa, g1, g2⟩ := hX.free hh
            refine n_if_ne (tgt := 52) hx hb (by omega) dX4_basis_42 (by decide) (fun hz => ?_) (fun hz => ?_)
            · refine lv_aload_n hx hb dX4_basis_52 rfl (lv_at hl 0 rfl) ?_
              refine z_get B hW (0) (by omega) x0 rfl inX4 2 (by decide) hw_117 rfl (v := .ref (ad (2))) rfl dX4_basis_53 ?_
              refine lv_iload_n hx hb dX4_basis_56 rfl (lv_at hl 1 rfl) ?_
              refine lv_iload_n hx hb dX4_basis_57 rfl (lv_at hl 2 rfl) ?_
              refine call_vr B hA hW (2) (by omega) b2 (r := _) rfl rfl (k_rowOf l G n ad w k q9 nf (by omega) hk hk2 hd hB) mf_X0_rowOf hw_270 rfl ⟨⟨rfl, rfl⟩, by decide, by decide⟩ ⟨Nat.zero_le _, Nat.zero_le _⟩ hl.1 rfl (Nat.le_of_ble_eq_true rfl) dX4_basis_58 (fun q w2 H locs hp hW => ?_)
              obtain ⟨rfl, hB2, g2b, fL, eL2, vL⟩ := hp
              have hX2a : XOK G ad w2 σ := hX.rows hB2 g2b
              obtain ⟨f12, x12, v12⟩ := hX2a.2.2.1
              obtain ⟨xa2, ya2, za2, fa2, g12, g22⟩ := hX2a.free hh
              refine lv_iconst (v := nI 0) hx hb dX4_basis_61 (by decide) ?_
              refine lv_aload_n hx hb dX4_basis_62 rfl (lv_at hl 0 rfl) ?_
              refine z_get B hW (0) (by omega) hX2a.2.1 rfl inX4 0 (by decide) hw_115 rfl (v := .ref (ad (1))) rfl dX4_basis_63 ?_
              refine lv_aload_n hx hb dX4_basis_66 rfl (lv_at hl 0 rfl) ?_
              refine z_get B hW (0) (by omega) hX2a.2.1 rfl inX4 1 (by decide) hw_116 rfl (v := .int (nI (sH σ))) rfl dX4_basis_67 ?_
              refine z_aald B hW (1) (by omega) x12 (sH σ) (by omega) (by decide) (q := ad (60 + 2 * (sH σ))) (v12 _ (by omega)) dX4_basis_70 ?_
              refine z_get B hW (60 + 2 * (sH σ)) (by omega) g12 rfl inX1 0 (by decide) hw_101 rfl (v := .ref (ad (61 + 2 * (sH σ)))) rfl dX4_basis_71 ?_
              refine lv_iconst (v := nI 0) hx hb dX4_basis_74 (by decide) ?_
              refine lv_bipush (v := nI 48) hx hb dX4_basis_75 (by decide) ?_
              refine z_copyl B hW hl.1 hw_271 hw_58 hw_57 hw_6 (11 + (fst k + q9)) (61 + 2 * (sH σ)) (by omega) (by omega) eL2 g22 0 0 48 (by omega) (by omega) (by decide) (by decide) (by decide) (by decide) dX4_basis_77 (fun H locs hW => ?_)
              have hp : (∀ j, j ≠ 61 + 2 * sH σ → va_up w2 (61 + 2 * (sH σ)) (eL G 48 (va_cpy fL fa2 0 0 48)) j = w2 j) ∧ isL G (va_up w2 (61 + 2 * (sH σ)) (eL G 48 (va_cpy fL fa2 0 0 48))) (61 + 2 * sH σ) 48 (bas k q9) := ⟨fun j hj => up_n hj, _, up_s, fun q hq => by rw [pk_cpy_in (by omega) (by omega)]; rw [← vL q hq]; congr 1; omega⟩
              generalize va_up w2 (61 + 2 * (sH σ)) (eL G 48 (va_cpy fL fa2 0 0 48)) = w3 at hp hW
              have hX2 : XOK G ad w3 σ := hX2a.num ⟨_, hp.2.choose_spec.1⟩ hp.1
              refine lv_aload_n hx hb dX4_basis_80 rfl (lv_at hl 0 rfl) ?_
              refine lv_iload_n hx hb dX4_basis_81 rfl (lv_at hl 1 rfl) ?_
              refine call_vi B hA hW (0) (by omega) hX2.2.1 (r := _) rfl rfl (k_comeOfOthers l G n ad w3 hn σ hX2 hs hh (k) hk40 (bas k q9) hp.2 (bas_red _ _ _)) mf_X4_comeOfOthers hw_192 rfl ⟨⟨rfl, rfl⟩, by decide, by decide⟩ ⟨Nat.zero_le _, Nat.zero_le _⟩ hl.1 rfl (Nat.le_of_ble_eq_true rfl) dX4_basis_82 (fun r w9 H locs hp9 hW => ?_)
              exact ret_i B hr hlk hW ⟨hp9.1, hp9.2.1, fun j hj => (hp9.2.2 j hj).trans ((hp.1 j (by omega)).trans (g2b j (by omega) (by omega)))⟩ dX4_basis_85
            · exact absurd hz (by decide)
          · refine n_if_ne (tgt := 52) hx hb (by omega) dX4_basis_42 (by decide) (fun hz => ?_) (fun hz => ?_)
            · exact absurd rfl hz
            · refine lv_aload_n hx hb dX4_basis_45 rfl (lv_at hl 0 rfl) ?_
              refine lv_bipush (v := -8) hx hb dX4_basis_46 (by decide) ?_
              refine call_vi B hA hW (0) (by omega) x0 (r := _) rfl rfl (k_refuse l G n ad w hn σ hX (-8) 8 (by decide) (by decide) (by decide) (by decide) (by decide)) mf_X4_refuse hw_152 rfl ⟨⟨rfl, rfl⟩, by decide, by decide⟩ ⟨Nat.zero_le _, Nat.zero_le _⟩ hl.1 rfl (Nat.le_of_ble_eq_true rfl) dX4_basis_48 (fun r w9 H locs hp hW => ?_)
              exact ret_i B hr hlk hW (by rw [comeO_full hnr]; exact hp) dX4_basis_51
        · refine lv_aload_n hx hb dX4_basis_30 rfl (lv_at hl 0 rfl) ?_
          refine lv_bipush (v := -3) hx hb dX4_basis_31 (by decide) ?_
          refine call_vi B hA hW (0) (by omega) x0 (r := _) rfl rfl (k_refuse l G n ad w hn σ hX (-3) 3 (by decide) (by decide) (by decide) (by decide) (by decide)) mf_X4_refuse hw_152 rfl ⟨⟨rfl, rfl⟩, by decide, by decide⟩ ⟨Nat.zero_le _, Nat.zero_le _⟩ hl.1 rfl (Nat.le_of_ble_eq_true rfl) dX4_basis_33 (fun r w9 H locs hp hW => ?_)
          exact ret_i B hr hlk hW (by rw [cif_f (fun ⟨q, q1, q2⟩ => by have := (nI_eq hq9 (by omega)).mp q2; omega)]; exact hp) dX4_basis_36
    · exact absurd hz (by decide)
  · refine n_if_ne (tgt := 14) hx hb (by omega) dX4_basis_4 (by decide) (fun hz => ?_) (fun hz => ?_)
    · exact absurd rfl hz
    · refine lv_aload_n hx hb dX4_basis_7 rfl (lv_at hl 0 rfl) ?_
      refine lv_bipush (v := -7) hx hb dX4_basis_8 (by decide) ?_
      refine call_vi B hA hW (0) (by omega) x0 (r := _) rfl rfl (k_refuse l G n ad w hn σ hX (-7) 7 (by decide) (by decide) (by decide) (by decide) (by decide)) mf_X4_refuse hw_152 rfl ⟨⟨rfl, rfl⟩, by decide, by decide⟩ ⟨Nat.zero_le _, Nat.zero_le _⟩ hl.1 rfl (Nat.le_of_ble_eq_true rfl) dX4_basis_10 (fun r w9 H locs hp hW => ?_)
      exact ret_i B hr hlk hW (by rw [show st_basis σ x y = ref σ 7 by unfold st_basis; rw [cif_f (P := isW x) hnf]]; exact hp) dX4_basis_13
