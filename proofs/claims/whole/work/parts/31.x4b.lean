set_option maxHeartbeats 4000000 in
set_option maxRecDepth 100000 in
theorem k_X4_slope (l : Launch) (G : zG) (n : Nat) (ad : Nat → Nat) (w : Nat → va_E) (hn : 92 ≤ n) (σ : zS) (hX : XOK G ad w σ) (hs : SOK σ) (f : Int32) :
    Ci l G yX4_slope cdX4_slope (zr 5) n ad w [.ref (ad (0)), .int (f)] (postX G ad w (st_slope σ f)) := by
  obtain ⟨⟨nf, hB⟩, x0, ⟨f1, x1, v1⟩, ⟨f55, x55⟩, ⟨f56, x56⟩, ⟨f57, x57⟩, ⟨f58, x58, v58⟩, ⟨f59, x59, v59⟩, xf⟩ := id hX
  have hsh := hs.1
  refine ent_i (cc := cX4_slope) (maxL := 8) (ret := (some .int)) (by decide +kernel) rfl (Nat.le_of_ble_eq_true rfl) ?_
  intro p e s m args below meth c A B hr hlk hA H locs ls hW hl
  have hx := B.1
  have hb := B.2.1
  have hl : lv_has ls 8 [(0, .ref (ad (0))), (1, .int (f))] := hl
  obtain ⟨b2, -⟩ := id hB
  refine lv_aload_n hx hb dX4_slope_0 rfl (lv_at hl 0 rfl) ?_
  refine lv_iload_n hx hb dX4_slope_1 rfl (lv_at hl 1 rfl) ?_
  refine call_vi B hA hW (0) (by omega) x0 (r := _) rfl rfl (k_isForm l G n ad w hn σ hX hs f) mf_X4_isForm hw_187 rfl ⟨⟨rfl, rfl⟩, by decide, by decide⟩ ⟨Nat.zero_le _, Nat.zero_le _⟩ hl.1 rfl (Nat.le_of_ble_eq_true rfl) dX4_slope_2 (fun r w9 H locs hp hW => ?_)
  obtain ⟨e1, hp⟩ := hp
  rw [e1] at hW
  rcases hp with ⟨i, hi, rfl, rfl⟩ | ⟨hnf, rfl⟩
  · obtain ⟨w40_i, w2_i, k4_i, t40_i, r_i, s_i⟩ := hs.2.1 i hi
    obtain ⟨o_i, n_i⟩ := hX.form hs hi
    obtain ⟨f_i, e_i, v_i⟩ := id n_i
    refine n_if_ne (tgt := 15) hx hb (by omega) dX4_slope_5 (by decide) (fun hz => ?_) (fun hz => ?_)
    · have hS : st_slope σ (nI i) = comeO σ (sW σ i + 2) (slpS (sW σ i) (sE σ i)) := by
        unfold st_slope
        rw [cif_t ⟨i, hi, rfl⟩, cN_nI (by omega)]
      rw [hS]
      refine lv_aload_n hx hb dX4_slope_15 rfl (lv_at hl 0 rfl) ?_
      refine z_get B hW (0) (by omega) x0 rfl inX4 0 (by decide) hw_115 rfl (v := .ref (ad (1))) rfl dX4_slope_16 ?_
      refine lv_iload_n hx hb dX4_slope_19 rfl (lv_at hl 1 rfl) ?_
      refine z_aald B hW (1) (by omega) x1 (i) (by omega) (by decide) (q := ad (60 + 2 * (i))) (v1 _ (by omega)) dX4_slope_20 ?_
      refine z_get B hW (60 + 2 * (i)) (by omega) o_i rfl inX1 1 (by decide) hw_103 rfl (v := .int (nI (sW σ i))) rfl dX4_slope_21 ?_
      refine lv_iconst (v := nI 2) hx hb dX4_slope_24 (by decide) ?_
      refine n_iadd hx hb dX4_slope_25 ?_
      refine lv_istore_n (lv' := [(2, .int (nI ((sW σ i) + 2))), (0, .ref (ad (0))), (1, .int (nI (i)))]) hx hb dX4_slope_26 rfl hl (by decide) rfl (fun ls hl => ?_)
      refine lv_aload_n hx hb dX4_slope_27 rfl (lv_at hl 1 rfl) ?_
      refine lv_iload_n hx hb dX4_slope_28 rfl (lv_at hl 0 rfl) ?_
      refine call_vi B hA hW (0) (by omega) x0 (r := _) rfl rfl (k_hasRoom l G n ad w hn σ hX hs (sW σ i + 2) (by omega)) mf_X4_hasRoom hw_159 rfl ⟨⟨rfl, rfl⟩, by decide, by decide⟩ ⟨Nat.zero_le _, Nat.zero_le _⟩ hl.1 rfl (Nat.le_of_ble_eq_true rfl) dX4_slope_29 (fun r w9 H locs hp hW => ?_)
      obtain ⟨e1, hp⟩ := hp
      rw [e1] at hW
      rcases hp with ⟨hh, hk40, rfl⟩ | ⟨hnr, rfl⟩
      · obtain ⟨xa, ya, za, fa, g1, g2⟩ := hX.free hh
        refine n_if_ne (tgt := 42) hx hb (by omega) dX4_slope_32 (by decide) (fun hz => ?_) (fun hz => ?_)
        · obtain ⟨-, hE2, -⟩ := id hB
          refine lv_aload_n hx hb dX4_slope_42 rfl (lv_at hl 1 rfl) ?_
          refine z_get B hW (0) (by omega) x0 rfl inX4 0 (by decide) hw_115 rfl (v := .ref (ad (1))) rfl dX4_slope_43 ?_
          refine lv_iload_n hx hb dX4_slope_46 rfl (lv_at hl 2 rfl) ?_
          refine z_aald B hW (1) (by omega) x1 (i) (by omega) (by decide) (q := ad (60 + 2 * (i))) (v1 _ (by omega)) dX4_slope_47 ?_
          refine z_get B hW (60 + 2 * (i)) (by omega) o_i rfl inX1 0 (by decide) hw_101 rfl (v := .ref (ad (61 + 2 * (i)))) rfl dX4_slope_48 ?_
          refine lv_astore_n (lv' := [(3, .ref (ad (61 + 2 * (i)))), (2, .int (nI ((sW σ i) + 2))), (0, .ref (ad (0))), (1, .int (nI (i)))]) hx hb dX4_slope_51 rfl hl (by decide) rfl (fun ls hl => ?_)
          refine lv_aload_n hx hb dX4_slope_52 rfl (lv_at hl 2 rfl) ?_
          refine z_get B hW (0) (by omega) x0 rfl inX4 0 (by decide) hw_115 rfl (v := .ref (ad (1))) rfl dX4_slope_53 ?_
          refine lv_aload_n hx hb dX4_slope_56 rfl (lv_at hl 2 rfl) ?_
          refine z_get B hW (0) (by omega) x0 rfl inX4 1 (by decide) hw_116 rfl (v := .int (nI (sH σ))) rfl dX4_slope_57 ?_
          refine z_aald B hW (1) (by omega) x1 (sH σ) (by omega) (by decide) (q := ad (60 + 2 * (sH σ))) (v1 _ (by omega)) dX4_slope_60 ?_
          refine z_get B hW (60 + 2 * (sH σ)) (by omega) g1 rfl inX1 0 (by decide) hw_101 rfl (v := .ref (ad (61 + 2 * (sH σ)))) rfl dX4_slope_61 ?_
          refine lv_astore (lv' := [(4, .ref (ad (61 + 2 * (sH σ)))), (3, .ref (ad (61 + 2 * (i)))), (2, .int (nI ((sW σ i) + 2))), (0, .ref (ad (0))), (1, .int (nI (i)))]) hx hb dX4_slope_64 hl (by decide) rfl (fun ls hl => ?_)
          refine lv_aload_n hx hb dX4_slope_66 rfl (lv_at hl 3 rfl) ?_
          refine z_get B hW (0) (by omega) x0 rfl inX4 0 (by decide) hw_115 rfl (v := .ref (ad (1))) rfl dX4_slope_67 ?_
          refine lv_iload_n hx hb dX4_slope_70 rfl (lv_at hl 4 rfl) ?_
          refine z_aald B hW (1) (by omega) x1 (i) (by omega) (by decide) (q := ad (60 + 2 * (i))) (v1 _ (by omega)) dX4_slope_71 ?_
          refine z_get B hW (60 + 2 * (i)) (by omega) o_i rfl inX1 1 (by decide) hw_103 rfl (v := .int (nI (sW σ i))) rfl dX4_slope_72 ?_
          refine n_i2l hx hb (by omega) dX4_slope_75 ?_
          refine topl (y := (lZ (((sW σ i : Nat) : Int)))) (lN_Z _) ?_
          refine n_ldc2 B hw_209 (x := lZ (12)) (by decide) dX4_slope_76 ?_
          refine call_sl B hA hW (k_quotient l G n ad w ((sW σ i : Nat) : Int) 12 (by omega) (by omega) (by omega) (by omega)) mf_X2_quotient hw_167 rfl ⟨⟨rfl, rfl⟩, by decide, by decide⟩ ⟨Nat.zero_le _, Nat.zero_le _⟩ hl.1 rfl (Nat.le_of_ble_eq_true rfl) dX4_slope_79 (fun r w9 H locs hp hW => ?_)
          obtain ⟨e1, e2⟩ := hp
          rw [e1] at hW
          subst e2
          obtain ⟨sh, hsh⟩ : ∃ sh, sh = sW σ i * invM 12 % 1000003 := ⟨_, rfl⟩
          have hshl : sh < 1000003 := by rw [hsh]; exact Nat.mod_lt _ (by decide)
          refine topl (y := (lN (sh))) (by rw [hsh, zm_nat, zm_12, Nat.mod_eq_of_lt (show sW σ i < 1000003 by omega), invM]) ?_
          refine lv_lstore (lv' := [(5, .long (lN (sh))), (4, .ref (ad (61 + 2 * (sH σ)))), (3, .ref (ad (61 + 2 * (i)))), (2, .int (nI ((sW σ i) + 2))), (0, .ref (ad (0))), (1, .int (nI (i)))]) hx hb dX4_slope_82 hl (by decide) rfl (fun ls hl => ?_)
          refine lv_aload_n hx hb dX4_slope_84 rfl (lv_at hl 4 rfl) ?_
          refine z_get B hW (0) (by omega) x0 rfl inX4 2 (by decide) hw_117 rfl (v := .ref (ad (2))) rfl dX4_slope_85 ?_
          refine z_get B hW (2) (by omega) b2 rfl inX0 0 (by decide) hw_67 rfl (v := .ref (ad (3))) rfl dX4_slope_88 ?_
          refine lv_aload_n hx hb dX4_slope_91 rfl (lv_at hl 2 rfl) ?_
          refine lv_aload hx hb dX4_slope_92 (lv_at hl 1 rfl) ?_
          refine call_sv B hA hW (k_X3_multiply l G n ad w 3 (61 + 2 * i) (61 + 2 * sH σ) e2S (sE σ i) (by omega) (by omega) (by omega) hE2 n_i ⟨_, g2⟩ (red_sums _ _).s r_i.s) mf_X3_multiply hw_200 rfl ⟨⟨rfl, rfl⟩, by decide, by decide⟩ ⟨Nat.zero_le _, Nat.zero_le _⟩ hl.1 rfl (Nat.le_of_ble_eq_true rfl) dX4_slope_94 (fun w2 H locs hp hW => ?_)
          obtain ⟨h1, f2, h2, h3⟩ := hp
          refine lv_iconst (v := nI 0) hx hb dX4_slope_97 (by decide) ?_
          refine lv_istore (lv' := [(7, .int (nI (0))), (5, .long (lN (sh))), (4, .ref (ad (61 + 2 * (sH σ)))), (3, .ref (ad (61 + 2 * (i)))), (2, .int (nI ((sW σ i) + 2))), (0, .ref (ad (0))), (1, .int (nI (i)))]) hx hb dX4_slope_98 hl (by decide) rfl (fun ls hl => ?_)
          refine z_up (Wg := fun H locs ls => W p l e (zr 5) s m args below meth c H locs 0 0 _ (F0 m 100 ls [])) (I := fun q H locs ls => ∃ (w3 : Nat → va_E) (g : Nat → Int64), Wo G A s.heap n ad w3 H locs ∧ lv_has ls 8 [(7, .int (nI q)), (5, .long (lN sh)), (4, .ref (ad (61 + 2 * (sH σ)))), (3, .ref (ad (61 + 2 * (i)))), (2, .int (nI (sW σ i + 2))), (0, .ref (ad 0)), (1, .int (nI i))] ∧ (∀ j, j ≠ 61 + 2 * sH σ → w3 j = w j) ∧ w3 (61 + 2 * sH σ) = eL G 48 g ∧ (∀ j, j < q → g j = lN (slpS (sW σ i) (sE σ i) j)) ∧ ∀ j, q ≤ j → j < 48 → g j = lN (mulS e2S (sE σ i) j)) (a := 0) (b := 48) (Nat.zero_le _) ?_ ?_ H locs ls ⟨w2, f2, hW, lv_sub hl [0, 1, 2, 3, 4, 5, 6] rfl, h1, h2, fun j h => by omega, fun j _ hj => h3 j hj⟩
          · rintro q - hq ih H locs ls ⟨w3, g, hW, hl, c1, c2, c3, c4⟩
            have ei3 : w3 (61 + 2 * i) = eL G 48 f_i := (c1 _ (by omega)).trans e_i
            have hm1 := mul_lt hshl (mulS_lt e2S (sE σ i) q)
            have ri := r_i q
            have hm2 : q * sE σ i q ≤ 47 * 1000003 := Nat.mul_le_mul (by omega) (by omega)
            refine lv_iload hx hb dX4_slope_100 (lv_at hl 0 rfl) ?_
            refine lv_bipush (v := nI 48) hx hb dX4_slope_102 (by decide) ?_
            refine n_icmp_ge (tgt := 138) hx hb (by omega) (by omega) dX4_slope_104 (by decide) (fun hc => ?_) (fun hc => ?_)
            · omega
            · refine lv_aload hx hb dX4_slope_107 (lv_at hl 2 rfl) ?_
              refine lv_iload hx hb dX4_slope_109 (lv_at hl 0 rfl) ?_
              refine lv_iload hx hb dX4_slope_111 (lv_at hl 0 rfl) ?_
              refine n_i2l hx hb (by omega) dX4_slope_113 ?_
              refine lv_aload_n hx hb dX4_slope_114 rfl (lv_at hl 3 rfl) ?_
              refine lv_iload hx hb dX4_slope_115 (lv_at hl 0 rfl) ?_
              refine z_lald B hW (61 + 2 * (i)) (by omega) ei3 (q) (by omega) (by decide) (v := (lN (sE σ i (q)))) (v_i _ (by omega)) dX4_slope_117 ?_
              refine n_lmul hx hb dX4_slope_118 ?_
              refine topl (y := (lZ (((q * sE σ i q : Nat) : Int)))) (lN_Z _) ?_
              refine lv_lload hx hb dX4_slope_119 (lv_at hl 1 rfl) ?_
              refine lv_aload hx hb dX4_slope_121 (lv_at hl 2 rfl) ?_
              refine lv_iload hx hb dX4_slope_123 (lv_at hl 0 rfl) ?_
              refine z_lald B hW (61 + 2 * (sH σ)) (by omega) c2 (q) (by omega) (by decide) (v := (lN (mulS e2S (sE σ i) (q)))) (c4 _ (by omega) (by omega)) dX4_slope_125 ?_
              refine n_lmul hx hb dX4_slope_126 ?_
              refine topl (y := (lZ (((sh * mulS e2S (sE σ i) q : Nat) : Int)))) (lN_Z _) ?_
              refine z_lsub hx hb dX4_slope_127 ?_
              refine call_sl B hA hW (k_rest l G n ad w3 (((q * sE σ i q : Nat) : Int) - ((sh * mulS e2S (sE σ i) q : Nat) : Int)) (by omega) (by omega)) mf_X2_rest hw_191 rfl ⟨⟨rfl, rfl⟩, by decide, by decide⟩ ⟨Nat.zero_le _, Nat.zero_le _⟩ hl.1 rfl (Nat.le_of_ble_eq_true rfl) dX4_slope_128 (fun r w9 H locs hp hW => ?_)
              obtain ⟨e1, e2⟩ := hp
              rw [e1] at hW
              subst e2
              refine z_last B hW (61 + 2 * (sH σ)) (by omega) c2 (q) (by omega) (by decide) dX4_slope_131 (fun H locs hW => ?_)
              refine lv_iinc (v := (nI (q + 1))) (lv' := [(7, .int (nI (q + 1))), (5, .long (lN (sh))), (4, .ref (ad (61 + 2 * (sH σ)))), (3, .ref (ad (61 + 2 * (i)))), (2, .int (nI (sW σ i + 2))), (0, .ref (ad (0))), (1, .int (nI (i)))]) hx hb dX4_slope_132 hl (k := 0) rfl (iinc1 _) (by decide) rfl (fun ls hl => ?_)
              refine lv_goto (tgt := 100) hx hb dX4_slope_135 (by decide) ?_
              refine ih H locs ls ⟨_, _, hW, lv_sub hl [0, 1, 2, 3, 4, 5, 6] rfl, fun j hj => by rw [up_n hj]; exact c1 j hj, up_s, fun j hj => ?_, fun j hj1 hj2 => ?_⟩
              · by_cases z : j = q
                · rw [z, pk_uLs, hsh]; rfl
                · rw [pk_uLn z]; exact c3 j (by omega)
              · rw [pk_uLn (by omega)]; exact c4 j (by omega) hj2
          · rintro H locs ls ⟨w3, g, hW, hl, c1, c2, c3, c4⟩
            refine lv_iload hx hb dX4_slope_100 (lv_at hl 0 rfl) ?_
            refine lv_bipush (v := nI 48) hx hb dX4_slope_102 (by decide) ?_
            refine n_icmp_ge (tgt := 138) hx hb (by omega) (by omega) dX4_slope_104 (by decide) (fun hc => ?_) (fun hc => ?_)
            · have hX2 : XOK G ad w3 σ := hX.num ⟨_, c2⟩ c1
              refine lv_aload_n hx hb dX4_slope_138 rfl (lv_at hl 5 rfl) ?_
              refine lv_iload_n hx hb dX4_slope_139 rfl (lv_at hl 4 rfl) ?_
              refine call_vi B hA hW (0) (by omega) hX2.2.1 (r := _) rfl rfl (k_comeOfOthers l G n ad w3 hn σ hX2 hs hh (sW σ i + 2) hk40 (slpS (sW σ i) (sE σ i)) ⟨g, c2, c3⟩ (zm_lt _)) mf_X4_comeOfOthers hw_192 rfl ⟨⟨rfl, rfl⟩, by decide, by decide⟩ ⟨Nat.zero_le _, Nat.zero_le _⟩ hl.1 rfl (Nat.le_of_ble_eq_true rfl) dX4_slope_140 (fun r w9 H locs hp9 hW => ?_)
              exact ret_i B hr hlk hW ⟨hp9.1, hp9.2.1, fun j hj => (hp9.2.2 j hj).trans (c1 j (by omega))⟩ dX4_slope_143
            · omega
        · exact absurd hz (by decide)
      · refine n_if_ne (tgt := 42) hx hb (by omega) dX4_slope_32 (by decide) (fun hz => ?_) (fun hz => ?_)
        · exact absurd rfl hz
        · refine lv_aload_n hx hb dX4_slope_35 rfl (lv_at hl 1 rfl) ?_
          refine lv_bipush (v := -8) hx hb dX4_slope_36 (by decide) ?_
          refine call_vi B hA hW (0) (by omega) x0 (r := _) rfl rfl (k_refuse l G n ad w hn σ hX (-8) 8 (by decide) (by decide) (by decide) (by decide) (by decide)) mf_X4_refuse hw_152 rfl ⟨⟨rfl, rfl⟩, by decide, by decide⟩ ⟨Nat.zero_le _, Nat.zero_le _⟩ hl.1 rfl (Nat.le_of_ble_eq_true rfl) dX4_slope_38 (fun r w9 H locs hp hW => ?_)
          exact ret_i B hr hlk hW (by rw [comeO_full hnr]; exact hp) dX4_slope_41
    · exact absurd hz (by decide)
  · refine n_if_ne (tgt := 15) hx hb (by omega) dX4_slope_5 (by decide) (fun hz => ?_) (fun hz => ?_)
    · exact absurd rfl hz
    · refine lv_aload_n hx hb dX4_slope_8 rfl (lv_at hl 0 rfl) ?_
      refine lv_bipush (v := -3) hx hb dX4_slope_9 (by decide) ?_
      refine call_vi B hA hW (0) (by omega) x0 (r := _) rfl rfl (k_refuse l G n ad w hn σ hX (-3) 3 (by decide) (by decide) (by decide) (by decide) (by decide)) mf_X4_refuse hw_152 rfl ⟨⟨rfl, rfl⟩, by decide, by decide⟩ ⟨Nat.zero_le _, Nat.zero_le _⟩ hl.1 rfl (Nat.le_of_ble_eq_true rfl) dX4_slope_11 (fun r w9 H locs hp hW => ?_)
      exact ret_i B hr hlk hW (by rw [show st_slope σ f = ref σ 3 by unfold st_slope; rw [cif_f hnf]]; exact hp) dX4_slope_14
set_option maxHeartbeats 4000000 in
set_option maxRecDepth 100000 in
theorem k_X4_add (l : Launch) (G : zG) (n : Nat) (ad : Nat → Nat) (w : Nat → va_E) (hn : 92 ≤ n) (σ : zS) (hX : XOK G ad w σ) (hs : SOK σ) (f x g y : Int32) :
    Ci l G yX4_add cdX4_add (zr 5) n ad w [.ref (ad (0)), .int (f), .int (x), .int (g), .int (y)] (postX G ad w (st_add σ f x g y)) := by
  obtain ⟨⟨nf, hB⟩, x0, ⟨f1, x1, v1⟩, ⟨f55, x55⟩, ⟨f56, x56⟩, ⟨f57, x57⟩, ⟨f58, x58, v58⟩, ⟨f59, x59, v59⟩, xf⟩ := id hX
  have hsh := hs.1
  refine ent_i (cc := cX4_add) (maxL := 10) (ret := (some .int)) (by decide +kernel) rfl (Nat.le_of_ble_eq_true rfl) ?_
  intro p e s m args below meth c A B hr hlk hA H locs ls hW hl
  have hx := B.1
  have hb := B.2.1
  have hl : lv_has ls 10 [(0, .ref (ad (0))), (1, .int (f)), (2, .int (x)), (3, .int (g)), (4, .int (y))] := hl
  obtain ⟨b2, -⟩ := id hB
  refine lv_aload_n hx hb dX4_add_0 rfl (lv_at hl 0 rfl) ?_
  refine lv_iload_n hx hb dX4_add_1 rfl (lv_at hl 1 rfl) ?_
  refine call_vi B hA hW (0) (by omega) x0 (r := _) rfl rfl (k_isForm l G n ad w hn σ hX hs f) mf_X4_isForm hw_187 rfl ⟨⟨rfl, rfl⟩, by decide, by decide⟩ ⟨Nat.zero_le _, Nat.zero_le _⟩ hl.1 rfl (Nat.le_of_ble_eq_true rfl) dX4_add_2 (fun r w9 H locs hp hW => ?_)
  obtain ⟨e1, hp⟩ := hp
  rw [e1] at hW
  rcases hp with ⟨i, hi, rfl, rfl⟩ | ⟨hnf, rfl⟩
  · obtain ⟨w40_i, w2_i, k4_i, t40_i, r_i, s_i⟩ := hs.2.1 i hi
    obtain ⟨o_i, n_i⟩ := hX.form hs hi
    obtain ⟨f_i, e_i, v_i⟩ := id n_i
    refine n_if_eq (tgt := 16) hx hb (by omega) dX4_add_5 (by decide) (fun hz => ?_) (fun hz => ?_)
    · exact absurd hz (by decide)
    · refine lv_aload_n hx hb dX4_add_8 rfl (lv_at hl 0 rfl) ?_
      refine lv_iload_n hx hb dX4_add_9 rfl (lv_at hl 3 rfl) ?_
      refine call_vi B hA hW (0) (by omega) x0 (r := _) rfl rfl (k_isForm l G n ad w hn σ hX hs g) mf_X4_isForm hw_187 rfl ⟨⟨rfl, rfl⟩, by decide, by decide⟩ ⟨Nat.zero_le _, Nat.zero_le _⟩ hl.1 rfl (Nat.le_of_ble_eq_true rfl) dX4_add_10 (fun r w9 H locs hp hW => ?_)
      obtain ⟨e1, hp⟩ := hp
      rw [e1] at hW
      rcases hp with ⟨j, hj, rfl, rfl⟩ | ⟨hnf, rfl⟩
      · obtain ⟨w40_j, w2_j, k4_j, t40_j, r_j, s_j⟩ := hs.2.1 j hj
        obtain ⟨o_j, n_j⟩ := hX.form hs hj
        obtain ⟨f_j, e_j, v_j⟩ := id n_j
        refine n_if_ne (tgt := 23) hx hb (by omega) dX4_add_13 (by decide) (fun hz => ?_) (fun hz => ?_)
        · have hS : st_add σ (nI i) x (nI j) y = cif (sW σ i = sW σ j) (comeO σ (sW σ i) (addS x y (sE σ i) (sE σ j))) (ref σ 7) := by
            unfold st_add
            rw [cif_t ⟨⟨i, hi, rfl⟩, ⟨j, hj, rfl⟩⟩, cN_nI (by omega), cN_nI (by omega)]
          rw [hS]
          refine lv_aload_n hx hb dX4_add_23 rfl (lv_at hl 0 rfl) ?_
          refine z_get B hW (0) (by omega) x0 rfl inX4 0 (by decide) hw_115 rfl (v := .ref (ad (1))) rfl dX4_add_24 ?_
          refine lv_iload_n hx hb dX4_add_27 rfl (lv_at hl 1 rfl) ?_
          refine z_aald B hW (1) (by omega) x1 (i) (by omega) (by decide) (q := ad (60 + 2 * (i))) (v1 _ (by omega)) dX4_add_28 ?_
          refine z_get B hW (60 + 2 * (i)) (by omega) o_i rfl inX1 1 (by decide) hw_103 rfl (v := .int (nI (sW σ i))) rfl dX4_add_29 ?_
          refine lv_istore (lv' := [(5, .int (nI (sW σ i))), (0, .ref (ad (0))), (1, .int (nI (i))), (2, .int (x)), (3, .int (nI (j))), (4, .int (y))]) hx hb dX4_add_32 hl (by decide) rfl (fun ls hl => ?_)
          refine lv_iload hx hb dX4_add_34 (lv_at hl 0 rfl) ?_
          refine lv_aload_n hx hb dX4_add_36 rfl (lv_at hl 1 rfl) ?_
          refine z_get B hW (0) (by omega) x0 rfl inX4 0 (by decide) hw_115 rfl (v := .ref (ad (1))) rfl dX4_add_37 ?_
          refine lv_iload_n hx hb dX4_add_40 rfl (lv_at hl 4 rfl) ?_
          refine z_aald B hW (1) (by omega) x1 (j) (by omega) (by decide) (q := ad (60 + 2 * (j))) (v1 _ (by omega)) dX4_add_41 ?_
          refine z_get B hW (60 + 2 * (j)) (by omega) o_j rfl inX1 1 (by decide) hw_103 rfl (v := .int (nI (sW σ j))) rfl dX4_add_42 ?_
          refine n_icmp_eq (tgt := 55) hx hb (by omega) (by omega) dX4_add_45 (by decide) (fun hd => ?_) (fun hd => ?_)
          · rw [cif_t hd]
            refine lv_aload_n hx hb dX4_add_55 rfl (lv_at hl 1 rfl) ?_
            refine lv_iload hx hb dX4_add_56 (lv_at hl 0 rfl) ?_
            refine call_vi B hA hW (0) (by omega) x0 (r := _) rfl rfl (k_hasRoom l G n ad w hn σ hX hs (sW σ i) (by omega)) mf_X4_hasRoom hw_159 rfl ⟨⟨rfl, rfl⟩, by decide, by decide⟩ ⟨Nat.zero_le _, Nat.zero_le _⟩ hl.1 rfl (Nat.le_of_ble_eq_true rfl) dX4_add_58 (fun r w9 H locs hp hW => ?_)
            obtain ⟨e1, hp⟩ := hp
            rw [e1] at hW
            rcases hp with ⟨hh, hk40, rfl⟩ | ⟨hnr, rfl⟩
            · obtain ⟨xa, ya, za, fa, g1, g2⟩ := hX.free hh
              refine n_if_ne (tgt := 71) hx hb (by omega) dX4_add_61 (by decide) (fun hz => ?_) (fun hz => ?_)
              · refine lv_aload_n hx hb dX4_add_71 rfl (lv_at hl 1 rfl) ?_
                refine z_get B hW (0) (by omega) x0 rfl inX4 0 (by decide) hw_115 rfl (v := .ref (ad (1))) rfl dX4_add_72 ?_
                refine lv_iload_n hx hb dX4_add_75 rfl (lv_at hl 2 rfl) ?_
                refine z_aald B hW (1) (by omega) x1 (i) (by omega) (by decide) (q := ad (60 + 2 * (i))) (v1 _ (by omega)) dX4_add_76 ?_
                refine z_get B hW (60 + 2 * (i)) (by omega) o_i rfl inX1 0 (by decide) hw_101 rfl (v := .ref (ad (61 + 2 * (i)))) rfl dX4_add_77 ?_
                refine lv_astore (lv' := [(6, .ref (ad (61 + 2 * (i)))), (5, .int (nI (sW σ i))), (0, .ref (ad (0))), (1, .int (nI (i))), (2, .int (x)), (3, .int (nI (j))), (4, .int (y))]) hx hb dX4_add_80 hl (by decide) rfl (fun ls hl => ?_)
                refine lv_aload_n hx hb dX4_add_82 rfl (lv_at hl 2 rfl) ?_
                refine z_get B hW (0) (by omega) x0 rfl inX4 0 (by decide) hw_115 rfl (v := .ref (ad (1))) rfl dX4_add_83 ?_
                refine lv_iload_n hx hb dX4_add_86 rfl (lv_at hl 5 rfl) ?_
                refine z_aald B hW (1) (by omega) x1 (j) (by omega) (by decide) (q := ad (60 + 2 * (j))) (v1 _ (by omega)) dX4_add_87 ?_
                refine z_get B hW (60 + 2 * (j)) (by omega) o_j rfl inX1 0 (by decide) hw_101 rfl (v := .ref (ad (61 + 2 * (j)))) rfl dX4_add_88 ?_
                refine lv_astore (lv' := [(7, .ref (ad (61 + 2 * (j)))), (6, .ref (ad (61 + 2 * (i)))), (5, .int (nI (sW σ i))), (0, .ref (ad (0))), (1, .int (nI (i))), (2, .int (x)), (3, .int (nI (j))), (4, .int (y))]) hx hb dX4_add_91 hl (by decide) rfl (fun ls hl => ?_)
                refine lv_aload_n hx hb dX4_add_93 rfl (lv_at hl 3 rfl) ?_
                refine z_get B hW (0) (by omega) x0 rfl inX4 0 (by decide) hw_115 rfl (v := .ref (ad (1))) rfl dX4_add_94 ?_
                refine lv_aload_n hx hb dX4_add_97 rfl (lv_at hl 3 rfl) ?_
                refine z_get B hW (0) (by omega) x0 rfl inX4 1 (by decide) hw_116 rfl (v := .int (nI (sH σ))) rfl dX4_add_98 ?_
                refine z_aald B hW (1) (by omega) x1 (sH σ) (by omega) (by decide) (q := ad (60 + 2 * (sH σ))) (v1 _ (by omega)) dX4_add_101 ?_
                refine z_get B hW (60 + 2 * (sH σ)) (by omega) g1 rfl inX1 0 (by decide) hw_101 rfl (v := .ref (ad (61 + 2 * (sH σ)))) rfl dX4_add_102 ?_
                refine lv_astore (lv' := [(8, .ref (ad (61 + 2 * (sH σ)))), (7, .ref (ad (61 + 2 * (j)))), (6, .ref (ad (61 + 2 * (i)))), (5, .int (nI (sW σ i))), (0, .ref (ad (0))), (1, .int (nI (i))), (2, .int (x)), (3, .int (nI (j))), (4, .int (y))]) hx hb dX4_add_105 hl (by decide) rfl (fun ls hl => ?_)
                refine lv_iconst (v := nI 0) hx hb dX4_add_107 (by decide) ?_
                refine lv_istore (lv' := [(9, .int (nI (0))), (8, .ref (ad (61 + 2 * (sH σ)))), (7, .ref (ad (61 + 2 * (j)))), (6, .ref (ad (61 + 2 * (i)))), (5, .int (nI (sW σ i))), (0, .ref (ad (0))), (1, .int (nI (i))), (2, .int (x)), (3, .int (nI (j))), (4, .int (y))]) hx hb dX4_add_108 hl (by decide) rfl (fun ls hl => ?_)
                refine z_up (Wg := fun H locs ls => W p l e (zr 5) s m args below meth c H locs 0 0 _ (F0 m 110 ls [])) (I := fun q H locs ls => ∃ (w3 : Nat → va_E) (g : Nat → Int64), Wo G A s.heap n ad w3 H locs ∧ lv_has ls 10 [(9, .int (nI q)), (8, .ref (ad (61 + 2 * (sH σ)))), (7, .ref (ad (61 + 2 * (j)))), (6, .ref (ad (61 + 2 * (i)))), (5, .int (nI (sW σ i))), (0, .ref (ad 0)), (1, .int (nI i)), (2, .int x), (3, .int (nI j)), (4, .int y)] ∧ (∀ j, j ≠ 61 + 2 * sH σ → w3 j = w j) ∧ w3 (61 + 2 * sH σ) = eL G 48 g ∧ (∀ q', q' < q → g q' = lN (addS x y (sE σ i) (sE σ j) q'))) (a := 0) (b := 48) (Nat.zero_le _) ?_ ?_ H locs ls ⟨w, fa, hW, hl, fun _ _ => rfl, g2, fun j h => by omega⟩
                · rintro q - hq ih H locs ls ⟨w3, g, hW, hl, c1, c2, c3⟩
                  have ei3 : w3 (61 + 2 * i) = eL G 48 f_i := (c1 _ (by omega)).trans e_i
                  have ej3 : w3 (61 + 2 * j) = eL G 48 f_j := (c1 _ (by omega)).trans e_j
                  have hm1 := mul_rng (rngI x).1 (rngI x).2 (r_i q)
                  have hm2 := mul_rng (rngI y).1 (rngI y).2 (r_j q)
                  refine lv_iload hx hb dX4_add_110 (lv_at hl 0 rfl) ?_
                  refine lv_bipush (v := nI 48) hx hb dX4_add_112 (by decide) ?_
                  refine n_icmp_ge (tgt := 149) hx hb (by omega) (by omega) dX4_add_114 (by decide) (fun hc => ?_) (fun hc => ?_)
                  · omega
                  · refine lv_aload hx hb dX4_add_117 (lv_at hl 1 rfl) ?_
                    refine lv_iload hx hb dX4_add_119 (lv_at hl 0 rfl) ?_
                    refine lv_iload_n hx hb dX4_add_121 rfl (lv_at hl 7 rfl) ?_
                    refine r_i2l hx hb dX4_add_122 ?_
                    refine lv_aload hx hb dX4_add_123 (lv_at hl 3 rfl) ?_
                    refine lv_iload hx hb dX4_add_125 (lv_at hl 0 rfl) ?_
                    refine z_lald B hW (61 + 2 * (i)) (by omega) ei3 (q) (by omega) (by decide) (v := (lZ (((sE σ i (q) : Nat) : Int)))) (by rw [v_i _ (by omega), lN_Z]) dX4_add_127 ?_
                    refine z_lmul hx hb dX4_add_128 ?_
                    refine lv_iload hx hb dX4_add_129 (lv_at hl 9 rfl) ?_
                    refine r_i2l hx hb dX4_add_131 ?_
                    refine lv_aload hx hb dX4_add_132 (lv_at hl 2 rfl) ?_
                    refine lv_iload hx hb dX4_add_134 (lv_at hl 0 rfl) ?_
                    refine z_lald B hW (61 + 2 * (j)) (by omega) ej3 (q) (by omega) (by decide) (v := (lZ (((sE σ j (q) : Nat) : Int)))) (by rw [v_j _ (by omega), lN_Z]) dX4_add_136 ?_
                    refine z_lmul hx hb dX4_add_137 ?_
                    refine z_ladd hx hb dX4_add_138 ?_
                    refine call_sl B hA hW (k_rest l G n ad w3 (x.toInt * ((sE σ i q : Nat) : Int) + y.toInt * ((sE σ j q : Nat) : Int)) (by omega) (by omega)) mf_X2_rest hw_191 rfl ⟨⟨rfl, rfl⟩, by decide, by decide⟩ ⟨Nat.zero_le _, Nat.zero_le _⟩ hl.1 rfl (Nat.le_of_ble_eq_true rfl) dX4_add_139 (fun r w9 H locs hp hW => ?_)
                    obtain ⟨e1, e2⟩ := hp
                    rw [e1] at hW
                    subst e2
                    refine z_last B hW (61 + 2 * (sH σ)) (by omega) c2 (q) (by omega) (by decide) dX4_add_142 (fun H locs hW => ?_)
                    refine lv_iinc (v := (nI (q + 1))) (lv' := [(9, .int (nI (q + 1))), (8, .ref (ad (61 + 2 * (sH σ)))), (7, .ref (ad (61 + 2 * (j)))), (6, .ref (ad (61 + 2 * (i)))), (5, .int (nI (sW σ i))), (0, .ref (ad (0))), (1, .int (nI (i))), (2, .int (x)), (3, .int (nI (j))), (4, .int (y))]) hx hb dX4_add_143 hl (k := 0) rfl (iinc1 _) (by decide) rfl (fun ls hl => ?_)
                    refine lv_goto (tgt := 110) hx hb dX4_add_146 (by decide) ?_
                    refine ih H locs ls ⟨_, _, hW, lv_sub hl [0, 1, 2, 3, 4, 5, 6, 7, 8, 9] rfl, fun j hj => by rw [up_n hj]; exact c1 j hj, up_s, fun q' hq' => ?_⟩
                    by_cases z : q' = q
                    · rw [z, pk_uLs]; rfl
                    · rw [pk_uLn z]; exact c3 q' (by omega)
                · rintro H locs ls ⟨w3, g, hW, hl, c1, c2, c3⟩
                  refine lv_iload hx hb dX4_add_110 (lv_at hl 0 rfl) ?_
                  refine lv_bipush (v := nI 48) hx hb dX4_add_112 (by decide) ?_
                  refine n_icmp_ge (tgt := 149) hx hb (by omega) (by omega) dX4_add_114 (by decide) (fun hc => ?_) (fun hc => ?_)
                  · have hX2 : XOK G ad w3 σ := hX.num ⟨_, c2⟩ c1
                    refine lv_aload_n hx hb dX4_add_149 rfl (lv_at hl 5 rfl) ?_
                    refine lv_iload hx hb dX4_add_150 (lv_at hl 4 rfl) ?_
                    refine call_vi B hA hW (0) (by omega) hX2.2.1 (r := _) rfl rfl (k_comeOfOthers l G n ad w3 hn σ hX2 hs hh (sW σ i) hk40 (addS x y (sE σ i) (sE σ j)) ⟨g, c2, c3⟩ (zm_lt _)) mf_X4_comeOfOthers hw_192 rfl ⟨⟨rfl, rfl⟩, by decide, by decide⟩ ⟨Nat.zero_le _, Nat.zero_le _⟩ hl.1 rfl (Nat.le_of_ble_eq_true rfl) dX4_add_152 (fun r w9 H locs hp9 hW => ?_)
                    exact ret_i B hr hlk hW ⟨hp9.1, hp9.2.1, fun j hj => (hp9.2.2 j hj).trans (c1 j (by omega))⟩ dX4_add_155
                  · omega
              · exact absurd hz (by decide)
            · refine n_if_ne (tgt := 71) hx hb (by omega) dX4_add_61 (by decide) (fun hz => ?_) (fun hz => ?_)
              · exact absurd rfl hz
              · refine lv_aload_n hx hb dX4_add_64 rfl (lv_at hl 1 rfl) ?_
                refine lv_bipush (v := -8) hx hb dX4_add_65 (by decide) ?_
                refine call_vi B hA hW (0) (by omega) x0 (r := _) rfl rfl (k_refuse l G n ad w hn σ hX (-8) 8 (by decide) (by decide) (by decide) (by decide) (by decide)) mf_X4_refuse hw_152 rfl ⟨⟨rfl, rfl⟩, by decide, by decide⟩ ⟨Nat.zero_le _, Nat.zero_le _⟩ hl.1 rfl (Nat.le_of_ble_eq_true rfl) dX4_add_67 (fun r w9 H locs hp hW => ?_)
                exact ret_i B hr hlk hW (by rw [comeO_full hnr]; exact hp) dX4_add_70
          · refine lv_aload_n hx hb dX4_add_48 rfl (lv_at hl 1 rfl) ?_
            refine lv_bipush (v := -7) hx hb dX4_add_49 (by decide) ?_
            refine call_vi B hA hW (0) (by omega) x0 (r := _) rfl rfl (k_refuse l G n ad w hn σ hX (-7) 7 (by decide) (by decide) (by decide) (by decide) (by decide)) mf_X4_refuse hw_152 rfl ⟨⟨rfl, rfl⟩, by decide, by decide⟩ ⟨Nat.zero_le _, Nat.zero_le _⟩ hl.1 rfl (Nat.le_of_ble_eq_true rfl) dX4_add_51 (fun r w9 H locs hp hW => ?_)
            exact ret_i B hr hlk hW (by rw [cif_f hd]; exact hp) dX4_add_54
        · exact absurd hz (by decide)
      · refine n_if_ne (tgt := 23) hx hb (by omega) dX4_add_13 (by decide) (fun hz => ?_) (fun hz => ?_)
        · exact absurd rfl hz
        · refine lv_aload_n hx hb dX4_add_16 rfl (lv_at hl 0 rfl) ?_
          refine lv_bipush (v := -3) hx hb dX4_add_17 (by decide) ?_
          refine call_vi B hA hW (0) (by omega) x0 (r := _) rfl rfl (k_refuse l G n ad w hn σ hX (-3) 3 (by decide) (by decide) (by decide) (by decide) (by decide)) mf_X4_refuse hw_152 rfl ⟨⟨rfl, rfl⟩, by decide, by decide⟩ ⟨Nat.zero_le _, Nat.zero_le _⟩ hl.1 rfl (Nat.le_of_ble_eq_true rfl) dX4_add_19 (fun r w9 H locs hp hW => ?_)
          exact ret_i B hr hlk hW (by rw [show st_add σ (nI i) x g y = ref σ 3 by unfold st_add; rw [cif_f (fun q => hnf q.2)]]; exact hp) dX4_add_22
  · refine n_if_eq (tgt := 16) hx hb (by omega) dX4_add_5 (by decide) (fun hz => ?_) (fun hz => ?_)
    · refine lv_aload_n hx hb dX4_add_16 rfl (lv_at hl 0 rfl) ?_
      refine lv_bipush (v := -3) hx hb dX4_add_17 (by decide) ?_
      refine call_vi B hA hW (0) (by omega) x0 (r := _) rfl rfl (k_refuse l G n ad w hn σ hX (-3) 3 (by decide) (by decide) (by decide) (by decide) (by decide)) mf_X4_refuse hw_152 rfl ⟨⟨rfl, rfl⟩, by decide, by decide⟩ ⟨Nat.zero_le _, Nat.zero_le _⟩ hl.1 rfl (Nat.le_of_ble_eq_true rfl) dX4_add_19 (fun r w9 H locs hp hW => ?_)
      exact ret_i B hr hlk hW (by rw [show st_add σ f x g y = ref σ 3 by unfold st_add; rw [cif_f (fun q => hnf q.1)]]; exact hp) dX4_add_22
    · exact absurd rfl hz
set_option maxHeartbeats 4000000 in
set_option maxRecDepth 100000 in
theorem k_X4_part (l : Launch) (G : zG) (n : Nat) (ad : Nat → Nat) (w : Nat → va_E) (hn : 92 ≤ n) (σ : zS) (hX : XOK G ad w σ) (hs : SOK σ) (f x : Int32) :
    Ci l G yX4_part cdX4_part (zr 5) n ad w [.ref (ad (0)), .int (f), .int (x)] (postX G ad w (st_part σ f x)) := by
  obtain ⟨⟨nf, hB⟩, x0, ⟨f1, x1, v1⟩, ⟨f55, x55⟩, ⟨f56, x56⟩, ⟨f57, x57⟩, ⟨f58, x58, v58⟩, ⟨f59, x59, v59⟩, xf⟩ := id hX
  have hsh := hs.1
  refine ent_i (cc := cX4_part) (maxL := 3) (ret := (some .int)) (by decide +kernel) rfl (Nat.le_of_ble_eq_true rfl) ?_
  intro p e s m args below meth c A B hr hlk hA H locs ls hW hl
  have hx := B.1
  have hb := B.2.1
  have hl : lv_has ls 3 [(0, .ref (ad (0))), (1, .int (f)), (2, .int (x))] := hl
  obtain ⟨b2, -⟩ := id hB
  refine lv_aload_n hx hb dX4_part_0 rfl (lv_at hl 0 rfl) ?_
  refine lv_iload_n hx hb dX4_part_1 rfl (lv_at hl 1 rfl) ?_
  refine call_vi B hA hW (0) (by omega) x0 (r := _) rfl rfl (k_isForm l G n ad w hn σ hX hs f) mf_X4_isForm hw_187 rfl ⟨⟨rfl, rfl⟩, by decide, by decide⟩ ⟨Nat.zero_le _, Nat.zero_le _⟩ hl.1 rfl (Nat.le_of_ble_eq_true rfl) dX4_part_2 (fun r w9 H locs hp hW => ?_)
  obtain ⟨e1, hp⟩ := hp
  rw [e1] at hW
  rcases hp with ⟨i, hi, rfl, rfl⟩ | ⟨hnf, rfl⟩
  · obtain ⟨w40_i, w2_i, k4_i, t40_i, r_i, s_i⟩ := hs.2.1 i hi
    obtain ⟨o_i, n_i⟩ := hX.form hs hi
    obtain ⟨f_i, e_i, v_i⟩ := id n_i
    refine n_if_eq (tgt := 32) hx hb (by omega) dX4_part_5 (by decide) (fun hz => ?_) (fun hz => ?_)
    · exact absurd hz (by decide)
    · refine lv_iload_n hx hb dX4_part_8 rfl (lv_at hl 2 rfl) ?_
      refine lv_if_lt (tgt := 32) hx hb dX4_part_9 (by decide) (fun hc => ?_) (fun hc => ?_)
      · refine lv_aload_n hx hb dX4_part_32 rfl (lv_at hl 0 rfl) ?_
        refine lv_bipush (v := -3) hx hb dX4_part_33 (by decide) ?_
        refine call_vi B hA hW (0) (by omega) x0 (r := _) rfl rfl (k_refuse l G n ad w hn σ hX (-3) 3 (by decide) (by decide) (by decide) (by decide) (by decide)) mf_X4_refuse hw_152 rfl ⟨⟨rfl, rfl⟩, by decide, by decide⟩ ⟨Nat.zero_le _, Nat.zero_le _⟩ hl.1 rfl (Nat.le_of_ble_eq_true rfl) dX4_part_35 (fun r w9 H locs hp hW => ?_)
        exact ret_i B hr hlk hW (by rw [show st_part σ (nI i) x = ref σ 3 by unfold st_part; rw [cN_nI (by omega), cif_f (fun ⟨_, ⟨q, q1, q2⟩⟩ => nI_pos (by have := zs_le (sW σ i) w40_i; omega) (q2 ▸ hc))]]; exact hp) dX4_part_38
      · obtain ⟨q9, hq9, rfl⟩ := nI_of hc
        have hzl := zs_le (sW σ i) w40_i
        refine lv_iload_n hx hb dX4_part_12 rfl (lv_at hl 2 rfl) ?_
        refine lv_aload_n hx hb dX4_part_13 rfl (lv_at hl 0 rfl) ?_
        refine z_get B hW (0) (by omega) x0 rfl inX4 2 (by decide) hw_117 rfl (v := .ref (ad (2))) rfl dX4_part_14 ?_
        refine lv_aload_n hx hb dX4_part_17 rfl (lv_at hl 0 rfl) ?_
        refine z_get B hW (0) (by omega) x0 rfl inX4 0 (by decide) hw_115 rfl (v := .ref (ad (1))) rfl dX4_part_18 ?_
        refine lv_iload_n hx hb dX4_part_21 rfl (lv_at hl 1 rfl) ?_
        refine z_aald B hW (1) (by omega) x1 (i) (by omega) (by decide) (q := ad (60 + 2 * (i))) (v1 _ (by omega)) dX4_part_22 ?_
        refine z_get B hW (60 + 2 * (i)) (by omega) o_i rfl inX1 1 (by decide) hw_103 rfl (v := .int (nI (sW σ i))) rfl dX4_part_23 ?_
        refine call_vi B hA hW (2) (by omega) b2 (r := _) rfl rfl (k_sizeOf l G n ad w (sW σ i) nf nf (by omega) w40_i hB) mf_X0_sizeOf hw_245 rfl ⟨⟨rfl, rfl⟩, by decide, by decide⟩ ⟨Nat.zero_le _, Nat.zero_le _⟩ hl.1 rfl (Nat.le_of_ble_eq_true rfl) dX4_part_26 (fun r w9 H locs hp hW => ?_)
        obtain ⟨e1, e2⟩ := hp
        rw [e1] at hW
        subst e2
        refine n_icmp_lt (tgt := 39) hx hb (by omega) (by omega) dX4_part_29 (by decide) (fun hd => ?_) (fun hd => ?_)
        · refine lv_aload_n hx hb dX4_part_39 rfl (lv_at hl 0 rfl) ?_
          refine z_get B hW (0) (by omega) x0 rfl inX4 2 (by decide) hw_117 rfl (v := .ref (ad (2))) rfl dX4_part_40 ?_
          refine lv_aload_n hx hb dX4_part_43 rfl (lv_at hl 0 rfl) ?_
          refine z_get B hW (0) (by omega) x0 rfl inX4 0 (by decide) hw_115 rfl (v := .ref (ad (1))) rfl dX4_part_44 ?_
          refine lv_iload_n hx hb dX4_part_47 rfl (lv_at hl 1 rfl) ?_
          refine z_aald B hW (1) (by omega) x1 (i) (by omega) (by decide) (q := ad (60 + 2 * (i))) (v1 _ (by omega)) dX4_part_48 ?_
          refine z_get B hW (60 + 2 * (i)) (by omega) o_i rfl inX1 1 (by decide) hw_103 rfl (v := .int (nI (sW σ i))) rfl dX4_part_49 ?_
          refine lv_aload_n hx hb dX4_part_52 rfl (lv_at hl 0 rfl) ?_
          refine z_get B hW (0) (by omega) x0 rfl inX4 0 (by decide) hw_115 rfl (v := .ref (ad (1))) rfl dX4_part_53 ?_
          refine lv_iload_n hx hb dX4_part_56 rfl (lv_at hl 1 rfl) ?_
          refine z_aald B hW (1) (by omega) x1 (i) (by omega) (by decide) (q := ad (60 + 2 * (i))) (v1 _ (by omega)) dX4_part_57 ?_
          refine z_get B hW (60 + 2 * (i)) (by omega) o_i rfl inX1 0 (by decide) hw_101 rfl (v := .ref (ad (61 + 2 * (i)))) rfl dX4_part_58 ?_
          refine lv_aload_n hx hb dX4_part_61 rfl (lv_at hl 0 rfl) ?_
          refine z_get B hW (0) (by omega) x0 rfl inX4 3 (by decide) hw_118 rfl (v := .ref (ad (55))) rfl dX4_part_62 ?_
          refine call_vv B hA hW (2) (by omega) b2 (r := _) rfl rfl (k_findParts l G n ad w (sW σ i) nf (61 + 2 * i) 55 48 (sE σ i) (by omega) w40_i w2_i hB (by omega) (by omega) (by omega) (by omega) (by omega) (by omega) (by decide) n_i (fun q _ => r_i q) f55 x55) mf_X0_findParts hw_223 rfl ⟨⟨rfl, rfl⟩, by decide, by decide⟩ ⟨Nat.zero_le _, Nat.zero_le _⟩ hl.1 rfl (Nat.le_of_ble_eq_true rfl) dX4_part_65 (fun w2 H locs hp hW => ?_)
          obtain ⟨nf2, hB2, fr2, p2, q2, v2, -⟩ := hp
          have hX2 : XOK G ad w2 σ := hX.parts hB2 fr2 ⟨_, q2⟩
          obtain ⟨b22, -⟩ := id hB2
          obtain ⟨f12, x12, v12⟩ := hX2.2.2.1
          refine lv_aload_n hx hb dX4_part_68 rfl (lv_at hl 0 rfl) ?_
          refine z_get B hW (0) (by omega) hX2.2.1 rfl inX4 3 (by decide) hw_118 rfl (v := .ref (ad (55))) rfl dX4_part_69 ?_
          refine lv_iload_n hx hb dX4_part_72 rfl (lv_at hl 2 rfl) ?_
          refine z_lald B hW (55) (by omega) q2 (q9) (by omega) (by decide) (v := (lN (prt (bas (sW σ i)) (sE σ i) q9))) (v2 _ hd) dX4_part_73 ?_
          refine n_l2i hx hb dX4_part_74 ?_
          exact ret_i B hr hlk hW (by rw [show st_part σ (nI i) (nI q9) = (nI (prt (bas (sW σ i)) (sE σ i) q9), σ) by unfold st_part; rw [cN_nI (by omega), cif_t ⟨⟨i, hi, rfl⟩, ⟨q9, hd, rfl⟩⟩, cN_nI (by omega)]]; exact ⟨rfl, hX2, fun j hj => fr2 j (by omega) (by omega) (by omega)⟩) dX4_part_75
        · refine lv_aload_n hx hb dX4_part_32 rfl (lv_at hl 0 rfl) ?_
          refine lv_bipush (v := -3) hx hb dX4_part_33 (by decide) ?_
          refine call_vi B hA hW (0) (by omega) x0 (r := _) rfl rfl (k_refuse l G n ad w hn σ hX (-3) 3 (by decide) (by decide) (by decide) (by decide) (by decide)) mf_X4_refuse hw_152 rfl ⟨⟨rfl, rfl⟩, by decide, by decide⟩ ⟨Nat.zero_le _, Nat.zero_le _⟩ hl.1 rfl (Nat.le_of_ble_eq_true rfl) dX4_part_35 (fun r w9 H locs hp hW => ?_)
          exact ret_i B hr hlk hW (by rw [show st_part σ (nI i) (nI q9) = ref σ 3 by unfold st_part; rw [cN_nI (by omega), cif_f (fun ⟨_, ⟨q, q1, q2⟩⟩ => by have := (nI_eq hq9 (by omega)).mp q2; omega)]]; exact hp) dX4_part_38
  · refine n_if_eq (tgt := 32) hx hb (by omega) dX4_part_5 (by decide) (fun hz => ?_) (fun hz => ?_)
    · refine lv_aload_n hx hb dX4_part_32 rfl (lv_at hl 0 rfl) ?_
      refine lv_bipush (v := -3) hx hb dX4_part_33 (by decide) ?_
      refine call_vi B hA hW (0) (by omega) x0 (r := _) rfl rfl (k_refuse l G n ad w hn σ hX (-3) 3 (by decide) (by decide) (by decide) (by decide) (by decide)) mf_X4_refuse hw_152 rfl ⟨⟨rfl, rfl⟩, by decide, by decide⟩ ⟨Nat.zero_le _, Nat.zero_le _⟩ hl.1 rfl (Nat.le_of_ble_eq_true rfl) dX4_part_35 (fun r w9 H locs hp hW => ?_)
      exact ret_i B hr hlk hW (by rw [show st_part σ f x = ref σ 3 by unfold st_part; rw [cif_f (fun q => hnf q.1)]]; exact hp) dX4_part_38
    · exact absurd rfl hz
set_option maxHeartbeats 4000000 in
set_option maxRecDepth 100000 in
theorem k_X4_over (l : Launch) (G : zG) (n : Nat) (ad : Nat → Nat) (w : Nat → va_E) (hn : 92 ≤ n) (σ : zS) (hX : XOK G ad w σ) (hs : SOK σ) (f : Int32) :
    Ci l G yX4_over cdX4_over (zr 5) n ad w [.ref (ad (0)), .int (f)] (postX G ad w (st_over σ f)) := by
  obtain ⟨⟨nf, hB⟩, x0, ⟨f1, x1, v1⟩, ⟨f55, x55⟩, ⟨f56, x56⟩, ⟨f57, x57⟩, ⟨f58, x58, v58⟩, ⟨f59, x59, v59⟩, xf⟩ := id hX
  have hsh := hs.1
  refine ent_i (cc := cX4_over) (maxL := 4) (ret := (some .int)) (by decide +kernel) rfl (Nat.le_of_ble_eq_true rfl) ?_
  intro p e s m args below meth c A B hr hlk hA H locs ls hW hl
  have hx := B.1
  have hb := B.2.1
  have hl : lv_has ls 4 [(0, .ref (ad (0))), (1, .int (f))] := hl
  obtain ⟨b2, -⟩ := id hB
  refine lv_aload_n hx hb dX4_over_0 rfl (lv_at hl 0 rfl) ?_
  refine lv_iload_n hx hb dX4_over_1 rfl (lv_at hl 1 rfl) ?_
  refine call_vi B hA hW (0) (by omega) x0 (r := _) rfl rfl (k_isForm l G n ad w hn σ hX hs f) mf_X4_isForm hw_187 rfl ⟨⟨rfl, rfl⟩, by decide, by decide⟩ ⟨Nat.zero_le _, Nat.zero_le _⟩ hl.1 rfl (Nat.le_of_ble_eq_true rfl) dX4_over_2 (fun r w9 H locs hp hW => ?_)
  obtain ⟨e1, hp⟩ := hp
  rw [e1] at hW
  rcases hp with ⟨i, hi, rfl, rfl⟩ | ⟨hnf, rfl⟩
  · obtain ⟨w40_i, w2_i, k4_i, t40_i, r_i, s_i⟩ := hs.2.1 i hi
    obtain ⟨o_i, n_i⟩ := hX.form hs hi
    obtain ⟨f_i, e_i, v_i⟩ := id n_i
    refine n_if_ne (tgt := 15) hx hb (by omega) dX4_over_5 (by decide) (fun hz => ?_) (fun hz => ?_)
    · have hS : st_over σ (nI i) = cif (12 ≤ sW σ i ∧ sE σ i 0 = 0) (comeO σ (sW σ i - 12) (ovrS (sW σ i) (sE σ i))) (ref σ 7) := by
        unfold st_over
        rw [cif_t ⟨i, hi, rfl⟩, cN_nI (by omega)]
      rw [hS]
      refine lv_aload_n hx hb dX4_over_15 rfl (lv_at hl 0 rfl) ?_
      refine z_get B hW (0) (by omega) x0 rfl inX4 0 (by decide) hw_115 rfl (v := .ref (ad (1))) rfl dX4_over_16 ?_
      refine lv_iload_n hx hb dX4_over_19 rfl (lv_at hl 1 rfl) ?_
      refine z_aald B hW (1) (by omega) x1 (i) (by omega) (by decide) (q := ad (60 + 2 * (i))) (v1 _ (by omega)) dX4_over_20 ?_
      refine z_get B hW (60 + 2 * (i)) (by omega) o_i rfl inX1 1 (by decide) hw_103 rfl (v := .int (nI (sW σ i))) rfl dX4_over_21 ?_
      refine lv_bipush (v := nI 12) hx hb dX4_over_24 (by decide) ?_
      by_cases h12 : 12 ≤ sW σ i
      · refine n_isub hx hb (by omega) dX4_over_26 ?_
        refine lv_istore_n (lv' := [(2, .int (nI ((sW σ i) - 12))), (0, .ref (ad (0))), (1, .int (nI (i)))]) hx hb dX4_over_27 rfl hl (by decide) rfl (fun ls hl => ?_)
        refine lv_iload_n hx hb dX4_over_28 rfl (lv_at hl 0 rfl) ?_
        refine n_if_lt (tgt := 48) hx hb (by omega) dX4_over_29 (by decide) ?_
        refine lv_aload_n hx hb dX4_over_32 rfl (lv_at hl 1 rfl) ?_
        refine z_get B hW (0) (by omega) x0 rfl inX4 0 (by decide) hw_115 rfl (v := .ref (ad (1))) rfl dX4_over_33 ?_
        refine lv_iload_n hx hb dX4_over_36 rfl (lv_at hl 2 rfl) ?_
        refine z_aald B hW (1) (by omega) x1 (i) (by omega) (by decide) (q := ad (60 + 2 * (i))) (v1 _ (by omega)) dX4_over_37 ?_
        refine z_get B hW (60 + 2 * (i)) (by omega) o_i rfl inX1 0 (by decide) hw_101 rfl (v := .ref (ad (61 + 2 * (i)))) rfl dX4_over_38 ?_
        refine lv_iconst (v := nI 0) hx hb dX4_over_41 (by decide) ?_
        refine z_lald B hW (61 + 2 * (i)) (by omega) e_i (0) (by omega) (by decide) (v := (lN (sE σ i (0)))) (v_i _ (by omega)) dX4_over_42 ?_
        refine lv_lconst (v := lN 0) hx hb dX4_over_43 (by decide) ?_
        refine lc_eq (tgt := 55) hx hb dX4_over_44 dX4_over_45 (by decide) (fun hd => ?_) (fun hd => ?_)
        · have h0 : sE σ i 0 = 0 := (lN_inj (r_i 0) (by decide)).mp hd
          rw [cif_t ⟨h12, h0⟩]
          have hzd := zs_down (sW σ i) w40_i w2_i h12
          have hzl := zs_le (sW σ i) w40_i
          refine lv_aload_n hx hb dX4_over_55 rfl (lv_at hl 1 rfl) ?_
          refine lv_iload_n hx hb dX4_over_56 rfl (lv_at hl 0 rfl) ?_
          refine call_vi B hA hW (0) (by omega) x0 (r := _) rfl rfl (k_hasRoom l G n ad w hn σ hX hs (sW σ i - 12) (by omega)) mf_X4_hasRoom hw_159 rfl ⟨⟨rfl, rfl⟩, by decide, by decide⟩ ⟨Nat.zero_le _, Nat.zero_le _⟩ hl.1 rfl (Nat.le_of_ble_eq_true rfl) dX4_over_57 (fun r w9 H locs hp hW => ?_)
          obtain ⟨e1, hp⟩ := hp
          rw [e1] at hW
          rcases hp with ⟨hh, hk40, rfl⟩ | ⟨hnr, rfl⟩
          · obtain ⟨xa, ya, za, fa, g1, g2⟩ := hX.free hh
            refine n_if_ne (tgt := 70) hx hb (by omega) dX4_over_60 (by decide) (fun hz => ?_) (fun hz => ?_)
            · refine lv_aload_n hx hb dX4_over_70 rfl (lv_at hl 1 rfl) ?_
              refine z_get B hW (0) (by omega) x0 rfl inX4 2 (by decide) hw_117 rfl (v := .ref (ad (2))) rfl dX4_over_71 ?_
              refine lv_aload_n hx hb dX4_over_74 rfl (lv_at hl 1 rfl) ?_
              refine z_get B hW (0) (by omega) x0 rfl inX4 0 (by decide) hw_115 rfl (v := .ref (ad (1))) rfl dX4_over_75 ?_
              refine lv_iload_n hx hb dX4_over_78 rfl (lv_at hl 2 rfl) ?_
              refine z_aald B hW (1) (by omega) x1 (i) (by omega) (by decide) (q := ad (60 + 2 * (i))) (v1 _ (by omega)) dX4_over_79 ?_
              refine z_get B hW (60 + 2 * (i)) (by omega) o_i rfl inX1 1 (by decide) hw_103 rfl (v := .int (nI (sW σ i))) rfl dX4_over_80 ?_
              refine lv_aload_n hx hb dX4_over_83 rfl (lv_at hl 1 rfl) ?_
              refine z_get B hW (0) (by omega) x0 rfl inX4 0 (by decide) hw_115 rfl (v := .ref (ad (1))) rfl dX4_over_84 ?_
              refine lv_iload_n hx hb dX4_over_87 rfl (lv_at hl 2 rfl) ?_
              refine z_aald B hW (1) (by omega) x1 (i) (by omega) (by decide) (q := ad (60 + 2 * (i))) (v1 _ (by omega)) dX4_over_88 ?_
              refine z_get B hW (60 + 2 * (i)) (by omega) o_i rfl inX1 0 (by decide) hw_101 rfl (v := .ref (ad (61 + 2 * (i)))) rfl dX4_over_89 ?_
              refine lv_aload_n hx hb dX4_over_92 rfl (lv_at hl 1 rfl) ?_
              refine z_get B hW (0) (by omega) x0 rfl inX4 3 (by decide) hw_118 rfl (v := .ref (ad (55))) rfl dX4_over_93 ?_
              refine call_vv B hA hW (2) (by omega) b2 (r := _) rfl rfl (k_findParts l G n ad w (sW σ i) nf (61 + 2 * i) 55 48 (sE σ i) (by omega) w40_i w2_i hB (by omega) (by omega) (by omega) (by omega) (by omega) (by omega) (by decide) n_i (fun q _ => r_i q) f55 x55) mf_X0_findParts hw_223 rfl ⟨⟨rfl, rfl⟩, by decide, by decide⟩ ⟨Nat.zero_le _, Nat.zero_le _⟩ hl.1 rfl (Nat.le_of_ble_eq_true rfl) dX4_over_96 (fun w2 H locs hp hW => ?_)
              obtain ⟨nf2, hB2, fr2, p2, q2, v2, -⟩ := hp
              have hX2 : XOK G ad w2 σ := hX.parts hB2 fr2 ⟨_, q2⟩
              obtain ⟨b22, -⟩ := id hB2
              obtain ⟨f12, x12, v12⟩ := hX2.2.2.1
              refine lv_iconst (v := nI 1) hx hb dX4_over_99 (by decide) ?_
              refine lv_istore_n (lv' := [(3, .int (nI (1))), (2, .int (nI ((sW σ i) - 12))), (0, .ref (ad (0))), (1, .int (nI (i)))]) hx hb dX4_over_100 rfl hl (by decide) rfl (fun ls hl => ?_)
              refine z_up (Wg := fun H locs ls => W p l e (zr 5) s m args below meth c H locs 0 0 _ (F0 m 101 ls [])) (I := fun q H locs ls => ∃ (w3 : Nat → va_E) (g : Nat → Int64), Wo G A s.heap n ad w3 H locs ∧ lv_has ls 4 [(3, .int (nI q)), (2, .int (nI (sW σ i - 12))), (0, .ref (ad 0)), (1, .int (nI i))] ∧ (∀ j, j ≠ 55 → w3 j = w2 j) ∧ w3 55 = eL G 4 g ∧ (∀ j, j + 1 < q → g j = lN (prt (bas (sW σ i)) (sE σ i) (j + 1))) ∧ (∀ j, q ≤ j + 1 → g j = p2 j)) (a := 1) (b := zs (sW σ i)) (by omega) ?_ ?_ H locs ls ⟨w2, p2, hW, hl, fun _ _ => rfl, q2, fun j h => by omega, fun _ _ => rfl⟩
              · rintro q hq1 hq ih H locs ls ⟨w3, g, hW, hl, c1, c2, c3, c4⟩
                have hX3 : XOK G ad w3 σ := hX2.parts (hB2.keep (fun j q1 q2 => c1 j (by omega))) (fun j _ _ h => c1 j h) ⟨_, c2⟩
                have hB3 : BOK G ad w3 nf2 nf2 := hB2.keep (fun j q1 q2 => c1 j (by omega))
                obtain ⟨b23, -⟩ := id hB3
                obtain ⟨f13, x13, v13⟩ := hX3.2.2.1
                obtain ⟨o_i3, n_i3⟩ := hX3.form hs hi
                obtain ⟨xa3, ya3, za3, fa3, g13, g23⟩ := hX3.free hh
                refine lv_iload_n hx hb dX4_over_101 rfl (lv_at hl 0 rfl) ?_
                refine lv_aload_n hx hb dX4_over_102 rfl (lv_at hl 2 rfl) ?_
                refine z_get B hW (0) (by omega) hX3.2.1 rfl inX4 2 (by decide) hw_117 rfl (v := .ref (ad (2))) rfl dX4_over_103 ?_
                refine lv_aload_n hx hb dX4_over_106 rfl (lv_at hl 2 rfl) ?_
                refine z_get B hW (0) (by omega) hX3.2.1 rfl inX4 0 (by decide) hw_115 rfl (v := .ref (ad (1))) rfl dX4_over_107 ?_
                refine lv_iload_n hx hb dX4_over_110 rfl (lv_at hl 3 rfl) ?_
                refine z_aald B hW (1) (by omega) x13 (i) (by omega) (by decide) (q := ad (60 + 2 * (i))) (v13 _ (by omega)) dX4_over_111 ?_
                refine z_get B hW (60 + 2 * (i)) (by omega) o_i3 rfl inX1 1 (by decide) hw_103 rfl (v := .int (nI (sW σ i))) rfl dX4_over_112 ?_
                refine call_vi B hA hW (2) (by omega) b23 (r := _) rfl rfl (k_sizeOf l G n ad w3 (sW σ i) nf2 nf2 (by omega) w40_i hB3) mf_X0_sizeOf hw_245 rfl ⟨⟨rfl, rfl⟩, by decide, by decide⟩ ⟨Nat.zero_le _, Nat.zero_le _⟩ hl.1 rfl (Nat.le_of_ble_eq_true rfl) dX4_over_115 (fun r w9 H locs hp hW => ?_)
                obtain ⟨e1, e2⟩ := hp
                rw [e1] at hW
                subst e2
                refine n_icmp_ge (tgt := 141) hx hb (by omega) (by omega) dX4_over_118 (by decide) (fun hc => ?_) (fun hc => ?_)
                · omega
                · refine lv_aload_n hx hb dX4_over_121 rfl (lv_at hl 2 rfl) ?_
                  refine z_get B hW (0) (by omega) hX3.2.1 rfl inX4 3 (by decide) hw_118 rfl (v := .ref (ad (55))) rfl dX4_over_122 ?_
                  refine lv_iload_n hx hb dX4_over_125 rfl (lv_at hl 0 rfl) ?_
                  refine lv_iconst (v := nI 1) hx hb dX4_over_126 (by decide) ?_
                  refine n_isub hx hb (by omega) dX4_over_127 ?_
                  refine lv_aload_n hx hb dX4_over_128 rfl (lv_at hl 2 rfl) ?_
                  refine z_get B hW (0) (by omega) hX3.2.1 rfl inX4 3 (by decide) hw_118 rfl (v := .ref (ad (55))) rfl dX4_over_129 ?_
                  refine lv_iload_n hx hb dX4_over_132 rfl (lv_at hl 0 rfl) ?_
                  refine z_lald B hW (55) (by omega) c2 (q) (by omega) (by decide) (v := (lN (prt (bas (sW σ i)) (sE σ i) q))) (by rw [c4 _ (by omega)]; exact v2 _ hq) dX4_over_133 ?_
                  refine z_last B hW (55) (by omega) c2 (q - 1) (by omega) (by decide) dX4_over_134 (fun H locs hW => ?_)
                  refine lv_iinc (v := (nI (q + 1))) (lv' := [(3, .int (nI (q + 1))), (2, .int (nI (sW σ i - 12))), (0, .ref (ad (0))), (1, .int (nI (i)))]) hx hb dX4_over_135 hl (k := 0) rfl (iinc1 _) (by decide) rfl (fun ls hl => ?_)
                  refine lv_goto (tgt := 101) hx hb dX4_over_138 (by decide) ?_
                  refine ih H locs ls ⟨_, _, hW, lv_sub hl [0, 1, 2, 3] rfl, fun j hj => by rw [up_n hj]; exact c1 j hj, up_s, fun j hj => ?_, fun j hj => ?_⟩
                  · by_cases z : j = q - 1
                    · rw [z, pk_uLs, show q - 1 + 1 = q by omega]
                    · rw [pk_uLn z]; exact c3 j (by omega)
                  · rw [pk_uLn (by omega)]; exact c4 j (by omega)
              · rintro H locs ls ⟨w3, g, hW, hl, c1, c2, c3, c4⟩
                have hX3 : XOK G ad w3 σ := hX2.parts (hB2.keep (fun j q1 q2 => c1 j (by omega))) (fun j _ _ h => c1 j h) ⟨_, c2⟩
                have hB3 : BOK G ad w3 nf2 nf2 := hB2.keep (fun j q1 q2 => c1 j (by omega))
                obtain ⟨b23, -⟩ := id hB3
                obtain ⟨f13, x13, v13⟩ := hX3.2.2.1
                obtain ⟨o_i3, n_i3⟩ := hX3.form hs hi
                obtain ⟨xa3, ya3, za3, fa3, g13, g23⟩ := hX3.free hh
                refine lv_iload_n hx hb dX4_over_101 rfl (lv_at hl 0 rfl) ?_
                refine lv_aload_n hx hb dX4_over_102 rfl (lv_at hl 2 rfl) ?_
                refine z_get B hW (0) (by omega) hX3.2.1 rfl inX4 2 (by decide) hw_117 rfl (v := .ref (ad (2))) rfl dX4_over_103 ?_
                refine lv_aload_n hx hb dX4_over_106 rfl (lv_at hl 2 rfl) ?_
                refine z_get B hW (0) (by omega) hX3.2.1 rfl inX4 0 (by decide) hw_115 rfl (v := .ref (ad (1))) rfl dX4_over_107 ?_
                refine lv_iload_n hx hb dX4_over_110 rfl (lv_at hl 3 rfl) ?_
                refine z_aald B hW (1) (by omega) x13 (i) (by omega) (by decide) (q := ad (60 + 2 * (i))) (v13 _ (by omega)) dX4_over_111 ?_
                refine z_get B hW (60 + 2 * (i)) (by omega) o_i3 rfl inX1 1 (by decide) hw_103 rfl (v := .int (nI (sW σ i))) rfl dX4_over_112 ?_
                refine call_vi B hA hW (2) (by omega) b23 (r := _) rfl rfl (k_sizeOf l G n ad w3 (sW σ i) nf2 nf2 (by omega) w40_i hB3) mf_X0_sizeOf hw_245 rfl ⟨⟨rfl, rfl⟩, by decide, by decide⟩ ⟨Nat.zero_le _, Nat.zero_le _⟩ hl.1 rfl (Nat.le_of_ble_eq_true rfl) dX4_over_115 (fun r w9 H locs hp hW => ?_)
                obtain ⟨e1, e2⟩ := hp
                rw [e1] at hW
                subst e2
                refine n_icmp_ge (tgt := 141) hx hb (by omega) (by omega) dX4_over_118 (by decide) (fun hc => ?_) (fun hc => ?_)
                · refine lv_aload_n hx hb dX4_over_141 rfl (lv_at hl 2 rfl) ?_
                  refine z_get B hW (0) (by omega) hX3.2.1 rfl inX4 2 (by decide) hw_117 rfl (v := .ref (ad (2))) rfl dX4_over_142 ?_
                  refine lv_iload_n hx hb dX4_over_145 rfl (lv_at hl 1 rfl) ?_
                  refine lv_aload_n hx hb dX4_over_146 rfl (lv_at hl 2 rfl) ?_
                  refine z_get B hW (0) (by omega) hX3.2.1 rfl inX4 3 (by decide) hw_118 rfl (v := .ref (ad (55))) rfl dX4_over_147 ?_
                  refine lv_aload_n hx hb dX4_over_150 rfl (lv_at hl 2 rfl) ?_
                  refine z_get B hW (0) (by omega) hX3.2.1 rfl inX4 0 (by decide) hw_115 rfl (v := .ref (ad (1))) rfl dX4_over_151 ?_
                  refine lv_aload_n hx hb dX4_over_154 rfl (lv_at hl 2 rfl) ?_
                  refine z_get B hW (0) (by omega) hX3.2.1 rfl inX4 1 (by decide) hw_116 rfl (v := .int (nI (sH σ))) rfl dX4_over_155 ?_
                  refine z_aald B hW (1) (by omega) x13 (sH σ) (by omega) (by decide) (q := ad (60 + 2 * (sH σ))) (v13 _ (by omega)) dX4_over_158 ?_
                  refine z_get B hW (60 + 2 * (sH σ)) (by omega) g13 rfl inX1 0 (by decide) hw_101 rfl (v := .ref (ad (61 + 2 * (sH σ)))) rfl dX4_over_159 ?_
                  refine call_vv B hA hW (2) (by omega) b23 (r := _) rfl rfl (k_join l G n ad w3 (sW σ i - 12) nf2 55 (61 + 2 * sH σ) (fun j => prt (bas (sW σ i)) (sE σ i) (j + 1)) (by omega) (by omega) (by omega) hB3 (by omega) (by omega) (by omega) (by omega) (by omega) (fun j _ => prt_lt (r_i _)) g c2 (fun j hj => c3 j (by omega)) ⟨_, g23⟩) mf_X0_join hw_246 rfl ⟨⟨rfl, rfl⟩, by decide, by decide⟩ ⟨Nat.zero_le _, Nat.zero_le _⟩ hl.1 rfl (Nat.le_of_ble_eq_true rfl) dX4_over_162 (fun w4 H locs hp hW => ?_)
                  obtain ⟨nf4, hB4, fr4, hL4⟩ := hp
                  have hX2 : XOK G ad w4 σ := hX3.join1 hB4 fr4 ⟨_, hL4.choose_spec.1⟩
                  refine lv_aload_n hx hb dX4_over_165 rfl (lv_at hl 2 rfl) ?_
                  refine lv_iload_n hx hb dX4_over_166 rfl (lv_at hl 1 rfl) ?_
                  refine call_vi B hA hW (0) (by omega) hX2.2.1 (r := _) rfl rfl (k_comeOfOthers l G n ad w4 hn σ hX2 hs hh (sW σ i - 12) hk40 (ovrS (sW σ i) (sE σ i)) hL4 (bld_lt _ _ _ _)) mf_X4_comeOfOthers hw_192 rfl ⟨⟨rfl, rfl⟩, by decide, by decide⟩ ⟨Nat.zero_le _, Nat.zero_le _⟩ hl.1 rfl (Nat.le_of_ble_eq_true rfl) dX4_over_167 (fun r w9 H locs hp9 hW => ?_)
                  exact ret_i B hr hlk hW ⟨hp9.1, hp9.2.1, fun j hj => (hp9.2.2 j hj).trans (((fr4 j (by omega) (by omega) (by omega)).trans (c1 j (by omega))).trans (fr2 j (by omega) (by omega) (by omega)))⟩ dX4_over_170
                · omega
            · exact absurd hz (by decide)
          · refine n_if_ne (tgt := 70) hx hb (by omega) dX4_over_60 (by decide) (fun hz => ?_) (fun hz => ?_)
            · exact absurd rfl hz
            · refine lv_aload_n hx hb dX4_over_63 rfl (lv_at hl 1 rfl) ?_
              refine lv_bipush (v := -8) hx hb dX4_over_64 (by decide) ?_
              refine call_vi B hA hW (0) (by omega) x0 (r := _) rfl rfl (k_refuse l G n ad w hn σ hX (-8) 8 (by decide) (by decide) (by decide) (by decide) (by decide)) mf_X4_refuse hw_152 rfl ⟨⟨rfl, rfl⟩, by decide, by decide⟩ ⟨Nat.zero_le _, Nat.zero_le _⟩ hl.1 rfl (Nat.le_of_ble_eq_true rfl) dX4_over_66 (fun r w9 H locs hp hW => ?_)
              exact ret_i B hr hlk hW (by rw [comeO_full hnr]; exact hp) dX4_over_69
        · refine lv_aload_n hx hb dX4_over_48 rfl (lv_at hl 1 rfl) ?_
          refine lv_bipush (v := -7) hx hb dX4_over_49 (by decide) ?_
          refine call_vi B hA hW (0) (by omega) x0 (r := _) rfl rfl (k_refuse l G n ad w hn σ hX (-7) 7 (by decide) (by decide) (by decide) (by decide) (by decide)) mf_X4_refuse hw_152 rfl ⟨⟨rfl, rfl⟩, by decide, by decide⟩ ⟨Nat.zero_le _, Nat.zero_le _⟩ hl.1 rfl (Nat.le_of_ble_eq_true rfl) dX4_over_51 (fun r w9 H locs hp hW => ?_)
          exact ret_i B hr hlk hW (by rw [cif_f (fun q => hd (by rw [q.2]))]; exact hp) dX4_over_54
      · refine lv_isub hx hb dX4_over_26 ?_
        refine lv_istore_n (lv' := [(2, .int ((nI (sW σ i)) - (nI (12)))), (0, .ref (ad (0))), (1, .int (nI (i)))]) hx hb dX4_over_27 rfl hl (by decide) rfl (fun ls hl => ?_)
        refine lv_iload_n hx hb dX4_over_28 rfl (lv_at hl 0 rfl) ?_
        refine lv_if_lt (tgt := 48) hx hb dX4_over_29 (by decide) (fun hc => ?_) (fun hc => ?_)
        · refine lv_aload_n hx hb dX4_over_48 rfl (lv_at hl 1 rfl) ?_
          refine lv_bipush (v := -7) hx hb dX4_over_49 (by decide) ?_
          refine call_vi B hA hW (0) (by omega) x0 (r := _) rfl rfl (k_refuse l G n ad w hn σ hX (-7) 7 (by decide) (by decide) (by decide) (by decide) (by decide)) mf_X4_refuse hw_152 rfl ⟨⟨rfl, rfl⟩, by decide, by decide⟩ ⟨Nat.zero_le _, Nat.zero_le _⟩ hl.1 rfl (Nat.le_of_ble_eq_true rfl) dX4_over_51 (fun r w9 H locs hp hW => ?_)
          exact ret_i B hr hlk hW (by rw [cif_f (fun q => h12 q.1)]; exact hp) dX4_over_54
        · exact absurd (pk_sneg (by decide) (by omega)) hc
    · exact absurd hz (by decide)
  · refine n_if_ne (tgt := 15) hx hb (by omega) dX4_over_5 (by decide) (fun hz => ?_) (fun hz => ?_)
    · exact absurd rfl hz
    · refine lv_aload_n hx hb dX4_over_8 rfl (lv_at hl 0 rfl) ?_
      refine lv_bipush (v := -3) hx hb dX4_over_9 (by decide) ?_
      refine call_vi B hA hW (0) (by omega) x0 (r := _) rfl rfl (k_refuse l G n ad w hn σ hX (-3) 3 (by decide) (by decide) (by decide) (by decide) (by decide)) mf_X4_refuse hw_152 rfl ⟨⟨rfl, rfl⟩, by decide, by decide⟩ ⟨Nat.zero_le _, Nat.zero_le _⟩ hl.1 rfl (Nat.le_of_ble_eq_true rfl) dX4_over_11 (fun r w9 H locs hp hW => ?_)
      exact ret_i B hr hlk hW (by rw [show st_over σ f = ref σ 3 by unfold st_over; rw [cif_f hnf]]; exact hp) dX4_over_14
