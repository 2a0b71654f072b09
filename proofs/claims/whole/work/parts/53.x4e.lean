set_option maxHeartbeats 4000000 in
set_option maxRecDepth 100000 in
theorem k_sumsIndex (l : Launch) (G : zG) (n : Nat) (ad : Nat → Nat) (w : Nat → va_E) (τ : Nat × Nat × Nat) (x : Int32) :
    CiT l G yX4_sumsIndex cdX4_sumsIndex (zr 0) n ad w τ [.int x] (fun r w' => w' = w ∧ ((∃ j, j < 6 ∧ x = nI (wtN j) ∧ r = nI j) ∨ ((∀ j, j < 6 → x ≠ nI (wtN j)) ∧ r = -1))) := by
  refine ent_iT (cc := cX4_sumsIndex) (maxL := 2) (ret := (some .int)) (by decide +kernel) rfl (Nat.le_of_ble_eq_true rfl) ?_
  intro p e s m args below meth c A B hr hlk hA hT H locs ls hW hl
  have hx := B.1
  have hb := B.2.1
  have hl : lv_has ls 2 [(0, .int (x))] := hl
  refine lv_iconst (v := nI 0) hx hb dX4_sumsIndex_0 (by decide) ?_
  refine lv_istore_n (lv' := [(1, .int (nI (0))), (0, .int (x))]) hx hb dX4_sumsIndex_1 rfl hl (by decide) rfl (fun ls hl => ?_)
  refine z_up1 (Wg := fun ls => W p l e (zr 0) s m args below meth c H locs 0 0 _ (F0 m 2 ls [])) (I := fun k ls => lv_has ls 2 [(1, .int (nI k)), (0, .int x)] ∧ ∀ i, i < k → x ≠ nI (wtN i)) (a := 0) (b := 6) (by omega) ?_ ?_ ls ⟨hl, fun i h => by omega⟩
  · rintro k - hk ih ls ⟨hl, h1⟩
    refine lv_iload_n hx hb dX4_sumsIndex_2 rfl (lv_at hl 0 rfl) ?_
    refine va_gets hx hb hT.1.1 hW.2.2 B.2.2.2.1 (B.2.2.2.2.1 _ hw_150) (fun x h => h) dX4_sumsIndex_3 ?_
    refine va_tlen hx hb hT.1.2 hW.2.2 (v := nI 6) rfl dX4_sumsIndex_6 ?_
    refine n_icmp_ge (tgt := 27) hx hb (by omega) (by omega) dX4_sumsIndex_7 (by decide) (fun hc => ?_) (fun hc => ?_)
    · omega
    · refine va_gets hx hb hT.1.1 hW.2.2 B.2.2.2.1 (B.2.2.2.2.1 _ hw_150) (fun x h => h) dX4_sumsIndex_10 ?_
      refine lv_iload_n hx hb dX4_sumsIndex_13 rfl (lv_at hl 0 rfl) ?_
      refine va_ti hx hb hT.1.2 hW.2.2 (vp_in_nI (n := k) (by omega) (by decide)) (v := .int (nI (wtN k))) (by show Value.int _ = _; rw [nI_clamp (by omega)]) dX4_sumsIndex_14 ?_
      refine lv_iload_n hx hb dX4_sumsIndex_15 rfl (lv_at hl 1 rfl) ?_
      refine lv_icmp_ne (tgt := 21) hx hb dX4_sumsIndex_16 (by decide) (fun hd => ?_) (fun hd => ?_)
      · refine lv_iinc (v := (nI (k + 1))) (lv' := [(1, .int (nI (k + 1))), (0, .int (x))]) hx hb dX4_sumsIndex_21 hl (k := 0) rfl (iinc1 _) (by decide) rfl (fun ls hl => ?_)
        refine lv_goto (tgt := 2) hx hb dX4_sumsIndex_24 (by decide) ?_
        exact ih ls ⟨hl, fun i hi => by
          by_cases q : i = k
          · rw [q]; exact fun z => hd z.symm
          · exact h1 i (by omega)⟩
      · refine lv_iload_n hx hb dX4_sumsIndex_19 rfl (lv_at hl 0 rfl) ?_
        exact ret_i B hr hlk hW ⟨rfl, Or.inl ⟨k, hk, hd.symm, rfl⟩⟩ dX4_sumsIndex_20
  · rintro ls ⟨hl, h1⟩
    refine lv_iload_n hx hb dX4_sumsIndex_2 rfl (lv_at hl 0 rfl) ?_
    refine va_gets hx hb hT.1.1 hW.2.2 B.2.2.2.1 (B.2.2.2.2.1 _ hw_150) (fun x h => h) dX4_sumsIndex_3 ?_
    refine va_tlen hx hb hT.1.2 hW.2.2 (v := nI 6) rfl dX4_sumsIndex_6 ?_
    refine n_icmp_ge (tgt := 27) hx hb (by omega) (by omega) dX4_sumsIndex_7 (by decide) (fun hc => ?_) (fun hc => ?_)
    · refine lv_iconst (v := -1) hx hb dX4_sumsIndex_27 (by decide) ?_
      exact ret_i B hr hlk hW ⟨rfl, Or.inr ⟨h1, rfl⟩⟩ dX4_sumsIndex_28
    · omega
set_option maxHeartbeats 4000000 in
set_option maxRecDepth 100000 in
theorem k_X4_sums (l : Launch) (G : zG) (n : Nat) (ad : Nat → Nat) (w : Nat → va_E) (hn : 92 ≤ n) (σ : zS) (hX : XOK G ad w σ) (hs : SOK σ) (τ : Nat × Nat × Nat) (x : Int32) :
    CiT l G yX4_sums cdX4_sums (zr 5) n ad w τ [.ref (ad 0), .int x] (postX G ad w (st_sums σ x)) := by
  obtain ⟨⟨nf, hB⟩, x0, ⟨f1, x1, v1⟩, ⟨f55, x55⟩, ⟨f56, x56⟩, ⟨f57, x57⟩, ⟨f58, x58, v58⟩, ⟨f59, x59, v59⟩, xf⟩ := id hX
  have hsh := hs.1
  refine ent_iT (cc := cX4_sums) (maxL := 5) (ret := (some .int)) (by decide +kernel) rfl (Nat.le_of_ble_eq_true rfl) ?_
  intro p e s m args below meth c A B hr hlk hA hT H locs ls hW hl
  have hx := B.1
  have hb := B.2.1
  have hl : lv_has ls 5 [(0, .ref (ad (0))), (1, .int (x))] := hl
  obtain ⟨b2, -⟩ := id hB
  refine lv_iload_n hx hb dX4_sums_0 rfl (lv_at hl 1 rfl) ?_
  refine call_siT B hA hT hW (k_sumsIndex l G n ad w τ x) mf_X4_sumsIndex hw_147 rfl ⟨⟨rfl, rfl⟩, by decide, by decide⟩ ⟨Nat.zero_le _, Nat.zero_le _⟩ hl.1 rfl (Nat.le_of_ble_eq_true rfl) dX4_sums_1 (fun r w9 H locs hp hW => ?_)
  obtain ⟨e1, hp⟩ := hp
  rw [e1] at hW
  rcases hp with ⟨j, hj, rfl, rfl⟩ | ⟨hno, rfl⟩
  · obtain ⟨wa, wb, wc⟩ := wt_rng j hj
    obtain ⟨fa1, fa2, da1, da2⟩ := fc_rng j hj
    have hsm := smc_pos _ wc
    have hS : st_sums σ (nI (wtN j)) = come σ (wtN j) 1 (wtN j) (sumsS (smc (wtN j)) (wtN j - 1)) := by
      unfold st_sums
      rw [cif_t ⟨wtN j, wc, rfl⟩, cN_nI (by omega)]
    rw [hS]
    refine lv_istore_n (lv' := [(2, .int (nI (j))), (0, .ref (ad (0))), (1, .int (nI (wtN j)))]) hx hb dX4_sums_4 rfl hl (by decide) rfl (fun ls hl => ?_)
    refine lv_iload_n hx hb dX4_sums_5 rfl (lv_at hl 0 rfl) ?_
    refine lv_iconst (v := -1) hx hb dX4_sums_6 (by decide) ?_
    refine lv_icmp_ne (tgt := 17) hx hb dX4_sums_7 (by decide) (fun hc => ?_) (fun hc => ?_)
    · refine lv_aload_n hx hb dX4_sums_17 rfl (lv_at hl 1 rfl) ?_
      refine lv_iload_n hx hb dX4_sums_18 rfl (lv_at hl 2 rfl) ?_
      refine call_vi B hA hW (0) (by omega) x0 (r := _) rfl rfl (k_hasRoom l G n ad w hn σ hX hs (wtN j) (by omega)) mf_X4_hasRoom hw_159 rfl ⟨⟨rfl, rfl⟩, by decide, by decide⟩ ⟨Nat.zero_le _, Nat.zero_le _⟩ hl.1 rfl (Nat.le_of_ble_eq_true rfl) dX4_sums_19 (fun r w9 H locs hp hW => ?_)
      obtain ⟨e1, hp⟩ := hp
      rw [e1] at hW
      rcases hp with ⟨hh, hk40, rfl⟩ | ⟨hnr, rfl⟩
      · obtain ⟨xa, ya, za, fa, g1, g2⟩ := hX.free hh
        refine n_if_ne (tgt := 32) hx hb (by omega) dX4_sums_22 (by decide) (fun hz => ?_) (fun hz => ?_)
        · rw [come_ok hh hk40]
          refine va_gets hx hb hT.2.1.1 hW.2.2 B.2.2.2.1 (B.2.2.2.2.1 _ hw_163) (fun x h => h) dX4_sums_32 ?_
          refine lv_iload_n hx hb dX4_sums_35 rfl (lv_at hl 0 rfl) ?_
          refine va_ti hx hb hT.2.1.2 hW.2.2 (vp_in_nI (n := j) (by omega) (by decide)) (v := .int (iZ (fcZ j))) (by show Value.int _ = _; rw [nI_clamp (by omega)]) dX4_sums_36 ?_
          refine z_i2l hx hb (by omega) (by omega) dX4_sums_37 ?_
          refine va_gets hx hb hT.2.2.1 hW.2.2 B.2.2.2.1 (B.2.2.2.2.1 _ hw_165) (fun x h => h) dX4_sums_38 ?_
          refine lv_iload_n hx hb dX4_sums_41 rfl (lv_at hl 0 rfl) ?_
          refine va_ti hx hb hT.2.2.2 hW.2.2 (vp_in_nI (n := j) (by omega) (by decide)) (v := .int (iZ (dvZ j))) (by show Value.int _ = _; rw [nI_clamp (by omega)]) dX4_sums_42 ?_
          refine z_i2l hx hb (by omega) (by omega) dX4_sums_43 ?_
          refine call_sl B hA hW (k_quotient l G n ad w (fcZ j) (dvZ j) (by omega) (by omega) (by omega) (by omega)) mf_X2_quotient hw_167 rfl ⟨⟨rfl, rfl⟩, by decide, by decide⟩ ⟨Nat.zero_le _, Nat.zero_le _⟩ hl.1 rfl (Nat.le_of_ble_eq_true rfl) dX4_sums_44 (fun r w9 H locs hp hW => ?_)
          obtain ⟨e2, e3⟩ := hp
          rw [e2] at hW
          rw [smc_tab j hj] at e3
          subst e3
          refine lv_lstore_n (lv' := [(3, .long (lN (smc (wtN j)))), (2, .int (nI (j))), (0, .ref (ad (0))), (1, .int (nI (wtN j)))]) hx hb dX4_sums_47 rfl hl (by decide) rfl (fun ls hl => ?_)
          refine lv_lload_n hx hb dX4_sums_48 rfl (lv_at hl 0 rfl) ?_
          refine lv_iload_n hx hb dX4_sums_49 rfl (lv_at hl 3 rfl) ?_
          refine lv_iconst (v := nI 1) hx hb dX4_sums_50 (by decide) ?_
          refine n_isub hx hb (by omega) dX4_sums_51 ?_
          refine lv_aload_n hx hb dX4_sums_52 rfl (lv_at hl 2 rfl) ?_
          refine z_get B hW (0) (by omega) x0 rfl inX4 0 (by decide) hw_115 rfl (v := .ref (ad (1))) rfl dX4_sums_53 ?_
          refine lv_aload_n hx hb dX4_sums_56 rfl (lv_at hl 2 rfl) ?_
          refine z_get B hW (0) (by omega) x0 rfl inX4 1 (by decide) hw_116 rfl (v := .int (nI (sH σ))) rfl dX4_sums_57 ?_
          refine z_aald B hW (1) (by omega) x1 (sH σ) (by omega) (by decide) (q := ad (60 + 2 * (sH σ))) (v1 _ (by omega)) dX4_sums_60 ?_
          refine z_get B hW (60 + 2 * (sH σ)) (by omega) g1 rfl inX1 0 (by decide) hw_101 rfl (v := .ref (ad (61 + 2 * (sH σ)))) rfl dX4_sums_61 ?_
          refine call_sv B hA hW (k_putSums l G n ad w (61 + 2 * sH σ) (smc (wtN j)) (wtN j - 1) (by omega) hsm.2 (by omega) ⟨_, g2⟩) mf_X3_putSums hw_173 rfl ⟨⟨rfl, rfl⟩, by decide, by decide⟩ ⟨Nat.zero_le _, Nat.zero_le _⟩ hl.1 rfl (Nat.le_of_ble_eq_true rfl) dX4_sums_64 (fun w2 H locs hp hW => ?_)
          have hX2 : XOK G ad w2 σ := hX.num ⟨_, hp.2.choose_spec.1⟩ hp.1
          refine lv_aload_n hx hb dX4_sums_67 rfl (lv_at hl 2 rfl) ?_
          refine lv_iconst (v := nI 1) hx hb dX4_sums_68 (by decide) ?_
          refine lv_iload_n hx hb dX4_sums_69 rfl (lv_at hl 3 rfl) ?_
          refine lv_iload_n hx hb dX4_sums_70 rfl (lv_at hl 3 rfl) ?_
          refine call_vi B hA hW (0) (by omega) hX2.2.1 (r := _) rfl rfl (k_comeAsTold l G n ad w2 hn σ hX2 hs hh 1 (wtN j) (wtN j) (sumsS (smc (wtN j)) (wtN j - 1)) hp.2) mf_X4_comeAsTold hw_174 rfl ⟨⟨rfl, rfl⟩, by decide, by decide⟩ ⟨Nat.zero_le _, Nat.zero_le _⟩ hl.1 rfl (Nat.le_of_ble_eq_true rfl) dX4_sums_71 (fun r w9 H locs hp9 hW => ?_)
          exact ret_i B hr hlk hW ⟨hp9.1, hp9.2.1, fun j hj => (hp9.2.2 j hj).trans (hp.1 j (by omega))⟩ dX4_sums_74
        · exact absurd hz (by decide)
      · refine n_if_ne (tgt := 32) hx hb (by omega) dX4_sums_22 (by decide) (fun hz => ?_) (fun hz => ?_)
        · exact absurd rfl hz
        · refine lv_aload_n hx hb dX4_sums_25 rfl (lv_at hl 1 rfl) ?_
          refine lv_bipush (v := -8) hx hb dX4_sums_26 (by decide) ?_
          refine call_vi B hA hW (0) (by omega) x0 (r := _) rfl rfl (k_refuse l G n ad w hn σ hX (-8) 8 (by decide) (by decide) (by decide) (by decide) (by decide)) mf_X4_refuse hw_152 rfl ⟨⟨rfl, rfl⟩, by decide, by decide⟩ ⟨Nat.zero_le _, Nat.zero_le _⟩ hl.1 rfl (Nat.le_of_ble_eq_true rfl) dX4_sums_28 (fun r w9 H locs hp hW => ?_)
          exact ret_i B hr hlk hW (by rw [come_full hnr]; exact hp) dX4_sums_31
    · exact absurd hc (nI_m1 (by omega))
  · refine lv_istore_n (lv' := [(2, .int (-1)), (0, .ref (ad (0))), (1, .int (x))]) hx hb dX4_sums_4 rfl hl (by decide) rfl (fun ls hl => ?_)
    refine lv_iload_n hx hb dX4_sums_5 rfl (lv_at hl 0 rfl) ?_
    refine lv_iconst (v := -1) hx hb dX4_sums_6 (by decide) ?_
    refine lv_icmp_ne (tgt := 17) hx hb dX4_sums_7 (by decide) (fun hc => ?_) (fun hc => ?_)
    · exact absurd rfl hc
    · refine lv_aload_n hx hb dX4_sums_10 rfl (lv_at hl 1 rfl) ?_
      refine lv_bipush (v := -7) hx hb dX4_sums_11 (by decide) ?_
      refine call_vi B hA hW (0) (by omega) x0 (r := _) rfl rfl (k_refuse l G n ad w hn σ hX (-7) 7 (by decide) (by decide) (by decide) (by decide) (by decide)) mf_X4_refuse hw_152 rfl ⟨⟨rfl, rfl⟩, by decide, by decide⟩ ⟨Nat.zero_le _, Nat.zero_le _⟩ hl.1 rfl (Nat.le_of_ble_eq_true rfl) dX4_sums_13 (fun r w9 H locs hp hW => ?_)
      exact ret_i B hr hlk hW (by rw [show st_sums σ x = ref σ 7 by unfold st_sums; rw [cif_f (fun ⟨k, q1, q2⟩ => by obtain ⟨i, hi, e9⟩ := wt_all k q1; exact hno i hi (by rw [e9]; exact q2))]]; exact hp) dX4_sums_16
