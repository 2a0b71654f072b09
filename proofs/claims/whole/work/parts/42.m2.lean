set_option maxHeartbeats 4000000 in
set_option maxRecDepth 100000 in
theorem k_X5_isPrime (l : Launch) (G : zG) (n : Nat) (ad : Nat → Nat) (w : Nat → va_E) (x : Int32) :
    Ci l G yX5_isPrime cdX5_isPrime (zr 0) n ad w [.int x] (fun r w' => w' = w ∧ ((∃ p, (p = 2 ∨ p = 3 ∨ p = 5 ∨ p = 7 ∨ p = 11) ∧ x = nI p ∧ r = nI 1) ∨ ((¬ ∃ p, (p = 2 ∨ p = 3 ∨ p = 5 ∨ p = 7 ∨ p = 11) ∧ x = nI p) ∧ r = nI 0))) := by
  refine ent_i (cc := cX5_isPrime) (maxL := 1) (ret := (some .boolean)) (by decide +kernel) rfl (Nat.le_of_ble_eq_true rfl) ?_
  intro p e s m args below meth c A B hr hlk hA H locs ls hW hl
  have hx := B.1
  have hb := B.2.1
  have hl : lv_has ls 1 [(0, .int (x))] := hl
  refine lv_iload_n hx hb dX5_isPrime_0 rfl (lv_at hl 0 rfl) ?_
  refine lv_iconst (v := nI 2) hx hb dX5_isPrime_1 (by decide) ?_
  refine lv_icmp_eq (tgt := 27) hx hb dX5_isPrime_2 (by decide) (fun c0 => ?_) (fun c0 => ?_)
  · refine lv_iconst (v := nI 1) hx hb dX5_isPrime_27 (by decide) ?_
    refine lv_goto (tgt := 32) hx hb dX5_isPrime_28 (by decide) ?_
    exact ret_z B hr hlk hW rfl ⟨rfl, Or.inl ⟨2, by decide, c0, rfl⟩⟩ dX5_isPrime_32
  · refine lv_iload_n hx hb dX5_isPrime_5 rfl (lv_at hl 0 rfl) ?_
    refine lv_iconst (v := nI 3) hx hb dX5_isPrime_6 (by decide) ?_
    refine lv_icmp_eq (tgt := 27) hx hb dX5_isPrime_7 (by decide) (fun c1 => ?_) (fun c1 => ?_)
    · refine lv_iconst (v := nI 1) hx hb dX5_isPrime_27 (by decide) ?_
      refine lv_goto (tgt := 32) hx hb dX5_isPrime_28 (by decide) ?_
      exact ret_z B hr hlk hW rfl ⟨rfl, Or.inl ⟨3, by decide, c1, rfl⟩⟩ dX5_isPrime_32
    · refine lv_iload_n hx hb dX5_isPrime_10 rfl (lv_at hl 0 rfl) ?_
      refine lv_iconst (v := nI 5) hx hb dX5_isPrime_11 (by decide) ?_
      refine lv_icmp_eq (tgt := 27) hx hb dX5_isPrime_12 (by decide) (fun c2 => ?_) (fun c2 => ?_)
      · refine lv_iconst (v := nI 1) hx hb dX5_isPrime_27 (by decide) ?_
        refine lv_goto (tgt := 32) hx hb dX5_isPrime_28 (by decide) ?_
        exact ret_z B hr hlk hW rfl ⟨rfl, Or.inl ⟨5, by decide, c2, rfl⟩⟩ dX5_isPrime_32
      · refine lv_iload_n hx hb dX5_isPrime_15 rfl (lv_at hl 0 rfl) ?_
        refine lv_bipush (v := nI 7) hx hb dX5_isPrime_16 (by decide) ?_
        refine lv_icmp_eq (tgt := 27) hx hb dX5_isPrime_18 (by decide) (fun c3 => ?_) (fun c3 => ?_)
        · refine lv_iconst (v := nI 1) hx hb dX5_isPrime_27 (by decide) ?_
          refine lv_goto (tgt := 32) hx hb dX5_isPrime_28 (by decide) ?_
          exact ret_z B hr hlk hW rfl ⟨rfl, Or.inl ⟨7, by decide, c3, rfl⟩⟩ dX5_isPrime_32
        · refine lv_iload_n hx hb dX5_isPrime_21 rfl (lv_at hl 0 rfl) ?_
          refine lv_bipush (v := nI 11) hx hb dX5_isPrime_22 (by decide) ?_
          refine lv_icmp_ne (tgt := 31) hx hb dX5_isPrime_24 (by decide) (fun c4 => ?_) (fun c4 => ?_)
          · refine lv_iconst (v := nI 0) hx hb dX5_isPrime_31 (by decide) ?_
            exact ret_z B hr hlk hW rfl ⟨rfl, Or.inr ⟨fun ⟨p, q, q2⟩ => by rcases q with rfl | rfl | rfl | rfl | rfl <;> first | exact c0 q2 | exact c1 q2 | exact c2 q2 | exact c3 q2 | exact c4 q2, rfl⟩⟩ dX5_isPrime_32
          · refine lv_iconst (v := nI 1) hx hb dX5_isPrime_27 (by decide) ?_
            refine lv_goto (tgt := 32) hx hb dX5_isPrime_28 (by decide) ?_
            exact ret_z B hr hlk hW rfl ⟨rfl, Or.inl ⟨11, by decide, c4, rfl⟩⟩ dX5_isPrime_32
set_option maxHeartbeats 4000000 in
set_option maxRecDepth 100000 in
theorem k_M_fillBasis (l : Launch) (G : zG) (n : Nat) (ad : Nat → Nat) (w : Nat → va_E) (h9 r9 : Int32) (e92 : w 92 = mO ad h9 r9) (hn : 111 ≤ n) (hD : isL G w 101 48 dS) (h4 : isL G w 99 48 e4S) (h6 : isL G w 100 48 e6S) (k i : Nat) (hk : 12 * i ≤ k) (hk40 : k ≤ 40) (hk2 : k % 2 = 0) (hk3 : k ≠ 12 * i + 2) (hr0 : ∃ f, w 104 = eL G 48 f) :
    Cv l G yX5_fillBasis cdX5_fillBasis (zr 1) n ad w [.ref (ad 92), .int (nI k), .int (nI i)] (fun w' => (∀ j, j ≠ 104 → w' j = w j) ∧ isL G w' 104 48 (bas k i)) := by
  obtain ⟨fr, er⟩ := hr0
  refine ent_v (cc := cX5_fillBasis) (maxL := 6) (ret := none) (by decide +kernel) rfl (Nat.le_of_ble_eq_true rfl) ?_
  intro p e s m args below meth c A B hr hlk hA H locs ls hW hl
  have hx := B.1
  have hb := B.2.1
  have hl : lv_has ls 6 [(0, .ref (ad (92))), (1, .int (nI (k))), (2, .int (nI (i)))] := hl
  refine lv_iload_n hx hb dX5_fillBasis_0 rfl (lv_at hl 1 rfl) ?_
  refine lv_bipush (v := nI 12) hx hb dX5_fillBasis_1 (by decide) ?_
  refine lv_iload_n hx hb dX5_fillBasis_3 rfl (lv_at hl 2 rfl) ?_
  refine n_imul hx hb dX5_fillBasis_4 ?_
  refine n_isub hx hb (by omega) dX5_fillBasis_5 ?_
  refine lv_istore_n (lv' := [(3, .int (nI (k - (12 * i)))), (0, .ref (ad (92))), (1, .int (nI (k))), (2, .int (nI (i)))]) hx hb dX5_fillBasis_6 rfl hl (by decide) rfl (fun ls hl => ?_)
  refine lv_iload_n hx hb dX5_fillBasis_7 rfl (lv_at hl 0 rfl) ?_
  refine lv_iconst (v := nI 4) hx hb dX5_fillBasis_8 (by decide) ?_
  refine n_irem hx hb (by omega) (by omega) (by omega) dX5_fillBasis_9 ?_
  refine lv_iconst (v := nI 2) hx hb dX5_fillBasis_10 (by decide) ?_
  have hb9 : bE k i ≤ 1 := by unfold bE; split <;> decide
  have hrl : (k - 12 * i) % 4 < 4 := Nat.mod_lt _ (by decide)
  have hb6 : 6 * bE k i ≤ k - 12 * i := by unfold bE; split <;> omega
  refine n_icmp_ne (tgt := 18) hx hb (by omega) (by omega) dX5_fillBasis_11 (by decide) (fun hc => ?_) (fun hc => ?_)
  · refine lv_iconst (v := nI 0) hx hb dX5_fillBasis_18 (by decide) ?_
    refine topi (y := (nI (bE k i))) (by unfold bE; rw [if_neg hc]) ?_
    refine lv_istore (lv' := [(4, .int (nI (bE k i))), (3, .int (nI (k - (12 * i)))), (0, .ref (ad (92))), (1, .int (nI (k))), (2, .int (nI (i)))]) hx hb dX5_fillBasis_19 hl (by decide) rfl (fun ls hl => ?_)
    refine lv_iconst (v := nI 0) hx hb dX5_fillBasis_21 (by decide) ?_
    refine lv_istore (lv' := [(5, .int (nI (0))), (4, .int (nI (bE k i))), (3, .int (nI (k - (12 * i)))), (0, .ref (ad (92))), (1, .int (nI (k))), (2, .int (nI (i)))]) hx hb dX5_fillBasis_22 hl (by decide) rfl (fun ls hl => ?_)
    refine z_up (Wg := fun H locs ls => W p l e (zr 1) s m args below meth c H locs 0 0 _ (F0 m 24 ls [])) (I := fun q H locs ls => ∃ (w2 : Nat → va_E) (f : Nat → Int64), Wo G A s.heap n ad w2 H locs ∧ lv_has ls 6 [(5, .int (nI q)), (4, .int (nI (bE k i))), (3, .int (nI (k - 12 * i))), (0, .ref (ad 92)), (1, .int (nI k)), (2, .int (nI i))] ∧ (∀ j, j ≠ 104 → w2 j = w j) ∧ w2 104 = eL G 48 f ∧ (∀ j, j < q → f j = lN (oneS j))) (a := 0) (b := 48) (Nat.zero_le _) ?_ ?_ H locs ls ⟨w, fr, hW, hl, fun _ _ => rfl, er, fun j h => by omega⟩
    · rintro q - hq ih H locs ls ⟨w2, f, hW, hl, h1, h2, h3⟩
      have e92b := (h1 92 (by decide)).trans e92
      refine lv_iload hx hb dX5_fillBasis_24 (lv_at hl 0 rfl) ?_
      refine lv_bipush (v := nI 48) hx hb dX5_fillBasis_26 (by decide) ?_
      refine n_icmp_ge (tgt := 54) hx hb (by omega) (by omega) dX5_fillBasis_28 (by decide) (fun hc2 => ?_) (fun hc2 => ?_)
      · omega
      · refine lv_aload_n hx hb dX5_fillBasis_31 rfl (lv_at hl 3 rfl) ?_
        refine z_get B hW (92) (by omega) e92b rfl inX5 12 (by decide) hw_387 rfl (v := .ref (ad (104))) rfl dX5_fillBasis_32 ?_
        refine lv_iload hx hb dX5_fillBasis_35 (lv_at hl 0 rfl) ?_
        refine lv_iload hx hb dX5_fillBasis_37 (lv_at hl 0 rfl) ?_
        refine n_if_ne (tgt := 46) hx hb (by omega) dX5_fillBasis_39 (by decide) (fun hd => ?_) (fun hd => ?_)
        · refine lv_lconst (v := lN 0) hx hb dX5_fillBasis_46 (by decide) ?_
          refine z_last B hW (104) (by omega) h2 (q) (by omega) (by decide) dX5_fillBasis_47 (fun H locs hW => ?_)
          refine lv_iinc (v := (nI (q + 1))) (lv' := [(5, .int (nI (q + 1))), (4, .int (nI (bE k i))), (3, .int (nI (k - 12 * i))), (0, .ref (ad (92))), (1, .int (nI (k))), (2, .int (nI (i)))]) hx hb dX5_fillBasis_48 hl (k := 0) rfl (iinc1 _) (by decide) rfl (fun ls hl => ?_)
          refine lv_goto (tgt := 24) hx hb dX5_fillBasis_51 (by decide) ?_
          refine ih H locs ls ⟨_, _, hW, hl, fun j hj => by rw [up_n hj]; exact h1 j hj, up_s, fun j hj => ?_⟩
          by_cases z : j = q
          · subst z; rw [pk_uLs]; simp [oneS, hd]
          · rw [pk_uLn z]; exact h3 j (by omega)
        · refine lv_lconst (v := lN 1) hx hb dX5_fillBasis_42 (by decide) ?_
          refine lv_goto (tgt := 47) hx hb dX5_fillBasis_43 (by decide) ?_
          refine z_last B hW (104) (by omega) h2 (q) (by omega) (by decide) dX5_fillBasis_47 (fun H locs hW => ?_)
          refine lv_iinc (v := (nI (q + 1))) (lv' := [(5, .int (nI (q + 1))), (4, .int (nI (bE k i))), (3, .int (nI (k - 12 * i))), (0, .ref (ad (92))), (1, .int (nI (k))), (2, .int (nI (i)))]) hx hb dX5_fillBasis_48 hl (k := 0) rfl (iinc1 _) (by decide) rfl (fun ls hl => ?_)
          refine lv_goto (tgt := 24) hx hb dX5_fillBasis_51 (by decide) ?_
          refine ih H locs ls ⟨_, _, hW, hl, fun j hj => by rw [up_n hj]; exact h1 j hj, up_s, fun j hj => ?_⟩
          by_cases z : j = q
          · subst z; rw [pk_uLs]; simp [oneS, hd]
          · rw [pk_uLn z]; exact h3 j (by omega)
    · rintro H locs ls ⟨w2, f, hW, hl, h1, h2, h3⟩
      refine lv_iload hx hb dX5_fillBasis_24 (lv_at hl 0 rfl) ?_
      refine lv_bipush (v := nI 48) hx hb dX5_fillBasis_26 (by decide) ?_
      refine n_icmp_ge (tgt := 54) hx hb (by omega) (by omega) dX5_fillBasis_28 (by decide) (fun hc2 => ?_) (fun hc2 => ?_)
      · refine lv_iconst (v := nI 0) hx hb dX5_fillBasis_54 (by decide) ?_
        refine lv_istore (lv' := [(5, .int (nI (0))), (4, .int (nI (bE k i))), (3, .int (nI (k - 12 * i))), (0, .ref (ad (92))), (1, .int (nI (k))), (2, .int (nI (i)))]) hx hb dX5_fillBasis_55 hl (by decide) rfl (fun ls hl => ?_)
        refine z_up (Wg := fun H locs ls => W p l e (zr 1) s m args below meth c H locs 0 0 _ (F0 m 57 ls [])) (I := fun q H locs ls => ∃ w2 : Nat → va_E, Wo G A s.heap n ad w2 H locs ∧ lv_has ls 6 [(5, .int (nI q)), (4, .int (nI (bE k i))), (3, .int (nI (k - 12 * i))), (0, .ref (ad 92)), (1, .int (nI k)), (2, .int (nI i))] ∧ (∀ j, j ≠ 104 → w2 j = w j) ∧ isL G w2 104 48 (powS dS q)) (a := 0) (b := i) (Nat.zero_le _) ?_ ?_ H locs ls ⟨w2, hW, hl, h1, f, h2, h3⟩
        · rintro q - hq ih H locs ls ⟨w2, hW, hl, h1, h2⟩
          have e92b := (h1 92 (by decide)).trans e92
          refine lv_iload hx hb dX5_fillBasis_57 (lv_at hl 0 rfl) ?_
          refine lv_iload_n hx hb dX5_fillBasis_59 rfl (lv_at hl 5 rfl) ?_
          refine n_icmp_ge (tgt := 81) hx hb (by omega) (by omega) dX5_fillBasis_60 (by decide) (fun hc2 => ?_) (fun hc2 => ?_)
          · omega
          · refine lv_aload_n hx hb dX5_fillBasis_63 rfl (lv_at hl 3 rfl) ?_
            refine lv_aload_n hx hb dX5_fillBasis_64 rfl (lv_at hl 3 rfl) ?_
            refine z_get B hW (92) (by omega) e92b rfl inX5 12 (by decide) hw_387 rfl (v := .ref (ad (104))) rfl dX5_fillBasis_65 ?_
            refine lv_aload_n hx hb dX5_fillBasis_68 rfl (lv_at hl 3 rfl) ?_
            refine z_get B hW (92) (by omega) e92b rfl inX5 9 (by decide) hw_384 rfl (v := .ref (ad (101))) rfl dX5_fillBasis_69 ?_
            refine call_vv B hA hW (92) (by omega) e92b (r := _) rfl rfl (k_M_multiplies l G n ad w2 h9 r9 e92b hn 104 101 (powS dS q) dS (by omega) (by omega) (by decide) h2 (isL_of hD (h1 101 (by decide))) (red_pow _ _).s (red_mul _ _).s) mf_X5_multiplies hw_465 rfl ⟨⟨rfl, rfl⟩, by decide, by decide⟩ ⟨Nat.zero_le _, Nat.zero_le _⟩ hl.1 rfl (Nat.le_of_ble_eq_true rfl) dX5_fillBasis_72 (fun w3 H locs hp hW => ?_)
            refine lv_iinc (v := (nI (q + 1))) (lv' := [(5, .int (nI (q + 1))), (4, .int (nI (bE k i))), (3, .int (nI (k - 12 * i))), (0, .ref (ad (92))), (1, .int (nI (k))), (2, .int (nI (i)))]) hx hb dX5_fillBasis_75 hl (k := 0) rfl (iinc1 _) (by decide) rfl (fun ls hl => ?_)
            refine lv_goto (tgt := 57) hx hb dX5_fillBasis_78 (by decide) ?_
            exact ih H locs ls ⟨w3, hW, hl, fun j hj => (hp.1 j hj).trans (h1 j hj), hp.2⟩
        · rintro H locs ls ⟨w2, hW, hl, h1, h2⟩
          refine lv_iload hx hb dX5_fillBasis_57 (lv_at hl 0 rfl) ?_
          refine lv_iload_n hx hb dX5_fillBasis_59 rfl (lv_at hl 5 rfl) ?_
          refine n_icmp_ge (tgt := 81) hx hb (by omega) (by omega) dX5_fillBasis_60 (by decide) (fun hc2 => ?_) (fun hc2 => ?_)
          · refine lv_iconst (v := nI 0) hx hb dX5_fillBasis_81 (by decide) ?_
            refine lv_istore (lv' := [(5, .int (nI (0))), (4, .int (nI (bE k i))), (3, .int (nI (k - 12 * i))), (0, .ref (ad (92))), (1, .int (nI (k))), (2, .int (nI (i)))]) hx hb dX5_fillBasis_82 hl (by decide) rfl (fun ls hl => ?_)
            refine z_up (Wg := fun H locs ls => W p l e (zr 1) s m args below meth c H locs 0 0 _ (F0 m 84 ls [])) (I := fun q H locs ls => ∃ w2 : Nat → va_E, Wo G A s.heap n ad w2 H locs ∧ lv_has ls 6 [(5, .int (nI q)), (4, .int (nI (bE k i))), (3, .int (nI (k - 12 * i))), (0, .ref (ad 92)), (1, .int (nI k)), (2, .int (nI i))] ∧ (∀ j, j ≠ 104 → w2 j = w j) ∧ isL G w2 104 48 (mulS (powS dS i) (powS e4S q))) (a := 0) (b := aE k i) (Nat.zero_le _) ?_ ?_ H locs ls ⟨w2, hW, hl, h1, by rw [show powS e4S 0 = oneS from rfl, mulS_1 (red_pow _ _)]; exact h2⟩
            · rintro q - hq ih H locs ls ⟨w2, hW, hl, h1, h2⟩
              have e92b := (h1 92 (by decide)).trans e92
              have hae : aE k i ≤ 40 := Nat.le_trans (Nat.div_le_self _ _) (by omega)
              refine lv_iload hx hb dX5_fillBasis_84 (lv_at hl 0 rfl) ?_
              refine lv_iload_n hx hb dX5_fillBasis_86 rfl (lv_at hl 2 rfl) ?_
              refine lv_bipush (v := nI 6) hx hb dX5_fillBasis_87 (by decide) ?_
              refine lv_iload hx hb dX5_fillBasis_89 (lv_at hl 1 rfl) ?_
              refine n_imul hx hb dX5_fillBasis_91 ?_
              refine n_isub hx hb (by omega) dX5_fillBasis_92 ?_
              refine lv_iconst (v := nI 4) hx hb dX5_fillBasis_93 (by decide) ?_
              refine n_idiv hx hb (by omega) (by omega) (by omega) dX5_fillBasis_94 ?_
              refine topi (y := (nI (aE k i))) rfl ?_
              refine n_icmp_ge (tgt := 116) hx hb (by omega) (by omega) dX5_fillBasis_95 (by decide) (fun hc2 => ?_) (fun hc2 => ?_)
              · omega
              · refine lv_aload_n hx hb dX5_fillBasis_98 rfl (lv_at hl 3 rfl) ?_
                refine lv_aload_n hx hb dX5_fillBasis_99 rfl (lv_at hl 3 rfl) ?_
                refine z_get B hW (92) (by omega) e92b rfl inX5 12 (by decide) hw_387 rfl (v := .ref (ad (104))) rfl dX5_fillBasis_100 ?_
                refine lv_aload_n hx hb dX5_fillBasis_103 rfl (lv_at hl 3 rfl) ?_
                refine z_get B hW (92) (by omega) e92b rfl inX5 7 (by decide) hw_382 rfl (v := .ref (ad (99))) rfl dX5_fillBasis_104 ?_
                refine call_vv B hA hW (92) (by omega) e92b (r := _) rfl rfl (k_M_multiplies l G n ad w2 h9 r9 e92b hn 104 99 (mulS (powS dS i) (powS e4S q)) e4S (by omega) (by omega) (by decide) h2 (isL_of h4 (h1 99 (by decide))) (red_mul _ _).s (red_sums _ _).s) mf_X5_multiplies hw_465 rfl ⟨⟨rfl, rfl⟩, by decide, by decide⟩ ⟨Nat.zero_le _, Nat.zero_le _⟩ hl.1 rfl (Nat.le_of_ble_eq_true rfl) dX5_fillBasis_107 (fun w3 H locs hp hW => ?_)
                refine lv_iinc (v := (nI (q + 1))) (lv' := [(5, .int (nI (q + 1))), (4, .int (nI (bE k i))), (3, .int (nI (k - 12 * i))), (0, .ref (ad (92))), (1, .int (nI (k))), (2, .int (nI (i)))]) hx hb dX5_fillBasis_110 hl (k := 0) rfl (iinc1 _) (by decide) rfl (fun ls hl => ?_)
                refine lv_goto (tgt := 84) hx hb dX5_fillBasis_113 (by decide) ?_
                exact ih H locs ls ⟨w3, hW, hl, fun j hj => (hp.1 j hj).trans (h1 j hj), by rw [show powS e4S (q + 1) = mulS (powS e4S q) e4S from rfl, ← mulS_assoc]; exact hp.2⟩
            · rintro H locs ls ⟨w2, hW, hl, h1, h2⟩
              have e92b := (h1 92 (by decide)).trans e92
              have hae : aE k i ≤ 40 := Nat.le_trans (Nat.div_le_self _ _) (by omega)
              refine lv_iload hx hb dX5_fillBasis_84 (lv_at hl 0 rfl) ?_
              refine lv_iload_n hx hb dX5_fillBasis_86 rfl (lv_at hl 2 rfl) ?_
              refine lv_bipush (v := nI 6) hx hb dX5_fillBasis_87 (by decide) ?_
              refine lv_iload hx hb dX5_fillBasis_89 (lv_at hl 1 rfl) ?_
              refine n_imul hx hb dX5_fillBasis_91 ?_
              refine n_isub hx hb (by omega) dX5_fillBasis_92 ?_
              refine lv_iconst (v := nI 4) hx hb dX5_fillBasis_93 (by decide) ?_
              refine n_idiv hx hb (by omega) (by omega) (by omega) dX5_fillBasis_94 ?_
              refine topi (y := (nI (aE k i))) rfl ?_
              refine n_icmp_ge (tgt := 116) hx hb (by omega) (by omega) dX5_fillBasis_95 (by decide) (fun hc2 => ?_) (fun hc2 => ?_)
              · refine lv_iload hx hb dX5_fillBasis_116 (lv_at hl 1 rfl) ?_
                refine lv_iconst (v := nI 1) hx hb dX5_fillBasis_118 (by decide) ?_
                refine n_icmp_ne (tgt := 134) hx hb (by omega) (by omega) dX5_fillBasis_119 (by decide) (fun hd => ?_) (fun hd => ?_)
                · have hb0 : bE k i = 0 := by omega
                  exact ret_v B hr hlk hW ⟨h1, by unfold bas; rw [hb0, show powS e6S 0 = oneS from rfl, mulS_1 (red_mul _ _)]; exact h2⟩ dX5_fillBasis_134
                · refine lv_aload_n hx hb dX5_fillBasis_122 rfl (lv_at hl 3 rfl) ?_
                  refine lv_aload_n hx hb dX5_fillBasis_123 rfl (lv_at hl 3 rfl) ?_
                  refine z_get B hW (92) (by omega) e92b rfl inX5 12 (by decide) hw_387 rfl (v := .ref (ad (104))) rfl dX5_fillBasis_124 ?_
                  refine lv_aload_n hx hb dX5_fillBasis_127 rfl (lv_at hl 3 rfl) ?_
                  refine z_get B hW (92) (by omega) e92b rfl inX5 8 (by decide) hw_383 rfl (v := .ref (ad (100))) rfl dX5_fillBasis_128 ?_
                  refine call_vv B hA hW (92) (by omega) e92b (r := _) rfl rfl (k_M_multiplies l G n ad w2 h9 r9 e92b hn 104 100 (mulS (powS dS i) (powS e4S (aE k i))) e6S (by omega) (by omega) (by decide) h2 (isL_of h6 (h1 100 (by decide))) (red_mul _ _).s (red_sums _ _).s) mf_X5_multiplies hw_465 rfl ⟨⟨rfl, rfl⟩, by decide, by decide⟩ ⟨Nat.zero_le _, Nat.zero_le _⟩ hl.1 rfl (Nat.le_of_ble_eq_true rfl) dX5_fillBasis_131 (fun w3 H locs hp hW => ?_)
                  exact ret_v B hr hlk hW ⟨fun j hj => (hp.1 j hj).trans (h1 j hj), by unfold bas; rw [hd, powS_one e6S (red_sums _ _)]; exact hp.2⟩ dX5_fillBasis_134
              · omega
          · omega
      · omega
  · refine lv_iconst (v := nI 1) hx hb dX5_fillBasis_14 (by decide) ?_
    refine lv_goto (tgt := 19) hx hb dX5_fillBasis_15 (by decide) ?_
    refine topi (y := (nI (bE k i))) (by unfold bE; rw [if_pos hc]) ?_
    refine lv_istore (lv' := [(4, .int (nI (bE k i))), (3, .int (nI (k - (12 * i)))), (0, .ref (ad (92))), (1, .int (nI (k))), (2, .int (nI (i)))]) hx hb dX5_fillBasis_19 hl (by decide) rfl (fun ls hl => ?_)
    refine lv_iconst (v := nI 0) hx hb dX5_fillBasis_21 (by decide) ?_
    refine lv_istore (lv' := [(5, .int (nI (0))), (4, .int (nI (bE k i))), (3, .int (nI (k - (12 * i)))), (0, .ref (ad (92))), (1, .int (nI (k))), (2, .int (nI (i)))]) hx hb dX5_fillBasis_22 hl (by decide) rfl (fun ls hl => ?_)
    refine z_up (Wg := fun H locs ls => W p l e (zr 1) s m args below meth c H locs 0 0 _ (F0 m 24 ls [])) (I := fun q H locs ls => ∃ (w2 : Nat → va_E) (f : Nat → Int64), Wo G A s.heap n ad w2 H locs ∧ lv_has ls 6 [(5, .int (nI q)), (4, .int (nI (bE k i))), (3, .int (nI (k - 12 * i))), (0, .ref (ad 92)), (1, .int (nI k)), (2, .int (nI i))] ∧ (∀ j, j ≠ 104 → w2 j = w j) ∧ w2 104 = eL G 48 f ∧ (∀ j, j < q → f j = lN (oneS j))) (a := 0) (b := 48) (Nat.zero_le _) ?_ ?_ H locs ls ⟨w, fr, hW, hl, fun _ _ => rfl, er, fun j h => by omega⟩
    · rintro q - hq ih H locs ls ⟨w2, f, hW, hl, h1, h2, h3⟩
      have e92b := (h1 92 (by decide)).trans e92
      refine lv_iload hx hb dX5_fillBasis_24 (lv_at hl 0 rfl) ?_
      refine lv_bipush (v := nI 48) hx hb dX5_fillBasis_26 (by decide) ?_
      refine n_icmp_ge (tgt := 54) hx hb (by omega) (by omega) dX5_fillBasis_28 (by decide) (fun hc2 => ?_) (fun hc2 => ?_)
      · omega
      · refine lv_aload_n hx hb dX5_fillBasis_31 rfl (lv_at hl 3 rfl) ?_
        refine z_get B hW (92) (by omega) e92b rfl inX5 12 (by decide) hw_387 rfl (v := .ref (ad (104))) rfl dX5_fillBasis_32 ?_
        refine lv_iload hx hb dX5_fillBasis_35 (lv_at hl 0 rfl) ?_
        refine lv_iload hx hb dX5_fillBasis_37 (lv_at hl 0 rfl) ?_
        refine n_if_ne (tgt := 46) hx hb (by omega) dX5_fillBasis_39 (by decide) (fun hd => ?_) (fun hd => ?_)
        · refine lv_lconst (v := lN 0) hx hb dX5_fillBasis_46 (by decide) ?_
          refine z_last B hW (104) (by omega) h2 (q) (by omega) (by decide) dX5_fillBasis_47 (fun H locs hW => ?_)
          refine lv_iinc (v := (nI (q + 1))) (lv' := [(5, .int (nI (q + 1))), (4, .int (nI (bE k i))), (3, .int (nI (k - 12 * i))), (0, .ref (ad (92))), (1, .int (nI (k))), (2, .int (nI (i)))]) hx hb dX5_fillBasis_48 hl (k := 0) rfl (iinc1 _) (by decide) rfl (fun ls hl => ?_)
          refine lv_goto (tgt := 24) hx hb dX5_fillBasis_51 (by decide) ?_
          refine ih H locs ls ⟨_, _, hW, hl, fun j hj => by rw [up_n hj]; exact h1 j hj, up_s, fun j hj => ?_⟩
          by_cases z : j = q
          · subst z; rw [pk_uLs]; simp [oneS, hd]
          · rw [pk_uLn z]; exact h3 j (by omega)
        · refine lv_lconst (v := lN 1) hx hb dX5_fillBasis_42 (by decide) ?_
          refine lv_goto (tgt := 47) hx hb dX5_fillBasis_43 (by decide) ?_
          refine z_last B hW (104) (by omega) h2 (q) (by omega) (by decide) dX5_fillBasis_47 (fun H locs hW => ?_)
          refine lv_iinc (v := (nI (q + 1))) (lv' := [(5, .int (nI (q + 1))), (4, .int (nI (bE k i))), (3, .int (nI (k - 12 * i))), (0, .ref (ad (92))), (1, .int (nI (k))), (2, .int (nI (i)))]) hx hb dX5_fillBasis_48 hl (k := 0) rfl (iinc1 _) (by decide) rfl (fun ls hl => ?_)
          refine lv_goto (tgt := 24) hx hb dX5_fillBasis_51 (by decide) ?_
          refine ih H locs ls ⟨_, _, hW, hl, fun j hj => by rw [up_n hj]; exact h1 j hj, up_s, fun j hj => ?_⟩
          by_cases z : j = q
          · subst z; rw [pk_uLs]; simp [oneS, hd]
          · rw [pk_uLn z]; exact h3 j (by omega)
    · rintro H locs ls ⟨w2, f, hW, hl, h1, h2, h3⟩
      refine lv_iload hx hb dX5_fillBasis_24 (lv_at hl 0 rfl) ?_
      refine lv_bipush (v := nI 48) hx hb dX5_fillBasis_26 (by decide) ?_
      refine n_icmp_ge (tgt := 54) hx hb (by omega) (by omega) dX5_fillBasis_28 (by decide) (fun hc2 => ?_) (fun hc2 => ?_)
      · refine lv_iconst (v := nI 0) hx hb dX5_fillBasis_54 (by decide) ?_
        refine lv_istore (lv' := [(5, .int (nI (0))), (4, .int (nI (bE k i))), (3, .int (nI (k - 12 * i))), (0, .ref (ad (92))), (1, .int (nI (k))), (2, .int (nI (i)))]) hx hb dX5_fillBasis_55 hl (by decide) rfl (fun ls hl => ?_)
        refine z_up (Wg := fun H locs ls => W p l e (zr 1) s m args below meth c H locs 0 0 _ (F0 m 57 ls [])) (I := fun q H locs ls => ∃ w2 : Nat → va_E, Wo G A s.heap n ad w2 H locs ∧ lv_has ls 6 [(5, .int (nI q)), (4, .int (nI (bE k i))), (3, .int (nI (k - 12 * i))), (0, .ref (ad 92)), (1, .int (nI k)), (2, .int (nI i))] ∧ (∀ j, j ≠ 104 → w2 j = w j) ∧ isL G w2 104 48 (powS dS q)) (a := 0) (b := i) (Nat.zero_le _) ?_ ?_ H locs ls ⟨w2, hW, hl, h1, f, h2, h3⟩
        · rintro q - hq ih H locs ls ⟨w2, hW, hl, h1, h2⟩
          have e92b := (h1 92 (by decide)).trans e92
          refine lv_iload hx hb dX5_fillBasis_57 (lv_at hl 0 rfl) ?_
          refine lv_iload_n hx hb dX5_fillBasis_59 rfl (lv_at hl 5 rfl) ?_
          refine n_icmp_ge (tgt := 81) hx hb (by omega) (by omega) dX5_fillBasis_60 (by decide) (fun hc2 => ?_) (fun hc2 => ?_)
          · omega
          · refine lv_aload_n hx hb dX5_fillBasis_63 rfl (lv_at hl 3 rfl) ?_
            refine lv_aload_n hx hb dX5_fillBasis_64 rfl (lv_at hl 3 rfl) ?_
            refine z_get B hW (92) (by omega) e92b rfl inX5 12 (by decide) hw_387 rfl (v := .ref (ad (104))) rfl dX5_fillBasis_65 ?_
            refine lv_aload_n hx hb dX5_fillBasis_68 rfl (lv_at hl 3 rfl) ?_
            refine z_get B hW (92) (by omega) e92b rfl inX5 9 (by decide) hw_384 rfl (v := .ref (ad (101))) rfl dX5_fillBasis_69 ?_
            refine call_vv B hA hW (92) (by omega) e92b (r := _) rfl rfl (k_M_multiplies l G n ad w2 h9 r9 e92b hn 104 101 (powS dS q) dS (by omega) (by omega) (by decide) h2 (isL_of hD (h1 101 (by decide))) (red_pow _ _).s (red_mul _ _).s) mf_X5_multiplies hw_465 rfl ⟨⟨rfl, rfl⟩, by decide, by decide⟩ ⟨Nat.zero_le _, Nat.zero_le _⟩ hl.1 rfl (Nat.le_of_ble_eq_true rfl) dX5_fillBasis_72 (fun w3 H locs hp hW => ?_)
            refine lv_iinc (v := (nI (q + 1))) (lv' := [(5, .int (nI (q + 1))), (4, .int (nI (bE k i))), (3, .int (nI (k - 12 * i))), (0, .ref (ad (92))), (1, .int (nI (k))), (2, .int (nI (i)))]) hx hb dX5_fillBasis_75 hl (k := 0) rfl (iinc1 _) (by decide) rfl (fun ls hl => ?_)
            refine lv_goto (tgt := 57) hx hb dX5_fillBasis_78 (by decide) ?_
            exact ih H locs ls ⟨w3, hW, hl, fun j hj => (hp.1 j hj).trans (h1 j hj), hp.2⟩
        · rintro H locs ls ⟨w2, hW, hl, h1, h2⟩
          refine lv_iload hx hb dX5_fillBasis_57 (lv_at hl 0 rfl) ?_
          refine lv_iload_n hx hb dX5_fillBasis_59 rfl (lv_at hl 5 rfl) ?_
          refine n_icmp_ge (tgt := 81) hx hb (by omega) (by omega) dX5_fillBasis_60 (by decide) (fun hc2 => ?_) (fun hc2 => ?_)
          · refine lv_iconst (v := nI 0) hx hb dX5_fillBasis_81 (by decide) ?_
            refine lv_istore (lv' := [(5, .int (nI (0))), (4, .int (nI (bE k i))), (3, .int (nI (k - 12 * i))), (0, .ref (ad (92))), (1, .int (nI (k))), (2, .int (nI (i)))]) hx hb dX5_fillBasis_82 hl (by decide) rfl (fun ls hl => ?_)
            refine z_up (Wg := fun H locs ls => W p l e (zr 1) s m args below meth c H locs 0 0 _ (F0 m 84 ls [])) (I := fun q H locs ls => ∃ w2 : Nat → va_E, Wo G A s.heap n ad w2 H locs ∧ lv_has ls 6 [(5, .int (nI q)), (4, .int (nI (bE k i))), (3, .int (nI (k - 12 * i))), (0, .ref (ad 92)), (1, .int (nI k)), (2, .int (nI i))] ∧ (∀ j, j ≠ 104 → w2 j = w j) ∧ isL G w2 104 48 (mulS (powS dS i) (powS e4S q))) (a := 0) (b := aE k i) (Nat.zero_le _) ?_ ?_ H locs ls ⟨w2, hW, hl, h1, by rw [show powS e4S 0 = oneS from rfl, mulS_1 (red_pow _ _)]; exact h2⟩
            · rintro q - hq ih H locs ls ⟨w2, hW, hl, h1, h2⟩
              have e92b := (h1 92 (by decide)).trans e92
              have hae : aE k i ≤ 40 := Nat.le_trans (Nat.div_le_self _ _) (by omega)
              refine lv_iload hx hb dX5_fillBasis_84 (lv_at hl 0 rfl) ?_
              refine lv_iload_n hx hb dX5_fillBasis_86 rfl (lv_at hl 2 rfl) ?_
              refine lv_bipush (v := nI 6) hx hb dX5_fillBasis_87 (by decide) ?_
              refine lv_iload hx hb dX5_fillBasis_89 (lv_at hl 1 rfl) ?_
              refine n_imul hx hb dX5_fillBasis_91 ?_
              refine n_isub hx hb (by omega) dX5_fillBasis_92 ?_
              refine lv_iconst (v := nI 4) hx hb dX5_fillBasis_93 (by decide) ?_
              refine n_idiv hx hb (by omega) (by omega) (by omega) dX5_fillBasis_94 ?_
              refine topi (y := (nI (aE k i))) rfl ?_
              refine n_icmp_ge (tgt := 116) hx hb (by omega) (by omega) dX5_fillBasis_95 (by decide) (fun hc2 => ?_) (fun hc2 => ?_)
              · omega
              · refine lv_aload_n hx hb dX5_fillBasis_98 rfl (lv_at hl 3 rfl) ?_
                refine lv_aload_n hx hb dX5_fillBasis_99 rfl (lv_at hl 3 rfl) ?_
                refine z_get B hW (92) (by omega) e92b rfl inX5 12 (by decide) hw_387 rfl (v := .ref (ad (104))) rfl dX5_fillBasis_100 ?_
                refine lv_aload_n hx hb dX5_fillBasis_103 rfl (lv_at hl 3 rfl) ?_
                refine z_get B hW (92) (by omega) e92b rfl inX5 7 (by decide) hw_382 rfl (v := .ref (ad (99))) rfl dX5_fillBasis_104 ?_
                refine call_vv B hA hW (92) (by omega) e92b (r := _) rfl rfl (k_M_multiplies l G n ad w2 h9 r9 e92b hn 104 99 (mulS (powS dS i) (powS e4S q)) e4S (by omega) (by omega) (by decide) h2 (isL_of h4 (h1 99 (by decide))) (red_mul _ _).s (red_sums _ _).s) mf_X5_multiplies hw_465 rfl ⟨⟨rfl, rfl⟩, by decide, by decide⟩ ⟨Nat.zero_le _, Nat.zero_le _⟩ hl.1 rfl (Nat.le_of_ble_eq_true rfl) dX5_fillBasis_107 (fun w3 H locs hp hW => ?_)
                refine lv_iinc (v := (nI (q + 1))) (lv' := [(5, .int (nI (q + 1))), (4, .int (nI (bE k i))), (3, .int (nI (k - 12 * i))), (0, .ref (ad (92))), (1, .int (nI (k))), (2, .int (nI (i)))]) hx hb dX5_fillBasis_110 hl (k := 0) rfl (iinc1 _) (by decide) rfl (fun ls hl => ?_)
                refine lv_goto (tgt := 84) hx hb dX5_fillBasis_113 (by decide) ?_
                exact ih H locs ls ⟨w3, hW, hl, fun j hj => (hp.1 j hj).trans (h1 j hj), by rw [show powS e4S (q + 1) = mulS (powS e4S q) e4S from rfl, ← mulS_assoc]; exact hp.2⟩
            · rintro H locs ls ⟨w2, hW, hl, h1, h2⟩
              have e92b := (h1 92 (by decide)).trans e92
              have hae : aE k i ≤ 40 := Nat.le_trans (Nat.div_le_self _ _) (by omega)
              refine lv_iload hx hb dX5_fillBasis_84 (lv_at hl 0 rfl) ?_
              refine lv_iload_n hx hb dX5_fillBasis_86 rfl (lv_at hl 2 rfl) ?_
              refine lv_bipush (v := nI 6) hx hb dX5_fillBasis_87 (by decide) ?_
              refine lv_iload hx hb dX5_fillBasis_89 (lv_at hl 1 rfl) ?_
              refine n_imul hx hb dX5_fillBasis_91 ?_
              refine n_isub hx hb (by omega) dX5_fillBasis_92 ?_
              refine lv_iconst (v := nI 4) hx hb dX5_fillBasis_93 (by decide) ?_
              refine n_idiv hx hb (by omega) (by omega) (by omega) dX5_fillBasis_94 ?_
              refine topi (y := (nI (aE k i))) rfl ?_
              refine n_icmp_ge (tgt := 116) hx hb (by omega) (by omega) dX5_fillBasis_95 (by decide) (fun hc2 => ?_) (fun hc2 => ?_)
              · refine lv_iload hx hb dX5_fillBasis_116 (lv_at hl 1 rfl) ?_
                refine lv_iconst (v := nI 1) hx hb dX5_fillBasis_118 (by decide) ?_
                refine n_icmp_ne (tgt := 134) hx hb (by omega) (by omega) dX5_fillBasis_119 (by decide) (fun hd => ?_) (fun hd => ?_)
                · have hb0 : bE k i = 0 := by omega
                  exact ret_v B hr hlk hW ⟨h1, by unfold bas; rw [hb0, show powS e6S 0 = oneS from rfl, mulS_1 (red_mul _ _)]; exact h2⟩ dX5_fillBasis_134
                · refine lv_aload_n hx hb dX5_fillBasis_122 rfl (lv_at hl 3 rfl) ?_
                  refine lv_aload_n hx hb dX5_fillBasis_123 rfl (lv_at hl 3 rfl) ?_
                  refine z_get B hW (92) (by omega) e92b rfl inX5 12 (by decide) hw_387 rfl (v := .ref (ad (104))) rfl dX5_fillBasis_124 ?_
                  refine lv_aload_n hx hb dX5_fillBasis_127 rfl (lv_at hl 3 rfl) ?_
                  refine z_get B hW (92) (by omega) e92b rfl inX5 8 (by decide) hw_383 rfl (v := .ref (ad (100))) rfl dX5_fillBasis_128 ?_
                  refine call_vv B hA hW (92) (by omega) e92b (r := _) rfl rfl (k_M_multiplies l G n ad w2 h9 r9 e92b hn 104 100 (mulS (powS dS i) (powS e4S (aE k i))) e6S (by omega) (by omega) (by decide) h2 (isL_of h6 (h1 100 (by decide))) (red_mul _ _).s (red_sums _ _).s) mf_X5_multiplies hw_465 rfl ⟨⟨rfl, rfl⟩, by decide, by decide⟩ ⟨Nat.zero_le _, Nat.zero_le _⟩ hl.1 rfl (Nat.le_of_ble_eq_true rfl) dX5_fillBasis_131 (fun w3 H locs hp hW => ?_)
                  exact ret_v B hr hlk hW ⟨fun j hj => (hp.1 j hj).trans (h1 j hj), by unfold bas; rw [hd, powS_one e6S (red_sums _ _)]; exact hp.2⟩ dX5_fillBasis_134
              · omega
          · omega
      · omega
set_option maxHeartbeats 4000000 in
set_option maxRecDepth 100000 in
theorem k_M_finds (l : Launch) (G : zG) (n : Nat) (ad : Nat → Nat) (w : Nat → va_E) (h9 r9 : Int32) (e92 : w 92 = mO ad h9 r9) (hn : 111 ≤ n) (hD : isL G w 101 48 dS) (h4 : isL G w 99 48 e4S) (h6 : isL G w 100 48 e6S) (kr k : Nat) (v : Nat → Nat) (hk40 : k ≤ 40) (hk2 : k % 2 = 0) (hkr : kr < n) (n3 : kr ≠ 103) (n4 : kr ≠ 104) (n5 : kr ≠ 105) (fv : Nat → Int64) (ev : w kr = eL G 48 fv) (vv : ∀ i, i < zs k → fv i = lN (v i)) (rv : ∀ i, i < zs k → v i < 1000003) (h103 : ∃ f, w 103 = eL G 48 f) (h104 : ∃ f, w 104 = eL G 48 f) (h105 : ∃ f, w 105 = eL G 4 f) :
    Cv l G yX5_finds cdX5_finds (zr 2) n ad w [.ref (ad 92), .ref (ad kr), .int (nI k)] (fun w' => (∀ j, j ≠ 103 → j ≠ 104 → j ≠ 105 → w' j = w j) ∧ (∃ f, w' 103 = eL G 48 f) ∧ (∃ f, w' 104 = eL G 48 f) ∧ ∃ f, w' 105 = eL G 4 f ∧ ∀ i, i < zs k → f i = lN (prt (bas k) v i)) := by
  have hzl := zs_le k hk40
  obtain ⟨f103, x103⟩ := h103
  obtain ⟨f104, x104⟩ := h104
  obtain ⟨f105, x105⟩ := h105
  refine ent_v (cc := cX5_finds) (maxL := 6) (ret := none) (by decide +kernel) rfl (Nat.le_of_ble_eq_true rfl) ?_
  intro p e s m args below meth c A B hr hlk hA H locs ls hW hl
  have hx := B.1
  have hb := B.2.1
  have hl : lv_has ls 6 [(0, .ref (ad (92))), (1, .ref (ad (kr))), (2, .int (nI (k)))] := hl
  refine lv_iload_n hx hb dX5_finds_0 rfl (lv_at hl 2 rfl) ?_
  refine call_si B hA hW (k_M_sizeOf l G n ad w k hk40 hk2) mf_X5_sizeOf hw_513 rfl ⟨⟨rfl, rfl⟩, by decide, by decide⟩ ⟨Nat.zero_le _, Nat.zero_le _⟩ hl.1 rfl (Nat.le_of_ble_eq_true rfl) dX5_finds_1 (fun r w9 H locs hp hW => ?_)
  obtain ⟨e1, e2⟩ := hp
  rw [e1] at hW
  subst e2
  refine lv_istore_n (lv' := [(3, .int (nI (zs k))), (0, .ref (ad (92))), (1, .ref (ad (kr))), (2, .int (nI (k)))]) hx hb dX5_finds_4 rfl hl (by decide) rfl (fun ls hl => ?_)
  refine lv_iconst (v := nI 0) hx hb dX5_finds_5 (by decide) ?_
  refine lv_istore (lv' := [(4, .int (nI (0))), (3, .int (nI (zs k))), (0, .ref (ad (92))), (1, .ref (ad (kr))), (2, .int (nI (k)))]) hx hb dX5_finds_6 hl (by decide) rfl (fun ls hl => ?_)
  refine z_up (Wg := fun H locs ls => W p l e (zr 2) s m args below meth c H locs 0 0 _ (F0 m 8 ls [])) (I := fun q H locs ls => ∃ (w2 : Nat → va_E) (f : Nat → Int64), Wo G A s.heap n ad w2 H locs ∧ lv_has ls 6 [(4, .int (nI q)), (3, .int (nI (zs k))), (0, .ref (ad 92)), (1, .ref (ad kr)), (2, .int (nI k))] ∧ (∀ j, j ≠ 103 → w2 j = w j) ∧ w2 103 = eL G 48 f ∧ (∀ j, j < q → f j = lN (v j))) (a := 0) (b := zs k) (Nat.zero_le _) ?_ ?_ H locs ls ⟨w, f103, hW, hl, fun _ _ => rfl, x103, fun j h => by omega⟩
  · rintro q - hq ih H locs ls ⟨w2, f, hW, hl, h1, h2, h3⟩
    have e92b := (h1 92 (by decide)).trans e92
    have evb := (h1 kr n3).trans ev
    refine lv_iload hx hb dX5_finds_8 (lv_at hl 0 rfl) ?_
    refine lv_iload_n hx hb dX5_finds_10 rfl (lv_at hl 1 rfl) ?_
    refine n_icmp_ge (tgt := 31) hx hb (by omega) (by omega) dX5_finds_11 (by decide) (fun hc => ?_) (fun hc => ?_)
    · omega
    · refine lv_aload_n hx hb dX5_finds_14 rfl (lv_at hl 2 rfl) ?_
      refine z_get B hW (92) (by omega) e92b rfl inX5 11 (by decide) hw_386 rfl (v := .ref (ad (103))) rfl dX5_finds_15 ?_
      refine lv_iload hx hb dX5_finds_18 (lv_at hl 0 rfl) ?_
      refine lv_aload_n hx hb dX5_finds_20 rfl (lv_at hl 3 rfl) ?_
      refine lv_iload hx hb dX5_finds_21 (lv_at hl 0 rfl) ?_
      refine z_lald B hW (kr) (by omega) evb (q) (by omega) (by decide) (v := (lN (v q))) (vv _ hq) dX5_finds_23 ?_
      refine z_last B hW (103) (by omega) h2 (q) (by omega) (by decide) dX5_finds_24 (fun H locs hW => ?_)
      refine lv_iinc (v := (nI (q + 1))) (lv' := [(4, .int (nI (q + 1))), (3, .int (nI (zs k))), (0, .ref (ad (92))), (1, .ref (ad (kr))), (2, .int (nI (k)))]) hx hb dX5_finds_25 hl (k := 0) rfl (iinc1 _) (by decide) rfl (fun ls hl => ?_)
      refine lv_goto (tgt := 8) hx hb dX5_finds_28 (by decide) ?_
      refine ih H locs ls ⟨_, _, hW, hl, fun j hj => by rw [up_n hj]; exact h1 j hj, up_s, fun j hj => ?_⟩
      by_cases z : j = q
      · rw [z, pk_uLs]
      · rw [pk_uLn z]; exact h3 j (by omega)
  · rintro H locs ls ⟨w2, f, hW, hl, h1, h2, h3⟩
    refine lv_iload hx hb dX5_finds_8 (lv_at hl 0 rfl) ?_
    refine lv_iload_n hx hb dX5_finds_10 rfl (lv_at hl 1 rfl) ?_
    refine n_icmp_ge (tgt := 31) hx hb (by omega) (by omega) dX5_finds_11 (by decide) (fun hc => ?_) (fun hc => ?_)
    · refine lv_iconst (v := nI 0) hx hb dX5_finds_31 (by decide) ?_
      refine lv_istore (lv' := [(4, .int (nI (0))), (3, .int (nI (zs k))), (0, .ref (ad (92))), (1, .ref (ad (kr))), (2, .int (nI (k)))]) hx hb dX5_finds_32 hl (by decide) rfl (fun ls hl => ?_)
      refine z_up (Wg := fun H locs ls => W p l e (zr 2) s m args below meth c H locs 0 0 _ (F0 m 34 ls [])) (I := fun i H locs ls => ∃ (w2 : Nat → va_E) (f g : Nat → Int64), Wo G A s.heap n ad w2 H locs ∧ lv_has ls 6 [(4, .int (nI i)), (3, .int (nI (zs k))), (0, .ref (ad 92)), (1, .ref (ad kr)), (2, .int (nI k))] ∧ (∀ j, j ≠ 103 → j ≠ 104 → j ≠ 105 → w2 j = w j) ∧ w2 103 = eL G 48 f ∧ (∀ j, j < zs k → f j = lN (thn (bas k) v i j)) ∧ (∃ g4, w2 104 = eL G 48 g4) ∧ w2 105 = eL G 4 g ∧ (∀ j, j < i → g j = lN (prt (bas k) v j))) (a := 0) (b := zs k) (Nat.zero_le _) ?_ ?_ H locs ls ⟨w2, f, f105, hW, hl, fun j q1 _ _ => h1 j q1, h2, h3, ⟨f104, (h1 104 (by decide)).trans x104⟩, (h1 105 (by decide)).trans x105, fun j h => by omega⟩
      · rintro i - hi ih H locs ls ⟨w2, f, g, hW, hl, h1, h2, h3, ⟨g4, h4b⟩, h5, h6b⟩
        have e92b := (h1 92 (by decide) (by decide) (by decide)).trans e92
        have h12 := zs_i12 k hk40 hk2 i hi
        refine lv_iload hx hb dX5_finds_34 (lv_at hl 0 rfl) ?_
        refine lv_iload_n hx hb dX5_finds_36 rfl (lv_at hl 1 rfl) ?_
        refine n_icmp_ge (tgt := 120) hx hb (by omega) (by omega) dX5_finds_37 (by decide) (fun hc => ?_) (fun hc => ?_)
        · omega
        · refine lv_aload_n hx hb dX5_finds_40 rfl (lv_at hl 2 rfl) ?_
          refine z_get B hW (92) (by omega) e92b rfl inX5 13 (by decide) hw_388 rfl (v := .ref (ad (105))) rfl dX5_finds_41 ?_
          refine lv_iload hx hb dX5_finds_44 (lv_at hl 0 rfl) ?_
          refine lv_aload_n hx hb dX5_finds_46 rfl (lv_at hl 2 rfl) ?_
          refine z_get B hW (92) (by omega) e92b rfl inX5 11 (by decide) hw_386 rfl (v := .ref (ad (103))) rfl dX5_finds_47 ?_
          refine lv_iload hx hb dX5_finds_50 (lv_at hl 0 rfl) ?_
          refine z_lald B hW (103) (by omega) h2 (i) (by omega) (by decide) (v := (lN (thn (bas k) v i i))) (h3 _ hi) dX5_finds_52 ?_
          refine z_last B hW (105) (by omega) h5 (i) (by omega) (by decide) dX5_finds_53 (fun H locs hW => ?_)
          obtain ⟨w3, hw3⟩ : ∃ w3, w3 = va_up w2 105 (eL G 4 (vp_updL g i (lN (thn (bas k) v i i)))) := ⟨_, rfl⟩
          rw [← hw3] at hW
          have k3 : ∀ j, j ≠ 105 → w3 j = w2 j := fun j hj => by rw [hw3, up_n hj]
          have h5c : w3 105 = eL G 4 (vp_updL g i (lN (thn (bas k) v i i))) := by rw [hw3, up_s]
          have e92c := (k3 92 (by decide)).trans e92b
          refine lv_aload_n hx hb dX5_finds_54 rfl (lv_at hl 2 rfl) ?_
          refine lv_iload_n hx hb dX5_finds_55 rfl (lv_at hl 4 rfl) ?_
          refine lv_iload hx hb dX5_finds_56 (lv_at hl 0 rfl) ?_
          refine call_vv B hA hW (92) (by omega) e92c (r := _) rfl rfl (k_M_fillBasis l G n ad w3 h9 r9 e92c hn (isL_of hD ((k3 101 (by decide)).trans (h1 101 (by decide) (by decide) (by decide)))) (isL_of h4 ((k3 99 (by decide)).trans (h1 99 (by decide) (by decide) (by decide)))) (isL_of h6 ((k3 100 (by decide)).trans (h1 100 (by decide) (by decide) (by decide)))) k i h12.1 hk40 hk2 h12.2 ⟨g4, (k3 104 (by decide)).trans h4b⟩) mf_X5_fillBasis hw_519 rfl ⟨⟨rfl, rfl⟩, by decide, by decide⟩ ⟨Nat.zero_le _, Nat.zero_le _⟩ hl.1 rfl (Nat.le_of_ble_eq_true rfl) dX5_finds_58 (fun w4 H locs hp hW => ?_)
          obtain ⟨k4, gb, eb, vb⟩ := hp
          have h2d : w4 103 = eL G 48 f := ((k4 103 (by decide)).trans (k3 103 (by decide))).trans h2
          have h5d := (k4 105 (by decide)).trans h5c
          have hpv := prt_lt (b := bas k) (rv i hi)
          unfold prt at hpv
          refine lv_iconst (v := nI 0) hx hb dX5_finds_61 (by decide) ?_
          refine lv_istore (lv' := [(5, .int (nI (0))), (4, .int (nI (i))), (3, .int (nI (zs k))), (0, .ref (ad (92))), (1, .ref (ad (kr))), (2, .int (nI (k)))]) hx hb dX5_finds_62 hl (by decide) rfl (fun ls hl => ?_)
          refine z_up (Wg := fun H locs ls => W p l e (zr 2) s m args below meth c H locs 0 0 _ (F0 m 64 ls [])) (I := fun q H locs ls => ∃ (w5 : Nat → va_E) (f5 : Nat → Int64), Wo G A s.heap n ad w5 H locs ∧ lv_has ls 6 [(5, .int (nI q)), (4, .int (nI i)), (3, .int (nI (zs k))), (0, .ref (ad 92)), (1, .ref (ad kr)), (2, .int (nI k))] ∧ (∀ j, j ≠ 103 → w5 j = w4 j) ∧ w5 103 = eL G 48 f5 ∧ (∀ j, j < q → f5 j = lN (thn (bas k) v (i + 1) j)) ∧ (∀ j, q ≤ j → j < zs k → f5 j = lN (thn (bas k) v i j))) (a := 0) (b := zs k) (Nat.zero_le _) ?_ ?_ H locs ls ⟨w4, f, hW, hl, fun _ _ => rfl, h2d, fun j h => by omega, fun j _ hj => h3 j hj⟩
          · rintro q - hq ih2 H locs ls ⟨w5, f5, hW, hl, c1, c2, c3, c4⟩
            have e92d := ((c1 92 (by decide)).trans (k4 92 (by decide))).trans e92c
            have eb5 := (c1 104 (by decide)).trans eb
            have h55 := (c1 105 (by decide)).trans h5d
            have htl := thn_lt (b := bas k) (rv q hq) i
            have hml : (1000003 - thn (bas k) v i i) * bas k i q ≤ 1000003 * 1000003 := Nat.mul_le_mul (Nat.sub_le _ _) (Nat.le_of_lt (bas_red k i q))
            refine lv_iload hx hb dX5_finds_64 (lv_at hl 0 rfl) ?_
            refine lv_iload_n hx hb dX5_finds_66 rfl (lv_at hl 2 rfl) ?_
            refine n_icmp_ge (tgt := 114) hx hb (by omega) (by omega) dX5_finds_67 (by decide) (fun hd => ?_) (fun hd => ?_)
            · omega
            · refine lv_aload_n hx hb dX5_finds_70 rfl (lv_at hl 3 rfl) ?_
              refine z_get B hW (92) (by omega) e92d rfl inX5 11 (by decide) hw_386 rfl (v := .ref (ad (103))) rfl dX5_finds_71 ?_
              refine lv_iload hx hb dX5_finds_74 (lv_at hl 0 rfl) ?_
              refine lv_aload_n hx hb dX5_finds_76 rfl (lv_at hl 3 rfl) ?_
              refine z_get B hW (92) (by omega) e92d rfl inX5 11 (by decide) hw_386 rfl (v := .ref (ad (103))) rfl dX5_finds_77 ?_
              refine lv_iload hx hb dX5_finds_80 (lv_at hl 0 rfl) ?_
              refine z_lald B hW (103) (by omega) c2 (q) (by omega) (by decide) (v := (lN (thn (bas k) v i q))) (c4 _ (Nat.le_refl _) hq) dX5_finds_82 ?_
              refine n_ldc2 B hw_372 (x := lN 1000003) (by decide) dX5_finds_83 ?_
              refine lv_aload_n hx hb dX5_finds_86 rfl (lv_at hl 3 rfl) ?_
              refine z_get B hW (92) (by omega) e92d rfl inX5 13 (by decide) hw_388 rfl (v := .ref (ad (105))) rfl dX5_finds_87 ?_
              refine lv_iload hx hb dX5_finds_90 (lv_at hl 1 rfl) ?_
              refine z_lald B hW (105) (by omega) h55 (i) (by omega) (by decide) (v := (lN (thn (bas k) v i i))) pk_uLs dX5_finds_92 ?_
              refine n_lsub hx hb (by omega) dX5_finds_93 ?_
              refine lv_aload_n hx hb dX5_finds_94 rfl (lv_at hl 3 rfl) ?_
              refine z_get B hW (92) (by omega) e92d rfl inX5 12 (by decide) hw_387 rfl (v := .ref (ad (104))) rfl dX5_finds_95 ?_
              refine lv_iload hx hb dX5_finds_98 (lv_at hl 0 rfl) ?_
              refine z_lald B hW (104) (by omega) eb5 (q) (by omega) (by decide) (v := (lN (bas k i q))) (vb _ (by omega)) dX5_finds_100 ?_
              refine n_lmul hx hb dX5_finds_101 ?_
              refine n_ladd hx hb dX5_finds_102 ?_
              refine n_ldc2 B hw_372 (x := lN 1000003) (by decide) dX5_finds_103 ?_
              refine n_lrem hx hb (by omega) (by omega) (by omega) dX5_finds_106 ?_
              refine z_last B hW (103) (by omega) c2 (q) (by omega) (by decide) dX5_finds_107 (fun H locs hW => ?_)
              refine lv_iinc (v := (nI (q + 1))) (lv' := [(5, .int (nI (q + 1))), (4, .int (nI (i))), (3, .int (nI (zs k))), (0, .ref (ad (92))), (1, .ref (ad (kr))), (2, .int (nI (k)))]) hx hb dX5_finds_108 hl (k := 0) rfl (iinc1 _) (by decide) rfl (fun ls hl => ?_)
              refine lv_goto (tgt := 64) hx hb dX5_finds_111 (by decide) ?_
              refine ih2 H locs ls ⟨_, _, hW, hl, fun j hj => by rw [up_n hj]; exact c1 j hj, up_s, fun j hj => ?_, fun j hj1 hj2 => ?_⟩
              · by_cases z : j = q
                · rw [z, pk_uLs]; rfl
                · rw [pk_uLn z]; exact c3 j (by omega)
              · rw [pk_uLn (by omega)]; exact c4 j (by omega) hj2
          · rintro H locs ls ⟨w5, f5, hW, hl, c1, c2, c3, c4⟩
            refine lv_iload hx hb dX5_finds_64 (lv_at hl 0 rfl) ?_
            refine lv_iload_n hx hb dX5_finds_66 rfl (lv_at hl 2 rfl) ?_
            refine n_icmp_ge (tgt := 114) hx hb (by omega) (by omega) dX5_finds_67 (by decide) (fun hd => ?_) (fun hd => ?_)
            · refine lv_iinc (v := (nI (i + 1))) (lv' := [(4, .int (nI (i + 1))), (5, .int (nI (zs k))), (3, .int (nI (zs k))), (0, .ref (ad (92))), (1, .ref (ad (kr))), (2, .int (nI (k)))]) hx hb dX5_finds_114 hl (k := 1) rfl (iinc1 _) (by decide) rfl (fun ls hl => ?_)
              refine lv_goto (tgt := 34) hx hb dX5_finds_117 (by decide) ?_
              refine ih H locs ls ⟨w5, f5, _, hW, lv_sub hl [0, 2, 3, 4, 5] rfl, fun j q1 q2 q3 => by rw [c1 j q1, k4 j q2, k3 j q3]; exact h1 j q1 q2 q3, c2, c3, ⟨gb, (c1 104 (by decide)).trans eb⟩, (c1 105 (by decide)).trans h5d, fun j hj => ?_⟩
              by_cases z : j = i
              · rw [z, pk_uLs]; rfl
              · rw [pk_uLn z]; exact h6b j (by omega)
            · omega
      · rintro H locs ls ⟨w2, f, g, hW, hl, h1, h2, h3, h4b, h5, h6b⟩
        refine lv_iload hx hb dX5_finds_34 (lv_at hl 0 rfl) ?_
        refine lv_iload_n hx hb dX5_finds_36 rfl (lv_at hl 1 rfl) ?_
        refine n_icmp_ge (tgt := 120) hx hb (by omega) (by omega) dX5_finds_37 (by decide) (fun hc => ?_) (fun hc => ?_)
        · exact ret_v B hr hlk hW ⟨h1, ⟨f, h2⟩, h4b, g, h5, h6b⟩ dX5_finds_120
        · omega
    · omega
set_option maxHeartbeats 4000000 in
set_option maxRecDepth 100000 in
theorem k_M_builds (l : Launch) (G : zG) (n : Nat) (ad : Nat → Nat) (w : Nat → va_E) (h9 r9 : Int32) (e92 : w 92 = mO ad h9 r9) (hn : 111 ≤ n) (hD : isL G w 101 48 dS) (h4 : isL G w 99 48 e4S) (h6 : isL G w 100 48 e6S) (k t9 : Nat) (pv : Nat → Nat) (hk40 : k ≤ 40) (hk2 : k % 2 = 0) (ht9 : zs k + t9 ≤ 4) (fp : Nat → Int64) (x105 : w 105 = eL G 4 fp) (vp : ∀ i, i < zs k → fp (i + t9) = lN (pv i)) (rp : ∀ i, i < zs k → pv i < 1000003) (h102 : ∃ f, w 102 = eL G 48 f) (h104 : ∃ f, w 104 = eL G 48 f) :
    Cv l G yX5_builds cdX5_builds (zr 2) n ad w [.ref (ad 92), .int (nI k), .int (nI t9)] (fun w' => (∀ j, j ≠ 102 → j ≠ 104 → w' j = w j) ∧ (∃ f, w' 104 = eL G 48 f) ∧ isL G w' 102 48 (bld (bas k) (zs k) pv)) := by
  have hzl := zs_le k hk40
  obtain ⟨f102, x102⟩ := h102
  obtain ⟨f104, x104⟩ := h104
  refine ent_v (cc := cX5_builds) (maxL := 5) (ret := none) (by decide +kernel) rfl (Nat.le_of_ble_eq_true rfl) ?_
  intro p e s m args below meth c A B hr hlk hA H locs ls hW hl
  have hx := B.1
  have hb := B.2.1
  have hl : lv_has ls 5 [(0, .ref (ad (92))), (1, .int (nI (k))), (2, .int (nI (t9)))] := hl
  refine lv_iconst (v := nI 0) hx hb dX5_builds_0 (by decide) ?_
  refine lv_istore_n (lv' := [(3, .int (nI (0))), (0, .ref (ad (92))), (1, .int (nI (k))), (2, .int (nI (t9)))]) hx hb dX5_builds_1 rfl hl (by decide) rfl (fun ls hl => ?_)
  refine z_up (Wg := fun H locs ls => W p l e (zr 2) s m args below meth c H locs 0 0 _ (F0 m 2 ls [])) (I := fun q H locs ls => ∃ (w2 : Nat → va_E) (f : Nat → Int64), Wo G A s.heap n ad w2 H locs ∧ lv_has ls 5 [(3, .int (nI q)), (0, .ref (ad 92)), (1, .int (nI k)), (2, .int (nI t9))] ∧ (∀ j, j ≠ 102 → w2 j = w j) ∧ w2 102 = eL G 48 f ∧ (∀ j, j < q → f j = lN 0)) (a := 0) (b := 48) (Nat.zero_le _) ?_ ?_ H locs ls ⟨w, f102, hW, hl, fun _ _ => rfl, x102, fun j h => by omega⟩
  · rintro q - hq ih H locs ls ⟨w2, f, hW, hl, h1, h2, h3⟩
    have e92b := (h1 92 (by decide)).trans e92
    refine lv_iload_n hx hb dX5_builds_2 rfl (lv_at hl 0 rfl) ?_
    refine lv_bipush (v := nI 48) hx hb dX5_builds_3 (by decide) ?_
    refine n_icmp_ge (tgt := 21) hx hb (by omega) (by omega) dX5_builds_5 (by decide) (fun hc => ?_) (fun hc => ?_)
    · omega
    · refine lv_aload_n hx hb dX5_builds_8 rfl (lv_at hl 1 rfl) ?_
      refine z_get B hW (92) (by omega) e92b rfl inX5 10 (by decide) hw_385 rfl (v := .ref (ad (102))) rfl dX5_builds_9 ?_
      refine lv_iload_n hx hb dX5_builds_12 rfl (lv_at hl 0 rfl) ?_
      refine lv_lconst (v := lN 0) hx hb dX5_builds_13 (by decide) ?_
      refine z_last B hW (102) (by omega) h2 (q) (by omega) (by decide) dX5_builds_14 (fun H locs hW => ?_)
      refine lv_iinc (v := (nI (q + 1))) (lv' := [(3, .int (nI (q + 1))), (0, .ref (ad (92))), (1, .int (nI (k))), (2, .int (nI (t9)))]) hx hb dX5_builds_15 hl (k := 0) rfl (iinc1 _) (by decide) rfl (fun ls hl => ?_)
      refine lv_goto (tgt := 2) hx hb dX5_builds_18 (by decide) ?_
      refine ih H locs ls ⟨_, _, hW, hl, fun j hj => by rw [up_n hj]; exact h1 j hj, up_s, fun j hj => ?_⟩
      by_cases z : j = q
      · rw [z, pk_uLs]
      · rw [pk_uLn z]; exact h3 j (by omega)
  · rintro H locs ls ⟨w2, f, hW, hl, h1, h2, h3⟩
    refine lv_iload_n hx hb dX5_builds_2 rfl (lv_at hl 0 rfl) ?_
    refine lv_bipush (v := nI 48) hx hb dX5_builds_3 (by decide) ?_
    refine n_icmp_ge (tgt := 21) hx hb (by omega) (by omega) dX5_builds_5 (by decide) (fun hc => ?_) (fun hc => ?_)
    · refine lv_iconst (v := nI 0) hx hb dX5_builds_21 (by decide) ?_
      refine lv_istore_n (lv' := [(3, .int (nI (0))), (0, .ref (ad (92))), (1, .int (nI (k))), (2, .int (nI (t9)))]) hx hb dX5_builds_22 rfl hl (by decide) rfl (fun ls hl => ?_)
      refine z_up (Wg := fun H locs ls => W p l e (zr 2) s m args below meth c H locs 0 0 _ (F0 m 23 ls [])) (I := fun i H locs ls => ∃ (w2 : Nat → va_E) (f : Nat → Int64), Wo G A s.heap n ad w2 H locs ∧ lv_has ls 5 [(3, .int (nI i)), (0, .ref (ad 92)), (1, .int (nI k)), (2, .int (nI t9))] ∧ (∀ j, j ≠ 102 → j ≠ 104 → w2 j = w j) ∧ w2 102 = eL G 48 f ∧ (∀ j, j < 48 → f j = lN (sm (fun q => pv q * bas k q j) i % 1000003)) ∧ (∃ g4, w2 104 = eL G 48 g4)) (a := 0) (b := zs k) (Nat.zero_le _) ?_ ?_ H locs ls ⟨w2, f, hW, hl, fun j q1 _ => h1 j q1, h2, h3, ⟨f104, (h1 104 (by decide)).trans x104⟩⟩
      · rintro i - hi ih H locs ls ⟨w2, f, hW, hl, h1, h2, h3, ⟨g4, h4b⟩⟩
        have e92b := (h1 92 (by decide) (by decide)).trans e92
        have h12 := zs_i12 k hk40 hk2 i hi
        refine lv_iload_n hx hb dX5_builds_23 rfl (lv_at hl 0 rfl) ?_
        refine lv_iload_n hx hb dX5_builds_24 rfl (lv_at hl 2 rfl) ?_
        refine call_si B hA hW (k_M_sizeOf l G n ad w2 k hk40 hk2) mf_X5_sizeOf hw_513 rfl ⟨⟨rfl, rfl⟩, by decide, by decide⟩ ⟨Nat.zero_le _, Nat.zero_le _⟩ hl.1 rfl (Nat.le_of_ble_eq_true rfl) dX5_builds_25 (fun r w9 H locs hp hW => ?_)
        obtain ⟨e1, e2⟩ := hp
        rw [e1] at hW
        subst e2
        refine n_icmp_ge (tgt := 94) hx hb (by omega) (by omega) dX5_builds_28 (by decide) (fun hc => ?_) (fun hc => ?_)
        · omega
        · refine lv_aload_n hx hb dX5_builds_31 rfl (lv_at hl 1 rfl) ?_
          refine lv_iload_n hx hb dX5_builds_32 rfl (lv_at hl 2 rfl) ?_
          refine lv_iload_n hx hb dX5_builds_33 rfl (lv_at hl 0 rfl) ?_
          refine call_vv B hA hW (92) (by omega) e92b (r := _) rfl rfl (k_M_fillBasis l G n ad w2 h9 r9 e92b hn (isL_of hD (h1 101 (by decide) (by decide))) (isL_of h4 (h1 99 (by decide) (by decide))) (isL_of h6 (h1 100 (by decide) (by decide))) k i h12.1 hk40 hk2 h12.2 ⟨g4, h4b⟩) mf_X5_fillBasis hw_519 rfl ⟨⟨rfl, rfl⟩, by decide, by decide⟩ ⟨Nat.zero_le _, Nat.zero_le _⟩ hl.1 rfl (Nat.le_of_ble_eq_true rfl) dX5_builds_34 (fun w4 H locs hp hW => ?_)
          obtain ⟨k4, gb, eb, vb⟩ := hp
          have h2d := (k4 102 (by decide)).trans h2
          refine lv_iconst (v := nI 0) hx hb dX5_builds_37 (by decide) ?_
          refine lv_istore (lv' := [(4, .int (nI (0))), (3, .int (nI (i))), (0, .ref (ad (92))), (1, .int (nI (k))), (2, .int (nI (t9)))]) hx hb dX5_builds_38 hl (by decide) rfl (fun ls hl => ?_)
          refine z_up (Wg := fun H locs ls => W p l e (zr 2) s m args below meth c H locs 0 0 _ (F0 m 40 ls [])) (I := fun q H locs ls => ∃ (w5 : Nat → va_E) (f5 : Nat → Int64), Wo G A s.heap n ad w5 H locs ∧ lv_has ls 5 [(4, .int (nI q)), (3, .int (nI i)), (0, .ref (ad 92)), (1, .int (nI k)), (2, .int (nI t9))] ∧ (∀ j, j ≠ 102 → w5 j = w4 j) ∧ w5 102 = eL G 48 f5 ∧ (∀ j, j < q → f5 j = lN (sm (fun q => pv q * bas k q j) (i + 1) % 1000003)) ∧ (∀ j, q ≤ j → j < 48 → f5 j = lN (sm (fun q => pv q * bas k q j) i % 1000003))) (a := 0) (b := 48) (Nat.zero_le _) ?_ ?_ H locs ls ⟨w4, f, hW, hl, fun _ _ => rfl, h2d, fun j h => by omega, fun j _ hj => h3 j hj⟩
          · rintro q - hq ih2 H locs ls ⟨w5, f5, hW, hl, c1, c2, c3, c4⟩
            have e92d := ((c1 92 (by decide)).trans (k4 92 (by decide))).trans e92b
            have eb5 := (c1 104 (by decide)).trans eb
            have h55 := (((c1 105 (by decide)).trans (k4 105 (by decide))).trans (h1 105 (by decide) (by decide))).trans x105
            have hm1 := Nat.mod_lt (sm (fun r => pv r * bas k r q) i) (show 0 < 1000003 by decide)
            have hm2 := mul_lt (rp i hi) (bas_red k i q)
            have hsm := sm_mod1 (fun r => pv r * bas k r q) i
            refine lv_iload hx hb dX5_builds_40 (lv_at hl 0 rfl) ?_
            refine lv_bipush (v := nI 48) hx hb dX5_builds_42 (by decide) ?_
            refine n_icmp_ge (tgt := 88) hx hb (by omega) (by omega) dX5_builds_44 (by decide) (fun hd => ?_) (fun hd => ?_)
            · omega
            · refine lv_aload_n hx hb dX5_builds_47 rfl (lv_at hl 2 rfl) ?_
              refine z_get B hW (92) (by omega) e92d rfl inX5 10 (by decide) hw_385 rfl (v := .ref (ad (102))) rfl dX5_builds_48 ?_
              refine lv_iload hx hb dX5_builds_51 (lv_at hl 0 rfl) ?_
              refine lv_aload_n hx hb dX5_builds_53 rfl (lv_at hl 2 rfl) ?_
              refine z_get B hW (92) (by omega) e92d rfl inX5 10 (by decide) hw_385 rfl (v := .ref (ad (102))) rfl dX5_builds_54 ?_
              refine lv_iload hx hb dX5_builds_57 (lv_at hl 0 rfl) ?_
              refine z_lald B hW (102) (by omega) c2 (q) (by omega) (by decide) (v := (lN (sm (fun r => pv r * bas k r q) i % 1000003))) (c4 _ (Nat.le_refl _) hq) dX5_builds_59 ?_
              refine lv_aload_n hx hb dX5_builds_60 rfl (lv_at hl 2 rfl) ?_
              refine z_get B hW (92) (by omega) e92d rfl inX5 13 (by decide) hw_388 rfl (v := .ref (ad (105))) rfl dX5_builds_61 ?_
              refine lv_iload_n hx hb dX5_builds_64 rfl (lv_at hl 1 rfl) ?_
              refine lv_iload_n hx hb dX5_builds_65 rfl (lv_at hl 4 rfl) ?_
              refine n_iadd hx hb dX5_builds_66 ?_
              refine z_lald B hW (105) (by omega) h55 (i + t9) (by omega) (by decide) (v := (lN (pv i))) (vp _ hi) dX5_builds_67 ?_
              refine lv_aload_n hx hb dX5_builds_68 rfl (lv_at hl 2 rfl) ?_
              refine z_get B hW (92) (by omega) e92d rfl inX5 12 (by decide) hw_387 rfl (v := .ref (ad (104))) rfl dX5_builds_69 ?_
              refine lv_iload hx hb dX5_builds_72 (lv_at hl 0 rfl) ?_
              refine z_lald B hW (104) (by omega) eb5 (q) (by omega) (by decide) (v := (lN (bas k i q))) (vb _ hq) dX5_builds_74 ?_
              refine n_lmul hx hb dX5_builds_75 ?_
              refine n_ladd hx hb dX5_builds_76 ?_
              refine n_ldc2 B hw_372 (x := lN 1000003) (by decide) dX5_builds_77 ?_
              refine n_lrem hx hb (by omega) (by omega) (by omega) dX5_builds_80 ?_
              refine topl (y := (lN (sm (fun r => pv r * bas k r q) (i + 1) % 1000003))) (by rw [← hsm]) ?_
              refine z_last B hW (102) (by omega) c2 (q) (by omega) (by decide) dX5_builds_81 (fun H locs hW => ?_)
              refine lv_iinc (v := (nI (q + 1))) (lv' := [(4, .int (nI (q + 1))), (3, .int (nI (i))), (0, .ref (ad (92))), (1, .int (nI (k))), (2, .int (nI (t9)))]) hx hb dX5_builds_82 hl (k := 0) rfl (iinc1 _) (by decide) rfl (fun ls hl => ?_)
              refine lv_goto (tgt := 40) hx hb dX5_builds_85 (by decide) ?_
              refine ih2 H locs ls ⟨_, _, hW, hl, fun j hj => by rw [up_n hj]; exact c1 j hj, up_s, fun j hj => ?_, fun j hj1 hj2 => ?_⟩
              · by_cases z : j = q
                · rw [z, pk_uLs]
                · rw [pk_uLn z]; exact c3 j (by omega)
              · rw [pk_uLn (by omega)]; exact c4 j (by omega) hj2
          · rintro H locs ls ⟨w5, f5, hW, hl, c1, c2, c3, c4⟩
            refine lv_iload hx hb dX5_builds_40 (lv_at hl 0 rfl) ?_
            refine lv_bipush (v := nI 48) hx hb dX5_builds_42 (by decide) ?_
            refine n_icmp_ge (tgt := 88) hx hb (by omega) (by omega) dX5_builds_44 (by decide) (fun hd => ?_) (fun hd => ?_)
            · refine lv_iinc (v := (nI (i + 1))) (lv' := [(3, .int (nI (i + 1))), (4, .int (nI (48))), (0, .ref (ad (92))), (1, .int (nI (k))), (2, .int (nI (t9)))]) hx hb dX5_builds_88 hl (k := 1) rfl (iinc1 _) (by decide) rfl (fun ls hl => ?_)
              refine lv_goto (tgt := 23) hx hb dX5_builds_91 (by decide) ?_
              exact ih H locs ls ⟨w5, f5, hW, lv_sub hl [0, 2, 3, 4] rfl, fun j q1 q2 => by rw [c1 j q1, k4 j q2]; exact h1 j q1 q2, c2, c3, ⟨gb, (c1 104 (by decide)).trans eb⟩⟩
            · omega
      · rintro H locs ls ⟨w2, f, hW, hl, h1, h2, h3, h4b⟩
        refine lv_iload_n hx hb dX5_builds_23 rfl (lv_at hl 0 rfl) ?_
        refine lv_iload_n hx hb dX5_builds_24 rfl (lv_at hl 2 rfl) ?_
        refine call_si B hA hW (k_M_sizeOf l G n ad w2 k hk40 hk2) mf_X5_sizeOf hw_513 rfl ⟨⟨rfl, rfl⟩, by decide, by decide⟩ ⟨Nat.zero_le _, Nat.zero_le _⟩ hl.1 rfl (Nat.le_of_ble_eq_true rfl) dX5_builds_25 (fun r w9 H locs hp hW => ?_)
        obtain ⟨e1, e2⟩ := hp
        rw [e1] at hW
        subst e2
        refine n_icmp_ge (tgt := 94) hx hb (by omega) (by omega) dX5_builds_28 (by decide) (fun hc => ?_) (fun hc => ?_)
        · exact ret_v B hr hlk hW ⟨h1, h4b, f, h2, h3⟩ dX5_builds_94
        · omega
    · omega
set_option maxHeartbeats 4000000 in
set_option maxRecDepth 100000 in
theorem k_M_doesTo (l : Launch) (G : zG) (n : Nat) (ad : Nat → Nat) (w : Nat → va_E) (h9 r9 : Int32) (e92 : w 92 = mO ad h9 r9) (hn : 111 ≤ n) (hD : isL G w 101 48 dS) (h4 : isL G w 99 48 e4S) (h6 : isL G w 100 48 e6S) (k p9 : Nat) (a : Nat → Nat) (hk40 : k ≤ 40) (hk1 : 1 ≤ k) (hk2 : k % 2 = 0) (hp1 : 2 ≤ p9) (hp2 : p9 ≤ 11) (ha : isL G w 106 48 a) (ra : sM a) (h102 : ∃ f, w 102 = eL G 48 f) (h103 : ∃ f, w 103 = eL G 48 f) (h104 : ∃ f, w 104 = eL G 48 f) (h105 : ∃ f, w 105 = eL G 4 f) :
    Cv l G yX5_doesTo cdX5_doesTo (zr 3) n ad w [.ref (ad 92), .int (nI k), .int (nI p9)] (fun w' => (∀ j, j ≠ 102 → j ≠ 103 → j ≠ 104 → j ≠ 105 → w' j = w j) ∧ (∃ f, w' 102 = eL G 48 f) ∧ (∃ f, w' 103 = eL G 48 f) ∧ (∃ f, w' 104 = eL G 48 f) ∧ ∃ f, w' 105 = eL G 4 f ∧ ∀ i, i < zs k → f i = lN (prt (bas k) (imgS k p9 a) i)) := by
  have hzl := zs_le k hk40
  obtain ⟨f102, x102⟩ := h102
  obtain ⟨fa, ea, va⟩ := ha
  refine ent_v (cc := cX5_doesTo) (maxL := 5) (ret := none) (by decide +kernel) rfl (Nat.le_of_ble_eq_true rfl) ?_
  intro p e s m args below meth c A B hr hlk hA H locs ls hW hl
  have hx := B.1
  have hb := B.2.1
  have hl : lv_has ls 5 [(0, .ref (ad (92))), (1, .int (nI (k))), (2, .int (nI (p9)))] := hl
  refine lv_iload_n hx hb dX5_doesTo_0 rfl (lv_at hl 1 rfl) ?_
  refine call_si B hA hW (k_M_sizeOf l G n ad w k hk40 hk2) mf_X5_sizeOf hw_513 rfl ⟨⟨rfl, rfl⟩, by decide, by decide⟩ ⟨Nat.zero_le _, Nat.zero_le _⟩ hl.1 rfl (Nat.le_of_ble_eq_true rfl) dX5_doesTo_1 (fun r w9 H locs hp hW => ?_)
  obtain ⟨e1, e2⟩ := hp
  rw [e1] at hW
  subst e2
  refine lv_istore_n (lv' := [(3, .int (nI (zs k))), (0, .ref (ad (92))), (1, .int (nI (k))), (2, .int (nI (p9)))]) hx hb dX5_doesTo_4 rfl hl (by decide) rfl (fun ls hl => ?_)
  refine lv_iconst (v := nI 0) hx hb dX5_doesTo_5 (by decide) ?_
  refine lv_istore (lv' := [(4, .int (nI (0))), (3, .int (nI (zs k))), (0, .ref (ad (92))), (1, .int (nI (k))), (2, .int (nI (p9)))]) hx hb dX5_doesTo_6 hl (by decide) rfl (fun ls hl => ?_)
  refine z_up (Wg := fun H locs ls => W p l e (zr 3) s m args below meth c H locs 0 0 _ (F0 m 8 ls [])) (I := fun q H locs ls => ∃ (w2 : Nat → va_E) (f : Nat → Int64), Wo G A s.heap n ad w2 H locs ∧ lv_has ls 5 [(4, .int (nI q)), (3, .int (nI (zs k))), (0, .ref (ad 92)), (1, .int (nI k)), (2, .int (nI p9))] ∧ (∀ j, j ≠ 102 → w2 j = w j) ∧ w2 102 = eL G 48 f ∧ (∀ j, j < q → f j = lN (imgS k p9 a j))) (a := 0) (b := zs k) (Nat.zero_le _) ?_ ?_ H locs ls ⟨w, f102, hW, hl, fun _ _ => rfl, x102, fun j h => by omega⟩
  · rintro i - hi ih H locs ls ⟨w2, f, hW, hl, h1, h2, h3⟩
    have e92b := (h1 92 (by decide)).trans e92
    have eab := (h1 106 (by decide)).trans ea
    have hpi : p9 * i ≤ 33 := Nat.le_trans (Nat.mul_le_mul hp2 (show i ≤ 3 by omega)) (by decide)
    have hip : i / p9 < 48 := Nat.lt_of_le_of_lt (Nat.div_le_self _ _) (by omega)
    have hal := ra (i / p9) hip
    have hal2 := ra (p9 * i) (by omega)
    have hfl := Nat.mod_lt (p9 ^ (k - 1)) (show 0 < 1000003 by decide)
    have hmm := mul_lt hfl hal
    have hrl := Nat.mod_lt i (show 0 < p9 by omega)
    refine lv_iload hx hb dX5_doesTo_8 (lv_at hl 0 rfl) ?_
    refine lv_iload_n hx hb dX5_doesTo_10 rfl (lv_at hl 1 rfl) ?_
    refine n_icmp_ge (tgt := 70) hx hb (by omega) (by omega) dX5_doesTo_11 (by decide) (fun hc => ?_) (fun hc => ?_)
    · omega
    · refine lv_aload_n hx hb dX5_doesTo_14 rfl (lv_at hl 2 rfl) ?_
      refine z_get B hW (92) (by omega) e92b rfl inX5 10 (by decide) hw_385 rfl (v := .ref (ad (102))) rfl dX5_doesTo_15 ?_
      refine lv_iload hx hb dX5_doesTo_18 (lv_at hl 0 rfl) ?_
      refine lv_aload_n hx hb dX5_doesTo_20 rfl (lv_at hl 2 rfl) ?_
      refine z_get B hW (92) (by omega) e92b rfl inX5 14 (by decide) hw_389 rfl (v := .ref (ad (106))) rfl dX5_doesTo_21 ?_
      refine lv_iload_n hx hb dX5_doesTo_24 rfl (lv_at hl 4 rfl) ?_
      refine lv_iload hx hb dX5_doesTo_25 (lv_at hl 0 rfl) ?_
      refine n_imul hx hb dX5_doesTo_27 ?_
      refine z_lald B hW (106) (by omega) eab (p9 * i) (by omega) (by decide) (v := (lN (a (p9 * i)))) (va _ (by omega)) dX5_doesTo_28 ?_
      refine lv_iload hx hb dX5_doesTo_29 (lv_at hl 0 rfl) ?_
      refine lv_iload_n hx hb dX5_doesTo_31 rfl (lv_at hl 4 rfl) ?_
      refine n_irem hx hb (by omega) (by omega) (by omega) dX5_doesTo_32 ?_
      refine n_if_ne (tgt := 57) hx hb (by omega) dX5_doesTo_33 (by decide) (fun hd => ?_) (fun hd => ?_)
      · refine lv_lconst (v := lN 0) hx hb dX5_doesTo_57 (by decide) ?_
        refine n_ladd hx hb dX5_doesTo_58 ?_
        refine n_ldc2 B hw_372 (x := lN 1000003) (by decide) dX5_doesTo_59 ?_
        refine n_lrem hx hb (by omega) (by omega) (by omega) dX5_doesTo_62 ?_
        refine topl (y := (lN (imgS k p9 a i))) (by unfold imgS; rw [if_neg hd]) ?_
        refine z_last B hW (102) (by omega) h2 (i) (by omega) (by decide) dX5_doesTo_63 (fun H locs hW => ?_)
        refine lv_iinc (v := (nI (i + 1))) (lv' := [(4, .int (nI (i + 1))), (3, .int (nI (zs k))), (0, .ref (ad (92))), (1, .int (nI (k))), (2, .int (nI (p9)))]) hx hb dX5_doesTo_64 hl (k := 0) rfl (iinc1 _) (by decide) rfl (fun ls hl => ?_)
        refine lv_goto (tgt := 8) hx hb dX5_doesTo_67 (by decide) ?_
        refine ih H locs ls ⟨_, _, hW, hl, fun j hj => by rw [up_n hj]; exact h1 j hj, up_s, fun j hj => ?_⟩
        by_cases z : j = i
        · rw [z, pk_uLs]
        · rw [pk_uLn z]; exact h3 j (by omega)
      · refine lv_iload_n hx hb dX5_doesTo_36 rfl (lv_at hl 4 rfl) ?_
        refine n_i2l hx hb (by omega) dX5_doesTo_37 ?_
        refine lv_iload_n hx hb dX5_doesTo_38 rfl (lv_at hl 3 rfl) ?_
        refine lv_iconst (v := nI 1) hx hb dX5_doesTo_39 (by decide) ?_
        refine n_isub hx hb (by omega) dX5_doesTo_40 ?_
        refine call_sl B hA hW (k_M_raised l G n ad w2 p9 (k - 1) (by omega) (by omega)) mf_X5_raised hw_369 rfl ⟨⟨rfl, rfl⟩, by decide, by decide⟩ ⟨Nat.zero_le _, Nat.zero_le _⟩ hl.1 rfl (Nat.le_of_ble_eq_true rfl) dX5_doesTo_41 (fun r w9 H locs hp hW => ?_)
        obtain ⟨e1, e2⟩ := hp
        rw [e1] at hW
        subst e2
        refine lv_aload_n hx hb dX5_doesTo_44 rfl (lv_at hl 2 rfl) ?_
        refine z_get B hW (92) (by omega) e92b rfl inX5 14 (by decide) hw_389 rfl (v := .ref (ad (106))) rfl dX5_doesTo_45 ?_
        refine lv_iload hx hb dX5_doesTo_48 (lv_at hl 0 rfl) ?_
        refine lv_iload_n hx hb dX5_doesTo_50 rfl (lv_at hl 4 rfl) ?_
        refine n_idiv hx hb (by omega) (by omega) (by omega) dX5_doesTo_51 ?_
        refine z_lald B hW (106) (by omega) eab (i / p9) (by omega) (by decide) (v := (lN (a (i / p9)))) (va _ (by omega)) dX5_doesTo_52 ?_
        refine n_lmul hx hb dX5_doesTo_53 ?_
        refine lv_goto (tgt := 58) hx hb dX5_doesTo_54 (by decide) ?_
        refine n_ladd hx hb dX5_doesTo_58 ?_
        refine n_ldc2 B hw_372 (x := lN 1000003) (by decide) dX5_doesTo_59 ?_
        refine n_lrem hx hb (by omega) (by omega) (by omega) dX5_doesTo_62 ?_
        refine topl (y := (lN (imgS k p9 a i))) (by unfold imgS; rw [if_pos hd]) ?_
        refine z_last B hW (102) (by omega) h2 (i) (by omega) (by decide) dX5_doesTo_63 (fun H locs hW => ?_)
        refine lv_iinc (v := (nI (i + 1))) (lv' := [(4, .int (nI (i + 1))), (3, .int (nI (zs k))), (0, .ref (ad (92))), (1, .int (nI (k))), (2, .int (nI (p9)))]) hx hb dX5_doesTo_64 hl (k := 0) rfl (iinc1 _) (by decide) rfl (fun ls hl => ?_)
        refine lv_goto (tgt := 8) hx hb dX5_doesTo_67 (by decide) ?_
        refine ih H locs ls ⟨_, _, hW, hl, fun j hj => by rw [up_n hj]; exact h1 j hj, up_s, fun j hj => ?_⟩
        by_cases z : j = i
        · rw [z, pk_uLs]
        · rw [pk_uLn z]; exact h3 j (by omega)
  · rintro H locs ls ⟨w2, f, hW, hl, h1, h2, h3⟩
    have e92b := (h1 92 (by decide)).trans e92
    refine lv_iload hx hb dX5_doesTo_8 (lv_at hl 0 rfl) ?_
    refine lv_iload_n hx hb dX5_doesTo_10 rfl (lv_at hl 1 rfl) ?_
    refine n_icmp_ge (tgt := 70) hx hb (by omega) (by omega) dX5_doesTo_11 (by decide) (fun hc => ?_) (fun hc => ?_)
    · refine lv_aload_n hx hb dX5_doesTo_70 rfl (lv_at hl 2 rfl) ?_
      refine lv_aload_n hx hb dX5_doesTo_71 rfl (lv_at hl 2 rfl) ?_
      refine z_get B hW (92) (by omega) e92b rfl inX5 10 (by decide) hw_385 rfl (v := .ref (ad (102))) rfl dX5_doesTo_72 ?_
      refine lv_iload_n hx hb dX5_doesTo_75 rfl (lv_at hl 3 rfl) ?_
      refine call_vv B hA hW (92) (by omega) e92b (r := _) rfl rfl (k_M_finds l G n ad w2 h9 r9 e92b hn (isL_of hD (h1 101 (by decide))) (isL_of h4 (h1 99 (by decide))) (isL_of h6 (h1 100 (by decide))) 102 k (imgS k p9 a) hk40 hk2 (by omega) (by decide) (by decide) (by decide) f h2 h3 (fun _ _ => imgS_lt _ _ _ _) (by rw [h1 103 (by decide)]; exact h103) (by rw [h1 104 (by decide)]; exact h104) (by rw [h1 105 (by decide)]; exact h105)) mf_X5_finds hw_509 rfl ⟨⟨rfl, rfl⟩, by decide, by decide⟩ ⟨Nat.zero_le _, Nat.zero_le _⟩ hl.1 rfl (Nat.le_of_ble_eq_true rfl) dX5_doesTo_76 (fun w3 H locs hp hW => ?_)
      obtain ⟨g1, g2, g3, g4⟩ := hp
      exact ret_v B hr hlk hW ⟨fun j q1 q2 q3 q4 => (g1 j q2 q3 q4).trans (h1 j q1), ⟨f, (g1 102 (by decide) (by decide) (by decide)).trans h2⟩, g2, g3, g4⟩ dX5_doesTo_79
    · omega
