set_option maxHeartbeats 4000000 in
set_option maxRecDepth 100000 in
theorem k_rowOf (l : Launch) (G : zG) (n : Nat) (ad : Nat → Nat) (w : Nat → va_E) (k i nf : Nat) (hn : 55 ≤ n) (hk : k ≤ 40) (hk2 : k % 2 = 0) (hi : i < zs k) (hB : BOK G ad w nf nf) :
    Cr l G yX0_rowOf cdX0_rowOf (zr 2) n ad w [.ref (ad 2), .int (nI k), .int (nI i)] (fun q w' => q = ad (11 + (fst k + i)) ∧ BOK G ad w' (max nf (k + 2)) (max nf (k + 2)) ∧ fr1 w w' ∧ isL G w' (11 + (fst k + i)) 48 (bas k i)) := by
  have hzl := zs_le k hk
  obtain ⟨b2, b3, b4, b5, b6, ⟨fz, b7, c7⟩, ⟨ff, b8, c8⟩, ⟨fr, b10, c10⟩, bR, bc, bl, bB⟩ := id hB
  refine ent_r (cc := cX0_rowOf) (maxL := 4) (ret := (some (.array .long))) (by decide +kernel) rfl (Nat.le_of_ble_eq_true rfl) ?_
  intro p e s m args below meth c A B hr hlk hA H locs ls hW hl
  have hx := B.1
  have hb := B.2.1
  have hl : lv_has ls 4 [(0, .ref (ad (2))), (1, .int (nI (k))), (2, .int (nI (i)))] := hl
  refine lv_aload_n hx hb dX0_rowOf_0 rfl (lv_at hl 0 rfl) ?_
  refine z_get B hW (2) (by omega) b2 rfl inX0 7 (by decide) hw_75 rfl (v := .int (nI (nf))) rfl dX0_rowOf_1 ?_
  refine lv_istore_n (lv' := [(3, .int (nI (nf))), (0, .ref (ad (2))), (1, .int (nI (k))), (2, .int (nI (i)))]) hx hb dX0_rowOf_4 rfl hl (by decide) rfl (fun ls hl => ?_)
  refine z_up (Wg := fun H locs ls => W p l e (zr 2) s m args below meth c H locs 0 0 _ (F0 m 5 ls [])) (I := fun j H locs ls => ∃ w2 : Nat → va_E, Wo G A s.heap n ad w2 H locs ∧ lv_has ls 4 [(3, .int (nI (nf + 2 * j))), (0, .ref (ad 2)), (1, .int (nI k)), (2, .int (nI i))] ∧ BOK G ad w2 nf (nf + 2 * j) ∧ fr1 w w2) (a := 0) (b := (k + 2 - nf) / 2) (Nat.zero_le _) ?_ ?_ H locs ls ⟨w, hW, hl, hB, fr1.rf⟩
  · rintro j - hj ih H locs ls ⟨w2, hW, hl, hB2, hfr⟩
    clear b2 b3 b4 b5 b6 b7 c7 b8 c8 b10 c10 bR bB
    obtain ⟨b2, b3, b4, b5, b6, ⟨fz, b7, c7⟩, ⟨ff, b8, c8⟩, ⟨fr, b10, c10⟩, bR, bc, bl, bB⟩ := id hB2
    refine lv_iload_n hx hb dX0_rowOf_5 rfl (lv_at hl 0 rfl) ?_
    refine lv_iload_n hx hb dX0_rowOf_6 rfl (lv_at hl 2 rfl) ?_
    refine n_icmp_gt (tgt := 21) hx hb (by omega) (by omega) dX0_rowOf_7 (by decide) (fun hc => ?_) (fun hc => ?_)
    · omega
    · refine lv_aload_n hx hb dX0_rowOf_10 rfl (lv_at hl 1 rfl) ?_
      refine lv_iload_n hx hb dX0_rowOf_11 rfl (lv_at hl 0 rfl) ?_
      refine call_vv B hA hW (2) (by omega) b2 (r := _) rfl rfl (k_makeRows l G n ad w2 (nf + 2 * j) nf hn (by omega) hB2) mf_X0_makeRows hw_235 rfl ⟨⟨rfl, rfl⟩, by decide, by decide⟩ ⟨Nat.zero_le _, Nat.zero_le _⟩ hl.1 rfl (Nat.le_of_ble_eq_true rfl) dX0_rowOf_12 (fun w3 H locs hp hW => ?_)
      refine lv_iinc (v := (nI (nf + 2 * j + 2))) (lv' := [(3, .int (nI (nf + 2 * j + 2))), (0, .ref (ad (2))), (1, .int (nI (k))), (2, .int (nI (i)))]) hx hb dX0_rowOf_15 hl (k := 0) rfl (iincN 2 _) (by decide) rfl (fun ls hl => ?_)
      refine lv_goto (tgt := 5) hx hb dX0_rowOf_18 (by decide) ?_
      exact ih H locs ls ⟨w3, hW, hl, hp.1, hfr.tr hp.2⟩
  · rintro H locs ls ⟨w2, hW, hl, hB2, hfr⟩
    clear b2 b3 b4 b5 b6 b7 c7 b8 c8 b10 c10 bR bB
    have hmx : nf + 2 * ((k + 2 - nf) / 2) = max nf (k + 2) := by omega
    rw [hmx] at hB2 hl
    obtain ⟨b2, b3, b4, b5, b6, ⟨fz, b7, c7⟩, ⟨ff, b8, c8⟩, ⟨fr, b10, c10⟩, bR, bc, bl, bB⟩ := id hB2
    refine lv_iload_n hx hb dX0_rowOf_5 rfl (lv_at hl 0 rfl) ?_
    refine lv_iload_n hx hb dX0_rowOf_6 rfl (lv_at hl 2 rfl) ?_
    refine n_icmp_gt (tgt := 21) hx hb (by omega) (by omega) dX0_rowOf_7 (by decide) (fun hc => ?_) (fun hc => ?_)
    · refine lv_aload_n hx hb dX0_rowOf_21 rfl (lv_at hl 1 rfl) ?_
      refine lv_aload_n hx hb dX0_rowOf_22 rfl (lv_at hl 1 rfl) ?_
      refine z_get B hW (2) (by omega) b2 rfl inX0 7 (by decide) hw_75 rfl (v := .int (nI (nf))) rfl dX0_rowOf_23 ?_
      refine lv_iload_n hx hb dX0_rowOf_26 rfl (lv_at hl 2 rfl) ?_
      refine lv_iconst (v := nI 2) hx hb dX0_rowOf_27 (by decide) ?_
      refine n_iadd hx hb dX0_rowOf_28 ?_
      refine call_si B hA hW (k_max l G n ad w2 nf (k + 2) (by omega) (by omega)) mf_J9_max_7cf53 hw_242 rfl ⟨⟨rfl, rfl⟩, by decide, by decide⟩ ⟨Nat.zero_le _, Nat.zero_le _⟩ hl.1 rfl (Nat.le_of_ble_eq_true rfl) dX0_rowOf_29 (fun r w3 H locs hp hW => ?_)
      obtain ⟨e1, e2⟩ := hp
      rw [e1] at hW
      subst e2
      refine z_put B hW (2) (by omega) b2 rfl inX0 tyX0 tyX0_ok nmX0 7 (by decide) hw_75 rfl rfl (v := .int (nI (max nf (k + 2)))) rfl rfl (Nat.le_of_ble_eq_true rfl) dX0_rowOf_32 (fun H locs hW => ?_)
      have hB3 : BOK G ad (va_up w2 2 (eO 0 [.ref (ad 3), .ref (ad 5), .ref (ad 6), .ref (ad 7), .ref (ad 8), .ref (ad 9), .ref (ad 10), .int (nI (max nf (k + 2)))])) (max nf (k + 2)) (max nf (k + 2)) := ⟨up_s, isL_of b3 (up_n (by decide)), isL_of b4 (up_n (by decide)), isL_of b5 (up_n (by decide)), isL_of b6 (up_n (by decide)), ⟨fz, (up_n (by decide)).trans b7, c7⟩, ⟨ff, (up_n (by decide)).trans b8, c8⟩, ⟨fr, (up_n (by decide)).trans b10, c10⟩, fun j hj => by rw [up_n (by omega)]; exact bR j hj, bc, bl, fun k i h1 h2 h3 => isL_of (bB k i h1 h2 h3) (up_n (by omega))⟩
      have hfr3 : fr1 w (va_up w2 2 (eO 0 [.ref (ad 3), .ref (ad 5), .ref (ad 6), .ref (ad 7), .ref (ad 8), .ref (ad 9), .ref (ad 10), .int (nI (max nf (k + 2)))])) := hfr.tr (fun j h1 h2 => up_n h1)
      have hW3 : Wo G A s.heap n ad (va_up w2 2 (eO 0 [.ref (ad 3), .ref (ad 5), .ref (ad 6), .ref (ad 7), .ref (ad 8), .ref (ad 9), .ref (ad 10), .int (nI (max nf (k + 2)))])) H locs := hW
      clear hW
      generalize va_up w2 2 (eO 0 [.ref (ad 3), .ref (ad 5), .ref (ad 6), .ref (ad 7), .ref (ad 8), .ref (ad 9), .ref (ad 10), .int (nI (max nf (k + 2)))]) = w4 at hB3 hfr3 hW3
      clear b2 b3 b4 b5 b6 b7 c7 b8 c8 b10 c10 bR bB
      have hW := hW3
      obtain ⟨b2, b3, b4, b5, b6, ⟨fz, b7, c7⟩, ⟨ff, b8, c8⟩, ⟨fr, b10, c10⟩, bR, bc, bl, bB⟩ := id hB3
      refine lv_aload_n hx hb dX0_rowOf_35 rfl (lv_at hl 1 rfl) ?_
      refine z_get B hW (2) (by omega) b2 rfl inX0 6 (by decide) hw_74 rfl (v := .ref (ad (10))) rfl dX0_rowOf_36 ?_
      refine lv_aload_n hx hb dX0_rowOf_39 rfl (lv_at hl 1 rfl) ?_
      refine z_get B hW (2) (by omega) b2 rfl inX0 5 (by decide) hw_73 rfl (v := .ref (ad (9))) rfl dX0_rowOf_40 ?_
      refine lv_iload_n hx hb dX0_rowOf_43 rfl (lv_at hl 2 rfl) ?_
      refine lv_iconst (v := nI 2) hx hb dX0_rowOf_44 (by decide) ?_
      refine n_idiv hx hb (by omega) (by omega) (by omega) dX0_rowOf_45 ?_
      refine z_iald B hW (9) (by omega) b8 (k / 2) (by omega) (by decide) (v := (nI (fsT.getD (k / 2) 0))) (c8 _ (by omega)) dX0_rowOf_46 ?_
      refine topi (y := (nI (fst k))) rfl ?_
      refine lv_iload_n hx hb dX0_rowOf_47 rfl (lv_at hl 3 rfl) ?_
      refine n_iadd hx hb dX0_rowOf_48 ?_
      refine z_rald B hW (10) (by omega) b10 ((fst k) + i) (by omega) (by decide) (q := ad (11 + ((fst k) + i))) (c10 _ (by omega)) dX0_rowOf_49 ?_
      exact ret_r (post := fun q w0 => q = ad (11 + (fst k + i)) ∧ BOK G ad w0 (max nf (k + 2)) (max nf (k + 2)) ∧ fr1 w w0 ∧ isL G w0 (11 + (fst k + i)) 48 (bas k i)) B hr (Or.inr ⟨_, rfl⟩) hlk hW ⟨rfl, hB3, hfr3, bB k i (by omega) hk2 hi⟩ dX0_rowOf_50
    · omega
set_option maxHeartbeats 4000000 in
set_option maxRecDepth 100000 in
theorem k_findPartsN (l : Launch) (G : zG) (n : Nat) (ad : Nat → Nat) (w : Nat → va_E) (k nf kn kp N : Nat) (v : Nat → Nat) (hn : 55 ≤ n) (hk : k ≤ 40) (hk2 : k % 2 = 0) (hB : BOK G ad w nf nf) (hkn : 55 ≤ kn) (hkn2 : kn < n) (hkp : 55 ≤ kp) (hkp2 : kp < n) (hne : kn ≠ kp) (hN : zs k ≤ N) (hN2 : N < 2 ^ 31) (fv : Nat → Int64) (ev : w kn = eL G N fv) (vv : ∀ i, i < zs k → fv i = lN (v i)) (rv : ∀ i, i < zs k → v i < 1000003) (fp : Nat → Int64) (hp0 : w kp = eL G 4 fp) :
    Cv l G yX0_findParts cdX0_findParts (zr 3) n ad w [.ref (ad 2), .int (nI k), .ref (ad kn), .ref (ad kp)] (fun w' => ∃ nf', BOK G ad w' nf' nf' ∧ (∀ j, j ≠ 2 → ¬ (11 ≤ j ∧ j < 55) → j ≠ kp → w' j = w j) ∧ ∃ f, w' kp = eL G 4 f ∧ (∀ i, i < zs k → f i = lN (prt (bas k) v i)) ∧ ∀ i, zs k ≤ i → f i = fp i) := by
  have hzl := zs_le k hk
  refine ent_v (cc := cX0_findParts) (maxL := 8) (ret := none) (by decide +kernel) rfl (Nat.le_of_ble_eq_true rfl) ?_
  intro p e s m args below meth c A B hr hlk hA H locs ls hW hl
  have hx := B.1
  have hb := B.2.1
  have hl : lv_has ls 8 [(0, .ref (ad (2))), (1, .int (nI (k))), (2, .ref (ad (kn))), (3, .ref (ad (kp)))] := hl
  refine lv_iconst (v := nI 0) hx hb dX0_findParts_0 (by decide) ?_
  refine lv_istore (lv' := [(4, .int (nI (0))), (0, .ref (ad (2))), (1, .int (nI (k))), (2, .ref (ad (kn))), (3, .ref (ad (kp)))]) hx hb dX0_findParts_1 hl (by decide) rfl (fun ls hl => ?_)
  refine z_up (Wg := fun H locs ls => W p l e (zr 3) s m args below meth c H locs 0 0 _ (F0 m 3 ls [])) (I := fun i H locs ls => ∃ (w2 : Nat → va_E) (nf' : Nat) (f : Nat → Int64), Wo G A s.heap n ad w2 H locs ∧ lv_has ls 8 [(4, .int (nI i)), (0, .ref (ad 2)), (1, .int (nI k)), (2, .ref (ad kn)), (3, .ref (ad kp))] ∧ BOK G ad w2 nf' nf' ∧ (∀ j, j ≠ 2 → ¬ (11 ≤ j ∧ j < 55) → j ≠ kp → w2 j = w j) ∧ w2 kp = eL G 4 f ∧ (∀ j, j < i → f j = lN (prt (bas k) v j)) ∧ ∀ j, i ≤ j → f j = fp j) (a := 0) (b := zs k) (Nat.zero_le _) ?_ ?_ H locs ls ⟨w, nf, fp, hW, hl, hB, fun _ _ _ _ => rfl, hp0, fun j h => by omega, fun _ _ => rfl⟩
  · rintro i - hi ih H locs ls ⟨w2, nf', f, hW, hl, hB2, h1, h2, h3, h4⟩
    refine lv_iload hx hb dX0_findParts_3 (lv_at hl 0 rfl) ?_
    refine lv_aload_n hx hb dX0_findParts_5 rfl (lv_at hl 1 rfl) ?_
    refine lv_iload_n hx hb dX0_findParts_6 rfl (lv_at hl 2 rfl) ?_
    obtain ⟨b2, -⟩ := id hB2
    refine call_vi B hA hW (2) (by omega) b2 (r := _) rfl rfl (k_sizeOf l G n ad w2 k nf' nf' hn hk hB2) mf_X0_sizeOf hw_227 rfl ⟨⟨rfl, rfl⟩, by decide, by decide⟩ ⟨Nat.zero_le _, Nat.zero_le _⟩ hl.1 rfl (Nat.le_of_ble_eq_true rfl) dX0_findParts_7 (fun r w9 H locs hp hW => ?_)
    obtain ⟨e1, e2⟩ := hp
    rw [e1] at hW
    subst e2
    refine n_icmp_ge (tgt := 70) hx hb (by omega) (by omega) dX0_findParts_10 (by decide) (fun hc => ?_) (fun hc => ?_)
    · omega
    · have ev2 : w2 kn = eL G N fv := by rw [h1 kn (by omega) (by omega) hne]; exact ev
      refine lv_aload_n hx hb dX0_findParts_13 rfl (lv_at hl 3 rfl) ?_
      refine lv_iload hx hb dX0_findParts_14 (lv_at hl 0 rfl) ?_
      refine z_lald B hW kn (by omega) ev2 i (by omega) hN2 (v := lZ (lft (bas k) v i 0)) (by rw [vv _ (by omega), lN_Z]; rfl) dX0_findParts_16 ?_
      refine lv_lstore (lv' := [(5, .long (lZ (lft (bas k) v i 0))), (4, .int (nI (i))), (0, .ref (ad (2))), (1, .int (nI (k))), (2, .ref (ad (kn))), (3, .ref (ad (kp)))]) hx hb dX0_findParts_17 hl (by decide) rfl (fun ls hl => ?_)
      refine lv_iconst (v := nI 0) hx hb dX0_findParts_19 (by decide) ?_
      refine lv_istore (lv' := [(7, .int (nI (0))), (5, .long (lZ (lft (bas k) v i 0))), (4, .int (nI (i))), (0, .ref (ad (2))), (1, .int (nI (k))), (2, .ref (ad (kn))), (3, .ref (ad (kp)))]) hx hb dX0_findParts_20 hl (by decide) rfl (fun ls hl => ?_)
      refine z_up (Wg := fun H locs ls => W p l e (zr 3) s m args below meth c H locs 0 0 _ (F0 m 22 ls [])) (I := fun t H locs ls => ∃ (w3 : Nat → va_E) (nf2 : Nat), Wo G A s.heap n ad w3 H locs ∧ lv_has ls 8 [(7, .int (nI t)), (5, .long (lZ (lft (bas k) v i t))), (4, .int (nI i)), (0, .ref (ad 2)), (1, .int (nI k)), (2, .ref (ad kn)), (3, .ref (ad kp))] ∧ BOK G ad w3 nf2 nf2 ∧ fr1 w2 w3) (a := 0) (b := i) (Nat.zero_le _) ?_ ?_ H locs ls ⟨w2, nf', hW, hl, hB2, fr1.rf⟩
      · rintro t - ht ih2 H locs ls ⟨w3, nf2, hW, hl, hB3, g1⟩
        refine lv_iload hx hb dX0_findParts_22 (lv_at hl 0 rfl) ?_
        refine lv_iload hx hb dX0_findParts_24 (lv_at hl 2 rfl) ?_
        refine n_icmp_ge (tgt := 55) hx hb (by omega) (by omega) dX0_findParts_26 (by decide) (fun hc => ?_) (fun hc => ?_)
        · omega
        · have h2b : w3 kp = eL G 4 f := by rw [g1 kp (by omega) (by omega)]; exact h2
          obtain ⟨b2c, -⟩ := id hB3
          refine lv_lload hx hb dX0_findParts_29 (lv_at hl 1 rfl) ?_
          refine lv_aload_n hx hb dX0_findParts_31 rfl (lv_at hl 6 rfl) ?_
          refine lv_iload hx hb dX0_findParts_32 (lv_at hl 0 rfl) ?_
          refine z_lald B hW (kp) (by omega) h2b (t) (by omega) (by decide) (v := (lZ ((prt (bas k) v t : Nat)))) (by rw [h3 _ ht, lN_Z]) dX0_findParts_34 ?_
          refine lv_aload_n hx hb dX0_findParts_35 rfl (lv_at hl 3 rfl) ?_
          refine lv_iload_n hx hb dX0_findParts_36 rfl (lv_at hl 4 rfl) ?_
          refine lv_iload hx hb dX0_findParts_37 (lv_at hl 0 rfl) ?_
          refine call_vr B hA hW (2) (by omega) b2c (r := _) rfl rfl (k_rowOf l G n ad w3 k t nf2 hn hk hk2 (by omega) hB3) mf_X0_rowOf hw_231 rfl ⟨⟨rfl, rfl⟩, by decide, by decide⟩ ⟨Nat.zero_le _, Nat.zero_le _⟩ hl.1 rfl (Nat.le_of_ble_eq_true rfl) dX0_findParts_39 (fun q w4 H locs hp hW => ?_)
          obtain ⟨rfl, hB4, g2, fb, eb, vb⟩ := hp
          refine lv_iload hx hb dX0_findParts_42 (lv_at hl 2 rfl) ?_
          refine z_lald B hW (11 + (fst k + t)) (by omega) eb (i) (by omega) (by decide) (v := (lZ ((bas k t i : Nat)))) (by rw [vb _ (by omega), lN_Z]) dX0_findParts_44 ?_
          refine z_lmul hx hb dX0_findParts_45 ?_
          refine z_lsub hx hb dX0_findParts_46 ?_
          refine topl (y := (lZ (lft (bas k) v i (t + 1)))) (by rw [← Int.natCast_mul]; rfl) ?_
          refine lv_lstore (lv' := [(5, .long (lZ (lft (bas k) v i (t + 1)))), (7, .int (nI (t))), (4, .int (nI (i))), (0, .ref (ad (2))), (1, .int (nI (k))), (2, .ref (ad (kn))), (3, .ref (ad (kp)))]) hx hb dX0_findParts_47 hl (by decide) rfl (fun ls hl => ?_)
          refine lv_iinc (v := (nI (t + 1))) (lv' := [(7, .int (nI (t + 1))), (5, .long (lZ (lft (bas k) v i (t + 1)))), (4, .int (nI (i))), (0, .ref (ad (2))), (1, .int (nI (k))), (2, .ref (ad (kn))), (3, .ref (ad (kp)))]) hx hb dX0_findParts_49 hl (k := 1) rfl (iinc1 _) (by decide) rfl (fun ls hl => ?_)
          refine lv_goto (tgt := 22) hx hb dX0_findParts_52 (by decide) ?_
          exact ih2 H locs ls ⟨w4, _, hW, lv_sub hl [0, 1, 2, 3, 4, 5, 6] rfl, hB4, g1.tr g2⟩
      · rintro H locs ls ⟨w3, nf2, hW, hl, hB3, g1⟩
        refine lv_iload hx hb dX0_findParts_22 (lv_at hl 0 rfl) ?_
        refine lv_iload hx hb dX0_findParts_24 (lv_at hl 2 rfl) ?_
        refine n_icmp_ge (tgt := 55) hx hb (by omega) (by omega) dX0_findParts_26 (by decide) (fun hc => ?_) (fun hc => ?_)
        · have h2b : w3 kp = eL G 4 f := by rw [g1 kp (by omega) (by omega)]; exact h2
          have hlf := lft_le (b := bas k) (v := v) (n := i) (fun j => bas_red k j i) (fun j hj => rv j (by omega)) i (Nat.le_refl i)
          refine lv_aload_n hx hb dX0_findParts_55 rfl (lv_at hl 6 rfl) ?_
          refine lv_iload hx hb dX0_findParts_56 (lv_at hl 2 rfl) ?_
          refine lv_lload hx hb dX0_findParts_58 (lv_at hl 1 rfl) ?_
          refine call_sl B hA hW (k_rest l G n ad w3 (lft (bas k) v i i) (by omega) (by omega)) mf_X2_rest hw_26 rfl ⟨⟨rfl, rfl⟩, by decide, by decide⟩ ⟨Nat.zero_le _, Nat.zero_le _⟩ hl.1 rfl (Nat.le_of_ble_eq_true rfl) dX0_findParts_60 (fun r w9 H locs hp hW => ?_)
          obtain ⟨e1, e2⟩ := hp
          rw [e1] at hW
          subst e2
          refine z_last B hW (kp) (by omega) h2b (i) (by omega) (by decide) dX0_findParts_63 (fun H locs hW => ?_)
          rw [prt_zm (fun j hj => rv j (by omega))] at hW
          refine lv_iinc (v := (nI (i + 1))) (lv' := [(4, .int (nI (i + 1))), (7, .int (nI (i))), (5, .long (lZ (lft (bas k) v i i))), (0, .ref (ad (2))), (1, .int (nI (k))), (2, .ref (ad (kn))), (3, .ref (ad (kp)))]) hx hb dX0_findParts_64 hl (k := 2) rfl (iinc1 _) (by decide) rfl (fun ls hl => ?_)
          refine lv_goto (tgt := 3) hx hb dX0_findParts_67 (by decide) ?_
          refine ih H locs ls ⟨_, nf2, _, hW, lv_sub hl [0, 3, 4, 5, 6] rfl, hB3.keep (fun j q1 q2 => up_n (by omega)), fun j q1 q2 q3 => by rw [up_n q3, g1 j q1 q2]; exact h1 j q1 q2 q3, up_s, fun j hj => ?_, fun j hj => ?_⟩
          · by_cases q : j = i
            · rw [q, pk_uLs]
            · rw [pk_uLn q]; exact h3 j (by omega)
          · rw [pk_uLn (by omega)]; exact h4 j (by omega)
        · omega
  · rintro H locs ls ⟨w2, nf', f, hW, hl, hB2, h1, h2, h3, h4⟩
    refine lv_iload hx hb dX0_findParts_3 (lv_at hl 0 rfl) ?_
    refine lv_aload_n hx hb dX0_findParts_5 rfl (lv_at hl 1 rfl) ?_
    refine lv_iload_n hx hb dX0_findParts_6 rfl (lv_at hl 2 rfl) ?_
    obtain ⟨b2, -⟩ := id hB2
    refine call_vi B hA hW (2) (by omega) b2 (r := _) rfl rfl (k_sizeOf l G n ad w2 k nf' nf' hn hk hB2) mf_X0_sizeOf hw_227 rfl ⟨⟨rfl, rfl⟩, by decide, by decide⟩ ⟨Nat.zero_le _, Nat.zero_le _⟩ hl.1 rfl (Nat.le_of_ble_eq_true rfl) dX0_findParts_7 (fun r w9 H locs hp hW => ?_)
    obtain ⟨e1, e2⟩ := hp
    rw [e1] at hW
    subst e2
    refine n_icmp_ge (tgt := 70) hx hb (by omega) (by omega) dX0_findParts_10 (by decide) (fun hc => ?_) (fun hc => ?_)
    · exact ret_v B hr hlk hW ⟨nf', hB2, h1, f, h2, h3, h4⟩ dX0_findParts_70
    · omega
theorem k_findParts (l : Launch) (G : zG) (n : Nat) (ad : Nat → Nat) (w : Nat → va_E) (k nf kn kp N : Nat) (v : Nat → Nat) (hn : 55 ≤ n) (hk : k ≤ 40) (hk2 : k % 2 = 0) (hB : BOK G ad w nf nf) (hkn : 55 ≤ kn) (hkn2 : kn < n) (hkp : 55 ≤ kp) (hkp2 : kp < n) (hne : kn ≠ kp) (hN : zs k ≤ N) (hN2 : N < 2 ^ 31) (hv : isL G w kn N v) (rv : ∀ i, i < zs k → v i < 1000003) (fp : Nat → Int64) (hp0 : w kp = eL G 4 fp) :
    Cv l G yX0_findParts cdX0_findParts (zr 3) n ad w [.ref (ad 2), .int (nI k), .ref (ad kn), .ref (ad kp)] (fun w' => ∃ nf', BOK G ad w' nf' nf' ∧ (∀ j, j ≠ 2 → ¬ (11 ≤ j ∧ j < 55) → j ≠ kp → w' j = w j) ∧ ∃ f, w' kp = eL G 4 f ∧ (∀ i, i < zs k → f i = lN (prt (bas k) v i)) ∧ ∀ i, zs k ≤ i → f i = fp i) := by
  obtain ⟨fv, ev, vv⟩ := hv
  exact k_findPartsN l G n ad w k nf kn kp N v hn hk hk2 hB hkn hkn2 hkp hkp2 hne hN hN2 fv ev (fun i hi => vv i (by omega)) rv fp hp0
set_option maxHeartbeats 4000000 in
set_option maxRecDepth 100000 in
theorem k_join (l : Launch) (G : zG) (n : Nat) (ad : Nat → Nat) (w : Nat → va_E) (k nf kp kr : Nat) (pv : Nat → Nat) (hn : 55 ≤ n) (hk : k ≤ 40) (hk2 : k % 2 = 0) (hB : BOK G ad w nf nf) (hkp : 55 ≤ kp) (hkp2 : kp < n) (hkr : 55 ≤ kr) (hkr2 : kr < n) (hne : kp ≠ kr) (rv : ∀ i, i < zs k → pv i < 1000003) (fp : Nat → Int64) (hp0 : w kp = eL G 4 fp) (vp : ∀ i, i < zs k → fp i = lN (pv i)) (hr0 : ∃ f, w kr = eL G 48 f) :
    Cv l G yX0_join cdX0_join (zr 3) n ad w [.ref (ad 2), .int (nI k), .ref (ad kp), .ref (ad kr)] (fun w' => ∃ nf', BOK G ad w' nf' nf' ∧ (∀ j, j ≠ 2 → ¬ (11 ≤ j ∧ j < 55) → j ≠ kr → w' j = w j) ∧ isL G w' kr 48 (bld (bas k) (zs k) pv)) := by
  have hzl := zs_le k hk
  obtain ⟨fr, er⟩ := hr0
  refine ent_v (cc := cX0_join) (maxL := 8) (ret := none) (by decide +kernel) rfl (Nat.le_of_ble_eq_true rfl) ?_
  intro p e s m args below meth c A B hr hlk hA H locs ls hW hl
  have hx := B.1
  have hb := B.2.1
  have hl : lv_has ls 8 [(0, .ref (ad (2))), (1, .int (nI (k))), (2, .ref (ad (kp))), (3, .ref (ad (kr)))] := hl
  refine lv_iconst (v := nI 0) hx hb dX0_join_0 (by decide) ?_
  refine lv_istore (lv' := [(4, .int (nI (0))), (0, .ref (ad (2))), (1, .int (nI (k))), (2, .ref (ad (kp))), (3, .ref (ad (kr)))]) hx hb dX0_join_1 hl (by decide) rfl (fun ls hl => ?_)
  refine z_up (Wg := fun H locs ls => W p l e (zr 3) s m args below meth c H locs 0 0 _ (F0 m 3 ls [])) (I := fun i H locs ls => ∃ (w2 : Nat → va_E) (nf' : Nat) (f : Nat → Int64), Wo G A s.heap n ad w2 H locs ∧ lv_has ls 8 [(4, .int (nI i)), (0, .ref (ad 2)), (1, .int (nI k)), (2, .ref (ad kp)), (3, .ref (ad kr))] ∧ BOK G ad w2 nf' nf' ∧ (∀ j, j ≠ 2 → ¬ (11 ≤ j ∧ j < 55) → j ≠ kr → w2 j = w j) ∧ w2 kr = eL G 48 f ∧ (∀ j, j < i → f j = lN (bld (bas k) (zs k) pv j))) (a := 0) (b := 48) (Nat.zero_le _) ?_ ?_ H locs ls ⟨w, nf, fr, hW, hl, hB, fun _ _ _ _ => rfl, er, fun j h => by omega⟩
  · rintro i - hi ih H locs ls ⟨w2, nf', f, hW, hl, hB2, h1, h2, h3⟩
    refine lv_iload hx hb dX0_join_3 (lv_at hl 0 rfl) ?_
    refine lv_bipush (v := nI 48) hx hb dX0_join_5 (by decide) ?_
    refine n_icmp_ge (tgt := 68) hx hb (by omega) (by omega) dX0_join_7 (by decide) (fun hc => ?_) (fun hc => ?_)
    · omega
    · refine lv_lconst (v := lN 0) hx hb dX0_join_10 (by decide) ?_
      refine lv_lstore (lv' := [(5, .long (lN (0))), (4, .int (nI (i))), (0, .ref (ad (2))), (1, .int (nI (k))), (2, .ref (ad (kp))), (3, .ref (ad (kr)))]) hx hb dX0_join_11 hl (by decide) rfl (fun ls hl => ?_)
      refine lv_iconst (v := nI 0) hx hb dX0_join_13 (by decide) ?_
      refine lv_istore (lv' := [(7, .int (nI (0))), (5, .long (lN (0))), (4, .int (nI (i))), (0, .ref (ad (2))), (1, .int (nI (k))), (2, .ref (ad (kp))), (3, .ref (ad (kr)))]) hx hb dX0_join_14 hl (by decide) rfl (fun ls hl => ?_)
      refine z_up (Wg := fun H locs ls => W p l e (zr 3) s m args below meth c H locs 0 0 _ (F0 m 16 ls [])) (I := fun t H locs ls => ∃ (w3 : Nat → va_E) (nf2 : Nat), Wo G A s.heap n ad w3 H locs ∧ lv_has ls 8 [(7, .int (nI t)), (5, .long (lN (sm (fun j => pv j * bas k j i) t))), (4, .int (nI i)), (0, .ref (ad 2)), (1, .int (nI k)), (2, .ref (ad kp)), (3, .ref (ad kr))] ∧ BOK G ad w3 nf2 nf2 ∧ fr1 w2 w3) (a := 0) (b := zs k) (Nat.zero_le _) ?_ ?_ H locs ls ⟨w2, nf', hW, hl, hB2, fr1.rf⟩
      · rintro t - ht ih2 H locs ls ⟨w3, nf2, hW, hl, hB3, g1⟩
        refine lv_iload hx hb dX0_join_16 (lv_at hl 0 rfl) ?_
        refine lv_aload_n hx hb dX0_join_18 rfl (lv_at hl 3 rfl) ?_
        refine lv_iload_n hx hb dX0_join_19 rfl (lv_at hl 4 rfl) ?_
        obtain ⟨b2c, -⟩ := id hB3
        refine call_vi B hA hW (2) (by omega) b2c (r := _) rfl rfl (k_sizeOf l G n ad w3 k nf2 nf2 hn hk hB3) mf_X0_sizeOf hw_227 rfl ⟨⟨rfl, rfl⟩, by decide, by decide⟩ ⟨Nat.zero_le _, Nat.zero_le _⟩ hl.1 rfl (Nat.le_of_ble_eq_true rfl) dX0_join_20 (fun r w9 H locs hp hW => ?_)
        obtain ⟨e1, e2⟩ := hp
        rw [e1] at hW
        subst e2
        refine n_icmp_ge (tgt := 52) hx hb (by omega) (by omega) dX0_join_23 (by decide) (fun hc => ?_) (fun hc => ?_)
        · omega
        · have hpk : w3 kp = eL G 4 fp := by rw [g1 kp (by omega) (by omega), h1 kp (by omega) (by omega) hne]; exact hp0
          refine lv_lload hx hb dX0_join_26 (lv_at hl 1 rfl) ?_
          refine lv_aload_n hx hb dX0_join_28 rfl (lv_at hl 5 rfl) ?_
          refine lv_iload hx hb dX0_join_29 (lv_at hl 0 rfl) ?_
          refine z_lald B hW (kp) (by omega) hpk (t) (by omega) (by decide) (v := (lN (pv t))) (vp _ ht) dX0_join_31 ?_
          refine lv_aload_n hx hb dX0_join_32 rfl (lv_at hl 3 rfl) ?_
          refine lv_iload_n hx hb dX0_join_33 rfl (lv_at hl 4 rfl) ?_
          refine lv_iload hx hb dX0_join_34 (lv_at hl 0 rfl) ?_
          refine call_vr B hA hW (2) (by omega) b2c (r := _) rfl rfl (k_rowOf l G n ad w3 k t nf2 hn hk hk2 ht hB3) mf_X0_rowOf hw_231 rfl ⟨⟨rfl, rfl⟩, by decide, by decide⟩ ⟨Nat.zero_le _, Nat.zero_le _⟩ hl.1 rfl (Nat.le_of_ble_eq_true rfl) dX0_join_36 (fun q w4 H locs hp hW => ?_)
          obtain ⟨rfl, hB4, g2, fb, eb, vb⟩ := hp
          refine lv_iload hx hb dX0_join_39 (lv_at hl 2 rfl) ?_
          refine z_lald B hW (11 + (fst k + t)) (by omega) eb (i) (by omega) (by decide) (v := (lN (bas k t i))) (vb _ (by omega)) dX0_join_41 ?_
          refine n_lmul hx hb dX0_join_42 ?_
          refine n_ladd hx hb dX0_join_43 ?_
          refine lv_lstore (lv' := [(5, .long (lN ((sm (fun j => pv j * bas k j i) t) + ((pv t) * (bas k t i))))), (7, .int (nI (t))), (4, .int (nI (i))), (0, .ref (ad (2))), (1, .int (nI (k))), (2, .ref (ad (kp))), (3, .ref (ad (kr)))]) hx hb dX0_join_44 hl (by decide) rfl (fun ls hl => ?_)
          refine lv_iinc (v := (nI (t + 1))) (lv' := [(7, .int (nI (t + 1))), (5, .long (lN ((sm (fun j => pv j * bas k j i) t) + ((pv t) * (bas k t i))))), (4, .int (nI (i))), (0, .ref (ad (2))), (1, .int (nI (k))), (2, .ref (ad (kp))), (3, .ref (ad (kr)))]) hx hb dX0_join_46 hl (k := 1) rfl (iinc1 _) (by decide) rfl (fun ls hl => ?_)
          refine lv_goto (tgt := 16) hx hb dX0_join_49 (by decide) ?_
          exact ih2 H locs ls ⟨w4, _, hW, lv_sub hl [0, 1, 2, 3, 4, 5, 6] rfl, hB4, g1.tr g2⟩
      · rintro H locs ls ⟨w3, nf2, hW, hl, hB3, g1⟩
        refine lv_iload hx hb dX0_join_16 (lv_at hl 0 rfl) ?_
        refine lv_aload_n hx hb dX0_join_18 rfl (lv_at hl 3 rfl) ?_
        refine lv_iload_n hx hb dX0_join_19 rfl (lv_at hl 4 rfl) ?_
        obtain ⟨b2c, -⟩ := id hB3
        refine call_vi B hA hW (2) (by omega) b2c (r := _) rfl rfl (k_sizeOf l G n ad w3 k nf2 nf2 hn hk hB3) mf_X0_sizeOf hw_227 rfl ⟨⟨rfl, rfl⟩, by decide, by decide⟩ ⟨Nat.zero_le _, Nat.zero_le _⟩ hl.1 rfl (Nat.le_of_ble_eq_true rfl) dX0_join_20 (fun r w9 H locs hp hW => ?_)
        obtain ⟨e1, e2⟩ := hp
        rw [e1] at hW
        subst e2
        refine n_icmp_ge (tgt := 52) hx hb (by omega) (by omega) dX0_join_23 (by decide) (fun hc => ?_) (fun hc => ?_)
        · have h2b : w3 kr = eL G 48 f := by rw [g1 kr (by omega) (by omega)]; exact h2
          have hsm := sm_le (f := fun j => pv j * bas k j i) (c := 1000006000009) (n := zs k) (fun j hj => Nat.le_of_lt (mul_lt (rv j hj) (bas_red k j i)))
          refine lv_aload_n hx hb dX0_join_52 rfl (lv_at hl 6 rfl) ?_
          refine lv_iload hx hb dX0_join_53 (lv_at hl 2 rfl) ?_
          refine lv_lload hx hb dX0_join_55 (lv_at hl 1 rfl) ?_
          refine n_ldc2 B hw_250 (x := lN 1000003) (by decide) dX0_join_57 ?_
          refine n_lrem hx hb (by omega) (by omega) (by omega) dX0_join_60 ?_
          refine z_last B hW (kr) (by omega) h2b (i) (by omega) (by decide) dX0_join_61 (fun H locs hW => ?_)
          refine lv_iinc (v := (nI (i + 1))) (lv' := [(4, .int (nI (i + 1))), (7, .int (nI (zs k))), (5, .long (lN (sm (fun j => pv j * bas k j i) (zs k)))), (0, .ref (ad (2))), (1, .int (nI (k))), (2, .ref (ad (kp))), (3, .ref (ad (kr)))]) hx hb dX0_join_62 hl (k := 2) rfl (iinc1 _) (by decide) rfl (fun ls hl => ?_)
          refine lv_goto (tgt := 3) hx hb dX0_join_65 (by decide) ?_
          refine ih H locs ls ⟨_, nf2, _, hW, lv_sub hl [0, 3, 4, 5, 6] rfl, hB3.keep (fun j q1 q2 => up_n (by omega)), fun j q1 q2 q3 => by rw [up_n q3, g1 j q1 q2]; exact h1 j q1 q2 q3, up_s, fun j hj => ?_⟩
          by_cases q : j = i
          · rw [q, pk_uLs]; rfl
          · rw [pk_uLn q]; exact h3 j (by omega)
        · omega
  · rintro H locs ls ⟨w2, nf', f, hW, hl, hB2, h1, h2, h3⟩
    refine lv_iload hx hb dX0_join_3 (lv_at hl 0 rfl) ?_
    refine lv_bipush (v := nI 48) hx hb dX0_join_5 (by decide) ?_
    refine n_icmp_ge (tgt := 68) hx hb (by omega) (by omega) dX0_join_7 (by decide) (fun hc => ?_) (fun hc => ?_)
    · exact ret_v B hr hlk hW ⟨nf', hB2, h1, f, h2, h3⟩ dX0_join_68
    · omega
set_option maxHeartbeats 4000000 in
set_option maxRecDepth 100000 in
theorem k_putImage (l : Launch) (G : zG) (n : Nat) (ad : Nat → Nat) (w : Nat → va_E) (k nf cu ka kr p9 : Nat) (a : Nat → Nat) (hn : 55 ≤ n) (hk : k ≤ 40) (hk1 : 1 ≤ k) (hB : BOK G ad w nf cu) (hp9 : 2 ≤ p9) (hp92 : p9 ≤ 11) (hka : ka < n) (hkr : 55 ≤ kr) (hkr2 : kr < n) (hne : ka ≠ kr) (ha : isL G w ka 48 a) (ra : sM a) (hr0 : ∃ f, w kr = eL G 4 f) :
    Cv l G yX0_putImage cdX0_putImage (zr 1) n ad w [.ref (ad 2), .int (nI k), .ref (ad ka), .int (nI p9), .ref (ad kr)] (fun w' => (∀ j, j ≠ kr → w' j = w j) ∧ ∃ f, w' kr = eL G 4 f ∧ ∀ i, i < zs k → f i = lN (imgS k p9 a i)) := by
  have hzl := zs_le k hk
  obtain ⟨fr, er⟩ := hr0
  obtain ⟨fa, ea, va⟩ := ha
  refine ent_v (cc := cX0_putImage) (maxL := 10) (ret := none) (by decide +kernel) rfl (Nat.le_of_ble_eq_true rfl) ?_
  intro p e s m args below meth c A B hr hlk hA H locs ls hW hl
  have hx := B.1
  have hb := B.2.1
  have hl : lv_has ls 10 [(0, .ref (ad (2))), (1, .int (nI (k))), (2, .ref (ad (ka))), (3, .int (nI (p9))), (4, .ref (ad (kr)))] := hl
  refine lv_iload_n hx hb dX0_putImage_0 rfl (lv_at hl 3 rfl) ?_
  refine n_i2l hx hb (by omega) dX0_putImage_1 ?_
  refine lv_iload_n hx hb dX0_putImage_2 rfl (lv_at hl 1 rfl) ?_
  refine lv_iconst (v := nI 1) hx hb dX0_putImage_3 (by decide) ?_
  refine n_isub hx hb (by omega) dX0_putImage_4 ?_
  refine call_sl B hA hW (k_raised l G n ad w p9 (k - 1) (by omega) (by omega)) mf_X2_raised hw_262 rfl ⟨⟨rfl, rfl⟩, by decide, by decide⟩ ⟨Nat.zero_le _, Nat.zero_le _⟩ hl.1 rfl (Nat.le_of_ble_eq_true rfl) dX0_putImage_5 (fun r w9 H locs hp hW => ?_)
  obtain ⟨e1, e2⟩ := hp
  rw [e1] at hW
  subst e2
  have hfl := Nat.mod_lt (p9 ^ (k - 1)) (show 0 < 1000003 by decide)
  refine lv_lstore (lv' := [(5, .long (lN (p9 ^ (k - 1) % 1000003))), (0, .ref (ad (2))), (1, .int (nI (k))), (2, .ref (ad (ka))), (3, .int (nI (p9))), (4, .ref (ad (kr)))]) hx hb dX0_putImage_8 hl (by decide) rfl (fun ls hl => ?_)
  refine lv_iconst (v := nI 0) hx hb dX0_putImage_10 (by decide) ?_
  refine lv_istore (lv' := [(7, .int (nI (0))), (5, .long (lN (p9 ^ (k - 1) % 1000003))), (0, .ref (ad (2))), (1, .int (nI (k))), (2, .ref (ad (ka))), (3, .int (nI (p9))), (4, .ref (ad (kr)))]) hx hb dX0_putImage_11 hl (by decide) rfl (fun ls hl => ?_)
  refine z_up (Wg := fun H locs ls => W p l e (zr 1) s m args below meth c H locs 0 0 _ (F0 m 13 ls [])) (I := fun i H locs ls => ∃ (w2 : Nat → va_E) (f : Nat → Int64), Wo G A s.heap n ad w2 H locs ∧ lv_has ls 10 [(7, .int (nI i)), (5, .long (lN (p9 ^ (k - 1) % 1000003))), (0, .ref (ad 2)), (1, .int (nI k)), (2, .ref (ad ka)), (3, .int (nI p9)), (4, .ref (ad kr))] ∧ (∀ j, j ≠ kr → w2 j = w j) ∧ w2 kr = eL G 4 f ∧ (∀ j, j < i → f j = lN (imgS k p9 a j))) (a := 0) (b := zs k) (Nat.zero_le _) ?_ ?_ H locs ls ⟨w, fr, hW, hl, fun _ _ => rfl, er, fun j h => by omega⟩
  · rintro i - hi ih H locs ls ⟨w2, f, hW, hl, h1, h2, h3⟩
    refine lv_iload hx hb dX0_putImage_13 (lv_at hl 0 rfl) ?_
    refine lv_aload_n hx hb dX0_putImage_15 rfl (lv_at hl 2 rfl) ?_
    refine lv_iload_n hx hb dX0_putImage_16 rfl (lv_at hl 3 rfl) ?_
    have hB2 : BOK G ad w2 nf cu := hB.keep (fun j q1 q2 => h1 j (by omega))
    obtain ⟨b2, -⟩ := id hB2
    refine call_vi B hA hW (2) (by omega) b2 (r := _) rfl rfl (k_sizeOf l G n ad w2 k nf cu hn hk hB2) mf_X0_sizeOf hw_227 rfl ⟨⟨rfl, rfl⟩, by decide, by decide⟩ ⟨Nat.zero_le _, Nat.zero_le _⟩ hl.1 rfl (Nat.le_of_ble_eq_true rfl) dX0_putImage_17 (fun r w9 H locs hp hW => ?_)
    obtain ⟨e1, e2⟩ := hp
    rw [e1] at hW
    subst e2
    refine n_icmp_ge (tgt := 69) hx hb (by omega) (by omega) dX0_putImage_20 (by decide) (fun hc => ?_) (fun hc => ?_)
    · omega
    · have ea2 : w2 ka = eL G 48 fa := by rw [h1 ka hne]; exact ea
      have hpi : p9 * i ≤ 33 := Nat.le_trans (Nat.mul_le_mul hp92 (show i ≤ 3 by omega)) (by decide)
      refine lv_iload hx hb dX0_putImage_23 (lv_at hl 0 rfl) ?_
      refine lv_iload_n hx hb dX0_putImage_25 rfl (lv_at hl 5 rfl) ?_
      refine n_irem hx hb (by omega) (by omega) (by omega) dX0_putImage_26 ?_
      have hrl := Nat.mod_lt i (show 0 < p9 by omega)
      refine n_if_ne (tgt := 42) hx hb (by omega) dX0_putImage_27 (by decide) (fun hd => ?_) (fun hd => ?_)
      · obtain ⟨mo, hmo⟩ : ∃ mo, mo = (if i % p9 = 0 then p9 ^ (k - 1) % 1000003 * a (i / p9) else 0) := ⟨_, rfl⟩
        have hip : i / p9 < 48 := Nat.lt_of_le_of_lt (Nat.div_le_self _ _) (by omega)
        have hal := ra (i / p9) hip
        have hal2 := ra (p9 * i) (by omega)
        have hmm := mul_lt hfl hal
        rw [if_neg hd] at hmo
        have hmol : mo < 1000006000009 := by rw [hmo]; decide
        refine lv_lconst (v := lN 0) hx hb dX0_putImage_42 (by decide) ?_
        refine topl (y := (lN (mo))) (by rw [hmo]) ?_
        refine lv_lstore (lv' := [(8, .long (lN (mo))), (7, .int (nI (i))), (5, .long (lN (p9 ^ (k - 1) % 1000003))), (0, .ref (ad (2))), (1, .int (nI (k))), (2, .ref (ad (ka))), (3, .int (nI (p9))), (4, .ref (ad (kr)))]) hx hb dX0_putImage_43 hl (by decide) rfl (fun ls hl => ?_)
        refine lv_aload hx hb dX0_putImage_45 (lv_at hl 7 rfl) ?_
        refine lv_iload hx hb dX0_putImage_47 (lv_at hl 1 rfl) ?_
        refine lv_aload_n hx hb dX0_putImage_49 rfl (lv_at hl 5 rfl) ?_
        refine lv_iload_n hx hb dX0_putImage_50 rfl (lv_at hl 6 rfl) ?_
        refine lv_iload hx hb dX0_putImage_51 (lv_at hl 1 rfl) ?_
        refine n_imul hx hb dX0_putImage_53 ?_
        refine z_lald B hW (ka) (by omega) ea2 (p9 * i) (by omega) (by decide) (v := (lN (a (p9 * i)))) (va _ (by omega)) dX0_putImage_54 ?_
        refine lv_lload hx hb dX0_putImage_55 (lv_at hl 0 rfl) ?_
        refine n_ladd hx hb dX0_putImage_57 ?_
        refine n_ldc2 B hw_250 (x := lN 1000003) (by decide) dX0_putImage_58 ?_
        refine n_lrem hx hb (by omega) (by omega) (by omega) dX0_putImage_61 ?_
        refine z_last B hW (kr) (by omega) h2 (i) (by omega) (by decide) dX0_putImage_62 (fun H locs hW => ?_)
        refine lv_iinc (v := (nI (i + 1))) (lv' := [(7, .int (nI (i + 1))), (8, .long (lN (mo))), (5, .long (lN (p9 ^ (k - 1) % 1000003))), (0, .ref (ad (2))), (1, .int (nI (k))), (2, .ref (ad (ka))), (3, .int (nI (p9))), (4, .ref (ad (kr)))]) hx hb dX0_putImage_63 hl (k := 1) rfl (iinc1 _) (by decide) rfl (fun ls hl => ?_)
        refine lv_goto (tgt := 13) hx hb dX0_putImage_66 (by decide) ?_
        refine ih H locs ls ⟨_, _, hW, lv_sub hl [0, 2, 3, 4, 5, 6, 7] rfl, fun j hj => by rw [up_n hj]; exact h1 j hj, up_s, fun j hj => ?_⟩
        by_cases q : j = i
        · rw [q, pk_uLs]; unfold imgS; rw [hmo, if_neg hd]
        · rw [pk_uLn q]; exact h3 j (by omega)
      · obtain ⟨mo, hmo⟩ : ∃ mo, mo = (if i % p9 = 0 then p9 ^ (k - 1) % 1000003 * a (i / p9) else 0) := ⟨_, rfl⟩
        have hip : i / p9 < 48 := Nat.lt_of_le_of_lt (Nat.div_le_self _ _) (by omega)
        have hal := ra (i / p9) hip
        have hal2 := ra (p9 * i) (by omega)
        have hmm := mul_lt hfl hal
        rw [if_pos hd] at hmo
        have hmol : mo < 1000006000009 := by rw [hmo]; exact hmm
        refine lv_lload hx hb dX0_putImage_30 (lv_at hl 1 rfl) ?_
        refine lv_aload_n hx hb dX0_putImage_32 rfl (lv_at hl 4 rfl) ?_
        refine lv_iload hx hb dX0_putImage_33 (lv_at hl 0 rfl) ?_
        refine lv_iload_n hx hb dX0_putImage_35 rfl (lv_at hl 5 rfl) ?_
        refine n_idiv hx hb (by omega) (by omega) (by omega) dX0_putImage_36 ?_
        refine z_lald B hW (ka) (by omega) ea2 (i / p9) (by omega) (by decide) (v := (lN (a (i / p9)))) (va _ (by omega)) dX0_putImage_37 ?_
        refine n_lmul hx hb dX0_putImage_38 ?_
        refine topl (y := (lN (mo))) (by rw [hmo]) ?_
        refine lv_goto (tgt := 43) hx hb dX0_putImage_39 (by decide) ?_
        refine lv_lstore (lv' := [(8, .long (lN (mo))), (7, .int (nI (i))), (5, .long (lN (p9 ^ (k - 1) % 1000003))), (0, .ref (ad (2))), (1, .int (nI (k))), (2, .ref (ad (ka))), (3, .int (nI (p9))), (4, .ref (ad (kr)))]) hx hb dX0_putImage_43 hl (by decide) rfl (fun ls hl => ?_)
        refine lv_aload hx hb dX0_putImage_45 (lv_at hl 7 rfl) ?_
        refine lv_iload hx hb dX0_putImage_47 (lv_at hl 1 rfl) ?_
        refine lv_aload_n hx hb dX0_putImage_49 rfl (lv_at hl 5 rfl) ?_
        refine lv_iload_n hx hb dX0_putImage_50 rfl (lv_at hl 6 rfl) ?_
        refine lv_iload hx hb dX0_putImage_51 (lv_at hl 1 rfl) ?_
        refine n_imul hx hb dX0_putImage_53 ?_
        refine z_lald B hW (ka) (by omega) ea2 (p9 * i) (by omega) (by decide) (v := (lN (a (p9 * i)))) (va _ (by omega)) dX0_putImage_54 ?_
        refine lv_lload hx hb dX0_putImage_55 (lv_at hl 0 rfl) ?_
        refine n_ladd hx hb dX0_putImage_57 ?_
        refine n_ldc2 B hw_250 (x := lN 1000003) (by decide) dX0_putImage_58 ?_
        refine n_lrem hx hb (by omega) (by omega) (by omega) dX0_putImage_61 ?_
        refine z_last B hW (kr) (by omega) h2 (i) (by omega) (by decide) dX0_putImage_62 (fun H locs hW => ?_)
        refine lv_iinc (v := (nI (i + 1))) (lv' := [(7, .int (nI (i + 1))), (8, .long (lN (mo))), (5, .long (lN (p9 ^ (k - 1) % 1000003))), (0, .ref (ad (2))), (1, .int (nI (k))), (2, .ref (ad (ka))), (3, .int (nI (p9))), (4, .ref (ad (kr)))]) hx hb dX0_putImage_63 hl (k := 1) rfl (iinc1 _) (by decide) rfl (fun ls hl => ?_)
        refine lv_goto (tgt := 13) hx hb dX0_putImage_66 (by decide) ?_
        refine ih H locs ls ⟨_, _, hW, lv_sub hl [0, 2, 3, 4, 5, 6, 7] rfl, fun j hj => by rw [up_n hj]; exact h1 j hj, up_s, fun j hj => ?_⟩
        by_cases q : j = i
        · rw [q, pk_uLs]; unfold imgS; rw [hmo, if_pos hd]
        · rw [pk_uLn q]; exact h3 j (by omega)
  · rintro H locs ls ⟨w2, f, hW, hl, h1, h2, h3⟩
    refine lv_iload hx hb dX0_putImage_13 (lv_at hl 0 rfl) ?_
    refine lv_aload_n hx hb dX0_putImage_15 rfl (lv_at hl 2 rfl) ?_
    refine lv_iload_n hx hb dX0_putImage_16 rfl (lv_at hl 3 rfl) ?_
    have hB2 : BOK G ad w2 nf cu := hB.keep (fun j q1 q2 => h1 j (by omega))
    obtain ⟨b2, -⟩ := id hB2
    refine call_vi B hA hW (2) (by omega) b2 (r := _) rfl rfl (k_sizeOf l G n ad w2 k nf cu hn hk hB2) mf_X0_sizeOf hw_227 rfl ⟨⟨rfl, rfl⟩, by decide, by decide⟩ ⟨Nat.zero_le _, Nat.zero_le _⟩ hl.1 rfl (Nat.le_of_ble_eq_true rfl) dX0_putImage_17 (fun r w9 H locs hp hW => ?_)
    obtain ⟨e1, e2⟩ := hp
    rw [e1] at hW
    subst e2
    refine n_icmp_ge (tgt := 69) hx hb (by omega) (by omega) dX0_putImage_20 (by decide) (fun hc => ?_) (fun hc => ?_)
    · exact ret_v B hr hlk hW ⟨h1, f, h2, h3⟩ dX0_putImage_69
    · omega
