/-- the bases' cells: the object at place 2, what it holds behind it; nf stands in its field, the rows of the weights below cu are made -/
def BOK (G : zG) (ad : Nat → Nat) (w : Nat → va_E) (nf cu : Nat) : Prop :=
  w 2 = eO 0 [.ref (ad 3), .ref (ad 5), .ref (ad 6), .ref (ad 7), .ref (ad 8), .ref (ad 9), .ref (ad 10), .int (nI nf)] ∧
  isL G w 3 48 e2S ∧ isL G w 5 48 dS ∧ isL G w 6 48 e4S ∧ isL G w 7 48 e6S ∧
  (∃ f : Nat → Int32, w 8 = eI G 21 f ∧ ∀ h, h < 21 → f h = nI (szT.getD h 0)) ∧
  (∃ f : Nat → Int32, w 9 = eI G 21 f ∧ ∀ h, h < 21 → f h = nI (fsT.getD h 0)) ∧
  (∃ f : Nat → Option Nat, w 10 = eR G 44 f ∧ ∀ i, i < 44 → f i = some (ad (11 + i))) ∧
  (∀ i, i < 44 → ∃ f, w (11 + i) = eL G 48 f) ∧ cu % 2 = 0 ∧ cu ≤ 42 ∧
  (∀ k i, k < cu → k % 2 = 0 → i < zs k → isL G w (11 + (fst k + i)) 48 (bas k i))
def fr1 (w w' : Nat → va_E) : Prop := ∀ j, j ≠ 2 → ¬ (11 ≤ j ∧ j < 55) → w' j = w j
theorem fr1.rf {w : Nat → va_E} : fr1 w w := fun _ _ _ => rfl
theorem fr1.tr {w w2 w3 : Nat → va_E} (h : fr1 w w2) (h2 : fr1 w2 w3) : fr1 w w3 := fun j h3 h4 => (h2 j h3 h4).trans (h j h3 h4)
theorem isL_of {G : zG} {w w' : Nat → va_E} {k N : Nat} {a : Nat → Nat} (h : isL G w k N a) (e : w' k = w k) : isL G w' k N a := by
  unfold isL
  rw [e]
  exact h
/-- the bases' cells where nothing but other places changed -/
theorem BOK.keep {G : zG} {ad : Nat → Nat} {w w' : Nat → va_E} {nf cu : Nat} (h : BOK G ad w nf cu) (e : ∀ j, 2 ≤ j → j < 55 → w' j = w j) : BOK G ad w' nf cu := by
  obtain ⟨b2, b3, b4, b5, b6, b7, b8, b10, bR, bc, bl, bB⟩ := h
  refine ⟨by rw [e 2 (by omega) (by omega)]; exact b2, isL_of b3 (e 3 (by omega) (by omega)), isL_of b4 (e 5 (by omega) (by omega)), isL_of b5 (e 6 (by omega) (by omega)), isL_of b6 (e 7 (by omega) (by omega)), by rw [e 8 (by omega) (by omega)]; exact b7, by rw [e 9 (by omega) (by omega)]; exact b8, by rw [e 10 (by omega) (by omega)]; exact b10, fun i hi => by rw [e (11 + i) (by omega) (by omega)]; exact bR i hi, bc, bl, fun k i h1 h2 h3 => ?_⟩
  have := zs_le k (by omega)
  exact isL_of (bB k i h1 h2 h3) (e _ (by omega) (by omega))
/-- ... and one row that is not made yet -/
theorem BOK.row {G : zG} {ad : Nat → Nat} {w w' : Nat → va_E} {nf cu : Nat} (h : BOK G ad w nf cu) (hcu : cu ≤ 40) (r : Nat) (hr : fst cu ≤ r) (hr2 : r < 44) (e : ∀ j, j ≠ 11 + r → w' j = w j) (er : ∃ f, w' (11 + r) = eL G 48 f) : BOK G ad w' nf cu := by
  obtain ⟨b2, b3, b4, b5, b6, b7, b8, b10, bR, bc, bl, bB⟩ := h
  refine ⟨by rw [e 2 (by omega)]; exact b2, isL_of b3 (e 3 (by omega)), isL_of b4 (e 5 (by omega)), isL_of b5 (e 6 (by omega)), isL_of b6 (e 7 (by omega)), by rw [e 8 (by omega)]; exact b7, by rw [e 9 (by omega)]; exact b8, by rw [e 10 (by omega)]; exact b10, fun i hi => ?_, bc, bl, fun k i h1 h2 h3 => ?_⟩
  · by_cases q : i = r
    · subst q; exact er
    · rw [e (11 + i) (by omega)]; exact bR i hi
  · have := fst_mono k (by omega) cu hcu h2 bc h1
    exact isL_of (bB k i h1 h2 h3) (e _ (by omega))
set_option maxHeartbeats 4000000 in
set_option maxRecDepth 100000 in
theorem k_max (l : Launch) (G : zG) (n : Nat) (ad : Nat → Nat) (w : Nat → va_E) (a b : Nat) (ha : a < 2 ^ 31) (hb0 : b < 2 ^ 31) :
    Ci l G yJ9_max_7cf53 cdJ9_max_7cf53 (zr 0) n ad w [.int (nI a), .int (nI b)] (fun r w' => w' = w ∧ r = nI (max a b)) := by
  refine ent_iF (cc := cJ9_max_7cf53) (maxL := 2) (ret := (some .int)) (by decide +kernel) rfl (Nat.le_of_ble_eq_true rfl) ?_
  intro p e s m args below meth c A B hr hlk hA H locs ls hW hl
  have hx := B.1
  have hb := B.2.1
  have hl : lv_has ls 2 [(0, .int (nI (a))), (1, .int (nI (b)))] := hl
  refine lv_iload_n hx hb dJ9_max_7cf53_0 rfl (lv_at hl 0 rfl) ?_
  refine lv_iload_n hx hb dJ9_max_7cf53_1 rfl (lv_at hl 1 rfl) ?_
  refine n_icmp_lt (tgt := 9) hx hb (by omega) (by omega) dJ9_max_7cf53_2 (by decide) (fun hc => ?_) (fun hc => ?_)
  · refine lv_iload_n hx hb dJ9_max_7cf53_9 rfl (lv_at hl 1 rfl) ?_
    exact ret_i B hr hlk hW ⟨rfl, by rw [Nat.max_eq_right (by omega)]⟩ dJ9_max_7cf53_10
  · refine lv_iload_n hx hb dJ9_max_7cf53_5 rfl (lv_at hl 0 rfl) ?_
    refine lv_goto (tgt := 10) hx hb dJ9_max_7cf53_6 (by decide) ?_
    exact ret_i B hr hlk hW ⟨rfl, by rw [Nat.max_eq_left (by omega)]⟩ dJ9_max_7cf53_10
set_option maxHeartbeats 4000000 in
set_option maxRecDepth 100000 in
theorem k_countSize (l : Launch) (G : zG) (n : Nat) (ad : Nat → Nat) (w : Nat → va_E) (k : Nat) (hk : k ≤ 40) (hk2 : k % 2 = 0) :
    Ci l G yX0_countSize cdX0_countSize (zr 0) n ad w [.int (nI k)] (fun r w' => w' = w ∧ r = nI (zs k)) := by
  refine ent_i (cc := cX0_countSize) (maxL := 3) (ret := (some .int)) (by decide +kernel) rfl (Nat.le_of_ble_eq_true rfl) ?_
  intro p e s m args below meth c A B hr hlk hA H locs ls hW hl
  have hx := B.1
  have hb := B.2.1
  have hl : lv_has ls 3 [(0, .int (nI (k)))] := hl
  refine lv_iconst (v := nI 0) hx hb dX0_countSize_0 (by decide) ?_
  refine lv_istore_n (lv' := [(1, .int (nI (0))), (0, .int (nI (k)))]) hx hb dX0_countSize_1 rfl hl (by decide) rfl (fun ls hl => ?_)
  refine lv_iload_n hx hb dX0_countSize_2 rfl (lv_at hl 1 rfl) ?_
  refine lv_istore_n (lv' := [(2, .int (nI (k))), (1, .int (nI (0))), (0, .int (nI (k)))]) hx hb dX0_countSize_3 rfl hl (by decide) rfl (fun ls hl => ?_)
  refine z_up1 (Wg := fun ls => W p l e (zr 0) s m args below meth c H locs 0 0 _ (F0 m 4 ls [])) (I := fun j ls => lv_has ls 3 [(2, .int (iZ ((k : Int) - 12 * (j : Nat)))), (1, .int (nI (cntS k j))), (0, .int (nI k))] ∧ cntS k j ≤ j) (a := 0) (b := k / 12 + 1) (Nat.zero_le _) ?_ ?_ ls ⟨(by rw [show ((k : Int) - 12 * ((0 : Nat) : Int)) = (k : Int) by omega, ← nI_Z]; exact hl), Nat.le_refl 0⟩
  · rintro j - hj ih ls ⟨hl, hcj⟩
    rw [show ((k : Int) - 12 * ((j : Nat) : Int)) = ((k - 12 * j : Nat) : Int) by omega, ← nI_Z] at hl
    refine lv_iload_n hx hb dX0_countSize_4 rfl (lv_at hl 0 rfl) ?_
    refine n_if_lt (tgt := 22) hx hb (by omega) dX0_countSize_5 (by decide) ?_
    refine lv_iload_n hx hb dX0_countSize_8 rfl (lv_at hl 0 rfl) ?_
    refine lv_iconst (v := nI 2) hx hb dX0_countSize_9 (by decide) ?_
    refine n_icmp_eq (tgt := 16) hx hb (by omega) (by omega) dX0_countSize_10 (by decide) (fun hd => ?_) (fun hd => ?_)
    · refine lv_iinc (v := (iZ ((k : Int) - 12 * ((j + 1 : Nat) : Int)))) (lv' := [(2, .int (iZ ((k : Int) - 12 * ((j + 1 : Nat) : Int)))), (1, .int (nI (cntS k j))), (0, .int (nI (k)))]) hx hb dX0_countSize_16 hl (k := 0) rfl (by rw [nI_Z, show ((k - 12 * j : Nat) : Int) = (k : Int) - 12 * (j : Nat) by omega, show ((k : Int) - 12 * ((j + 1 : Nat) : Int)) = ((k : Int) - 12 * (j : Nat)) + (-12) by omega, ← iZ_add]; rfl) (by decide) rfl (fun ls hl => ?_)
      refine lv_goto (tgt := 4) hx hb dX0_countSize_19 (by decide) ?_
      have hcn : cntS k (j + 1) = cntS k j := by show cntS k j + _ = _; rw [if_pos (by omega)]; rfl
      exact ih ls ⟨by rw [hcn]; exact lv_sub hl [0, 1, 2] rfl, by omega⟩
    · refine lv_iinc (v := (nI (cntS k j + 1))) (lv' := [(1, .int (nI (cntS k j + 1))), (2, .int (nI (k - 12 * j))), (0, .int (nI (k)))]) hx hb dX0_countSize_13 hl (k := 1) rfl (iinc1 _) (by decide) rfl (fun ls hl => ?_)
      refine lv_iinc (v := (iZ ((k : Int) - 12 * ((j + 1 : Nat) : Int)))) (lv' := [(2, .int (iZ ((k : Int) - 12 * ((j + 1 : Nat) : Int)))), (1, .int (nI (cntS k j + 1))), (0, .int (nI (k)))]) hx hb dX0_countSize_16 hl (k := 1) rfl (by rw [nI_Z, show ((k - 12 * j : Nat) : Int) = (k : Int) - 12 * (j : Nat) by omega, show ((k : Int) - 12 * ((j + 1 : Nat) : Int)) = ((k : Int) - 12 * (j : Nat)) + (-12) by omega, ← iZ_add]; rfl) (by decide) rfl (fun ls hl => ?_)
      refine lv_goto (tgt := 4) hx hb dX0_countSize_19 (by decide) ?_
      have hcn : cntS k (j + 1) = cntS k j + 1 := by show cntS k j + _ = _; rw [if_neg (by omega)]
      exact ih ls ⟨by rw [hcn]; exact lv_sub hl [0, 1, 2] rfl, by omega⟩
  · rintro ls ⟨hl, hcj⟩
    refine lv_iload_n hx hb dX0_countSize_4 rfl (lv_at hl 0 rfl) ?_
    refine lv_if_lt (tgt := 22) hx hb dX0_countSize_5 (by decide) (fun hc => ?_) (fun hc => ?_)
    · refine lv_iload_n hx hb dX0_countSize_22 rfl (lv_at hl 1 rfl) ?_
      exact ret_i B hr hlk hW ⟨rfl, by rw [cntS_zs k hk hk2]⟩ dX0_countSize_23
    · exact absurd (by
        rw [Int32.lt_iff_toInt_lt, iZ_toInt (by omega) (by omega)]
        show _ < (0 : Int)
        omega) hc
set_option maxHeartbeats 4000000 in
set_option maxRecDepth 100000 in
theorem k_sizeOf (l : Launch) (G : zG) (n : Nat) (ad : Nat → Nat) (w : Nat → va_E) (k nf cu : Nat) (hn : 55 ≤ n) (hk : k ≤ 40) (hB : BOK G ad w nf cu) :
    Ci l G yX0_sizeOf cdX0_sizeOf (zr 0) n ad w [.ref (ad 2), .int (nI k)] (fun r w' => w' = w ∧ r = nI (zs k)) := by
  obtain ⟨b2, b3, b4, b5, b6, ⟨fz, b7, c7⟩, ⟨ff, b8, c8⟩, ⟨fr, b10, c10⟩, bR, bc, bl, bB⟩ := id hB
  refine ent_i (cc := cX0_sizeOf) (maxL := 2) (ret := (some .int)) (by decide +kernel) rfl (Nat.le_of_ble_eq_true rfl) ?_
  intro p e s m args below meth c A B hr hlk hA H locs ls hW hl
  have hx := B.1
  have hb := B.2.1
  have hl : lv_has ls 2 [(0, .ref (ad (2))), (1, .int (nI (k)))] := hl
  refine lv_aload_n hx hb dX0_sizeOf_0 rfl (lv_at hl 0 rfl) ?_
  refine z_get B hW (2) (by omega) b2 rfl inX0 4 (by decide) hw_72 rfl (v := .ref (ad (8))) rfl dX0_sizeOf_1 ?_
  refine lv_iload_n hx hb dX0_sizeOf_4 rfl (lv_at hl 1 rfl) ?_
  refine lv_iconst (v := nI 2) hx hb dX0_sizeOf_5 (by decide) ?_
  refine n_idiv hx hb (by omega) (by omega) (by omega) dX0_sizeOf_6 ?_
  refine z_iald B hW (8) (by omega) b7 (k / 2) (by omega) (by decide) (v := (nI (szT.getD (k / 2) 0))) (c7 _ (by omega)) dX0_sizeOf_7 ?_
  exact ret_i B hr hlk hW ⟨rfl, rfl⟩ dX0_sizeOf_8
set_option maxHeartbeats 4000000 in
set_option maxRecDepth 100000 in
theorem k_makeRows (l : Launch) (G : zG) (n : Nat) (ad : Nat → Nat) (w : Nat → va_E) (k nf : Nat) (hn : 55 ≤ n) (hk : k ≤ 40) (hB : BOK G ad w nf k) :
    Cv l G yX0_makeRows cdX0_makeRows (zr 1) n ad w [.ref (ad 2), .int (nI k)] (fun w' => BOK G ad w' nf (k + 2) ∧ fr1 w w') := by
  have hzl := zs_le k hk
  obtain ⟨b2, b3, b4, b5, b6, ⟨fz, b7, c7⟩, ⟨ff, b8, c8⟩, ⟨fr, b10, c10⟩, bR, bc, bl, bB⟩ := id hB
  refine ent_v (cc := cX0_makeRows) (maxL := 4) (ret := none) (by decide +kernel) rfl (Nat.le_of_ble_eq_true rfl) ?_
  intro p e s m args below meth c A B hr hlk hA H locs ls hW hl
  have hx := B.1
  have hb := B.2.1
  have hl : lv_has ls 4 [(0, .ref (ad (2))), (1, .int (nI (k)))] := hl
  refine lv_aload_n hx hb dX0_makeRows_0 rfl (lv_at hl 0 rfl) ?_
  refine z_get B hW (2) (by omega) b2 rfl inX0 5 (by decide) hw_73 rfl (v := .ref (ad (9))) rfl dX0_makeRows_1 ?_
  refine lv_iload_n hx hb dX0_makeRows_4 rfl (lv_at hl 1 rfl) ?_
  refine lv_iconst (v := nI 2) hx hb dX0_makeRows_5 (by decide) ?_
  refine n_idiv hx hb (by omega) (by omega) (by omega) dX0_makeRows_6 ?_
  refine z_iald B hW (9) (by omega) b8 (k / 2) (by omega) (by decide) (v := (nI (fsT.getD (k / 2) 0))) (c8 _ (by omega)) dX0_makeRows_7 ?_
  refine topi (y := (nI (fst k))) rfl ?_
  refine lv_istore_n (lv' := [(2, .int (nI (fst k))), (0, .ref (ad (2))), (1, .int (nI (k)))]) hx hb dX0_makeRows_8 rfl hl (by decide) rfl (fun ls hl => ?_)
  refine lv_iconst (v := nI 0) hx hb dX0_makeRows_9 (by decide) ?_
  refine lv_istore_n (lv' := [(3, .int (nI (0))), (2, .int (nI (fst k))), (0, .ref (ad (2))), (1, .int (nI (k)))]) hx hb dX0_makeRows_10 rfl hl (by decide) rfl (fun ls hl => ?_)
  refine z_up (Wg := fun H locs ls => W p l e (zr 1) s m args below meth c H locs 0 0 _ (F0 m 11 ls [])) (I := fun i H locs ls => ∃ w2 : Nat → va_E, Wo G A s.heap n ad w2 H locs ∧ lv_has ls 4 [(3, .int (nI i)), (2, .int (nI (fst k))), (0, .ref (ad 2)), (1, .int (nI k))] ∧ BOK G ad w2 nf k ∧ fr1 w w2 ∧ ∀ i', i' < i → isL G w2 (11 + (fst k + i')) 48 (bas k i')) (a := 0) (b := zs k) (Nat.zero_le _) ?_ ?_ H locs ls ⟨w, hW, hl, hB, fr1.rf, fun i' h => by omega⟩
  · rintro i - hi ih H locs ls ⟨w2, hW, hl, hB2, hfr, hdone⟩
    clear b2 b3 b4 b5 b6 b7 c7 b8 c8 b10 c10 bR bB
    obtain ⟨b2, b3, b4, b5, b6, ⟨fz, b7, c7⟩, ⟨ff, b8, c8⟩, ⟨fr, b10, c10⟩, bR, bc, bl, bB⟩ := id hB2
    refine lv_iload_n hx hb dX0_makeRows_11 rfl (lv_at hl 0 rfl) ?_
    refine lv_aload_n hx hb dX0_makeRows_12 rfl (lv_at hl 2 rfl) ?_
    refine lv_iload_n hx hb dX0_makeRows_13 rfl (lv_at hl 3 rfl) ?_
    refine call_vi B hA hW (2) (by omega) b2 (r := _) rfl rfl (k_sizeOf l G n ad w2 k nf k hn hk hB2) mf_X0_sizeOf hw_227 rfl ⟨⟨rfl, rfl⟩, by decide, by decide⟩ ⟨Nat.zero_le _, Nat.zero_le _⟩ hl.1 rfl (Nat.le_of_ble_eq_true rfl) dX0_makeRows_14 (fun r w3 H locs hp hW => ?_)
    obtain ⟨e1, e2⟩ := hp
    rw [e1] at hW
    subst e2
    obtain ⟨gr, egr⟩ := bR (fst k + i) (by omega)
    refine n_icmp_ge (tgt := 138) hx hb (by omega) (by omega) dX0_makeRows_17 (by decide) (fun hc => ?_) (fun hc => ?_)
    · omega
    · refine lv_iload_n hx hb dX0_makeRows_20 rfl (lv_at hl 0 rfl) ?_
      refine n_if_le (tgt := 62) hx hb (by omega) dX0_makeRows_21 (by decide) (fun hd => ?_) (fun hd => ?_)
      · have egr0 : w2 (11 + (fst k)) = eL G 48 gr := by have q := egr; rw [hd] at q; exact q
        refine lv_iload_n hx hb dX0_makeRows_62 rfl (lv_at hl 3 rfl) ?_
        refine n_if_ne (tgt := 78) hx hb (by omega) dX0_makeRows_63 (by decide) (fun he => ?_) (fun he => ?_)
        · refine lv_iload_n hx hb dX0_makeRows_78 rfl (lv_at hl 3 rfl) ?_
          refine lv_bipush (v := nI 6) hx hb dX0_makeRows_79 (by decide) ?_
          refine n_icmp_ne (tgt := 104) hx hb (by omega) (by omega) dX0_makeRows_81 (by decide) (fun hf => ?_) (fun hf => ?_)
          · have h4 : 4 ≤ k ∧ 0 < zs (k - 4) := by rcases zs_4 k hk bc (by omega) with q | q | q <;> first | omega | exact q
            have hb4 := bB (k - 4) 0 (by omega) (by omega) h4.2
            have hz4 := zs_le (k - 4) (by omega)
            refine lv_aload_n hx hb dX0_makeRows_104 rfl (lv_at hl 2 rfl) ?_
            refine z_get B hW (2) (by omega) b2 rfl inX0 2 (by decide) hw_70 rfl (v := .ref (ad (6))) rfl dX0_makeRows_105 ?_
            refine lv_aload_n hx hb dX0_makeRows_108 rfl (lv_at hl 2 rfl) ?_
            refine z_get B hW (2) (by omega) b2 rfl inX0 6 (by decide) hw_74 rfl (v := .ref (ad (10))) rfl dX0_makeRows_109 ?_
            refine lv_aload_n hx hb dX0_makeRows_112 rfl (lv_at hl 2 rfl) ?_
            refine z_get B hW (2) (by omega) b2 rfl inX0 5 (by decide) hw_73 rfl (v := .ref (ad (9))) rfl dX0_makeRows_113 ?_
            refine lv_iload_n hx hb dX0_makeRows_116 rfl (lv_at hl 3 rfl) ?_
            refine lv_iconst (v := nI 4) hx hb dX0_makeRows_117 (by decide) ?_
            refine n_isub hx hb (by omega) dX0_makeRows_118 ?_
            refine lv_iconst (v := nI 2) hx hb dX0_makeRows_119 (by decide) ?_
            refine n_idiv hx hb (by omega) (by omega) (by omega) dX0_makeRows_120 ?_
            refine z_iald B hW (9) (by omega) b8 ((k - 4) / 2) (by omega) (by decide) (v := (nI (fsT.getD ((k - 4) / 2) 0))) (c8 _ (by omega)) dX0_makeRows_121 ?_
            refine topi (y := (nI (fst (k - 4)))) rfl ?_
            refine z_rald B hW (10) (by omega) b10 (fst (k - 4)) (by omega) (by decide) (q := ad (11 + (fst (k - 4)))) (c10 _ (by omega)) dX0_makeRows_122 ?_
            refine lv_aload_n hx hb dX0_makeRows_123 rfl (lv_at hl 2 rfl) ?_
            refine z_get B hW (2) (by omega) b2 rfl inX0 6 (by decide) hw_74 rfl (v := .ref (ad (10))) rfl dX0_makeRows_124 ?_
            refine lv_iload_n hx hb dX0_makeRows_127 rfl (lv_at hl 1 rfl) ?_
            refine z_rald B hW (10) (by omega) b10 (fst k) (by omega) (by decide) (q := ad (11 + (fst k))) (c10 _ (by omega)) dX0_makeRows_128 ?_
            refine call_sv B hA hW (k_X3_multiply l G n ad w2 6 (11 + (fst (k - 4))) (11 + (fst k)) e4S (bas (k - 4) 0) (by omega) (by omega) (by omega) b5 hb4 ⟨gr, egr0⟩ (red_sums _ _).s (bas_red _ _).s) mf_X3_multiply hw_239 rfl ⟨⟨rfl, rfl⟩, by decide, by decide⟩ ⟨Nat.zero_le _, Nat.zero_le _⟩ hl.1 rfl (Nat.le_of_ble_eq_true rfl) dX0_makeRows_129 (fun w4 H locs hp hW => ?_)
            rw [show fst k = fst k + i by omega] at hp
            obtain ⟨g1, g2⟩ := hp
            refine lv_iinc (v := (nI (i + 1))) (lv' := [(3, .int (nI (i + 1))), (2, .int (nI (fst k))), (0, .ref (ad (2))), (1, .int (nI (k)))]) hx hb dX0_makeRows_132 hl (k := 0) rfl (iinc1 _) (by decide) rfl (fun ls hl => ?_)
            refine lv_goto (tgt := 11) hx hb dX0_makeRows_135 (by decide) ?_
            refine ih H locs ls ⟨w4, hW, lv_sub hl [0, 1, 2, 3] rfl, hB2.row hk (fst k + i) (by omega) (by omega) g1 ⟨_, g2.choose_spec.1⟩, hfr.tr (fun j q1 q2 => g1 j (by omega)), fun i' hi' => ?_⟩
            by_cases q : i' = i
            · rw [q]
              rw [hd, bas_4 h4.1 bc hf]; rw [hd] at g2; exact g2
            · exact isL_of (hdone i' (by omega)) (g1 _ (by omega))
          · obtain ⟨f6, e6, v6⟩ := b6
            refine lv_aload_n hx hb dX0_makeRows_84 rfl (lv_at hl 2 rfl) ?_
            refine z_get B hW (2) (by omega) b2 rfl inX0 3 (by decide) hw_71 rfl (v := .ref (ad (7))) rfl dX0_makeRows_85 ?_
            refine lv_iconst (v := nI 0) hx hb dX0_makeRows_88 (by decide) ?_
            refine lv_aload_n hx hb dX0_makeRows_89 rfl (lv_at hl 2 rfl) ?_
            refine z_get B hW (2) (by omega) b2 rfl inX0 6 (by decide) hw_74 rfl (v := .ref (ad (10))) rfl dX0_makeRows_90 ?_
            refine lv_iload_n hx hb dX0_makeRows_93 rfl (lv_at hl 1 rfl) ?_
            refine z_rald B hW (10) (by omega) b10 (fst k) (by omega) (by decide) (q := ad (11 + (fst k))) (c10 _ (by omega)) dX0_makeRows_94 ?_
            refine lv_iconst (v := nI 0) hx hb dX0_makeRows_95 (by decide) ?_
            refine lv_bipush (v := nI 48) hx hb dX0_makeRows_96 (by decide) ?_
            refine z_copyl B hW hl.1 hw_241 hw_58 hw_57 hw_6 7 (11 + (fst k)) (by omega) (by omega) e6 egr0 0 0 48 (by omega) (by omega) (by decide) (by decide) (by decide) (by decide) dX0_makeRows_98 (fun H locs hW => ?_)
            have hp : (∀ j, j ≠ 11 + (fst k + i) → va_up w2 (11 + fst k) (eL G 48 (va_cpy f6 gr 0 0 48)) j = w2 j) ∧ isL G (va_up w2 (11 + fst k) (eL G 48 (va_cpy f6 gr 0 0 48))) (11 + (fst k + i)) 48 e6S := ⟨fun j hj => up_n (by omega), _, (by rw [hd]; exact up_s), fun q hq => by rw [pk_cpy_in (by omega) (by omega)]; rw [← v6 q hq]; congr 1; omega⟩
            generalize va_up w2 (11 + fst k) (eL G 48 (va_cpy f6 gr 0 0 48)) = w4 at hp hW
            obtain ⟨g1, g2⟩ := hp
            refine lv_goto (tgt := 132) hx hb dX0_makeRows_101 (by decide) ?_
            refine lv_iinc (v := (nI (i + 1))) (lv' := [(3, .int (nI (i + 1))), (2, .int (nI (fst k))), (0, .ref (ad (2))), (1, .int (nI (k)))]) hx hb dX0_makeRows_132 hl (k := 0) rfl (iinc1 _) (by decide) rfl (fun ls hl => ?_)
            refine lv_goto (tgt := 11) hx hb dX0_makeRows_135 (by decide) ?_
            refine ih H locs ls ⟨w4, hW, lv_sub hl [0, 1, 2, 3] rfl, hB2.row hk (fst k + i) (by omega) (by omega) g1 ⟨_, g2.choose_spec.1⟩, hfr.tr (fun j q1 q2 => g1 j (by omega)), fun i' hi' => ?_⟩
            by_cases q : i' = i
            · rw [q]
              rw [hd, hf, bas_60]; rw [hd, hf] at g2; exact g2
            · exact isL_of (hdone i' (by omega)) (g1 _ (by omega))
        · refine lv_aload_n hx hb dX0_makeRows_66 rfl (lv_at hl 2 rfl) ?_
          refine z_get B hW (2) (by omega) b2 rfl inX0 6 (by decide) hw_74 rfl (v := .ref (ad (10))) rfl dX0_makeRows_67 ?_
          refine lv_iload_n hx hb dX0_makeRows_70 rfl (lv_at hl 1 rfl) ?_
          refine z_rald B hW (10) (by omega) b10 (fst k) (by omega) (by decide) (q := ad (11 + (fst k))) (c10 _ (by omega)) dX0_makeRows_71 ?_
          refine call_sv B hA hW (k_putOne l G n ad w2 (11 + (fst k)) (by omega) ⟨gr, egr0⟩) mf_X3_putOne hw_240 rfl ⟨⟨rfl, rfl⟩, by decide, by decide⟩ ⟨Nat.zero_le _, Nat.zero_le _⟩ hl.1 rfl (Nat.le_of_ble_eq_true rfl) dX0_makeRows_72 (fun w4 H locs hp hW => ?_)
          rw [show fst k = fst k + i by omega] at hp
          obtain ⟨g1, g2⟩ := hp
          refine lv_goto (tgt := 132) hx hb dX0_makeRows_75 (by decide) ?_
          refine lv_iinc (v := (nI (i + 1))) (lv' := [(3, .int (nI (i + 1))), (2, .int (nI (fst k))), (0, .ref (ad (2))), (1, .int (nI (k)))]) hx hb dX0_makeRows_132 hl (k := 0) rfl (iinc1 _) (by decide) rfl (fun ls hl => ?_)
          refine lv_goto (tgt := 11) hx hb dX0_makeRows_135 (by decide) ?_
          refine ih H locs ls ⟨w4, hW, lv_sub hl [0, 1, 2, 3] rfl, hB2.row hk (fst k + i) (by omega) (by omega) g1 ⟨_, g2.choose_spec.1⟩, hfr.tr (fun j q1 q2 => g1 j (by omega)), fun i' hi' => ?_⟩
          by_cases q : i' = i
          · rw [q]
            rw [hd, he, bas_00]; rw [hd, he] at g2; exact g2
          · exact isL_of (hdone i' (by omega)) (g1 _ (by omega))
      · have h12 := zs_12 k hk bc (by omega)
        have hz12 := zs_le (k - 12) (by omega)
        have hi12 := zs_i12 k hk bc i hi
        obtain ⟨i2, hi2⟩ : ∃ i2, i = i2 + 1 := ⟨i - 1, by omega⟩
        have hb12 := bB (k - 12) i2 (by omega) (by omega) (by omega)
        refine lv_aload_n hx hb dX0_makeRows_24 rfl (lv_at hl 2 rfl) ?_
        refine z_get B hW (2) (by omega) b2 rfl inX0 1 (by decide) hw_68 rfl (v := .ref (ad (5))) rfl dX0_makeRows_25 ?_
        refine lv_aload_n hx hb dX0_makeRows_28 rfl (lv_at hl 2 rfl) ?_
        refine z_get B hW (2) (by omega) b2 rfl inX0 6 (by decide) hw_74 rfl (v := .ref (ad (10))) rfl dX0_makeRows_29 ?_
        refine lv_aload_n hx hb dX0_makeRows_32 rfl (lv_at hl 2 rfl) ?_
        refine z_get B hW (2) (by omega) b2 rfl inX0 5 (by decide) hw_73 rfl (v := .ref (ad (9))) rfl dX0_makeRows_33 ?_
        refine lv_iload_n hx hb dX0_makeRows_36 rfl (lv_at hl 3 rfl) ?_
        refine lv_bipush (v := nI 12) hx hb dX0_makeRows_37 (by decide) ?_
        refine n_isub hx hb (by omega) dX0_makeRows_39 ?_
        refine lv_iconst (v := nI 2) hx hb dX0_makeRows_40 (by decide) ?_
        refine n_idiv hx hb (by omega) (by omega) (by omega) dX0_makeRows_41 ?_
        refine z_iald B hW (9) (by omega) b8 ((k - 12) / 2) (by omega) (by decide) (v := (nI (fsT.getD ((k - 12) / 2) 0))) (c8 _ (by omega)) dX0_makeRows_42 ?_
        refine topi (y := (nI (fst (k - 12)))) rfl ?_
        refine lv_iload_n hx hb dX0_makeRows_43 rfl (lv_at hl 0 rfl) ?_
        refine n_iadd hx hb dX0_makeRows_44 ?_
        refine lv_iconst (v := nI 1) hx hb dX0_makeRows_45 (by decide) ?_
        refine n_isub hx hb (by omega) dX0_makeRows_46 ?_
        refine topi (y := (nI (fst (k - 12) + i2))) (by congr 1; omega) ?_
        refine z_rald B hW (10) (by omega) b10 (fst (k - 12) + i2) (by omega) (by decide) (q := ad (11 + (fst (k - 12) + i2))) (c10 _ (by omega)) dX0_makeRows_47 ?_
        refine lv_aload_n hx hb dX0_makeRows_48 rfl (lv_at hl 2 rfl) ?_
        refine z_get B hW (2) (by omega) b2 rfl inX0 6 (by decide) hw_74 rfl (v := .ref (ad (10))) rfl dX0_makeRows_49 ?_
        refine lv_iload_n hx hb dX0_makeRows_52 rfl (lv_at hl 1 rfl) ?_
        refine lv_iload_n hx hb dX0_makeRows_53 rfl (lv_at hl 0 rfl) ?_
        refine n_iadd hx hb dX0_makeRows_54 ?_
        refine z_rald B hW (10) (by omega) b10 ((fst k) + i) (by omega) (by decide) (q := ad (11 + ((fst k) + i))) (c10 _ (by omega)) dX0_makeRows_55 ?_
        refine call_sv B hA hW (k_X3_multiply l G n ad w2 5 (11 + (fst (k - 12) + i2)) (11 + (fst k + i)) dS (bas (k - 12) i2) (by omega) (by omega) (by omega) b4 hb12 ⟨gr, egr⟩ (red_mul _ _).s (bas_red _ _).s) mf_X3_multiply hw_239 rfl ⟨⟨rfl, rfl⟩, by decide, by decide⟩ ⟨Nat.zero_le _, Nat.zero_le _⟩ hl.1 rfl (Nat.le_of_ble_eq_true rfl) dX0_makeRows_56 (fun w4 H locs hp hW => ?_)
        obtain ⟨g1, g2⟩ := hp
        refine lv_goto (tgt := 132) hx hb dX0_makeRows_59 (by decide) ?_
        refine lv_iinc (v := (nI (i + 1))) (lv' := [(3, .int (nI (i + 1))), (2, .int (nI (fst k))), (0, .ref (ad (2))), (1, .int (nI (k)))]) hx hb dX0_makeRows_132 hl (k := 0) rfl (iinc1 _) (by decide) rfl (fun ls hl => ?_)
        refine lv_goto (tgt := 11) hx hb dX0_makeRows_135 (by decide) ?_
        refine ih H locs ls ⟨w4, hW, lv_sub hl [0, 1, 2, 3] rfl, hB2.row hk (fst k + i) (by omega) (by omega) g1 ⟨_, g2.choose_spec.1⟩, hfr.tr (fun j q1 q2 => g1 j (by omega)), fun i' hi' => ?_⟩
        by_cases q : i' = i
        · rw [q]
          rw [hi2] at hi12 g2 ⊢; rw [bas_up hi12.1]; exact g2
        · exact isL_of (hdone i' (by omega)) (g1 _ (by omega))
  · rintro H locs ls ⟨w2, hW, hl, hB2, hfr, hdone⟩
    clear b2 b3 b4 b5 b6 b7 c7 b8 c8 b10 c10 bR bB
    obtain ⟨b2, b3, b4, b5, b6, ⟨fz, b7, c7⟩, ⟨ff, b8, c8⟩, ⟨fr, b10, c10⟩, bR, bc, bl, bB⟩ := id hB2
    refine lv_iload_n hx hb dX0_makeRows_11 rfl (lv_at hl 0 rfl) ?_
    refine lv_aload_n hx hb dX0_makeRows_12 rfl (lv_at hl 2 rfl) ?_
    refine lv_iload_n hx hb dX0_makeRows_13 rfl (lv_at hl 3 rfl) ?_
    refine call_vi B hA hW (2) (by omega) b2 (r := _) rfl rfl (k_sizeOf l G n ad w2 k nf k hn hk hB2) mf_X0_sizeOf hw_227 rfl ⟨⟨rfl, rfl⟩, by decide, by decide⟩ ⟨Nat.zero_le _, Nat.zero_le _⟩ hl.1 rfl (Nat.le_of_ble_eq_true rfl) dX0_makeRows_14 (fun r w3 H locs hp hW => ?_)
    obtain ⟨e1, e2⟩ := hp
    rw [e1] at hW
    subst e2
    refine n_icmp_ge (tgt := 138) hx hb (by omega) (by omega) dX0_makeRows_17 (by decide) (fun hc => ?_) (fun hc => ?_)
    · refine ret_v B hr hlk hW ⟨⟨b2, b3, b4, b5, b6, ⟨fz, b7, c7⟩, ⟨ff, b8, c8⟩, ⟨fr, b10, c10⟩, bR, by omega, by omega, fun k' i h1 h2 h3 => ?_⟩, hfr⟩ dX0_makeRows_138
      by_cases q : k' < k
      · exact bB k' i q h2 h3
      · have : k' = k := by omega
        subst this
        exact hdone i h3
    · omega
