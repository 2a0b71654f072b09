set_option maxHeartbeats 4000000 in
set_option maxRecDepth 100000 in
theorem k_isRefusal (l : Launch) (G : zG) (n : Nat) (ad : Nat → Nat) (w : Nat → va_E) (x : Int32) :
    Ci l G yX4_isRefusal cdX4_isRefusal (zr 0) n ad w [.int x] (fun r w' => w' = w ∧ ((x ≤ -2 ∧ -8 ≤ x ∧ r = nI 1) ∨ (¬ (x ≤ -2 ∧ -8 ≤ x) ∧ r = nI 0))) := by
  refine ent_i (cc := cX4_isRefusal) (maxL := 1) (ret := (some .boolean)) (by decide +kernel) rfl (Nat.le_of_ble_eq_true rfl) ?_
  intro p e s m args below meth c A B hr hlk hA H locs ls hW hl
  have hx := B.1
  have hb := B.2.1
  have hl : lv_has ls 1 [(0, .int (x))] := hl
  refine lv_iload_n hx hb dX4_isRefusal_0 rfl (lv_at hl 0 rfl) ?_
  refine lv_bipush (v := -2) hx hb dX4_isRefusal_1 (by decide) ?_
  refine lv_icmp_gt (tgt := 16) hx hb dX4_isRefusal_3 (by decide) (fun hc => ?_) (fun hc => ?_)
  · refine lv_iconst (v := nI 0) hx hb dX4_isRefusal_16 (by decide) ?_
    exact ret_z B hr hlk hW rfl ⟨rfl, Or.inr ⟨fun q => by have q2 := q.1; rw [Int32.le_iff_toInt_le] at q2; rw [Int32.lt_iff_toInt_lt] at hc; omega, rfl⟩⟩ dX4_isRefusal_17
  · refine lv_iload_n hx hb dX4_isRefusal_6 rfl (lv_at hl 0 rfl) ?_
    refine lv_bipush (v := -8) hx hb dX4_isRefusal_7 (by decide) ?_
    refine lv_icmp_lt (tgt := 16) hx hb dX4_isRefusal_9 (by decide) (fun hd => ?_) (fun hd => ?_)
    · refine lv_iconst (v := nI 0) hx hb dX4_isRefusal_16 (by decide) ?_
      exact ret_z B hr hlk hW rfl ⟨rfl, Or.inr ⟨fun q => by have q2 := q.2; rw [Int32.le_iff_toInt_le] at q2; rw [Int32.lt_iff_toInt_lt] at hd; omega, rfl⟩⟩ dX4_isRefusal_17
    · refine lv_iconst (v := nI 1) hx hb dX4_isRefusal_12 (by decide) ?_
      refine lv_goto (tgt := 17) hx hb dX4_isRefusal_13 (by decide) ?_
      exact ret_z B hr hlk hW rfl ⟨rfl, Or.inl ⟨by rw [Int32.le_iff_toInt_le]; rw [Int32.lt_iff_toInt_lt] at hc; omega, by rw [Int32.le_iff_toInt_le]; rw [Int32.lt_iff_toInt_lt] at hd; omega, rfl⟩⟩ dX4_isRefusal_17
set_option maxHeartbeats 4000000 in
set_option maxRecDepth 100000 in
theorem k_refuse (l : Launch) (G : zG) (n : Nat) (ad : Nat → Nat) (w : Nat → va_E) (hn : 92 ≤ n) (σ : zS) (hX : XOK G ad w σ) (x : Int32) (c9 : Nat) (h1 : x ≤ -2) (h2 : -8 ≤ x) (h3 : -x = nI c9) (h4 : 2 ≤ c9) (h5 : c9 < 9) :
    Ci l G yX4_refuse cdX4_refuse (zr 1) n ad w [.ref (ad 0), .int x] (postX G ad w (ref σ c9)) := by
  obtain ⟨⟨nf, hB⟩, x0, ⟨f1, x1, v1⟩, ⟨f55, x55⟩, ⟨f56, x56⟩, ⟨f57, x57⟩, ⟨f58, x58, v58⟩, ⟨f59, x59, v59⟩, xf⟩ := id hX
  have hxc : x = -(nI c9) := by rw [← h3]; simp
  refine ent_i (cc := cX4_refuse) (maxL := 2) (ret := (some .int)) (by decide +kernel) rfl (Nat.le_of_ble_eq_true rfl) ?_
  intro p e s m args below meth c A B hr hlk hA H locs ls hW hl
  have hx := B.1
  have hb := B.2.1
  have hl : lv_has ls 2 [(0, .ref (ad (0))), (1, .int (x))] := hl
  refine lv_iload_n hx hb dX4_refuse_0 rfl (lv_at hl 1 rfl) ?_
  refine call_si B hA hW (k_isRefusal l G n ad w x) mf_X4_isRefusal hw_156 rfl ⟨⟨rfl, rfl⟩, by decide, by decide⟩ ⟨Nat.zero_le _, Nat.zero_le _⟩ hl.1 rfl (Nat.le_of_ble_eq_true rfl) dX4_refuse_1 (fun r w9 H locs hp hW => ?_)
  obtain ⟨e1, hp⟩ := hp
  rw [e1] at hW
  rcases hp with ⟨-, -, rfl⟩ | ⟨q, -⟩
  · refine n_if_eq (tgt := 18) hx hb (by omega) dX4_refuse_4 (by decide) (fun hc => ?_) (fun hc => ?_)
    · omega
    · refine lv_aload_n hx hb dX4_refuse_7 rfl (lv_at hl 0 rfl) ?_
      refine z_get B hW (0) (by omega) x0 rfl inX4 8 (by decide) hw_123 rfl (v := .ref (ad (59))) rfl dX4_refuse_8 ?_
      refine lv_iload_n hx hb dX4_refuse_11 rfl (lv_at hl 1 rfl) ?_
      refine lv_ineg hx hb dX4_refuse_12 ?_
      refine topi (y := (nI (c9))) h3 ?_
      refine lv_dup2_11 hx hb dX4_refuse_13 rfl rfl ?_
      obtain ⟨y, hy⟩ : ∃ y, y = sF σ c9 := ⟨_, rfl⟩
      refine z_iald B hW (59) (by omega) x59 (c9) (by omega) (by decide) (v := (y)) (by rw [v59 _ h4 h5, hy]) dX4_refuse_14 ?_
      refine lv_iconst (v := nI 1) hx hb dX4_refuse_15 (by decide) ?_
      refine lv_iadd hx hb dX4_refuse_16 ?_
      refine z_iast B hW (59) (by omega) x59 (c9) (by omega) (by decide) dX4_refuse_17 (fun H locs hW => ?_)
      refine lv_iload_n hx hb dX4_refuse_18 rfl (lv_at hl 1 rfl) ?_
      refine ret_i B hr hlk hW ⟨hxc, ?_, fun j hj => up_n (by omega)⟩ dX4_refuse_19
      refine ⟨⟨nf, hB.keep (fun j q1 q2 => up_n (by omega))⟩, (up_n (by decide)).trans x0, ⟨f1, (up_n (by decide)).trans x1, v1⟩, ⟨f55, (up_n (by decide)).trans x55⟩, ⟨f56, (up_n (by decide)).trans x56⟩, ⟨f57, (up_n (by decide)).trans x57⟩, ⟨f58, (up_n (by decide)).trans x58, v58⟩, ⟨_, up_s, fun i q1 q2 => ?_⟩, fun i hi => ?_⟩
      · show upd f59 c9 (y + nI 1) i = upd (sF σ) c9 (sF σ c9 + 1) i
        by_cases q : i = c9
        · subst q; rw [pk_us, pk_us, hy]; rfl
        · rw [pk_un q, pk_un q]; exact v59 i q1 q2
      · obtain ⟨a1, a2, a3, a4, a5, a6, a7⟩ := xf i hi
        exact ⟨a1, a2, a3, a4, (up_n (by omega)).trans a5, (up_n (by omega)).trans a6, a7⟩
  · exact absurd ⟨h1, h2⟩ q
set_option maxHeartbeats 4000000 in
set_option maxRecDepth 100000 in
theorem k_isForm (l : Launch) (G : zG) (n : Nat) (ad : Nat → Nat) (w : Nat → va_E) (hn : 92 ≤ n) (σ : zS) (hX : XOK G ad w σ) (hs : SOK σ) (x : Int32) :
    Ci l G yX4_isForm cdX4_isForm (zr 0) n ad w [.ref (ad 0), .int x] (fun r w' => w' = w ∧ ((∃ j, j < sH σ ∧ x = nI j ∧ r = nI 1) ∨ (¬ isF (sH σ) x ∧ r = nI 0))) := by
  obtain ⟨⟨nf, hB⟩, x0, ⟨f1, x1, v1⟩, ⟨f55, x55⟩, ⟨f56, x56⟩, ⟨f57, x57⟩, ⟨f58, x58, v58⟩, ⟨f59, x59, v59⟩, xf⟩ := id hX
  have hsh := hs.1
  refine ent_i (cc := cX4_isForm) (maxL := 2) (ret := (some .boolean)) (by decide +kernel) rfl (Nat.le_of_ble_eq_true rfl) ?_
  intro p e s m args below meth c A B hr hlk hA H locs ls hW hl
  have hx := B.1
  have hb := B.2.1
  have hl : lv_has ls 2 [(0, .ref (ad (0))), (1, .int (x))] := hl
  refine lv_iload_n hx hb dX4_isForm_0 rfl (lv_at hl 1 rfl) ?_
  refine lv_if_lt (tgt := 16) hx hb dX4_isForm_1 (by decide) (fun hc => ?_) (fun hc => ?_)
  · refine lv_iconst (v := nI 0) hx hb dX4_isForm_16 (by decide) ?_
    exact ret_z B hr hlk hW rfl ⟨rfl, Or.inr ⟨fun ⟨j, q1, q2⟩ => nI_pos (by omega) (q2 ▸ hc), rfl⟩⟩ dX4_isForm_17
  · obtain ⟨j, hj, rfl⟩ := nI_of hc
    refine lv_iload_n hx hb dX4_isForm_4 rfl (lv_at hl 1 rfl) ?_
    refine lv_aload_n hx hb dX4_isForm_5 rfl (lv_at hl 0 rfl) ?_
    refine z_get B hW (0) (by omega) x0 rfl inX4 1 (by decide) hw_116 rfl (v := .int (nI (sH σ))) rfl dX4_isForm_6 ?_
    refine n_icmp_ge (tgt := 16) hx hb (by omega) (by omega) dX4_isForm_9 (by decide) (fun hd => ?_) (fun hd => ?_)
    · refine lv_iconst (v := nI 0) hx hb dX4_isForm_16 (by decide) ?_
      exact ret_z B hr hlk hW rfl ⟨rfl, Or.inr ⟨fun ⟨i, q1, q2⟩ => by have := (nI_eq hj (by omega)).mp q2; omega, rfl⟩⟩ dX4_isForm_17
    · refine lv_iconst (v := nI 1) hx hb dX4_isForm_12 (by decide) ?_
      refine lv_goto (tgt := 17) hx hb dX4_isForm_13 (by decide) ?_
      exact ret_z B hr hlk hW rfl ⟨rfl, Or.inl ⟨j, hd, rfl, rfl⟩⟩ dX4_isForm_17
set_option maxHeartbeats 4000000 in
set_option maxRecDepth 100000 in
theorem k_isWeight (l : Launch) (G : zG) (n : Nat) (ad : Nat → Nat) (w : Nat → va_E) (x : Int32) :
    Ci l G yX4_isWeight cdX4_isWeight (zr 0) n ad w [.int x] (fun r w' => w' = w ∧ ((∃ k, k ≤ 40 ∧ k % 2 = 0 ∧ x = nI k ∧ r = nI 1) ∨ ((¬ ∃ k, k ≤ 40 ∧ k % 2 = 0 ∧ x = nI k) ∧ r = nI 0))) := by
  refine ent_i (cc := cX4_isWeight) (maxL := 1) (ret := (some .boolean)) (by decide +kernel) rfl (Nat.le_of_ble_eq_true rfl) ?_
  intro p e s m args below meth c A B hr hlk hA H locs ls hW hl
  have hx := B.1
  have hb := B.2.1
  have hl : lv_has ls 1 [(0, .int (x))] := hl
  refine lv_iload_n hx hb dX4_isWeight_0 rfl (lv_at hl 0 rfl) ?_
  refine lv_if_lt (tgt := 20) hx hb dX4_isWeight_1 (by decide) (fun hc => ?_) (fun hc => ?_)
  · refine lv_iconst (v := nI 0) hx hb dX4_isWeight_20 (by decide) ?_
    exact ret_z B hr hlk hW rfl ⟨rfl, Or.inr ⟨fun ⟨j, q1, _, q2⟩ => nI_pos (by omega) (q2 ▸ hc), rfl⟩⟩ dX4_isWeight_21
  · obtain ⟨j, hj, rfl⟩ := nI_of hc
    refine lv_iload_n hx hb dX4_isWeight_4 rfl (lv_at hl 0 rfl) ?_
    refine lv_bipush (v := nI 40) hx hb dX4_isWeight_5 (by decide) ?_
    refine n_icmp_gt (tgt := 20) hx hb (by omega) (by omega) dX4_isWeight_7 (by decide) (fun hd => ?_) (fun hd => ?_)
    · refine lv_iconst (v := nI 0) hx hb dX4_isWeight_20 (by decide) ?_
      exact ret_z B hr hlk hW rfl ⟨rfl, Or.inr ⟨fun ⟨i, q1, q3, q2⟩ => by have := (nI_eq hj (by omega)).mp q2; omega, rfl⟩⟩ dX4_isWeight_21
    · refine lv_iload_n hx hb dX4_isWeight_10 rfl (lv_at hl 0 rfl) ?_
      refine lv_iconst (v := nI 2) hx hb dX4_isWeight_11 (by decide) ?_
      refine n_irem hx hb (by omega) (by omega) (by omega) dX4_isWeight_12 ?_
      refine n_if_ne (tgt := 20) hx hb (by omega) dX4_isWeight_13 (by decide) (fun he => ?_) (fun he => ?_)
      · refine lv_iconst (v := nI 0) hx hb dX4_isWeight_20 (by decide) ?_
        exact ret_z B hr hlk hW rfl ⟨rfl, Or.inr ⟨fun ⟨i, q1, q3, q2⟩ => by have := (nI_eq hj (by omega)).mp q2; omega, rfl⟩⟩ dX4_isWeight_21
      · refine lv_iconst (v := nI 1) hx hb dX4_isWeight_16 (by decide) ?_
        refine lv_goto (tgt := 21) hx hb dX4_isWeight_17 (by decide) ?_
        exact ret_z B hr hlk hW rfl ⟨rfl, Or.inl ⟨j, hd, he, rfl, rfl⟩⟩ dX4_isWeight_21
set_option maxHeartbeats 4000000 in
set_option maxRecDepth 100000 in
theorem k_X4_isPrime (l : Launch) (G : zG) (n : Nat) (ad : Nat → Nat) (w : Nat → va_E) (x : Int32) :
    Ci l G yX4_isPrime cdX4_isPrime (zr 0) n ad w [.int x] (fun r w' => w' = w ∧ ((∃ p, (p = 2 ∨ p = 3 ∨ p = 5 ∨ p = 7 ∨ p = 11) ∧ x = nI p ∧ r = nI 1) ∨ ((¬ ∃ p, (p = 2 ∨ p = 3 ∨ p = 5 ∨ p = 7 ∨ p = 11) ∧ x = nI p) ∧ r = nI 0))) := by
  refine ent_i (cc := cX4_isPrime) (maxL := 1) (ret := (some .boolean)) (by decide +kernel) rfl (Nat.le_of_ble_eq_true rfl) ?_
  intro p e s m args below meth c A B hr hlk hA H locs ls hW hl
  have hx := B.1
  have hb := B.2.1
  have hl : lv_has ls 1 [(0, .int (x))] := hl
  refine lv_iload_n hx hb dX4_isPrime_0 rfl (lv_at hl 0 rfl) ?_
  refine lv_iconst (v := nI 2) hx hb dX4_isPrime_1 (by decide) ?_
  refine lv_icmp_eq (tgt := 27) hx hb dX4_isPrime_2 (by decide) (fun c0 => ?_) (fun c0 => ?_)
  · refine lv_iconst (v := nI 1) hx hb dX4_isPrime_27 (by decide) ?_
    refine lv_goto (tgt := 32) hx hb dX4_isPrime_28 (by decide) ?_
    exact ret_z B hr hlk hW rfl ⟨rfl, Or.inl ⟨2, by decide, c0, rfl⟩⟩ dX4_isPrime_32
  · refine lv_iload_n hx hb dX4_isPrime_5 rfl (lv_at hl 0 rfl) ?_
    refine lv_iconst (v := nI 3) hx hb dX4_isPrime_6 (by decide) ?_
    refine lv_icmp_eq (tgt := 27) hx hb dX4_isPrime_7 (by decide) (fun c1 => ?_) (fun c1 => ?_)
    · refine lv_iconst (v := nI 1) hx hb dX4_isPrime_27 (by decide) ?_
      refine lv_goto (tgt := 32) hx hb dX4_isPrime_28 (by decide) ?_
      exact ret_z B hr hlk hW rfl ⟨rfl, Or.inl ⟨3, by decide, c1, rfl⟩⟩ dX4_isPrime_32
    · refine lv_iload_n hx hb dX4_isPrime_10 rfl (lv_at hl 0 rfl) ?_
      refine lv_iconst (v := nI 5) hx hb dX4_isPrime_11 (by decide) ?_
      refine lv_icmp_eq (tgt := 27) hx hb dX4_isPrime_12 (by decide) (fun c2 => ?_) (fun c2 => ?_)
      · refine lv_iconst (v := nI 1) hx hb dX4_isPrime_27 (by decide) ?_
        refine lv_goto (tgt := 32) hx hb dX4_isPrime_28 (by decide) ?_
        exact ret_z B hr hlk hW rfl ⟨rfl, Or.inl ⟨5, by decide, c2, rfl⟩⟩ dX4_isPrime_32
      · refine lv_iload_n hx hb dX4_isPrime_15 rfl (lv_at hl 0 rfl) ?_
        refine lv_bipush (v := nI 7) hx hb dX4_isPrime_16 (by decide) ?_
        refine lv_icmp_eq (tgt := 27) hx hb dX4_isPrime_18 (by decide) (fun c3 => ?_) (fun c3 => ?_)
        · refine lv_iconst (v := nI 1) hx hb dX4_isPrime_27 (by decide) ?_
          refine lv_goto (tgt := 32) hx hb dX4_isPrime_28 (by decide) ?_
          exact ret_z B hr hlk hW rfl ⟨rfl, Or.inl ⟨7, by decide, c3, rfl⟩⟩ dX4_isPrime_32
        · refine lv_iload_n hx hb dX4_isPrime_21 rfl (lv_at hl 0 rfl) ?_
          refine lv_bipush (v := nI 11) hx hb dX4_isPrime_22 (by decide) ?_
          refine lv_icmp_ne (tgt := 31) hx hb dX4_isPrime_24 (by decide) (fun c4 => ?_) (fun c4 => ?_)
          · refine lv_iconst (v := nI 0) hx hb dX4_isPrime_31 (by decide) ?_
            exact ret_z B hr hlk hW rfl ⟨rfl, Or.inr ⟨fun ⟨p, q, q2⟩ => by rcases q with rfl | rfl | rfl | rfl | rfl <;> first | exact c0 q2 | exact c1 q2 | exact c2 q2 | exact c3 q2 | exact c4 q2, rfl⟩⟩ dX4_isPrime_32
          · refine lv_iconst (v := nI 1) hx hb dX4_isPrime_27 (by decide) ?_
            refine lv_goto (tgt := 32) hx hb dX4_isPrime_28 (by decide) ?_
            exact ret_z B hr hlk hW rfl ⟨rfl, Or.inl ⟨11, by decide, c4, rfl⟩⟩ dX4_isPrime_32
set_option maxHeartbeats 4000000 in
set_option maxRecDepth 100000 in
theorem k_hasRoom (l : Launch) (G : zG) (n : Nat) (ad : Nat → Nat) (w : Nat → va_E) (hn : 92 ≤ n) (σ : zS) (hX : XOK G ad w σ) (hs : SOK σ) (k : Nat) (hk : k < 2 ^ 31) :
    Ci l G yX4_hasRoom cdX4_hasRoom (zr 0) n ad w [.ref (ad 0), .int (nI k)] (fun r w' => w' = w ∧ ((sH σ < 16 ∧ k ≤ 40 ∧ r = nI 1) ∨ (¬ (sH σ < 16 ∧ k ≤ 40) ∧ r = nI 0))) := by
  obtain ⟨⟨nf, hB⟩, x0, ⟨f1, x1, v1⟩, ⟨f55, x55⟩, ⟨f56, x56⟩, ⟨f57, x57⟩, ⟨f58, x58, v58⟩, ⟨f59, x59, v59⟩, xf⟩ := id hX
  have hsh := hs.1
  refine ent_i (cc := cX4_hasRoom) (maxL := 2) (ret := (some .boolean)) (by decide +kernel) rfl (Nat.le_of_ble_eq_true rfl) ?_
  intro p e s m args below meth c A B hr hlk hA H locs ls hW hl
  have hx := B.1
  have hb := B.2.1
  have hl : lv_has ls 2 [(0, .ref (ad (0))), (1, .int (nI (k)))] := hl
  refine lv_aload_n hx hb dX4_hasRoom_0 rfl (lv_at hl 0 rfl) ?_
  refine z_get B hW (0) (by omega) x0 rfl inX4 1 (by decide) hw_116 rfl (v := .int (nI (sH σ))) rfl dX4_hasRoom_1 ?_
  refine lv_bipush (v := nI 16) hx hb dX4_hasRoom_4 (by decide) ?_
  refine n_icmp_ge (tgt := 19) hx hb (by omega) (by omega) dX4_hasRoom_6 (by decide) (fun hc => ?_) (fun hc => ?_)
  · refine lv_iconst (v := nI 0) hx hb dX4_hasRoom_19 (by decide) ?_
    exact ret_z B hr hlk hW rfl ⟨rfl, Or.inr ⟨by omega, rfl⟩⟩ dX4_hasRoom_20
  · refine lv_iload_n hx hb dX4_hasRoom_9 rfl (lv_at hl 1 rfl) ?_
    refine lv_bipush (v := nI 40) hx hb dX4_hasRoom_10 (by decide) ?_
    refine n_icmp_gt (tgt := 19) hx hb (by omega) (by omega) dX4_hasRoom_12 (by decide) (fun hd => ?_) (fun hd => ?_)
    · refine lv_iconst (v := nI 0) hx hb dX4_hasRoom_19 (by decide) ?_
      exact ret_z B hr hlk hW rfl ⟨rfl, Or.inr ⟨by omega, rfl⟩⟩ dX4_hasRoom_20
    · refine lv_iconst (v := nI 1) hx hb dX4_hasRoom_15 (by decide) ?_
      refine lv_goto (tgt := 20) hx hb dX4_hasRoom_16 (by decide) ?_
      exact ret_z B hr hlk hW rfl ⟨rfl, Or.inl ⟨hc, hd, rfl⟩⟩ dX4_hasRoom_20
set_option maxHeartbeats 4000000 in
set_option maxRecDepth 100000 in
theorem k_comeAsTold (l : Launch) (G : zG) (n : Nat) (ad : Nat → Nat) (w : Nat → va_E) (hn : 92 ≤ n) (σ : zS) (hX : XOK G ad w σ) (hs : SOK σ) (hh : sH σ < 16) (kd k td : Nat) (a : Nat → Nat) (ha : isL G w (61 + 2 * sH σ) 48 a) :
    Ci l G yX4_comeAsTold cdX4_comeAsTold (zr 0) n ad w [.ref (ad 0), .int (nI kd), .int (nI k), .int (nI td)] (postX G ad w (nI (sH σ), push σ k kd td a)) := by
  obtain ⟨⟨nf, hB⟩, x0, ⟨f1, x1, v1⟩, ⟨f55, x55⟩, ⟨f56, x56⟩, ⟨f57, x57⟩, ⟨f58, x58, v58⟩, ⟨f59, x59, v59⟩, xf⟩ := id hX
  obtain ⟨xa, ya, za, fa, g1, g2, -⟩ := xf (sH σ) hh
  refine ent_i (cc := cX4_comeAsTold) (maxL := 5) (ret := (some .int)) (by decide +kernel) rfl (Nat.le_of_ble_eq_true rfl) ?_
  intro p e s m args below meth c A B hr hlk hA H locs ls hW hl
  have hx := B.1
  have hb := B.2.1
  have hl : lv_has ls 5 [(0, .ref (ad (0))), (1, .int (nI (kd))), (2, .int (nI (k))), (3, .int (nI (td)))] := hl
  refine lv_aload_n hx hb dX4_comeAsTold_0 rfl (lv_at hl 0 rfl) ?_
  refine z_get B hW (0) (by omega) x0 rfl inX4 0 (by decide) hw_115 rfl (v := .ref (ad (1))) rfl dX4_comeAsTold_1 ?_
  refine lv_aload_n hx hb dX4_comeAsTold_4 rfl (lv_at hl 0 rfl) ?_
  refine z_get B hW (0) (by omega) x0 rfl inX4 1 (by decide) hw_116 rfl (v := .int (nI (sH σ))) rfl dX4_comeAsTold_5 ?_
  refine z_aald B hW (1) (by omega) x1 (sH σ) (by omega) (by decide) (q := ad (60 + 2 * (sH σ))) (v1 _ (by omega)) dX4_comeAsTold_8 ?_
  refine lv_astore (lv' := [(4, .ref (ad (60 + 2 * (sH σ)))), (0, .ref (ad (0))), (1, .int (nI (kd))), (2, .int (nI (k))), (3, .int (nI (td)))]) hx hb dX4_comeAsTold_9 hl (by decide) rfl (fun ls hl => ?_)
  refine lv_aload hx hb dX4_comeAsTold_11 (lv_at hl 0 rfl) ?_
  refine lv_iload_n hx hb dX4_comeAsTold_13 rfl (lv_at hl 2 rfl) ?_
  refine z_put B hW (60 + 2 * (sH σ)) (by omega) g1 rfl inX1 tyX1 tyX1_ok nmX1 2 (by decide) hw_104 rfl rfl (v := .int (nI (kd))) rfl rfl (Nat.le_of_ble_eq_true rfl) dX4_comeAsTold_14 (fun H locs hW => ?_)
  have hW : Wo G A s.heap n ad (va_up w (60 + 2 * (sH σ)) (eO 1 [.ref (ad (61 + 2 * (sH σ))), .int xa, .int (nI kd), .int za])) H locs := hW
  have g1b : va_up w (60 + 2 * (sH σ)) (eO 1 [.ref (ad (61 + 2 * (sH σ))), .int xa, .int (nI kd), .int za]) (60 + 2 * (sH σ)) = _ := up_s
  refine lv_aload hx hb dX4_comeAsTold_17 (lv_at hl 0 rfl) ?_
  refine lv_iload_n hx hb dX4_comeAsTold_19 rfl (lv_at hl 3 rfl) ?_
  refine z_put B hW (60 + 2 * (sH σ)) (by omega) g1b rfl inX1 tyX1 tyX1_ok nmX1 1 (by decide) hw_103 rfl rfl (v := .int (nI (k))) rfl rfl (Nat.le_of_ble_eq_true rfl) dX4_comeAsTold_20 (fun H locs hW => ?_)
  have g1c : va_up (va_up w (60 + 2 * (sH σ)) (eO 1 [.ref (ad (61 + 2 * (sH σ))), .int xa, .int (nI kd), .int za])) (60 + 2 * (sH σ)) (eO 1 [.ref (ad (61 + 2 * (sH σ))), .int (nI k), .int (nI kd), .int za]) (60 + 2 * (sH σ)) = _ := up_s
  refine lv_aload hx hb dX4_comeAsTold_23 (lv_at hl 0 rfl) ?_
  refine lv_iload_n hx hb dX4_comeAsTold_25 rfl (lv_at hl 4 rfl) ?_
  refine z_put B hW (60 + 2 * (sH σ)) (by omega) g1c rfl inX1 tyX1 tyX1_ok nmX1 3 (by decide) hw_105 rfl rfl (v := .int (nI (td))) rfl rfl (Nat.le_of_ble_eq_true rfl) dX4_comeAsTold_26 (fun H locs hW => ?_)
  obtain ⟨w2, hw2⟩ : ∃ w2, w2 = va_up w (60 + 2 * (sH σ)) (eO 1 [.ref (ad (61 + 2 * (sH σ))), .int (nI k), .int (nI kd), .int (nI td)]) := ⟨_, rfl⟩
  have hW : Wo G A s.heap n ad w2 H locs := by
    refine hW.congr (fun j hj => ?_)
    rw [hw2]
    by_cases q : j = 60 + 2 * (sH σ)
    · rw [q, up_s, up_s]; rfl
    · rw [up_n q, up_n q, up_n q, up_n q]
  have x0b := (show w2 0 = w 0 by rw [hw2, up_n (by omega)]).trans x0
  refine lv_aload_n hx hb dX4_comeAsTold_29 rfl (lv_at hl 1 rfl) ?_
  refine lv_dup hx hb dX4_comeAsTold_30 rfl ?_
  refine z_get B hW (0) (by omega) x0b rfl inX4 1 (by decide) hw_116 rfl (v := .int (nI (sH σ))) rfl dX4_comeAsTold_31 ?_
  refine lv_iconst (v := nI 1) hx hb dX4_comeAsTold_34 (by decide) ?_
  refine n_iadd hx hb dX4_comeAsTold_35 ?_
  refine z_put B hW (0) (by omega) x0b rfl inX4 tyX4 tyX4_ok nmX4 1 (by decide) hw_116 rfl rfl (v := .int (nI ((sH σ) + 1))) rfl rfl (Nat.le_of_ble_eq_true rfl) dX4_comeAsTold_36 (fun H locs hW => ?_)
  have x0c : va_up w2 0 (eO 2 [.ref (ad 1), .int (nI (sH σ + 1)), .ref (ad 2), .ref (ad 55), .ref (ad 56), .ref (ad 57), .ref (ad 58), .int (rlI (sR σ)), .ref (ad 59)]) 0 = _ := up_s
  refine lv_aload_n hx hb dX4_comeAsTold_39 rfl (lv_at hl 1 rfl) ?_
  refine z_get B hW (0) (by omega) x0c rfl inX4 1 (by decide) hw_116 rfl (v := .int (nI (sH σ + 1))) rfl dX4_comeAsTold_40 ?_
  refine lv_iconst (v := nI 1) hx hb dX4_comeAsTold_43 (by decide) ?_
  refine n_isub hx hb (by omega) dX4_comeAsTold_44 ?_
  refine ret_i B hr hlk hW ⟨rfl, ?_, fun j hj => by rw [up_n (by omega), hw2, up_n (by omega)]⟩ dX4_comeAsTold_45
  have hk2 : ∀ j, j ≠ 0 → j ≠ 60 + 2 * (sH σ) → va_up w2 0 (eO 2 [.ref (ad 1), .int (nI (sH σ + 1)), .ref (ad 2), .ref (ad 55), .ref (ad 56), .ref (ad 57), .ref (ad 58), .int (rlI (sR σ)), .ref (ad 59)]) j = w j := fun j q1 q2 => by rw [up_n q1, hw2, up_n q2]
  refine ⟨⟨nf, hB.keep (fun j q1 q2 => hk2 j (by omega) (by omega))⟩, x0c, ⟨f1, (hk2 1 (by omega) (by omega)).trans x1, v1⟩, ⟨f55, (hk2 55 (by omega) (by omega)).trans x55⟩, ⟨f56, (hk2 56 (by omega) (by omega)).trans x56⟩, ⟨f57, (hk2 57 (by omega) (by omega)).trans x57⟩, ⟨f58, (hk2 58 (by omega) (by omega)).trans x58, v58⟩, ⟨f59, (hk2 59 (by omega) (by omega)).trans x59, v59⟩, fun i hi => ?_⟩
  by_cases q : i = sH σ
  · subst q
    obtain ⟨ga, e3, v3⟩ := ha
    refine ⟨nI k, nI kd, nI td, ga, by rw [up_n (by omega), hw2, up_s], (hk2 _ (by omega) (by omega)).trans e3, fun _ => ⟨?_, ?_, ?_, fun j hj => ?_⟩⟩
    · show _ = nI (va_up (sW σ) (sH σ) k (sH σ)); rw [up_s]
    · show _ = nI (va_up (sK σ) (sH σ) kd (sH σ)); rw [up_s]
    · show _ = nI (va_up (sT σ) (sH σ) td (sH σ)); rw [up_s]
    · show _ = lN (va_up (sE σ) (sH σ) a (sH σ) j); rw [up_s]; exact v3 j hj
  · obtain ⟨a1, a2, a3, a4, a5, a6, a7⟩ := xf i hi
    refine ⟨a1, a2, a3, a4, (hk2 _ (by omega) (by omega)).trans a5, (hk2 _ (by omega) (by omega)).trans a6, fun hi2 => ?_⟩
    have hi2 : i < sH σ + 1 := hi2
    obtain ⟨b1, b2, b3, b4⟩ := a7 (by omega)
    refine ⟨?_, ?_, ?_, fun j hj => ?_⟩
    · show _ = nI (va_up (sW σ) (sH σ) k i); rw [up_n q]; exact b1
    · show _ = nI (va_up (sK σ) (sH σ) kd i); rw [up_n q]; exact b2
    · show _ = nI (va_up (sT σ) (sH σ) td i); rw [up_n q]; exact b3
    · show _ = lN (va_up (sE σ) (sH σ) a i j); rw [up_n q]; exact b4 j hj
set_option maxHeartbeats 4000000 in
set_option maxRecDepth 100000 in
theorem k_comeOfOthers (l : Launch) (G : zG) (n : Nat) (ad : Nat → Nat) (w : Nat → va_E) (hn : 92 ≤ n) (σ : zS) (hX : XOK G ad w σ) (hs : SOK σ) (hh : sH σ < 16) (k : Nat) (hk : k ≤ 40) (a : Nat → Nat) (ha : isL G w (61 + 2 * sH σ) 48 a) (ra : a 0 < 1000003) :
    Ci l G yX4_comeOfOthers cdX4_comeOfOthers (zr 1) n ad w [.ref (ad 0), .int (nI k)] (postX G ad w (comeO σ k a)) := by
  have hco : comeO σ k a = (nI (sH σ), push σ k (knd k a) 0 a) := by unfold comeO come; rw [if_pos ⟨hh, hk⟩]
  rw [hco]
  obtain ⟨⟨nf, hB⟩, x0, ⟨f1, x1, v1⟩, ⟨f55, x55⟩, ⟨f56, x56⟩, ⟨f57, x57⟩, ⟨f58, x58, v58⟩, ⟨f59, x59, v59⟩, xf⟩ := id hX
  obtain ⟨xa, ya, za, fa, g1, g2⟩ := hX.free hh
  obtain ⟨ga, e3, v3⟩ := id ha
  refine ent_i (cc := cX4_comeOfOthers) (maxL := 3) (ret := (some .int)) (by decide +kernel) rfl (Nat.le_of_ble_eq_true rfl) ?_
  intro p e s m args below meth c A B hr hlk hA H locs ls hW hl
  have hx := B.1
  have hb := B.2.1
  have hl : lv_has ls 3 [(0, .ref (ad (0))), (1, .int (nI (k)))] := hl
  refine lv_iload_n hx hb dX4_comeOfOthers_0 rfl (lv_at hl 1 rfl) ?_
  refine n_if_ne (tgt := 8) hx hb (by omega) dX4_comeOfOthers_1 (by decide) (fun hc => ?_) (fun hc => ?_)
  · refine lv_aload_n hx hb dX4_comeOfOthers_8 rfl (lv_at hl 0 rfl) ?_
    refine z_get B hW (0) (by omega) x0 rfl inX4 0 (by decide) hw_115 rfl (v := .ref (ad (1))) rfl dX4_comeOfOthers_9 ?_
    refine lv_aload_n hx hb dX4_comeOfOthers_12 rfl (lv_at hl 0 rfl) ?_
    refine z_get B hW (0) (by omega) x0 rfl inX4 1 (by decide) hw_116 rfl (v := .int (nI (sH σ))) rfl dX4_comeOfOthers_13 ?_
    refine z_aald B hW (1) (by omega) x1 (sH σ) (by omega) (by decide) (q := ad (60 + 2 * (sH σ))) (v1 _ (by omega)) dX4_comeOfOthers_16 ?_
    refine z_get B hW (60 + 2 * (sH σ)) (by omega) g1 rfl inX1 0 (by decide) hw_101 rfl (v := .ref (ad (61 + 2 * (sH σ)))) rfl dX4_comeOfOthers_17 ?_
    refine lv_iconst (v := nI 0) hx hb dX4_comeOfOthers_20 (by decide) ?_
    refine z_lald B hW (61 + 2 * (sH σ)) (by omega) e3 (0) (by omega) (by decide) (v := (lN (a 0))) (v3 0 (by omega)) dX4_comeOfOthers_21 ?_
    refine lv_lconst (v := lN 0) hx hb dX4_comeOfOthers_22 (by decide) ?_
    refine lc_ne (tgt := 31) hx hb dX4_comeOfOthers_23 dX4_comeOfOthers_24 (by decide) (fun hd => ?_) (fun hd => ?_)
    · have hkd : knd k a = 0 := by unfold knd; rw [if_neg hc, if_neg (fun q => hd (by rw [q]))]
      refine lv_iconst (v := nI 0) hx hb dX4_comeOfOthers_31 (by decide) ?_
      refine topi (y := (nI (knd k a))) (by rw [hkd]) ?_
      refine lv_istore_n (lv' := [(2, .int (nI (knd k a))), (0, .ref (ad (0))), (1, .int (nI (k)))]) hx hb dX4_comeOfOthers_32 rfl hl (by decide) rfl (fun ls hl => ?_)
      refine lv_aload_n hx hb dX4_comeOfOthers_33 rfl (lv_at hl 1 rfl) ?_
      refine lv_iload_n hx hb dX4_comeOfOthers_34 rfl (lv_at hl 0 rfl) ?_
      refine lv_iload_n hx hb dX4_comeOfOthers_35 rfl (lv_at hl 2 rfl) ?_
      refine lv_iconst (v := nI 0) hx hb dX4_comeOfOthers_36 (by decide) ?_
      refine call_vi B hA hW (0) (by omega) x0 (r := _) rfl rfl (k_comeAsTold l G n ad w hn σ hX hs hh (knd k a) k 0 a ha) mf_X4_comeAsTold hw_174 rfl ⟨⟨rfl, rfl⟩, by decide, by decide⟩ ⟨Nat.zero_le _, Nat.zero_le _⟩ hl.1 rfl (Nat.le_of_ble_eq_true rfl) dX4_comeOfOthers_37 (fun r w9 H locs hp hW => ?_)
      exact ret_i B hr hlk hW hp dX4_comeOfOthers_40
    · have hkd : knd k a = 4 := by unfold knd; rw [if_neg hc, if_pos ((lN_inj ra (by decide)).mp hd)]
      refine lv_iconst (v := nI 4) hx hb dX4_comeOfOthers_27 (by decide) ?_
      refine lv_goto (tgt := 32) hx hb dX4_comeOfOthers_28 (by decide) ?_
      refine topi (y := (nI (knd k a))) (by rw [hkd]) ?_
      refine lv_istore_n (lv' := [(2, .int (nI (knd k a))), (0, .ref (ad (0))), (1, .int (nI (k)))]) hx hb dX4_comeOfOthers_32 rfl hl (by decide) rfl (fun ls hl => ?_)
      refine lv_aload_n hx hb dX4_comeOfOthers_33 rfl (lv_at hl 1 rfl) ?_
      refine lv_iload_n hx hb dX4_comeOfOthers_34 rfl (lv_at hl 0 rfl) ?_
      refine lv_iload_n hx hb dX4_comeOfOthers_35 rfl (lv_at hl 2 rfl) ?_
      refine lv_iconst (v := nI 0) hx hb dX4_comeOfOthers_36 (by decide) ?_
      refine call_vi B hA hW (0) (by omega) x0 (r := _) rfl rfl (k_comeAsTold l G n ad w hn σ hX hs hh (knd k a) k 0 a ha) mf_X4_comeAsTold hw_174 rfl ⟨⟨rfl, rfl⟩, by decide, by decide⟩ ⟨Nat.zero_le _, Nat.zero_le _⟩ hl.1 rfl (Nat.le_of_ble_eq_true rfl) dX4_comeOfOthers_37 (fun r w9 H locs hp hW => ?_)
      exact ret_i B hr hlk hW hp dX4_comeOfOthers_40
  · have hkd : knd k a = 3 := by unfold knd; rw [if_pos hc]
    refine lv_iconst (v := nI 3) hx hb dX4_comeOfOthers_4 (by decide) ?_
    refine lv_goto (tgt := 32) hx hb dX4_comeOfOthers_5 (by decide) ?_
    refine topi (y := (nI (knd k a))) (by rw [hkd]) ?_
    refine lv_istore_n (lv' := [(2, .int (nI (knd k a))), (0, .ref (ad (0))), (1, .int (nI (k)))]) hx hb dX4_comeOfOthers_32 rfl hl (by decide) rfl (fun ls hl => ?_)
    refine lv_aload_n hx hb dX4_comeOfOthers_33 rfl (lv_at hl 1 rfl) ?_
    refine lv_iload_n hx hb dX4_comeOfOthers_34 rfl (lv_at hl 0 rfl) ?_
    refine lv_iload_n hx hb dX4_comeOfOthers_35 rfl (lv_at hl 2 rfl) ?_
    refine lv_iconst (v := nI 0) hx hb dX4_comeOfOthers_36 (by decide) ?_
    refine call_vi B hA hW (0) (by omega) x0 (r := _) rfl rfl (k_comeAsTold l G n ad w hn σ hX hs hh (knd k a) k 0 a ha) mf_X4_comeAsTold hw_174 rfl ⟨⟨rfl, rfl⟩, by decide, by decide⟩ ⟨Nat.zero_le _, Nat.zero_le _⟩ hl.1 rfl (Nat.le_of_ble_eq_true rfl) dX4_comeOfOthers_37 (fun r w9 H locs hp hW => ?_)
    exact ret_i B hr hlk hW hp dX4_comeOfOthers_40
