/-! ===== what each call leaves is good ===== -/
theorem isF_cN {h : Nat} {x : Int32} (q : isF h x) (hh : h ≤ 2147483647) : cN x < h := by
  obtain ⟨j, hj, rfl⟩ := q
  rw [cN_nI (by omega)]
  exact hj
theorem cif_sok {P : Prop} {a b : Int32 × zS} (ha : P → SOK a.2) (hb : ¬ P → SOK b.2) : SOK (cif P a b).2 := by
  by_cases h : P
  · rw [cif_t h]; exact ha h
  · rw [cif_f h]; exact hb h
theorem SOK.fok {σ : zS} (h : SOK σ) {x : Int32} (q : isF (sH σ) x) : FOK (sW σ (cN x)) (sK σ (cN x)) (sT σ (cN x)) (sE σ (cN x)) := h.2.1 _ (isF_cN q (by have := h.1; omega))
theorem ok_sums {σ : zS} (h : SOK σ) (x : Int32) : SOK (st_sums σ x).2 := by
  unfold st_sums
  refine cif_sok (fun q => ?_) (fun _ => h.ref1 7)
  obtain ⟨k, hk, rfl⟩ := q
  have e : cN (nI k) = k := cN_nI (by omega)
  rw [e]
  exact h.come1 (fun q => ⟨q, by omega, by decide, by omega, red_sums _ _, inSp_spn (inSp_sums k hk)⟩)
theorem ok_product {σ : zS} (h : SOK σ) (x : Int32) : SOK (st_product σ x).2 := by
  unfold st_product
  refine cif_sok (fun q => ?_) (fun _ => h.ref1 7)
  obtain ⟨e, h1, h3, rfl⟩ := q
  have e1 : cN (nI e) = e := cN_nI (by omega)
  rw [e1]
  exact h.come1 (fun q => ⟨q, by omega, by decide, by omega, red_pow _ _, inSp_spn (inSp_dpow h3)⟩)
theorem ok_add {σ : zS} (h : SOK σ) (f x g y : Int32) : SOK (st_add σ f x g y).2 := by
  unfold st_add
  refine cif_sok (fun q => cif_sok (fun q2 => ?_) (fun _ => h.ref1 7)) (fun _ => h.ref1 3)
  obtain ⟨a1, a2, -, -, a5, a6⟩ := h.fok q.1
  obtain ⟨b1, b2, -, -, b5, b6⟩ := h.fok q.2
  rw [← q2] at b6
  refine h.comeO1 (fun _ => ⟨a2, fun n => zm_lt _, inSp_spn ?_⟩)
  refine inSp_loc (inSp_cmb (x := zm x.toInt) (y := zm y.toInt) (spn_sp a6) (spn_sp b6)) (fun n _ => ?_)
  exact add_eq.symm
theorem ok_times {σ : zS} (h : SOK σ) (f g : Int32) : SOK (st_times σ f g).2 := by
  unfold st_times
  refine cif_sok (fun q => ?_) (fun _ => h.ref1 3)
  obtain ⟨a1, a2, -, -, a5, a6⟩ := h.fok q.1
  obtain ⟨b1, b2, -, -, b5, b6⟩ := h.fok q.2
  exact h.comeO1 (fun q => ⟨by omega, red_mul _ _, inSp_spn (inSp_mul q a2 b2 (spn_sp a6) (spn_sp b6))⟩)
theorem ok_power {σ : zS} (h : SOK σ) (f e : Int32) : SOK (st_power σ f e).2 := by
  unfold st_power
  refine cif_sok (fun q => cif_sok (fun _ => h.ref1 4) (fun _ => cif_sok (fun _ => h.ref1 7) (fun _ => ?_))) (fun _ => h.ref1 3)
  obtain ⟨a1, a2, -, -, a5, a6⟩ := h.fok q
  exact h.comeO1 (fun q => ⟨by rw [Nat.mul_mod, a2, Nat.zero_mul], red_pow _ _, inSp_spn (inSp_pow a2 (spn_sp a6) _ q)⟩)
theorem ok_slope {σ : zS} (h : SOK σ) (f : Int32) : SOK (st_slope σ f).2 := by
  unfold st_slope
  refine cif_sok (fun q => ?_) (fun _ => h.ref1 3)
  obtain ⟨a1, a2, -, -, a5, a6⟩ := h.fok q
  exact h.comeO1 (fun q => ⟨by omega, fun n => zm_lt _, inSp_spn (inSp_slp q a2 (spn_sp a6))⟩)
theorem ok_bracket {σ : zS} (h : SOK σ) (f g : Int32) : SOK (st_bracket σ f g).2 := by
  unfold st_bracket
  refine cif_sok (fun q => ?_) (fun _ => h.ref1 3)
  obtain ⟨a1, a2, -, -, a5, a6⟩ := h.fok q.1
  obtain ⟨b1, b2, -, -, b5, b6⟩ := h.fok q.2
  exact h.comeO1 (fun q => ⟨by omega, fun n => Nat.mod_lt _ (by decide), inSp_spn (inSp_br q a2 b2 (spn_sp a6) (spn_sp b6))⟩)
theorem ok_over {σ : zS} (h : SOK σ) (f : Int32) : SOK (st_over σ f).2 := by
  unfold st_over
  refine cif_sok (fun q => cif_sok (fun q2 => ?_) (fun _ => h.ref1 7)) (fun _ => h.ref1 3)
  obtain ⟨a1, a2, -, -, a5, a6⟩ := h.fok q
  exact h.comeO1 (fun q => ⟨by omega, fun n => bld_lt _ _ _ _, inSp_spn (inSp_bld _ _)⟩)
theorem ok_prime {σ : zS} (h : SOK σ) (f p : Int32) : SOK (st_prime σ f p).2 := by
  unfold st_prime
  refine cif_sok (fun q => cif_sok (fun q2 => ?_) (fun _ => h.ref1 7)) (fun _ => h.ref1 3)
  obtain ⟨a1, a2, -, -, a5, a6⟩ := h.fok q
  exact h.comeO1 (fun q => ⟨a2, fun n => bld_lt _ _ _ _, inSp_spn (inSp_bld _ _)⟩)
theorem isW_cN {x : Int32} (q : isW x) : cN x ≤ 40 ∧ cN x % 2 = 0 := by
  obtain ⟨k, h1, h2, rfl⟩ := q
  rw [cN_nI (by omega)]
  exact ⟨h1, h2⟩
theorem ok_basis {σ : zS} (h : SOK σ) (k i : Int32) : SOK (st_basis σ k i).2 := by
  unfold st_basis
  refine cif_sok (fun q => cif_sok (fun q2 => ?_) (fun _ => h.ref1 3)) (fun _ => h.ref1 7)
  have hz := zs48 (cN k)
  exact h.comeO1 (fun _ => ⟨(isW_cN q).2, bas_red _ _, inSp_spn (inSp_bas (isF_cN q2 (by omega)))⟩)
theorem ok_drop {σ : zS} (h : SOK σ) : SOK (st_drop σ).2 := by
  unfold st_drop
  split
  · exact h.ref1 2
  · have h1 := h.1
    exact ⟨by show sH σ - 1 ≤ 16; omega, fun i (hi : i < sH σ - 1) => h.2.1 i (by omega), h.2.2⟩
theorem ok_look {σ : zS} (h : SOK σ) (f x : Int32) : SOK (st_look σ f x).2 := by
  unfold st_look
  exact cif_sok (fun _ => cif_sok (fun _ => h) (fun _ => cif_sok (fun _ => h) (fun _ => cif_sok (fun _ => h) (fun _ => cif_sok (fun _ => h) (fun _ => cif_sok (fun _ => cif_sok (fun _ => h) (fun _ => h.ref1 5)) (fun _ => h.ref1 7)))))) (fun _ => h.ref1 3)
theorem ok_at {σ : zS} (h : SOK σ) (f i : Int32) : SOK (st_at σ f i).2 := cif_sok (fun _ => h) (fun _ => h.ref1 3)
theorem ok_part {σ : zS} (h : SOK σ) (f i : Int32) : SOK (st_part σ f i).2 := cif_sok (fun _ => h) (fun _ => h.ref1 3)
theorem ok_same {σ : zS} (h : SOK σ) (f g : Int32) : SOK (st_same σ f g).2 := cif_sok (fun _ => cif_sok (fun _ => h) (fun _ => h)) (fun _ => h.ref1 3)
theorem ok_apart {σ : zS} (h : SOK σ) (f g : Int32) : SOK (st_apart σ f g).2 := cif_sok (fun _ => cif_sok (fun _ => h) (fun _ => h.ref1 7)) (fun _ => h.ref1 3)
theorem ok_size {σ : zS} (h : SOK σ) (k : Int32) : SOK (st_size σ k).2 := cif_sok (fun _ => h) (fun _ => h.ref1 7)
theorem ok_own {σ : zS} (h : SOK σ) (f p : Int32) : SOK (st_own σ f p).2 := cif_sok (fun _ => cif_sok (fun _ => h) (fun _ => h.ref1 7)) (fun _ => h.ref1 3)
theorem ok_trace {σ : zS} (h : SOK σ) (k p : Int32) (c : Nat) : SOK (st_trace σ k p c).2 := cif_sok (fun _ => h) (fun _ => h.ref1 7)
theorem ok_squares {σ : zS} (h : SOK σ) (s m : Int32) : SOK (st_squares σ s m).2 := cif_sok (fun _ => h) (fun _ => h.ref1 7)
theorem ok_count {σ : zS} (h : SOK σ) : SOK (st_count σ).2 := h
theorem ok_lay {σ : zS} (h : SOK σ) (f m : Int32) : SOK (st_lay σ f m).2 := by
  unfold st_lay
  refine cif_sok (fun q => cif_sok (fun _ => h.ref1 4) (fun _ => cif_sok (fun _ => h.ref1 7) (fun q2 => ?_))) (fun _ => h.ref1 3)
  obtain ⟨a1, a2, -, -, a5, a6⟩ := h.fok q
  refine ⟨h.1, h.2.1, fun r (hr : some (cN m) = some r) => ?_⟩
  cases hr
  exact ⟨by omega, fun i _ => a5 i⟩
theorem ok_tell {σ : zS} (h : SOK σ) (i v : Int32) : SOK (st_tell σ i v).2 := by
  unfold st_tell
  refine cif_sok (fun _ => h.ref1 2) (fun _ => cif_sok (fun q => ?_) (fun _ => h.ref1 3))
  refine ⟨h.1, h.2.1, fun r (hr : sR σ = some r) => ⟨(h.2.2 r hr).1, fun j hj => ?_⟩⟩
  show va_up (sV σ) (cN i) (zm v.toInt) j < 1000003
  by_cases q : j = cN i
  · subst q; rw [up_s]; exact zm_lt _
  · rw [up_n q]; exact (h.2.2 r hr).2 j hj
theorem ok_give {σ : zS} (h : SOK σ) (k : Int32) : SOK (st_give σ k).2 := by
  unfold st_give
  refine cif_sok (fun _ => h.ref1 2) (fun _ => cif_sok (fun q => ?_) (fun _ => h.ref1 7))
  exact h.comeO1 (fun _ => ⟨(isW_cN q.1).2, fun n => bld_lt _ _ _ _, inSp_spn (inSp_bld _ _)⟩)
theorem ok_tear {σ : zS} (h : SOK σ) : SOK (st_tear σ).2 := ⟨h.1, h.2.1, fun r (hr : none = some r) => nomatch hr⟩
theorem ok_row {σ : zS} (h : SOK σ) (i : Int32) : SOK (st_row σ i).2 := cif_sok (fun _ => h.ref1 2) (fun _ => cif_sok (fun _ => h) (fun _ => h.ref1 3))
theorem ok_copy {σ : zS} (h : SOK σ) (i j m : Int32) : SOK (st_copy σ i j m).2 := by
  unfold st_copy
  refine cif_sok (fun _ => h.ref1 2) (fun _ => cif_sok (fun _ => h.ref1 4) (fun q0 => cif_sok (fun q => ?_) (fun _ => h.ref1 6)))
  refine ⟨h.1, h.2.1, fun r (hr : sR σ = some r) => ⟨(h.2.2 r hr).1, fun t ht => ?_⟩⟩
  show va_cpy (sV σ) (sV σ) (cN i) (cN j) (cN m) t < 1000003
  rw [hr] at q
  have hv := (h.2.2 r hr).2
  have nn : ∀ x : Int32, 0 ≤ x.toInt → ((cN x : Nat) : Int) = x.toInt := fun x hx => by
    obtain ⟨u, hu, rfl⟩ := nI_of (x := x) (fun z => by rw [Int32.lt_iff_toInt_lt] at z; exact absurd hx (Int.not_le.mpr z))
    rw [cN_nI hu, nI_toInt hu]
  have hm : 0 ≤ m.toInt := by
    rw [Int32.lt_iff_toInt_lt] at q0
    exact Int.not_lt.mp q0
  have e1 := nn i q.1
  have e3 := nn m hm
  have q3 := q.2.2.1
  have q4 : (((some r).getD 0 : Nat) : Int) = (r : Int) := rfl
  unfold va_cpy
  split
  · apply hv
    omega
  · exact hv t ht
theorem ok_status {σ : zS} (h : SOK σ) (x : Int32) : SOK (st_status σ x).2 := cif_sok (fun _ => h) (fun _ => h.ref1 7)
