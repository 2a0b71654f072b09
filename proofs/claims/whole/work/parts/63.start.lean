/-! ===== the law's start: classes, arrays, the static rows ===== -/
theorem zG_ex {s : State} {args : Array Value} (hts : ∀ q ∈ lw_gd, q.before args s = true) (hE : EX s) : ∃ G : zG, va_K G.1 zC (zT G) s := by
  obtain ⟨c0, i0, k0⟩ := u_known hts inX0 (hts _ hw_20)
  obtain ⟨c1, i1, k1⟩ := u_known hts inX1 (hts _ hw_95)
  obtain ⟨c2, i2, k2⟩ := u_known hts inX4 (hts _ hw_10)
  obtain ⟨c3, i3, k3⟩ := u_known hts inX5 (hts _ hw_360)
  obtain ⟨aI, kI, cI, f1, f2, f3⟩ := Cond.arrayClass_spec (hts _ hw_94)
  obtain ⟨aL, kL, cL, g1, g2, g3⟩ := Cond.arrayClass_spec (hts _ hw_93)
  obtain ⟨cF, aF, kF, h1, -, h3, h4, h5⟩ := Cond.arrayOver_spec hE.1
  obtain ⟨cR, aR, kR, j1, -, j3, j4, j5⟩ := aoa_spec hE.2.1
  refine ⟨((fun k => match k with | 0 => c0 | 1 => c1 | 2 => c2 | _ => c3, fun k => match k with | 0 => i0 | 1 => i1 | 2 => i2 | _ => i3), aI, aL, aF, aR), fun c q hq => ?_, fun k q hq => ?_⟩
  · match c, hq with
    | 0, hq => cases hq; exact k0
    | 1, hq => cases hq; exact k1
    | 2, hq => cases hq; exact k2
    | 3, hq => cases hq; exact k3
  · match k, hq with
    | 0, hq => cases hq; exact ⟨fun N z => ⟨(fun k h => by cases h), kI, f2, cI, f3⟩, f1⟩
    | 1, hq => cases hq; exact ⟨fun N z => ⟨(fun k h => by cases h), kL, g2, cL, g3⟩, g1⟩
    | 2, hq => cases hq; exact ⟨fun N z => ⟨(fun k h => by cases h), kF, h3, cF, h4⟩, kF, cF, h3, h4, h1, h5⟩
    | 3, hq => cases hq; exact ⟨fun N z => ⟨(fun k h => by cases h), kR, j3, cR, j4⟩, j5⟩
set_option maxRecDepth 100000 in
theorem tb_0 {s : State} {args : Array Value} {A : Nat → Prop} (hts : ∀ q ∈ lw_tbl, q.before args s = true) (hini : (Cond.initialized RX4).before args s = true) (hgv : (Jvm.Cond.and given_1 narrow_1).before args s = true) (hA : ∀ a : Nat, a < s.heap.size → ¬ A a) : ∃ t, va_Z RX4 "SUMS_WEIGHTS" "[I" (.ref t) A s s.heap ∧ va_T .int t 6 (fun j => .int (nI (wtN j))) A s s.heap := by
  have hs := flat_of_before _ hgv
  obtain ⟨t, ht, hT⟩ := va_Tof (tm := .static RX4 "SUMS_WEIGHTS" "[I") (ty := .int) (N := 6) (f := fun j => .int (nI (wtN j))) (A := A) (by decide) (hs (Cond.arrayOf (.static RX4 "SUMS_WEIGHTS" "[I") .int) (by decide +kernel)) (va_eqt (hs (Cond.eq (.length (.static RX4 "SUMS_WEIGHTS" "[I")) (.int 6)) (by decide +kernel))) (fun j hj => by
    rcases (show j = 0 ∨ j = 1 ∨ j = 2 ∨ j = 3 ∨ j = 4 ∨ j = 5 by omega) with rfl | rfl | rfl | rfl | rfl | rfl
    · exact (va_eqt (hs (Cond.eq (.elem (.static RX4 "SUMS_WEIGHTS" "[I") (.int 0)) (.int 4)) (by decide +kernel))).trans (congrArg (fun z => some (Value.int z)) (by decide))
    · exact (va_eqt (hs (Cond.eq (.elem (.static RX4 "SUMS_WEIGHTS" "[I") (.int 1)) (.int 6)) (by decide +kernel))).trans (congrArg (fun z => some (Value.int z)) (by decide))
    · exact (va_eqt (hs (Cond.eq (.elem (.static RX4 "SUMS_WEIGHTS" "[I") (.int 2)) (.int 8)) (by decide +kernel))).trans (congrArg (fun z => some (Value.int z)) (by decide))
    · exact (va_eqt (hs (Cond.eq (.elem (.static RX4 "SUMS_WEIGHTS" "[I") (.int 3)) (.int 10)) (by decide +kernel))).trans (congrArg (fun z => some (Value.int z)) (by decide))
    · exact (va_eqt (hs (Cond.eq (.elem (.static RX4 "SUMS_WEIGHTS" "[I") (.int 4)) (.int 12)) (by decide +kernel))).trans (congrArg (fun z => some (Value.int z)) (by decide))
    · exact (va_eqt (hs (Cond.eq (.elem (.static RX4 "SUMS_WEIGHTS" "[I") (.int 5)) (.int 14)) (by decide +kernel))).trans (congrArg (fun z => some (Value.int z)) (by decide))) hA
  exact ⟨t, va_Zref (hts _ hx_151) hini ht hA, hT⟩
set_option maxRecDepth 100000 in
theorem tb_1 {s : State} {args : Array Value} {A : Nat → Prop} (hts : ∀ q ∈ lw_tbl, q.before args s = true) (hini : (Cond.initialized RX4).before args s = true) (hgv : (Jvm.Cond.and given_1 narrow_1).before args s = true) (hA : ∀ a : Nat, a < s.heap.size → ¬ A a) : ∃ t, va_Z RX4 "SUMS_FACTORS" "[I" (.ref t) A s s.heap ∧ va_T .int t 6 (fun j => .int (iZ (fcZ j))) A s s.heap := by
  have hs := flat_of_before _ hgv
  obtain ⟨t, ht, hT⟩ := va_Tof (tm := .static RX4 "SUMS_FACTORS" "[I") (ty := .int) (N := 6) (f := fun j => .int (iZ (fcZ j))) (A := A) (by decide) (hs (Cond.arrayOf (.static RX4 "SUMS_FACTORS" "[I") .int) (by decide +kernel)) (va_eqt (hs (Cond.eq (.length (.static RX4 "SUMS_FACTORS" "[I")) (.int 6)) (by decide +kernel))) (fun j hj => by
    rcases (show j = 0 ∨ j = 1 ∨ j = 2 ∨ j = 3 ∨ j = 4 ∨ j = 5 by omega) with rfl | rfl | rfl | rfl | rfl | rfl
    · exact (va_eqt (hs (Cond.eq (.elem (.static RX4 "SUMS_FACTORS" "[I") (.int 0)) (.int 240)) (by decide +kernel))).trans (congrArg (fun z => some (Value.int z)) (by decide))
    · exact (va_eqt (hs (Cond.eq (.elem (.static RX4 "SUMS_FACTORS" "[I") (.int 1)) (.int (-504))) (by decide +kernel))).trans (congrArg (fun z => some (Value.int z)) (by decide))
    · exact (va_eqt (hs (Cond.eq (.elem (.static RX4 "SUMS_FACTORS" "[I") (.int 2)) (.int 480)) (by decide +kernel))).trans (congrArg (fun z => some (Value.int z)) (by decide))
    · exact (va_eqt (hs (Cond.eq (.elem (.static RX4 "SUMS_FACTORS" "[I") (.int 3)) (.int (-264))) (by decide +kernel))).trans (congrArg (fun z => some (Value.int z)) (by decide))
    · exact (va_eqt (hs (Cond.eq (.elem (.static RX4 "SUMS_FACTORS" "[I") (.int 4)) (.int 65520)) (by decide +kernel))).trans (congrArg (fun z => some (Value.int z)) (by decide))
    · exact (va_eqt (hs (Cond.eq (.elem (.static RX4 "SUMS_FACTORS" "[I") (.int 5)) (.int (-24))) (by decide +kernel))).trans (congrArg (fun z => some (Value.int z)) (by decide))) hA
  exact ⟨t, va_Zref (hts _ hx_164) hini ht hA, hT⟩
set_option maxRecDepth 100000 in
theorem tb_2 {s : State} {args : Array Value} {A : Nat → Prop} (hts : ∀ q ∈ lw_tbl, q.before args s = true) (hini : (Cond.initialized RX4).before args s = true) (hgv : (Jvm.Cond.and given_1 narrow_1).before args s = true) (hA : ∀ a : Nat, a < s.heap.size → ¬ A a) : ∃ t, va_Z RX4 "SUMS_DIVISORS" "[I" (.ref t) A s s.heap ∧ va_T .int t 6 (fun j => .int (iZ (dvZ j))) A s s.heap := by
  have hs := flat_of_before _ hgv
  obtain ⟨t, ht, hT⟩ := va_Tof (tm := .static RX4 "SUMS_DIVISORS" "[I") (ty := .int) (N := 6) (f := fun j => .int (iZ (dvZ j))) (A := A) (by decide) (hs (Cond.arrayOf (.static RX4 "SUMS_DIVISORS" "[I") .int) (by decide +kernel)) (va_eqt (hs (Cond.eq (.length (.static RX4 "SUMS_DIVISORS" "[I")) (.int 6)) (by decide +kernel))) (fun j hj => by
    rcases (show j = 0 ∨ j = 1 ∨ j = 2 ∨ j = 3 ∨ j = 4 ∨ j = 5 by omega) with rfl | rfl | rfl | rfl | rfl | rfl
    · exact (va_eqt (hs (Cond.eq (.elem (.static RX4 "SUMS_DIVISORS" "[I") (.int 0)) (.int 1)) (by decide +kernel))).trans (congrArg (fun z => some (Value.int z)) (by decide))
    · exact (va_eqt (hs (Cond.eq (.elem (.static RX4 "SUMS_DIVISORS" "[I") (.int 1)) (.int 1)) (by decide +kernel))).trans (congrArg (fun z => some (Value.int z)) (by decide))
    · exact (va_eqt (hs (Cond.eq (.elem (.static RX4 "SUMS_DIVISORS" "[I") (.int 2)) (.int 1)) (by decide +kernel))).trans (congrArg (fun z => some (Value.int z)) (by decide))
    · exact (va_eqt (hs (Cond.eq (.elem (.static RX4 "SUMS_DIVISORS" "[I") (.int 3)) (.int 1)) (by decide +kernel))).trans (congrArg (fun z => some (Value.int z)) (by decide))
    · exact (va_eqt (hs (Cond.eq (.elem (.static RX4 "SUMS_DIVISORS" "[I") (.int 4)) (.int 691)) (by decide +kernel))).trans (congrArg (fun z => some (Value.int z)) (by decide))
    · exact (va_eqt (hs (Cond.eq (.elem (.static RX4 "SUMS_DIVISORS" "[I") (.int 5)) (.int 1)) (by decide +kernel))).trans (congrArg (fun z => some (Value.int z)) (by decide))) hA
  exact ⟨t, va_Zref (hts _ hx_166) hini ht hA, hT⟩
theorem Tb_ex {s : State} {args : Array Value} {A : Nat → Prop} (hts : ∀ q ∈ lw_tbl, q.before args s = true) (hini : (Cond.initialized RX4).before args s = true) (hgv : (Jvm.Cond.and given_1 narrow_1).before args s = true) (hA : ∀ a : Nat, a < s.heap.size → ¬ A a) : ∃ τ, Tb τ A s s.heap := by
  obtain ⟨t1, h1⟩ := tb_0 hts hini hgv hA
  obtain ⟨t2, h2⟩ := tb_1 hts hini hgv hA
  obtain ⟨t3, h3⟩ := tb_2 hts hini hgv hA
  exact ⟨(t1, t2, t3), h1, h2, h3⟩
theorem XOK.keep {G : zG} {ad : Nat → Nat} {w w' : Nat → va_E} {σ : zS} (h : XOK G ad w σ) (e : ∀ j, j < 92 → w' j = w j) : XOK G ad w' σ := by
  obtain ⟨⟨nf, hB⟩, x0, x1, x55, x56, x57, x58, x59, xf⟩ := h
  refine ⟨⟨nf, hB.keep (fun j _ h2 => e j (by omega))⟩, by rw [e 0 (by decide)]; exact x0, by rw [e 1 (by decide)]; exact x1, by rw [e 55 (by decide)]; exact x55, by rw [e 56 (by decide)]; exact x56, by rw [e 57 (by decide)]; exact x57, by rw [e 58 (by decide)]; exact x58, by rw [e 59 (by decide)]; exact x59, fun i hi => ?_⟩
  rw [e _ (by omega), e _ (by omega)]
  exact xf i hi
theorem MOK.keep {G : zG} {ad : Nat → Nat} {w w' : Nat → va_E} {σ : zS} (h : MOK G ad w σ) (e : ∀ j, 92 ≤ j → w' j = w j) : MOK G ad w' σ := by
  obtain ⟨-, -, -, -, -, -, -, -, -, -, m102, m103, m104, m105, m106, m107, m108, -, m110⟩ := id h
  exact h.gen (fun j q1 _ _ _ _ _ _ _ _ _ => e j q1) (by rw [e 102 (by decide)]; exact m102) (by rw [e 103 (by decide)]; exact m103) (by rw [e 104 (by decide)]; exact m104) (by rw [e 105 (by decide)]; exact m105) (by rw [e 106 (by decide)]; exact m106) (by rw [e 107 (by decide)]; exact m107) (by rw [e 108 (by decide)]; exact m108) (by rw [e 110 (by decide)]; exact m110)
theorem lw_gt {q : Cond} (h : q ∈ lw_gd) : q ∈ lw_tbl := (List.mem_filter.mp h).1
section ZSC
variable {p : Program} {l : Launch} {e : Env} {R : Room} {s : State} {m : MethodId} {args : Array Value} {below : List Frame} {meth : Method} {c : Code} {H : Heap} {locs : List Loc} {cells slots : Nat} {Q : State → Prop}
variable {cc : ByteArray} {pc : Nat} {ls : Array Slot} {rest : List Value} {A : Nat → Prop} {G : zG} {n : Nat} {ad : Nat → Nat} {w : Nat → va_E} {own : String} {nL : Nat}
theorem z_scr (B : Bs G p s m args c cc nL own) {b L : Nat} {xs : Nat → Int32} (hS : va_X b L xs s s.heap) (hbl : b < s.heap.size) (hbA : ¬ A b) (hL : L ≤ 2560) (hW : Wo G A s.heap n ad w H locs) (i : Nat) (hi : i < L) (hdg : decode cc pc = .ok (.iaload, 1))
    (kk : W p l e R s m args below meth c H locs cells slots Q (F0 m (pc + 1) ls (.int (xs i) :: rest))) : W p l e R s m args below meth c H locs cells slots Q (F0 m pc ls (.int (nI i) :: .ref b :: rest)) :=
  va_sld B.1 B.2.1 hS hbl hbA hW.2.2 (vp_in_nI hi (by omega)) hdg (by rw [nI_clamp (by omega)]; exact kk)
end ZSC
