/-! ===== pure facts: rests, powers ===== -/
theorem lZ_rem {z : Int} {m : Nat} (h1 : -4611686018427387904 ≤ z) (h2 : z ≤ 4611686018427387904) (hm : 0 < m) (hm2 : m < 2147483648) : lZ z - lZ z / lN m * lN m = lZ (z.tmod m) := by
  have hd : lZ z / lN m = lZ (z.tdiv m) := by
    apply Int64.toInt_inj.mp
    have b1 : (z.tdiv m).natAbs ≤ z.natAbs := Int.natAbs_tdiv_le_natAbs z m
    rw [Int64.toInt_div, lN_Z, lZ_toInt (by omega) (by omega), lZ_toInt (by omega) (by omega), lZ_toInt (by omega) (by omega)]
    rw [Int.bmod_eq_of_le] <;> omega
  rw [hd, lN_Z, lZ_mul, lZ_sub]
  congr 1
  have := Int.mul_tdiv_add_tmod z m
  rw [Int.mul_comm] at this
  omega
theorem xor_neg (a b : Int64) (hb : 0 ≤ b) : (a ^^^ b) < 0 ↔ a < 0 := by
  have e0 : ∀ x : Int64, x < 0 ↔ x.toBitVec.msb = true := by
    intro x
    rw [Int64.lt_iff_toBitVec_slt]
    have h0 : (0 : Int64).toBitVec = 0#64 := rfl
    rw [h0, BitVec.slt_zero_eq_msb]
  rw [e0, e0, Int64.toBitVec_xor, BitVec.msb_xor]
  have hn : ¬ b < 0 := by
    intro h
    rw [Int64.lt_iff_toInt_lt] at h
    rw [Int64.le_iff_toInt_le] at hb
    omega
  rw [e0] at hn
  simp at hn
  rw [hn]
  simp
theorem lZ_neg {z : Int} (h1 : -4611686018427387904 ≤ z) (h2 : z ≤ 4611686018427387904) : lZ z < 0 ↔ z < 0 := by
  rw [Int64.lt_iff_toInt_lt, lZ_toInt (by omega) (by omega)]
  rfl
theorem lZ_eq0 {z : Int} (h1 : -4611686018427387904 ≤ z) (h2 : z ≤ 4611686018427387904) : lZ z = lN 0 ↔ z = 0 := by
  rw [← Int64.toInt_inj, lZ_toInt (by omega) (by omega)]
  rfl
theorem fm_pos {z : Int} (h : 0 ≤ z) : z.tmod 1000003 = z % 1000003 := Int.tmod_eq_emod_of_nonneg h
theorem fm_all (z : Int) : -1000003 < z.tmod 1000003 ∧ z.tmod 1000003 < 1000003 := tmod_bounds (by decide)
theorem fm_neg {z : Int} (h : z < 0) : (z.tmod 1000003 = 0 → z % 1000003 = 0) ∧ (z.tmod 1000003 ≠ 0 → z.tmod 1000003 + 1000003 = z % 1000003) := by
  have h1 := Int.mul_tdiv_add_tmod z 1000003
  have h2 := fm_all z
  have h3 : z.tmod 1000003 ≤ 0 := by
    have h4 : (-z).tmod 1000003 = -(z.tmod 1000003) := Int.neg_tmod z 1000003
    have h5 : 0 ≤ (-z).tmod 1000003 := Int.tmod_nonneg _ (by omega)
    omega
  omega
theorem fm_nn (z : Int) : 0 ≤ z % 1000003 ∧ z % 1000003 < 1000003 := ⟨Int.emod_nonneg _ (by decide), Int.emod_lt_of_pos _ (by decide)⟩
def zm (z : Int) : Nat := (z % 1000003).toNat
theorem zm_lt (z : Int) : zm z < 1000003 := by
  have := fm_nn z
  unfold zm
  omega
theorem zm_nat (a : Nat) : zm (a : Int) = a % 1000003 := by
  unfold zm
  omega
theorem lZ_zm (z : Int) : lZ (z % 1000003) = lN (zm z) := by
  rw [lN_Z]
  congr 1
  have := fm_nn z
  unfold zm
  omega
theorem pw_sq {a q x : Nat} (h : x = a ^ q % 1000003) : x * x % 1000003 = a ^ (2 * q) % 1000003 := by
  subst h
  rw [Nat.mul_comm 2 q, Nat.pow_mul, Nat.pow_two, ← Nat.mul_mod]
theorem pw_sc {a q x : Nat} (h : x = a ^ q % 1000003) : x * a % 1000003 = a ^ (q + 1) % 1000003 := by
  subst h
  rw [Nat.pow_succ, Nat.mul_mod, Nat.mod_mod, ← Nat.mul_mod]
theorem bit_step (e k : Nat) : e / 2 ^ k = 2 * (e / 2 ^ (k + 1)) + e / 2 ^ k % 2 := by
  rw [Nat.pow_succ, ← Nat.div_div_eq_div_mul]
  omega
theorem shr_bit {e k : Nat} (he : e < 2 ^ 31) (hk : k < 31) : nI e >>> (nI k &&& 31) &&& nI 1 = nI (e / 2 ^ k % 2) := by
  have hs : ∀ k, k < 31 → ((nI k &&& 31).toBitVec.smod 32).toNat = k := by decide +kernel
  rw [pk_shrN he _ k (hs k hk)]
  have hlt : e / 2 ^ k < 2 ^ 32 := Nat.lt_of_le_of_lt (Nat.div_le_self _ _) (by omega)
  have h := pk_andN (n := e / 2 ^ k) hlt (m := nI 1) 1 (by decide)
  rw [h]
def oneS (n : Nat) : Nat := if n = 0 then 1 else 0
theorem oneS_lt (n : Nat) : oneS n < 1000003 := by
  unfold oneS
  split <;> decide
def powS (a : Nat → Nat) : Nat → Nat → Nat
  | 0 => oneS
  | e + 1 => mulS (powS a e) a
theorem powS_lt (a : Nat → Nat) : ∀ e n, powS a e n < 1000003
  | 0, n => oneS_lt n
  | e + 1, n => mulS_lt _ _ n
theorem lv_i0 (x : Int32) (h : x = nI 0) : x = 0 := h
def isLeast (a : Nat → Nat) (j : Nat) : Prop := j < 48 ∧ a j ≠ 0 ∧ ∀ i, i < j → a i = 0
def lstR (a : Nat → Nat) (r : Int32) : Prop := (r = -1 ∧ ∀ i, i < 48 → a i = 0) ∨ ∃ j, r = nI j ∧ isLeast a j
theorem isLeast_one {a : Nat → Nat} {i j : Nat} (hi : isLeast a i) (hj : isLeast a j) : i = j := by
  rcases Nat.lt_trichotomy i j with h | h | h
  · exact absurd (hj.2.2 i h) hi.2.1
  · exact h
  · exact absurd (hi.2.2 j h) hj.2.1
theorem lstR_one {a : Nat → Nat} {r r' : Int32} (h : lstR a r) (h' : lstR a r') : r = r' := by
  rcases h with ⟨h1, h2⟩ | ⟨j, h1, h2⟩ <;> rcases h' with ⟨h3, h4⟩ | ⟨j', h3, h4⟩
  · rw [h1, h3]
  · exact absurd (h2 j' h4.1) h4.2.1
  · exact absurd (h4 j h2.1) h2.2.1
  · rw [h1, h3, isLeast_one h2 h4]
def unlR (a b : Nat → Nat) (r : Int32) : Prop := (r = -1 ∧ ∀ i, i < 48 → a i = b i) ∨ ∃ j, r = nI j ∧ j < 48 ∧ a j ≠ b j ∧ ∀ i, i < j → a i = b i
theorem unlR_one {a b : Nat → Nat} {r r' : Int32} (h : unlR a b r) (h' : unlR a b r') : r = r' := by
  rcases h with ⟨h1, h2⟩ | ⟨j, h1, h2, h3, h4⟩ <;> rcases h' with ⟨g1, g2⟩ | ⟨i, g1, g2, g3, g4⟩
  · rw [h1, g1]
  · exact absurd (h2 i g2) g3
  · exact absurd (g2 j h2) h3
  · rcases Nat.lt_trichotomy i j with h | h | h
    · exact absurd (h4 i h) g3
    · rw [h1, g1, h]
    · exact absurd (g4 j h) h3
theorem lN_inj {a b : Nat} (ha : a < 1000003) (hb : b < 1000003) : lN a = lN b ↔ a = b := pk_lEQ (by omega) (by omega)
def invM (a : Nat) : Nat := a ^ 1000001 % 1000003
theorem invM_lt (a : Nat) : invM a < 1000003 := Nat.mod_lt _ (by decide)
/-- what the class's ratio answers -/
def ratR (b a : Nat → Nat) (z : Nat) (r : Int32) : Prop :=
  (∃ j, isLeast a j ∧ j < z ∧ r = nI (b j * invM (a j) % 1000003) ∧ ∀ i, i < z → b i = b j * invM (a j) % 1000003 * a i % 1000003) ∨
  (r = -1 ∧ ((∀ i, i < 48 → a i = 0) ∨ ∃ j, isLeast a j ∧ (z ≤ j ∨ ∃ i, i < z ∧ b i ≠ b j * invM (a j) % 1000003 * a i % 1000003)))
/-- sums of the divisors' powers -/
def dvS (e n : Nat) : Nat → Nat
  | 0 => 0
  | d + 1 => dvS e n d + if n % (d + 1) = 0 then (d + 1) ^ e else 0
def sumsS (c e n : Nat) : Nat := if n = 0 then 1 else c * dvS e n n % 1000003
theorem sumsS_lt (c e n : Nat) : sumsS c e n < 1000003 := by
  unfold sumsS
  split
  · decide
  · exact Nat.mod_lt _ (by decide)
/-- ... of the divisors up to d alone, the class's way -/
def dvC (c e n : Nat) : Nat → Nat
  | 0 => 0
  | d + 1 => dvC c e n d + if n % (d + 1) = 0 then c * ((d + 1) ^ e % 1000003) % 1000003 else 0
theorem dvC_eq (c e n : Nat) : ∀ d, dvC c e n d % 1000003 = c * dvS e n d % 1000003
  | 0 => by simp [dvC, dvS]
  | d + 1 => by
    have ih := dvC_eq c e n d
    unfold dvC dvS
    split
    · rw [Nat.mul_add, Nat.add_mod, ih, Nat.mod_mod, Nat.mul_mod c ((d + 1) ^ e % 1000003), Nat.mod_mod, ← Nat.mul_mod, ← Nat.add_mod]
    · simp only [Nat.add_zero]; exact ih
theorem dvC_more (c e : Nat) {n : Nat} (hn : 0 < n) : ∀ d, n ≤ d → dvC c e n d = dvC c e n n
  | 0, h => by rw [show n = 0 by omega]
  | d + 1, h => by
    by_cases q : n ≤ d
    · unfold dvC
      rw [dvC_more c e hn d q, Nat.mod_eq_of_lt (show n < d + 1 by omega), if_neg (by omega), Nat.add_zero]
      cases n with
      | zero => omega
      | succ n => rfl
    · rw [show n = d + 1 by omega]
