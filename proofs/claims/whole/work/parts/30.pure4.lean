/-! ===== pure: ranges, squares ===== -/
theorem mul_rng {x : Int} {a : Nat} (h1 : -2147483648 ≤ x) (h2 : x < 2147483648) (ha : a < 1000003) : -2147490090450944 ≤ x * (a : Int) ∧ x * (a : Int) ≤ 2147490090450944 := by
  have h3 : (x * (a : Int)).natAbs = x.natAbs * a := by rw [Int.natAbs_mul]; rfl
  have h4 : x.natAbs * a ≤ 2147483648 * 1000003 := Nat.mul_le_mul (by omega) (by omega)
  omega
theorem neg_rng {x : Int32} (h1 : x ≤ -2) (h2 : -8 ≤ x) : ∃ c, 2 ≤ c ∧ c < 9 ∧ -x = nI c := by
  rw [Int32.le_iff_toInt_le] at h1 h2
  have e1 : (-2 : Int32).toInt = -2 := rfl
  have e2 : (-8 : Int32).toInt = -8 := rfl
  have hx := iZ_of x
  have hz : x.toInt = -2 ∨ x.toInt = -3 ∨ x.toInt = -4 ∨ x.toInt = -5 ∨ x.toInt = -6 ∨ x.toInt = -7 ∨ x.toInt = -8 := by omega
  rcases hz with h | h | h | h | h | h | h <;> rw [h] at hx <;> rw [← hx]
  · exact ⟨2, by decide, by decide, by decide⟩
  · exact ⟨3, by decide, by decide, by decide⟩
  · exact ⟨4, by decide, by decide, by decide⟩
  · exact ⟨5, by decide, by decide, by decide⟩
  · exact ⟨6, by decide, by decide, by decide⟩
  · exact ⟨7, by decide, by decide, by decide⟩
  · exact ⟨8, by decide, by decide, by decide⟩
/-- the sum over the roots below r -/
def pS (s m : Nat) : Nat → Nat := sm (fun r => if 1 ≤ r ∧ r * r ≤ m then sqN s (m - r * r) else 0)
theorem pS_end {s m r : Nat} (hr : m < r * r) : ∀ t, r ≤ t → pS s m t = pS s m r
  | 0, h => by rw [show r = 0 by omega]
  | t + 1, h => by
    by_cases q : r ≤ t
    · have ih := pS_end (s := s) hr t q
      show pS s m t + (if 1 ≤ t ∧ t * t ≤ m then sqN s (m - t * t) else 0) = _
      have h2 : r * r ≤ t * t := Nat.mul_le_mul q q
      rw [ih, if_neg (fun z => by omega), Nat.add_zero]
    · rw [show r = t + 1 by omega]
theorem pS_step {s m r : Nat} (h1 : 1 ≤ r) (h2 : r * r ≤ m) : pS s m (r + 1) = pS s m r + sqN s (m - r * r) := by
  show pS s m r + (if 1 ≤ r ∧ r * r ≤ m then sqN s (m - r * r) else 0) = _
  rw [if_pos ⟨h1, h2⟩]
theorem pS_1 (s m : Nat) : pS s m 1 = 0 := by
  show 0 + (if 1 ≤ 0 ∧ 0 * 0 ≤ m then sqN s (m - 0 * 0) else 0) = 0
  rw [if_neg (by omega)]
theorem sqN_succ {s m r : Nat} (hr : m < r * r) (h11 : r ≤ 11) : sqN (s + 1) m = sqN s m + 2 * pS s m r := by
  show sqN s m + 2 * pS s m 11 = _
  rw [pS_end hr 11 h11]
theorem sqN_0 (s : Nat) : sqN (s + 1) 0 = sqN s 0 := by
  rw [sqN_succ (r := 1) (by decide) (by decide), pS_1, Nat.mul_zero, Nat.add_zero]
theorem zm_12 : zm 12 = 12 := by decide
theorem ovr_eq {k : Nat} {a : Nat → Nat} {pv : Nat → Nat} (h : ∀ i, i < zs (k - 12) → pv i = prt (bas k) a (i + 1)) (n : Nat) : bld (bas (k - 12)) (zs (k - 12)) pv n = ovrS k a n := by
  unfold bld ovrS bld
  rw [sm_congr (fun i hi => by rw [h i hi])]
