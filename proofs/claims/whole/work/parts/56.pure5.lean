/-! ===== pure: one factor more, the shift ===== -/
theorem sm_two {f : Nat → Nat} {i j n : Nat} (hij : i < j) (hj : j < n) (h : ∀ t, t < n → t ≠ i → t ≠ j → f t = 0) : sm f n = f i + f j := by
  induction n with
  | zero => omega
  | succ n ih =>
    show sm f n + f n = _
    by_cases q : j = n
    · subst q
      rw [sm_one hij (fun t h1 h2 => h t (by omega) h2 (by omega))]
    · rw [ih (by omega) (fun t h1 => h t (by omega)), h n (by omega) (by omega) (by omega), Nat.add_zero]
theorem mul_uS {a : Nat → Nat} {r n : Nat} (hr : 0 < r) (hn : r ≤ n) : mulS a (uS r) n = (a (n - r) * 1000002 + a n) % 1000003 := by
  rw [mulS_sm, sm_two (i := n - r) (j := n) (by omega) (by omega) (fun t h1 h2 h3 => ?_)]
  · have e1 : uS r (n - (n - r)) = 1000002 := by unfold uS; rw [show n - (n - r) = r by omega, if_neg (by omega), if_pos rfl]
    have e2 : uS r (n - n) = 1 := by unfold uS; rw [Nat.sub_self, if_pos rfl]
    rw [e1, e2, Nat.mul_one]
  · have e1 : uS r (n - t) = 0 := by unfold uS; rw [if_neg (by omega), if_neg (by omega)]
    rw [e1, Nat.mul_zero]
theorem mul_uS0 {a : Nat → Nat} {r n : Nat} (hn : n < r) (ha : a n < 1000003) : mulS a (uS r) n = a n := by
  rw [mulS_sm, sm_one (i := n) (by omega) (fun t h1 h2 => ?_)]
  · have e2 : uS r (n - n) = 1 := by unfold uS; rw [Nat.sub_self, if_pos rfl]
    rw [e2, Nat.mul_one, Nat.mod_eq_of_lt ha]
  · have e1 : uS r (n - t) = 0 := by unfold uS; rw [if_neg (by omega), if_neg (by omega)]
    rw [e1, Nat.mul_zero]
theorem zm_u (x y : Nat) : zm ((x : Int) - (y : Int)) = (y * 1000002 + x) % 1000003 := by
  unfold zm
  omega
theorem rem_u {x y : Nat} (hy : y < 1000003) : (x + 1000003 - y) % 1000003 = (y * 1000002 + x) % 1000003 := by omega
theorem mul_qS0 (a : Nat → Nat) : mulS qS a 0 = 0 := by
  rw [mulS_sm]
  show (0 + qS 0 * a (0 - 0)) % 1000003 = 0
  rw [show qS 0 = 0 from rfl, Nat.zero_mul]
theorem mul_qS {a : Nat → Nat} {n : Nat} (ha : a n < 1000003) : mulS qS a (n + 1) = a n := by
  rw [mulS_sm, sm_one (i := 1) (by omega) (fun t h1 h2 => ?_)]
  · rw [show qS 1 = 1 from rfl, Nat.one_mul, show n + 1 - 1 = n by omega, Nat.mod_eq_of_lt ha]
  · rw [show qS t = 0 from if_neg h2, Nat.zero_mul]
theorem red_onc : ∀ r, red (oncS r)
  | 0 => red_one
  | _ + 1 => red_mul _ _
theorem red_q : red qS := fun n => by
  unfold qS
  split <;> decide
theorem powS_mul (a b : Nat → Nat) : ∀ e, powS (mulS a b) e = mulS (powS a e) (powS b e)
  | 0 => (mulS_1 red_one).symm
  | e + 1 => by
    show mulS (powS (mulS a b) e) (mulS a b) = mulS (mulS (powS a e) a) (mulS (powS b e) b)
    rw [powS_mul a b e]
    haveI : Std.Associative mulS := ⟨mulS_assoc⟩
    haveI : Std.Commutative mulS := ⟨mulS_comm⟩
    ac_rfl
/-- the model's product, m - 1 factors made, t times the next -/
def prS (r t : Nat) : Nat → Nat := mulS qS (mulS (powS (oncS r) 24) (powS (uS (r + 1)) t))
theorem powS_1 : ∀ e, powS oneS e = oneS
  | 0 => rfl
  | e + 1 => by
    show mulS (powS oneS e) oneS = oneS
    rw [mulS_1 (red_pow _ _), powS_1 e]
theorem prS_00 : prS 0 0 = qS := by
  show mulS qS (mulS (powS oneS 24) oneS) = qS
  rw [mulS_1 (red_pow _ _), powS_1, mulS_1 red_q]
theorem prS_t (r t : Nat) : prS r (t + 1) = mulS (prS r t) (uS (r + 1)) := by
  show mulS qS (mulS (powS (oncS r) 24) (mulS (powS (uS (r + 1)) t) (uS (r + 1)))) = mulS (mulS qS (mulS (powS (oncS r) 24) (powS (uS (r + 1)) t))) (uS (r + 1))
  haveI : Std.Associative mulS := ⟨mulS_assoc⟩
  haveI : Std.Commutative mulS := ⟨mulS_comm⟩
  ac_rfl
theorem prS_r (r : Nat) : prS r 24 = prS (r + 1) 0 := by
  show mulS qS (mulS (powS (oncS r) 24) (powS (uS (r + 1)) 24)) = mulS qS (mulS (powS (mulS (oncS r) (uS (r + 1))) 24) oneS)
  rw [mulS_1 (red_pow _ _), powS_mul]
theorem prS_end : prS 47 0 = dS := by
  show mulS qS (mulS (powS (oncS 47) 24) oneS) = mulS qS (powS (oncS 47) 24)
  rw [mulS_1 (red_pow _ _)]
theorem red_prS (r t : Nat) : red (prS r t) := red_mul _ _
def allT : List Nat := [0, 1, 1, 2, 3, 4, 5, 7, 8, 10, 12, 14, 16, 19, 21, 24, 27, 30, 33, 37, 40, 44]
theorem all_step : ∀ r, r < 21 → allT.getD r 0 + szT.getD r 0 = allT.getD (r + 1) 0 ∧ allT.getD r 0 = fsT.getD r 0 ∧ zs (2 * r) = szT.getD r 0 := by decide +kernel
