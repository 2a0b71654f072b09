/-! ===== pure: brackets, slopes ===== -/
theorem nI_m1 {j : Nat} (h : j < 2 ^ 31) : ¬ nI j = -1 := fun q => by
  have h1 := nI_pos h
  rw [q] at h1
  exact h1 (by decide)
def thS (a : Nat → Nat) (n : Nat) : Nat := n * a n % 1000003
/-- the bracket, the model's way -/
def brS (k l : Nat) (a b : Nat → Nat) (n : Nat) : Nat := (k * mulS a (thS b) n + (1000003 - l) * mulS (thS a) b n) % 1000003
/-- ... and the class's sum -/
def brZ (k l : Nat) (a b : Nat → Nat) (n : Nat) : Nat → Int
  | 0 => 0
  | t + 1 => brZ k l a b n t + ((a t * b (n - t) % 1000003 : Nat) : Int) * ((k * (n - t) : Nat) - (l * t : Nat))
theorem brZ_cv (k l : Nat) (a b : Nat → Nat) (n : Nat) : ∀ t, ∃ q : Int, brZ k l a b n t = (k : Int) * (cv a (thS b) n t : Nat) - (l : Int) * (cv (thS a) b n t : Nat) + 1000003 * q
  | 0 => ⟨0, by simp [brZ, cv]⟩
  | t + 1 => by
    obtain ⟨q, hq⟩ := brZ_cv k l a b n t
    show ∃ q' : Int, brZ k l a b n t + ((a t * b (n - t) % 1000003 : Nat) : Int) * ((k * (n - t) : Nat) - (l * t : Nat)) = (k : Int) * (cv a (thS b) n t + a t * thS b (n - t) : Nat) - (l : Int) * (cv (thS a) b n t + thS a t * b (n - t) : Nat) + 1000003 * q'
    rw [hq]
    unfold thS
    have e1 := Nat.div_add_mod (a t * b (n - t)) 1000003
    have e2 := Nat.div_add_mod ((n - t) * b (n - t)) 1000003
    have e3 := Nat.div_add_mod (t * a t) 1000003
    generalize a t * b (n - t) / 1000003 = q1 at e1
    generalize a t * b (n - t) % 1000003 = r1 at e1 ⊢
    generalize (n - t) * b (n - t) / 1000003 = q2 at e2
    generalize (n - t) * b (n - t) % 1000003 = r2 at e2 ⊢
    generalize t * a t / 1000003 = q3 at e3
    generalize t * a t % 1000003 = r3 at e3 ⊢
    generalize cv a (thS b) n t = X
    generalize cv (thS a) b n t = Y
    generalize n - t = j at e1 e2 ⊢
    have f1 : (1000003 : Int) * q1 + r1 = (a t : Int) * (b j : Int) := by rw [← Int.natCast_mul]; omega
    have f2 : (1000003 : Int) * q2 + r2 = (j : Int) * (b j : Int) := by rw [← Int.natCast_mul]; omega
    have f3 : (1000003 : Int) * q3 + r3 = (t : Int) * (a t : Int) := by rw [← Int.natCast_mul]; omega
    refine ⟨q - (q1 : Int) * ((k : Int) * j - l * t) + (k : Int) * a t * q2 - (l : Int) * q3 * b j, ?_⟩
    push_cast
    have g1 : (r1 : Int) = (a t : Int) * (b j : Int) - 1000003 * q1 := by omega
    have g2 : (r2 : Int) = (j : Int) * (b j : Int) - 1000003 * q2 := by omega
    have g3 : (r3 : Int) = (t : Int) * (a t : Int) - 1000003 * q3 := by omega
    rw [g1, g2, g3]
    grind
theorem brZ_zm {k l : Nat} {a b : Nat → Nat} {n : Nat} (hl : l ≤ 1000003) : zm (brZ k l a b n (n + 1)) = brS k l a b n := by
  obtain ⟨q, hq⟩ := brZ_cv k l a b n (n + 1)
  rw [hq]
  unfold brS mulS zm
  have e1 := Nat.div_add_mod (cv a (thS b) n (n + 1)) 1000003
  have e2 := Nat.div_add_mod (cv (thS a) b n (n + 1)) 1000003
  generalize cv a (thS b) n (n + 1) / 1000003 = q1 at e1
  generalize cv a (thS b) n (n + 1) % 1000003 = r1 at e1 ⊢
  generalize cv (thS a) b n (n + 1) / 1000003 = q2 at e2
  generalize cv (thS a) b n (n + 1) % 1000003 = r2 at e2 ⊢
  rw [← e1, ← e2]
  have h1 : (1000003 - l) * r2 = 1000003 * r2 - l * r2 := Nat.sub_mul _ _ _
  have h2 : l * r2 ≤ 1000003 * r2 := Nat.mul_le_mul_right _ hl
  rw [h1]
  have h3 : (k : Int) * ((1000003 * q1 + r1 : Nat) : Int) - (l : Int) * ((1000003 * q2 + r2 : Nat) : Int) + 1000003 * q = ((k * r1 : Nat) : Int) - ((l * r2 : Nat) : Int) + 1000003 * ((k : Int) * q1 - l * q2 + q) := by
    have hX : ((1000003 * q1 + r1 : Nat) : Int) = 1000003 * (q1 : Int) + r1 := by omega
    have hY : ((1000003 * q2 + r2 : Nat) : Int) = 1000003 * (q2 : Int) + r2 := by omega
    rw [hX, hY, Int.natCast_mul, Int.natCast_mul]
    grind
  rw [h3]
  generalize (k : Int) * q1 - l * q2 + q = Q
  generalize k * r1 = A at *
  generalize l * r2 = C at *
  omega
theorem brZ_le {k l : Nat} {a b : Nat → Nat} {n : Nat} (hk : k ≤ 40) (hl : l ≤ 40) (hn : n < 48) : ∀ t, t ≤ n + 1 → -((t : Int) * 2000000000) ≤ brZ k l a b n t ∧ brZ k l a b n t ≤ (t : Int) * 2000000000
  | 0, _ => by simp [brZ]
  | t + 1, h => by
    have ih := brZ_le (a := a) (b := b) hk hl hn t (by omega)
    have h1 : k * (n - t) ≤ 40 * 47 := Nat.mul_le_mul hk (by omega)
    have h2 : l * t ≤ 40 * 47 := Nat.mul_le_mul hl (by omega)
    have h3 := Nat.mod_lt (a t * b (n - t)) (show 0 < 1000003 by decide)
    show _ ≤ brZ k l a b n t + ((a t * b (n - t) % 1000003 : Nat) : Int) * ((k * (n - t) : Nat) - (l * t : Nat)) ∧ brZ k l a b n t + ((a t * b (n - t) % 1000003 : Nat) : Int) * ((k * (n - t) : Nat) - (l * t : Nat)) ≤ _
    generalize a t * b (n - t) % 1000003 = r at h3 ⊢
    generalize k * (n - t) = x at h1 ⊢
    generalize l * t = y at h2 ⊢
    have h4 : (r : Int) * ((x : Int) - (y : Int)) = ((r * x : Nat) : Int) - ((r * y : Nat) : Int) := by push_cast; rw [Int.mul_sub]
    rw [h4]
    have h5 : r * x ≤ 1000002 * 1880 := Nat.mul_le_mul (by omega) (by omega)
    have h6 : r * y ≤ 1000002 * 1880 := Nat.mul_le_mul (by omega) (by omega)
    generalize r * x = u at h5 ⊢
    generalize r * y = v at h6 ⊢
    push_cast
    omega
