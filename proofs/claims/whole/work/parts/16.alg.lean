/-! ===== series by rests of 1000003: a commutative product ===== -/
def sm (f : Nat → Nat) : Nat → Nat
  | 0 => 0
  | n + 1 => sm f n + f n
theorem cv_sm (a b : Nat → Nat) (n : Nat) : ∀ t, cv a b n t = sm (fun i => a i * b (n - i)) t
  | 0 => rfl
  | t + 1 => by unfold cv sm; rw [cv_sm a b n t]
theorem sm_congr {f g : Nat → Nat} : ∀ {n : Nat}, (∀ i, i < n → f i = g i) → sm f n = sm g n
  | 0, _ => rfl
  | n + 1, h => by unfold sm; rw [sm_congr (fun i hi => h i (by omega)), h n (by omega)]
theorem sm_zero {f : Nat → Nat} : ∀ {n : Nat}, (∀ i, i < n → f i = 0) → sm f n = 0
  | 0, _ => rfl
  | n + 1, h => by unfold sm; rw [sm_zero (fun i hi => h i (by omega)), h n (by omega)]
theorem sm_add (f g : Nat → Nat) : ∀ n, sm (fun i => f i + g i) n = sm f n + sm g n
  | 0 => rfl
  | n + 1 => by unfold sm; rw [sm_add f g n]; omega
theorem sm_mul (c : Nat) (f : Nat → Nat) : ∀ n, sm (fun i => c * f i) n = c * sm f n
  | 0 => by simp [sm]
  | n + 1 => by unfold sm; rw [sm_mul c f n, Nat.mul_add]
theorem sm_mulr (c : Nat) (f : Nat → Nat) (n : Nat) : sm (fun i => f i * c) n = sm f n * c := by
  rw [Nat.mul_comm, ← sm_mul]
  exact sm_congr (fun i _ => Nat.mul_comm _ _)
theorem sm_mod (f : Nat → Nat) : ∀ n, sm (fun i => f i % 1000003) n % 1000003 = sm f n % 1000003
  | 0 => rfl
  | n + 1 => by
    unfold sm
    rw [Nat.add_mod, sm_mod f n, Nat.mod_mod, ← Nat.add_mod]
theorem sm_modc {f g : Nat → Nat} {n : Nat} (h : ∀ i, i < n → f i % 1000003 = g i % 1000003) : sm f n % 1000003 = sm g n % 1000003 := by
  rw [← sm_mod f n, ← sm_mod g n, sm_congr h]
theorem sm_head (f : Nat → Nat) : ∀ n, sm f (n + 1) = f 0 + sm (fun i => f (i + 1)) n
  | 0 => by simp [sm]
  | n + 1 => by
    have h := sm_head f n
    rw [sm, h, sm]
    omega
theorem sm_rev (f : Nat → Nat) : ∀ n, sm f (n + 1) = sm (fun i => f (n - i)) (n + 1)
  | 0 => by simp [sm]
  | n + 1 => by
    have h := sm_rev f n
    rw [sm_head (fun i => f (n + 1 - i)) (n + 1)]
    have e : sm (fun i => f (n + 1 - (i + 1))) (n + 1) = sm (fun i => f (n - i)) (n + 1) := sm_congr (fun i _ => by rw [show n + 1 - (i + 1) = n - i by omega])
    rw [e, ← h]
    show sm f (n + 1) + f (n + 1) = _
    simp only [Nat.sub_zero]
    omega
theorem sm_tri (h : Nat → Nat → Nat) : ∀ n, sm (fun i => sm (fun j => h i j) (i + 1)) n = sm (fun j => sm (fun k => h (j + k) j) (n - j)) n
  | 0 => rfl
  | n + 1 => by
    have ih := sm_tri h n
    have e1 : sm (fun j => sm (fun k => h (j + k) j) (n + 1 - j)) (n + 1) = sm (fun j => sm (fun k => h (j + k) j) (n - j) + h n j) (n + 1) := by
      apply sm_congr
      intro j hj
      rw [show n + 1 - j = (n - j) + 1 by omega]
      show sm _ (n - j) + h (j + (n - j)) j = _
      rw [show j + (n - j) = n by omega]
    rw [e1, sm_add]
    show sm (fun i => sm (fun j => h i j) (i + 1)) n + sm (fun j => h n j) (n + 1) = sm (fun j => sm (fun k => h (j + k) j) (n - j)) n + sm (fun k => h (n + k) n) (n - n) + sm (fun j => h n j) (n + 1)
    rw [ih, Nat.sub_self]
    rfl
theorem mulS_sm (a b : Nat → Nat) (n : Nat) : mulS a b n = sm (fun i => a i * b (n - i)) (n + 1) % 1000003 := by
  unfold mulS
  rw [cv_sm]
theorem mulS_comm (a b : Nat → Nat) : mulS a b = mulS b a := by
  funext n
  rw [mulS_sm, mulS_sm, sm_rev]
  congr 1
  apply sm_congr
  intro i hi
  rw [show n - (n - i) = i by omega, Nat.mul_comm]
theorem mulS_assoc (a b c : Nat → Nat) : mulS (mulS a b) c = mulS a (mulS b c) := by
  funext n
  rw [mulS_sm, mulS_sm]
  have h1 : sm (fun i => mulS a b i * c (n - i)) (n + 1) % 1000003 = sm (fun i => sm (fun j => a j * b (i - j) * c (n - i)) (i + 1)) (n + 1) % 1000003 := by
    apply sm_modc
    intro i _
    rw [mulS_sm, sm_mulr, Nat.mul_mod, Nat.mod_mod, ← Nat.mul_mod]
  have h2 : sm (fun i => a i * mulS b c (n - i)) (n + 1) % 1000003 = sm (fun i => sm (fun k => a i * (b k * c (n - i - k))) (n + 1 - i)) (n + 1) % 1000003 := by
    apply sm_modc
    intro i hi
    rw [mulS_sm, sm_mul, Nat.mul_mod, Nat.mod_mod, ← Nat.mul_mod, show n - i + 1 = n + 1 - i by omega]
  rw [h1, h2, sm_tri (fun i j => a j * b (i - j) * c (n - i))]
  congr 1
  apply sm_congr
  intro j hj
  apply sm_congr
  intro k hk
  rw [show j + k - j = k by omega, show n - (j + k) = n - j - k by omega, Nat.mul_assoc]
theorem mulS_one (a : Nat → Nat) (n : Nat) : mulS a oneS n = a n % 1000003 := by
  rw [mulS_sm]
  show (sm (fun i => a i * oneS (n - i)) n + a n * oneS (n - n)) % 1000003 = _
  rw [sm_zero (fun i hi => by simp [oneS, show n - i ≠ 0 by omega]), Nat.sub_self]
  simp [oneS]
/-- all its numbers are rests -/
def red (a : Nat → Nat) : Prop := ∀ n, a n < 1000003
theorem mulS_1 {a : Nat → Nat} (h : red a) : mulS a oneS = a := by
  funext n
  rw [mulS_one, Nat.mod_eq_of_lt (h n)]
theorem mulS_1l {a : Nat → Nat} (h : red a) : mulS oneS a = a := by
  rw [mulS_comm, mulS_1 h]
theorem red_mul (a b : Nat → Nat) : red (mulS a b) := mulS_lt a b
theorem red_one : red oneS := oneS_lt
theorem red_pow (a : Nat → Nat) (e : Nat) : red (powS a e) := powS_lt a e
theorem red.s {a : Nat → Nat} (h : red a) : sM a := fun i _ => h i
theorem powS_add (a : Nat → Nat) (p : Nat) : ∀ q, powS a (p + q) = mulS (powS a p) (powS a q)
  | 0 => by
    show powS a p = mulS (powS a p) oneS
    rw [mulS_1 (red_pow a p)]
  | q + 1 => by
    show mulS (powS a (p + q)) a = mulS (powS a p) (mulS (powS a q) a)
    rw [powS_add a p q, mulS_assoc]
theorem powS_one (a : Nat → Nat) (h : red a) : powS a 1 = a := mulS_1l h
theorem mulS_loc {a a' b b' : Nat → Nat} {n : Nat} (ha : ∀ i, i ≤ n → a i = a' i) (hb : ∀ i, i ≤ n → b i = b' i) : mulS a b n = mulS a' b' n := by
  rw [mulS_sm, mulS_sm]
  congr 1
  apply sm_congr
  intro i hi
  rw [ha i (by omega), hb (n - i) (by omega)]
theorem powS_loc {a a' : Nat → Nat} : ∀ (e : Nat) {n : Nat}, (∀ i, i ≤ n → a i = a' i) → powS a e n = powS a' e n
  | 0, n, _ => rfl
  | e + 1, n, h => mulS_loc (fun i hi => powS_loc e (fun j hj => h j (by omega))) h
