/-! ===== forms: the given series, sizes, basis, parts, images ===== -/
def e2S : Nat → Nat := sumsS 999979 1
def e4S : Nat → Nat := sumsS 240 3
def e6S : Nat → Nat := sumsS 999499 5
def uS (k i : Nat) : Nat := if i = 0 then 1 else if i = k then 1000002 else 0
def oncS : Nat → Nat → Nat
  | 0 => oneS
  | k + 1 => mulS (oncS k) (uS (k + 1))
def qS (i : Nat) : Nat := if i = 1 then 1 else 0
def dS : Nat → Nat := mulS qS (powS (oncS 47) 24)
def szT : List Nat := [1, 0, 1, 1, 1, 1, 2, 1, 2, 2, 2, 2, 3, 2, 3, 3, 3, 3, 4, 3, 4]
def fsT : List Nat := [0, 1, 1, 2, 3, 4, 5, 7, 8, 10, 12, 14, 16, 19, 21, 24, 27, 30, 33, 37, 40]
def zs (k : Nat) : Nat := szT.getD (k / 2) 0
def fst (k : Nat) : Nat := fsT.getD (k / 2) 0
theorem zs_le : ∀ k, k ≤ 40 → zs k ≤ 4 ∧ fst k + zs k ≤ 44 := by decide
theorem fst_mono : ∀ k', k' ≤ 40 → ∀ k, k ≤ 40 → k' % 2 = 0 → k % 2 = 0 → k' < k → fst k' + zs k' ≤ fst k := by decide +kernel
theorem zs_12 : ∀ k, k ≤ 40 → k % 2 = 0 → 1 < zs k → 12 ≤ k ∧ zs k ≤ zs (k - 12) + 1 := by decide
theorem zs_i12 : ∀ k, k ≤ 40 → k % 2 = 0 → ∀ i, i < zs k → 12 * i ≤ k ∧ k ≠ 12 * i + 2 := by decide +kernel
theorem zs_4 : ∀ k, k ≤ 40 → k % 2 = 0 → 0 < zs k → k = 0 ∨ k = 6 ∨ (4 ≤ k ∧ 0 < zs (k - 4)) := by decide
theorem zs_down : ∀ k, k ≤ 40 → k % 2 = 0 → 12 ≤ k → zs k = zs (k - 12) + 1 := by decide
def bE (k i : Nat) : Nat := if (k - 12 * i) % 4 = 2 then 1 else 0
def aE (k i : Nat) : Nat := (k - 12 * i - 6 * bE k i) / 4
def bas (k i : Nat) : Nat → Nat := mulS (mulS (powS dS i) (powS e4S (aE k i))) (powS e6S (bE k i))
theorem bas_red (k i : Nat) : red (bas k i) := red_mul _ _
theorem red_sums (c e : Nat) : red (sumsS c e) := sumsS_lt c e
theorem bas_up {k i : Nat} (h : 12 * (i + 1) ≤ k) : bas k (i + 1) = mulS dS (bas (k - 12) i) := by
  have e1 : bE k (i + 1) = bE (k - 12) i := by unfold bE; rw [show k - 12 * (i + 1) = k - 12 - 12 * i by omega]
  have e2 : aE k (i + 1) = aE (k - 12) i := by unfold aE; rw [e1, show k - 12 * (i + 1) = k - 12 - 12 * i by omega]
  unfold bas
  rw [e1, e2]
  show mulS (mulS (mulS (powS dS i) dS) _) _ = _
  haveI : Std.Associative mulS := ⟨mulS_assoc⟩
  haveI : Std.Commutative mulS := ⟨mulS_comm⟩
  ac_rfl
theorem bas_00 : bas 0 0 = oneS := by
  show mulS (mulS oneS oneS) oneS = oneS
  rw [mulS_1 red_one, mulS_1 red_one]
theorem bas_60 : bas 6 0 = e6S := by
  show mulS (mulS oneS oneS) (mulS oneS e6S) = e6S
  rw [mulS_1 red_one, mulS_1l (red_mul _ _)]
  exact mulS_1l (a := e6S) (red_sums _ _)
theorem bas_4 {k : Nat} (h : 4 ≤ k) (h2 : k % 2 = 0) (h6 : k ≠ 6) : bas k 0 = mulS e4S (bas (k - 4) 0) := by
  have e1 : bE k 0 = bE (k - 4) 0 := by unfold bE; rw [show (k - 12 * 0) % 4 = (k - 4 - 12 * 0) % 4 by omega]
  have e2 : aE k 0 = aE (k - 4) 0 + 1 := by
    have e3 : (k - 12 * 0) % 4 = (k - 4 - 12 * 0) % 4 := by omega
    unfold aE bE
    rw [e3]
    split <;> omega
  unfold bas
  rw [e1, e2]
  show mulS (mulS oneS (mulS (powS e4S _) e4S)) _ = mulS e4S (mulS (mulS oneS _) _)
  haveI : Std.Associative mulS := ⟨mulS_assoc⟩
  haveI : Std.Commutative mulS := ⟨mulS_comm⟩
  ac_rfl
def cntS (k : Nat) : Nat → Nat
  | 0 => 0
  | j + 1 => cntS k j + if k = 12 * j + 2 then 0 else 1
theorem cntS_zs : ∀ k, k ≤ 40 → k % 2 = 0 → cntS k (k / 12 + 1) = zs k := by decide
/-- parts: the model's way -/
def thn (b : Nat → Nat → Nat) (v : Nat → Nat) : Nat → Nat → Nat
  | 0 => v
  | i + 1 => fun n => (thn b v i n + (1000003 - thn b v i i) * b i n) % 1000003
def prt (b : Nat → Nat → Nat) (v : Nat → Nat) (i : Nat) : Nat := thn b v i i
/-- what is left, the class's way -/
def lft (b : Nat → Nat → Nat) (v : Nat → Nat) (n : Nat) : Nat → Int
  | 0 => (v n : Int)
  | t + 1 => lft b v n t - (prt b v t * b t n : Nat)
theorem thn_lt {b : Nat → Nat → Nat} {v : Nat → Nat} {n : Nat} (hv : v n < 1000003) : ∀ t, thn b v t n < 1000003
  | 0 => hv
  | t + 1 => Nat.mod_lt _ (by decide)
theorem thn_lft {b : Nat → Nat → Nat} {v : Nat → Nat} {n : Nat} : ∀ t, (∀ i, i < t → v i < 1000003) → ((thn b v t n : Nat) : Int) % 1000003 = lft b v n t % 1000003
  | 0, _ => rfl
  | t + 1, h => by
    have ih := thn_lft (b := b) (v := v) (n := n) t (fun i hi => h i (by omega))
    have hp : thn b v t t < 1000003 := thn_lt (h t (by omega)) t
    show (((thn b v t n + (1000003 - thn b v t t) * b t n) % 1000003 : Nat) : Int) % 1000003 = (lft b v n t - (prt b v t * b t n : Nat)) % 1000003
    unfold prt
    generalize thn b v t t = P at hp ⊢
    generalize thn b v t n = T at ih ⊢
    generalize lft b v n t = L at ih ⊢
    have h1 : (1000003 - P) * b t n = 1000003 * b t n - P * b t n := Nat.sub_mul _ _ _
    have h2 : P * b t n ≤ 1000003 * b t n := Nat.mul_le_mul_right _ (by omega)
    rw [h1]
    generalize P * b t n = X at h2 ⊢
    omega
theorem prt_zm {b : Nat → Nat → Nat} {v : Nat → Nat} {i : Nat} (hv : ∀ j, j ≤ i → v j < 1000003) : zm (lft b v i i) = prt b v i := by
  have h := thn_lft (b := b) (v := v) (n := i) i (fun j hj => hv j (by omega))
  have h2 := thn_lt (b := b) (v := v) (n := i) (hv i (Nat.le_refl i)) i
  unfold zm prt
  rw [← h]
  omega
theorem prt_lt {b : Nat → Nat → Nat} {v : Nat → Nat} {i : Nat} (hv : v i < 1000003) : prt b v i < 1000003 := thn_lt hv i
theorem lft_le {b : Nat → Nat → Nat} {v : Nat → Nat} {n : Nat} (hb : ∀ i, b i n < 1000003) (hv : ∀ j, j ≤ n → v j < 1000003) : ∀ t, t ≤ n → -((t : Int) * 1000006000009) ≤ lft b v n t ∧ lft b v n t < 1000003
  | 0, _ => by
    have := hv n (Nat.le_refl n)
    show _ ≤ ((v n : Nat) : Int) ∧ ((v n : Nat) : Int) < _
    omega
  | t + 1, h => by
    have ih := lft_le hb hv t (by omega)
    have h2 := mul_lt (prt_lt (b := b) (hv t (by omega))) (hb t)
    show _ ≤ lft b v n t - (prt b v t * b t n : Nat) ∧ lft b v n t - (prt b v t * b t n : Nat) < _
    generalize prt b v t * b t n = X at h2 ⊢
    omega
/-- the form that has these parts -/
def bld (b : Nat → Nat → Nat) (z : Nat) (p : Nat → Nat) (n : Nat) : Nat := sm (fun i => p i * b i n) z % 1000003
/-- the first numbers of what a prime does -/
def imgS (k p : Nat) (a : Nat → Nat) (n : Nat) : Nat := (a (p * n) + if n % p = 0 then p ^ (k - 1) % 1000003 * a (n / p) else 0) % 1000003
theorem sm_le {f : Nat → Nat} {c : Nat} : ∀ {n : Nat}, (∀ i, i < n → f i ≤ c) → sm f n ≤ n * c
  | 0, _ => Nat.zero_le _
  | n + 1, h => by
    have h1 := sm_le (n := n) (fun i hi => h i (by omega))
    have h2 := h n (by omega)
    unfold sm
    rw [Nat.add_mul, Nat.one_mul]
    omega
