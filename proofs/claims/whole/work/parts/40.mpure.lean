/-! ===== the model's cells ===== -/
abbrev mO (ad : Nat → Nat) (h r : Int32) : va_E := eO 3 [.ref (ad 93), .ref (ad 94), .ref (ad 95), .ref (ad 96), .int h, .ref (ad 97), .ref (ad 98), .ref (ad 99), .ref (ad 100), .ref (ad 101), .ref (ad 102), .ref (ad 103), .ref (ad 104), .ref (ad 105), .ref (ad 106), .ref (ad 107), .ref (ad 108), .ref (ad 109), .ref (ad 110), .int r]
def MOK (G : zG) (ad : Nat → Nat) (w : Nat → va_E) (σ : zS) : Prop :=
  w 92 = mO ad (nI (sH σ)) (rlI (sR σ)) ∧
  (∃ f : Nat → Int64, w 93 = eL G 768 f ∧ ∀ i, i < sH σ → ∀ j, j < 48 → f (48 * i + j) = lN (sE σ i j)) ∧
  (∃ f : Nat → Int32, w 94 = eI G 16 f ∧ ∀ i, i < sH σ → f i = nI (sK σ i)) ∧
  (∃ f : Nat → Int32, w 95 = eI G 16 f ∧ ∀ i, i < sH σ → f i = nI (sW σ i)) ∧
  (∃ f : Nat → Int32, w 96 = eI G 16 f ∧ ∀ i, i < sH σ → f i = nI (sT σ i)) ∧
  (∃ f : Nat → Int32, w 97 = eI G 9 f ∧ ∀ i, 2 ≤ i → i < 9 → f i = sF σ i) ∧
  isL G w 98 48 e2S ∧ isL G w 99 48 e4S ∧ isL G w 100 48 e6S ∧ isL G w 101 48 dS ∧
  (∃ f, w 102 = eL G 48 f) ∧ (∃ f, w 103 = eL G 48 f) ∧ (∃ f, w 104 = eL G 48 f) ∧ (∃ f, w 105 = eL G 4 f) ∧ (∃ f, w 106 = eL G 48 f) ∧ (∃ f, w 107 = eL G 100 f) ∧ (∃ f, w 108 = eL G 100 f) ∧
  (∃ f : Nat → Int32, w 109 = eI G 48 f ∧ ∀ i, i < (sR σ).getD 0 → f i = nI (sV σ i)) ∧ (∃ f, w 110 = eI G 48 f)
def postM (G : zG) (ad : Nat → Nat) (w : Nat → va_E) (S : Int32 × zS) (r : Int32) (w' : Nat → va_E) : Prop := r = S.1 ∧ MOK G ad w' S.2 ∧ ∀ j, j < 92 → w' j = w j
/-- the model's scratch cells may change -/
theorem MOK.gen {G : zG} {ad : Nat → Nat} {w w' : Nat → va_E} {σ : zS} (h : MOK G ad w σ) (hk : ∀ j, 92 ≤ j → j < 111 → j ≠ 102 → j ≠ 103 → j ≠ 104 → j ≠ 105 → j ≠ 106 → j ≠ 107 → j ≠ 108 → j ≠ 110 → w' j = w j) (h102 : ∃ f, w' 102 = eL G 48 f) (h103 : ∃ f, w' 103 = eL G 48 f) (h104 : ∃ f, w' 104 = eL G 48 f) (h105 : ∃ f, w' 105 = eL G 4 f) (h106 : ∃ f, w' 106 = eL G 48 f) (h107 : ∃ f, w' 107 = eL G 100 f) (h108 : ∃ f, w' 108 = eL G 100 f) (h110 : ∃ f, w' 110 = eI G 48 f) : MOK G ad w' σ := by
  obtain ⟨m92, m93, m94, m95, m96, m97, m98, m99, m100, m101, -, -, -, -, -, -, -, m109, -⟩ := h
  have k : ∀ j, 92 ≤ j → j < 102 → w' j = w j := fun j h1 h2 => hk j h1 (by omega) (by omega) (by omega) (by omega) (by omega) (by omega) (by omega) (by omega) (by omega)
  refine ⟨by rw [k 92 (by omega) (by omega)]; exact m92, by rw [k 93 (by omega) (by omega)]; exact m93, by rw [k 94 (by omega) (by omega)]; exact m94, by rw [k 95 (by omega) (by omega)]; exact m95, by rw [k 96 (by omega) (by omega)]; exact m96, by rw [k 97 (by omega) (by omega)]; exact m97, isL_of m98 (k 98 (by omega) (by omega)), isL_of m99 (k 99 (by omega) (by omega)), isL_of m100 (k 100 (by omega) (by omega)), isL_of m101 (k 101 (by omega) (by omega)), h102, h103, h104, h105, h106, h107, h108, ?_, h110⟩
  rw [hk 109 (by omega) (by omega) (by omega) (by omega) (by omega) (by omega) (by omega) (by omega) (by omega) (by omega)]
  exact m109
theorem inv_odd {p b e : Nat} (h : e % 2 = 1) : p * b % 1000003 * (b * b % 1000003) ^ (e / 2) % 1000003 = p * b ^ e % 1000003 := by
  have he : e = 2 * (e / 2) + 1 := by omega
  generalize e / 2 = q at he ⊢
  rw [he, Nat.mul_mod, Nat.mod_mod, ← Nat.pow_mod, ← Nat.mul_mod, Nat.pow_succ, Nat.pow_mul, Nat.pow_two]
  congr 1
  rw [Nat.mul_assoc, Nat.mul_comm b]
theorem inv_even {p b e : Nat} (h : e % 2 = 0) : p * (b * b % 1000003) ^ (e / 2) % 1000003 = p * b ^ e % 1000003 := by
  have he : e = 2 * (e / 2) := by omega
  generalize e / 2 = q at he ⊢
  rw [he, Nat.mul_mod, ← Nat.pow_mod, ← Nat.mul_mod, Nat.pow_mul, Nat.pow_two]
/-- sums of the divisors' powers, the model's way -/
def dvM (e n : Nat) : Nat → Nat
  | 0 => 0
  | d + 1 => dvM e n d + if n % (d + 1) = 0 then (d + 1) ^ e % 1000003 else 0
theorem dvM_eq (e n : Nat) : ∀ d, dvM e n d % 1000003 = dvS e n d % 1000003
  | 0 => rfl
  | d + 1 => by
    have ih := dvM_eq e n d
    unfold dvM dvS
    split
    · rw [Nat.add_mod, ih, Nat.mod_mod, ← Nat.add_mod]
    · simp only [Nat.add_zero]; exact ih
theorem dvM_le (e n : Nat) : ∀ d, dvM e n d ≤ d * 1000003
  | 0 => Nat.zero_le _
  | d + 1 => by
    have ih := dvM_le e n d
    have h := Nat.mod_lt ((d + 1) ^ e) (show 0 < 1000003 by decide)
    show dvM e n d + (if n % (d + 1) = 0 then (d + 1) ^ e % 1000003 else 0) ≤ _
    generalize (d + 1) ^ e % 1000003 = x at h ⊢
    rw [Nat.succ_mul]
    by_cases q : n % (d + 1) = 0
    · rw [if_pos q]; exact Nat.add_le_add ih (Nat.le_of_lt h)
    · rw [if_neg q]; exact Nat.add_le_add ih (Nat.zero_le _)
theorem dvM_sums {c e n : Nat} (hn : n ≠ 0) : dvM e n n % 1000003 * c % 1000003 = sumsS c e n := by
  unfold sumsS
  rw [if_neg hn, dvM_eq, Nat.mul_comm c, Nat.mul_mod, Nat.mod_mod, ← Nat.mul_mod]
theorem zs_stop : ∀ k, k ≤ 40 → k % 2 = 0 → k < 12 * zs k ∨ k = 12 * zs k + 2 := by decide
theorem cv_mod (a b : Nat → Nat) (n t : Nat) : (cv a b n t % 1000003 + a t * b (n - t)) % 1000003 = cv a b n (t + 1) % 1000003 := by
  show _ = (cv a b n t + a t * b (n - t)) % 1000003
  rw [Nat.add_mod, Nat.mod_mod, ← Nat.add_mod]
theorem sm_mod1 (f : Nat → Nat) (t : Nat) : (sm f t % 1000003 + f t) % 1000003 = sm f (t + 1) % 1000003 := by
  show _ = (sm f t + f t) % 1000003
  rw [Nat.add_mod, Nat.mod_mod, ← Nat.add_mod]
theorem rst_zm {z : Int} (h1 : -4611686018427387904 ≤ z) (h2 : z ≤ 4611686018427387904) : lZ (z.tmod 1000003 + 1000003) = lN (z.tmod 1000003 + 1000003).toNat ∧ (z.tmod 1000003 + 1000003).toNat % 1000003 = zm z := by
  have h := fm_all z
  constructor
  · rw [lN_Z]; congr 1; omega
  · rcases Int.lt_or_le z 0 with q | q
    · have h3 := fm_neg q
      unfold zm
      omega
    · have h3 := fm_pos q
      unfold zm
      omega
