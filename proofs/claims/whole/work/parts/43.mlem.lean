/-! ===== the model's cells behind its own helpers ===== -/
theorem MOK.s48 {G : zG} {ad : Nat → Nat} {w w' : Nat → va_E} {σ : zS} (h : MOK G ad w σ) {k : Nat} (hk : k = 102 ∨ k = 103 ∨ k = 104 ∨ k = 106) (e : ∃ f, w' k = eL G 48 f) (hf : ∀ j, j ≠ k → w' j = w j) : MOK G ad w' σ := by
  obtain ⟨-, -, -, -, -, -, -, -, -, -, m102, m103, m104, m105, m106, m107, m108, -, m110⟩ := id h
  have q : ∀ j N, (∃ f, w j = eL G N f) → (j = k → N = 48) → ∃ f, w' j = eL G N f := fun j N hj hN => by
    by_cases z : j = k
    · rw [hN z, z]; exact e
    · rw [hf j z]; exact hj
  exact h.gen (fun j a1 a2 a3 a4 a5 a6 a7 a8 a9 a10 => hf j (by omega)) (q _ _ m102 (fun _ => rfl)) (q _ _ m103 (fun _ => rfl)) (q _ _ m104 (fun _ => rfl)) (q _ _ m105 (fun z => by omega)) (q _ _ m106 (fun _ => rfl)) (q _ _ m107 (fun z => by omega)) (q _ _ m108 (fun z => by omega)) (by rw [hf 110 (by omega)]; exact m110)
theorem MOK.fin {G : zG} {ad : Nat → Nat} {w w' : Nat → va_E} {σ : zS} (h : MOK G ad w σ) (hf : ∀ j, j ≠ 103 → j ≠ 104 → j ≠ 105 → w' j = w j) (h3 : ∃ f, w' 103 = eL G 48 f) (h4 : ∃ f, w' 104 = eL G 48 f) (h5 : ∃ f, w' 105 = eL G 4 f) : MOK G ad w' σ := by
  obtain ⟨-, -, -, -, -, -, -, -, -, -, m102, -, -, -, m106, m107, m108, -, m110⟩ := id h
  exact h.gen (fun j a1 a2 a3 a4 a5 a6 a7 a8 a9 a10 => hf j a4 a5 a6) (by rw [hf 102 (by decide) (by decide) (by decide)]; exact m102) h3 h4 h5 (by rw [hf 106 (by decide) (by decide) (by decide)]; exact m106) (by rw [hf 107 (by decide) (by decide) (by decide)]; exact m107) (by rw [hf 108 (by decide) (by decide) (by decide)]; exact m108) (by rw [hf 110 (by decide) (by decide) (by decide)]; exact m110)
theorem MOK.bui {G : zG} {ad : Nat → Nat} {w w' : Nat → va_E} {σ : zS} (h : MOK G ad w σ) (hf : ∀ j, j ≠ 102 → j ≠ 104 → w' j = w j) (h2 : ∃ f, w' 102 = eL G 48 f) (h4 : ∃ f, w' 104 = eL G 48 f) : MOK G ad w' σ := by
  obtain ⟨-, -, -, -, -, -, -, -, -, -, -, m103, -, m105, m106, m107, m108, -, m110⟩ := id h
  exact h.gen (fun j a1 a2 a3 a4 a5 a6 a7 a8 a9 a10 => hf j a3 a5) h2 (by rw [hf 103 (by decide) (by decide)]; exact m103) h4 (by rw [hf 105 (by decide) (by decide)]; exact m105) (by rw [hf 106 (by decide) (by decide)]; exact m106) (by rw [hf 107 (by decide) (by decide)]; exact m107) (by rw [hf 108 (by decide) (by decide)]; exact m108) (by rw [hf 110 (by decide) (by decide)]; exact m110)
theorem MOK.doe {G : zG} {ad : Nat → Nat} {w w' : Nat → va_E} {σ : zS} (h : MOK G ad w σ) (hf : ∀ j, j ≠ 102 → j ≠ 103 → j ≠ 104 → j ≠ 105 → w' j = w j) (h2 : ∃ f, w' 102 = eL G 48 f) (h3 : ∃ f, w' 103 = eL G 48 f) (h4 : ∃ f, w' 104 = eL G 48 f) (h5 : ∃ f, w' 105 = eL G 4 f) : MOK G ad w' σ := by
  obtain ⟨-, -, -, -, -, -, -, -, -, -, -, -, -, -, m106, m107, m108, -, m110⟩ := id h
  exact h.gen (fun j a1 a2 a3 a4 a5 a6 a7 a8 a9 a10 => hf j a3 a4 a5 a6) h2 h3 h4 h5 (by rw [hf 106 (by decide) (by decide) (by decide) (by decide)]; exact m106) (by rw [hf 107 (by decide) (by decide) (by decide) (by decide)]; exact m107) (by rw [hf 108 (by decide) (by decide) (by decide) (by decide)]; exact m108) (by rw [hf 110 (by decide) (by decide) (by decide) (by decide)]; exact m110)
/-- a form's numbers in the model's row of all -/
theorem MOK.ser {G : zG} {ad : Nat → Nat} {w : Nat → va_E} {σ : zS} (h : MOK G ad w σ) {i : Nat} (hi : i < sH σ) : ∃ f, w 93 = eL G 768 f ∧ ∀ q, q < 48 → f (48 * i + q) = lN (sE σ i q) := by
  obtain ⟨-, ⟨f, h1, h2⟩, -⟩ := h
  exact ⟨f, h1, h2 i hi⟩
theorem slp_eq {k : Nat} {a : Nat → Nat} {n : Nat} : (n * a n + (1000003 - k * invM 12 % 1000003) * mulS a e2S n) % 1000003 = slpS k a n := by
  unfold slpS zm
  rw [mulS_comm a e2S]
  have h1 := Nat.mod_lt (k * invM 12) (show 0 < 1000003 by decide)
  generalize k * invM 12 % 1000003 = s at h1 ⊢
  have h2 : (1000003 - s) * mulS e2S a n = 1000003 * mulS e2S a n - s * mulS e2S a n := Nat.sub_mul _ _ _
  have h3 : s * mulS e2S a n ≤ 1000003 * mulS e2S a n := Nat.mul_le_mul_right _ (by omega)
  rw [h2]
  generalize s * mulS e2S a n = X at h3 ⊢
  generalize n * a n = Y
  omega
theorem add_eq {x y : Int32} {a b : Nat → Nat} {n : Nat} : (zm x.toInt * a n + zm y.toInt * b n) % 1000003 = addS x y a b n := by
  unfold addS
  have hx := fm_nn x.toInt
  have hy := fm_nn y.toInt
  have ex : x.toInt = 1000003 * (x.toInt / 1000003) + (zm x.toInt : Nat) := by unfold zm; omega
  have ey : y.toInt = 1000003 * (y.toInt / 1000003) + (zm y.toInt : Nat) := by unfold zm; omega
  generalize zm x.toInt = p at ex ⊢
  generalize zm y.toInt = q at ey ⊢
  generalize x.toInt / 1000003 = u at ex
  generalize y.toInt / 1000003 = v at ey
  rw [ex, ey]
  have e3 : (1000003 * u + (p : Nat)) * (a n : Int) + (1000003 * v + (q : Nat)) * (b n : Int) = 1000003 * (u * (a n : Int) + v * (b n : Int)) + ((p * a n + q * b n : Nat) : Int) := by
    rw [Int.natCast_add, Int.natCast_mul, Int.natCast_mul]
    grind
  rw [e3]
  generalize u * (a n : Int) + v * (b n : Int) = Z
  generalize p * a n + q * b n = Y
  unfold zm
  omega
theorem isF_rng {x : Int32} {N : Nat} (hN : N ≤ 2147483647) : isF N x ↔ 0 ≤ x.toInt ∧ x.toInt ≤ (N : Int) - 1 := by
  constructor
  · rintro ⟨j, h1, rfl⟩
    rw [nI_toInt (by omega)]
    omega
  · intro h
    obtain ⟨j, hj, rfl⟩ := nI_of (x := x) (fun z => by rw [Int32.lt_iff_toInt_lt] at z; exact absurd h.1 (Int.not_le.mpr z))
    rw [nI_toInt hj] at h
    exact ⟨j, by omega, rfl⟩
