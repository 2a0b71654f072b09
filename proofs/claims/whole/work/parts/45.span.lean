/-! ===== parts are told by the first numbers; what stands in the span ===== -/
/-- 0 ahead of place i, 1 at it -/
def ld (a : Nat → Nat) (i : Nat) : Prop := (∀ n, n < i → a n = 0) ∧ a i = 1
theorem sm_one {f : Nat → Nat} {i : Nat} : ∀ {n : Nat}, i < n → (∀ t, t < n → t ≠ i → f t = 0) → sm f n = f i
  | 0, h, _ => absurd h (Nat.not_lt_zero _)
  | n + 1, h, h2 => by
    by_cases q : i = n
    · subst q
      show sm f i + f i = f i
      rw [sm_zero (fun t ht => h2 t (by omega) (by omega)), Nat.zero_add]
    · show sm f n + f n = f i
      rw [sm_one (n := n) (by omega) (fun t ht hne => h2 t (by omega) hne), h2 n (by omega) (Ne.symm q), Nat.add_zero]
theorem ld_mul {a b : Nat → Nat} {i j : Nat} (ha : ld a i) (hb : ld b j) : ld (mulS a b) (i + j) := by
  constructor
  · intro n hn
    rw [mulS_sm, sm_zero (fun t ht => ?_)]
    by_cases q : t < i
    · rw [ha.1 t q, Nat.zero_mul]
    · rw [hb.1 (n - t) (by omega), Nat.mul_zero]
  · rw [mulS_sm, sm_one (i := i) (by omega) (fun t ht hne => ?_), ha.2, show i + j - i = j by omega, hb.2]
    by_cases q : t < i
    · rw [ha.1 t q, Nat.zero_mul]
    · rw [hb.1 (i + j - t) (by omega), Nat.mul_zero]
theorem ld_one : ld oneS 0 := ⟨fun n h => absurd h (Nat.not_lt_zero n), rfl⟩
theorem ld_pow {a : Nat → Nat} {i : Nat} (ha : ld a i) : ∀ e, ld (powS a e) (i * e)
  | 0 => by rw [Nat.mul_zero]; exact ld_one
  | e + 1 => by rw [Nat.mul_succ]; exact ld_mul (ld_pow ha e) ha
theorem ld_sums (c e : Nat) : ld (sumsS c e) 0 := ⟨fun n h => absurd h (Nat.not_lt_zero n), rfl⟩
theorem ld_onc : ∀ k, ld (oncS k) 0
  | 0 => ld_one
  | k + 1 => ld_mul (i := 0) (j := 0) (ld_onc k) ⟨fun n h => absurd h (Nat.not_lt_zero n), rfl⟩
theorem ld_d : ld dS 1 := ld_mul (i := 1) (j := 0) ⟨fun n h => by rw [show n = 0 by omega]; rfl, rfl⟩ (by have := ld_pow (ld_onc 47) 24; rw [Nat.zero_mul] at this; exact this)
theorem ld_bas (k i : Nat) : ld (bas k i) i := by
  have h1 := ld_pow ld_d i
  have h2 := ld_pow (ld_sums 240 3) (aE k i)
  have h3 := ld_pow (ld_sums 999499 5) (bE k i)
  rw [Nat.one_mul] at h1
  rw [Nat.zero_mul] at h2 h3
  exact ld_mul (j := 0) (ld_mul (j := 0) h1 h2) h3
/-- rows that begin so -/
def tri (b : Nat → Nat → Nat) : Prop := ∀ i, ld (b i) i
theorem thn_sum {b : Nat → Nat → Nat} {v : Nat → Nat} {n : Nat} : ∀ t, (∀ i, i < t → v i < 1000003) → (thn b v t n + sm (fun j => prt b v j * b j n) t) % 1000003 = v n % 1000003
  | 0, _ => rfl
  | t + 1, h => by
    have ih := thn_sum (b := b) (v := v) (n := n) t (fun i hi => h i (by omega))
    have hp : thn b v t t < 1000003 := thn_lt (h t (by omega)) t
    show ((thn b v t n + (1000003 - thn b v t t) * b t n) % 1000003 + (sm (fun j => prt b v j * b j n) t + thn b v t t * b t n)) % 1000003 = _
    rw [← ih]
    have h1 : (1000003 - thn b v t t) * b t n = 1000003 * b t n - thn b v t t * b t n := Nat.sub_mul _ _ _
    have h2 : thn b v t t * b t n ≤ 1000003 * b t n := Nat.mul_le_mul_right _ (by omega)
    rw [h1]
    generalize thn b v t t * b t n = X at h2 ⊢
    generalize sm (fun j => prt b v j * b j n) t = S
    omega
theorem thn_0 {b : Nat → Nat → Nat} (hb : tri b) {v : Nat → Nat} {n : Nat} (hv : v n < 1000003) : ∀ t, n < t → thn b v t n = 0
  | 0, h => absurd h (Nat.not_lt_zero _)
  | t + 1, h => by
    show (thn b v t n + (1000003 - thn b v t t) * b t n) % 1000003 = 0
    by_cases q : n = t
    · subst q
      have hp : thn b v n n < 1000003 := thn_lt hv n
      rw [(hb n).2, Nat.mul_one]
      omega
    · rw [thn_0 hb hv t (by omega), (hb t).1 n (by omega), Nat.mul_zero]
/-- what is built of the parts has the first numbers -/
theorem bld_first {b : Nat → Nat → Nat} (hb : tri b) {v : Nat → Nat} {z n : Nat} (hv : ∀ i, i < z → v i < 1000003) (hn : n < z) : bld b z (prt b v) n = v n := by
  have h := thn_sum (b := b) (v := v) (n := n) z hv
  rw [thn_0 hb (hv n hn) z hn, Nat.zero_add, Nat.mod_eq_of_lt (hv n hn)] at h
  exact h
/-- parts are told by what they build -/
theorem prt_one {b : Nat → Nat → Nat} (hb : tri b) {p q : Nat → Nat} {z : Nat} (hp : ∀ i, i < z → p i < 1000003) (hq : ∀ i, i < z → q i < 1000003) (h : ∀ n, n < z → sm (fun j => p j * b j n) z % 1000003 = sm (fun j => q j * b j n) z % 1000003) : ∀ i, i < z → p i = q i := by
  intro i
  induction i using Nat.strongRecOn with
  | ind i ih =>
    intro hi
    have hs : ∀ r : Nat → Nat, sm (fun j => r j * b j i) z = sm (fun j => r j * b j i) i + r i := by
      intro r
      have : ∀ t, i < t → t ≤ z → sm (fun j => r j * b j i) t = sm (fun j => r j * b j i) i + r i := by
        intro t
        induction t with
        | zero => intro h; omega
        | succ t iht =>
          intro h1 h2
          show sm (fun j => r j * b j i) t + r t * b t i = _
          by_cases q : i = t
          · subst q; rw [(hb i).2, Nat.mul_one]
          · rw [iht (by omega) (by omega), (hb t).1 i (by omega), Nat.mul_zero, Nat.add_zero]
      exact this z hi (Nat.le_refl z)
    have h1 := h i hi
    rw [hs p, hs q, sm_congr (f := fun j => p j * b j i) (g := fun j => q j * b j i) (fun t ht => by rw [ih t ht (by omega)])] at h1
    have := hp i hi
    have := hq i hi
    generalize sm (fun j => q j * b j i) i = S at h1
    omega
def inSp (k : Nat) (a : Nat → Nat) : Prop := ∃ q : Nat → Nat, ∀ n, n < 48 → a n = sm (fun j => q j * bas k j n) (zs k) % 1000003
theorem tri_bas (k : Nat) : tri (bas k) := fun i => ld_bas k i
theorem sm_qmod (q : Nat → Nat) (b : Nat → Nat → Nat) (n z : Nat) : sm (fun j => q j % 1000003 * b j n) z % 1000003 = sm (fun j => q j * b j n) z % 1000003 := by
  apply sm_modc
  intro i _
  rw [Nat.mul_mod, Nat.mod_mod, ← Nat.mul_mod]
theorem zs48 (k : Nat) : zs k ≤ 48 := by
  unfold zs
  rcases Nat.lt_or_ge (k / 2) 21 with h | h
  · have : ∀ i, i < 21 → szT.getD i 0 ≤ 48 := by decide
    exact this _ h
  · have h1 : szT[k / 2]? = none := List.getElem?_eq_none h
    unfold List.getD
    rw [h1]
    exact Nat.zero_le _
/-- what stands in the span is built of its own parts -/
theorem inSp_prt {k : Nat} {a : Nat → Nat} (h : inSp k a)   : ∃ q : Nat → Nat, (∀ i, i < zs k → prt (bas k) a i = q i % 1000003) ∧ ∀ n, n < 48 → a n = sm (fun j => q j * bas k j n) (zs k) % 1000003 := by
  obtain ⟨q, hq⟩ := h
  have hz := zs48 k
  have hv : ∀ i, i < zs k → a i < 1000003 := fun i hi => by rw [hq i (by omega)]; exact Nat.mod_lt _ (by decide)
  refine ⟨q, ?_, hq⟩
  apply prt_one (tri_bas k) (fun i hi => prt_lt (hv i hi)) (fun i _ => Nat.mod_lt _ (by decide))
  intro n hn
  have h1 := bld_first (tri_bas k) (v := a) (z := zs k) hv hn
  unfold bld at h1
  rw [h1, sm_qmod, hq n (by omega)]
theorem inSp_spn {k : Nat} {a : Nat → Nat} (h : inSp k a) : spn k a := by
  obtain ⟨q, h1, h2⟩ := inSp_prt h
  intro n hn
  unfold bld
  rw [sm_congr (f := fun i => prt (bas k) a i * bas k i n) (g := fun i => q i % 1000003 * bas k i n) (fun i hi => by rw [h1 i hi]), sm_qmod]
  exact h2 n hn
theorem spn_sp {k : Nat} {a : Nat → Nat} (h : spn k a) : inSp k a := ⟨_, h⟩
theorem inSp_bld (k : Nat) (p : Nat → Nat) : inSp k (bld (bas k) (zs k) p) := ⟨p, fun _ _ => rfl⟩
/-- a multiple of what stands in the span, told by its first numbers -/
theorem bld_mul {k : Nat} {a v : Nat → Nat} {L : Nat} (ha : spn k a) (hv : ∀ i, i < zs k → v i = L * a i % 1000003) : ∀ n, n < 48 → bld (bas k) (zs k) (prt (bas k) v) n = L * a n % 1000003 := by
  have hz := zs48 k
  have hvl : ∀ i, i < zs k → v i < 1000003 := fun i hi => by rw [hv i hi]; exact Nat.mod_lt _ (by decide)
  have key : ∀ i, i < zs k → prt (bas k) v i = L * prt (bas k) a i % 1000003 := by
    apply prt_one (tri_bas k) (fun i hi => prt_lt (hvl i hi)) (fun i _ => Nat.mod_lt _ (by decide))
    intro n hn
    have h1 := bld_first (tri_bas k) (v := v) (z := zs k) hvl hn
    unfold bld at h1
    rw [h1, sm_qmod (fun i => L * prt (bas k) a i), hv n hn, ha n (by omega)]
    unfold bld
    rw [Nat.mul_mod, Nat.mod_mod, ← Nat.mul_mod, ← sm_mul]
    congr 1
    exact sm_congr (fun i _ => by rw [Nat.mul_assoc])
  intro n hn
  unfold bld
  rw [sm_congr (f := fun i => prt (bas k) v i * bas k i n) (g := fun i => L * prt (bas k) a i % 1000003 * bas k i n) (fun i hi => by rw [key i hi]), sm_qmod (fun i => L * prt (bas k) a i)]
  have h2 := ha n hn
  unfold bld at h2
  rw [h2, Nat.mul_mod L, Nat.mod_mod, ← Nat.mul_mod, ← sm_mul]
  congr 1
  exact sm_congr (fun i _ => by rw [Nat.mul_assoc])
theorem least_zs {k : Nat} {a : Nat → Nat} {j : Nat} (ha : spn k a) (hj : isLeast a j) : j < zs k := by
  rcases Nat.lt_or_ge j (zs k) with h | h
  · exact h
  · exfalso
    have hz : ∀ i, i < zs k → a i = 0 := fun i hi => hj.2.2 i (by omega)
    have h1 := bld_mul (v := fun _ => 0) (L := 0) ha (fun i _ => by rw [Nat.zero_mul]) j hj.1
    have h2 : ∀ i, i < zs k → prt (bas k) a i = prt (bas k) (fun _ => 0) i := by
      apply prt_one (tri_bas k) (fun i hi => prt_lt (by rw [hz i hi]; decide)) (fun i hi => prt_lt (by decide))
      intro n hn
      have e1 := bld_first (tri_bas k) (v := a) (z := zs k) (fun i hi => by rw [hz i hi]; decide) hn
      have e2 := bld_first (tri_bas k) (v := fun _ => 0) (z := zs k) (fun i hi => by decide) hn
      unfold bld at e1 e2
      rw [e1, e2, hz n hn]
    have h3 := ha j hj.1
    unfold bld at h3 h1
    rw [sm_congr (f := fun i => prt (bas k) a i * bas k i j) (g := fun i => prt (bas k) (fun _ => 0) i * bas k i j) (fun i hi => by rw [h2 i hi]), h1, Nat.zero_mul] at h3
    exact hj.2.1 h3
/-- the model's answer to own is the class's -/
theorem own_yes {k p : Nat} {a : Nat → Nat} {j : Nat} (ha : spn k a) (hj : isLeast a j) (h : ∀ n, n < 48 → prmS k p a n = prmS k p a j * invM (a j) % 1000003 * a n % 1000003) : ratR (imgS k p a) a (zs k) (nI (prmS k p a j * invM (a j) % 1000003)) := by
  have hz := zs48 k
  have hf : ∀ n, n < zs k → prmS k p a n = imgS k p a n := fun n hn => bld_first (tri_bas k) (fun i _ => imgS_lt _ _ _ _) hn
  have hjz := least_zs ha hj
  refine Or.inl ⟨j, hj, hjz, by rw [hf j hjz], fun i hi => ?_⟩
  rw [← hf i hi, ← hf j hjz]
  exact h i (by omega)
theorem own_no {k p : Nat} {a : Nat → Nat} {j n : Nat} (ha : spn k a) (hj : isLeast a j) (hn : n < 48) (h : prmS k p a n ≠ prmS k p a j * invM (a j) % 1000003 * a n % 1000003) : ratR (imgS k p a) a (zs k) (-1) := by
  have hf : ∀ n, n < zs k → prmS k p a n = imgS k p a n := fun n hn => bld_first (tri_bas k) (fun i _ => imgS_lt _ _ _ _) hn
  have hjz := least_zs ha hj
  rw [hf j hjz] at h
  refine Or.inr ⟨rfl, Or.inr ⟨j, hj, Or.inr ?_⟩⟩
  apply Classical.byContradiction
  intro hc
  apply h
  exact bld_mul ha (fun i hi => Classical.byContradiction (fun z => hc ⟨i, hi, z⟩)) n hn
