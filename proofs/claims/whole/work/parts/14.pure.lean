/-! ===== series: what both sides compute ===== -/
def isL (G : zG) (w : Nat → va_E) (k N : Nat) (a : Nat → Nat) : Prop := ∃ f : Nat → Int64, w k = eL G N f ∧ ∀ i, i < N → f i = lN (a i)
def sM (a : Nat → Nat) : Prop := ∀ i, i < 48 → a i < 1000003
def cv (a b : Nat → Nat) (n : Nat) : Nat → Nat
  | 0 => 0
  | t + 1 => cv a b n t + a t * b (n - t)
def mulS (a b : Nat → Nat) (n : Nat) : Nat := cv a b n (n + 1) % 1000003
theorem mul_lt {x y : Nat} (hx : x < 1000003) (hy : y < 1000003) : x * y < 1000006000009 := by
  have h1 : x * y ≤ 1000002 * 1000002 := Nat.mul_le_mul (by omega) (by omega)
  omega
theorem cv_lt {a b : Nat → Nat} {n : Nat} (ha : sM a) (hb : sM b) (hn : n < 48) : ∀ t, t ≤ n + 1 → cv a b n t ≤ t * 1000006000009
  | 0, _ => Nat.zero_le _
  | t + 1, h => by
    have h1 := cv_lt ha hb hn t (by omega)
    have h2 := mul_lt (ha t (by omega)) (hb (n - t) (by omega))
    unfold cv
    omega
theorem mulS_lt (a b : Nat → Nat) (n : Nat) : mulS a b n < 1000003 := Nat.mod_lt _ (by decide)
theorem eL_inj {G : zG} {n n' : Nat} {f f' : Nat → Int64} (h : eL G n f = eL G n' f') : f = f' := by
  unfold eL at h
  simp at h
  exact h.2
theorem eI_inj {G : zG} {n n' : Nat} {f f' : Nat → Int32} (h : eI G n f = eI G n' f') : f = f' := by
  unfold eI at h
  simp at h
  exact h.2
theorem rd_alias {G : zG} {w w2 : Nat → va_E} {ka kr N k : Nat} {fa fr f : Nat → Int64} (ha : w ka = eL G N fa) (hr : w kr = eL G N fr) (h1 : ∀ j, j ≠ kr → w2 j = w j) (h2 : w2 kr = eL G N f) (h3 : ∀ i, i < k → f i = fr i) : ∃ g, w2 ka = eL G N g ∧ ∀ i, i < k → g i = fa i := by
  by_cases e : ka = kr
  · subst e
    have : fa = fr := eL_inj (ha.symm.trans hr)
    subst this
    exact ⟨f, h2, h3⟩
  · exact ⟨fa, by rw [h1 ka e]; exact ha, fun _ _ => rfl⟩
theorem up_s {α : Type} {f : Nat → α} {k : Nat} {v : α} : va_up f k v k = v := va_up_self f k v
theorem up_n {α : Type} {f : Nat → α} {k j : Nat} {v : α} (h : j ≠ k) : va_up f k v j = f j := by simp [va_up, h]
