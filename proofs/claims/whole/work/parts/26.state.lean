/-! ===== the state that both sides hold, and what each call does to it ===== -/
/-- forms held; their weights, kinds, what was told of them, their series; refusals; the row's length, if it is there, and its numbers -/
abbrev zS : Type := Nat × (Nat → Nat) × (Nat → Nat) × (Nat → Nat) × (Nat → Nat → Nat) × (Nat → Int32) × Option Nat × (Nat → Nat)
def sH (σ : zS) : Nat := σ.1
def sW (σ : zS) : Nat → Nat := σ.2.1
def sK (σ : zS) : Nat → Nat := σ.2.2.1
def sT (σ : zS) : Nat → Nat := σ.2.2.2.1
def sE (σ : zS) : Nat → Nat → Nat := σ.2.2.2.2.1
def sF (σ : zS) : Nat → Int32 := σ.2.2.2.2.2.1
def sR (σ : zS) : Option Nat := σ.2.2.2.2.2.2.1
def sV (σ : zS) : Nat → Nat := σ.2.2.2.2.2.2.2
noncomputable def cif {α : Type} (P : Prop) (a b : α) : α := @ite α P (Classical.propDecidable P) a b
theorem cif_t {α : Type} {P : Prop} {a b : α} (h : P) : cif P a b = a := if_pos h
theorem cif_f {α : Type} {P : Prop} {a b : α} (h : ¬ P) : cif P a b = b := if_neg h
noncomputable def theI (R : Int32 → Prop) : Int32 := Classical.epsilon R
theorem theI_eq {R : Int32 → Prop} {r : Int32} (h : R r) (u : ∀ a b, R a → R b → a = b) : r = theI R := u _ _ h (Classical.epsilon_spec ⟨r, h⟩)
def isF (h : Nat) (x : Int32) : Prop := ∃ j, j < h ∧ x = nI j
def cN (x : Int32) : Nat := x.toNatClampNeg
theorem cN_nI {j : Nat} (h : j < 2 ^ 31) : cN (nI j) = j := nI_clamp h
def rlI : Option Nat → Int32
  | none => -1
  | some n => nI n
/-- a refusal: counted -/
def ref (σ : zS) (c : Nat) : Int32 × zS := (-(nI c), sH σ, sW σ, sK σ, sT σ, sE σ, upd (sF σ) c (sF σ c + 1), sR σ, sV σ)
def push (σ : zS) (k kd td : Nat) (a : Nat → Nat) : zS := (sH σ + 1, va_up (sW σ) (sH σ) k, va_up (sK σ) (sH σ) kd, va_up (sT σ) (sH σ) td, va_up (sE σ) (sH σ) a, sF σ, sR σ, sV σ)
def come (σ : zS) (k kd td : Nat) (a : Nat → Nat) : Int32 × zS := if sH σ < 16 ∧ k ≤ 40 then (nI (sH σ), push σ k kd td a) else ref σ 8
def knd (k : Nat) (a : Nat → Nat) : Nat := if k = 0 then 3 else if a 0 = 0 then 4 else 0
def comeO (σ : zS) (k : Nat) (a : Nat → Nat) : Int32 × zS := come σ k (knd k a) 0 a
def spn (k : Nat) (a : Nat → Nat) : Prop := ∀ n, n < 48 → a n = bld (bas k) (zs k) (prt (bas k) a) n
def FOK (k kd td : Nat) (a : Nat → Nat) : Prop := k ≤ 40 ∧ k % 2 = 0 ∧ kd ≤ 4 ∧ td ≤ 40 ∧ red a ∧ spn k a
def SOK (σ : zS) : Prop := sH σ ≤ 16 ∧ (∀ i, i < sH σ → FOK (sW σ i) (sK σ i) (sT σ i) (sE σ i)) ∧ ∀ m, sR σ = some m → m ≤ 48 ∧ ∀ i, i < m → sV σ i < 1000003
theorem SOK.ref1 {σ : zS} (h : SOK σ) (c : Nat) : SOK (ref σ c).2 := h
theorem SOK.push1 {σ : zS} (h : SOK σ) {k kd td : Nat} {a : Nat → Nat} (hh : sH σ < 16) (hF : FOK k kd td a) : SOK (push σ k kd td a) := by
  refine ⟨Nat.succ_le_of_lt hh, fun i hi => ?_, h.2.2⟩
  show FOK (va_up (sW σ) (sH σ) k i) (va_up (sK σ) (sH σ) kd i) (va_up (sT σ) (sH σ) td i) (va_up (sE σ) (sH σ) a i)
  by_cases q : i = sH σ
  · subst q
    rw [up_s, up_s, up_s, up_s]
    exact hF
  · rw [up_n q, up_n q, up_n q, up_n q]
    have hi : i < sH σ + 1 := hi
    exact h.2.1 i (by omega)
theorem SOK.come1 {σ : zS} (h : SOK σ) {k kd td : Nat} {a : Nat → Nat} (hF : k ≤ 40 → FOK k kd td a) : SOK (come σ k kd td a).2 := by
  unfold come
  split
  · rename_i q
    exact h.push1 q.1 (hF q.2)
  · exact h.ref1 8
theorem knd_le (k : Nat) (a : Nat → Nat) : knd k a ≤ 4 := by
  unfold knd
  split
  · decide
  · split <;> decide
theorem SOK.comeO1 {σ : zS} (h : SOK σ) {k : Nat} {a : Nat → Nat} (hF : k ≤ 40 → k % 2 = 0 ∧ red a ∧ spn k a) : SOK (comeO σ k a).2 :=
  h.come1 (fun q => ⟨q, (hF q).1, knd_le k a, by decide, (hF q).2.1, (hF q).2.2⟩)
/-! ===== the class's cells ===== -/
def XOK (G : zG) (ad : Nat → Nat) (w : Nat → va_E) (σ : zS) : Prop :=
  (∃ nf, BOK G ad w nf nf) ∧
  w 0 = eO 2 [.ref (ad 1), .int (nI (sH σ)), .ref (ad 2), .ref (ad 55), .ref (ad 56), .ref (ad 57), .ref (ad 58), .int (rlI (sR σ)), .ref (ad 59)] ∧
  (∃ f : Nat → Option Nat, w 1 = eF G 16 f ∧ ∀ i, i < 16 → f i = some (ad (60 + 2 * i))) ∧
  (∃ f, w 55 = eL G 4 f) ∧ (∃ f, w 56 = eL G 4 f) ∧ (∃ f, w 57 = eI G 100 f) ∧
  (∃ f : Nat → Int64, w 58 = eL G 48 f ∧ ∀ i, i < (sR σ).getD 0 → f i = lN (sV σ i)) ∧
  (∃ f : Nat → Int32, w 59 = eI G 9 f ∧ ∀ i, 2 ≤ i → i < 9 → f i = sF σ i) ∧
  (∀ i, i < 16 → ∃ (x y z : Int32) (f : Nat → Int64), w (60 + 2 * i) = eO 1 [.ref (ad (61 + 2 * i)), .int x, .int y, .int z] ∧ w (61 + 2 * i) = eL G 48 f ∧ (i < sH σ → x = nI (sW σ i) ∧ y = nI (sK σ i) ∧ z = nI (sT σ i) ∧ ∀ j, j < 48 → f j = lN (sE σ i j)))
/-- a form that is held -/
theorem XOK.form {G : zG} {ad : Nat → Nat} {w : Nat → va_E} {σ : zS} (h : XOK G ad w σ) (hs : SOK σ) {i : Nat} (hi : i < sH σ) : w (60 + 2 * i) = eO 1 [.ref (ad (61 + 2 * i)), .int (nI (sW σ i)), .int (nI (sK σ i)), .int (nI (sT σ i))] ∧ isL G w (61 + 2 * i) 48 (sE σ i) := by
  obtain ⟨x, y, z, f, h1, h2, h3⟩ := h.2.2.2.2.2.2.2.2 i (by have := hs.1; omega)
  obtain ⟨rfl, rfl, rfl, h4⟩ := h3 hi
  exact ⟨h1, f, h2, h4⟩
/-- the place of the form to come -/
theorem XOK.free {G : zG} {ad : Nat → Nat} {w : Nat → va_E} {σ : zS} (h : XOK G ad w σ) {i : Nat} (hi : i < 16) : ∃ (x y z : Int32) (f : Nat → Int64), w (60 + 2 * i) = eO 1 [.ref (ad (61 + 2 * i)), .int x, .int y, .int z] ∧ w (61 + 2 * i) = eL G 48 f := by
  obtain ⟨x, y, z, f, h1, h2, -⟩ := h.2.2.2.2.2.2.2.2 i hi
  exact ⟨x, y, z, f, h1, h2⟩
/-- scratch cells, bases and the place of the form to come may change -/
theorem XOK.gen {G : zG} {ad : Nat → Nat} {w w' : Nat → va_E} {σ : zS} (h : XOK G ad w σ) (hB : ∃ nf, BOK G ad w' nf nf) (h55 : ∃ f, w' 55 = eL G 4 f) (h56 : ∃ f, w' 56 = eL G 4 f) (h57 : ∃ f, w' 57 = eI G 100 f) (hn : ∀ i, i < 16 → i = sH σ → ∃ f, w' (61 + 2 * i) = eL G 48 f)
    (hk : ∀ j, (j < 2 ∨ 58 ≤ j) → j ≠ 61 + 2 * sH σ → w' j = w j) : XOK G ad w' σ := by
  obtain ⟨-, x0, x1, -, -, -, x58, x59, xf⟩ := h
  refine ⟨hB, by rw [hk 0 (by omega) (by omega)]; exact x0, by rw [hk 1 (by omega) (by omega)]; exact x1, h55, h56, h57, by rw [hk 58 (by omega) (by omega)]; exact x58, by rw [hk 59 (by omega) (by omega)]; exact x59, fun i hi => ?_⟩
  obtain ⟨x, y, z, f, h1, h2, h3⟩ := xf i hi
  by_cases q : i = sH σ
  · obtain ⟨g, hg⟩ := hn i hi q
    exact ⟨x, y, z, g, by rw [hk _ (by omega) (by omega)]; exact h1, hg, fun r => by omega⟩
  · exact ⟨x, y, z, f, by rw [hk _ (by omega) (by omega)]; exact h1, by rw [hk _ (by omega) (by omega)]; exact h2, h3⟩
/-- the numbers of the form to come are written -/
theorem XOK.num {G : zG} {ad : Nat → Nat} {w w' : Nat → va_E} {σ : zS} (h : XOK G ad w σ) (hn : ∃ f, w' (61 + 2 * sH σ) = eL G 48 f) (hk : ∀ j, j ≠ 61 + 2 * sH σ → w' j = w j) : XOK G ad w' σ := by
  refine h.gen ?_ ?_ ?_ ?_ (fun i hi q => by rw [q]; exact hn) (fun j _ h2 => hk j h2)
  · obtain ⟨nf, hB⟩ := h.1
    exact ⟨nf, hB.keep (fun j h1 h2 => hk j (by omega))⟩
  · rw [hk 55 (by omega)]; exact h.2.2.2.1
  · rw [hk 56 (by omega)]; exact h.2.2.2.2.1
  · rw [hk 57 (by omega)]; exact h.2.2.2.2.2.1
def postX (G : zG) (ad : Nat → Nat) (w : Nat → va_E) (S : Int32 × zS) (r : Int32) (w' : Nat → va_E) : Prop := r = S.1 ∧ XOK G ad w' S.2 ∧ ∀ j, 92 ≤ j → w' j = w j
