/-! ===== what each call answers, and the state behind it ===== -/
theorem comeO_full {σ : zS} {k : Nat} {a : Nat → Nat} (h : ¬ (sH σ < 16 ∧ k ≤ 40)) : comeO σ k a = ref σ 8 := by unfold comeO come; rw [if_neg h]
theorem come_full {σ : zS} {k kd td : Nat} {a : Nat → Nat} (h : ¬ (sH σ < 16 ∧ k ≤ 40)) : come σ k kd td a = ref σ 8 := by unfold come; rw [if_neg h]
theorem come_ok {σ : zS} {k kd td : Nat} {a : Nat → Nat} (h : sH σ < 16) (h2 : k ≤ 40) : come σ k kd td a = (nI (sH σ), push σ k kd td a) := by unfold come; rw [if_pos ⟨h, h2⟩]
def isW (x : Int32) : Prop := ∃ k, k ≤ 40 ∧ k % 2 = 0 ∧ x = nI k
def isP (x : Int32) : Prop := ∃ p, (p = 2 ∨ p = 3 ∨ p = 5 ∨ p = 7 ∨ p = 11) ∧ x = nI p
def smc (k : Nat) : Nat := if k = 4 then 240 else if k = 6 then 999499 else if k = 8 then 480 else if k = 10 then 999739 else if k = 12 then 65520 * invM 691 % 1000003 else if k = 14 then 999979 else 0
def isSm (x : Int32) : Prop := ∃ k, (k = 4 ∨ k = 6 ∨ k = 8 ∨ k = 10 ∨ k = 12 ∨ k = 14) ∧ x = nI k
noncomputable def st_sums (σ : zS) (x : Int32) : Int32 × zS := cif (isSm x) (come σ (cN x) 1 (cN x) (sumsS (smc (cN x)) (cN x - 1))) (ref σ 7)
noncomputable def st_product (σ : zS) (x : Int32) : Int32 × zS := cif (∃ e, 1 ≤ e ∧ e ≤ 3 ∧ x = nI e) (come σ (12 * cN x) 2 (cN x) (powS dS (cN x))) (ref σ 7)
def addS (x y : Int32) (a b : Nat → Nat) (n : Nat) : Nat := zm (x.toInt * (a n : Nat) + y.toInt * (b n : Nat))
noncomputable def st_add (σ : zS) (f x g y : Int32) : Int32 × zS := cif (isF (sH σ) f ∧ isF (sH σ) g) (cif (sW σ (cN f) = sW σ (cN g)) (comeO σ (sW σ (cN f)) (addS x y (sE σ (cN f)) (sE σ (cN g)))) (ref σ 7)) (ref σ 3)
noncomputable def st_times (σ : zS) (f g : Int32) : Int32 × zS := cif (isF (sH σ) f ∧ isF (sH σ) g) (comeO σ (sW σ (cN f) + sW σ (cN g)) (mulS (sE σ (cN f)) (sE σ (cN g)))) (ref σ 3)
noncomputable def st_power (σ : zS) (f e : Int32) : Int32 × zS := cif (isF (sH σ) f) (cif (e < 0) (ref σ 4) (cif (20 < cN e) (ref σ 7) (comeO σ (sW σ (cN f) * cN e) (powS (sE σ (cN f)) (cN e))))) (ref σ 3)
def slpS (k : Nat) (a : Nat → Nat) (n : Nat) : Nat := zm (((n * a n : Nat) : Int) - ((k * invM 12 % 1000003 * mulS e2S a n : Nat) : Int))
noncomputable def st_slope (σ : zS) (f : Int32) : Int32 × zS := cif (isF (sH σ) f) (comeO σ (sW σ (cN f) + 2) (slpS (sW σ (cN f)) (sE σ (cN f)))) (ref σ 3)
noncomputable def st_bracket (σ : zS) (f g : Int32) : Int32 × zS := cif (isF (sH σ) f ∧ isF (sH σ) g) (comeO σ (sW σ (cN f) + sW σ (cN g) + 2) (brS (sW σ (cN f)) (sW σ (cN g)) (sE σ (cN f)) (sE σ (cN g)))) (ref σ 3)
def ovrS (k : Nat) (a : Nat → Nat) : Nat → Nat := bld (bas (k - 12)) (zs (k - 12)) (fun i => prt (bas k) a (i + 1))
noncomputable def st_over (σ : zS) (f : Int32) : Int32 × zS := cif (isF (sH σ) f) (cif (12 ≤ sW σ (cN f) ∧ sE σ (cN f) 0 = 0) (comeO σ (sW σ (cN f) - 12) (ovrS (sW σ (cN f)) (sE σ (cN f)))) (ref σ 7)) (ref σ 3)
def prmS (k p : Nat) (a : Nat → Nat) : Nat → Nat := bld (bas k) (zs k) (prt (bas k) (imgS k p a))
noncomputable def st_prime (σ : zS) (f p : Int32) : Int32 × zS := cif (isF (sH σ) f) (cif (isP p ∧ 4 ≤ sW σ (cN f)) (comeO σ (sW σ (cN f)) (prmS (sW σ (cN f)) (cN p) (sE σ (cN f)))) (ref σ 7)) (ref σ 3)
noncomputable def st_basis (σ : zS) (k i : Int32) : Int32 × zS := cif (isW k) (cif (isF (zs (cN k)) i) (comeO σ (cN k) (bas (cN k) (cN i))) (ref σ 3)) (ref σ 7)
def st_drop (σ : zS) : Int32 × zS := if sH σ = 0 then ref σ 2 else (nI (sH σ - 1), sH σ - 1, sW σ, sK σ, sT σ, sE σ, sF σ, sR σ, sV σ)
noncomputable def st_look (σ : zS) (f x : Int32) : Int32 × zS := cif (isF (sH σ) f) (cif (x = nI 0) (nI (sK σ (cN f)), σ) (cif (x = nI 1) (nI (sW σ (cN f)), σ) (cif (x = nI 2) (theI (lstR (sE σ (cN f))), σ) (cif (x = nI 3) (nI (zs (sW σ (cN f))), σ) (cif (x = nI 4) (cif (sK σ (cN f) = 1 ∨ sK σ (cN f) = 2) (nI (sT σ (cN f)), σ) (ref σ 5)) (ref σ 7)))))) (ref σ 3)
noncomputable def st_at (σ : zS) (f i : Int32) : Int32 × zS := cif (isF (sH σ) f ∧ isF 48 i) (nI (sE σ (cN f) (cN i)), σ) (ref σ 3)
noncomputable def st_part (σ : zS) (f i : Int32) : Int32 × zS := cif (isF (sH σ) f ∧ isF (zs (sW σ (cN f))) i) (nI (prt (bas (sW σ (cN f))) (sE σ (cN f)) (cN i)), σ) (ref σ 3)
noncomputable def st_same (σ : zS) (f g : Int32) : Int32 × zS := cif (isF (sH σ) f ∧ isF (sH σ) g) (cif ((sW σ (cN f) = sW σ (cN g) ∨ ∀ i, i < 48 → sE σ (cN f) i = 0) ∧ ∀ i, i < 48 → sE σ (cN f) i = sE σ (cN g) i) (nI 1, σ) (nI 0, σ)) (ref σ 3)
noncomputable def st_apart (σ : zS) (f g : Int32) : Int32 × zS := cif (isF (sH σ) f ∧ isF (sH σ) g) (cif (sW σ (cN f) = sW σ (cN g)) (theI (unlR (sE σ (cN f)) (sE σ (cN g))), σ) (ref σ 7)) (ref σ 3)
noncomputable def st_size (σ : zS) (k : Int32) : Int32 × zS := cif (isW k) (nI (zs (cN k)), σ) (ref σ 7)
noncomputable def st_own (σ : zS) (f p : Int32) : Int32 × zS := cif (isF (sH σ) f) (cif (isP p ∧ 4 ≤ sW σ (cN f)) (theI (ratR (imgS (sW σ (cN f)) (cN p) (sE σ (cN f))) (sE σ (cN f)) (zs (sW σ (cN f)))), σ) (ref σ 7)) (ref σ 3)
def trS (k p c0 : Nat) : Nat → Nat
  | 0 => 0
  | t + 1 => trS k p c0 t + if c0 ≤ t then prt (bas k) (imgS k p (bas k t)) t else 0
noncomputable def st_trace (σ : zS) (k p : Int32) (c0 : Nat) : Int32 × zS := cif (isW k ∧ 4 ≤ cN k ∧ isP p) (nI (trS (cN k) (cN p) c0 (zs (cN k)) % 1000003), σ) (ref σ 7)
/-- in how many ways m is a sum of so many squares -/
def sqN : Nat → Nat → Nat
  | 0, m => if m = 0 then 1 else 0
  | s + 1, m => sqN s m + 2 * sm (fun r => if 1 ≤ r ∧ r * r ≤ m then sqN s (m - r * r) else 0) 11
noncomputable def st_squares (σ : zS) (s m : Int32) : Int32 × zS := cif ((∃ k, 1 ≤ k ∧ k ≤ 8 ∧ s = nI k) ∧ isF 100 m) (nI (sqN (cN s) (cN m)), σ) (ref σ 7)
def st_count (σ : zS) : Int32 × zS := (nI (sH σ), σ)
noncomputable def st_lay (σ : zS) (f m : Int32) : Int32 × zS := cif (isF (sH σ) f) (cif (m < 0) (ref σ 4) (cif (48 < cN m) (ref σ 7) (m, sH σ, sW σ, sK σ, sT σ, sE σ, sF σ, some (cN m), sE σ (cN f)))) (ref σ 3)
noncomputable def st_tell (σ : zS) (i v : Int32) : Int32 × zS := cif (sR σ = none) (ref σ 2) (cif (isF ((sR σ).getD 0) i) (cif (sV σ (cN i) = zm v.toInt) (nI 0) (nI 1), sH σ, sW σ, sK σ, sT σ, sE σ, sF σ, sR σ, va_up (sV σ) (cN i) (zm v.toInt)) (ref σ 3))
noncomputable def st_give (σ : zS) (k : Int32) : Int32 × zS := cif (sR σ = none) (ref σ 2) (cif (isW k ∧ zs (cN k) ≤ (sR σ).getD 0) (comeO σ (cN k) (bld (bas (cN k)) (zs (cN k)) (prt (bas (cN k)) (sV σ)))) (ref σ 7))
noncomputable def st_tear (σ : zS) : Int32 × zS := (cif (sR σ = none) (nI 0) (nI 1), sH σ, sW σ, sK σ, sT σ, sE σ, sF σ, none, sV σ)
noncomputable def st_row (σ : zS) (i : Int32) : Int32 × zS := cif (sR σ = none) (ref σ 2) (cif (isF ((sR σ).getD 0) i) (nI (sV σ (cN i)), σ) (ref σ 3))
noncomputable def st_copy (σ : zS) (i j m : Int32) : Int32 × zS := cif (sR σ = none) (ref σ 2) (cif (m < 0) (ref σ 4) (cif (0 ≤ i.toInt ∧ 0 ≤ j.toInt ∧ i.toInt + m.toInt ≤ (((sR σ).getD 0 : Nat) : Int) ∧ j.toInt + m.toInt ≤ (((sR σ).getD 0 : Nat) : Int)) (m, sH σ, sW σ, sK σ, sT σ, sE σ, sF σ, sR σ, va_cpy (sV σ) (sV σ) (cN i) (cN j) (cN m)) (ref σ 6)))
noncomputable def st_status (σ : zS) (x : Int32) : Int32 × zS := cif (x ≤ -2 ∧ -8 ≤ x) (sF σ (cN (-x)), σ) (ref σ 7)
theorem ratR_one {b a : Nat → Nat} {z : Nat} (r r' : Int32) (h : ratR b a z r) (h' : ratR b a z r') : r = r' := by
  have key : ∀ r r', ratR b a z r → ratR b a z r' → (∃ j, isLeast a j ∧ j < z ∧ r = nI (b j * invM (a j) % 1000003) ∧ ∀ i, i < z → b i = b j * invM (a j) % 1000003 * a i % 1000003) → r = r' := by
    intro r r' _ h' ⟨j, h1, h2, h3, h4⟩
    rcases h' with ⟨j', g1, g2, g3, g4⟩ | ⟨g1, g2⟩
    · have e := isLeast_one h1 g1
      subst e
      rw [h3, g3]
    · rcases g2 with g2 | ⟨j', g2, g3⟩
      · exact absurd (g2 j h1.1) h1.2.1
      · have e := isLeast_one h1 g2
        subst e
        rcases g3 with g3 | ⟨i, g3, g4⟩
        · omega
        · exact absurd (h4 i g3) g4
  rcases h with h1 | ⟨h1, h2⟩
  · exact key r r' (Or.inl h1) h' h1
  · rcases h' with g1 | ⟨g1, g2⟩
    · exact (key r' r (Or.inl g1) (Or.inr ⟨h1, h2⟩) g1).symm
    · rw [h1, g1]
/-- findParts, join behind the class's own cells -/
theorem XOK.parts {G : zG} {ad : Nat → Nat} {w w' : Nat → va_E} {σ : zS} (h : XOK G ad w σ) {nf : Nat} (hB : BOK G ad w' nf nf) (hk : ∀ j, j ≠ 2 → ¬ (11 ≤ j ∧ j < 55) → j ≠ 55 → w' j = w j) (h55 : ∃ f, w' 55 = eL G 4 f) : XOK G ad w' σ := by
  refine h.gen ⟨nf, hB⟩ h55 ?_ ?_ (fun i hi q => ?_) (fun j h1 h2 => hk j (by omega) (by omega) (by omega))
  · rw [hk 56 (by omega) (by omega) (by omega)]; exact h.2.2.2.2.1
  · rw [hk 57 (by omega) (by omega) (by omega)]; exact h.2.2.2.2.2.1
  · obtain ⟨_, _, _, f, _, h2⟩ := h.free hi
    exact ⟨f, by rw [hk _ (by omega) (by omega) (by omega)]; exact h2⟩
theorem XOK.join1 {G : zG} {ad : Nat → Nat} {w w' : Nat → va_E} {σ : zS} (h : XOK G ad w σ) {nf : Nat} (hB : BOK G ad w' nf nf) (hk : ∀ j, j ≠ 2 → ¬ (11 ≤ j ∧ j < 55) → j ≠ 61 + 2 * sH σ → w' j = w j) (hn : ∃ f, w' (61 + 2 * sH σ) = eL G 48 f) : XOK G ad w' σ := by
  refine h.gen ⟨nf, hB⟩ ?_ ?_ ?_ (fun i hi q => by rw [q]; exact hn) (fun j h1 h2 => hk j (by omega) (by omega) h2)
  · rw [hk 55 (by omega) (by omega) (by omega)]; exact h.2.2.2.1
  · rw [hk 56 (by omega) (by omega) (by omega)]; exact h.2.2.2.2.1
  · rw [hk 57 (by omega) (by omega) (by omega)]; exact h.2.2.2.2.2.1
theorem XOK.img {G : zG} {ad : Nat → Nat} {w w' : Nat → va_E} {σ : zS} (h : XOK G ad w σ) (hk : ∀ j, j ≠ 56 → w' j = w j) (h56 : ∃ f, w' 56 = eL G 4 f) : XOK G ad w' σ := by
  obtain ⟨nf, hB⟩ := h.1
  refine h.gen ⟨nf, hB.keep (fun j q1 q2 => hk j (by omega))⟩ ?_ h56 ?_ (fun i hi q => ?_) (fun j h1 h2 => hk j (by omega))
  · rw [hk 55 (by omega)]; exact h.2.2.2.1
  · rw [hk 57 (by omega)]; exact h.2.2.2.2.2.1
  · obtain ⟨_, _, _, f, _, h2⟩ := h.free hi
    exact ⟨f, by rw [hk _ (by omega)]; exact h2⟩
theorem XOK.rows {G : zG} {ad : Nat → Nat} {w w' : Nat → va_E} {σ : zS} (h : XOK G ad w σ) {nf : Nat} (hB : BOK G ad w' nf nf) (hk : fr1 w w') : XOK G ad w' σ := by
  refine h.gen ⟨nf, hB⟩ ?_ ?_ ?_ (fun i hi q => ?_) (fun j h1 h2 => hk j (by omega) (by omega))
  · rw [hk 55 (by omega) (by omega)]; exact h.2.2.2.1
  · rw [hk 56 (by omega) (by omega)]; exact h.2.2.2.2.1
  · rw [hk 57 (by omega) (by omega)]; exact h.2.2.2.2.2.1
  · obtain ⟨_, _, _, f, _, h2⟩ := h.free hi
    exact ⟨f, by rw [hk _ (by omega) (by omega)]; exact h2⟩
theorem imgS_lt (k p : Nat) (a : Nat → Nat) (n : Nat) : imgS k p a n < 1000003 := Nat.mod_lt _ (by decide)
theorem bld_lt (b : Nat → Nat → Nat) (z : Nat) (p : Nat → Nat) (n : Nat) : bld b z p n < 1000003 := Nat.mod_lt _ (by decide)
theorem isP_rng {p : Nat} (h : p = 2 ∨ p = 3 ∨ p = 5 ∨ p = 7 ∨ p = 11) : 2 ≤ p ∧ p ≤ 11 := by omega
