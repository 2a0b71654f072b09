/-! ===== places that come: cell k stands at ad k = ad 0 + k, the heap's end is the next place ===== -/
def va_AOA (ty : FieldType) (U : State) : Prop := (Cond.arrayOver (.array ty)).before #[] U = true
theorem va_AOA.use {ty : FieldType} {A : Array Value} {U : State} (h : va_AOA ty U) : (Cond.arrayOver (.array ty)).before A U = true := h
theorem aoa_spec {U : State} (h : va_AOA .long U) : ∃ comp c k, U.vm.findClass (FieldType.array .long).toString = some comp ∧ (U.vm.classes.findIdx? fun (x : Class) => match x.kind with | .array component _ => component == comp | _ => false) = some c ∧ U.vm.classes[c]? = some k ∧ k.kind = .array comp (.array .long) ∧ U.vm.findClass ("[" ++ (FieldType.array .long).toString) = some c := by
  unfold va_AOA Cond.before at h
  simp only [Cond.holds, Cond.value, beq_iff_eq] at h
  cases hc : U.vm.findClass (FieldType.array .long).toString with
  | none => simp [hc] at h
  | some comp =>
    rw [hc, Option.bind_some] at h
    cases hi : (U.vm.classes.findIdx? fun (x : Class) => match x.kind with | .array component _ => component == comp | _ => false) with
    | none =>
      have h2 := (congrArg (fun o : Option Nat => (o.bind (fun c => (U.vm.classes[c]?).map fun (k : Class) => match k.kind with | .array _ ty => decide (ty = FieldType.array .long) && decide (U.vm.findClass ("[" ++ (FieldType.array .long).toString) = some c) | _ => false))) hi).symm.trans h
      cases h2
    | some c =>
      have h2 := (congrArg (fun o : Option Nat => (o.bind (fun c => (U.vm.classes[c]?).map fun (k : Class) => match k.kind with | .array _ ty => decide (ty = FieldType.array .long) && decide (U.vm.findClass ("[" ++ (FieldType.array .long).toString) = some c) | _ => false))) hi).symm.trans h
      have h2 : ((U.vm.classes[c]?).map fun (k : Class) => match k.kind with | .array _ ty => decide (ty = FieldType.array .long) && decide (U.vm.findClass ("[" ++ (FieldType.array .long).toString) = some c) | _ => false) = some true := h2
      cases hk : U.vm.classes[c]? with
      | none => rw [hk] at h2; cases h2
      | some k =>
        rw [hk, Option.map_some] at h2
        have h2 := Option.some.inj h2
        have hkk := Array.findIdx?_eq_some_iff_getElem.mp hi
        obtain ⟨hlt, hp, -⟩ := hkk
        have hke : U.vm.classes[c] = k := by
          rw [Array.getElem?_eq_getElem hlt] at hk
          exact Option.some.inj hk
        rw [hke] at hp
        refine ⟨comp, c, k, rfl, hi, hk, ?_, ?_⟩
        · cases hkd : k.kind with
          | array component ty =>
            rw [hkd] at h2 hp
            simp only [Bool.and_eq_true, decide_eq_true_eq] at h2
            simp only [beq_iff_eq] at hp
            rw [h2.1, hp]
          | _ => rw [hkd] at h2; cases h2
        · cases hkd : k.kind with
          | array component ty =>
            rw [hkd] at h2
            simp only [Bool.and_eq_true, decide_eq_true_eq] at h2
            exact h2.2
          | _ => rw [hkd] at h2; cases h2
theorem va_AOA.moved {u U : State} (hvm : u.vm.Alike U.vm) (h : va_AOA .long u) : va_AOA .long U := by
  obtain ⟨comp, c, k, h1, h2, h3, h4, h5⟩ := aoa_spec h
  obtain ⟨k', hk', he⟩ := hvm.2.2 _ _ h3
  have hi : (U.vm.classes.findIdx? fun (x : Class) => match x.kind with | .array component _ => component == comp | _ => false) = some c := by
    have e1 := va_idx_bare U.vm comp
    have e2 := va_idx_bare u.vm comp
    have e3 : U.vm.bare = u.vm.bare := by first | exact hvm.bare_eq | exact hvm.bare_eq.symm
    rw [e3] at e1
    exact e1.symm.trans (e2.trans h2)
  have hkind : k'.kind = .array comp (.array .long) := by rw [he]; exact h4
  have f1 : U.vm.findClass (FieldType.array .long).toString = some comp := by rw [hvm.findClass]; exact h1
  have f2 : U.vm.findClass ("[" ++ (FieldType.array .long).toString) = some c := by rw [hvm.findClass]; exact h5
  unfold va_AOA Cond.before Cond.holds
  simp only [Cond.value]
  rw [f1, Option.bind_some]
  refine (congrArg (fun o : Option Nat => (o.bind (fun c => (U.vm.classes[c]?).map fun (k : Class) => match k.kind with | .array _ ty => decide (ty = FieldType.array .long) && decide (U.vm.findClass ("[" ++ (FieldType.array .long).toString) = some c) | _ => false) == some true)) hi).trans ?_
  simp [hk', hkind, f2]
/-- the words that no contract may have by name -/
def EX (U : State) : Prop := va_AO RX1 U ∧ va_AOA .long U ∧ va_Nw (.methodLinkNest RX4 43 yX1_init "FormSeries") U
theorem EX.warm {s U : State} (hW : s.WarmedH U.vm) (h : EX s) : EX U := ⟨va_AO.moved hW.alike h.1, va_AOA.moved hW.alike h.2.1, va_Nw.warmM hW h.2.2⟩
theorem EX.same {s U : State} (hW : s.vm = U.vm) (h : EX s) : EX U := ⟨va_AO.moved (by rw [hW]; exact Vm.Alike.refl _) h.1, va_AOA.moved (by rw [hW]; exact Vm.Alike.refl _) h.2.1, va_Nw.same rfl hW h.2.2⟩
def lin (ad : Nat → Nat) : Prop := ∀ k, ad k = ad 0 + k
theorem Wo.lo {G : zG} {A : Nat → Prop} {H0 : Heap} {n : Nat} {ad : Nat → Nat} {w : Nat → va_E} {H : Heap} {locs : List Loc} (h : Wo G A H0 n ad w H locs) (hl : lin ad) (hn : 0 < n) : ad n ≤ H.size := by
  have h1 := (h.1 (n - 1) _ (pw_get (by omega))).lt
  have h2 := hl (n - 1)
  have h3 := hl n
  have h1 : ad (n - 1) < H.size := h1
  omega
theorem Wo.grow {G : zG} {A : Nat → Prop} {H0 : Heap} {n n' : Nat} {ad : Nat → Nat} {w w' : Nat → va_E} {H H1 : Heap} {locs : List Loc} (hW : Wo G A H0 n ad w H locs) (hA : ∀ q, H0.size ≤ q → A q) (hl : lin ad) (hq : H.size = ad n) (hz : H.size ≤ H1.size) (hk : ∀ q, q < H.size → H1[q]? = H[q]?) (hat : ∀ k, n ≤ k → k < n' → va_at G.1 zC (ad k, w' k) H1) (hw : ∀ k, k < n → w' k = w k) : Wo G A H0 n' ad w' H1 locs := by
  have hge : ∀ k (x : Nat × va_E), (pw n' ad w')[k]? = some x → k < n' ∧ x = (ad k, w' k) := fun k x hx => by
    by_cases h : k < n'
    · rw [pw_get h] at hx
      exact ⟨h, (Option.some.inj hx).symm⟩
    · rw [List.getElem?_eq_none (by rw [pw_len]; omega)] at hx
      cases hx
  refine ⟨fun k x hx => ?_, ⟨fun i j x y hi hj hxy => ?_, fun k x hx => ?_⟩, ⟨Nat.le_trans hW.2.2.1 hz, fun q h1 h2 => (hk q (Nat.lt_of_lt_of_le h1 hW.2.2.1)).trans (hW.2.2.2.1 q h1 h2), hW.2.2.2.2⟩⟩
  · obtain ⟨h1, rfl⟩ := hge k x hx
    by_cases h : k < n
    · rw [hw k h]
      have h2 := hW.1 k _ (pw_get h)
      exact h2.kept (hk _ h2.lt)
    · exact hat k (by omega) h1
  · obtain ⟨h1, rfl⟩ := hge i x hi
    obtain ⟨h2, rfl⟩ := hge j y hj
    have e1 := hl i
    have e2 := hl j
    have hxy : ad i = ad j := hxy
    omega
  · obtain ⟨h1, rfl⟩ := hge k x hx
    by_cases h : k < n
    · exact (hW.2.1.2 k (ad k, w k) (pw_get h) : A (ad k))
    · have e1 := hl k
      have e2 := hl n
      have e3 := hW.2.2.1
      exact hA _ (by show H0.size ≤ ad k; omega)
section ZA
variable {p : Program} {l : Launch} {e : Env} {R : Room} {s : State} {m : MethodId} {args : Array Value} {below : List Frame} {meth : Method} {c : Code} {H : Heap} {locs : List Loc} {cells slots cells' slots' : Nat} {Q : State → Prop}
variable {cc : ByteArray} {pc : Nat} {ls : Array Slot} {rest : List Value} {A : Nat → Prop} {G : zG} {n : Nat} {ad : Nat → Nat} {w : Nat → va_E} {own : String} {nL : Nat}
/-- the heap ends where the next place comes -/
theorem z_end {g : JFrame} (hlo : ad n ≤ H.size) (hsz : s.heap.size + cells = ad n) (kk : H.size = ad n → W p l e R s m args below meth c H locs cells slots Q g) : W p l e R s m args below meth c H locs cells slots Q g := fun T hT X => by
  have h := X.heapSize
  rw [hT] at h
  exact kk (by omega) T hT X
theorem z_newL (B : Bs G p s m args c cc nL own) (hA : ∀ q, s.heap.size ≤ q → A q) (hW : Wo G A s.heap n ad w H locs) (hl : lin ad) (hn : 0 < n) (hsz : s.heap.size + cells = ad n) {N : Nat} (hN : N ≤ 1000) (hc : cells + 1 = cells') (hs : slots + N = slots') (hR : cells' ≤ R.cells ∧ slots' ≤ R.slots) (hdg : decode cc pc = .ok (.newarray .long, 2))
    (kk : ∀ (H1 : Heap), Wo G A s.heap (n + 1) ad (va_up w n (eL G N (fun _ => lN 0))) H1 locs → W p l e R s m args below meth c H1 locs cells' slots' Q (F0 m (pc + 2) ls (.ref (ad n) :: rest))) : W p l e R s m args below meth c H locs cells slots Q (F0 m pc ls (.int (nI N) :: rest)) := by
  subst hc
  subst hs
  refine z_end (hW.lo hl hn) hsz (fun hq => ?_)
  refine va_newaK (atype := .long) B.1 B.2.1 (B.2.2.2.2.1 _ hw_93) rfl hdg rfl (nI_pos (by omega)) (nI_clamp (by omega)) (by show N * 8 ≤ 536870912; omega) hR.1 hR.2 hq (fun H1 cA e1 z1 o1 hAr hNm => ?_)
  have hcA : cA = G.2.2.1 := Option.some.inj (hNm.symm.trans ((B.2.2.2.2.2.2 1 _ rfl).2 : s.vm.findClass _ = _))
  refine kk H1 (hW.grow hA hl hq (by omega) (by rw [hq]; exact o1) (fun k h1 h2 => ?_) (fun k hk => up_n (by omega)))
  rw [show k = n by omega, up_s]
  show H1[ad n]? = _
  rw [e1, hcA]
  rfl
theorem z_newI (B : Bs G p s m args c cc nL own) (hA : ∀ q, s.heap.size ≤ q → A q) (hW : Wo G A s.heap n ad w H locs) (hl : lin ad) (hn : 0 < n) (hsz : s.heap.size + cells = ad n) {N : Nat} (hN : N ≤ 1000) (hc : cells + 1 = cells') (hs : slots + N = slots') (hR : cells' ≤ R.cells ∧ slots' ≤ R.slots) (hdg : decode cc pc = .ok (.newarray .int, 2))
    (kk : ∀ (H1 : Heap), Wo G A s.heap (n + 1) ad (va_up w n (eI G N (fun _ => nI 0))) H1 locs → W p l e R s m args below meth c H1 locs cells' slots' Q (F0 m (pc + 2) ls (.ref (ad n) :: rest))) : W p l e R s m args below meth c H locs cells slots Q (F0 m pc ls (.int (nI N) :: rest)) := by
  subst hc
  subst hs
  refine z_end (hW.lo hl hn) hsz (fun hq => ?_)
  refine va_newaK (atype := .int) B.1 B.2.1 (B.2.2.2.2.1 _ hw_94) rfl hdg rfl (nI_pos (by omega)) (nI_clamp (by omega)) (by show N * 4 ≤ 536870912; omega) hR.1 hR.2 hq (fun H1 cA e1 z1 o1 hAr hNm => ?_)
  have hcA : cA = G.2.1 := Option.some.inj (hNm.symm.trans ((B.2.2.2.2.2.2 0 _ rfl).2 : s.vm.findClass _ = _))
  refine kk H1 (hW.grow hA hl hq (by omega) (by rw [hq]; exact o1) (fun k h1 h2 => ?_) (fun k hk => up_n (by omega)))
  rw [show k = n by omega, up_s]
  show H1[ad n]? = _
  rw [e1, hcA]
  rfl
theorem z_newF (B : Bs G p s m args c cc nL own) (hE : EX s) (hA : ∀ q, s.heap.size ≤ q → A q) (hW : Wo G A s.heap n ad w H locs) (hl : lin ad) (hn : 0 < n) (hsz : s.heap.size + cells = ad n) {N index : Nat} (hlk : Cond.classLink own index RX1 ∈ lw_gd) (hN : N ≤ 1000) (hc : cells + 1 = cells') (hs : slots + N = slots') (hR : cells' ≤ R.cells ∧ slots' ≤ R.slots) (hdg : decode cc pc = .ok (.anewarray index, 3))
    (kk : ∀ (H1 : Heap), Wo G A s.heap (n + 1) ad (va_up w n (eF G N (fun _ => none))) H1 locs → W p l e R s m args below meth c H1 locs cells' slots' Q (F0 m (pc + 3) ls (.ref (ad n) :: rest))) : W p l e R s m args below meth c H locs cells slots Q (F0 m pc ls (.int (nI N) :: rest)) := by
  subst hc
  subst hs
  have hcl : (nI N).toNatClampNeg = N := nI_clamp (by omega)
  refine z_end (hW.lo hl hn) hsz (fun hq => ?_)
  refine W.anew B.1 B.2.1 B.2.2.2.1 (B.2.2.2.2.1 _ hlk) (va_AO.use hE.1) rfl hdg rfl (nI_pos (by omega)) (by rw [hcl]; omega) hR.1 (by rw [hcl]; exact hR.2) (fun cA kA comp f1 f2 f3 f4 => ?_)
  rw [hcl]
  generalize hH1 : H.push ({ cls := cA, slots := Array.replicate N .null, vm := .none } : Cell) = H1
  have e1 : H1[H.size]? = some (arrV cA N (fun _ => .null)) := by rw [← hH1, Array.getElem?_push_size, ← arrV_new]
  have o1 : ∀ q : Nat, q < H.size → H1[q]? = H[q]? := fun q hq => by rw [← hH1, Array.getElem?_push, if_neg (Nat.ne_of_lt hq)]
  have z1 : H1.size = H.size + 1 := by rw [← hH1, Array.size_push]
  obtain ⟨kA', comp', -, -, -, g4⟩ : ∃ (kA : Class) (comp : ClassId), s.vm.classes[G.2.2.2.1]? = some kA ∧ kA.kind = .array comp (.object RX1) ∧ s.vm.findClass RX1 = some comp ∧ s.vm.findClass ("[" ++ (FieldType.object RX1).toString) = some G.2.2.2.1 := (B.2.2.2.2.2.2 2 _ rfl).2
  have hcA : cA = G.2.2.2.1 := Option.some.inj (f1.symm.trans g4)
  show W p l e R s m args below meth c H1 locs (cells + 1) (slots + N) Q (F0 m (pc + 3) ls (.ref H.size :: rest))
  rw [hq]
  refine kk H1 (hW.grow hA hl hq (by omega) o1 (fun k h1 h2 => ?_) (fun k hk => up_n (by omega)))
  rw [show k = n by omega, up_s]
  show H1[ad n]? = _
  rw [← hq, e1, hcA]
  rfl
/-- a new object of one of the classes -/
theorem z_newO (B : Bs G p s m args c cc nL own) (hA : ∀ q, s.heap.size ≤ q → A q) (hW : Wo G A s.heap n ad w H locs) (hl : lin ad) (hlo : ad n ≤ H.size) (hsz : s.heap.size + cells = ad n) {index ci N : Nat} {C : String} {T : u_T} (hin : ∀ q ∈ u_ws C T N, q ∈ lw_gd) (ty : Nat → FieldType) (hty : ∀ k, k < N → parseFieldDescriptor (T k).2.2.1 = some (ty k)) (hlk : Cond.classLink own index C ∈ lw_gd) (hinst : Cond.instantiable C N ∈ lw_gd) (hini : Cond.initialized C ∈ lw_gd) (hci : zC[ci]? = some (C, T, N)) {fs : List Value} (hfs : ∀ j, j < N → defaultValue (ty j) = vp_V fs j) (hc : cells + 1 = cells') (hs : slots + N = slots') (hR : cells' ≤ R.cells ∧ slots' ≤ R.slots) (hdg : decode cc pc = .ok (.new index, 3))
    (kk : ∀ (H1 : Heap), Wo G A s.heap (n + 1) ad (va_up w n (eO ci fs)) H1 locs → W p l e R s m args below meth c H1 locs cells' slots' Q (F0 m (pc + 3) ls (.ref (ad n) :: rest))) : W p l e R s m args below meth c H locs cells slots Q (F0 m pc ls rest) := by
  subst hc
  subst hs
  refine z_end hlo hsz (fun hq => ?_)
  have hKn := B.2.2.2.2.2.1 ci _ hci
  refine W.newcK B.1 B.2.1 B.2.2.2.1 (B.2.2.2.2.1 _ hlk) (B.2.2.2.2.1 _ hinst) (B.2.2.2.2.1 _ hini) rfl hdg hR.1 hR.2 hKn.2.1 hq fun H1 kC hkC e1 z1 o1 => ?_
  refine kk H1 (hW.grow hA hl hq (by omega) (by rw [hq]; exact o1) (fun k h1 h2 => ?_) (fun k hk => up_n (by omega)))
  rw [show k = n by omega, up_s]
  exact ⟨_, hci, (u_born ty B.2.2.2.2.1 hin hKn hkC e1 hty).to hfs⟩
end ZA
