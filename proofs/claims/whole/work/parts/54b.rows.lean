/-! ===== new long[N][K], over the machine itself: the outer row as it is at the end, and the rows pushed behind it ===== -/
def mz_push (x : Cell) : Nat → State → State
  | 0, U => U
  | i + 1, U => (mz_push x i U).pushCell x
theorem mz_push_size (x : Cell) (U : State) (i : Nat) : (mz_push x i U).heap.size = U.heap.size + i := by
  induction i with
  | zero => rfl
  | succ i ih =>
    show ((mz_push x i U).pushCell x).heap.size = _
    rw [State.heap_size_pushCell, ih]
    omega
theorem mz_push_old (x : Cell) (U : State) {q : Nat} (hq : q < U.heap.size) (i : Nat) : (mz_push x i U).heap[q]? = U.heap[q]? := by
  induction i with
  | zero => rfl
  | succ i ih =>
    have hs := mz_push_size x U i
    exact (State.heap_pushCell_of_lt (a := q) _ _ (show q < (mz_push x i U).heap.size by omega)).trans ih
theorem mz_push_new (x : Cell) (U : State) {i j : Nat} (h : j < i) : (mz_push x i U).heap[U.heap.size + j]? = some x := by
  induction i with
  | zero => omega
  | succ i ih =>
    have hs := mz_push_size x U i
    by_cases e : j < i
    · exact (State.heap_pushCell_of_lt (a := U.heap.size + j) _ _ (show U.heap.size + j < (mz_push x i U).heap.size by omega)).trans (ih e)
    · rw [show U.heap.size + j = (mz_push x i U).heap.size by omega]
      exact State.heap_pushCell_size _ _
theorem mz_push_vm (x : Cell) (U : State) (i : Nat) : (mz_push x i U).vm = U.vm := by
  induction i with
  | zero => rfl
  | succ i ih => exact ih
theorem mz_push_used (x : Cell) (U : State) (i : Nat) : (mz_push x i U).slotsUsed = U.slotsUsed + i * x.slots.size := by
  induction i with
  | zero => simp [mz_push]
  | succ i ih =>
    show (mz_push x i U).slotsUsed + x.slots.size = _
    rw [ih, Nat.succ_mul]
    omega
theorem mz_push_top (x : Cell) (U : State) (f : JFrame) (i : Nat) : mz_push x i (U.setTop f) = (mz_push x i U).setTop f := by
  induction i with
  | zero => rfl
  | succ i ih =>
    show (mz_push x i (U.setTop f)).pushCell x = _
    rw [ih]
    rfl
/-- a store ahead of the last cell goes ahead of its coming -/
theorem mz_swap {U : State} {q : Nat} (hq : q < U.heap.size) (x y : Cell) : (U.pushCell x).setCell q y = (U.setCell q y).pushCell x := by
  have h : (U.heap.push x).setIfInBounds q y = (U.heap.setIfInBounds q y).push x := by
    refine Array.ext_getElem? fun j => ?_
    rw [Array.getElem?_setIfInBounds, Array.getElem?_push, Array.getElem?_push, Array.getElem?_setIfInBounds, Array.size_push, Array.size_setIfInBounds]
    by_cases e : q = j
    · subst e
      rw [if_pos rfl, if_pos (by omega), if_neg (by omega), if_pos rfl, if_pos hq]
    · rw [if_neg e, if_neg e]
  simp only [State.pushCell, State.setCell, h]
theorem mz_push_set {U : State} {q : Nat} (hq : q < U.heap.size) (x y : Cell) (i : Nat) : (mz_push x i U).setCell q y = mz_push x i (U.setCell q y) := by
  induction i with
  | zero => rfl
  | succ i ih =>
    show ((mz_push x i U).pushCell x).setCell q y = (mz_push x i (U.setCell q y)).pushCell x
    rw [mz_swap (by rw [mz_push_size]; omega), ih]
/-- the outer row when i of its places are told -/
def mz_o (cA : ClassId) (N h i : Nat) : Cell := arrV cA N (fun j => va_rf (if j < i then some (h + 1 + j) else none))
theorem mz_o_set (cA : ClassId) (N h i : Nat) : (mz_o cA N h i).setSlot i (.ref (h + 1 + i)) = mz_o cA N h (i + 1) := by
  unfold mz_o
  rw [arrV_store]
  refine congrArg (arrV cA N) (funext fun j => ?_)
  by_cases e : j = i
  · subst e
    simp [updV, va_rf]
  · by_cases h : j < i
    · simp [updV, e, h, Nat.lt_succ_of_lt h]
    · simp [updV, e, h, show ¬ j < i + 1 by omega]
def mz_r (cC : ClassId) (K : Nat) : Cell := arrV cC K (fun _ => defaultValue .long)
def mz_U (V : State) (cA cC : ClassId) (N K i : Nat) : State := mz_push (mz_r cC K) i (V.pushCell (mz_o cA N V.heap.size i))
theorem mz_U_more (V : State) (cA cC : ClassId) (N K i : Nat) : ((mz_U V cA cC N K i).pushCell (mz_r cC K)).setCell V.heap.size ((mz_o cA N V.heap.size i).setSlot i (.ref (V.heap.size + 1 + i))) = mz_U V cA cC N K (i + 1) := by
  rw [mz_o_set]
  show (mz_push (mz_r cC K) (i + 1) (V.pushCell (mz_o cA N V.heap.size i))).setCell V.heap.size _ = _
  rw [mz_push_set (by rw [State.heap_size_pushCell]; omega), State.setCell_pushCell _ _ _ (by rw [mz_o, mz_o, arrV_size, arrV_size])]
  rfl
section MZ
variable {p : Program} {l : Launch} {e : Env} {R : Room} {s T : State} {m : MethodId} {args : Array Value} {below : List Frame} {meth : Method} {c : Code} {locs : List Loc} {cells slots : Nat}
theorem mz_stand (X : Stand p l e R s m args below meth c T locs cells slots) (x : Cell) (i : Nat) : Stand p l e R s m args below meth c (mz_push x i T) locs (cells + i) (slots + i * x.slots.size) := by
  induction i with
  | zero => simpa [mz_push] using X
  | succ i ih =>
    have h := ih.pushed x
    rw [show slots + i * x.slots.size + x.slots.size = slots + (i + 1) * x.slots.size by rw [Nat.succ_mul]; omega] at h
    exact h
/-- the machine's own making of one row -/
theorem mz_arr {E : CtlPost} {d : Bool} {acts : List Action} {u : State} {cy cz : ClassId} {k : Class} {ty : FieldType} {L : Nat} {v : Value} {Q : Addr → Pre} (hk : u.vm.classes[cy]? = some k) (hkd : k.kind = .array cz ty) (hL : L ≤ e.platform.arrayLengthLimit) (hB : L * componentBytes ty ≤ e.platform.maxHeapBytes) (hf : fits ty v = true) (hc : u.heap.size + 1 ≤ e.platform.maxCells) (hs : u.slotsUsed + L ≤ e.platform.maxSlots) (h : ∀ acts', Q u.heap.size d acts' (u.pushCell (arrV cy L fun _ => v))) : wp (Jvm.newArray cy L v) Q E e d acts u := by
  have h1 : ¬ e.platform.arrayLengthLimit < L := by omega
  have h2 : ¬ e.platform.maxHeapBytes < L * componentBytes ty := by omega
  have h3 : ¬ e.platform.maxSlots < L := by omega
  simp only [Jvm.newArray, Jvm.arrayFits, wp_bind', wp_pure', W.ite, W.ask, W.theClass, W.alloc, W.stop, gt_iff_lt, h1, h2, h3, if_false, hk, hkd, Option.some.injEq, exists_eq_left']
  refine ⟨hc, by rw [Array.size_replicate]; exact hs, fun i x hx => ?_, ?_⟩
  · rw [Array.getElem?_replicate] at hx
    split at hx
    · cases hx
      simp [State.fitsSlot, State.slotType?, hk, hkd, hf]
    · cases hx
  · rw [arrV_new]
    exact h _
theorem mz_make {E : CtlPost} {d : Bool} {acts : List Action} {V : State} {cA cC cz : ClassId} {kA kC : Class} {N K : Nat} (hN : N ≤ 1000) (hK : K ≤ 1000) {Q : Addr → Pre} (hkA : V.vm.classes[cA]? = some kA) (hA : kA.kind = .array cC (.array .long)) (hkC : V.vm.classes[cC]? = some kC) (hC : kC.kind = .array cz .long) (hlim : e.platform.arrayLengthLimit = 2147483645) (hby : e.platform.maxHeapBytes = 536870912) (hc : V.heap.size + (1 + N) ≤ e.platform.maxCells) (hs : V.slotsUsed + (N + N * K) ≤ e.platform.maxSlots)
    (h : ∀ d' acts', Q V.heap.size d' acts' (mz_U V cA cC N K N)) : wp (multianewarray.make cA [nI N, nI K]) Q E e d acts V := by
  have cN : (nI N).toNatClampNeg = N := nI_clamp (by omega)
  have cK : (nI K).toNatClampNeg = K := nI_clamp (by omega)
  have nN : ¬ nI N < 0 := nI_pos (by omega)
  have nK : ¬ nI K < 0 := nI_pos (by omega)
  have none : ([nI K].find? (· < 0)) = none := by simp [nK]
  rw [multianewarray.make]
  simp only [wp_bind', wp_pure', W.ite, W.theClass, nN, if_false, hkA, hA, Option.some.injEq, exists_eq_left', cN]
  refine mz_arr hkA hA (by omega) (by rw [hby]; show N * 4 ≤ _; omega) rfl (by omega) (by omega) (fun acts' => ?_)
  simp only [none]
  rw [ite_self, wp_bind', Std.Legacy.Range.forIn_eq_forIn_range', show ([:N] : Std.Legacy.Range).size = N by simp [Std.Legacy.Range.size]]
  refine wp_forIn_inv (fun left U => ∃ i, left = List.range' i (N - i) ∧ i ≤ N ∧ U = mz_U V cA cC N K i) _ _ ⟨0, rfl, Nat.zero_le _, ?_⟩ (fun j left U d' acts' Q' hI hgo => ?_) (fun U d' acts' hI => ?_)
  · show V.pushCell (arrV cA N fun _ => Value.null) = V.pushCell (mz_o cA N V.heap.size 0)
    refine congrArg (fun x => V.pushCell (arrV cA N x)) (funext fun j => ?_)
    simp [va_rf]
  · obtain ⟨i, hl, hi, rfl⟩ := hI
    have hlt : i < N := by
      apply Nat.lt_of_le_of_ne hi
      intro e
      rw [e, Nat.sub_self] at hl
      cases hl
    rw [show N - i = (N - (i + 1)) + 1 by omega, List.range'_succ] at hl
    injection hl with e1 e2
    subst e1
    subst e2
    have hz : (mz_U V cA cC N K j).heap.size = V.heap.size + 1 + j := by rw [mz_U, mz_push_size, State.heap_size_pushCell]
    have hv : (mz_U V cA cC N K j).vm = V.vm := mz_push_vm _ _ _
    have hu : (mz_U V cA cC N K j).slotsUsed = V.slotsUsed + N + j * K := by
      rw [mz_U, mz_push_used, mz_r, arrV_size]
      show V.slotsUsed + (mz_o cA N V.heap.size j).slots.size + _ = _
      rw [mz_o, arrV_size]
    have hjK : (j + 1) * K ≤ N * K := Nat.mul_le_mul_right K hlt
    rw [Nat.succ_mul] at hjK
    rw [wp_bind', multianewarray.make]
    simp only [wp_bind', wp_pure', W.ite, W.theClass, nK, if_false, hv, hkC, hC, Option.some.injEq, exists_eq_left', cK]
    refine mz_arr (by rw [hv]; exact hkC) hC (by omega) (by rw [hby]; show K * 8 ≤ _; omega) rfl (by rw [hz]; omega) (by rw [hu]; omega) (fun acts2 => ?_)
    have hcell : ((mz_U V cA cC N K j).pushCell (mz_r cC K)).heap[V.heap.size]? = some (mz_o cA N V.heap.size j) := by
      rw [State.heap_pushCell_of_lt (a := V.heap.size) _ _ (show V.heap.size < (mz_U V cA cC N K j).heap.size by rw [hz]; omega), mz_U, mz_push_old (q := V.heap.size) _ _ (by rw [State.heap_size_pushCell]; omega)]
      exact State.heap_pushCell_size _ _
    simp only [wp_bind', W.writeLoc, wp_pure']
    refine ⟨_, hcell, (by simp [mz_o, arrV]), (by rw [mz_o, arrV_size]; exact hlt), ?_, hgo _ _ _ ⟨j + 1, rfl, hlt, ?_⟩⟩
    · show State.fitsSlot _ cA .none j _ = true
      simp [State.fitsSlot, State.slotType?, hv, hkA, hA, fits]
    · rw [hz]
      exact mz_U_more V cA cC N K j
  · obtain ⟨i, hl, hi, rfl⟩ := hI
    have he : i = N := by
      have h0 := congrArg List.length hl
      simp at h0
      omega
    subst he
    simp only [wp_pure']
    exact h _ _
theorem mz_mna (X : Stand p l e R s m args below meth c T locs cells slots) (hexec : p.tables.exec = Jvm.exec) {own : String} {index N K : Nat} (hown : s.vm.findClass own = some m.cls) (hlink : (Cond.classLink own index "[[J").before args s = true) (hover : va_AOA .long s) (harr : (Cond.arrayClass .long).before args s = true) {g : JFrame} (hg : g.method = m) (hdg : decode c.code g.pc = .ok (.multianewarray index 2, 4)) {rest : List Value} (hst : g.stack = .int (nI K) :: .int (nI N) :: rest) (hN : N ≤ 1000) (hK : K ≤ 1000) (hc : cells + (1 + N) ≤ R.cells) (hs : slots + (N + N * K) ≤ R.slots) :
    ∃ (vm₁ : Vm) (cA cC : ClassId), s.vm.findClass "[[J" = some cA ∧ s.vm.findClass "[J" = some cC ∧ Stand p l e R s m args below meth c (mz_U (T.setVm vm₁) cA cC N K N) locs (cells + 1 + N) (slots + N + N * K) ∧
      ∀ t, Steps p.tables e below ((mz_U (T.setVm vm₁) cA cC N K N).setTop { g with pc := g.pc + 4, stack := .ref T.heap.size :: rest }) t → Steps p.tables e below (T.setTop g) t := by
  subst hg
  obtain ⟨cC, cA, kA, fC, -, hkA, hA, fA⟩ := aoa_spec hover
  obtain ⟨cC', kC, cz, fC', hkC, hC⟩ := Cond.arrayClass_spec harr
  have ec : cC' = cC := Option.some.inj (fC'.symm.trans fC)
  subst ec
  obtain ⟨c0, f0, hcl⟩ := Cond.classLink_spec hown hlink e.platform (by rw [X.admits.platform])
  have eA : c0 = cA := Option.some.inj (f0.symm.trans fA)
  subst eA
  obtain ⟨hgv, hwm, -⟩ := State.classEntry (e := e) X.warmed hcl
  generalize T.vm.noted g.method.cls index (.cls c0) = vm₁ at hgv hwm
  obtain ⟨kA₁, hkA₁, qA⟩ := hwm.alike.2.2 _ _ hkA
  obtain ⟨kC₁, hkC₁, qC⟩ := hwm.alike.2.2 _ _ hkC
  obtain ⟨r1, r2⟩ := X.roomAbove hc hs
  have XU : Stand p l e R s g.method args below meth c (mz_U (T.setVm vm₁) c0 cC' N K N) locs (cells + 1 + N) (slots + N + N * K) := by
    have h := mz_stand ((X.noted hwm).pushed (mz_o c0 N (T.setVm vm₁).heap.size N)) (mz_r cC' K) N
    rw [mz_r, arrV_size, mz_o, arrV_size] at h
    exact h
  refine ⟨vm₁, c0, cC', fA, fC, XU, fun t ht => ?_⟩
  jvm_step X.here [hexec, hdg]
  simp only [multianewarray.sem, wp_bind', W.resolveClassAt_links (State.method?_setTop g X.here.top) hgv]
  rw [W.popN, if_neg (by decide)]
  refine ⟨g, State.topJava?_setTop' (s := T.setVm vm₁) g X.here.top, [.int (nI N), .int (nI K)], rest, rfl, hst, ?_⟩
  simp only [List.mapM_cons, List.mapM_nil, wp_bind', wp_pure']
  rw [show ((T.setTop g).setVm vm₁).setTop { g with stack := rest } = (T.setVm vm₁).setTop { g with stack := rest } by
    show ((T.setVm vm₁).setTop g).setTop _ = _
    rw [State.setTop_setTop]]
  refine mz_make (kA := kA₁) (kC := kC₁) (cz := cz) hN hK hkA₁ (by rw [qA]; exact hA) hkC₁ (by rw [qC]; exact hC) (Launch.admits_arrayLengthLimit X.admits) (Launch.admits_maxHeapBytes X.admits) r1 r2 (fun d' acts' => ?_)
  have eU : mz_U ((T.setVm vm₁).setTop { g with stack := rest }) c0 cC' N K N = (mz_U (T.setVm vm₁) c0 cC' N K N).setTop { g with stack := rest } := by
    rw [mz_U, mz_U, ← mz_push_top]
    rfl
  rw [eU]
  simp only [wp_bind', W.mark, W.pushRef, State.topJava?_setTop' _ XU.here.top, Option.some.injEq, exists_eq_left', State.setTop_setTop, State.heap_setTop]
  intro acts
  simp [jvm, XU.here.top]
  exact ht
end MZ
section ZB
variable {p : Program} {l : Launch} {e : Env} {R : Room} {s : State} {m : MethodId} {args : Array Value} {below : List Frame} {meth : Method} {c : Code} {H : Heap} {locs : List Loc} {cells slots cells' slots' : Nat} {Q : State → Prop}
variable {cc : ByteArray} {pc : Nat} {ls : Array Slot} {rest : List Value} {A : Nat → Prop} {G : zG} {n : Nat} {ad : Nat → Nat} {w : Nat → va_E} {own : String} {nL : Nat}
/-- rows of longs -/
theorem z_mna (B : Bs G p s m args c cc nL own) (hE : EX s) (hA : ∀ q, s.heap.size ≤ q → A q) (hW : Wo G A s.heap n ad w H locs) (hl : lin ad) (hn : 0 < n) (hsz : s.heap.size + cells = ad n) {N K index : Nat} (hlk : Cond.classLink own index "[[J" ∈ lw_gd) (hN : N ≤ 1000) (hK : K ≤ 1000) (hc : cells + 1 + N = cells') (hs : slots + N + N * K = slots') (hR : cells' ≤ R.cells ∧ slots' ≤ R.slots) (hdg : decode cc pc = .ok (.multianewarray index 2, 4))
    (kk : ∀ (H1 : Heap), Wo G A s.heap (n + 1 + N) ad (fun k => if k < n then w k else if k = n then eR G N (fun i => if i < N then some (ad (n + 1 + i)) else none) else eL G K (fun _ => lN 0)) H1 locs → W p l e R s m args below meth c H1 locs cells' slots' Q (F0 m (pc + 4) ls (.ref (ad n) :: rest))) : W p l e R s m args below meth c H locs cells slots Q (F0 m pc ls (.int (nI K) :: .int (nI N) :: rest)) := by
  subst hc
  subst hs
  refine z_end (hW.lo hl hn) hsz (fun hq => ?_)
  intro T hT Xs
  obtain ⟨vm₁, cA, cC, fA, fC, X', step⟩ := mz_mna Xs B.1 B.2.2.2.1 (B.2.2.2.2.1 _ hlk) hE.2.1 (B.2.2.2.2.1 _ hw_93) (g := F0 m pc ls (.int (nI K) :: .int (nI N) :: rest)) rfl (by rw [B.2.1]; exact hdg) rfl hN hK (by have := hR.1; omega) (by have := hR.2; omega)
  have ec : cC = G.2.2.1 := Option.some.inj (fC.symm.trans ((B.2.2.2.2.2.2 1 _ rfl).2 : s.vm.findClass _ = _))
  have eA : cA = G.2.2.2.2 := Option.some.inj (fA.symm.trans ((B.2.2.2.2.2.2 3 _ rfl).2 : s.vm.findClass _ = _))
  subst ec
  subst eA
  have hTh : (T.setVm vm₁).heap = H := hT
  have hz : ((T.setVm vm₁).pushCell (mz_o G.2.2.2.2 N (T.setVm vm₁).heap.size N)).heap.size = H.size + 1 := by rw [State.heap_size_pushCell, hTh]
  have f1 : (mz_U (T.setVm vm₁) G.2.2.2.2 G.2.2.1 N K N).heap.size = H.size + 1 + N := by rw [mz_U, mz_push_size, hz]
  have f2 : (mz_U (T.setVm vm₁) G.2.2.2.2 G.2.2.1 N K N).heap[H.size]? = some (vp_cell G.2.2.2.2 (N, .inr (.inr (.inr (.inr (fun i => if i < N then some (H.size + 1 + i) else none)))))) := by
    rw [mz_U, mz_push_old _ _ (by rw [hz]; omega), ← hTh]
    exact State.heap_pushCell_size _ _
  have hold : ∀ x : Nat, x < H.size → (mz_U (T.setVm vm₁) G.2.2.2.2 G.2.2.1 N K N).heap[x]? = H[x]? := fun x hx => by
    rw [mz_U, mz_push_old _ _ (by rw [hz]; omega), State.heap_pushCell_of_lt _ _ (by rw [hTh]; exact hx), hTh]
  have hrow : ∀ j : Nat, j < N → (mz_U (T.setVm vm₁) G.2.2.2.2 G.2.2.1 N K N).heap[H.size + 1 + j]? = some (vp_cell G.2.2.1 (K, .inr (.inl (fun _ => lN 0)))) := fun j hj => by
    rw [← hz]
    exact mz_push_new _ _ hj
  generalize mz_U (T.setVm vm₁) G.2.2.2.2 G.2.2.1 N K N = F at X' step f1 f2 hold hrow
  have hl' : ∀ i, ad (n + 1 + i) = H.size + 1 + i := fun i => by
    have e1 := hl (n + 1 + i)
    have e2 := hl n
    omega
  have hWn : Wo G A s.heap (n + 1 + N) ad (fun k => if k < n then w k else if k = n then eR G N (fun i => if i < N then some (ad (n + 1 + i)) else none) else eL G K (fun _ => lN 0)) F.heap locs := by
    refine hW.grow hA hl hq (by rw [f1]; omega) hold (fun k h1 h2 => ?_) (fun k hk => if_pos hk)
    by_cases hk : k = n
    · subst hk
      rw [if_neg (by omega), if_pos rfl]
      show F.heap[ad k]? = _
      rw [← hq, f2]
      simp only [hl']
    · rw [if_neg (by omega), if_neg hk]
      show F.heap[ad k]? = _
      have e1 := hl' (k - (n + 1))
      rw [show n + 1 + (k - (n + 1)) = k by omega] at e1
      rw [e1, hrow _ (by omega)]
  obtain ⟨t, a1, b1⟩ := kk F.heap hWn F rfl X'
  refine ⟨t, step t ?_, b1⟩
  have e : T.heap.size = ad n := by rw [hT, hq]
  rw [e]
  exact a1
end ZB
