/-! ===== the class's three static rows, and contracts that know them ===== -/
def wtN (j : Nat) : Nat := [4, 6, 8, 10, 12, 14].getD j 0
def fcZ (j : Nat) : Int := [240, -504, 480, -264, 65520, -24].getD j 0
def dvZ (j : Nat) : Int := [1, 1, 1, 1, 691, 1].getD j 0
set_option maxRecDepth 100000 in
theorem smc_tab : ∀ j, j < 6 → zm (fcZ j) * (zm (dvZ j) ^ 1000001 % 1000003) % 1000003 = smc (wtN j) := by decide +kernel
theorem wt_rng : ∀ j, j < 6 → 4 ≤ wtN j ∧ wtN j ≤ 14 ∧ (wtN j = 4 ∨ wtN j = 6 ∨ wtN j = 8 ∨ wtN j = 10 ∨ wtN j = 12 ∨ wtN j = 14) := by decide +kernel
theorem fc_rng : ∀ j, j < 6 → -504 ≤ fcZ j ∧ fcZ j ≤ 65520 ∧ 1 ≤ dvZ j ∧ dvZ j ≤ 691 := by decide +kernel
theorem wt_all : ∀ k, (k = 4 ∨ k = 6 ∨ k = 8 ∨ k = 10 ∨ k = 12 ∨ k = 14) → ∃ j, j < 6 ∧ wtN j = k := by
  rintro k (rfl | rfl | rfl | rfl | rfl | rfl)
  · exact ⟨0, by decide, rfl⟩
  · exact ⟨1, by decide, rfl⟩
  · exact ⟨2, by decide, rfl⟩
  · exact ⟨3, by decide, rfl⟩
  · exact ⟨4, by decide, rfl⟩
  · exact ⟨5, by decide, rfl⟩
def Tb (τ : Nat × Nat × Nat) (A : Nat → Prop) (U : State) (H : Heap) : Prop :=
  (va_Z RX4 "SUMS_WEIGHTS" "[I" (.ref τ.1) A U H ∧ va_T .int τ.1 6 (fun j => .int (nI (wtN j))) A U H) ∧
  (va_Z RX4 "SUMS_FACTORS" "[I" (.ref τ.2.1) A U H ∧ va_T .int τ.2.1 6 (fun j => .int (iZ (fcZ j))) A U H) ∧
  (va_Z RX4 "SUMS_DIVISORS" "[I" (.ref τ.2.2) A U H ∧ va_T .int τ.2.2 6 (fun j => .int (iZ (dvZ j))) A U H)
theorem Tb.moved {τ : Nat × Nat × Nat} {A : Nat → Prop} {u U : State} {H : Heap} (hvm : u.vm.Alike U.vm) (h : Tb τ A u H) : Tb τ A U H :=
  ⟨⟨va_Z.moved hvm h.1.1, va_T.moved hvm h.1.2⟩, ⟨va_Z.moved hvm h.2.1.1, va_T.moved hvm h.2.1.2⟩, ⟨va_Z.moved hvm h.2.2.1, va_T.moved hvm h.2.2.2⟩⟩
theorem Tb.kept {τ : Nat × Nat × Nat} {A : Nat → Prop} {U : State} {H H1 : Heap} (h : Tb τ A U H) (hq : ∀ a : Nat, a < H.size → ¬ A a → H1[a]? = H[a]?) : Tb τ A U H1 :=
  ⟨⟨h.1.1.kept hq, h.1.2.kept hq⟩, ⟨h.2.1.1.kept hq, h.2.1.2.kept hq⟩, ⟨h.2.2.1.kept hq, h.2.2.2.kept hq⟩⟩
theorem Tb.narrow {τ : Nat × Nat × Nat} {A B : Nat → Prop} {U : State} {H : Heap} (h : Tb τ A U H) (hAB : ∀ q, B q → A q) : Tb τ B U H :=
  ⟨⟨h.1.1.narrow hAB, h.1.2.narrow hAB⟩, ⟨h.2.1.1.narrow hAB, h.2.1.2.narrow hAB⟩, ⟨h.2.2.1.narrow hAB, h.2.2.2.narrow hAB⟩⟩
def KtT (G : zG) (n : Nat) (ad : Nat → Nat) (w : Nat → va_E) (τ : Nat × Nat × Nat) (sz : Nat) (U : State) : Prop := Kt G n ad w sz U ∧ Tb τ (va_A (pw n ad w) sz) U U.heap
def CiT (l : Launch) (G : zG) (y : MethodName) (cd : Cond) (rm : Room) (n : Nat) (ad : Nat → Nat) (w : Nat → va_E) (τ : Nat × Nat × Nat) (av : List Value) (post : Int32 → (Nat → va_E) → Prop) : Prop :=
  ∀ sz : Nat, Met l y (cd :: lw_gd) rm (va_Pc av (KtT G n ad w τ sz)) (va_Qi post (Kp G n ad (va_A (pw n ad w) sz)) (va_A (pw n ad w) sz)) 0 0 (va_A (pw n ad w) sz)
theorem KtT_blind {G : zG} {n : Nat} {ad : Nat → Nat} {w : Nat → va_E} {τ : Nat × Nat × Nat} {sz : Nat} {av : List Value} : FrameBlind (va_Pc av (KtT G n ad w τ sz)) := fun a U g mk q => by
  obtain ⟨q0, ⟨q1, qP, qK, qD⟩, qT⟩ := q
  exact ⟨q0, ⟨q1, qP, va_K.moved (u := U) (U := U.calling g mk a) (Vm.Alike.refl U.vm) qK, qD⟩, Tb.moved (u := U) (U := U.calling g mk a) (Vm.Alike.refl U.vm) qT⟩
section ZET
variable {l : Launch} {G : zG} {y : MethodName} {cd : Cond} {rm : Room} {n : Nat} {ad : Nat → Nat} {w : Nat → va_E} {τ : Nat × Nat × Nat} {av : List Value} {cc : ByteArray} {maxL : Nat}
theorem ent_iT {post : Int32 → (Nat → va_E) → Prop} {ret : Option FieldType} (hy : plainName y.cls = true) (hcd : cd = Cond.code y cc maxL ret) (hargs : (lg_sl av).length ≤ maxL)
    (body : ∀ (p : Program) (e : Env) (s : State) (m : MethodId) (args : Array Value) (below : List Frame) (meth : Method) (c : Code) (A : Nat → Prop), Bs G p s m args c cc maxL y.cls → meth.sig.returnType = ret → meth.locks = false → (∀ q, s.heap.size ≤ q → A q) → Tb τ A s s.heap → ∀ (H : Heap) (locs : List Loc) (ls : Array Slot), Wo G A s.heap n ad w H locs → lv_has ls maxL (lv_args 0 av) →
      W p l e rm s m args below meth c H locs 0 0 (MQ below (va_Qi post (Kp G n ad A) A) args s 0 0 A) (F0 m 0 ls [])) : CiT l G y cd rm n ad w τ av post := by
  intro sz
  refine Met.ofW (cc := cc) (maxL := maxL) (ret := ret) hy (by rw [hcd]) ?_
  intro p e s m args below meth c s₁ B hml hv
  obtain ⟨rfl, ⟨hsz, hP, hK, hD0⟩, hT⟩ := hv
  subst hsz
  have hts := atoms_spec (ws := cd :: lw_gd) B.pre
  have hl := lv_entry av (n := maxL) hargs
  rw [lg_entry_eq]
  exact body p e s m _ below meth c _ ⟨B.exec, B.bytes, hml, findClass_of_methodNamed B.named, fun q hq => hts q (List.mem_cons_of_mem _ hq), hK⟩ B.returns B.notSynchronized (fun q h => Or.inr h) hT _ _ _ ⟨hP, hD0.self, va_S.rf⟩ hl
end ZET
section ZKT
variable {p : Program} {l : Launch} {e : Env} {R : Room} {s : State} {m : MethodId} {args : Array Value} {below : List Frame} {meth : Method} {c : Code} {H : Heap} {locs : List Loc} {cells slots : Nat} {Q : State → Prop}
variable {cc : ByteArray} {pc : Nat} {ls : Array Slot} {rest st : List Value} {A : Nat → Prop} {G : zG} {n : Nat} {ad : Nat → Nat} {w : Nat → va_E} {own : String} {nL : Nat} {τ : Nat × Nat × Nat}
variable {y : MethodName} {cd : Cond} {rm : Room} {av As : List Value} {bytes : ByteArray} {maxL np index : Nat}
theorem Tb.at (hA : ∀ q, s.heap.size ≤ q → A q) (hW : Wo G A s.heap n ad w H locs) (hT : Tb τ A s s.heap) : Tb τ (va_A (pw n ad w) H.size) s H :=
  (hT.kept (fun a h1 h2 => hW.2.2.2.1 a h1 h2)).narrow (hW.fr hA)
theorem call_siT {post : Int32 → (Nat → va_E) → Prop} {ret : Option FieldType} (B : Bs G p s m args c cc nL own) (hA : ∀ q, s.heap.size ≤ q → A q) (hT : Tb τ A s s.heap) (hW : Wo G A s.heap n ad w H locs) (hC : CiT l G y cd rm n ad w τ av post) (M : MfS y cd bytes maxL ret np) (hlink : Cond.methodLink own index y ∈ lw_gd) (hn : av.length = np) (hR : (rm.cells = 0 ∧ rm.slots = 0) ∧ rm.frames + 1 ≤ R.frames ∧ 8 + (maxL + 11) + rm.locals ≤ R.locals) (hcs : cells ≤ R.cells ∧ slots ≤ R.slots) (hsize : ls.size = nL) (hst : st = av.reverse ++ rest) (hcat : (rest.map fun v => v.category).sum ≤ 8) (hdg : decode cc pc = .ok (.invokestatic index, 3))
    (kk : ∀ (r : Int32) (w' : Nat → va_E) (H1 : Heap) (locs1 : List Loc), post r w' → Wo G A s.heap n ad w' H1 locs1 → W p l e R s m args below meth c H1 locs1 cells slots Q (F0 m (pc + 3) ls (.int r :: rest))) : W p l e R s m args below meth c H locs cells slots Q (F0 m pc ls st) := by
  subst hst
  have hAf := hW.fr hA
  have hT1 := hT.at hA hW
  refine va_calli (va_runS (As := av) (rest := rest) ⟨B.1, B.2.1, B.2.2.1, B.2.2.2.1, B.2.2.2.2.1⟩ (hC H.size) (va_cwS (ret := ret) (bytes := bytes) (maxL := maxL) np B.2.2.2.2.1 (goodS M hlink) (by rw [M.1]) hR.1.1 hR.1.2 ⟨M.2.2.2.2.1, M.2.2.2.2.2.1, M.2.2.2.2.2.2⟩ hR.2) ⟨KtT_blind, fun U hU hWm => ⟨rfl, ⟨by rw [hU], by rw [hU]; exact hW.1, va_K.moved hWm.alike B.2.2.2.2.2, hW.2.1.weaken (fun _ _ _ _ => trivial)⟩, by rw [hU]; exact hT1.moved hWm.alike⟩⟩ rfl hn hsize rfl (lv_room hcat) hdg hcs) hW.2.2 (fun q _ h => hAf q h) hAf (fun r w' t H1 locs1 ht hvm hw hB hz1 hk1 hS => ?_)
  obtain ⟨hP1, hK1, hD1⟩ := hB
  rw [ht] at hP1
  exact kk r w' H1 locs1 hw ⟨hP1, hD1.weaken (fun k q hq h => hAf _ h), hS⟩
theorem call_viT {post : Int32 → (Nat → va_E) → Prop} {ret : Option FieldType} (B : Bs G p s m args c cc nL own) (hA : ∀ q, s.heap.size ≤ q → A q) (hT : Tb τ A s s.heap) (hW : Wo G A s.heap n ad w H locs) (k : Nat) (hk : k < n) {ci : Nat} {fs : List Value} (he : w k = eO ci fs) {r : vw_C} (hcl : zC[ci]? = some r) (hrn : r.1 = y.cls) (hC : CiT l G y cd rm n ad w τ (.ref (ad k) :: As) post) (M : MfV y cd bytes maxL ret np) (hlink : Cond.methodLink own index y ∈ lw_gd) (hn : As.length = np) (hR : (rm.cells = 0 ∧ rm.slots = 0) ∧ rm.frames + 1 ≤ R.frames ∧ 8 + (maxL + 11) + rm.locals ≤ R.locals) (hcs : cells ≤ R.cells ∧ slots ≤ R.slots) (hsize : ls.size = nL) (hst : st = As.reverse ++ .ref (ad k) :: rest) (hcat : (rest.map fun v => v.category).sum ≤ 8) (hdg : decode cc pc = .ok (.invokevirtual index, 3))
    (kk : ∀ (r : Int32) (w' : Nat → va_E) (H1 : Heap) (locs1 : List Loc), post r w' → Wo G A s.heap n ad w' H1 locs1 → W p l e R s m args below meth c H1 locs1 cells slots Q (F0 m (pc + 3) ls (.int r :: rest))) : W p l e R s m args below meth c H locs cells slots Q (F0 m pc ls st) := by
  subst hst
  have hAf := hW.fr hA
  have hT1 := hT.at hA hW
  refine va_calli (va_runV (C := y.cls) (As := As) (rest := rest) ⟨B.1, B.2.1, B.2.2.1, B.2.2.2.1, B.2.2.2.2.1⟩ (hC H.size) (cwV (ret := ret) (bytes := bytes) (maxL := maxL) np B.2.2.2.2.1 (goodV M hlink) (by rw [M.1]) hR.1.1 hR.1.2 ⟨rfl, M.2.2.2.2.2.1, M.2.2.2.2.2.2.1, M.2.2.2.2.2.2.2⟩ hR.2) ⟨KtT_blind, by rw [← hrn]; exact va_recv B.2.2.2.2.2 hW.1 hcl (by rw [pw_get hk, he]; rfl), fun U hU hWm => ⟨rfl, ⟨by rw [hU], by rw [hU]; exact hW.1, va_K.moved hWm.alike B.2.2.2.2.2, hW.2.1.weaken (fun _ _ _ _ => trivial)⟩, by rw [hU]; exact hT1.moved hWm.alike⟩⟩ rfl hn hsize rfl (lv_room hcat) hdg hcs) hW.2.2 (fun q _ h => hAf q h) hAf (fun r w' t H1 locs1 ht hvm hw hB hz1 hk1 hS => ?_)
  obtain ⟨hP1, hK1, hD1⟩ := hB
  rw [ht] at hP1
  exact kk r w' H1 locs1 hw ⟨hP1, hD1.weaken (fun k q hq h => hAf _ h), hS⟩
end ZKT
