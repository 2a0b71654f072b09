/-! ===== contracts of methods that make cells and hand one of them back ===== -/
def Czr (l : Launch) (G : zG) (y : MethodName) (cd : Cond) (d mc ms n n' : Nat) (ad : Nat → Nat) (w : Nat → va_E) (av : List Value) (post : Nat → (Nat → va_E) → Prop) : Prop :=
  Met l y (cd :: lw_gd) (rz d mc ms) (va_Pc av (KtE G n ad w)) (va_Qr (fun u : Nat × (Nat → va_E) => post u.1 u.2) (Kr G n' ad (va_A (pw n ad w) (ad n))) (va_A (pw n ad w) (ad n))) mc ms (va_A (pw n ad w) (ad n))
section ZEZR
variable {l : Launch} {G : zG} {y : MethodName} {cd : Cond} {d mc ms n n' : Nat} {ad : Nat → Nat} {w : Nat → va_E} {av : List Value} {cc : ByteArray} {maxL : Nat}
theorem ent_zr {post : Nat → (Nat → va_E) → Prop} {ret : Option FieldType} (hy : plainName y.cls = true) (hcd : cd = Cond.code y cc maxL ret) (hargs : (lg_sl av).length ≤ maxL)
    (body : ∀ (p : Program) (e : Env) (s : State) (m : MethodId) (args : Array Value) (below : List Frame) (meth : Method) (c : Code) (A : Nat → Prop), Bs G p s m args c cc maxL y.cls → EX s → meth.sig.returnType = ret → meth.locks = false → meth.name = y.name → (∀ q, s.heap.size ≤ q → A q) → s.heap.size = ad n → ∀ (H : Heap) (locs : List Loc) (ls : Array Slot), Wo G A s.heap n ad w H locs → lv_has ls maxL (lv_args 0 av) →
      W p l e (rz d mc ms) s m args below meth c H locs 0 0 (MQ below (va_Qr (fun u : Nat × (Nat → va_E) => post u.1 u.2) (Kr G n' ad A) A) args s mc ms A) (F0 m 0 ls [])) : Czr l G y cd d mc ms n n' ad w av post := by
  refine Met.ofW (cc := cc) (maxL := maxL) (ret := ret) hy (by rw [hcd]) ?_
  intro p e s m args below meth c s₁ B hml hv
  obtain ⟨rfl, ⟨hsz, hP, hK, hD0⟩, hE⟩ := hv
  have hts := atoms_spec (ws := cd :: lw_gd) B.pre
  have hl := lv_entry av (n := maxL) hargs
  rw [lg_entry_eq]
  exact body p e s m _ below meth c _ ⟨B.exec, B.bytes, hml, findClass_of_methodNamed B.named, fun q hq => hts q (List.mem_cons_of_mem _ hq), hK⟩ hE B.returns B.notSynchronized (name_of_methodNamed B.named B.method).1 (fun q h => Or.inr (by rw [← hsz]; exact h)) hsz _ _ _ ⟨hP, hD0.self, va_S.rf⟩ hl
end ZEZR
section ZKZR
variable {p : Program} {l : Launch} {e : Env} {R : Room} {s : State} {m : MethodId} {args : Array Value} {below : List Frame} {meth : Method} {c : Code} {H : Heap} {locs : List Loc} {cells slots cells' slots' mc ms : Nat} {Q : State → Prop}
variable {cc : ByteArray} {pc : Nat} {ls : Array Slot} {rest st : List Value} {A : Nat → Prop} {G : zG} {n n' d : Nat} {ad : Nat → Nat} {w : Nat → va_E} {own : String} {nL : Nat}
theorem ret_zr {post : Nat → (Nat → va_E) → Prop} {rt : FieldType} (B : Bs G p s m args c cc nL own) (hr : meth.sig.returnType = some rt) (hrt : (∃ n, rt = .object n) ∨ ∃ t, rt = .array t) (hlk : meth.locks = false) (hW : Wo G A s.heap n' ad w H locs) {a : Nat} (hp : post a w) (hc : cells ≤ mc) (hs : slots ≤ ms) (hdg : decode cc pc = .ok (.areturn, 1)) :
    W p l e R s m args below meth c H locs cells slots (MQ below (va_Qr (fun u : Nat × (Nat → va_E) => post u.1 u.2) (Kr G n' ad A) A) args s mc ms A) (F0 m pc ls [.ref a]) :=
  W.widen hc hs (W.aret B.1 B.2.1 hr hrt (Or.inr ⟨a, rfl⟩) (fun t ht hWm => ⟨⟨(a, w), a, rfl, hp, rfl, by rw [ht]; exact hW.1, va_K.moved hWm.alike B.2.2.2.2.2, hW.2.1⟩, hW.2.2.F ht⟩) hW.2.2.2.2 hdg hlk)
variable {y : MethodName} {cd : Cond} {av : List Value} {bytes : ByteArray} {maxL np index : Nat}
theorem call_szr {post : Nat → (Nat → va_E) → Prop} {ret : Option FieldType} (B : Bs G p s m args c cc nL own) (hE : EX s) (hA : ∀ q, s.heap.size ≤ q → A q) (hW : Wo G A s.heap n ad w H locs) (hl : lin ad) (hn0 : 0 < n) (hsz : s.heap.size + cells = ad n) (hC : Czr l G y cd d mc ms n n' ad w av post) (M : MfS y cd bytes maxL ret np) (hlink : Cond.methodLink own index y ∈ lw_gd) (hn : av.length = np) (hR : d + 1 ≤ R.frames ∧ 8 + (maxL + 11) + 40 * d ≤ R.locals) (hc : cells + mc = cells') (hs : slots + ms = slots') (hcs : cells' ≤ R.cells ∧ slots' ≤ R.slots) (hsize : ls.size = nL) (hst : st = av.reverse ++ rest) (hcat : (rest.map fun v => v.category).sum ≤ 8) (hdg : decode cc pc = .ok (.invokestatic index, 3))
    (kk : ∀ (a : Nat) (w' : Nat → va_E) (H1 : Heap) (locs1 : List Loc), post a w' → Wo G A s.heap n' ad w' H1 locs1 → W p l e R s m args below meth c H1 locs1 cells' slots' Q (F0 m (pc + 3) ls (.ref a :: rest))) : W p l e R s m args below meth c H locs cells slots Q (F0 m pc ls st) := by
  subst hst
  subst hc
  subst hs
  refine z_end (hW.lo hl hn0) hsz (fun hq => ?_)
  have hAf : ∀ q, va_A (pw n ad w) (ad n) q → A q := by rw [← hq]; exact hW.fr hA
  refine va_callr (va_runS (As := av) (rest := rest) ⟨B.1, B.2.1, B.2.2.1, B.2.2.2.1, B.2.2.2.2.1⟩ hC (va_cwS (ret := ret) (bytes := bytes) (maxL := maxL) np B.2.2.2.2.1 (goodS M hlink) (by rw [M.1]) rfl rfl ⟨M.2.2.2.2.1, M.2.2.2.2.2.1, M.2.2.2.2.2.2⟩ hR) ⟨KtE_blind, fun U hU hWm => ⟨rfl, ⟨by rw [hU]; exact hq, by rw [hU]; exact hW.1, va_K.moved hWm.alike B.2.2.2.2.2, hW.2.1.weaken (fun _ _ _ _ => trivial)⟩, hE.warm hWm⟩⟩ rfl hn hsize rfl (lv_room hcat) hdg hcs) hW.2.2 (fun q _ h => hAf q h) hAf (fun u a t H1 locs1 ht hvm hw hB hz1 hk1 hS => ?_)
  obtain ⟨e1, hP1, hK1, hD1⟩ := hB
  rw [ht] at hP1
  subst e1
  exact kk u.1 u.2 H1 locs1 hw ⟨hP1, hD1.weaken (fun k q hq h => hAf _ h), hS⟩
end ZKZR
