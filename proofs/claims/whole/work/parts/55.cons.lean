/-! ===== contracts of methods that make cells ===== -/
def rz (d mc ms : Nat) : Room := { frames := d, cells := mc, slots := ms, locals := 40 * d }
def KtE (G : zG) (n : Nat) (ad : Nat → Nat) (w : Nat → va_E) (U : State) : Prop := Kt G n ad w (ad n) U ∧ EX U
def Cz (l : Launch) (G : zG) (y : MethodName) (cd : Cond) (d mc ms n n' : Nat) (ad : Nat → Nat) (w : Nat → va_E) (av : List Value) (post : (Nat → va_E) → Prop) : Prop :=
  Met l y (cd :: lw_gd) (rz d mc ms) (va_Pc av (KtE G n ad w)) (va_Qv post (Kp G n' ad (va_A (pw n ad w) (ad n))) (va_A (pw n ad w) (ad n))) mc ms (va_A (pw n ad w) (ad n))
theorem KtE_blind {G : zG} {n : Nat} {ad : Nat → Nat} {w : Nat → va_E} {av : List Value} : FrameBlind (va_Pc av (KtE G n ad w)) := fun a U g mk q => by
  obtain ⟨q0, ⟨q1, qP, qK, qD⟩, qE⟩ := q
  exact ⟨q0, ⟨q1, qP, va_K.moved (u := U) (U := U.calling g mk a) (Vm.Alike.refl U.vm) qK, qD⟩, EX.same (s := U) (U := U.calling g mk a) rfl qE⟩
theorem goodC {cd : Cond} (h : cd ∈ lw_gd) : GoodIn lw_gd (cd :: lw_gd) := by
  intro q hq
  have hm : q ∈ lw_gd := by
    rcases List.mem_cons.mp hq with rfl | hq
    · exact h
    · exact hq
  exact ⟨hm, good_of_word (goodAll q hm)⟩
section ZEZ
variable {l : Launch} {G : zG} {y : MethodName} {cd : Cond} {d mc ms n n' : Nat} {ad : Nat → Nat} {w : Nat → va_E} {av : List Value} {cc : ByteArray} {maxL : Nat}
theorem ent_z {post : (Nat → va_E) → Prop} {ret : Option FieldType} (hy : plainName y.cls = true) (hcd : cd = Cond.code y cc maxL ret) (hargs : (lg_sl av).length ≤ maxL)
    (body : ∀ (p : Program) (e : Env) (s : State) (m : MethodId) (args : Array Value) (below : List Frame) (meth : Method) (c : Code) (A : Nat → Prop), Bs G p s m args c cc maxL y.cls → EX s → meth.sig.returnType = ret → meth.locks = false → meth.name = y.name → (∀ q, s.heap.size ≤ q → A q) → s.heap.size = ad n → ∀ (H : Heap) (locs : List Loc) (ls : Array Slot), Wo G A s.heap n ad w H locs → lv_has ls maxL (lv_args 0 av) →
      W p l e (rz d mc ms) s m args below meth c H locs 0 0 (MQ below (va_Qv post (Kp G n' ad A) A) args s mc ms A) (F0 m 0 ls [])) : Cz l G y cd d mc ms n n' ad w av post := by
  refine Met.ofW (cc := cc) (maxL := maxL) (ret := ret) hy (by rw [hcd]) ?_
  intro p e s m args below meth c s₁ B hml hv
  obtain ⟨rfl, ⟨hsz, hP, hK, hD0⟩, hE⟩ := hv
  have hts := atoms_spec (ws := cd :: lw_gd) B.pre
  have hl := lv_entry av (n := maxL) hargs
  rw [lg_entry_eq]
  exact body p e s m _ below meth c _ ⟨B.exec, B.bytes, hml, findClass_of_methodNamed B.named, fun q hq => hts q (List.mem_cons_of_mem _ hq), hK⟩ hE B.returns B.notSynchronized (name_of_methodNamed B.named B.method).1 (fun q h => Or.inr (by rw [← hsz]; exact h)) hsz _ _ _ ⟨hP, hD0.self, va_S.rf⟩ hl
end ZEZ
section ZKZ
variable {p : Program} {l : Launch} {e : Env} {R : Room} {s : State} {m : MethodId} {args : Array Value} {below : List Frame} {meth : Method} {c : Code} {H : Heap} {locs : List Loc} {cells slots cells' slots' mc ms : Nat} {Q : State → Prop}
variable {cc : ByteArray} {pc : Nat} {ls : Array Slot} {rest st : List Value} {A : Nat → Prop} {G : zG} {n n' d : Nat} {ad : Nat → Nat} {w : Nat → va_E} {own : String} {nL : Nat}
theorem ret_zv {post : (Nat → va_E) → Prop} (B : Bs G p s m args c cc nL own) (hr : meth.sig.returnType = none) (hlk : meth.locks = false) (hW : Wo G A s.heap n' ad w H locs) (hp : post w) (hc : cells ≤ mc) (hs : slots ≤ ms) (hdg : decode cc pc = .ok (.return_, 1)) :
    W p l e R s m args below meth c H locs cells slots (MQ below (va_Qv post (Kp G n' ad A) A) args s mc ms A) (F0 m pc ls []) :=
  W.widen hc hs (W.vret B.1 B.2.1 hr (fun t ht hWm => ⟨⟨w, rfl, hp, by rw [ht]; exact hW.1, va_K.moved hWm.alike B.2.2.2.2.2, hW.2.1⟩, hW.2.2.F ht⟩) hW.2.2.2.2 hdg hlk)
theorem z_obj (B : Bs G p s m args c cc nL own) (hsize : ls.size = nL) {idx a : Nat} (hlk : Cond.methodLink own idx objectInit ∈ lw_gd) (hdg : decode cc pc = .ok (.invokespecial idx, 3)) (hR : 1 ≤ R.frames ∧ 20 ≤ R.locals) (hcat : (rest.map fun v => v.category).sum ≤ 8)
    (kk : W p l e R s m args below meth c H locs cells slots Q (F0 m (pc + 3) ls rest)) : W p l e R s m args below meth c H locs cells slots Q (F0 m pc ls (.ref a :: rest)) := by
  refine W.objInit B.1 B.2.1 B.2.2.2.1 (B.2.2.2.2.1 _ hlk) (B.2.2.2.2.1 _ hw_15) (B.2.2.2.2.1 _ hw_16) rfl (by rw [B.2.2.1]; exact hsize) rfl hdg hR.1 ?_ ?_
  · have h : 2 * (F0 m pc ls (.ref a :: rest)).monitorRoom + (rest.map fun v => v.category).sum ≤ 8 := lv_room hcat
    have := hR.2
    omega
  · exact W.eq (g2 := F0 m (pc + 3) ls rest) rfl kk
variable {y : MethodName} {cd : Cond} {av : List Value} {bytes : ByteArray} {maxL np index : Nat}
theorem call_sz {post : (Nat → va_E) → Prop} {ret : Option FieldType} (B : Bs G p s m args c cc nL own) (hE : EX s) (hA : ∀ q, s.heap.size ≤ q → A q) (hW : Wo G A s.heap n ad w H locs) (hl : lin ad) (hn0 : 0 < n) (hsz : s.heap.size + cells = ad n) (hC : Cz l G y cd d mc ms n n' ad w av post) (M : MfS y cd bytes maxL ret np) (hlink : Cond.methodLink own index y ∈ lw_gd) (hn : av.length = np) (hR : d + 1 ≤ R.frames ∧ 8 + (maxL + 11) + 40 * d ≤ R.locals) (hc : cells + mc = cells') (hs : slots + ms = slots') (hcs : cells' ≤ R.cells ∧ slots' ≤ R.slots) (hsize : ls.size = nL) (hst : st = av.reverse ++ rest) (hcat : (rest.map fun v => v.category).sum ≤ 8) (hdg : decode cc pc = .ok (.invokestatic index, 3))
    (kk : ∀ (w' : Nat → va_E) (H1 : Heap) (locs1 : List Loc), post w' → Wo G A s.heap n' ad w' H1 locs1 → W p l e R s m args below meth c H1 locs1 cells' slots' Q (F0 m (pc + 3) ls rest)) : W p l e R s m args below meth c H locs cells slots Q (F0 m pc ls st) := by
  subst hst
  subst hc
  subst hs
  refine z_end (hW.lo hl hn0) hsz (fun hq => ?_)
  have hAf : ∀ q, va_A (pw n ad w) (ad n) q → A q := by rw [← hq]; exact hW.fr hA
  refine va_callv (va_runS (As := av) (rest := rest) ⟨B.1, B.2.1, B.2.2.1, B.2.2.2.1, B.2.2.2.2.1⟩ hC (va_cwS (ret := ret) (bytes := bytes) (maxL := maxL) np B.2.2.2.2.1 (goodS M hlink) (by rw [M.1]) rfl rfl ⟨M.2.2.2.2.1, M.2.2.2.2.2.1, M.2.2.2.2.2.2⟩ hR) ⟨KtE_blind, fun U hU hWm => ⟨rfl, ⟨by rw [hU]; exact hq, by rw [hU]; exact hW.1, va_K.moved hWm.alike B.2.2.2.2.2, hW.2.1.weaken (fun _ _ _ _ => trivial)⟩, hE.warm hWm⟩⟩ rfl hn hsize rfl (lv_room hcat) hdg hcs) hW.2.2 (fun q _ h => hAf q h) hAf (fun w' t H1 locs1 ht hvm hw hB hz1 hk1 hS => ?_)
  obtain ⟨hP1, hK1, hD1⟩ := hB
  rw [ht] at hP1
  exact kk w' H1 locs1 hw ⟨hP1, hD1.weaken (fun k q hq h => hAf _ h), hS⟩
/-- a constructor without parameters -/
theorem call_Iz {post : (Nat → va_E) → Prop} (B : Bs G p s m args c cc nL own) (hE : EX s) (hA : ∀ q, s.heap.size ≤ q → A q) (hW : Wo G A s.heap n ad w H locs) (hl : lin ad) (hn0 : 0 < n) (hsz : s.heap.size + cells = ad n) {a : Nat} (hC : Cz l G y cd d mc ms n n' ad w [.ref a] post) (hcd : cd = Cond.code y bytes maxL none) (hcdm : cd ∈ lw_gd) (hini : Cond.initialized y.cls ∈ lw_gd) (hinst : Cond.instanceMethod y ∈ lw_gd) (hy : y.name = "<init>") (hd : y.cls ≠ "java/lang/invoke/MethodHandle" ∧ y.cls ≠ "java/lang/invoke/VarHandle" ∧ (parseMethodDescriptor y.desc).map (fun d => d.parameters.length) = some 0) (hlink : Cond.methodLink own index y ∈ lw_gd) (hR : d + 1 ≤ R.frames ∧ 8 + (maxL + 11) + 40 * d ≤ R.locals) (hc : cells + mc = cells') (hs : slots + ms = slots') (hcs : cells' ≤ R.cells ∧ slots' ≤ R.slots) (hsize : ls.size = nL) (hst : st = .ref a :: rest) (hcat : (rest.map fun v => v.category).sum ≤ 8) (hdg : decode cc pc = .ok (.invokespecial index, 3))
    (kk : ∀ (w' : Nat → va_E) (H1 : Heap) (locs1 : List Loc), post w' → Wo G A s.heap n' ad w' H1 locs1 → W p l e R s m args below meth c H1 locs1 cells' slots' Q (F0 m (pc + 3) ls rest)) : W p l e R s m args below meth c H locs cells slots Q (F0 m pc ls st) := by
  subst hst
  subst hc
  subst hs
  refine z_end (hW.lo hl hn0) hsz (fun hq => ?_)
  have hAf : ∀ q, va_A (pw n ad w) (ad n) q → A q := by rw [← hq]; exact hW.fr hA
  refine va_callv (va_runI (As := []) (rest := rest) ⟨B.1, B.2.1, B.2.2.1, B.2.2.2.1, B.2.2.2.2.1⟩ hC (cwI (bytes := bytes) (maxL := maxL) 0 B.2.2.2.2.1 (goodC hcdm) (by rw [hcd]) rfl rfl (B.2.2.2.2.1 _ hini) (B.2.2.2.2.1 _ hlink) (B.2.2.2.2.1 _ hinst) hy hd hR) ⟨KtE_blind, fun U hU hWm => ⟨rfl, ⟨by rw [hU]; exact hq, by rw [hU]; exact hW.1, va_K.moved hWm.alike B.2.2.2.2.2, hW.2.1.weaken (fun _ _ _ _ => trivial)⟩, hE.warm hWm⟩⟩ rfl rfl hsize rfl (lv_room hcat) hdg hcs) hW.2.2 (fun q _ h => hAf q h) hAf (fun w' t H1 locs1 ht hvm hw hB hz1 hk1 hS => ?_)
  obtain ⟨hP1, hK1, hD1⟩ := hB
  rw [ht] at hP1
  exact kk w' H1 locs1 hw ⟨hP1, hD1.weaken (fun k q hq h => hAf _ h), hS⟩
/-- Form's own, private, called by a mate of its nest -/
theorem call_INz {post : (Nat → va_E) → Prop} (B : Bs G p s m args c cc nL RX4) (hE : EX s) (hA : ∀ q, s.heap.size ≤ q → A q) (hW : Wo G A s.heap n ad w H locs) (hl : lin ad) (hn0 : 0 < n) (hsz : s.heap.size + cells = ad n) {a : Nat} (hC : Cz l G yX1_init cdX1_init d mc ms n n' ad w [.ref a] post) (hR : d + 1 ≤ R.frames ∧ 8 + (1 + 11) + 40 * d ≤ R.locals) (hc : cells + mc = cells') (hs : slots + ms = slots') (hcs : cells' ≤ R.cells ∧ slots' ≤ R.slots) (hsize : ls.size = nL) (hst : st = .ref a :: rest) (hcat : (rest.map fun v => v.category).sum ≤ 8) (hdg : decode cc pc = .ok (.invokespecial 43, 3))
    (kk : ∀ (w' : Nat → va_E) (H1 : Heap) (locs1 : List Loc), post w' → Wo G A s.heap n' ad w' H1 locs1 → W p l e R s m args below meth c H1 locs1 cells' slots' Q (F0 m (pc + 3) ls rest)) : W p l e R s m args below meth c H locs cells slots Q (F0 m pc ls st) := by
  subst hst
  subst hc
  subst hs
  refine z_end (hW.lo hl hn0) hsz (fun hq => ?_)
  have hAf : ∀ q, va_A (pw n ad w) (ad n) q → A q := by rw [← hq]; exact hW.fr hA
  refine va_callv (va_runIN (As := []) (rest := rest) ⟨B.1, B.2.1, B.2.2.1, B.2.2.2.1, B.2.2.2.2.1⟩ hC ⟨va_cnB (bytes := cX1_init) (maxL := 1) 0 B.2.2.2.2.1 (goodC hw_98) rfl rfl rfl hE.2.2 (B.2.2.2.2.1 _ hw_7) ⟨by decide, by decide, by decide +kernel⟩ hR, rfl, B.2.2.2.2.1 _ hw_97⟩ ⟨KtE_blind, fun U hU hWm => ⟨rfl, ⟨by rw [hU]; exact hq, by rw [hU]; exact hW.1, va_K.moved hWm.alike B.2.2.2.2.2, hW.2.1.weaken (fun _ _ _ _ => trivial)⟩, hE.warm hWm⟩⟩ rfl rfl hsize rfl (lv_room hcat) hdg hcs) hW.2.2 (fun q _ h => hAf q h) hAf (fun w' t H1 locs1 ht hvm hw hB hz1 hk1 hS => ?_)
  obtain ⟨hP1, hK1, hD1⟩ := hB
  rw [ht] at hP1
  exact kk w' H1 locs1 hw ⟨hP1, hD1.weaken (fun k q hq h => hAf _ h), hS⟩
theorem z_astF {H0 : Heap} (B : Bs G p s m args c cc nL own) (hW : Wo G A H0 n ad w H locs) (k : Nat) (hk : k < n) {N : Nat} {f : Nat → Option Nat} (he : w k = eF G N f) (k2 : Nat) (hk2 : k2 < n) {fs : List Value} (he2 : w k2 = eO 1 fs) (j : Nat) (hj : j < N) (hN : N < 2 ^ 31) (hdg : decode cc pc = .ok (.aastore, 1))
    (kk : ∀ (H1 : Heap) (locs1 : List Loc), Wo G A H0 n ad (va_up w k (eF G N (va_up f j (some (ad k2))))) H1 locs1 → W p l e R s m args below meth c H1 locs1 cells slots Q (F0 m (pc + 1) ls rest)) : W p l e R s m args below meth c H locs cells slots Q (F0 m pc ls (.ref (ad k2) :: .int (nI j) :: .ref (ad k) :: rest)) :=
  va_astq B.1 B.2.1 B.2.2.2.2.2 hW.1 hW.2.1 hW.2.2 k 2 k2 1 (r := (RX1, TX1, 4)) (by rw [pw_get hk, he]; rfl) rfl (by rw [pw_get hk2, he2]; rfl) rfl (vp_in_nI hj hN) hdg (fun H1 locs1 h1 h2 h3 => by
    rw [nI_clamp (by omega)] at h1 h2
    refine kk H1 locs1 ⟨?_, ?_, h3⟩
    · rw [← pw_set hk]; exact h1
    · rw [← pw_set hk]; exact h2)
end ZKZ
