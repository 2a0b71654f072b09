/-! ===== contracts over a world of places; entries, answers, calls ===== -/
theorem goodAll : ∀ q ∈ lw_gd, goodWord q = true := fun _ h => (List.mem_filter.mp h).2
set_option maxRecDepth 100000 in
theorem inX0 : ∀ q ∈ u_ws RX0 TX0 8, q ∈ lw_gd := by decide +kernel
set_option maxRecDepth 100000 in
theorem inX1 : ∀ q ∈ u_ws RX1 TX1 4, q ∈ lw_gd := by decide +kernel
set_option maxRecDepth 100000 in
theorem inX4 : ∀ q ∈ u_ws RX4 TX4 9, q ∈ lw_gd := by decide +kernel
set_option maxRecDepth 100000 in
theorem inX5 : ∀ q ∈ u_ws RX5 TX5 20, q ∈ lw_gd := by decide +kernel
/-- the room of a method that makes nothing, d calls deep -/
def zr (d : Nat) : Room := { frames := d, cells := 0, slots := 0, locals := 40 * d }
def Kt (G : zG) (n : Nat) (ad : Nat → Nat) (w : Nat → va_E) (sz : Nat) (U : State) : Prop := U.heap.size = sz ∧ va_P G.1 zC (pw n ad w) U.heap ∧ va_K G.1 zC (zT G) U ∧ va_D (fun _ => True) (pw n ad w)
def Kp (G : zG) (n : Nat) (ad : Nat → Nat) (A : Nat → Prop) (w : Nat → va_E) (t : State) : Prop := va_P G.1 zC (pw n ad w) t.heap ∧ va_K G.1 zC (zT G) t ∧ va_D A (pw n ad w)
def Ci (l : Launch) (G : zG) (y : MethodName) (cd : Cond) (rm : Room) (n : Nat) (ad : Nat → Nat) (w : Nat → va_E) (av : List Value) (post : Int32 → (Nat → va_E) → Prop) : Prop :=
  ∀ sz : Nat, Met l y (cd :: lw_gd) rm (va_Pc av (Kt G n ad w sz)) (va_Qi post (Kp G n ad (va_A (pw n ad w) sz)) (va_A (pw n ad w) sz)) 0 0 (va_A (pw n ad w) sz)
def Cl (l : Launch) (G : zG) (y : MethodName) (cd : Cond) (rm : Room) (n : Nat) (ad : Nat → Nat) (w : Nat → va_E) (av : List Value) (post : Int64 → (Nat → va_E) → Prop) : Prop :=
  ∀ sz : Nat, Met l y (cd :: lw_gd) rm (va_Pc av (Kt G n ad w sz)) (va_Ql post (Kp G n ad (va_A (pw n ad w) sz)) (va_A (pw n ad w) sz)) 0 0 (va_A (pw n ad w) sz)
def Cv (l : Launch) (G : zG) (y : MethodName) (cd : Cond) (rm : Room) (n : Nat) (ad : Nat → Nat) (w : Nat → va_E) (av : List Value) (post : (Nat → va_E) → Prop) : Prop :=
  ∀ sz : Nat, Met l y (cd :: lw_gd) rm (va_Pc av (Kt G n ad w sz)) (va_Qv post (Kp G n ad (va_A (pw n ad w) sz)) (va_A (pw n ad w) sz)) 0 0 (va_A (pw n ad w) sz)
def Kr (G : zG) (n : Nat) (ad : Nat → Nat) (A : Nat → Prop) (u : Nat × (Nat → va_E)) (a : Nat) (t : State) : Prop := a = u.1 ∧ Kp G n ad A u.2 t
def Cr (l : Launch) (G : zG) (y : MethodName) (cd : Cond) (rm : Room) (n : Nat) (ad : Nat → Nat) (w : Nat → va_E) (av : List Value) (post : Nat → (Nat → va_E) → Prop) : Prop :=
  ∀ sz : Nat, Met l y (cd :: lw_gd) rm (va_Pc av (Kt G n ad w sz)) (va_Qr (fun u : Nat × (Nat → va_E) => post u.1 u.2) (Kr G n ad (va_A (pw n ad w) sz)) (va_A (pw n ad w) sz)) 0 0 (va_A (pw n ad w) sz)
theorem Kt_blind {G : zG} {n : Nat} {ad : Nat → Nat} {w : Nat → va_E} {sz : Nat} {av : List Value} : FrameBlind (va_Pc av (Kt G n ad w sz)) := fun a U g mk q => by
  obtain ⟨q0, q1, qP, qK, qD⟩ := q
  exact ⟨q0, q1, qP, va_K.moved (u := U) (U := U.calling g mk a) (Vm.Alike.refl U.vm) qK, qD⟩
/-- what the tables say of a static method -/
def MfS (y : MethodName) (cd : Cond) (bytes : ByteArray) (maxL : Nat) (ret : Option FieldType) (np : Nat) : Prop :=
  cd = Cond.code y bytes maxL ret ∧ cd ∈ lw_gd ∧ Cond.static y ∈ lw_gd ∧ Cond.initialized y.cls ∈ lw_gd ∧ y.cls ≠ "java/lang/invoke/MethodHandle" ∧ y.cls ≠ "java/lang/invoke/VarHandle" ∧ (parseMethodDescriptor y.desc).map (fun d => d.parameters.length) = some np
/-- what the tables say of a method of objects -/
def MfV (y : MethodName) (cd : Cond) (bytes : ByteArray) (maxL : Nat) (ret : Option FieldType) (np : Nat) : Prop :=
  cd = Cond.code y bytes maxL ret ∧ cd ∈ lw_gd ∧ Cond.instanceMethod y ∈ lw_gd ∧ Cond.selects y.cls y y ∈ lw_gd ∧ Cond.initialized y.cls ∈ lw_gd ∧ y.cls ≠ "java/lang/invoke/MethodHandle" ∧ y.cls ≠ "java/lang/invoke/VarHandle" ∧ (parseMethodDescriptor y.desc).map (fun d => d.parameters.length) = some np
theorem goodS {y : MethodName} {cd : Cond} {bytes : ByteArray} {maxL : Nat} {ret : Option FieldType} {np : Nat} {own : String} {index : Nat} (M : MfS y cd bytes maxL ret np) (hl : Cond.methodLink own index y ∈ lw_gd) : GoodIn lw_gd (va_wsS own index y (cd :: lw_gd)) := by
  intro q hq
  have hm : q ∈ lw_gd := by
    simp only [va_wsS, List.cons_append, List.nil_append, List.mem_cons] at hq
    rcases hq with rfl | rfl | rfl | rfl | hq
    · exact hl
    · exact M.2.2.1
    · exact M.2.2.2.1
    · exact M.2.1
    · exact hq
  exact ⟨hm, good_of_word (goodAll q hm)⟩
theorem goodV {y : MethodName} {cd : Cond} {bytes : ByteArray} {maxL : Nat} {ret : Option FieldType} {np : Nat} {own : String} {index : Nat} (M : MfV y cd bytes maxL ret np) (hl : Cond.methodLink own index y ∈ lw_gd) : GoodIn lw_gd (wsV own index y.cls y (cd :: lw_gd)) := by
  intro q hq
  have hm : q ∈ lw_gd := by
    simp only [wsV, List.cons_append, List.nil_append, List.mem_cons] at hq
    rcases hq with rfl | rfl | rfl | rfl | rfl | hq
    · exact hl
    · exact M.2.2.1
    · exact M.2.2.2.1
    · exact M.2.2.2.2.1
    · exact M.2.1
    · exact hq
  exact ⟨hm, good_of_word (goodAll q hm)⟩
section ZE
variable {l : Launch} {G : zG} {y : MethodName} {cd : Cond} {rm : Room} {n : Nat} {ad : Nat → Nat} {w : Nat → va_E} {av : List Value} {cc : ByteArray} {maxL : Nat}
theorem ent_i {post : Int32 → (Nat → va_E) → Prop} {ret : Option FieldType} (hy : plainName y.cls = true) (hcd : cd = Cond.code y cc maxL ret) (hargs : (lg_sl av).length ≤ maxL)
    (body : ∀ (p : Program) (e : Env) (s : State) (m : MethodId) (args : Array Value) (below : List Frame) (meth : Method) (c : Code) (A : Nat → Prop), Bs G p s m args c cc maxL y.cls → meth.sig.returnType = ret → meth.locks = false → (∀ q, s.heap.size ≤ q → A q) → ∀ (H : Heap) (locs : List Loc) (ls : Array Slot), Wo G A s.heap n ad w H locs → lv_has ls maxL (lv_args 0 av) →
      W p l e rm s m args below meth c H locs 0 0 (MQ below (va_Qi post (Kp G n ad A) A) args s 0 0 A) (F0 m 0 ls [])) : Ci l G y cd rm n ad w av post := by
  intro sz
  refine Met.ofW (cc := cc) (maxL := maxL) (ret := ret) hy (by rw [hcd]) ?_
  intro p e s m args below meth c s₁ B hml hv
  obtain ⟨rfl, hsz, hP, hK, hD0⟩ := hv
  subst hsz
  have hts := atoms_spec (ws := cd :: lw_gd) B.pre
  have hl := lv_entry av (n := maxL) hargs
  rw [lg_entry_eq]
  exact body p e s m _ below meth c _ ⟨B.exec, B.bytes, hml, findClass_of_methodNamed B.named, fun q hq => hts q (List.mem_cons_of_mem _ hq), hK⟩ B.returns B.notSynchronized (fun q h => Or.inr h) _ _ _ ⟨hP, hD0.self, va_S.rf⟩ hl
theorem ent_l {post : Int64 → (Nat → va_E) → Prop} {ret : Option FieldType} (hy : plainName y.cls = true) (hcd : cd = Cond.code y cc maxL ret) (hargs : (lg_sl av).length ≤ maxL)
    (body : ∀ (p : Program) (e : Env) (s : State) (m : MethodId) (args : Array Value) (below : List Frame) (meth : Method) (c : Code) (A : Nat → Prop), Bs G p s m args c cc maxL y.cls → meth.sig.returnType = ret → meth.locks = false → (∀ q, s.heap.size ≤ q → A q) → ∀ (H : Heap) (locs : List Loc) (ls : Array Slot), Wo G A s.heap n ad w H locs → lv_has ls maxL (lv_args 0 av) →
      W p l e rm s m args below meth c H locs 0 0 (MQ below (va_Ql post (Kp G n ad A) A) args s 0 0 A) (F0 m 0 ls [])) : Cl l G y cd rm n ad w av post := by
  intro sz
  refine Met.ofW (cc := cc) (maxL := maxL) (ret := ret) hy (by rw [hcd]) ?_
  intro p e s m args below meth c s₁ B hml hv
  obtain ⟨rfl, hsz, hP, hK, hD0⟩ := hv
  subst hsz
  have hts := atoms_spec (ws := cd :: lw_gd) B.pre
  have hl := lv_entry av (n := maxL) hargs
  rw [lg_entry_eq]
  exact body p e s m _ below meth c _ ⟨B.exec, B.bytes, hml, findClass_of_methodNamed B.named, fun q hq => hts q (List.mem_cons_of_mem _ hq), hK⟩ B.returns B.notSynchronized (fun q h => Or.inr h) _ _ _ ⟨hP, hD0.self, va_S.rf⟩ hl
theorem ent_v {post : (Nat → va_E) → Prop} {ret : Option FieldType} (hy : plainName y.cls = true) (hcd : cd = Cond.code y cc maxL ret) (hargs : (lg_sl av).length ≤ maxL)
    (body : ∀ (p : Program) (e : Env) (s : State) (m : MethodId) (args : Array Value) (below : List Frame) (meth : Method) (c : Code) (A : Nat → Prop), Bs G p s m args c cc maxL y.cls → meth.sig.returnType = ret → meth.locks = false → (∀ q, s.heap.size ≤ q → A q) → ∀ (H : Heap) (locs : List Loc) (ls : Array Slot), Wo G A s.heap n ad w H locs → lv_has ls maxL (lv_args 0 av) →
      W p l e rm s m args below meth c H locs 0 0 (MQ below (va_Qv post (Kp G n ad A) A) args s 0 0 A) (F0 m 0 ls [])) : Cv l G y cd rm n ad w av post := by
  intro sz
  refine Met.ofW (cc := cc) (maxL := maxL) (ret := ret) hy (by rw [hcd]) ?_
  intro p e s m args below meth c s₁ B hml hv
  obtain ⟨rfl, hsz, hP, hK, hD0⟩ := hv
  subst hsz
  have hts := atoms_spec (ws := cd :: lw_gd) B.pre
  have hl := lv_entry av (n := maxL) hargs
  rw [lg_entry_eq]
  exact body p e s m _ below meth c _ ⟨B.exec, B.bytes, hml, findClass_of_methodNamed B.named, fun q hq => hts q (List.mem_cons_of_mem _ hq), hK⟩ B.returns B.notSynchronized (fun q h => Or.inr h) _ _ _ ⟨hP, hD0.self, va_S.rf⟩ hl
theorem ent_r {post : Nat → (Nat → va_E) → Prop} {ret : Option FieldType} (hy : plainName y.cls = true) (hcd : cd = Cond.code y cc maxL ret) (hargs : (lg_sl av).length ≤ maxL)
    (body : ∀ (p : Program) (e : Env) (s : State) (m : MethodId) (args : Array Value) (below : List Frame) (meth : Method) (c : Code) (A : Nat → Prop), Bs G p s m args c cc maxL y.cls → meth.sig.returnType = ret → meth.locks = false → (∀ q, s.heap.size ≤ q → A q) → ∀ (H : Heap) (locs : List Loc) (ls : Array Slot), Wo G A s.heap n ad w H locs → lv_has ls maxL (lv_args 0 av) →
      W p l e rm s m args below meth c H locs 0 0 (MQ below (va_Qr (fun u : Nat × (Nat → va_E) => post u.1 u.2) (Kr G n ad A) A) args s 0 0 A) (F0 m 0 ls [])) : Cr l G y cd rm n ad w av post := by
  intro sz
  refine Met.ofW (cc := cc) (maxL := maxL) (ret := ret) hy (by rw [hcd]) ?_
  intro p e s m args below meth c s₁ B hml hv
  obtain ⟨rfl, hsz, hP, hK, hD0⟩ := hv
  subst hsz
  have hts := atoms_spec (ws := cd :: lw_gd) B.pre
  have hl := lv_entry av (n := maxL) hargs
  rw [lg_entry_eq]
  exact body p e s m _ below meth c _ ⟨B.exec, B.bytes, hml, findClass_of_methodNamed B.named, fun q hq => hts q (List.mem_cons_of_mem _ hq), hK⟩ B.returns B.notSynchronized (fun q h => Or.inr h) _ _ _ ⟨hP, hD0.self, va_S.rf⟩ hl
end ZE
section ZK
variable {p : Program} {l : Launch} {e : Env} {R : Room} {s : State} {m : MethodId} {args : Array Value} {below : List Frame} {meth : Method} {c : Code} {H : Heap} {locs : List Loc} {cells slots : Nat} {Q : State → Prop}
variable {cc : ByteArray} {pc : Nat} {ls : Array Slot} {rest st : List Value} {A : Nat → Prop} {G : zG} {n : Nat} {ad : Nat → Nat} {w : Nat → va_E} {own : String} {nL : Nat}
theorem ret_i {post : Int32 → (Nat → va_E) → Prop} (B : Bs G p s m args c cc nL own) (hr : meth.sig.returnType = some .int) (hlk : meth.locks = false) (hW : Wo G A s.heap n ad w H locs) {v : Int32} (hp : post v w) (hdg : decode cc pc = .ok (.ireturn, 1)) :
    W p l e R s m args below meth c H locs cells slots (MQ below (va_Qi post (Kp G n ad A) A) args s cells slots A) (F0 m pc ls [.int v]) :=
  W.iret B.1 B.2.1 hr (fun t ht hWm => ⟨⟨v, w, rfl, hp, by rw [ht]; exact hW.1, va_K.moved hWm.alike B.2.2.2.2.2, hW.2.1⟩, hW.2.2.F ht⟩) hW.2.2.2.2 hdg hlk
theorem ret_z {post : Int32 → (Nat → va_E) → Prop} (B : Bs G p s m args c cc nL own) (hr : meth.sig.returnType = some .boolean) (hlk : meth.locks = false) (hW : Wo G A s.heap n ad w H locs) {v : Int32} (hn : narrow .boolean (.int v) = .int v) (hp : post v w) (hdg : decode cc pc = .ok (.ireturn, 1)) :
    W p l e R s m args below meth c H locs cells slots (MQ below (va_Qi post (Kp G n ad A) A) args s cells slots A) (F0 m pc ls [.int v]) :=
  W.zret B.1 B.2.1 hr hn (fun t ht hWm => ⟨⟨v, w, rfl, hp, by rw [ht]; exact hW.1, va_K.moved hWm.alike B.2.2.2.2.2, hW.2.1⟩, hW.2.2.F ht⟩) hW.2.2.2.2 hdg hlk
theorem ret_l {post : Int64 → (Nat → va_E) → Prop} (B : Bs G p s m args c cc nL own) (hr : meth.sig.returnType = some .long) (hlk : meth.locks = false) (hW : Wo G A s.heap n ad w H locs) {v : Int64} (hp : post v w) (hdg : decode cc pc = .ok (.lreturn, 1)) :
    W p l e R s m args below meth c H locs cells slots (MQ below (va_Ql post (Kp G n ad A) A) args s cells slots A) (F0 m pc ls [.long v]) :=
  W.lret B.1 B.2.1 hr (fun t ht hWm => ⟨⟨v, w, rfl, hp, by rw [ht]; exact hW.1, va_K.moved hWm.alike B.2.2.2.2.2, hW.2.1⟩, hW.2.2.F ht⟩) hW.2.2.2.2 hdg hlk
theorem ret_v {post : (Nat → va_E) → Prop} (B : Bs G p s m args c cc nL own) (hr : meth.sig.returnType = none) (hlk : meth.locks = false) (hW : Wo G A s.heap n ad w H locs) (hp : post w) (hdg : decode cc pc = .ok (.return_, 1)) :
    W p l e R s m args below meth c H locs cells slots (MQ below (va_Qv post (Kp G n ad A) A) args s cells slots A) (F0 m pc ls []) :=
  W.vret B.1 B.2.1 hr (fun t ht hWm => ⟨⟨w, rfl, hp, by rw [ht]; exact hW.1, va_K.moved hWm.alike B.2.2.2.2.2, hW.2.1⟩, hW.2.2.F ht⟩) hW.2.2.2.2 hdg hlk
theorem ret_r {post : Nat → (Nat → va_E) → Prop} {rt : FieldType} (B : Bs G p s m args c cc nL own) (hr : meth.sig.returnType = some rt) (hrt : (∃ n, rt = .object n) ∨ ∃ t, rt = .array t) (hlk : meth.locks = false) (hW : Wo G A s.heap n ad w H locs) {a : Nat} (hp : post a w) (hdg : decode cc pc = .ok (.areturn, 1)) :
    W p l e R s m args below meth c H locs cells slots (MQ below (va_Qr (fun u : Nat × (Nat → va_E) => post u.1 u.2) (Kr G n ad A) A) args s cells slots A) (F0 m pc ls [.ref a]) :=
  W.aret B.1 B.2.1 hr hrt (Or.inr ⟨a, rfl⟩) (fun t ht hWm => ⟨⟨(a, w), a, rfl, hp, rfl, by rw [ht]; exact hW.1, va_K.moved hWm.alike B.2.2.2.2.2, hW.2.1⟩, hW.2.2.F ht⟩) hW.2.2.2.2 hdg hlk
theorem Wo.fr (hA : ∀ q, s.heap.size ≤ q → A q) (hW : Wo G A s.heap n ad w H locs) : ∀ q, va_A (pw n ad w) H.size q → A q := by
  intro q h
  rcases h with ⟨k, e, h⟩ | h
  · exact hW.2.1.2 k _ h
  · exact hA q (Nat.le_trans hW.2.2.1 h)
variable {y : MethodName} {cd : Cond} {rm : Room} {av As : List Value} {bytes : ByteArray} {maxL np index : Nat}
theorem call_si {post : Int32 → (Nat → va_E) → Prop} {ret : Option FieldType} (B : Bs G p s m args c cc nL own) (hA : ∀ q, s.heap.size ≤ q → A q) (hW : Wo G A s.heap n ad w H locs) (hC : Ci l G y cd rm n ad w av post) (M : MfS y cd bytes maxL ret np) (hlink : Cond.methodLink own index y ∈ lw_gd) (hn : av.length = np) (hR : (rm.cells = 0 ∧ rm.slots = 0) ∧ rm.frames + 1 ≤ R.frames ∧ 8 + (maxL + 11) + rm.locals ≤ R.locals) (hcs : cells ≤ R.cells ∧ slots ≤ R.slots) (hsize : ls.size = nL) (hst : st = av.reverse ++ rest) (hcat : (rest.map fun v => v.category).sum ≤ 8) (hdg : decode cc pc = .ok (.invokestatic index, 3))
    (kk : ∀ (r : Int32) (w' : Nat → va_E) (H1 : Heap) (locs1 : List Loc), post r w' → Wo G A s.heap n ad w' H1 locs1 → W p l e R s m args below meth c H1 locs1 cells slots Q (F0 m (pc + 3) ls (.int r :: rest))) : W p l e R s m args below meth c H locs cells slots Q (F0 m pc ls st) := by
  subst hst
  have hAf := hW.fr hA
  refine va_calli (va_runS (As := av) (rest := rest) ⟨B.1, B.2.1, B.2.2.1, B.2.2.2.1, B.2.2.2.2.1⟩ (hC H.size) (va_cwS (ret := ret) (bytes := bytes) (maxL := maxL) np B.2.2.2.2.1 (goodS M hlink) (by rw [M.1]) hR.1.1 hR.1.2 ⟨M.2.2.2.2.1, M.2.2.2.2.2.1, M.2.2.2.2.2.2⟩ hR.2) ⟨Kt_blind, fun U hU hWm => ⟨rfl, by rw [hU], by rw [hU]; exact hW.1, va_K.moved hWm.alike B.2.2.2.2.2, hW.2.1.weaken (fun _ _ _ _ => trivial)⟩⟩ rfl hn hsize rfl (lv_room hcat) hdg hcs) hW.2.2 (fun q _ h => hAf q h) hAf (fun r w' t H1 locs1 ht hvm hw hB hz1 hk1 hS => ?_)
  obtain ⟨hP1, hK1, hD1⟩ := hB
  rw [ht] at hP1
  exact kk r w' H1 locs1 hw ⟨hP1, hD1.weaken (fun k q hq h => hAf _ h), hS⟩
theorem call_sl {post : Int64 → (Nat → va_E) → Prop} {ret : Option FieldType} (B : Bs G p s m args c cc nL own) (hA : ∀ q, s.heap.size ≤ q → A q) (hW : Wo G A s.heap n ad w H locs) (hC : Cl l G y cd rm n ad w av post) (M : MfS y cd bytes maxL ret np) (hlink : Cond.methodLink own index y ∈ lw_gd) (hn : av.length = np) (hR : (rm.cells = 0 ∧ rm.slots = 0) ∧ rm.frames + 1 ≤ R.frames ∧ 8 + (maxL + 11) + rm.locals ≤ R.locals) (hcs : cells ≤ R.cells ∧ slots ≤ R.slots) (hsize : ls.size = nL) (hst : st = av.reverse ++ rest) (hcat : (rest.map fun v => v.category).sum ≤ 8) (hdg : decode cc pc = .ok (.invokestatic index, 3))
    (kk : ∀ (r : Int64) (w' : Nat → va_E) (H1 : Heap) (locs1 : List Loc), post r w' → Wo G A s.heap n ad w' H1 locs1 → W p l e R s m args below meth c H1 locs1 cells slots Q (F0 m (pc + 3) ls (.long r :: rest))) : W p l e R s m args below meth c H locs cells slots Q (F0 m pc ls st) := by
  subst hst
  have hAf := hW.fr hA
  refine va_calll (va_runS (As := av) (rest := rest) ⟨B.1, B.2.1, B.2.2.1, B.2.2.2.1, B.2.2.2.2.1⟩ (hC H.size) (va_cwS (ret := ret) (bytes := bytes) (maxL := maxL) np B.2.2.2.2.1 (goodS M hlink) (by rw [M.1]) hR.1.1 hR.1.2 ⟨M.2.2.2.2.1, M.2.2.2.2.2.1, M.2.2.2.2.2.2⟩ hR.2) ⟨Kt_blind, fun U hU hWm => ⟨rfl, by rw [hU], by rw [hU]; exact hW.1, va_K.moved hWm.alike B.2.2.2.2.2, hW.2.1.weaken (fun _ _ _ _ => trivial)⟩⟩ rfl hn hsize rfl (lv_room hcat) hdg hcs) hW.2.2 (fun q _ h => hAf q h) hAf (fun r w' t H1 locs1 ht hvm hw hB hz1 hk1 hS => ?_)
  obtain ⟨hP1, hK1, hD1⟩ := hB
  rw [ht] at hP1
  exact kk r w' H1 locs1 hw ⟨hP1, hD1.weaken (fun k q hq h => hAf _ h), hS⟩
theorem call_sv {post : (Nat → va_E) → Prop} {ret : Option FieldType} (B : Bs G p s m args c cc nL own) (hA : ∀ q, s.heap.size ≤ q → A q) (hW : Wo G A s.heap n ad w H locs) (hC : Cv l G y cd rm n ad w av post) (M : MfS y cd bytes maxL ret np) (hlink : Cond.methodLink own index y ∈ lw_gd) (hn : av.length = np) (hR : (rm.cells = 0 ∧ rm.slots = 0) ∧ rm.frames + 1 ≤ R.frames ∧ 8 + (maxL + 11) + rm.locals ≤ R.locals) (hcs : cells ≤ R.cells ∧ slots ≤ R.slots) (hsize : ls.size = nL) (hst : st = av.reverse ++ rest) (hcat : (rest.map fun v => v.category).sum ≤ 8) (hdg : decode cc pc = .ok (.invokestatic index, 3))
    (kk : ∀ (w' : Nat → va_E) (H1 : Heap) (locs1 : List Loc), post w' → Wo G A s.heap n ad w' H1 locs1 → W p l e R s m args below meth c H1 locs1 cells slots Q (F0 m (pc + 3) ls rest)) : W p l e R s m args below meth c H locs cells slots Q (F0 m pc ls st) := by
  subst hst
  have hAf := hW.fr hA
  refine va_callv (va_runS (As := av) (rest := rest) ⟨B.1, B.2.1, B.2.2.1, B.2.2.2.1, B.2.2.2.2.1⟩ (hC H.size) (va_cwS (ret := ret) (bytes := bytes) (maxL := maxL) np B.2.2.2.2.1 (goodS M hlink) (by rw [M.1]) hR.1.1 hR.1.2 ⟨M.2.2.2.2.1, M.2.2.2.2.2.1, M.2.2.2.2.2.2⟩ hR.2) ⟨Kt_blind, fun U hU hWm => ⟨rfl, by rw [hU], by rw [hU]; exact hW.1, va_K.moved hWm.alike B.2.2.2.2.2, hW.2.1.weaken (fun _ _ _ _ => trivial)⟩⟩ rfl hn hsize rfl (lv_room hcat) hdg hcs) hW.2.2 (fun q _ h => hAf q h) hAf (fun w' t H1 locs1 ht hvm hw hB hz1 hk1 hS => ?_)
  obtain ⟨hP1, hK1, hD1⟩ := hB
  rw [ht] at hP1
  exact kk w' H1 locs1 hw ⟨hP1, hD1.weaken (fun k q hq h => hAf _ h), hS⟩
theorem call_vi {post : Int32 → (Nat → va_E) → Prop} {ret : Option FieldType} (B : Bs G p s m args c cc nL own) (hA : ∀ q, s.heap.size ≤ q → A q) (hW : Wo G A s.heap n ad w H locs) (k : Nat) (hk : k < n) {ci : Nat} {fs : List Value} (he : w k = eO ci fs) {r : vw_C} (hcl : zC[ci]? = some r) (hrn : r.1 = y.cls) (hC : Ci l G y cd rm n ad w (.ref (ad k) :: As) post) (M : MfV y cd bytes maxL ret np) (hlink : Cond.methodLink own index y ∈ lw_gd) (hn : As.length = np) (hR : (rm.cells = 0 ∧ rm.slots = 0) ∧ rm.frames + 1 ≤ R.frames ∧ 8 + (maxL + 11) + rm.locals ≤ R.locals) (hcs : cells ≤ R.cells ∧ slots ≤ R.slots) (hsize : ls.size = nL) (hst : st = As.reverse ++ .ref (ad k) :: rest) (hcat : (rest.map fun v => v.category).sum ≤ 8) (hdg : decode cc pc = .ok (.invokevirtual index, 3))
    (kk : ∀ (r : Int32) (w' : Nat → va_E) (H1 : Heap) (locs1 : List Loc), post r w' → Wo G A s.heap n ad w' H1 locs1 → W p l e R s m args below meth c H1 locs1 cells slots Q (F0 m (pc + 3) ls (.int r :: rest))) : W p l e R s m args below meth c H locs cells slots Q (F0 m pc ls st) := by
  subst hst
  have hAf := hW.fr hA
  refine va_calli (va_runV (C := y.cls) (As := As) (rest := rest) ⟨B.1, B.2.1, B.2.2.1, B.2.2.2.1, B.2.2.2.2.1⟩ (hC H.size) (cwV (ret := ret) (bytes := bytes) (maxL := maxL) np B.2.2.2.2.1 (goodV M hlink) (by rw [M.1]) hR.1.1 hR.1.2 ⟨rfl, M.2.2.2.2.2.1, M.2.2.2.2.2.2.1, M.2.2.2.2.2.2.2⟩ hR.2) ⟨Kt_blind, by rw [← hrn]; exact va_recv B.2.2.2.2.2 hW.1 hcl (by rw [pw_get hk, he]; rfl), fun U hU hWm => ⟨rfl, by rw [hU], by rw [hU]; exact hW.1, va_K.moved hWm.alike B.2.2.2.2.2, hW.2.1.weaken (fun _ _ _ _ => trivial)⟩⟩ rfl hn hsize rfl (lv_room hcat) hdg hcs) hW.2.2 (fun q _ h => hAf q h) hAf (fun r w' t H1 locs1 ht hvm hw hB hz1 hk1 hS => ?_)
  obtain ⟨hP1, hK1, hD1⟩ := hB
  rw [ht] at hP1
  exact kk r w' H1 locs1 hw ⟨hP1, hD1.weaken (fun k q hq h => hAf _ h), hS⟩
theorem call_vv {post : (Nat → va_E) → Prop} {ret : Option FieldType} (B : Bs G p s m args c cc nL own) (hA : ∀ q, s.heap.size ≤ q → A q) (hW : Wo G A s.heap n ad w H locs) (k : Nat) (hk : k < n) {ci : Nat} {fs : List Value} (he : w k = eO ci fs) {r : vw_C} (hcl : zC[ci]? = some r) (hrn : r.1 = y.cls) (hC : Cv l G y cd rm n ad w (.ref (ad k) :: As) post) (M : MfV y cd bytes maxL ret np) (hlink : Cond.methodLink own index y ∈ lw_gd) (hn : As.length = np) (hR : (rm.cells = 0 ∧ rm.slots = 0) ∧ rm.frames + 1 ≤ R.frames ∧ 8 + (maxL + 11) + rm.locals ≤ R.locals) (hcs : cells ≤ R.cells ∧ slots ≤ R.slots) (hsize : ls.size = nL) (hst : st = As.reverse ++ .ref (ad k) :: rest) (hcat : (rest.map fun v => v.category).sum ≤ 8) (hdg : decode cc pc = .ok (.invokevirtual index, 3))
    (kk : ∀ (w' : Nat → va_E) (H1 : Heap) (locs1 : List Loc), post w' → Wo G A s.heap n ad w' H1 locs1 → W p l e R s m args below meth c H1 locs1 cells slots Q (F0 m (pc + 3) ls rest)) : W p l e R s m args below meth c H locs cells slots Q (F0 m pc ls st) := by
  subst hst
  have hAf := hW.fr hA
  refine va_callv (va_runV (C := y.cls) (As := As) (rest := rest) ⟨B.1, B.2.1, B.2.2.1, B.2.2.2.1, B.2.2.2.2.1⟩ (hC H.size) (cwV (ret := ret) (bytes := bytes) (maxL := maxL) np B.2.2.2.2.1 (goodV M hlink) (by rw [M.1]) hR.1.1 hR.1.2 ⟨rfl, M.2.2.2.2.2.1, M.2.2.2.2.2.2.1, M.2.2.2.2.2.2.2⟩ hR.2) ⟨Kt_blind, by rw [← hrn]; exact va_recv B.2.2.2.2.2 hW.1 hcl (by rw [pw_get hk, he]; rfl), fun U hU hWm => ⟨rfl, by rw [hU], by rw [hU]; exact hW.1, va_K.moved hWm.alike B.2.2.2.2.2, hW.2.1.weaken (fun _ _ _ _ => trivial)⟩⟩ rfl hn hsize rfl (lv_room hcat) hdg hcs) hW.2.2 (fun q _ h => hAf q h) hAf (fun w' t H1 locs1 ht hvm hw hB hz1 hk1 hS => ?_)
  obtain ⟨hP1, hK1, hD1⟩ := hB
  rw [ht] at hP1
  exact kk w' H1 locs1 hw ⟨hP1, hD1.weaken (fun k q hq h => hAf _ h), hS⟩
theorem call_vr {post : Nat → (Nat → va_E) → Prop} {ret : Option FieldType} (B : Bs G p s m args c cc nL own) (hA : ∀ q, s.heap.size ≤ q → A q) (hW : Wo G A s.heap n ad w H locs) (k : Nat) (hk : k < n) {ci : Nat} {fs : List Value} (he : w k = eO ci fs) {r : vw_C} (hcl : zC[ci]? = some r) (hrn : r.1 = y.cls) (hC : Cr l G y cd rm n ad w (.ref (ad k) :: As) post) (M : MfV y cd bytes maxL ret np) (hlink : Cond.methodLink own index y ∈ lw_gd) (hn : As.length = np) (hR : (rm.cells = 0 ∧ rm.slots = 0) ∧ rm.frames + 1 ≤ R.frames ∧ 8 + (maxL + 11) + rm.locals ≤ R.locals) (hcs : cells ≤ R.cells ∧ slots ≤ R.slots) (hsize : ls.size = nL) (hst : st = As.reverse ++ .ref (ad k) :: rest) (hcat : (rest.map fun v => v.category).sum ≤ 8) (hdg : decode cc pc = .ok (.invokevirtual index, 3))
    (kk : ∀ (a : Nat) (w' : Nat → va_E) (H1 : Heap) (locs1 : List Loc), post a w' → Wo G A s.heap n ad w' H1 locs1 → W p l e R s m args below meth c H1 locs1 cells slots Q (F0 m (pc + 3) ls (.ref a :: rest))) : W p l e R s m args below meth c H locs cells slots Q (F0 m pc ls st) := by
  subst hst
  have hAf := hW.fr hA
  refine va_callr (va_runV (C := y.cls) (As := As) (rest := rest) ⟨B.1, B.2.1, B.2.2.1, B.2.2.2.1, B.2.2.2.2.1⟩ (hC H.size) (cwV (ret := ret) (bytes := bytes) (maxL := maxL) np B.2.2.2.2.1 (goodV M hlink) (by rw [M.1]) hR.1.1 hR.1.2 ⟨rfl, M.2.2.2.2.2.1, M.2.2.2.2.2.2.1, M.2.2.2.2.2.2.2⟩ hR.2) ⟨Kt_blind, by rw [← hrn]; exact va_recv B.2.2.2.2.2 hW.1 hcl (by rw [pw_get hk, he]; rfl), fun U hU hWm => ⟨rfl, by rw [hU], by rw [hU]; exact hW.1, va_K.moved hWm.alike B.2.2.2.2.2, hW.2.1.weaken (fun _ _ _ _ => trivial)⟩⟩ rfl hn hsize rfl (lv_room hcat) hdg hcs) hW.2.2 (fun q _ h => hAf q h) hAf (fun u a t H1 locs1 ht hvm hw hB hz1 hk1 hS => ?_)
  obtain ⟨e1, hP1, hK1, hD1⟩ := hB
  rw [ht] at hP1
  subst e1
  exact kk u.1 u.2 H1 locs1 hw ⟨hP1, hD1.weaken (fun k q hq h => hAf _ h), hS⟩
end ZK
