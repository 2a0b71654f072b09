/-! ===== entries of members of classes of the JDK ===== -/
section ZE
variable {l : Launch} {G : zG} {y : MethodName} {cd : Cond} {rm : Room} {n : Nat} {ad : Nat → Nat} {w : Nat → va_E} {av : List Value} {cc : ByteArray} {maxL : Nat}
theorem ent_iF {post : Int32 → (Nat → va_E) → Prop} {ret : Option FieldType} (hy : plainFor y = true) (hcd : cd = Cond.code y cc maxL ret) (hargs : (lg_sl av).length ≤ maxL)
    (body : ∀ (p : Program) (e : Env) (s : State) (m : MethodId) (args : Array Value) (below : List Frame) (meth : Method) (c : Code) (A : Nat → Prop), Bs G p s m args c cc maxL y.cls → meth.sig.returnType = ret → meth.locks = false → (∀ q, s.heap.size ≤ q → A q) → ∀ (H : Heap) (locs : List Loc) (ls : Array Slot), Wo G A s.heap n ad w H locs → lv_has ls maxL (lv_args 0 av) →
      W p l e rm s m args below meth c H locs 0 0 (MQ below (va_Qi post (Kp G n ad A) A) args s 0 0 A) (F0 m 0 ls [])) : Ci l G y cd rm n ad w av post := by
  intro sz
  refine va_MetF (cc := cc) (maxL := maxL) (ret := ret) hy (by rw [hcd]) ?_
  intro p e s m args below meth c s₁ B hml hv
  obtain ⟨rfl, hsz, hP, hK, hD0⟩ := hv
  subst hsz
  have hts := atoms_spec (ws := cd :: lw_gd) B.pre
  have hl := lv_entry av (n := maxL) hargs
  rw [lg_entry_eq]
  exact body p e s m _ below meth c _ ⟨B.exec, B.bytes, hml, findClass_of_methodNamed B.named, fun q hq => hts q (List.mem_cons_of_mem _ hq), hK⟩ B.returns B.notSynchronized (fun q h => Or.inr h) _ _ _ ⟨hP, hD0.self, va_S.rf⟩ hl
theorem ent_lF {post : Int64 → (Nat → va_E) → Prop} {ret : Option FieldType} (hy : plainFor y = true) (hcd : cd = Cond.code y cc maxL ret) (hargs : (lg_sl av).length ≤ maxL)
    (body : ∀ (p : Program) (e : Env) (s : State) (m : MethodId) (args : Array Value) (below : List Frame) (meth : Method) (c : Code) (A : Nat → Prop), Bs G p s m args c cc maxL y.cls → meth.sig.returnType = ret → meth.locks = false → (∀ q, s.heap.size ≤ q → A q) → ∀ (H : Heap) (locs : List Loc) (ls : Array Slot), Wo G A s.heap n ad w H locs → lv_has ls maxL (lv_args 0 av) →
      W p l e rm s m args below meth c H locs 0 0 (MQ below (va_Ql post (Kp G n ad A) A) args s 0 0 A) (F0 m 0 ls [])) : Cl l G y cd rm n ad w av post := by
  intro sz
  refine va_MetF (cc := cc) (maxL := maxL) (ret := ret) hy (by rw [hcd]) ?_
  intro p e s m args below meth c s₁ B hml hv
  obtain ⟨rfl, hsz, hP, hK, hD0⟩ := hv
  subst hsz
  have hts := atoms_spec (ws := cd :: lw_gd) B.pre
  have hl := lv_entry av (n := maxL) hargs
  rw [lg_entry_eq]
  exact body p e s m _ below meth c _ ⟨B.exec, B.bytes, hml, findClass_of_methodNamed B.named, fun q hq => hts q (List.mem_cons_of_mem _ hq), hK⟩ B.returns B.notSynchronized (fun q h => Or.inr h) _ _ _ ⟨hP, hD0.self, va_S.rf⟩ hl
end ZE
