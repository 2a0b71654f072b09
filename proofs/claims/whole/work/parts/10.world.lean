/-! ===== the world as a function of places: cell k of n stands at address ad k and holds w k ===== -/
abbrev zG : Type := va_G × ClassId × ClassId × ClassId × ClassId
def zC : List vw_C := [(RX0, TX0, 8), (RX1, TX1, 4), (RX4, TX4, 9), (RX5, TX5, 20)]
def zT (G : zG) : List (ClassId × FieldType) := [(G.2.1, .int), (G.2.2.1, .long), (G.2.2.2.1, .object RX1), (G.2.2.2.2, .array .long)]
def eI (G : zG) (n : Nat) (f : Nat → Int32) : va_E := .inl (G.2.1, n, .inl f)
def eL (G : zG) (n : Nat) (f : Nat → Int64) : va_E := .inl (G.2.2.1, n, .inr (.inl f))
def eF (G : zG) (n : Nat) (f : Nat → Option Nat) : va_E := .inl (G.2.2.2.1, n, .inr (.inr (.inr (.inr f))))
def eR (G : zG) (n : Nat) (f : Nat → Option Nat) : va_E := .inl (G.2.2.2.2, n, .inr (.inr (.inr (.inr f))))
def eO (k : Nat) (fs : List Value) : va_E := .inr (k, fs)
def pw (n : Nat) (ad : Nat → Nat) (w : Nat → va_E) : va_W := (List.range n).map (fun k => (ad k, w k))
theorem pw_len {n : Nat} {ad : Nat → Nat} {w : Nat → va_E} : (pw n ad w).length = n := by simp [pw]
theorem pw_get {n : Nat} {ad : Nat → Nat} {w : Nat → va_E} {k : Nat} (h : k < n) : (pw n ad w)[k]? = some (ad k, w k) := by
  simp [pw, List.getElem?_map, List.getElem?_range h]
theorem pw_set {n : Nat} {ad : Nat → Nat} {w : Nat → va_E} {k : Nat} {e : va_E} (h : k < n) : (pw n ad w).set k (ad k, e) = pw n ad (va_up w k e) := by
  apply List.ext_getElem?
  intro i
  by_cases hi : i < n
  · by_cases hk : i = k
    · subst hk
      rw [pw_get hi, List.getElem?_set_self (by rw [pw_len]; exact hi)]
      simp [va_up]
    · rw [List.getElem?_set_ne (Ne.symm hk), pw_get hi, pw_get hi]
      simp [va_up, hk]
  · rw [List.getElem?_eq_none (by rw [List.length_set, pw_len]; omega), List.getElem?_eq_none (by rw [pw_len]; omega)]
theorem pw_push {n : Nat} {ad : Nat → Nat} {w : Nat → va_E} {q : Nat} {e : va_E} : pw n ad w ++ [(q, e)] = pw (n + 1) (va_up ad n q) (va_up w n e) := by
  apply List.ext_getElem?
  intro i
  by_cases hi : i < n
  · rw [List.getElem?_append_left (by rw [pw_len]; exact hi), pw_get hi, pw_get (by omega)]
    simp [va_up, show i ≠ n by omega]
  · rw [List.getElem?_append_right (by rw [pw_len]; omega), pw_len]
    by_cases hn : i = n
    · subst hn
      rw [pw_get (by omega)]
      simp [va_up]
    · rw [List.getElem?_eq_none (by simp; omega), List.getElem?_eq_none (by rw [pw_len]; omega)]
def Wo (G : zG) (A : Nat → Prop) (H0 : Heap) (n : Nat) (ad : Nat → Nat) (w : Nat → va_E) (H : Heap) (locs : List Loc) : Prop :=
  va_P G.1 zC (pw n ad w) H ∧ va_D A (pw n ad w) ∧ va_S A H0 H locs
def Bs (G : zG) (p : Program) (s : State) (m : MethodId) (args : Array Value) (c : Code) (cc : ByteArray) (nL : Nat) (own : String) : Prop :=
  p.tables.exec = Jvm.exec ∧ c.code = cc ∧ c.maxLocals = nL ∧ s.vm.findClass own = some m.cls ∧ (∀ q ∈ lw_gd, q.before args s = true) ∧ va_K G.1 zC (zT G) s
theorem Wo.inj {G : zG} {A : Nat → Prop} {H0 : Heap} {n : Nat} {ad : Nat → Nat} {w : Nat → va_E} {H : Heap} {locs : List Loc} (h : Wo G A H0 n ad w H locs) {i j : Nat} (hi : i < n) (hj : j < n) (he : ad i = ad j) : i = j :=
  h.2.1.1 i j _ _ (pw_get hi) (pw_get hj) he
theorem pw_congr {n : Nat} {ad : Nat → Nat} {w w' : Nat → va_E} (h : ∀ k, k < n → w k = w' k) : pw n ad w = pw n ad w' := by
  unfold pw
  apply List.map_congr_left
  intro k hk
  rw [h k (List.mem_range.mp hk)]
theorem Wo.congr {G : zG} {A : Nat → Prop} {H0 : Heap} {n : Nat} {ad : Nat → Nat} {w w' : Nat → va_E} {H : Heap} {locs : List Loc} (h : Wo G A H0 n ad w H locs) (hw : ∀ k, k < n → w k = w' k) : Wo G A H0 n ad w' H locs := by
  unfold Wo at h ⊢
  rw [← pw_congr hw]
  exact h
section ZR
variable {p : Program} {l : Launch} {e : Env} {R : Room} {s : State} {m : MethodId} {args : Array Value} {below : List Frame} {meth : Method} {c : Code} {H : Heap} {locs : List Loc} {cells slots : Nat} {Q : State → Prop}
variable {cc : ByteArray} {pc : Nat} {ls : Array Slot} {rest : List Value} {A : Nat → Prop} {H0 : Heap} {G : zG} {n : Nat} {ad : Nat → Nat} {w : Nat → va_E} {own : String} {nL : Nat}
theorem z_lald (B : Bs G p s m args c cc nL own) (hW : Wo G A H0 n ad w H locs) (k : Nat) (hk : k < n) {N : Nat} {f : Nat → Int64} (he : w k = eL G N f) (j : Nat) (hj : j < N) (hN : N < 2 ^ 31) {v : Int64} (hv : f j = v) (hdg : decode cc pc = .ok (.laload, 1))
    (kk : W p l e R s m args below meth c H locs cells slots Q (F0 m (pc + 1) ls (.long v :: rest))) : W p l e R s m args below meth c H locs cells slots Q (F0 m pc ls (.int (nI j) :: .ref (ad k) :: rest)) :=
  va_lald B.1 B.2.1 B.2.2.2.2.2 hW.1 k 1 (by rw [pw_get hk, he]; rfl) rfl (vp_in_nI hj hN) hdg (by rw [nI_clamp (by omega), hv]; exact kk)
theorem z_iald (B : Bs G p s m args c cc nL own) (hW : Wo G A H0 n ad w H locs) (k : Nat) (hk : k < n) {N : Nat} {f : Nat → Int32} (he : w k = eI G N f) (j : Nat) (hj : j < N) (hN : N < 2 ^ 31) {v : Int32} (hv : f j = v) (hdg : decode cc pc = .ok (.iaload, 1))
    (kk : W p l e R s m args below meth c H locs cells slots Q (F0 m (pc + 1) ls (.int v :: rest))) : W p l e R s m args below meth c H locs cells slots Q (F0 m pc ls (.int (nI j) :: .ref (ad k) :: rest)) :=
  va_iald B.1 B.2.1 B.2.2.2.2.2 hW.1 k 0 (by rw [pw_get hk, he]; rfl) rfl (vp_in_nI hj hN) hdg (by rw [nI_clamp (by omega), hv]; exact kk)
theorem z_aald (B : Bs G p s m args c cc nL own) (hW : Wo G A H0 n ad w H locs) (k : Nat) (hk : k < n) {N : Nat} {f : Nat → Option Nat} (he : w k = eF G N f) (j : Nat) (hj : j < N) (hN : N < 2 ^ 31) {q : Nat} (hv : f j = some q) (hdg : decode cc pc = .ok (.aaload, 1))
    (kk : W p l e R s m args below meth c H locs cells slots Q (F0 m (pc + 1) ls (.ref q :: rest))) : W p l e R s m args below meth c H locs cells slots Q (F0 m pc ls (.int (nI j) :: .ref (ad k) :: rest)) :=
  va_aldq B.1 B.2.1 B.2.2.2.2.2 hW.1 k 2 (by rw [pw_get hk, he]; rfl) rfl (vp_in_nI hj hN) hdg (by rw [nI_clamp (by omega), hv]; exact kk)
theorem z_rald (B : Bs G p s m args c cc nL own) (hW : Wo G A H0 n ad w H locs) (k : Nat) (hk : k < n) {N : Nat} {f : Nat → Option Nat} (he : w k = eR G N f) (j : Nat) (hj : j < N) (hN : N < 2 ^ 31) {q : Nat} (hv : f j = some q) (hdg : decode cc pc = .ok (.aaload, 1))
    (kk : W p l e R s m args below meth c H locs cells slots Q (F0 m (pc + 1) ls (.ref q :: rest))) : W p l e R s m args below meth c H locs cells slots Q (F0 m pc ls (.int (nI j) :: .ref (ad k) :: rest)) := by
  have hin := vp_in_nI hj hN
  have hlt : (nI j).toNatClampNeg < N := by rw [nI_clamp (by omega)]; exact hj
  have ha : (pw n ad w)[k]? = some (ad k, .inl (G.2.2.2.2, N, .inr (.inr (.inr (.inr f))))) := by rw [pw_get hk, he]; rfl
  exact W.aald (v := va_rf (f (nI j).toNatClampNeg)) (ty := .array .long) B.1 B.2.1 (hW.1 k _ ha) ((B.2.2.2.2.2.2 3 _ rfl).1 N (fun j => va_rf (f j))) rfl (fun q => by cases q) (by show ¬ (nI j < 0 ∨ (arrV _ _ _).slots.size ≤ _); rw [arrV_size]; exact hin) (by show (arrV _ _ _).slots[_]? = _; rw [arrV_read _ _ hlt]) rfl rfl hdg (by rw [nI_clamp (by omega), hv]; exact kk)
theorem z_last (B : Bs G p s m args c cc nL own) (hW : Wo G A H0 n ad w H locs) (k : Nat) (hk : k < n) {N : Nat} {f : Nat → Int64} (he : w k = eL G N f) (j : Nat) (hj : j < N) (hN : N < 2 ^ 31) {x : Int64} (hdg : decode cc pc = .ok (.lastore, 1))
    (kk : ∀ (H1 : Heap) (locs1 : List Loc), Wo G A H0 n ad (va_up w k (eL G N (vp_updL f j x))) H1 locs1 → W p l e R s m args below meth c H1 locs1 cells slots Q (F0 m (pc + 1) ls rest)) : W p l e R s m args below meth c H locs cells slots Q (F0 m pc ls (.long x :: .int (nI j) :: .ref (ad k) :: rest)) :=
  va_last B.1 B.2.1 B.2.2.2.2.2 hW.1 hW.2.1 hW.2.2 k 1 (by rw [pw_get hk, he]; rfl) rfl (vp_in_nI hj hN) hdg (fun H1 locs1 h1 h2 h3 => by
    rw [nI_clamp (by omega)] at h1 h2
    refine kk H1 locs1 ⟨?_, ?_, h3⟩
    · rw [← pw_set hk]; exact h1
    · rw [← pw_set hk]; exact h2)
theorem z_iast (B : Bs G p s m args c cc nL own) (hW : Wo G A H0 n ad w H locs) (k : Nat) (hk : k < n) {N : Nat} {f : Nat → Int32} (he : w k = eI G N f) (j : Nat) (hj : j < N) (hN : N < 2 ^ 31) {x : Int32} (hdg : decode cc pc = .ok (.iastore, 1))
    (kk : ∀ (H1 : Heap) (locs1 : List Loc), Wo G A H0 n ad (va_up w k (eI G N (upd f j x))) H1 locs1 → W p l e R s m args below meth c H1 locs1 cells slots Q (F0 m (pc + 1) ls rest)) : W p l e R s m args below meth c H locs cells slots Q (F0 m pc ls (.int x :: .int (nI j) :: .ref (ad k) :: rest)) :=
  va_iast B.1 B.2.1 B.2.2.2.2.2 hW.1 hW.2.1 hW.2.2 k 0 (by rw [pw_get hk, he]; rfl) rfl (vp_in_nI hj hN) hdg (fun H1 locs1 h1 h2 h3 => by
    rw [nI_clamp (by omega)] at h1 h2
    refine kk H1 locs1 ⟨?_, ?_, h3⟩
    · rw [← pw_set hk]; exact h1
    · rw [← pw_set hk]; exact h2)
theorem z_get (B : Bs G p s m args c cc nL own) (hW : Wo G A H0 n ad w H locs) (k : Nat) (hk : k < n) {ci : Nat} {fs : List Value} (he : w k = eO ci fs) {C : String} {T : u_T} {N : Nat} (hc : zC[ci]? = some (C, T, N)) (hin : ∀ q ∈ u_ws C T N, q ∈ lw_gd) (i : Nat) (hi : i < N) {index : Nat} {ref : String} (hlink : Cond.fieldLink own index ref (T i).2.1 (T i).2.2.1 ∈ lw_gd) (href : (T i).1 = ref) {v : Value} (hv : fs[i]? = some v) (hdg : decode cc pc = .ok (.getfield index, 3))
    (kk : W p l e R s m args below meth c H locs cells slots Q (F0 m (pc + 3) ls (v :: rest))) : W p l e R s m args below meth c H locs cells slots Q (F0 m pc ls (.ref (ad k) :: rest)) :=
  va_get B.1 B.2.1 B.2.2.2.2.1 hin B.2.2.2.1 B.2.2.2.2.2 hW.1 k (by rw [pw_get hk, he]; rfl) hc i hi (B.2.2.2.2.1 _ hlink) (fun x h => by rw [← href]; exact h) hv hdg kk
theorem z_put (B : Bs G p s m args c cc nL own) (hW : Wo G A H0 n ad w H locs) (k : Nat) (hk : k < n) {ci : Nat} {fs : List Value} (he : w k = eO ci fs) {C : String} {T : u_T} {N : Nat} (hc : zC[ci]? = some (C, T, N)) (hin : ∀ q ∈ u_ws C T N, q ∈ lw_gd) (ty0 : Nat → FieldType) (hty : ∀ k, k < N → parseFieldDescriptor (T k).2.2.1 = some (ty0 k)) (hnm : ∀ a, a < N → ∀ b, b < N → a ≠ b → (T a).2.1 ≠ (T b).2.1) (i : Nat) (hi : i < N) {index : Nat} {ref : String} (hlink : Cond.fieldLink own index ref (T i).2.1 (T i).2.2.1 ∈ lw_gd) (href : (T i).1 = ref) (hfin : (T i).2.2.2 = false) {v : Value} (hn : narrow (ty0 i) v = v) (hfit : fits (ty0 i) v = true) (hl : i < fs.length) (hdg : decode cc pc = .ok (.putfield index, 3))
    (kk : ∀ (H1 : Heap) (locs1 : List Loc), Wo G A H0 n ad (va_up w k (eO ci (fs.set i v))) H1 locs1 → W p l e R s m args below meth c H1 locs1 cells slots Q (F0 m (pc + 3) ls rest)) : W p l e R s m args below meth c H locs cells slots Q (F0 m pc ls (v :: .ref (ad k) :: rest)) :=
  va_put B.1 B.2.1 B.2.2.2.2.1 hin ty0 hty hnm B.2.2.2.1 B.2.2.2.2.2 hW.1 hW.2.1 hW.2.2 k (by rw [pw_get hk, he]; rfl) hc i hi (B.2.2.2.2.1 _ hlink) (fun x h => by rw [← href]; exact h) hfin (hty i hi) hn hfit hl hdg (fun H1 locs1 h1 h2 h3 => by
    refine kk H1 locs1 ⟨?_, ?_, h3⟩
    · rw [← pw_set hk]; exact h1
    · rw [← pw_set hk]; exact h2)
theorem z_putF (B : Bs G p s m args c cc nL own) (hW : Wo G A H0 n ad w H locs) (k : Nat) (hk : k < n) {ci : Nat} {fs : List Value} (he : w k = eO ci fs) {C : String} {T : u_T} {N : Nat} (hc : zC[ci]? = some (C, T, N)) (hin : ∀ q ∈ u_ws C T N, q ∈ lw_gd) (ty0 : Nat → FieldType) (hty : ∀ k, k < N → parseFieldDescriptor (T k).2.2.1 = some (ty0 k)) (hnm : ∀ a, a < N → ∀ b, b < N → a ≠ b → (T a).2.1 ≠ (T b).2.1) (i : Nat) (hi : i < N) {index : Nat} {ref : String} (hlink : Cond.fieldLink own index ref (T i).2.1 (T i).2.2.1 ∈ lw_gd) (href : (T i).1 = ref) (hfin : (T i).2.2.2 = true) (hin2 : meth.name = "<init>") (hdecl : (T i).1 = own) {v : Value} (hn : narrow (ty0 i) v = v) (hfit : fits (ty0 i) v = true) (hl : i < fs.length) (hdg : decode cc pc = .ok (.putfield index, 3))
    (kk : ∀ (H1 : Heap) (locs1 : List Loc), Wo G A H0 n ad (va_up w k (eO ci (fs.set i v))) H1 locs1 → W p l e R s m args below meth c H1 locs1 cells slots Q (F0 m (pc + 3) ls rest)) : W p l e R s m args below meth c H locs cells slots Q (F0 m pc ls (v :: .ref (ad k) :: rest)) :=
  va_putF B.1 B.2.1 B.2.2.2.2.1 hin ty0 hty hnm B.2.2.2.1 B.2.2.2.2.2 hW.1 hW.2.1 hW.2.2 k (by rw [pw_get hk, he]; rfl) hc i hi (B.2.2.2.2.1 _ hlink) (fun x h => by rw [← href]; exact h) hfin hin2 hdecl (hty i hi) hn hfit hl hdg (fun H1 locs1 h1 h2 h3 => by
    refine kk H1 locs1 ⟨?_, ?_, h3⟩
    · rw [← pw_set hk]; exact h1
    · rw [← pw_set hk]; exact h2)
theorem z_alen (B : Bs G p s m args c cc nL own) (hW : Wo G A H0 n ad w H locs) (k : Nat) (hk : k < n) (t0 : Nat) {cA : ClassId} {x : vp_A} (he : w k = .inl (cA, x)) {ty : FieldType} (ht : (zT G)[t0]? = some (cA, ty)) (hdg : decode cc pc = .ok (.arraylength, 1))
    (kk : W p l e R s m args below meth c H locs cells slots Q (F0 m (pc + 1) ls (.int (nI x.1) :: rest))) : W p l e R s m args below meth c H locs cells slots Q (F0 m pc ls (.ref (ad k) :: rest)) :=
  va_alen B.1 B.2.1 B.2.2.2.2.2 hW.1 k t0 (by rw [pw_get hk, he]) ht rfl hdg kk
theorem z_copyl (B : Bs G p s m args c cc nL own) (hW : Wo G A H0 n ad w H locs) (hsz : ls.size = nL) {index : Nat} (hlink : Cond.methodLink own index arraycopyName ∈ lw_gd) (hnat : Cond.native arraycopyName ∈ lw_gd) (hstat : Cond.static arraycopyName ∈ lw_gd) (hini : Cond.initialized "java/lang/System" ∈ lw_gd)
    (k0 k1 : Nat) (hk0 : k0 < n) (hk1 : k1 < n) {n0 n1 : Nat} {f g : Nat → Int64} (he0 : w k0 = eL G n0 f) (he1 : w k1 = eL G n1 g) (sp dp t : Nat) (h4 : sp + t ≤ n0) (h5 : dp + t ≤ n1) (hn0 : n0 < 2 ^ 31) (hn1 : n1 < 2 ^ 31)
    (hframes : 1 ≤ R.frames) (hlocals : (rest.map fun v => v.category).sum + (nativeFrameWords "java/lang/System" "arraycopy" 5 + 11) ≤ R.locals) (hdg : decode cc pc = .ok (.invokestatic index, 3))
    (kk : ∀ (H1 : Heap) (locs1 : List Loc), Wo G A H0 n ad (va_up w k1 (eL G n1 (va_cpy f g sp dp t))) H1 locs1 → W p l e R s m args below meth c H1 locs1 cells slots Q (F0 m (pc + 3) ls rest)) : W p l e R s m args below meth c H locs cells slots Q (F0 m pc ls (.int (nI t) :: .int (nI dp) :: .ref (ad k1) :: .int (nI sp) :: .ref (ad k0) :: rest)) := by
  have c1 : (nI sp).toNatClampNeg = sp := nI_clamp (by omega)
  have c2 : (nI dp).toNatClampNeg = dp := nI_clamp (by omega)
  have c3 : (nI t).toNatClampNeg = t := nI_clamp (by omega)
  exact va_copyl (ty := .long) B.1 B.2.1 (by rw [B.2.2.1, hsz]) B.2.2.2.1 (B.2.2.2.2.1 _ hlink) (B.2.2.2.2.1 _ hnat) (B.2.2.2.2.1 _ hstat) (B.2.2.2.2.1 _ hini) B.2.2.2.2.2 hW.1 hW.2.1 hW.2.2 k0 k1 1 1 (by rw [pw_get hk0, he0]; rfl) (by rw [pw_get hk1, he1]; rfl) rfl rfl rfl (nI_pos (by omega)) (nI_pos (by omega)) (nI_pos (by omega)) (by rw [c1, c3]; exact h4) (by rw [c2, c3]; exact h5) (fun _ _ => rfl) hframes hlocals hdg (fun H1 locs1 h1 h2 h3 => by
    rw [c1, c2, c3] at h1 h2
    refine kk H1 locs1 ⟨?_, ?_, h3⟩
    · rw [← pw_set hk1]; exact h1
    · rw [← pw_set hk1]; exact h2)
end ZR
