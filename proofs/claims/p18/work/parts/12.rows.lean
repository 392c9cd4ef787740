/-! ROWS OVER WORLDS IN PARTS -/
def nst (w : Cond) : Bool := match w with
  | .fieldLinkNest .. => true
  | .methodLinkNest .. => true
  | .castable .. => true
  | .declares .. => true
  | _ => false
def tyL (cs : Nat → ClassId) : List (ClassId × FieldType) := [(cs 0, .int), (cs 1, .byte), (cs 2, .char), (cs 3, .boolean), (cs 4, .long), (cs 5, .object "HomeSystem$Program"), (cs 6, .object "HomeSystem$AnyProcess"), (cs 7, .object "HomeSystem$TextProcess"), (cs 8, .object "HomeSystem$RawProcess"), (cs 9, .object "HomeSystemModel$Program"), (cs 10, .object "HomeSystemModel$Process"), (cs 11, .object "java/lang/String"), (cs 12, .object "java/lang/Object")]
def aoL : List String := ["HomeSystem$Program", "HomeSystem$AnyProcess", "HomeSystem$TextProcess", "HomeSystem$RawProcess", "HomeSystemModel$Program", "HomeSystemModel$Process", "java/lang/String", "java/lang/Object"]
/-- what a state's tables say beside the words of AL -/
def Tb (D : va_G) (cs : Nat → ClassId) (U : State) : Prop := va_K D classes (tyL cs) U ∧ (∀ C ∈ aoL, va_AO C U) ∧ ∀ w ∈ tables_1, nst w = true → va_Nw w U
theorem Tb.warm {D : va_G} {cs : Nat → ClassId} {s U : State} (hW : s.WarmedH U.vm) (h : Tb D cs s) : Tb D cs U := by
  refine ⟨va_K.moved hW.alike h.1, fun C hC => va_AO.moved hW.alike (h.2.1 C hC), fun w hw hn => ?_⟩
  have h1 := h.2.2 w hw hn
  cases w <;> first | exact va_Nw.warmF hW h1 | exact va_Nw.warmM hW h1 | exact va_Nw.warmC hW h1 | exact va_Nw.warmD hW h1 | (simp [nst] at hn)
theorem Tb.calling {D : va_G} {cs : Nat → ClassId} {U : State} {g : JFrame} {mk : MethodId} {a : Array Value} (h : Tb D cs U) : Tb D cs (U.calling g mk a) :=
  ⟨va_K.moved (u := U) (U := U.calling g mk a) (Vm.Alike.refl U.vm) h.1, fun C hC => va_AO.moved (u := U) (U := U.calling g mk a) (Vm.Alike.refl U.vm) (h.2.1 C hC), fun w hw hn => va_Nw.same (by cases w <;> first | rfl | (simp [nst] at hn)) (u := U) (U := U.calling g mk a) rfl (h.2.2 w hw hn)⟩
def px_S (p : Program) (m : MethodId) (c : Code) (cc : ByteArray) (nL : Nat) (s : State) (args : Array Value) (own : String) : Prop := ∃ Ts, CallFix p m c cc nL s args Ts own ∧ ∀ w ∈ AL, w ∈ Ts
theorem px_S.x {p : Program} {m : MethodId} {c : Code} {cc : ByteArray} {nL : Nat} {s : State} {args : Array Value} {own : String} (S : px_S p m c cc nL s args own) : p.tables.exec = Jvm.exec := by obtain ⟨_, S, _⟩ := S; exact S.1
theorem px_S.b {p : Program} {m : MethodId} {c : Code} {cc : ByteArray} {nL : Nat} {s : State} {args : Array Value} {own : String} (S : px_S p m c cc nL s args own) : c.code = cc := by obtain ⟨_, S, _⟩ := S; exact S.2.1
theorem px_S.ml {p : Program} {m : MethodId} {c : Code} {cc : ByteArray} {nL : Nat} {s : State} {args : Array Value} {own : String} (S : px_S p m c cc nL s args own) : c.maxLocals = nL := by obtain ⟨_, S, _⟩ := S; exact S.2.2.1
theorem px_S.own {p : Program} {m : MethodId} {c : Code} {cc : ByteArray} {nL : Nat} {s : State} {args : Array Value} {own : String} (S : px_S p m c cc nL s args own) : s.vm.findClass own = some m.cls := by obtain ⟨_, S, _⟩ := S; exact S.2.2.2.1
theorem px_S.w {p : Program} {m : MethodId} {c : Code} {cc : ByteArray} {nL : Nat} {s : State} {args : Array Value} {own : String} (S : px_S p m c cc nL s args own) {w : Cond} (h : w ∈ AL) : w.before args s = true := by obtain ⟨_, S, hT⟩ := S; exact S.2.2.2.2 w (hT w h)
def px_cls (ci : Nat) (C : String) (T : u_T) (N : Nat) (ty0 : Nat → FieldType) : Prop := classes[ci]? = some (C, T, N) ∧ (∀ k, k < N → parseFieldDescriptor (T k).2.2.1 = some (ty0 k)) ∧ (∀ a, a < N → ∀ b, b < N → a ≠ b → (T a).2.1 ≠ (T b).2.1) ∧ ∀ w ∈ u_ws C T N, w ∈ AL
def pw (D : va_G) (A : Nat → Prop) (H0 H : Heap) (locs : List Loc) (ps : List va_W) : Prop := va_P D classes ps.flatten H ∧ va_D A ps.flatten ∧ va_S A H0 H locs
/-- a method's start: its arguments, its parts -/
def pc_Pre (D : va_G) (cs : Nat → ClassId) (av : List Value) (sz : Nat) (ps : List va_W) (X : State → Prop) : Array Value → State → Prop := va_Pc av (fun U => U.heap.size = sz ∧ va_P D classes ps.flatten U.heap ∧ Tb D cs U ∧ va_D (fun _ => True) ps.flatten ∧ X U)
def pc_B (D : va_G) (A : Nat → Prop) (ps : List va_W) (t : State) : Prop := va_P D classes ps.flatten t.heap ∧ va_D A ps.flatten
abbrev pc_ws (y : MethodName) (b : ByteArray) (n : Nat) (ret : Option FieldType) : List Cond := .code y b n ret :: AL
/-- CONTRACTS: from the parts ps, with X of the start, the method returns, with 'post answer parts' -/
def MetI (l : Launch) (y : MethodName) (b : ByteArray) (n : Nat) (ret : FieldType) (D : va_G) (cs : Nat → ClassId) (fr lo mc ms : Nat) (av : List Value) (ps : List va_W) (X : State → Prop) (post : Int32 → List va_W → Prop) : Prop := ∀ sz : Nat, Met l y (pc_ws y b n (some ret)) { frames := fr, cells := mc, slots := ms, locals := lo } (pc_Pre D cs av sz ps X) (va_Qi post (pc_B D (va_A ps.flatten sz)) (va_A ps.flatten sz)) mc ms (va_A ps.flatten sz)
def MetV (l : Launch) (y : MethodName) (b : ByteArray) (n : Nat) (D : va_G) (cs : Nat → ClassId) (fr lo mc ms : Nat) (av : List Value) (ps : List va_W) (X : State → Prop) (post : List va_W → Prop) : Prop := ∀ sz : Nat, Met l y (pc_ws y b n none) { frames := fr, cells := mc, slots := ms, locals := lo } (pc_Pre D cs av sz ps X) (va_Qv post (pc_B D (va_A ps.flatten sz)) (va_A ps.flatten sz)) mc ms (va_A ps.flatten sz)
def MetR (l : Launch) (y : MethodName) (b : ByteArray) (n : Nat) (ret : FieldType) (D : va_G) (cs : Nat → ClassId) (fr lo mc ms : Nat) (av : List Value) (ps : List va_W) (X : State → Prop) (post : Option Nat → List va_W → Prop) : Prop := ∀ sz : Nat, Met l y (pc_ws y b n (some ret)) { frames := fr, cells := mc, slots := ms, locals := lo } (pc_Pre D cs av sz ps X) (va_Qq post (pc_B D (va_A ps.flatten sz)) (va_A ps.flatten sz)) mc ms (va_A ps.flatten sz)
/-- the body's start -/
def px_Body (l : Launch) (y : MethodName) (b : ByteArray) (n : Nat) (ret : Option FieldType) (D : va_G) (cs : Nat → ClassId) (rm : Room) (mc ms : Nat) (av : List Value) (ps : List va_W) (X : State → Prop) (Qc : Nat → Array Value → State → Outcome → State → Prop) : Prop :=
  ∀ (p : Program) (e : Env) (s : State) (m : MethodId) (below : List Frame) (meth : Method) (c : Code) (A : Nat → Prop) (ls : Array Slot), A = va_A ps.flatten s.heap.size → px_S p m c b n s av.toArray y.cls → meth.sig.returnType = ret → meth.locks = false → meth.name = y.name → (∀ q : Nat, s.heap.size ≤ q → A q) → Tb D cs s → X s → pw D A s.heap s.heap [] ps → lv_has ls n (lv_args 0 av) →
    W p l e rm s m av.toArray below meth c s.heap [] 0 0 (MQ below (Qc s.heap.size) av.toArray s mc ms A) (F0 m 0 ls [])
theorem px_enter {l : Launch} {y : MethodName} {b : ByteArray} {n : Nat} {ret : Option FieldType} {D : va_G} {cs : Nat → ClassId} {fr lo mc ms : Nat} {av : List Value} {ps : List va_W} {X : State → Prop} {Qc : Nat → Array Value → State → Outcome → State → Prop}
    (hy : plainName y.cls = true) (hn : (lg_sl av).length ≤ n) (body : px_Body l y b n ret D cs { frames := fr, cells := mc, slots := ms, locals := lo } mc ms av ps X Qc) :
    ∀ sz : Nat, Met l y (pc_ws y b n ret) { frames := fr, cells := mc, slots := ms, locals := lo } (pc_Pre D cs av sz ps X) (Qc sz) mc ms (va_A ps.flatten sz) := by
  intro sz
  refine Met.ofW (cc := b) (maxL := n) (ret := ret) hy rfl ?_
  intro p e s m args below meth c s₁ B hml hv
  obtain ⟨rfl, hsz, hP, hT, hD0, hX⟩ := hv
  subst hsz
  rw [lg_entry_eq]
  exact body p e s m below meth c _ _ rfl ⟨_, ⟨B.exec, B.bytes, hml, findClass_of_methodNamed B.named, atoms_spec (ws := pc_ws y b n ret) B.pre⟩, fun w h => List.mem_cons_of_mem _ h⟩ B.returns B.notSynchronized (name_of_methodNamed B.named B.method).1 (fun q h => Or.inr h) hT hX ⟨hP, hD0.self, va_S.rf⟩ (lv_entry av hn)
section PX
variable {p : Program} {l : Launch} {e : Env} {R : Room} {s : State} {m : MethodId} {args : Array Value} {below : List Frame} {meth : Method} {c : Code} {H : Heap} {locs : List Loc} {cells slots : Nat} {Q : State → Prop}
variable {cc : ByteArray} {pc nL : Nat} {ls : Array Slot} {rest : List Value} {D : va_G} {A : Nat → Prop} {a : Nat} {cs : Nat → ClassId} {ps ps' : List va_W} {w w' : va_W} {H0 : Heap} {own : String}
theorem px_get (S : px_S p m c cc nL s args own) {ci N : Nat} {C : String} {T : u_T} {ty0 : Nat → FieldType} (hc : px_cls ci C T N ty0) (hT : Tb D cs s) (hw : pw D A H0 H locs ps) (i j k : Nat) {fs : List Value} {v : Value} {index : Nat} (hi : ps[i]? = some w) (he : w[j]? = some (a, .inr (ci, fs))) (hv : fs[k]? = some v) (hk : k < N) (hlink : Cond.fieldLink own index (T k).1 (T k).2.1 (T k).2.2.1 ∈ AL) (hdg : decode cc pc = .ok (.getfield index, 3))
    (kk : W p l e R s m args below meth c H locs cells slots Q (F0 m (pc + 3) ls (v :: rest))) : W p l e R s m args below meth c H locs cells slots Q (F0 m pc ls (.ref a :: rest)) := by
  have hl := S.w hlink
  obtain ⟨Ts, S, h⟩ := S
  exact va_get S.1 S.2.1 S.2.2.2.2 (fun w h1 => h w (hc.2.2.2 w h1)) S.2.2.2.1 hT.1 hw.1 (pp_off ps i + j) (pp_get he ps i hi) hc.1 k hk hl (fun _ h => h) hv hdg kk
theorem px_put (S : px_S p m c cc nL s args own) {ci N : Nat} {C : String} {T : u_T} {ty0 : Nat → FieldType} (hc : px_cls ci C T N ty0) (hT : Tb D cs s) (hw : pw D A H0 H locs ps) (i j k : Nat) {fs : List Value} {v : Value} {index : Nat} (hi : ps[i]? = some w) (he : w[j]? = some (a, .inr (ci, fs))) (hk : k < N) (hlink : Cond.fieldLink own index (T k).1 (T k).2.1 (T k).2.2.1 ∈ AL) (hfin : (T k).2.2.2 = false) (hn : narrow (ty0 k) v = v) (hfit : fits (ty0 k) v = true) (hl : k < fs.length) (hdg : decode cc pc = .ok (.putfield index, 3)) (hww : w.set j (a, .inr (ci, fs.set k v)) = w') (hps : ps.set i w' = ps')
    (kk : ∀ (H1 : Heap) (locs1 : List Loc), pw D A H0 H1 locs1 ps' → W p l e R s m args below meth c H1 locs1 cells slots Q (F0 m (pc + 3) ls rest)) : W p l e R s m args below meth c H locs cells slots Q (F0 m pc ls (v :: .ref a :: rest)) := by
  have hlk := S.w hlink
  obtain ⟨Ts, S, h⟩ := S
  have hj : j < w.length := (List.getElem?_eq_some_iff.mp he).1
  refine va_put S.1 S.2.1 S.2.2.2.2 (fun w h1 => h w (hc.2.2.2 w h1)) ty0 hc.2.1 hc.2.2.1 S.2.2.2.1 hT.1 hw.1 hw.2.1 hw.2.2 (pp_off ps i + j) (pp_get he ps i hi) hc.1 k hk hlk (fun _ h => h) hfin (hc.2.1 k hk) hn hfit hl hdg (fun H1 locs1 h1 h2 h3 => kk H1 locs1 ⟨?_, ?_, h3⟩)
  · rw [← hps, ← hww, ← pp_set hj ps i hi]; exact h1
  · rw [← hps, ← hww, ← pp_set hj ps i hi]; exact h2
theorem px_putF (S : px_S p m c cc nL s args own) {ci N : Nat} {C : String} {T : u_T} {ty0 : Nat → FieldType} (hc : px_cls ci C T N ty0) (hin : meth.name = "<init>") (hT : Tb D cs s) (hw : pw D A H0 H locs ps) (i j k : Nat) {fs : List Value} {v : Value} {index : Nat} (hi : ps[i]? = some w) (he : w[j]? = some (a, .inr (ci, fs))) (hk : k < N) (hlink : Cond.fieldLink own index (T k).1 (T k).2.1 (T k).2.2.1 ∈ AL) (hfin : (T k).2.2.2 = true) (hdec : (T k).1 = own) (hn : narrow (ty0 k) v = v) (hfit : fits (ty0 k) v = true) (hl : k < fs.length) (hdg : decode cc pc = .ok (.putfield index, 3)) (hww : w.set j (a, .inr (ci, fs.set k v)) = w') (hps : ps.set i w' = ps')
    (kk : ∀ (H1 : Heap) (locs1 : List Loc), pw D A H0 H1 locs1 ps' → W p l e R s m args below meth c H1 locs1 cells slots Q (F0 m (pc + 3) ls rest)) : W p l e R s m args below meth c H locs cells slots Q (F0 m pc ls (v :: .ref a :: rest)) := by
  have hlk := S.w hlink
  obtain ⟨Ts, S, h⟩ := S
  have hj : j < w.length := (List.getElem?_eq_some_iff.mp he).1
  refine va_putF S.1 S.2.1 S.2.2.2.2 (fun w h1 => h w (hc.2.2.2 w h1)) ty0 hc.2.1 hc.2.2.1 S.2.2.2.1 hT.1 hw.1 hw.2.1 hw.2.2 (pp_off ps i + j) (pp_get he ps i hi) hc.1 k hk hlk (fun _ h => h) hfin hin hdec (hc.2.1 k hk) hn hfit hl hdg (fun H1 locs1 h1 h2 h3 => kk H1 locs1 ⟨?_, ?_, h3⟩)
  · rw [← hps, ← hww, ← pp_set hj ps i hi]; exact h1
  · rw [← hps, ← hww, ← pp_set hj ps i hi]; exact h2
theorem px_getN (S : px_S p m c cc nL s args own) {ci N : Nat} {C : String} {T : u_T} {ty0 : Nat → FieldType} (hc : px_cls ci C T N ty0) (hT : Tb D cs s) (hw : pw D A H0 H locs ps) (i j k : Nat) {fs : List Value} {v : Value} {index : Nat} {host : String} (hi : ps[i]? = some w) (he : w[j]? = some (a, .inr (ci, fs))) (hv : fs[k]? = some v) (hk : k < N) (hlink : Cond.fieldLinkNest own index (T k).1 (T k).2.1 (T k).2.2.1 host ∈ tables_1) (hdg : decode cc pc = .ok (.getfield index, 3))
    (kk : W p l e R s m args below meth c H locs cells slots Q (F0 m (pc + 3) ls (v :: rest))) : W p l e R s m args below meth c H locs cells slots Q (F0 m pc ls (.ref a :: rest)) := by
  obtain ⟨Ts, S, h⟩ := S
  exact va_getN S.1 S.2.1 S.2.2.2.2 (fun w h1 => h w (hc.2.2.2 w h1)) S.2.2.2.1 hT.1 hw.1 (pp_off ps i + j) (pp_get he ps i hi) hc.1 k hk (va_Nw.use rfl (hT.2.2 _ hlink rfl)) (fun _ h => h) hv hdg kk
theorem px_iald (S : px_S p m c cc nL s args own) (hT : Tb D cs s) (hw : pw D A H0 H locs ps) (i j : Nat) {n : Nat} {f : Nat → Int32} (hi : ps[i]? = some w) (he : w[j]? = some (a, .inl (cs 0, n, .inl f))) {x : Int32} (hin : vp_in x n) (hdg : decode cc pc = .ok (.iaload, 1))
    (kk : W p l e R s m args below meth c H locs cells slots Q (F0 m (pc + 1) ls (.int (f x.toNatClampNeg) :: rest))) : W p l e R s m args below meth c H locs cells slots Q (F0 m pc ls (.int x :: .ref a :: rest)) := va_iald S.x S.b hT.1 hw.1 (pp_off ps i + j) 0 (pp_get he ps i hi) rfl hin hdg kk
theorem px_bald (S : px_S p m c cc nL s args own) (hT : Tb D cs s) (hw : pw D A H0 H locs ps) (i j : Nat) {n : Nat} {f : Nat → Int32} (hi : ps[i]? = some w) (he : w[j]? = some (a, .inl (cs 1, n, .inl f))) {x : Int32} (hin : vp_in x n) (hdg : decode cc pc = .ok (.baload, 1))
    (kk : W p l e R s m args below meth c H locs cells slots Q (F0 m (pc + 1) ls (.int (f x.toNatClampNeg) :: rest))) : W p l e R s m args below meth c H locs cells slots Q (F0 m pc ls (.int x :: .ref a :: rest)) := va_bald S.x S.b hT.1 hw.1 (pp_off ps i + j) 1 (pp_get he ps i hi) rfl hin hdg kk
theorem px_cald (S : px_S p m c cc nL s args own) (hT : Tb D cs s) (hw : pw D A H0 H locs ps) (i j : Nat) {n : Nat} {f : Nat → Int32} (hi : ps[i]? = some w) (he : w[j]? = some (a, .inl (cs 2, n, .inl f))) {x : Int32} (hin : vp_in x n) (hdg : decode cc pc = .ok (.caload, 1))
    (kk : W p l e R s m args below meth c H locs cells slots Q (F0 m (pc + 1) ls (.int (f x.toNatClampNeg) :: rest))) : W p l e R s m args below meth c H locs cells slots Q (F0 m pc ls (.int x :: .ref a :: rest)) := va_cald S.x S.b hT.1 hw.1 (pp_off ps i + j) 2 (pp_get he ps i hi) rfl hin hdg kk
theorem px_len (S : px_S p m c cc nL s args own) (hT : Tb D cs s) (hw : pw D A H0 H locs ps) (i j t0 : Nat) {cA : ClassId} {x : vp_A} {ty : FieldType} (hi : ps[i]? = some w) (he : w[j]? = some (a, .inl (cA, x))) (ht : (tyL cs)[t0]? = some (cA, ty)) {v : Int32} (hv : Int32.ofNat x.1 = v) (hdg : decode cc pc = .ok (.arraylength, 1))
    (kk : W p l e R s m args below meth c H locs cells slots Q (F0 m (pc + 1) ls (.int v :: rest))) : W p l e R s m args below meth c H locs cells slots Q (F0 m pc ls (.ref a :: rest)) := va_alen S.x S.b hT.1 hw.1 (pp_off ps i + j) t0 (pp_get he ps i hi) ht hv hdg kk
theorem px_iast (S : px_S p m c cc nL s args own) (hT : Tb D cs s) (hw : pw D A H0 H locs ps) (i j : Nat) {n : Nat} {f : Nat → Int32} {x y : Int32} (hi : ps[i]? = some w) (he : w[j]? = some (a, .inl (cs 0, n, .inl f))) (hin : vp_in x n) (hdg : decode cc pc = .ok (.iastore, 1)) (hww : w.set j (a, .inl (cs 0, n, .inl (upd f x.toNatClampNeg y))) = w') (hps : ps.set i w' = ps')
    (kk : ∀ (H1 : Heap) (locs1 : List Loc), pw D A H0 H1 locs1 ps' → W p l e R s m args below meth c H1 locs1 cells slots Q (F0 m (pc + 1) ls rest)) : W p l e R s m args below meth c H locs cells slots Q (F0 m pc ls (.int y :: .int x :: .ref a :: rest)) := by
  have hj : j < w.length := (List.getElem?_eq_some_iff.mp he).1
  refine va_iast S.x S.b hT.1 hw.1 hw.2.1 hw.2.2 (pp_off ps i + j) 0 (pp_get he ps i hi) rfl hin hdg (fun H1 locs1 h1 h2 h3 => kk H1 locs1 ⟨?_, ?_, h3⟩)
  · rw [← hps, ← hww, ← pp_set hj ps i hi]; exact h1
  · rw [← hps, ← hww, ← pp_set hj ps i hi]; exact h2
theorem px_cast (S : px_S p m c cc nL s args own) (hT : Tb D cs s) (hw : pw D A H0 H locs ps) (i j : Nat) {n : Nat} {f : Nat → Int32} {x y : Int32} (hi : ps[i]? = some w) (he : w[j]? = some (a, .inl (cs 2, n, .inl f))) (hin : vp_in x n) (hdg : decode cc pc = .ok (.castore, 1)) (hww : w.set j (a, .inl (cs 2, n, .inl (upd f x.toNatClampNeg (vp_nar .char y)))) = w') (hps : ps.set i w' = ps')
    (kk : ∀ (H1 : Heap) (locs1 : List Loc), pw D A H0 H1 locs1 ps' → W p l e R s m args below meth c H1 locs1 cells slots Q (F0 m (pc + 1) ls rest)) : W p l e R s m args below meth c H locs cells slots Q (F0 m pc ls (.int y :: .int x :: .ref a :: rest)) := by
  have hj : j < w.length := (List.getElem?_eq_some_iff.mp he).1
  refine va_cast S.x S.b hT.1 hw.1 hw.2.1 hw.2.2 (pp_off ps i + j) 2 (pp_get he ps i hi) rfl hin hdg (fun H1 locs1 h1 h2 h3 => kk H1 locs1 ⟨?_, ?_, h3⟩)
  · rw [← hps, ← hww, ← pp_set hj ps i hi]; exact h1
  · rw [← hps, ← hww, ← pp_set hj ps i hi]; exact h2
theorem px_bast (S : px_S p m c cc nL s args own) (hT : Tb D cs s) (hw : pw D A H0 H locs ps) (i j : Nat) {n : Nat} {f : Nat → Int32} {x y : Int32} (hi : ps[i]? = some w) (he : w[j]? = some (a, .inl (cs 1, n, .inl f))) (hin : vp_in x n) (hdg : decode cc pc = .ok (.bastore, 1)) (hww : w.set j (a, .inl (cs 1, n, .inl (upd f x.toNatClampNeg (vp_nar .byte y)))) = w') (hps : ps.set i w' = ps')
    (kk : ∀ (H1 : Heap) (locs1 : List Loc), pw D A H0 H1 locs1 ps' → W p l e R s m args below meth c H1 locs1 cells slots Q (F0 m (pc + 1) ls rest)) : W p l e R s m args below meth c H locs cells slots Q (F0 m pc ls (.int y :: .int x :: .ref a :: rest)) := by
  have hj : j < w.length := (List.getElem?_eq_some_iff.mp he).1
  refine va_bast S.x S.b hT.1 hw.1 hw.2.1 hw.2.2 (pp_off ps i + j) 1 (pp_get he ps i hi) rfl hin hdg (fun H1 locs1 h1 h2 h3 => kk H1 locs1 ⟨?_, ?_, h3⟩)
  · rw [← hps, ← hww, ← pp_set hj ps i hi]; exact h1
  · rw [← hps, ← hww, ← pp_set hj ps i hi]; exact h2
theorem px_newa (S : px_S p m c cc nL s args own) (hT : Tb D cs s) (hw : pw D A H0 H locs ps) (hA : ∀ q, H0.size ≤ q → A q) {atype : ArrayType} (harr : Cond.arrayClass (newarray.typeOf atype) ∈ AL) (t0 : Nat) {cB : ClassId} {ty : FieldType} (hty : newarray.typeOf atype = ty) (ht : (tyL cs)[t0]? = some (cB, ty)) {n : Int32} {N' : Nat} {a0 : vp_A} (ha : ∀ cA : ClassId, vp_cell cA a0 = arrV cA N' (fun _ => defaultValue ty)) (hn : ¬ n < 0) (hN : n.toNatClampNeg = N') (hbytes : N' * componentBytes ty ≤ 536870912) (hcells : cells + 1 ≤ R.cells) (hslots : slots + N' ≤ R.slots) (hdg : decode cc pc = .ok (.newarray atype, 2))
    (kk : ∀ (q : Nat) (H1 : Heap), pw D A H0 H1 locs (ps ++ [[(q, .inl (cB, a0))]]) → W p l e R s m args below meth c H1 locs (cells + 1) (slots + N') Q (F0 m (pc + 2) ls (.ref q :: rest))) : W p l e R s m args below meth c H locs cells slots Q (F0 m pc ls (.int n :: rest)) := by
  refine va_newa S.x S.b (S.w harr) hty hT.1 hw.1 hw.2.1 hw.2.2 hA ha hn hN hbytes hcells hslots hdg (fun q cA H1 k1 k2 k3 k4 => kk q H1 ⟨?_, ?_, k4⟩)
  · have e := pp_cls k1 ht
    subst e
    rw [← pp_push]
    exact k2
  · have e := pp_cls k1 ht
    subst e
    rw [← pp_push]
    exact k3
theorem px_newq (S : px_S p m c cc nL s args own) (hT : Tb D cs s) (hw : pw D A H0 H locs ps) (hA : ∀ q, H0.size ≤ q → A q) {C : String} {index : Nat} (hC : C ∈ aoL) (hclink : Cond.classLink own index C ∈ AL) (t0 : Nat) {cB : ClassId} (ht : (tyL cs)[t0]? = some (cB, .object C)) {n : Int32} {N' : Nat} (hn : ¬ n < 0) (hN : n.toNatClampNeg = N') (hbytes : N' * 4 ≤ 536870912) (hcells : cells + 1 ≤ R.cells) (hslots : slots + N' ≤ R.slots) (hdg : decode cc pc = .ok (.anewarray index, 3))
    (kk : ∀ (q : Nat) (H1 : Heap), pw D A H0 H1 locs (ps ++ [[(q, .inl (cB, N', .inr (.inr (.inr (.inr (fun _ => none))))))]]) → W p l e R s m args below meth c H1 locs (cells + 1) (slots + N') Q (F0 m (pc + 3) ls (.ref q :: rest))) : W p l e R s m args below meth c H locs cells slots Q (F0 m pc ls (.int n :: rest)) := by
  refine va_newq S.x S.b S.own (S.w hclink) (hT.2.1 C hC) hT.1 hw.1 hw.2.1 hw.2.2 hA hn hN hbytes hcells hslots hdg (fun q cA H1 k1 k2 k3 k4 => kk q H1 ⟨?_, ?_, k4⟩)
  · have e := pp_cls k1 ht
    subst e
    rw [← pp_push]
    exact k2
  · have e := pp_cls k1 ht
    subst e
    rw [← pp_push]
    exact k3
theorem px_new (S : px_S p m c cc nL s args own) {ci N : Nat} {C : String} {T : u_T} {ty0 : Nat → FieldType} (hc : px_cls ci C T N ty0) (hT : Tb D cs s) (hw : pw D A H0 H locs ps) (hA : ∀ q, H0.size ≤ q → A q) {index : Nat} (hcl : Cond.classLink own index C ∈ AL) (hinst : Cond.instantiable C N ∈ AL) (hini : Cond.initialized C ∈ AL) {fs : List Value} (hfs : ∀ j, j < N → defaultValue (ty0 j) = vp_V fs j) (hcells : cells + 1 ≤ R.cells) (hslots : slots + N ≤ R.slots) (hdg : decode cc pc = .ok (.new index, 3))
    (kk : ∀ (q : Nat) (H1 : Heap), pw D A H0 H1 locs (ps ++ [[(q, .inr (ci, fs))]]) → W p l e R s m args below meth c H1 locs (cells + 1) (slots + N) Q (F0 m (pc + 3) ls (.ref q :: rest))) : W p l e R s m args below meth c H locs cells slots Q (F0 m pc ls rest) := by
  have h1 := S.w hcl
  have h2 := S.w hinst
  have h3 := S.w hini
  obtain ⟨Ts, S, h⟩ := S
  refine va_new S.1 S.2.1 S.2.2.2.2 (fun w h1 => h w (hc.2.2.2 w h1)) ty0 hc.2.1 S.2.2.2.1 h1 h2 h3 hT.1 hw.1 hw.2.1 hw.2.2 hA hc.1 hfs hcells hslots hdg (fun q H1 k1 k2 k3 => kk q H1 ⟨?_, ?_, k3⟩)
  · rw [← pp_push]; exact k1
  · rw [← pp_push]; exact k2
theorem px_oinit (S : px_S p m c cc nL s args own) {idx : Nat} (h1 : Cond.methodLink own idx objectInit ∈ AL) (h2 : Cond.instanceMethod objectInit ∈ AL) (h3 : Cond.code objectInit ⟨#[0xb1]⟩ 1 none ∈ AL) (hl : ls.size = nL) (hd : decode cc pc = .ok (.invokespecial idx, 3)) (hfr : 1 ≤ R.frames) (hlo : (rest.map fun v => v.category).sum + 12 ≤ R.locals)
    (kk : W p l e R s m args below meth c H locs cells slots Q (F0 m (pc + 3) ls rest)) : W p l e R s m args below meth c H locs cells slots Q (F0 m pc ls (.ref a :: rest)) :=
  W.objInit S.x S.b S.own (S.w h1) (S.w h2) (S.w h3) rfl (by rw [S.ml]; exact hl) rfl hd hfr (by show 2 * 0 + _ + 12 ≤ _; omega) kk
/-- other parts, in another order -/
theorem pw.sub {qs : List va_W} (hw : pw D A H0 H locs ps) (is : List Nat) (hn : va_nd is = true) (hs : is.map (fun i => ps[i]?) = qs.map some) : pw D A H0 H locs qs := ⟨pp_subP hw.1 is hs, pp_subD hw.2.1 is qs hn hs, hw.2.2⟩
theorem pw.eq {qs : List va_W} (hw : pw D A H0 H locs ps) (h : ps.flatten = qs.flatten) : pw D A H0 H locs qs := ⟨by rw [← h]; exact hw.1, by rw [← h]; exact hw.2.1, hw.2.2⟩
theorem px_vret {mc ms : Nat} {post : List va_W → Prop} {ps0 : List va_W} {s0 : Nat} (S : px_S p m c cc nL s args own) (hr : meth.sig.returnType = none) (hlocks : meth.locks = false) (hAe : A = va_A ps0.flatten s0) (hw : pw D A s.heap H locs ps) (hc : cells ≤ mc) (hs : slots ≤ ms) (hp : post ps) (hdg : decode cc pc = .ok (.return_, 1)) :
    W p l e R s m args below meth c H locs cells slots (MQ below (va_Qv post (pc_B D (va_A ps0.flatten s0)) (va_A ps0.flatten s0)) args s mc ms A) (F0 m pc ls []) := by
  subst hAe
  refine W.widen (k := mc) (n := ms) hc hs ?_
  exact W.vret S.x S.b hr (fun t ht hW => ⟨⟨ps, rfl, hp, by show va_P _ _ _ _ ∧ _; rw [ht]; exact ⟨hw.1, hw.2.1⟩⟩, hw.2.2.F ht⟩) hw.2.2.2.2 hdg hlocks
theorem px_iret {mc ms : Nat} {post : Int32 → List va_W → Prop} {ps0 : List va_W} {s0 : Nat} {v : Int32} {ty : FieldType} (S : px_S p m c cc nL s args own) (hr : meth.sig.returnType = some ty) (hn : narrow ty (.int v) = .int v) (hlocks : meth.locks = false) (hAe : A = va_A ps0.flatten s0) (hw : pw D A s.heap H locs ps) (hc : cells ≤ mc) (hs : slots ≤ ms) (hp : post v ps) (hdg : decode cc pc = .ok (.ireturn, 1)) :
    W p l e R s m args below meth c H locs cells slots (MQ below (va_Qi post (pc_B D (va_A ps0.flatten s0)) (va_A ps0.flatten s0)) args s mc ms A) (F0 m pc ls [.int v]) := by
  subst hAe
  refine W.widen (k := mc) (n := ms) hc hs ?_
  exact W.zret S.x S.b hr hn (fun t ht hW => ⟨⟨v, ps, rfl, hp, by show va_P _ _ _ _ ∧ _; rw [ht]; exact ⟨hw.1, hw.2.1⟩⟩, hw.2.2.F ht⟩) hw.2.2.2.2 hdg hlocks
theorem px_aret {mc ms : Nat} {post : Option Nat → List va_W → Prop} {ps0 : List va_W} {s0 : Nat} {v : Option Nat} {rt : FieldType} (S : px_S p m c cc nL s args own) (hr : meth.sig.returnType = some rt) (hrt : (∃ n, rt = .object n) ∨ ∃ t, rt = .array t) (hlocks : meth.locks = false) (hAe : A = va_A ps0.flatten s0) (hw : pw D A s.heap H locs ps) (hc : cells ≤ mc) (hs : slots ≤ ms) (hp : post v ps) (hdg : decode cc pc = .ok (.areturn, 1)) :
    W p l e R s m args below meth c H locs cells slots (MQ below (va_Qq post (pc_B D (va_A ps0.flatten s0)) (va_A ps0.flatten s0)) args s mc ms A) (F0 m pc ls [va_rf v]) := by
  subst hAe
  refine W.widen (k := mc) (n := ms) hc hs ?_
  exact W.aret S.x S.b hr hrt (by cases v with | none => exact Or.inl rfl | some a => exact Or.inr ⟨a, rfl⟩) (fun t ht hW => ⟨⟨v, ps, rfl, hp, by show va_P _ _ _ _ ∧ _; rw [ht]; exact ⟨hw.1, hw.2.1⟩⟩, hw.2.2.F ht⟩) hw.2.2.2.2 hdg hlocks
end PX
