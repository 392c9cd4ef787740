/-! HOW MUCH THE HEAP HAS GROWN: contracts that tell it -/
def tot (H : Heap) : Nat := H.foldl (fun n c => n + c.slots.size) 0
def nd (o : Option Nat) : Nat := match o with
  | none => 1
  | some _ => 0
theorem nd_0 : nd none = 1 := rfl
theorem nd_1 (q : Nat) : nd (some q) = 0 := rfl
section GR
variable {p : Program} {l : Launch} {e : Env} {R : Room} {s : State} {m : MethodId} {args : Array Value} {below : List Frame} {meth : Method} {c : Code} {H : Heap} {locs : List Loc} {cells slots : Nat} {Q : State → Prop}
theorem gr_tot {T : State} (X : Stand p l e R s m args below meth c T locs cells slots) : tot T.heap = tot s.heap + ((T.heap.toList.drop s.heap.size).map (·.slots.size)).sum := by
  have h0 : s.slotsTrue = true := by
    have h := X.room
    simp only [State.hasRoom, Bool.and_eq_true] at h
    exact h.2
  have h1 := X.book
  have e0 : s.slotsUsed = tot s.heap := eq_of_beq h0
  have e1 : T.slotsUsed = tot T.heap := eq_of_beq h1
  have e2 : T.slotsUsed = s.slotsUsed + ((T.heap.toList.drop s.heap.size).map (·.slots.size)).sum := X.same.2.2.2.1
  omega
theorem W.know {g : JFrame} (k : H.size ≤ s.heap.size + cells → tot H ≤ tot s.heap + slots → W p l e R s m args below meth c H locs cells slots Q g) : W p l e R s m args below meth c H locs cells slots Q g := by
  intro T hT X
  have h1 : T.heap.size ≤ s.heap.size + cells := X.same.2.2.1
  have h2 := gr_tot X
  have h3 : ((T.heap.toList.drop s.heap.size).map (·.slots.size)).sum ≤ slots := X.same.2.2.2.2.1
  exact k (by rw [← hT]; exact h1) (by rw [← hT]; omega) T hT X
theorem W.tight {g : JFrame} {k n : Nat} (h1 : H.size ≤ s.heap.size + k) (h2 : tot H ≤ tot s.heap + n) (kk : W p l e R s m args below meth c H locs k n Q g) : W p l e R s m args below meth c H locs cells slots Q g := by
  intro T hT X
  have h3 := gr_tot X
  refine kk T hT { X with same := ⟨X.same.1, X.same.2.1, ?_, X.same.2.2.2.1, ?_, X.same.2.2.2.2.2⟩ }
  · show T.heap.size ≤ s.heap.size + k
    rw [hT]; exact h1
  · show ((T.heap.toList.drop s.heap.size).map (·.slots.size)).sum ≤ n
    rw [hT] at h3 ⊢
    omega
end GR
def pg_B (D : va_G) (A : Nat → Prop) (sz tz : Nat) (u : List va_W × Nat × Nat) (t : State) : Prop := pc_B D A u.1 t ∧ t.heap.size ≤ sz + u.2.1 ∧ tot t.heap ≤ tz + u.2.2
def MgI (l : Launch) (y : MethodName) (b : ByteArray) (n : Nat) (ret : FieldType) (D : va_G) (cs : Nat → ClassId) (fr lo mc ms : Nat) (av : List Value) (ps : List va_W) (X : State → Prop) (post : Int32 → List va_W × Nat × Nat → Prop) : Prop := ∀ sz tz : Nat, Met l y (pc_ws y b n (some ret)) { frames := fr, cells := mc, slots := ms, locals := lo } (pc_Pre D cs av sz ps (fun U => tot U.heap = tz ∧ X U)) (va_Qi post (pg_B D (va_A ps.flatten sz) sz tz) (va_A ps.flatten sz)) mc ms (va_A ps.flatten sz)
def MgV (l : Launch) (y : MethodName) (b : ByteArray) (n : Nat) (D : va_G) (cs : Nat → ClassId) (fr lo mc ms : Nat) (av : List Value) (ps : List va_W) (X : State → Prop) (post : List va_W × Nat × Nat → Prop) : Prop := ∀ sz tz : Nat, Met l y (pc_ws y b n none) { frames := fr, cells := mc, slots := ms, locals := lo } (pc_Pre D cs av sz ps (fun U => tot U.heap = tz ∧ X U)) (va_Qv post (pg_B D (va_A ps.flatten sz) sz tz) (va_A ps.flatten sz)) mc ms (va_A ps.flatten sz)
def MgR (l : Launch) (y : MethodName) (b : ByteArray) (n : Nat) (ret : FieldType) (D : va_G) (cs : Nat → ClassId) (fr lo mc ms : Nat) (av : List Value) (ps : List va_W) (X : State → Prop) (post : Option Nat → List va_W × Nat × Nat → Prop) : Prop := ∀ sz tz : Nat, Met l y (pc_ws y b n (some ret)) { frames := fr, cells := mc, slots := ms, locals := lo } (pc_Pre D cs av sz ps (fun U => tot U.heap = tz ∧ X U)) (va_Qq post (pg_B D (va_A ps.flatten sz) sz tz) (va_A ps.flatten sz)) mc ms (va_A ps.flatten sz)
def pg_Body (l : Launch) (y : MethodName) (b : ByteArray) (n : Nat) (ret : Option FieldType) (D : va_G) (cs : Nat → ClassId) (rm : Room) (mc ms : Nat) (av : List Value) (ps : List va_W) (X : State → Prop) (Qc : Nat → Nat → Array Value → State → Outcome → State → Prop) : Prop :=
  ∀ (p : Program) (e : Env) (s : State) (m : MethodId) (below : List Frame) (meth : Method) (c : Code) (A : Nat → Prop) (ls : Array Slot), A = va_A ps.flatten s.heap.size → px_S p m c b n s av.toArray y.cls → meth.sig.returnType = ret → meth.locks = false → meth.name = y.name → (∀ q : Nat, s.heap.size ≤ q → A q) → Tb D cs s → X s → pw D A s.heap s.heap [] ps → lv_has ls n (lv_args 0 av) →
    W p l e rm s m av.toArray below meth c s.heap [] 0 0 (MQ below (Qc s.heap.size (tot s.heap)) av.toArray s mc ms A) (F0 m 0 ls [])
theorem pg_enter {l : Launch} {y : MethodName} {b : ByteArray} {n : Nat} {ret : Option FieldType} {D : va_G} {cs : Nat → ClassId} {fr lo mc ms : Nat} {av : List Value} {ps : List va_W} {X : State → Prop} {Qc : Nat → Nat → Array Value → State → Outcome → State → Prop}
    (hy : plainName y.cls = true) (hn : (lg_sl av).length ≤ n) (body : pg_Body l y b n ret D cs { frames := fr, cells := mc, slots := ms, locals := lo } mc ms av ps X Qc) :
    ∀ sz tz : Nat, Met l y (pc_ws y b n ret) { frames := fr, cells := mc, slots := ms, locals := lo } (pc_Pre D cs av sz ps (fun U => tot U.heap = tz ∧ X U)) (Qc sz tz) mc ms (va_A ps.flatten sz) := by
  intro sz tz
  refine Met.ofW (cc := b) (maxL := n) (ret := ret) hy rfl ?_
  intro p e s m args below meth c s₁ B hml hv
  obtain ⟨rfl, hsz, hP, hT, hD0, htz, hX⟩ := hv
  subst hsz
  subst htz
  rw [lg_entry_eq]
  exact body p e s m below meth c _ _ rfl ⟨_, ⟨B.exec, B.bytes, hml, findClass_of_methodNamed B.named, atoms_spec (ws := pc_ws y b n ret) B.pre⟩, fun w h => List.mem_cons_of_mem _ h⟩ B.returns B.notSynchronized (name_of_methodNamed B.named B.method).1 (fun q h => Or.inr h) hT hX ⟨hP, hD0.self, va_S.rf⟩ (lv_entry av hn)
theorem px_X.tot {X : State → Prop} {s : State} {H : Heap} (h : px_X X s H) : px_X (fun U => tot U.heap = tot H ∧ X U) s H :=
  ⟨fun U g mk a q => ⟨q.1, h.1 U g mk a q.2⟩, fun U hU hW => ⟨by rw [hU], h.2 U hU hW⟩⟩
section PG
variable {p : Program} {l : Launch} {e : Env} {R : Room} {s : State} {m : MethodId} {args : Array Value} {below : List Frame} {meth : Method} {c : Code} {H : Heap} {locs : List Loc} {cells slots : Nat} {Q : State → Prop}
variable {cc b : ByteArray} {pc nL n mc ms : Nat} {ls : Array Slot} {rest st0 : List Value} {D : va_G} {A : Nat → Prop} {cs : Nat → ClassId} {ps pr pcs : List va_W} {H0 : Heap} {own : String} {aa : Array Value}
theorem pg_calli {post : Int32 → List va_W × Nat × Nat → Prop} (hr : va_Run p l e R s m args below meth c H locs cells slots mc ms (F0 m pc ls st0) rest (va_Qi post (pg_B D (va_A pcs.flatten H.size) H.size (tot H)) (va_A pcs.flatten H.size) aa) (va_A pcs.flatten H.size)) (hw : pw D A H0 H locs (pr ++ pcs)) (hA : ∀ q, H0.size ≤ q → A q)
    (kk : ∀ (r : Int32) (p1 : List va_W) (k n : Nat) (H1 : Heap) (locs1 : List Loc), post r (p1, k, n) → pw D A H0 H1 locs1 (pr ++ p1) → W p l e R s m args below meth c H1 locs1 (cells + k) (slots + n) Q (F0 m (pc + 3) ls (.int r :: rest))) : W p l e R s m args below meth c H locs cells slots Q (F0 m pc ls st0) := by
  have hF := pp_free hw.2.1 hw.2.2 hA
  refine W.know (fun k1 k2 => ?_)
  refine va_calli hr hw.2.2 (fun q _ h => hF q h) hF (fun r u t H1 locs1 ht hvm hp hB hz hk hS => ?_)
  have h1 : va_P D classes u.1.flatten H1 := by rw [← ht]; exact hB.1.1
  have hj := pp_join hw.1 hw.2.1 hk hF h1 hB.1.2
  have g1 := hB.2.1
  have g2 := hB.2.2
  rw [ht] at g1 g2
  exact W.tight (k := cells + u.2.1) (n := slots + u.2.2) (by omega) (by omega) (kk r u.1 u.2.1 u.2.2 H1 locs1 hp ⟨hj.1, hj.2, hS⟩)
theorem pg_callv {post : List va_W × Nat × Nat → Prop} (hr : va_Run p l e R s m args below meth c H locs cells slots mc ms (F0 m pc ls st0) rest (va_Qv post (pg_B D (va_A pcs.flatten H.size) H.size (tot H)) (va_A pcs.flatten H.size) aa) (va_A pcs.flatten H.size)) (hw : pw D A H0 H locs (pr ++ pcs)) (hA : ∀ q, H0.size ≤ q → A q)
    (kk : ∀ (p1 : List va_W) (k n : Nat) (H1 : Heap) (locs1 : List Loc), post (p1, k, n) → pw D A H0 H1 locs1 (pr ++ p1) → W p l e R s m args below meth c H1 locs1 (cells + k) (slots + n) Q (F0 m (pc + 3) ls rest)) : W p l e R s m args below meth c H locs cells slots Q (F0 m pc ls st0) := by
  have hF := pp_free hw.2.1 hw.2.2 hA
  refine W.know (fun k1 k2 => ?_)
  refine va_callv hr hw.2.2 (fun q _ h => hF q h) hF (fun u t H1 locs1 ht hvm hp hB hz hk hS => ?_)
  have h1 : va_P D classes u.1.flatten H1 := by rw [← ht]; exact hB.1.1
  have hj := pp_join hw.1 hw.2.1 hk hF h1 hB.1.2
  have g1 := hB.2.1
  have g2 := hB.2.2
  rw [ht] at g1 g2
  exact W.tight (k := cells + u.2.1) (n := slots + u.2.2) (by omega) (by omega) (kk u.1 u.2.1 u.2.2 H1 locs1 hp ⟨hj.1, hj.2, hS⟩)
theorem pg_callq {post : Option Nat → List va_W × Nat × Nat → Prop} (hr : va_Run p l e R s m args below meth c H locs cells slots mc ms (F0 m pc ls st0) rest (va_Qq post (pg_B D (va_A pcs.flatten H.size) H.size (tot H)) (va_A pcs.flatten H.size) aa) (va_A pcs.flatten H.size)) (hw : pw D A H0 H locs (pr ++ pcs)) (hA : ∀ q, H0.size ≤ q → A q)
    (kk : ∀ (r : Option Nat) (p1 : List va_W) (k n : Nat) (H1 : Heap) (locs1 : List Loc), post r (p1, k, n) → pw D A H0 H1 locs1 (pr ++ p1) → W p l e R s m args below meth c H1 locs1 (cells + k) (slots + n) Q (F0 m (pc + 3) ls (va_rf r :: rest))) : W p l e R s m args below meth c H locs cells slots Q (F0 m pc ls st0) := by
  have hF := pp_free hw.2.1 hw.2.2 hA
  refine W.know (fun k1 k2 => ?_)
  refine va_callq hr hw.2.2 (fun q _ h => hF q h) hF (fun r u t H1 locs1 ht hvm hp hB hz hk hS => ?_)
  have h1 : va_P D classes u.1.flatten H1 := by rw [← ht]; exact hB.1.1
  have hj := pp_join hw.1 hw.2.1 hk hF h1 hB.1.2
  have g1 := hB.2.1
  have g2 := hB.2.2
  rw [ht] at g1 g2
  exact W.tight (k := cells + u.2.1) (n := slots + u.2.2) (by omega) (by omega) (kk r u.1 u.2.1 u.2.2 H1 locs1 hp ⟨hj.1, hj.2, hS⟩)
theorem pg_vret {post : List va_W × Nat × Nat → Prop} {ps0 : List va_W} (S : px_S p m c cc nL s args own) (hr : meth.sig.returnType = none) (hlocks : meth.locks = false) (hAe : A = va_A ps0.flatten s.heap.size) (hw : pw D A s.heap H locs ps) (hc : cells ≤ mc) (hs : slots ≤ ms) (hp : post (ps, cells, slots)) (hdg : decode cc pc = .ok (.return_, 1)) :
    W p l e R s m args below meth c H locs cells slots (MQ below (va_Qv post (pg_B D (va_A ps0.flatten s.heap.size) s.heap.size (tot s.heap)) (va_A ps0.flatten s.heap.size)) args s mc ms A) (F0 m pc ls []) := by
  subst hAe
  refine W.know (fun k1 k2 => ?_)
  refine W.widen (k := mc) (n := ms) hc hs ?_
  exact W.vret S.x S.b hr (fun t ht hW => ⟨⟨(ps, cells, slots), rfl, hp, ⟨by show va_P _ _ _ _; rw [ht]; exact hw.1, hw.2.1⟩, by rw [ht]; exact k1, by rw [ht]; exact k2⟩, hw.2.2.F ht⟩) hw.2.2.2.2 hdg hlocks
theorem pg_iret {post : Int32 → List va_W × Nat × Nat → Prop} {ps0 : List va_W} {v : Int32} {ty : FieldType} (S : px_S p m c cc nL s args own) (hr : meth.sig.returnType = some ty) (hn : narrow ty (.int v) = .int v) (hlocks : meth.locks = false) (hAe : A = va_A ps0.flatten s.heap.size) (hw : pw D A s.heap H locs ps) (hc : cells ≤ mc) (hs : slots ≤ ms) (hp : post v (ps, cells, slots)) (hdg : decode cc pc = .ok (.ireturn, 1)) :
    W p l e R s m args below meth c H locs cells slots (MQ below (va_Qi post (pg_B D (va_A ps0.flatten s.heap.size) s.heap.size (tot s.heap)) (va_A ps0.flatten s.heap.size)) args s mc ms A) (F0 m pc ls [.int v]) := by
  subst hAe
  refine W.know (fun k1 k2 => ?_)
  refine W.widen (k := mc) (n := ms) hc hs ?_
  exact W.zret S.x S.b hr hn (fun t ht hW => ⟨⟨v, (ps, cells, slots), rfl, hp, ⟨by show va_P _ _ _ _; rw [ht]; exact hw.1, hw.2.1⟩, by rw [ht]; exact k1, by rw [ht]; exact k2⟩, hw.2.2.F ht⟩) hw.2.2.2.2 hdg hlocks
theorem pg_aret {post : Option Nat → List va_W × Nat × Nat → Prop} {ps0 : List va_W} {v : Option Nat} {rt : FieldType} (S : px_S p m c cc nL s args own) (hr : meth.sig.returnType = some rt) (hrt : (∃ n, rt = .object n) ∨ ∃ t, rt = .array t) (hlocks : meth.locks = false) (hAe : A = va_A ps0.flatten s.heap.size) (hw : pw D A s.heap H locs ps) (hc : cells ≤ mc) (hs : slots ≤ ms) (hp : post v (ps, cells, slots)) (hdg : decode cc pc = .ok (.areturn, 1)) :
    W p l e R s m args below meth c H locs cells slots (MQ below (va_Qq post (pg_B D (va_A ps0.flatten s.heap.size) s.heap.size (tot s.heap)) (va_A ps0.flatten s.heap.size)) args s mc ms A) (F0 m pc ls [va_rf v]) := by
  subst hAe
  refine W.know (fun k1 k2 => ?_)
  refine W.widen (k := mc) (n := ms) hc hs ?_
  exact W.aret S.x S.b hr hrt (by cases v with | none => exact Or.inl rfl | some a => exact Or.inr ⟨a, rfl⟩) (fun t ht hW => ⟨⟨v, (ps, cells, slots), rfl, hp, ⟨by show va_P _ _ _ _; rw [ht]; exact hw.1, hw.2.1⟩, by rw [ht]; exact k1, by rw [ht]; exact k2⟩, hw.2.2.F ht⟩) hw.2.2.2.2 hdg hlocks
end PG
