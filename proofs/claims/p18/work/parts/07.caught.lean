/-! INTO THE HANDLER -/
theorem tx_step_catch {e : Env} {s : State} {a : Addr} {f : JFrame} {r : List Frame} {pc : Nat} {vm' : Vm} (hfind : ∀ (Q : Handler → Pre) (E : CtlPost) (d : Bool) (acts : List Action), wp (findHandler f a) Q E e d acts s ↔ Q (.found pc) d acts (s.setVm vm')) :
    (stepThrowing e s a (.java f :: r)).Is ((s.setVm vm').setFrames (.java { f with pc := pc, stack := [.ref a] } :: r)) [] := by
  simp only [stepThrowing, searchFrame, vmDo]
  generalize hr : Sem.go _ e false [] s = res
  obtain ⟨as, rfl, ha⟩ := Sem.eq_ok_of hr (a := Handler.found pc) (s' := s.setVm vm') (acts' := []) (by simp [hfind _ _ _ _])
  exact ⟨rfl, ha⟩
theorem tx_caught {tb : Tables} {e : Env} {s target : State} {g : JFrame} {c : Code} {below : List Frame} {a : Addr} {vm' : Vm} (h : At s g.method c below) {pc : Nat}
    (hfind : ∀ (fs : List Frame) (Q : Handler → Pre) (E : CtlPost) (d : Bool) (acts : List Action), wp (findHandler g a) Q E e d acts (s.setFrames fs) ↔ Q (.found pc) d acts ((s.setVm vm').setFrames fs))
    (hrest : Steps tb e below ((s.setVm vm').setTop { g with pc := pc, stack := [.ref a] }) target) :
    Steps tb e below ((s.setTop g).pushFrame (.throwing a)) target := by
  obtain ⟨hgo, hw⟩ := h.throwing a
  refine Steps.head hgo hw ?_
  obtain ⟨g₀, hg⟩ := Option.isSome_iff_exists.mp h.top
  obtain ⟨r, hr⟩ := State.topJava?_eq_some.mp hg
  have hr' : (s.setVm vm').frames = .java g₀ :: r := hr
  have hU : (s.setTop g).pushFrame (.throwing a) = s.setFrames (.throwing a :: .java g :: r) := by
    rw [State.pushFrame, State.frames_setTop _ hr, State.setTop_of_frames _ hr, State.setFrames_setFrames]
  rw [stepThread_throwing (frames_entered h.top _), (tx_step_catch (s := (s.setTop g).pushFrame (.throwing a)) (pc := pc) (vm' := vm') (by rw [hU]; exact hfind _)).1]
  rw [State.setTop_of_frames _ hr'] at hrest
  rw [hU, hr]
  show Steps tb e below (((s.setVm vm').setFrames (.throwing a :: .java g :: r)).setFrames (.java { g with pc := pc, stack := [.ref a] } :: r)) target
  rw [State.setFrames_setFrames]
  exact hrest
section
variable {p : Program} {l : Launch} {e : Env} {R : Room} {s : State} {m : MethodId} {args : Array Value} {below : List Frame} {meth : Method} {c : Code} {T : State} {locs : List Loc} {cells slots : Nat}
/-- which handler takes an object of class E thrown at pc: of the table, entry by entry -/
def tx_Takes (s : State) (args : Array Value) (own E : String) (pc : Nat) (hpc : Nat) : List ExceptionTableEntry → Prop
  | [] => False
  | x :: t => (covers x pc = false ∧ tx_Takes s args own E pc hpc t) ∨ (covers x pc = true ∧ x.catchType ≠ 0 ∧ ∃ E' : String, (Cond.classLink own x.catchType E').before args s = true ∧
      ((x.handlerPc = hpc ∧ ∃ cE cT : ClassId, s.vm.findClass E = some cE ∧ s.vm.findClass E' = some cT ∧ s.vm.assignable cE cT = true) ∨
       ((∃ cE cT : ClassId, s.vm.findClass E = some cE ∧ s.vm.findClass E' = some cT ∧ s.vm.assignable cE cT = false) ∧ tx_Takes s args own E pc hpc t)))
theorem tx_find {own E : String} (hown : s.vm.findClass own = some m.cls) {a : Addr} {ce : Cell} (hst : ce.vm.isStatics = false) (hcE : s.vm.findClass E = some ce.cls) {f : JFrame} (hf : f.method = m) {hpc : Nat} :
    ∀ (t : List ExceptionTableEntry) (T : State), T.heap[a]? = some ce → Stand p l e R s m args below meth c T locs cells slots → tx_Takes s args own E f.pc hpc t →
    ∃ vm' : Vm, Stand p l e R s m args below meth c (T.setVm vm') locs cells slots ∧ ∀ (fs : List Frame) (Q : Handler → Pre) (E1 : CtlPost) (d : Bool) (acts : List Action),
      (wp (findHandler.go f a t) Q E1 e d acts (T.setFrames fs) ↔ Q (.found hpc) d acts ((T.setVm vm').setFrames fs))
  | [], T, _, _, h => h.elim
  | x :: t, T, hce, X, h => by
    rcases h with ⟨hx, h⟩ | ⟨hx, h0, E', hl, ⟨rfl, hc⟩ | ⟨hc, h⟩⟩
    · obtain ⟨vm', X', hw⟩ := tx_find hown hst hcE hf t T hce X h
      exact ⟨vm', X', fun fs Q E1 d acts => (W.findHandler_go_skip hx).trans (hw fs Q E1 d acts)⟩
    · obtain ⟨vm', X', hw⟩ := tx_entry X hown hl hce hst hcE hf hx h0 hc
      exact ⟨vm', X', fun fs Q E1 d acts => (hw t fs Q E1 d acts).trans (by rw [if_pos rfl])⟩
    · obtain ⟨vm1, X1, hw1⟩ := tx_entry X hown hl hce hst hcE hf hx h0 hc
      obtain ⟨vm', X', hw⟩ := tx_find hown hst hcE hf t (T.setVm vm1) hce X1 h
      exact ⟨vm', X', fun fs Q E1 d acts => (hw1 t fs Q E1 d acts).trans ((by rw [if_neg (by decide)] : _ ↔ _).trans (hw fs Q E1 d acts))⟩
/-- a thrown object of class E lies over the frame g: the walk goes on in the handler -/
theorem tx_into (X : Stand p l e R s m args below meth c T locs cells slots) {own E : String} (hown : s.vm.findClass own = some m.cls) {a : Addr} {ce : Cell} (hce : T.heap[a]? = some ce) (hst : ce.vm.isStatics = false) (hcE : s.vm.findClass E = some ce.cls)
    {g : JFrame} (hg : g.method = m) {hpc : Nat} (ht : tx_Takes s args own E g.pc hpc c.exceptionTable.toList) :
    ∃ vm' : Vm, Stand p l e R s m args below meth c (T.setVm vm') locs cells slots ∧ ∀ target, Steps p.tables e below ((T.setVm vm').setTop { g with pc := hpc, stack := [.ref a] }) target → Steps p.tables e below ((T.setTop g).pushFrame (.throwing a)) target := by
  obtain ⟨vm', X', hw⟩ := tx_find hown hst hcE hg c.exceptionTable.toList T hce X ht
  refine ⟨vm', X', fun target hr => ?_⟩
  refine tx_caught (c := c) (by rw [hg]; exact X.here) (vm' := vm') (pc := hpc) (fun fs Q E1 d acts => ?_) hr
  exact (W.findHandler_eq (s := T.setFrames fs) (f := g) (meth := meth) (code := c) (by rw [hg]; exact X.method') X.code).trans (hw fs Q E1 d acts)
end
