/-! THE SEARCH FOR A HANDLER, its catch types linked cold or warm ('classLink') -/
section
variable {E : CtlPost} {e : Env} {d : Bool} {acts : List Action} {s : State} {f : JFrame} {a : Addr} {Q : Handler → Pre}
theorem tx_go_cold {x : ExceptionTableEntry} {t : List ExceptionTableEntry} {c : ClassId} {vm' : Vm} (hx : covers x f.pc = true) (h0 : x.catchType ≠ 0)
    (hg : (Jvm.resolveClass f.method.cls x.catchType).Gives e.toSetting s.vm (.ok c) vm') (hr : vm'.classReady f.method.cls x.catchType c) (hsz : vm'.classes.size ≤ s.vm.classes.size) :
    wp (findHandler.go f a (x :: t)) Q E e d acts s ↔ wp (findHandler.go f a (x :: t)) Q E e d acts (s.setVm vm') := by
  obtain ⟨ha, ht⟩ := hg.op (op := VmOp.resolveClass f.method.cls x.catchType) rfl
  obtain ⟨k, hk, hres⟩ := hr
  obtain ⟨hb1, hb2⟩ := resolveClass_memo (vm := vm') e hk hres
  simp only [covers] at hx
  simp [findHandler.go, hx, h0, ha, ht, hsz, hb1, hb2]
  exact Iff.rfl
end
section
variable {p : Program} {l : Launch} {e : Env} {R : Room} {s : State} {m : MethodId} {args : Array Value} {below : List Frame} {meth : Method} {c : Code} {T : State} {locs : List Loc} {cells slots : Nat}
/-- an entry whose range holds the pc: its class is linked; then it takes the object, or the search goes on -/
theorem tx_entry (X : Stand p l e R s m args below meth c T locs cells slots) {own E E' : String} (hown : s.vm.findClass own = some m.cls) {x : ExceptionTableEntry} (hlink : (Cond.classLink own x.catchType E').before args s = true)
    {a : Addr} {ce : Cell} (hce : T.heap[a]? = some ce) (hst : ce.vm.isStatics = false) (hcE : s.vm.findClass E = some ce.cls) {f : JFrame} (hf : f.method = m) (hx : covers x f.pc = true) (h0 : x.catchType ≠ 0) {b : Bool}
    (hcast : ∃ cE cT : ClassId, s.vm.findClass E = some cE ∧ s.vm.findClass E' = some cT ∧ s.vm.assignable cE cT = b) :
    ∃ vm' : Vm, Stand p l e R s m args below meth c (T.setVm vm') locs cells slots ∧ ∀ (t : List ExceptionTableEntry) (fs : List Frame) (Q : Handler → Pre) (E1 : CtlPost) (d : Bool) (acts : List Action),
      (wp (findHandler.go f a (x :: t)) Q E1 e d acts (T.setFrames fs) ↔ if b = true then Q (.found x.handlerPc) d acts ((T.setVm vm').setFrames fs) else wp (findHandler.go f a t) Q E1 e d acts ((T.setVm vm').setFrames fs)) := by
  have hpl : e.platform.magicAccessors = ({} : Platform).magicAccessors := by rw [X.admits.platform]
  obtain ⟨cT', hc', hcl⟩ := Cond.classLink_spec hown hlink e.platform hpl
  obtain ⟨cE, cT, hE1, hE2, has⟩ := hcast
  obtain rfl : cT = cT' := Option.some.inj (hE2.symm.trans hc')
  cases hE1.symm.trans hcE
  obtain ⟨dk, _, _, kt, hd, _, _, _, _, hkt, _, hopen⟩ := hcl.here
  have hcl₀ := X.warmed.classLinks hcl
  have hW' : s.WarmedH (T.vm.noted m.cls x.catchType (.cls cT)) := X.warmed.noted hd hopen (State.rightAt_cls hcl)
  obtain ⟨ks, hks⟩ := Vm.classAt_of_findClass hcE
  obtain ⟨ks', hks', -⟩ := hW'.alike.2.2 _ _ hks
  obtain ⟨kt', hkt', -⟩ := hW'.alike.2.2 _ _ hkt
  refine ⟨_, X.noted hW', fun t fs Q E1 d acts => ?_⟩
  subst hf
  have hal : (T.setFrames fs).vm.Alike (T.vm.noted f.method.cls x.catchType (.cls cT)) := alike_of X.warmed hW'
  rw [tx_go_cold (s := T.setFrames fs) (vm' := T.vm.noted f.method.cls x.catchType (.cls cT)) hx h0 (resolveClass_links e.toSetting hcl₀) hcl₀.ready (by no_record)]
  rw [W.findHandler_go_class (s := (T.setFrames fs).setVm (T.vm.noted f.method.cls x.catchType (.cls cT))) (c := cT) (cell := ce) hx h0 hcl₀.ready hce (VmData.ne_statics_of hst) ⟨ks', hks'⟩ ⟨kt', hkt'⟩]
  have ha : ((T.setFrames fs).setVm (T.vm.noted f.method.cls x.catchType (.cls cT))).vm.assignable ce.cls cT = b := by
    show (T.vm.noted f.method.cls x.catchType (.cls cT)).assignable ce.cls cT = b
    rw [hW'.alike.assignable]; exact has
  rw [ha]
  exact Iff.rfl
end
