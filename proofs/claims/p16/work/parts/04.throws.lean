/-! METHODS THAT END BY THROWING: a contract over the kit's MetFree, and the row 'new E; dup; invokespecial E.<init>(); athrow' (library: Stand.ctorThrow0) -/
/-- method y ends by throwing: 'Qt args s x t', x the thrown object; at most mc cells of ms slots are new; no old cell changes but those that 'free' names -/
def tx_Met (l : Launch) (y : MethodName) (ws : List Cond) (rm : Room) (Pc : Array Value → State → Prop) (Qt : Array Value → State → Addr → State → Prop) (mc ms : Nat) (free : Addr → Prop) : Prop :=
  MetFree l y (headSpec ws rm) Pc (fun _ _ _ _ _ => True) (fun a st o t => ∃ x : Addr, o = .threw x ∧ Qt a st x t ∧ ∃ L, FramedT st (.threw x) t L mc ms ∧ ∀ q ∈ L, free q.base)
def tx_MQ (below : List Frame) (Qt : Array Value → State → Addr → State → Prop) (a : Array Value) (s : State) (mc ms : Nat) (free : Addr → Prop) : State → Prop := fun t =>
  ∃ x : Addr, t.status = .running ∧ Ended t below (.threw x) ∧ Qt a s x t ∧ ∃ L, FramedT s (.threw x) t L mc ms ∧ ∀ q ∈ L, free q.base
theorem tx_ofW {l : Launch} {y : MethodName} {ws ws' : List Cond} {rm : Room} {Pc : Array Value → State → Prop} {Qt : Array Value → State → Addr → State → Prop} {mc ms : Nat} {free : Addr → Prop} {cc : ByteArray} {maxL : Nat} {ret : Option FieldType}
    (hy : plainName y.cls = true) (hw : ws = Cond.code y cc maxL ret :: ws')
    (body : ∀ p e s m args below meth c s₁, BodyLoose p l y (headSpec ws rm) cc maxL ret e s m args below meth c s₁ → c.maxLocals = maxL → Pc args s → l.admits e → c.exceptionTable.isEmpty = true →
      W p l e (headSpec ws rm).room s m args below meth c s.heap [] 0 0 (tx_MQ below Qt args s mc ms free) (entryFrame m args maxL)) : tx_Met l y ws rm Pc Qt mc ms free := by
  refine MetFree.of_bodyS (code := cc) (maxLocals := maxL) (ret := ret) hy ?_ ?_
  · intro args s m h hn
    obtain ⟨meth, c, h1, h2, h3, h4, h5, h6, -, -⟩ := Cond.code_spec hn (atoms_spec (ws := ws) h _ (by rw [hw]; exact List.mem_cons_self))
    exact ⟨meth, c, h1, h2, h3, h4, h5, h6⟩
  · intro p e s m args below meth c s₁ B hml hP _
    have hh0 : s₁.heap = s.heap := by rw [B.state]; rfl
    have hne : c.exceptionTable.isEmpty = true := B.noHandlers (atoms_spec (ws := ws) B.pre _ (by rw [hw]; exact List.mem_cons_self))
    obtain ⟨t, a1, x, b1, b2, b3⟩ := body p e s m args below meth c s₁ B hml hP B.admits hne s₁ hh0 (Stand.of_body B)
    exact ⟨t, .threw x, a1, b1, b2, x, rfl, b3.1, b3.2⟩
/-- the thrown object is a new one of class E, and no cell that was there has changed -/
def tx_new (E : String) (s : State) (x : Addr) (t : State) : Prop :=
  s.heap.size ≤ x ∧ s.heap.size ≤ t.heap.size ∧ (∀ q : Nat, q < s.heap.size → t.heap[q]? = s.heap[q]?) ∧ ∃ ce : Cell, t.heap[x]? = some ce ∧ ce.vm.isStatics = false ∧ s.vm.findClass E = some ce.cls
section
variable {p : Program} {l : Launch} {e : Env} {R : Room} {s : State} {m : MethodId} {args : Array Value} {below : List Frame} {meth : Method} {c : Code}
set_option maxHeartbeats 2000000 in
theorem tx_throw {cc : ByteArray} {pc ia ic : Nat} {ls : Array Slot} {st : List Value} {own E : String} {names : List String} {Qt : Array Value → State → Addr → State → Prop} {free : Addr → Prop}
    (hexec : p.tables.exec = Jvm.exec) (hb : c.code = cc) (hlocks : meth.locks = false) (htr : e.platform.stackTraces = false) (hown : s.vm.findClass own = some m.cls)
    (hcl : (Cond.classLink own ia E).before args s = true) (hini : (Cond.initialized E).before args s = true)
    (hE : Bundle.fit E = true) (hnames : ∀ n ∈ names, Bundle.fit n = true) (hat : ∀ a ∈ Bundle.ownAtoms0 own ic E names, a.before args s = true)
    (hls : ls.size = c.maxLocals) (hd0 : decode cc pc = .ok (.new ia, 3)) (hd3 : decode cc (pc + 3) = .ok (.dup, 1)) (hd4 : decode cc (pc + 4) = .ok (.invokespecial ic, 3)) (hd7 : decode cc (pc + 7) = .ok (.athrow, 1))
    (hne : c.exceptionTable.isEmpty = true)
    (hc1 : 1 ≤ R.cells) (hs1 : 6 ≤ R.slots) (hfr : names.length + 3 < R.frames) (hlo : (st.map fun v => v.category).sum + 1 + (13 * (names.length + 1) + 41) ≤ R.locals)
    (hQ : ∀ (x : Addr) (t : State), s.WarmedH t.vm → tx_new E s x t → Qt args s x t) :
    W p l e R s m args below meth c s.heap [] 0 0 (tx_MQ below Qt args s 1 6 free) (F0 m pc ls st) := by
  have hinst : (Cond.instantiable E 6).before args s = true := hat _ (by simp [Bundle.ownAtoms0])
  obtain ⟨cX, kX, hfX, hkX, -, -, -, -⟩ := Cond.instantiable_spec hinst
  refine W.newcK hexec hb hown hcl hinst hini rfl hd0 (by omega) (by omega) hfX rfl fun H' kC hkC hcell hsz hold => ?_
  refine lv_dup hexec hb hd3 rfl ?_
  intro T hT X
  have h0 : ∀ x ∈ c.exceptionTable.toList, covers x (pc + 3 + 1 + 3) = false := by
    have h1 : c.exceptionTable.toList = [] := List.eq_nil_of_length_eq_zero (by simpa [Array.isEmpty] using hne)
    intro x hx; rw [h1] at hx; cases hx
  obtain ⟨U, hsteps, hrun, hend, hW, hsame, ce, hce, K⟩ := X.ctorThrow0 hexec htr (own := own) (cls := E) (names := names) (ic := ic) hown hE hnames hat (by intro x hx; cases hx)
    (a := s.heap.size) (cX := cX) (kX := kC) hfX hkC (by rw [hT]; exact hcell) (Nat.le_refl _) (g := F0 m (pc + 3 + 1) ls (.ref s.heap.size :: .ref s.heap.size :: st)) rfl hls rfl rfl rfl (by rw [hb]; exact hd4) (by rw [hb]; exact hd7) h0 hfr
    (by show 2 * 0 + (1 + (st.map fun v => v.category).sum) + (13 * (names.length + 1) + 41) ≤ R.locals; omega) hlocks
  refine ⟨U, hsteps, s.heap.size, hrun, hend, hQ _ _ hW ⟨Nat.le_refl _, ?_, ?_, ce, hce, ?_, K.cls⟩, [], ⟨⟨_, rfl⟩, hW, ?_⟩, fun q hq => by cases hq⟩
  · exact hsame.2.1
  · intro q hq
    exact (hsame.old_cell (Array.getElem?_eq_getElem hq)).trans (Array.getElem?_eq_getElem hq).symm
  · rw [K.vm]; rfl
  · exact hsame
end
