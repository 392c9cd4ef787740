/-! METHODS THAT MAY THROW: a contract over the kit's MetFree whose end may be 'returned' or 'threw', and the row 'new E; dup; invokespecial E.<init>(); athrow' (library: Stand.ctorThrow0) -/
def tx_Fr (s : State) (t : State) (L : List Loc) (k n : Nat) : Prop := s.WarmedH t.vm ∧ s.sameButNew ({ t with vm := s.vm } : State) L k n
/-- method y ends, by returning or by throwing: 'Qo args s outcome t'; at most mc cells of ms slots are new; no old cell changes but those that 'free' names -/
def tx_Met (l : Launch) (y : MethodName) (ws : List Cond) (rm : Room) (Pc : Array Value → State → Prop) (Qo : Array Value → State → Outcome → State → Prop) (mc ms : Nat) (free : Addr → Prop) : Prop :=
  MetFree l y (headSpec ws rm) Pc (fun _ _ _ _ _ => True) (fun a st o t => Qo a st o t ∧ ∃ L, tx_Fr st t L mc ms ∧ ∀ q ∈ L, free q.base)
def tx_MQ (below : List Frame) (Qo : Array Value → State → Outcome → State → Prop) (a : Array Value) (s : State) (mc ms : Nat) (free : Addr → Prop) : State → Prop := fun t =>
  ∃ o : Outcome, t.status = .running ∧ Ended t below o ∧ Qo a s o t ∧ ∃ L, tx_Fr s t L mc ms ∧ ∀ q ∈ L, free q.base
theorem tx_ofW {l : Launch} {y : MethodName} {ws ws' : List Cond} {rm : Room} {Pc : Array Value → State → Prop} {Qo : Array Value → State → Outcome → State → Prop} {mc ms : Nat} {free : Addr → Prop} {cc : ByteArray} {maxL : Nat} {ret : Option FieldType}
    (hy : plainName y.cls = true) (hw : ws = Cond.code y cc maxL ret :: ws')
    (body : ∀ p e s m args below meth c s₁, BodyLoose p l y (headSpec ws rm) cc maxL ret e s m args below meth c s₁ → c.maxLocals = maxL → Pc args s → l.admits e → c.exceptionTable.isEmpty = true →
      W p l e (headSpec ws rm).room s m args below meth c s.heap [] 0 0 (tx_MQ below Qo args s mc ms free) (entryFrame m args maxL)) : tx_Met l y ws rm Pc Qo mc ms free := by
  refine MetFree.of_bodyS (code := cc) (maxLocals := maxL) (ret := ret) hy ?_ ?_
  · intro args s m h hn
    obtain ⟨meth, c, h1, h2, h3, h4, h5, h6, -, -⟩ := Cond.code_spec hn (atoms_spec (ws := ws) h _ (by rw [hw]; exact List.mem_cons_self))
    exact ⟨meth, c, h1, h2, h3, h4, h5, h6⟩
  · intro p e s m args below meth c s₁ B hml hP _
    have hh0 : s₁.heap = s.heap := by rw [B.state]; rfl
    have hne : c.exceptionTable.isEmpty = true := B.noHandlers (atoms_spec (ws := ws) B.pre _ (by rw [hw]; exact List.mem_cons_self))
    obtain ⟨t, a1, o, b1, b2, b3⟩ := body p e s m args below meth c s₁ B hml hP B.admits hne s₁ hh0 (Stand.of_body B)
    exact ⟨t, o, a1, b1, b2, b3.1, b3.2⟩
/-- the thrown object is a new one of class E, and no cell that was there has changed -/
def tx_new (E : String) (s : State) (x : Addr) (t : State) : Prop :=
  s.heap.size ≤ x ∧ s.heap.size ≤ t.heap.size ∧ (∀ q : Nat, q < s.heap.size → t.heap[q]? = s.heap[q]?) ∧ ∃ ce : Cell, t.heap[x]? = some ce ∧ ce.vm.isStatics = false ∧ s.vm.findClass E = some ce.cls
section
variable {p : Program} {l : Launch} {e : Env} {R : Room} {s : State} {m : MethodId} {args : Array Value} {below : List Frame} {meth : Method} {c : Code} {H : Heap} {locs : List Loc} {cells slots : Nat}
/-- the kit's own ends serve in such a contract -/
theorem tx_ret {Qc Qo : Array Value → State → Outcome → State → Prop} {mc ms : Nat} {free : Addr → Prop} {g : JFrame} (hq : ∀ o t, Qc args s o t → Qo args s o t)
    (k : W p l e R s m args below meth c H locs cells slots (MQ below Qc args s mc ms free) g) : W p l e R s m args below meth c H locs cells slots (tx_MQ below Qo args s mc ms free) g := fun T hT X => by
  obtain ⟨t, a, o, h1, h2, h3, L, hF, hL⟩ := k T hT X
  exact ⟨t, a, o, h1, h2, hq o t h3, L, ⟨hF.2.1, hF.2.2⟩, hL⟩
set_option maxHeartbeats 2000000 in
theorem tx_throw {cc : ByteArray} {pc ia ic : Nat} {ls : Array Slot} {st : List Value} {own E : String} {names : List String} {Qo : Array Value → State → Outcome → State → Prop} {free : Addr → Prop}
    (hexec : p.tables.exec = Jvm.exec) (hb : c.code = cc) (hlocks : meth.locks = false) (htr : e.platform.stackTraces = false) (hown : s.vm.findClass own = some m.cls)
    (hcl : (Cond.classLink own ia E).before args s = true) (hini : (Cond.initialized E).before args s = true)
    (hE : Bundle.fit E = true) (hnames : ∀ n ∈ names, Bundle.fit n = true) (hat : ∀ a ∈ Bundle.ownAtoms0 own ic E names, a.before args s = true)
    (hls : ls.size = c.maxLocals) (hd0 : decode cc pc = .ok (.new ia, 3)) (hd3 : decode cc (pc + 3) = .ok (.dup, 1)) (hd4 : decode cc (pc + 4) = .ok (.invokespecial ic, 3)) (hd7 : decode cc (pc + 7) = .ok (.athrow, 1))
    (hne : c.exceptionTable.isEmpty = true)
    (hc1 : 1 ≤ R.cells) (hs1 : 6 ≤ R.slots) (hfr : names.length + 3 < R.frames) (hlo : (st.map fun v => v.category).sum + 1 + (13 * (names.length + 1) + 41) ≤ R.locals)
    (hQ : ∀ (x : Addr) (t : State), s.WarmedH t.vm → tx_new E s x t → Qo args s (.threw x) t) :
    W p l e R s m args below meth c s.heap [] 0 0 (tx_MQ below Qo args s 1 6 free) (F0 m pc ls st) := by
  have hinst : (Cond.instantiable E 6).before args s = true := hat _ (by simp [Bundle.ownAtoms0])
  obtain ⟨cX, kX, hfX, hkX, -, -, -, -⟩ := Cond.instantiable_spec hinst
  refine W.newcK hexec hb hown hcl hinst hini rfl hd0 (by omega) (by omega) hfX rfl fun H' kC hkC hcell hsz hold => ?_
  refine lv_dup hexec hb hd3 rfl ?_
  intro T hT X
  have h0 : ∀ x ∈ c.exceptionTable.toList, covers x (pc + 3 + 1 + 3) = false := by
    have h1 : c.exceptionTable.toList = [] := List.eq_nil_of_length_eq_zero (by simpa [Array.isEmpty] using hne)
    intro x hx; rw [h1] at hx; cases hx
  obtain ⟨U, hsteps, hrun, hend, hW, hsame, ce, hce, K⟩ := X.ctorThrow0 hexec htr (own := own) (cls := E) (names := names) (ic := ic) hown hE hnames hat (by intro x hx; cases hx)
    (a := s.heap.size) (cX := cX) (kX := kC) hfX hkC (by rw [hT]; exact hcell) (Nat.le_refl _) (g := F0 m (pc + 3 + 1) ls (.ref s.heap.size :: .ref s.heap.size :: st)) rfl hls rfl rfl rfl (by rw [hb]; exact hd4) (by rw [hb]; exact hd7) h0 hfr
    (by show 2 * 0 + (1 + (st.map fun v => v.category).sum) + (13 * (names.length + 1) + 41) ≤ R.locals; omega) hlocks
  refine ⟨U, hsteps, .threw s.heap.size, hrun, hend, hQ _ _ hW ⟨Nat.le_refl _, ?_, ?_, ce, hce, ?_, K.cls⟩, [], ⟨hW, hsame⟩, fun q hq => by cases hq⟩
  · exact hsame.2.1
  · intro q hq
    exact (hsame.old_cell (Array.getElem?_eq_getElem hq)).trans (Array.getElem?_eq_getElem hq).symm
  · rw [K.vm]; rfl
end
