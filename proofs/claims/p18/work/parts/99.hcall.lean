/-! A CALL of a method with handlers, that returns -/
section PHC
variable {p : Program} {l : Launch} {e : Env} {R : Room} {s : State} {m : MethodId} {args : Array Value} {below : List Frame} {meth : Method} {c : Code} {H : Heap} {locs : List Loc} {cells slots : Nat}
variable {cc b : ByteArray} {pc nL n fr lo mc ms index : Nat} {ls : Array Slot} {rest As st0 : List Value} {D : va_G} {A : Nat → Prop} {b0 : Nat} {cs : Nat → ClassId} {pr pcs : List va_W} {own : String} {y : MethodName} {ret : Option FieldType} {X : State → Prop} {Qc : Array Value → State → Outcome → State → Prop} {free : Addr → Prop} {H0 : Heap} {hh : List (Nat × Nat × Nat × Nat)}
theorem ph_back {ws : List Cond} {rm : Room} {Pc : Array Value → State → Prop} (hM : Met l y ws rm Pc Qc mc ms free) (hblind : FrameBlind Pc) (hrc : rm.cells = mc) (hrs : rm.slots = ms) (hfr : rm.frames + 1 ≤ R.frames) (hlo : 8 + (n + 11) + rm.locals ≤ R.locals)
    (hws : ∀ w ∈ ws, ∀ a' U, s.WarmedH U.vm → w.before a' U = true) (hcode : Cond.codeWith y b n ret hh ∈ ws) (hinit : ∀ a' U, s.WarmedH U.vm → (Cond.initialized y.cls).before a' U = true) :
    Back l R p e below s args y 3 8 (PreOf R mc ms Pc) (PostOf Qc mc ms free) := by
  refine Back.of_freeWith (handlers := hh) (S := headSpec ws rm) (P := Pc) (K := fun _ _ _ _ _ => True) (Q := fun a st o t => Qc a st o t ∧ ∃ L, FrameEnd st o t L mc ms ∧ ∀ q ∈ L, free q.base) (bytes := b) (maxL := n) (ret := ret)
    (E := fun a st o t L k n => k = mc ∧ n = ms ∧ ∀ q ∈ L, free q.base) hM hfr hlo ?_ ?_ (fun _ _ _ _ _ _ _ _ _ => trivial) ?_ ?_
  · intro m meth c A a X hp
    exact ⟨atoms_intro fun w hw => hws w hw _ _ X.warmed, hws _ hcode _ _ X.warmed, hinit _ _ X.warmed, by rw [show (headSpec ws rm).room.cells = mc from hrc]; exact hp.1, by rw [show (headSpec ws rm).room.slots = ms from hrs]; exact hp.2.1⟩
  · intro m meth c A a g mk X hp
    exact hblind _ _ _ _ hp.2.2
  · intro a st o t ⟨hq, L, hF, hL⟩
    exact ⟨L, mc, ms, hF, rfl, rfl, hL⟩
  · intro m meth c A a g mk v t L k n X hp hq hF ⟨e1, e2, hL⟩
    subst e1; subst e2
    exact ⟨g, mk, t, L, rfl, rfl, hq.1, rfl, hL, rfl, rfl⟩
theorem ph_runV (S : px_S p m c cc nL s args own) (hM : Met l y (ph_ws y b n ret hh) { frames := fr, cells := mc, slots := ms, locals := lo } (pc_Pre D cs (.ref b0 :: As) H.size pcs X) Qc mc ms free) (hT : Tb D cs s) (hw : pw D A H0 H locs (pr ++ pcs)) (hX : px_X X s H)
    (hrc : ∃ cell : Cell, H[b0]? = some cell ∧ cell.vm.isStatics = false ∧ s.vm.findClass y.cls = some cell.cls) (hcode : Cond.codeWith y b n ret hh ∈ AL) (hlink : Cond.methodLink own index y ∈ AL) (hinst : Cond.instanceMethod y ∈ AL) (hsel : Cond.selects y.cls y y ∈ AL) (hini : Cond.initialized y.cls ∈ AL) (hy : px_y y As.length)
    (hR : fr + 1 ≤ R.frames ∧ 8 + (n + 11) + lo ≤ R.locals) (hl : ls.size = nL) (hst : st0 = As.reverse ++ .ref b0 :: rest) (hrm : (rest.map fun v => v.category).sum ≤ 8) (hdg : decode cc pc = .ok (.invokevirtual index, 3)) (hf : cells + mc ≤ R.cells ∧ slots + ms ≤ R.slots) :
    va_Run p l e R s m args below meth c H locs cells slots mc ms (F0 m pc ls st0) rest (Qc (Value.ref b0 :: As).toArray) free := by
  subst hst
  have h1 := S.w hlink
  have h2 := S.w hinst
  have h3 := S.w hsel
  have h4 := S.w hini
  have h5 := S.w hcode
  obtain ⟨Ts, ⟨hx, hb, hml, ho, hts⟩, hTs⟩ := S
  have hws := pay_in hts (AL_call (ex := []) hTs hcode (fun _ h => absurd h List.not_mem_nil))
  have hi : ∀ (a' : Array Value) (U : State), s.WarmedH U.vm → (Cond.initialized y.cls).before a' U = true := fun a' U hW => hws _ (List.mem_cons_of_mem _ hini) a' U hW
  have hK : Back l R p e below s args y 3 8 (PreOf R mc ms (pc_Pre D cs (.ref b0 :: As) H.size pcs X)) (PostOf Qc mc ms free) := ph_back hM (px_blind hX.1) rfl rfl hR.1 hR.2 hws (show Cond.codeWith y b n ret hh ∈ ph_ws y b n ret hh from List.mem_cons_self) hi
  obtain ⟨cellB, hcB, hoB, hclB⟩ := hrc
  intro T hT1 X1
  obtain ⟨mk, methM, hnamed, hmethM, hstM, habM⟩ := Cond.instanceMethod_spec h2
  obtain ⟨mk', methM', cM, hnamed', hmethM', -, -, -, -, -, -, hsigM⟩ := Cond.codeWith_spec h5
  cases hnamed.symm.trans hnamed'
  cases hmethM.symm.trans hmethM'
  obtain ⟨c2, r2, m2, q1, q2, q3, q4, kP, hkP, hkPi⟩ := Cond.selects_spec h3
  cases hclB.symm.trans q1
  cases (State.methodFound?_of_named hnamed ⟨hy.1, hy.2.1⟩).symm.trans q2
  cases hnamed.symm.trans q3
  have hselP : selectMethod e.platform s.vm cellB.cls mk = .method mk := by rw [Launch.admits_selectMethod X1.admits]; exact q4
  have hlen : As.length = methM.sig.parameters.length := by
    have h := hy.2.2
    rw [hsigM] at h
    exact (Option.some.inj h).symm
  obtain ⟨vm₁, X₁, hstep₁⟩ := X1.invokevirtual hx ho h1 hnamed hmethM hstM hkP hkPi ⟨hy.1, hy.2.1⟩ (a := b0) (cell := cellB) (by rw [hT1]; exact hcB)
    (fun z h => by rw [h] at hoB; cases hoB) hselP hmethM habM hkP hkPi (g := F0 m pc ls (As.reverse ++ .ref b0 :: rest)) rfl (argsL := As) (rest := rest) hlen rfl (by rw [hb]; exact hdg)
  obtain ⟨v, ⟨U', l2, c3, s2⟩, X', ⟨g', mk2, t, L, e1, e2, hq, g1, hL, g2, g3⟩, hsteps⟩ := hK m meth c ⟨T.setVm vm₁, locs, cells, slots⟩ { (F0 m pc ls (As.reverse ++ .ref b0 :: rest)) with stack := rest } (.invokevirtual index) mk (Value.ref b0 :: As).toArray X₁ rfl (hl.trans hml.symm) (by rw [hb]; exact hdg) (lv_room hrm) (X₁.named hnamed) ⟨hf.1, hf.2, px_pre hT hw hX (T.setVm vm₁) hT1 X₁.warmed⟩
  dsimp only [Pt.U, Pt.locs, Pt.cells, Pt.slots] at X' e1 e2 g1 g2 g3 hsteps
  subst g1; subst g2; subst g3
  exact ⟨v, (T.setVm vm₁).calling g' mk2 (Value.ref b0 :: As).toArray, t, U', L, hT1, X', hL, e1, e2, hq, fun target h => hstep₁ _ fun acts => by rw [doInvoke_state]; exact hsteps.trans h⟩
end PHC
