/-! THE LAW'S WRAPPERS: a long is stored; a method with handlers that makes objects; its calls; how it is called -/
section GE1
variable {p : Program} {l : Launch} {e : Env} {R : Room} {s : State} {m : MethodId} {args : Array Value} {below : List Frame} {meth : Method} {c : Code} {H : Heap} {locs : List Loc} {cells slots : Nat} {Q : State → Prop}
variable {cc b : ByteArray} {pc nL n fr lo mc ms index : Nat} {ls : Array Slot} {rest As st0 : List Value} {D : va_G} {A : Nat → Prop} {b0 a : Nat} {cs : Nat → ClassId} {ps ps' pr pcs : List va_W} {own E : String} {y : MethodName} {X : State → Prop} {H0 : Heap} {w w' : va_W}
theorem px_last (S : px_S p m c cc nL s args own) (hT : Tb D cs s) (hw : pw D A H0 H locs ps) (i j : Nat) {n : Nat} {f : Nat → Int64} {x : Int32} {y : Int64} (hi : ps[i]? = some w) (he : w[j]? = some (a, .inl (cs 4, n, .inr (.inl f)))) (hin : vp_in x n) (hdg : decode cc pc = .ok (.lastore, 1)) (hww : w.set j (a, .inl (cs 4, n, .inr (.inl (vp_updL f x.toNatClampNeg y)))) = w') (hps : ps.set i w' = ps')
    (kk : ∀ (H1 : Heap) (locs1 : List Loc), pw D A H0 H1 locs1 ps' → W p l e R s m args below meth c H1 locs1 cells slots Q (F0 m (pc + 1) ls rest)) : W p l e R s m args below meth c H locs cells slots Q (F0 m pc ls (.long y :: .int x :: .ref a :: rest)) := by
  have hj : j < w.length := (List.getElem?_eq_some_iff.mp he).1
  refine va_last S.x S.b hT.1 hw.1 hw.2.1 hw.2.2 (pp_off ps i + j) 4 (pp_get he ps i hi) rfl hin hdg (fun H1 locs1 h1 h2 h3 => kk H1 locs1 ⟨?_, ?_, h3⟩)
  · rw [← hps, ← hww, ← pp_set hj ps i hi]; exact h1
  · rw [← hps, ← hww, ← pp_set hj ps i hi]; exact h2
end GE1
def MkI (l : Launch) (y : MethodName) (b : ByteArray) (n : Nat) (ret : FieldType) (hh : List (Nat × Nat × Nat × Nat)) (D : va_G) (cs : Nat → ClassId) (fr lo mc ms : Nat) (av : List Value) (ps : List va_W) (X : State → Prop) (post : Int32 → List va_W × Nat × Nat → Prop) : Prop := ∀ sz tz : Nat, Met l y (ph_ws y b n (some ret) hh) { frames := fr, cells := mc, slots := ms, locals := lo } (pc_Pre D cs av sz ps (fun U => tot U.heap = tz ∧ X U)) (va_Qi post (pg_B D (va_A ps.flatten sz) sz tz) (va_A ps.flatten sz)) mc ms (va_A ps.flatten sz)
theorem pk_enter {l : Launch} {y : MethodName} {b : ByteArray} {n : Nat} {ret : Option FieldType} {hh : List (Nat × Nat × Nat × Nat)} {D : va_G} {cs : Nat → ClassId} {fr lo mc ms : Nat} {av : List Value} {ps : List va_W} {X : State → Prop} {Qc : Nat → Nat → Array Value → State → Outcome → State → Prop}
    (hy : plainName y.cls = true) (hn : (lg_sl av).length ≤ n)
    (body : ∀ (p : Program) (e : Env) (s : State) (m : MethodId) (below : List Frame) (meth : Method) (c : Code) (A : Nat → Prop) (ls : Array Slot), A = va_A ps.flatten s.heap.size → px_S p m c b n s av.toArray y.cls → meth.sig.returnType = ret → meth.locks = false → (∀ q : Nat, s.heap.size ≤ q → A q) → Tb D cs s → X s → pw D A s.heap s.heap [] ps → lv_has ls n (lv_args 0 av) → l.admits e → c.exceptionTable.toList = hh.map (fun q => ⟨q.1, q.2.1, q.2.2.1, q.2.2.2⟩) →
      W p l e { frames := fr, cells := mc, slots := ms, locals := lo } s m av.toArray below meth c s.heap [] 0 0 (MQ below (Qc s.heap.size (tot s.heap)) av.toArray s mc ms A) (F0 m 0 ls [])) :
    ∀ sz tz : Nat, Met l y (ph_ws y b n ret hh) { frames := fr, cells := mc, slots := ms, locals := lo } (pc_Pre D cs av sz ps (fun U => tot U.heap = tz ∧ X U)) (Qc sz tz) mc ms (va_A ps.flatten sz) := by
  intro sz tz
  refine tx_ofWH (cc := b) (maxL := n) (ret := ret) (hh := hh) hy rfl ?_
  intro p e s m args below meth c s₁ B hml hv hadm htb
  obtain ⟨rfl, hsz, hP, hT, hD0, htz, hX⟩ := hv
  subst hsz
  subst htz
  rw [lg_entry_eq]
  exact body p e s m below meth c _ _ rfl ⟨_, ⟨B.exec, B.bytes, hml, findClass_of_methodNamed B.named, atoms_spec (ws := ph_ws y b n ret hh) B.pre⟩, fun w h => List.mem_cons_of_mem _ h⟩ B.returns B.notSynchronized (fun q h => Or.inr h) hT hX ⟨hP, hD0.self, va_S.rf⟩ (lv_entry av hn) hadm htb
section GE2
variable {p : Program} {l : Launch} {e : Env} {R : Room} {s : State} {m : MethodId} {args : Array Value} {below : List Frame} {meth : Method} {c : Code} {H : Heap} {locs : List Loc} {cells slots : Nat} {Q : State → Prop}
variable {cc b : ByteArray} {pc nL n fr lo mc ms index : Nat} {ls : Array Slot} {rest As st0 : List Value} {D : va_G} {A : Nat → Prop} {b0 : Nat} {cs : Nat → ClassId} {ps pr pcs : List va_W} {own C E : String} {Es : List String} {y : MethodName} {ret : Option FieldType} {X : State → Prop} {HP : Nat → Prop} {H0 : Heap} {hh : List (Nat × Nat × Nat × Nat)} {Qc : Array Value → State → Outcome → State → Prop} {free : Addr → Prop}
set_option maxHeartbeats 2000000 in
theorem tgh_calli {post : Int32 → List va_W × Nat × Nat → Prop} {postT : List va_W → Prop} {rt : FieldType} (hM : TgI l y b n rt D cs fr lo mc ms (.ref b0 :: As) pcs X Es post postT) (S : px_S p m c cc nL s args own) (hT : Tb D cs s) (hw : pw D A s.heap H locs (pr ++ pcs)) (hX : px_X X s H)
    (hrc : ∃ cell : Cell, H[b0]? = some cell ∧ cell.vm.isStatics = false ∧ s.vm.findClass y.cls = some cell.cls) (hcode : Cond.code y b n (some rt) ∈ AL) (hlink : Cond.methodLink own index y ∈ AL) (hinst : Cond.instanceMethod y ∈ AL) (hsel : Cond.selects y.cls y y ∈ AL) (hini : Cond.initialized y.cls ∈ AL) (hy : px_y y As.length)
    (hR : fr + 1 ≤ R.frames ∧ 8 + (n + 11) + lo ≤ R.locals) (hl : ls.size = nL) (hst : st0 = As.reverse ++ .ref b0 :: rest) (hrm : (rest.map fun v => v.category).sum ≤ 8) (hdg : decode cc pc = .ok (.invokevirtual index, 3)) (hf : 0 + mc ≤ R.cells ∧ 0 + ms ≤ R.slots) (hA : ∀ q, s.heap.size ≤ q → A q)
    (hTk : ∀ E ∈ Es, ∃ hpc, HP hpc ∧ tx_Takes s args own E pc hpc c.exceptionTable.toList)
    (kt : ∀ (hpc : Nat) (x : Addr) (p1 : List va_W) (H1 : Heap) (locs1 : List Loc), HP hpc → postT p1 → pw D A s.heap H1 locs1 (pr ++ p1) → W p l e R s m args below meth c H1 locs1 (0 + 1) (0 + 6) Q (F0 m hpc ls [.ref x]))
    (kr : ∀ (v : Int32) (p1 : List va_W) (k n : Nat) (H1 : Heap) (locs1 : List Loc), post v (p1, k, n) → pw D A s.heap H1 locs1 (pr ++ p1) → W p l e R s m args below meth c H1 locs1 (0 + k) (0 + n) Q (F0 m (pc + 3) ls (.int v :: rest))) :
    W p l e R s m args below meth c H locs 0 0 Q (F0 m pc ls st0) := by
  subst hst
  have h1 := S.w hlink
  have h2 := S.w hinst
  have h3 := S.w hsel
  have h4 := S.w hini
  obtain ⟨Ts, S, hTs⟩ := S
  have cw : CallW R s args own y.cls index y b n (some rt) (pc_ws y b n (some rt)) { frames := fr, cells := mc, slots := ms, locals := lo } mc ms As.length := ⟨callB_of As.length S.2.2.2.2 (AL_call (ex := []) hTs hcode (fun _ h => absurd h List.not_mem_nil)) rfl rfl rfl h4 h1 hy hR, h2, h3⟩
  refine W.know (fun k1 k2 => ?_)
  have hp : PreV s H y.cls b0 (pc_Pre D cs (.ref b0 :: As) H.size pcs (thX X (tot H))) As := ⟨px_blind hX.tot.1, hrc, px_pre hT hw hX.tot⟩
  have hF0 := pp_free hw.2.1 hw.2.2 hA
  refine tx_runV S (hM H.size (tot H)) cw hp rfl hl hrm hdg hf (fun v st₀ t L h0 hL hq ha ha2 => ?_) (fun x st₀ t L h0 hL hq ha ha2 => ?_)
  · rcases hq with ⟨⟨r, u, hv, hp, hB, g1, g2⟩, hF⟩ | ⟨x, u, E, -, hx, -⟩
    · cases hv
      have hz : H.size ≤ t.heap.size := by rw [← h0]; exact hF.1
      have hk : ∀ q : Nat, q < H.size → ¬ va_A pcs.flatten H.size q → t.heap[q]? = H[q]? := fun q h1 h2 => by rw [← h0] at h1 ⊢; exact hF.2 q h1 h2
      have hj := pp_join hw.1 hw.2.1 hk hF0 hB.1 hB.2
      exact W.tight (k := 0 + u.2.1) (n := 0 + u.2.2) (by omega) (by omega) (kr r u.1 u.2.1 u.2.2 t.heap (locs ++ L) hp ⟨hj.1, hj.2, th_S hw.2.2 hz hk hF0 hL⟩)
    · cases hx
  · rcases hq with ⟨⟨r, u, hv, -⟩, -⟩ | ⟨x', u, E, hE, hx, hp, hB, hF, ⟨ce, c1, c2, c3⟩, z1, z2⟩
    · cases hv
    · cases hx
      have hz : H.size ≤ t.heap.size := by rw [← h0]; exact hF.1
      have hk : ∀ q : Nat, q < H.size → ¬ va_A pcs.flatten H.size q → t.heap[q]? = H[q]? := fun q h1 h2 => by rw [← h0] at h1 ⊢; exact hF.2 q h1 h2
      have hj := pp_join hw.1 hw.2.1 hk hF0 hB.1 hB.2
      obtain ⟨hpc, hHP, htk⟩ := hTk E hE
      rw [h0] at z1 z2
      exact ⟨E, hpc, ce, c1, c2, by rw [← ha.findClass]; exact c3, htk, W.tight (k := 0 + 1) (n := 0 + 6) (by omega) (by omega) (kt hpc x u t.heap (locs ++ L) hHP hp ⟨hj.1, hj.2, th_S hw.2.2 hz hk hF0 hL⟩)⟩
set_option maxHeartbeats 2000000 in
theorem thh_calli {post : Int32 → List va_W → Prop} {postT : List va_W → Prop} {rt : FieldType} (hM : ThI l y b n rt D cs fr lo (.ref b0 :: As) pcs X E post postT) (S : px_S p m c cc nL s args own) (hT : Tb D cs s) (hw : pw D A s.heap H locs (pr ++ pcs)) (hX : px_X X s H)
    (hrc : ∃ cell : Cell, H[b0]? = some cell ∧ cell.vm.isStatics = false ∧ s.vm.findClass y.cls = some cell.cls) (hcode : Cond.code y b n (some rt) ∈ AL) (hlink : Cond.methodLink own index y ∈ AL) (hinst : Cond.instanceMethod y ∈ AL) (hsel : Cond.selects y.cls y y ∈ AL) (hini : Cond.initialized y.cls ∈ AL) (hy : px_y y As.length)
    (hR : fr + 1 ≤ R.frames ∧ 8 + (n + 11) + lo ≤ R.locals) (hl : ls.size = nL) (hst : st0 = As.reverse ++ .ref b0 :: rest) (hrm : (rest.map fun v => v.category).sum ≤ 8) (hdg : decode cc pc = .ok (.invokevirtual index, 3)) (hf : 0 + 1 ≤ R.cells ∧ 0 + 6 ≤ R.slots) (hA : ∀ q, s.heap.size ≤ q → A q)
    (hTk : ∃ hpc, HP hpc ∧ tx_Takes s args own E pc hpc c.exceptionTable.toList)
    (kt : ∀ (hpc : Nat) (x : Addr) (p1 : List va_W) (H1 : Heap) (locs1 : List Loc), HP hpc → postT p1 → pw D A s.heap H1 locs1 (pr ++ p1) → W p l e R s m args below meth c H1 locs1 (0 + 1) (0 + 6) Q (F0 m hpc ls [.ref x]))
    (kr : ∀ (v : Int32) (p1 : List va_W) (H1 : Heap) (locs1 : List Loc), post v p1 → pw D A s.heap H1 locs1 (pr ++ p1) → W p l e R s m args below meth c H1 locs1 0 0 Q (F0 m (pc + 3) ls (.int v :: rest))) :
    W p l e R s m args below meth c H locs 0 0 Q (F0 m pc ls st0) := by
  subst hst
  have h1 := S.w hlink
  have h2 := S.w hinst
  have h3 := S.w hsel
  have h4 := S.w hini
  obtain ⟨Ts, S, hTs⟩ := S
  have cw : CallW R s args own y.cls index y b n (some rt) (pc_ws y b n (some rt)) { frames := fr, cells := 1, slots := 6, locals := lo } 1 6 As.length := ⟨callB_of As.length S.2.2.2.2 (AL_call (ex := []) hTs hcode (fun _ h => absurd h List.not_mem_nil)) rfl rfl rfl h4 h1 hy hR, h2, h3⟩
  refine W.know (fun k1 k2 => ?_)
  have hp : PreV s H y.cls b0 (pc_Pre D cs (.ref b0 :: As) H.size pcs (thX X (tot H))) As := ⟨px_blind hX.tot.1, hrc, px_pre hT hw hX.tot⟩
  have hF0 := pp_free hw.2.1 hw.2.2 hA
  refine tx_runV S (hM H.size (tot H)) cw hp rfl hl hrm hdg hf (fun v st₀ t L h0 hL hq ha ha2 => ?_) (fun x st₀ t L h0 hL hq ha ha2 => ?_)
  · rcases hq with ⟨⟨r, u, hv, hp, hB, g1, g2⟩, hF⟩ | ⟨x, u, hx, -⟩
    · cases hv
      have hz : H.size ≤ t.heap.size := by rw [← h0]; exact hF.1
      have hk : ∀ q : Nat, q < H.size → ¬ va_A pcs.flatten H.size q → t.heap[q]? = H[q]? := fun q h1 h2 => by rw [← h0] at h1 ⊢; exact hF.2 q h1 h2
      have hj := pp_join hw.1 hw.2.1 hk hF0 hB.1 hB.2
      exact W.tight (k := 0) (n := 0) (by omega) (by omega) (kr r u t.heap (locs ++ L) hp ⟨hj.1, hj.2, th_S hw.2.2 hz hk hF0 hL⟩)
    · cases hx
  · rcases hq with ⟨⟨r, u, hv, -⟩, -⟩ | ⟨x', u, hx, hp, hB, hF, ce, c1, c2, c3⟩
    · cases hv
    · cases hx
      have hz : H.size ≤ t.heap.size := by rw [← h0]; exact hF.1
      have hk : ∀ q : Nat, q < H.size → ¬ va_A pcs.flatten H.size q → t.heap[q]? = H[q]? := fun q h1 h2 => by rw [← h0] at h1 ⊢; exact hF.2 q h1 h2
      have hj := pp_join hw.1 hw.2.1 hk hF0 hB.1 hB.2
      obtain ⟨hpc, hHP, htk⟩ := hTk
      exact ⟨E, hpc, ce, c1, c2, by rw [← ha.findClass]; exact c3, htk, kt hpc x u t.heap (locs ++ L) hHP hp ⟨hj.1, hj.2, th_S hw.2.2 hz hk hF0 hL⟩⟩
end GE2
section GE3
variable {p : Program} {l : Launch} {e : Env} {R : Room} {s : State} {m : MethodId} {args : Array Value} {below : List Frame} {meth : Method} {c : Code} {H : Heap} {locs : List Loc} {cells slots : Nat}
variable {cc b : ByteArray} {pc nL n fr lo mc ms index : Nat} {ls : Array Slot} {rest As st0 : List Value} {D : va_G} {A : Nat → Prop} {cs : Nat → ClassId} {pr pcs : List va_W} {own : String} {y : MethodName} {ret : Option FieldType} {X : State → Prop} {Qc : Array Value → State → Outcome → State → Prop} {free : Addr → Prop} {H0 : Heap} {hh : List (Nat × Nat × Nat × Nat)}
theorem ph_runS (S : px_S p m c cc nL s args own) (hM : Met l y (ph_ws y b n ret hh) { frames := fr, cells := mc, slots := ms, locals := lo } (pc_Pre D cs As H.size pcs X) Qc mc ms free) (hT : Tb D cs s) (hw : pw D A H0 H locs (pr ++ pcs)) (hX : px_X X s H)
    (hcode : Cond.codeWith y b n ret hh ∈ AL) (hlink : Cond.methodLink own index y ∈ AL) (hst1 : Cond.static y ∈ AL) (hini : Cond.initialized y.cls ∈ AL) (hy : px_y y As.length)
    (hR : fr + 1 ≤ R.frames ∧ 8 + (n + 11) + lo ≤ R.locals) (hl : ls.size = nL) (hst : st0 = As.reverse ++ rest) (hrm : (rest.map fun v => v.category).sum ≤ 8) (hdg : decode cc pc = .ok (.invokestatic index, 3)) (hf : cells + mc ≤ R.cells ∧ slots + ms ≤ R.slots) :
    va_Run p l e R s m args below meth c H locs cells slots mc ms (F0 m pc ls st0) rest (Qc As.toArray) free := by
  subst hst
  have h1 := S.w hlink
  have h2 := S.w hst1
  have h4 := S.w hini
  have h5 := S.w hcode
  obtain ⟨Ts, ⟨hx, hb, hml, ho, hts⟩, hTs⟩ := S
  have hws := pay_in hts (AL_call (ex := []) hTs hcode (fun _ h => absurd h List.not_mem_nil))
  have hi : ∀ (a' : Array Value) (U : State), s.WarmedH U.vm → (Cond.initialized y.cls).before a' U = true := fun a' U hW => hws _ (List.mem_cons_of_mem _ hini) a' U hW
  have hK : Back l R p e below s args y 3 8 (PreOf R mc ms (pc_Pre D cs As H.size pcs X)) (PostOf Qc mc ms free) := ph_back hM (px_blind hX.1) rfl rfl hR.1 hR.2 hws (show Cond.codeWith y b n ret hh ∈ ph_ws y b n ret hh from List.mem_cons_self) hi
  intro T hT1 X1
  obtain ⟨mk, methM, cM, hnamed, hmethM, -, -, -, -, -, -, hsigM⟩ := Cond.codeWith_spec h5
  have hstatic : methM.isStatic = true := Cond.static_spec hnamed hmethM h2
  obtain ⟨kP, hkP, -⟩ := className_of_methodNamed hnamed
  have hinitP : kP.init = .initialized := Cond.initialized_spec (findClass_of_methodNamed hnamed) hkP h4
  have hlen : As.length = methM.sig.parameters.length := by
    have h := hy.2.2
    rw [hsigM] at h
    exact (Option.some.inj h).symm
  obtain ⟨vm₁, X₁, hstep₁⟩ := X1.invokestatic hx ho h1 hnamed hmethM hstatic hkP hinitP ⟨hy.1, hy.2.1⟩ (g := F0 m pc ls (As.reverse ++ rest)) rfl (argsL := As) (rest := rest) hlen rfl (by rw [hb]; exact hdg)
  obtain ⟨v, ⟨U', l2, c3, s2⟩, X', ⟨g', mk2, t, L, e1, e2, hq, g1, hL, g2, g3⟩, hsteps⟩ := hK m meth c ⟨T.setVm vm₁, locs, cells, slots⟩ { (F0 m pc ls (As.reverse ++ rest)) with stack := rest } (.invokestatic index) mk As.toArray X₁ rfl (hl.trans hml.symm) (by rw [hb]; exact hdg) (lv_room hrm) (X₁.named hnamed) ⟨hf.1, hf.2, px_pre hT hw hX (T.setVm vm₁) hT1 X₁.warmed⟩
  dsimp only [Pt.U, Pt.locs, Pt.cells, Pt.slots] at X' e1 e2 g1 g2 g3 hsteps
  subst g1; subst g2; subst g3
  exact ⟨v, (T.setVm vm₁).calling g' mk2 As.toArray, t, U', L, hT1, X', hL, e1, e2, hq, fun target h => hstep₁ _ fun acts => by rw [doInvoke_state]; exact hsteps.trans h⟩
end GE3
/-- the one long that the law hands out for answers -/
abbrev wL (cs : Nat → ClassId) (q : Nat) (lv : Nat → Int64) : va_W := [(q, .inl (cs 4, 1, .inr (.inl lv)))]
theorem tk_3 {s : State} {args : Array Value} {own E E1 E2 E3 : String} {pc h1 h2 h3 : Nat} {x1 x2 x3 : ExceptionTableEntry} (c1 : covers x1 pc = true) (c2 : covers x2 pc = true) (c3 : covers x3 pc = true) (n1 : x1.catchType ≠ 0) (n2 : x2.catchType ≠ 0) (n3 : x3.catchType ≠ 0)
    (l1 : (Cond.classLink own x1.catchType E1).before args s = true) (l2 : (Cond.classLink own x2.catchType E2).before args s = true) (l3 : (Cond.classLink own x3.catchType E3).before args s = true) (e1 : x1.handlerPc = h1) (e2 : x2.handlerPc = h2) (e3 : x3.handlerPc = h3)
    (f1 : ∃ cE cT : ClassId, s.vm.findClass E1 = some cE ∧ s.vm.findClass E1 = some cT ∧ s.vm.assignable cE cT = true) (f2 : ∃ cE cT : ClassId, s.vm.findClass E2 = some cE ∧ s.vm.findClass E2 = some cT ∧ s.vm.assignable cE cT = true) (f3 : ∃ cE cT : ClassId, s.vm.findClass E3 = some cE ∧ s.vm.findClass E3 = some cT ∧ s.vm.assignable cE cT = true)
    (hE : E ∈ [E1, E2, E3]) : ∃ hpc, (hpc = h1 ∨ hpc = h2 ∨ hpc = h3) ∧ tx_Takes s args own E pc hpc [x1, x2, x3] := by
  obtain ⟨a1, b1, p1, q1, r1⟩ := f1
  obtain ⟨a2, b2, p2, q2, r2⟩ := f2
  obtain ⟨a3, b3, p3, q3, r3⟩ := f3
  have go : ∀ cE : ClassId, s.vm.findClass E = some cE → (E = E1 ∨ E = E2 ∨ E = E3) → ∃ hpc, (hpc = h1 ∨ hpc = h2 ∨ hpc = h3) ∧ tx_Takes s args own E pc hpc [x1, x2, x3] := by
    intro cE hc hor
    cases k1 : s.vm.assignable cE b1 with
    | true => exact ⟨h1, Or.inl rfl, Or.inr ⟨c1, n1, E1, l1, Or.inl ⟨e1, cE, b1, hc, q1, k1⟩⟩⟩
    | false =>
      cases k2 : s.vm.assignable cE b2 with
      | true => exact ⟨h2, Or.inr (Or.inl rfl), Or.inr ⟨c1, n1, E1, l1, Or.inr ⟨⟨cE, b1, hc, q1, k1⟩, Or.inr ⟨c2, n2, E2, l2, Or.inl ⟨e2, cE, b2, hc, q2, k2⟩⟩⟩⟩⟩
      | false =>
        cases k3 : s.vm.assignable cE b3 with
        | true => exact ⟨h3, Or.inr (Or.inr rfl), Or.inr ⟨c1, n1, E1, l1, Or.inr ⟨⟨cE, b1, hc, q1, k1⟩, Or.inr ⟨c2, n2, E2, l2, Or.inr ⟨⟨cE, b2, hc, q2, k2⟩, Or.inr ⟨c3, n3, E3, l3, Or.inl ⟨e3, cE, b3, hc, q3, k3⟩⟩⟩⟩⟩⟩⟩
        | false =>
          exfalso
          rcases hor with h | h | h
          · rw [h, p1] at hc; cases hc; rw [r1] at k1; cases k1
          · rw [h, p2] at hc; cases hc; rw [r2] at k2; cases k2
          · rw [h, p3] at hc; cases hc; rw [r3] at k3; cases k3
  simp only [List.mem_cons, List.not_mem_nil, or_false] at hE
  rcases hE with h | h | h
  · exact go a1 (by rw [h]; exact p1) (Or.inl h)
  · exact go a2 (by rw [h]; exact p2) (Or.inr (Or.inl h))
  · exact go a3 (by rw [h]; exact p3) (Or.inr (Or.inr h))
