/-! CALLS over worlds in parts -/
def px_y (y : MethodName) (n : Nat) : Prop := y.cls ≠ "java/lang/invoke/MethodHandle" ∧ y.cls ≠ "java/lang/invoke/VarHandle" ∧ (parseMethodDescriptor y.desc).map (fun d => d.parameters.length) = some n
/-- what a contract asks of its start beside its parts: it is blind for frames, and holds where the caller stands -/
def px_X (X : State → Prop) (s : State) (H : Heap) : Prop := (∀ (U : State) (g : JFrame) (mk : MethodId) (a : Array Value), X U → X (U.calling g mk a)) ∧ ∀ U : State, U.heap = H → s.WarmedH U.vm → X U
theorem px_X.tt {s : State} {H : Heap} : px_X (fun _ => True) s H := ⟨fun _ _ _ _ _ => trivial, fun _ _ _ => trivial⟩
section PC
variable {p : Program} {l : Launch} {e : Env} {R : Room} {s : State} {m : MethodId} {args : Array Value} {below : List Frame} {meth : Method} {c : Code} {H : Heap} {locs : List Loc} {cells slots : Nat} {Q : State → Prop}
variable {cc b : ByteArray} {pc nL n fr lo mc ms index : Nat} {ls : Array Slot} {rest As : List Value} {D : va_G} {A : Nat → Prop} {b0 : Nat} {cs : Nat → ClassId} {pr pcs : List va_W} {H0 : Heap} {own C : String} {y : MethodName} {ret : Option FieldType} {X : State → Prop} {Qc : Array Value → State → Outcome → State → Prop} {free : Addr → Prop} {st0 : List Value}
theorem px_blind {av : List Value} {sz : Nat} {ps : List va_W} (h : ∀ (U : State) (g : JFrame) (mk : MethodId) (a : Array Value), X U → X (U.calling g mk a)) : FrameBlind (pc_Pre D cs av sz ps X) := fun a U g mk q => by
  obtain ⟨q0, q1, qP, qT, qD, qX⟩ := q
  exact ⟨q0, q1, qP, qT.calling, qD, h U g mk a qX⟩
theorem px_pre {av : List Value} (hT : Tb D cs s) (hw : pw D A H0 H locs (pr ++ pcs)) (hX : px_X X s H) : ∀ U : State, U.heap = H → s.WarmedH U.vm → pc_Pre D cs av H.size pcs X av.toArray U :=
  fun U hU hW => ⟨rfl, by rw [hU], by rw [hU]; exact pp_cP hw.1, hT.warm hW, pp_cD hw.2.1, hX.2 U hU hW⟩
/-- a receiver: its cell is the j-th of the i-th part -/
theorem px_recv {ps : List va_W} {w : va_W} (hT : Tb D cs s) (hw : pw D A H0 H locs ps) (i j : Nat) {ci : Nat} {q : vw_C} {fs : List Value} (hi : ps[i]? = some w) (he : w[j]? = some (b0, .inr (ci, fs))) (hc : classes[ci]? = some q) : ∃ cell : Cell, H[b0]? = some cell ∧ cell.vm.isStatics = false ∧ s.vm.findClass q.1 = some cell.cls := va_recv hT.1 hw.1 hc (pp_get he ps i hi)
theorem px_runV (S : px_S p m c cc nL s args own) (hM : Met l y (pc_ws y b n ret) { frames := fr, cells := mc, slots := ms, locals := lo } (pc_Pre D cs (.ref b0 :: As) H.size pcs X) Qc mc ms free) (hT : Tb D cs s) (hw : pw D A H0 H locs (pr ++ pcs)) (hX : px_X X s H)
    (hrc : ∃ cell : Cell, H[b0]? = some cell ∧ cell.vm.isStatics = false ∧ s.vm.findClass y.cls = some cell.cls) (hcode : Cond.code y b n ret ∈ AL) (hlink : Cond.methodLink own index y ∈ AL) (hinst : Cond.instanceMethod y ∈ AL) (hsel : Cond.selects y.cls y y ∈ AL) (hini : Cond.initialized y.cls ∈ AL) (hy : px_y y As.length)
    (hR : fr + 1 ≤ R.frames ∧ 8 + (n + 11) + lo ≤ R.locals) (hl : ls.size = nL) (hst : st0 = As.reverse ++ .ref b0 :: rest) (hrm : (rest.map fun v => v.category).sum ≤ 8) (hdg : decode cc pc = .ok (.invokevirtual index, 3)) (hf : cells + mc ≤ R.cells ∧ slots + ms ≤ R.slots) :
    va_Run p l e R s m args below meth c H locs cells slots mc ms (F0 m pc ls st0) rest (Qc (Value.ref b0 :: As).toArray) free := by
  have h1 := S.w hlink
  have h2 := S.w hinst
  have h3 := S.w hsel
  have h4 := S.w hini
  obtain ⟨Ts, S, h⟩ := S
  exact va_runV S hM ⟨callB_of As.length S.2.2.2.2 (AL_call (ex := []) h hcode (fun _ h => absurd h List.not_mem_nil)) rfl rfl rfl h4 h1 hy hR, h2, h3⟩ ⟨px_blind hX.1, hrc, px_pre hT hw hX⟩ rfl rfl hl hst (lv_room hrm) hdg hf
theorem px_runS (S : px_S p m c cc nL s args own) (hM : Met l y (pc_ws y b n ret) { frames := fr, cells := mc, slots := ms, locals := lo } (pc_Pre D cs As H.size pcs X) Qc mc ms free) (hT : Tb D cs s) (hw : pw D A H0 H locs (pr ++ pcs)) (hX : px_X X s H)
    (hcode : Cond.code y b n ret ∈ AL) (hlink : Cond.methodLink own index y ∈ AL) (hst1 : Cond.static y ∈ AL) (hini : Cond.initialized y.cls ∈ AL) (hy : px_y y As.length)
    (hR : fr + 1 ≤ R.frames ∧ 8 + (n + 11) + lo ≤ R.locals) (hl : ls.size = nL) (hst : st0 = As.reverse ++ rest) (hrm : (rest.map fun v => v.category).sum ≤ 8) (hdg : decode cc pc = .ok (.invokestatic index, 3)) (hf : cells + mc ≤ R.cells ∧ slots + ms ≤ R.slots) :
    va_Run p l e R s m args below meth c H locs cells slots mc ms (F0 m pc ls st0) rest (Qc As.toArray) free := by
  have h1 := S.w hlink
  have h2 := S.w hst1
  have h4 := S.w hini
  obtain ⟨Ts, S, h⟩ := S
  exact va_runS S hM ⟨callB_of As.length S.2.2.2.2 (AL_call (ex := []) h hcode (fun _ h => absurd h List.not_mem_nil)) rfl rfl rfl h4 h1 hy hR, h2⟩ ⟨px_blind hX.1, px_pre hT hw hX⟩ rfl rfl hl hst (lv_room hrm) hdg hf
theorem px_runI (S : px_S p m c cc nL s args own) (hM : Met l y (pc_ws y b n none) { frames := fr, cells := mc, slots := ms, locals := lo } (pc_Pre D cs (.ref b0 :: As) H.size pcs X) Qc mc ms free) (hT : Tb D cs s) (hw : pw D A H0 H locs (pr ++ pcs)) (hX : px_X X s H)
    (hcode : Cond.code y b n none ∈ AL) (hlink : Cond.methodLink own index y ∈ AL) (hinst : Cond.instanceMethod y ∈ AL) (hini : Cond.initialized y.cls ∈ AL) (hnm : y.name = "<init>") (hy : px_y y As.length)
    (hR : fr + 1 ≤ R.frames ∧ 8 + (n + 11) + lo ≤ R.locals) (hl : ls.size = nL) (hst : st0 = As.reverse ++ .ref b0 :: rest) (hrm : (rest.map fun v => v.category).sum ≤ 8) (hdg : decode cc pc = .ok (.invokespecial index, 3)) (hf : cells + mc ≤ R.cells ∧ slots + ms ≤ R.slots) :
    va_Run p l e R s m args below meth c H locs cells slots mc ms (F0 m pc ls st0) rest (Qc (Value.ref b0 :: As).toArray) free := by
  have h1 := S.w hlink
  have h2 := S.w hinst
  have h4 := S.w hini
  obtain ⟨Ts, S, h⟩ := S
  exact va_runI S hM ⟨callB_of As.length S.2.2.2.2 (AL_call (ex := []) h hcode (fun _ h => absurd h List.not_mem_nil)) rfl rfl rfl h4 h1 hy hR, hnm, h2⟩ ⟨px_blind hX.1, px_pre hT hw hX⟩ rfl rfl hl hst (lv_room hrm) hdg hf
theorem px_runVN {host : String} (S : px_S p m c cc nL s args own) (hM : Met l y (pc_ws y b n ret) { frames := fr, cells := mc, slots := ms, locals := lo } (pc_Pre D cs (.ref b0 :: As) H.size pcs X) Qc mc ms free) (hT : Tb D cs s) (hw : pw D A H0 H locs (pr ++ pcs)) (hX : px_X X s H)
    (hrc : ∃ cell : Cell, H[b0]? = some cell ∧ cell.vm.isStatics = false ∧ s.vm.findClass y.cls = some cell.cls) (hcode : Cond.code y b n ret ∈ AL) (hlink : Cond.methodLinkNest own index y host ∈ tables_1) (hinst : Cond.instanceMethod y ∈ AL) (hsel : Cond.selects y.cls y y ∈ AL) (hini : Cond.initialized y.cls ∈ AL) (hy : px_y y As.length)
    (hR : fr + 1 ≤ R.frames ∧ 8 + (n + 11) + lo ≤ R.locals) (hl : ls.size = nL) (hst : st0 = As.reverse ++ .ref b0 :: rest) (hrm : (rest.map fun v => v.category).sum ≤ 8) (hdg : decode cc pc = .ok (.invokevirtual index, 3)) (hf : cells + mc ≤ R.cells ∧ slots + ms ≤ R.slots) :
    va_Run p l e R s m args below meth c H locs cells slots mc ms (F0 m pc ls st0) rest (Qc (Value.ref b0 :: As).toArray) free := by
  have h2 := S.w hinst
  have h3 := S.w hsel
  have h4 := S.w hini
  obtain ⟨Ts, S, h⟩ := S
  exact va_runVN S hM ⟨va_cnB As.length S.2.2.2.2 (AL_call (ex := []) h hcode (fun _ h => absurd h List.not_mem_nil)) rfl rfl rfl (hT.2.2 _ hlink rfl) h4 hy hR, h2, h3⟩ ⟨px_blind hX.1, hrc, px_pre hT hw hX⟩ rfl rfl hl hst (lv_room hrm) hdg hf
theorem px_runSN {host : String} (S : px_S p m c cc nL s args own) (hM : Met l y (pc_ws y b n ret) { frames := fr, cells := mc, slots := ms, locals := lo } (pc_Pre D cs As H.size pcs X) Qc mc ms free) (hT : Tb D cs s) (hw : pw D A H0 H locs (pr ++ pcs)) (hX : px_X X s H)
    (hcode : Cond.code y b n ret ∈ AL) (hlink : Cond.methodLinkNest own index y host ∈ tables_1) (hst1 : Cond.static y ∈ AL) (hini : Cond.initialized y.cls ∈ AL) (hy : px_y y As.length)
    (hR : fr + 1 ≤ R.frames ∧ 8 + (n + 11) + lo ≤ R.locals) (hl : ls.size = nL) (hst : st0 = As.reverse ++ rest) (hrm : (rest.map fun v => v.category).sum ≤ 8) (hdg : decode cc pc = .ok (.invokestatic index, 3)) (hf : cells + mc ≤ R.cells ∧ slots + ms ≤ R.slots) :
    va_Run p l e R s m args below meth c H locs cells slots mc ms (F0 m pc ls st0) rest (Qc As.toArray) free := by
  have h2 := S.w hst1
  have h4 := S.w hini
  obtain ⟨Ts, S, h⟩ := S
  exact va_runSN S hM ⟨va_cnB As.length S.2.2.2.2 (AL_call (ex := []) h hcode (fun _ h => absurd h List.not_mem_nil)) rfl rfl rfl (hT.2.2 _ hlink rfl) h4 hy hR, h2, trivial⟩ ⟨px_blind hX.1, px_pre hT hw hX⟩ rfl rfl hl hst (lv_room hrm) hdg hf
theorem px_runIN {host : String} (S : px_S p m c cc nL s args own) (hM : Met l y (pc_ws y b n none) { frames := fr, cells := mc, slots := ms, locals := lo } (pc_Pre D cs (.ref b0 :: As) H.size pcs X) Qc mc ms free) (hT : Tb D cs s) (hw : pw D A H0 H locs (pr ++ pcs)) (hX : px_X X s H)
    (hcode : Cond.code y b n none ∈ AL) (hlink : Cond.methodLinkNest own index y host ∈ tables_1) (hinst : Cond.instanceMethod y ∈ AL) (hini : Cond.initialized y.cls ∈ AL) (hnm : y.name = "<init>") (hy : px_y y As.length)
    (hR : fr + 1 ≤ R.frames ∧ 8 + (n + 11) + lo ≤ R.locals) (hl : ls.size = nL) (hst : st0 = As.reverse ++ .ref b0 :: rest) (hrm : (rest.map fun v => v.category).sum ≤ 8) (hdg : decode cc pc = .ok (.invokespecial index, 3)) (hf : cells + mc ≤ R.cells ∧ slots + ms ≤ R.slots) :
    va_Run p l e R s m args below meth c H locs cells slots mc ms (F0 m pc ls st0) rest (Qc (Value.ref b0 :: As).toArray) free := by
  have h2 := S.w hinst
  have h4 := S.w hini
  obtain ⟨Ts, S, h⟩ := S
  exact va_runIN S hM ⟨va_cnB As.length S.2.2.2.2 (AL_call (ex := []) h hcode (fun _ h => absurd h List.not_mem_nil)) rfl rfl rfl (hT.2.2 _ hlink rfl) h4 hy hR, hnm, h2⟩ ⟨px_blind hX.1, px_pre hT hw hX⟩ rfl rfl hl hst (lv_room hrm) hdg hf
variable {aa : Array Value}
theorem px_calli {post : Int32 → List va_W → Prop} (hr : va_Run p l e R s m args below meth c H locs cells slots mc ms (F0 m pc ls st0) rest (va_Qi post (pc_B D (va_A pcs.flatten H.size)) (va_A pcs.flatten H.size) aa) (va_A pcs.flatten H.size)) (hw : pw D A H0 H locs (pr ++ pcs)) (hA : ∀ q, H0.size ≤ q → A q)
    (kk : ∀ (r : Int32) (p1 : List va_W) (H1 : Heap) (locs1 : List Loc), post r p1 → pw D A H0 H1 locs1 (pr ++ p1) → W p l e R s m args below meth c H1 locs1 (cells + mc) (slots + ms) Q (F0 m (pc + 3) ls (.int r :: rest))) : W p l e R s m args below meth c H locs cells slots Q (F0 m pc ls st0) := by
  have hF := pp_free hw.2.1 hw.2.2 hA
  refine va_calli hr hw.2.2 (fun q _ h => hF q h) hF (fun r p1 t H1 locs1 ht hvm hp hB hz hk hS => ?_)
  have h1 : va_P D classes p1.flatten H1 := by rw [← ht]; exact hB.1
  have hj := pp_join hw.1 hw.2.1 hk hF h1 hB.2
  exact kk r p1 H1 locs1 hp ⟨hj.1, hj.2, hS⟩
theorem px_callv {post : List va_W → Prop} (hr : va_Run p l e R s m args below meth c H locs cells slots mc ms (F0 m pc ls st0) rest (va_Qv post (pc_B D (va_A pcs.flatten H.size)) (va_A pcs.flatten H.size) aa) (va_A pcs.flatten H.size)) (hw : pw D A H0 H locs (pr ++ pcs)) (hA : ∀ q, H0.size ≤ q → A q)
    (kk : ∀ (p1 : List va_W) (H1 : Heap) (locs1 : List Loc), post p1 → pw D A H0 H1 locs1 (pr ++ p1) → W p l e R s m args below meth c H1 locs1 (cells + mc) (slots + ms) Q (F0 m (pc + 3) ls rest)) : W p l e R s m args below meth c H locs cells slots Q (F0 m pc ls st0) := by
  have hF := pp_free hw.2.1 hw.2.2 hA
  refine va_callv hr hw.2.2 (fun q _ h => hF q h) hF (fun p1 t H1 locs1 ht hvm hp hB hz hk hS => ?_)
  have h1 : va_P D classes p1.flatten H1 := by rw [← ht]; exact hB.1
  have hj := pp_join hw.1 hw.2.1 hk hF h1 hB.2
  exact kk p1 H1 locs1 hp ⟨hj.1, hj.2, hS⟩
theorem px_callq {post : Option Nat → List va_W → Prop} (hr : va_Run p l e R s m args below meth c H locs cells slots mc ms (F0 m pc ls st0) rest (va_Qq post (pc_B D (va_A pcs.flatten H.size)) (va_A pcs.flatten H.size) aa) (va_A pcs.flatten H.size)) (hw : pw D A H0 H locs (pr ++ pcs)) (hA : ∀ q, H0.size ≤ q → A q)
    (kk : ∀ (r : Option Nat) (p1 : List va_W) (H1 : Heap) (locs1 : List Loc), post r p1 → pw D A H0 H1 locs1 (pr ++ p1) → W p l e R s m args below meth c H1 locs1 (cells + mc) (slots + ms) Q (F0 m (pc + 3) ls (va_rf r :: rest))) : W p l e R s m args below meth c H locs cells slots Q (F0 m pc ls st0) := by
  have hF := pp_free hw.2.1 hw.2.2 hA
  refine va_callq hr hw.2.2 (fun q _ h => hF q h) hF (fun r p1 t H1 locs1 ht hvm hp hB hz hk hS => ?_)
  have h1 : va_P D classes p1.flatten H1 := by rw [← ht]; exact hB.1
  have hj := pp_join hw.1 hw.2.1 hk hF h1 hB.2
  exact kk r p1 H1 locs1 hp ⟨hj.1, hj.2, hS⟩
end PC
