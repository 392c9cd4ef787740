/-! METHODS THAT MAY THROW, over worlds in parts: what is thrown is one new object, the world stands as postT says; where they return nothing is new -/
def thE (E : String) (x : Addr) (vm : Vm) (t : State) : Prop := ∃ ce : Cell, t.heap[x]? = some ce ∧ ce.vm.isStatics = false ∧ vm.findClass E = some ce.cls
def thT (D : va_G) (A : Nat → Prop) (E : String) (postT : List va_W → Prop) (st : State) (o : Outcome) (t : State) : Prop :=
  ∃ (x : Addr) (u : List va_W), o = .threw x ∧ postT u ∧ pc_B D A u t ∧ va_F A st t ∧ thE E x st.vm t
def thB (D : va_G) (A : Nat → Prop) (sz tz : Nat) (u : List va_W) (t : State) : Prop := pc_B D A u t ∧ t.heap.size ≤ sz ∧ tot t.heap ≤ tz
def thQi (D : va_G) (A : Nat → Prop) (E : String) (post : Int32 → List va_W → Prop) (postT : List va_W → Prop) (sz tz : Nat) : Array Value → State → Outcome → State → Prop := fun a st o t => va_Qi post (thB D A sz tz) A a st o t ∨ thT D A E postT st o t
def thQv (D : va_G) (A : Nat → Prop) (E : String) (post : List va_W → Prop) (postT : List va_W → Prop) (sz tz : Nat) : Array Value → State → Outcome → State → Prop := fun a st o t => va_Qv post (thB D A sz tz) A a st o t ∨ thT D A E postT st o t
abbrev thX (X : State → Prop) (tz : Nat) : State → Prop := fun U => tot U.heap = tz ∧ X U
def ThI (l : Launch) (y : MethodName) (b : ByteArray) (n : Nat) (ret : FieldType) (D : va_G) (cs : Nat → ClassId) (fr lo : Nat) (av : List Value) (ps : List va_W) (X : State → Prop) (E : String) (post : Int32 → List va_W → Prop) (postT : List va_W → Prop) : Prop := ∀ sz tz : Nat, tx_Met l y (pc_ws y b n (some ret)) { frames := fr, cells := 1, slots := 6, locals := lo } (pc_Pre D cs av sz ps (thX X tz)) (thQi D (va_A ps.flatten sz) E post postT sz tz) 1 6 (va_A ps.flatten sz)
def ThV (l : Launch) (y : MethodName) (b : ByteArray) (n : Nat) (D : va_G) (cs : Nat → ClassId) (fr lo : Nat) (av : List Value) (ps : List va_W) (X : State → Prop) (E : String) (post : List va_W → Prop) (postT : List va_W → Prop) : Prop := ∀ sz tz : Nat, tx_Met l y (pc_ws y b n none) { frames := fr, cells := 1, slots := 6, locals := lo } (pc_Pre D cs av sz ps (thX X tz)) (thQv D (va_A ps.flatten sz) E post postT sz tz) 1 6 (va_A ps.flatten sz)
def th_Body (l : Launch) (y : MethodName) (b : ByteArray) (n : Nat) (ret : Option FieldType) (D : va_G) (cs : Nat → ClassId) (rm : Room) (av : List Value) (ps : List va_W) (X : State → Prop) (Qo : Nat → Nat → Array Value → State → Outcome → State → Prop) : Prop :=
  ∀ (p : Program) (e : Env) (s : State) (m : MethodId) (below : List Frame) (meth : Method) (c : Code) (A : Nat → Prop) (ls : Array Slot), A = va_A ps.flatten s.heap.size → px_S p m c b n s av.toArray y.cls → meth.sig.returnType = ret → meth.locks = false → meth.name = y.name → (∀ q : Nat, s.heap.size ≤ q → A q) → Tb D cs s → X s → pw D A s.heap s.heap [] ps → lv_has ls n (lv_args 0 av) → c.exceptionTable.isEmpty = true → l.admits e →
    W p l e rm s m av.toArray below meth c s.heap [] 0 0 (tx_MQ below (Qo s.heap.size (tot s.heap)) av.toArray s 1 6 A) (F0 m 0 ls [])
theorem th_enter {l : Launch} {y : MethodName} {b : ByteArray} {n : Nat} {ret : Option FieldType} {D : va_G} {cs : Nat → ClassId} {fr lo : Nat} {av : List Value} {ps : List va_W} {X : State → Prop} {Qo : Nat → Nat → Array Value → State → Outcome → State → Prop}
    (hy : plainName y.cls = true) (hn : (lg_sl av).length ≤ n) (body : th_Body l y b n ret D cs { frames := fr, cells := 1, slots := 6, locals := lo } av ps X Qo) :
    ∀ sz tz : Nat, tx_Met l y (pc_ws y b n ret) { frames := fr, cells := 1, slots := 6, locals := lo } (pc_Pre D cs av sz ps (thX X tz)) (Qo sz tz) 1 6 (va_A ps.flatten sz) := by
  intro sz tz
  refine tx_ofW (cc := b) (maxL := n) (ret := ret) hy rfl ?_
  intro p e s m args below meth c s₁ B hml hv hadm hne
  obtain ⟨rfl, hsz, hP, hT, hD0, htz, hX⟩ := hv
  subst hsz
  subst htz
  rw [lg_entry_eq]
  exact body p e s m below meth c _ _ rfl ⟨_, ⟨B.exec, B.bytes, hml, findClass_of_methodNamed B.named, atoms_spec (ws := pc_ws y b n ret) B.pre⟩, fun w h => List.mem_cons_of_mem _ h⟩ B.returns B.notSynchronized (name_of_methodNamed B.named B.method).1 (fun q h => Or.inr h) hT hX ⟨hP, hD0.self, va_S.rf⟩ (lv_entry av hn) hne hadm
section TH
variable {p : Program} {l : Launch} {e : Env} {R : Room} {s : State} {m : MethodId} {args : Array Value} {below : List Frame} {meth : Method} {c : Code} {H : Heap} {locs : List Loc} {cells slots : Nat} {Q : State → Prop}
variable {cc b : ByteArray} {pc nL n fr lo mc ms index : Nat} {ls : Array Slot} {rest As : List Value} {D : va_G} {A : Nat → Prop} {b0 : Nat} {cs : Nat → ClassId} {ps pr pcs : List va_W} {own C E : String} {y : MethodName} {ret : Option FieldType} {X : State → Prop} {Qo : Array Value → State → Outcome → State → Prop} {free : Addr → Prop} {st0 : List Value}
theorem th_vret {post postT : List va_W → Prop} {ps0 : List va_W} (S : px_S p m c cc nL s args own) (hr : meth.sig.returnType = none) (hlocks : meth.locks = false) (hAe : A = va_A ps0.flatten s.heap.size) (hw : pw D A s.heap H locs ps) (hp : post ps) (hdg : decode cc pc = .ok (.return_, 1)) :
    W p l e R s m args below meth c H locs 0 0 (tx_MQ below (thQv D (va_A ps0.flatten s.heap.size) E post postT s.heap.size (tot s.heap)) args s 1 6 A) (F0 m pc ls []) := by
  subst hAe
  refine W.know (fun k1 k2 => ?_)
  refine W.widen (k := 1) (n := 6) (by omega) (by omega) ?_
  refine tx_ret (Qc := va_Qv post (thB D (va_A ps0.flatten s.heap.size) s.heap.size (tot s.heap)) (va_A ps0.flatten s.heap.size)) (fun o t h => Or.inl h) ?_
  exact W.vret S.x S.b hr (fun t ht hW => ⟨⟨ps, rfl, hp, ⟨by show va_P _ _ _ _; rw [ht]; exact hw.1, hw.2.1⟩, by rw [ht]; exact k1, by rw [ht]; exact k2⟩, hw.2.2.F ht⟩) hw.2.2.2.2 hdg hlocks
theorem th_iret {post : Int32 → List va_W → Prop} {postT : List va_W → Prop} {ps0 : List va_W} {v : Int32} {ty : FieldType} (S : px_S p m c cc nL s args own) (hr : meth.sig.returnType = some ty) (hn : narrow ty (.int v) = .int v) (hlocks : meth.locks = false) (hAe : A = va_A ps0.flatten s.heap.size) (hw : pw D A s.heap H locs ps) (hp : post v ps) (hdg : decode cc pc = .ok (.ireturn, 1)) :
    W p l e R s m args below meth c H locs 0 0 (tx_MQ below (thQi D (va_A ps0.flatten s.heap.size) E post postT s.heap.size (tot s.heap)) args s 1 6 A) (F0 m pc ls [.int v]) := by
  subst hAe
  refine W.know (fun k1 k2 => ?_)
  refine W.widen (k := 1) (n := 6) (by omega) (by omega) ?_
  refine tx_ret (Qc := va_Qi post (thB D (va_A ps0.flatten s.heap.size) s.heap.size (tot s.heap)) (va_A ps0.flatten s.heap.size)) (fun o t h => Or.inl h) ?_
  exact W.zret S.x S.b hr hn (fun t ht hW => ⟨⟨v, ps, rfl, hp, ⟨by show va_P _ _ _ _; rw [ht]; exact hw.1, hw.2.1⟩, by rw [ht]; exact k1, by rw [ht]; exact k2⟩, hw.2.2.F ht⟩) hw.2.2.2.2 hdg hlocks
set_option maxHeartbeats 2000000 in
theorem th_runV (S : px_S p m c cc nL s args own) (hM : tx_Met l y (pc_ws y b n ret) { frames := fr, cells := mc, slots := ms, locals := lo } (pc_Pre D cs (.ref b0 :: As) H.size pcs X) Qo mc ms free) (hT : Tb D cs s) {H0 : Heap} (hw : pw D A H0 H locs (pr ++ pcs)) (hX : px_X X s H)
    (hrc : ∃ cell : Cell, H[b0]? = some cell ∧ cell.vm.isStatics = false ∧ s.vm.findClass y.cls = some cell.cls) (hcode : Cond.code y b n ret ∈ AL) (hlink : Cond.methodLink own index y ∈ AL) (hinst : Cond.instanceMethod y ∈ AL) (hsel : Cond.selects y.cls y y ∈ AL) (hini : Cond.initialized y.cls ∈ AL) (hy : px_y y As.length)
    (hR : fr + 1 ≤ R.frames ∧ 8 + (n + 11) + lo ≤ R.locals) (hl : ls.size = nL) (hst : st0 = As.reverse ++ .ref b0 :: rest) (hrm : (rest.map fun v => v.category).sum ≤ 8) (hdg : decode cc pc = .ok (.invokevirtual index, 3)) (hf : cells + mc ≤ R.cells ∧ slots + ms ≤ R.slots) (hne : c.exceptionTable.isEmpty = true) (hlocks : meth.locks = false)
    (kr : ∀ (v : Option Value) (st₀ t : State) (L : List Loc), st₀.heap = H → (∀ q ∈ L, free q.base) → Qo (Value.ref b0 :: As).toArray st₀ (.returned v) t → s.vm.Alike st₀.vm →
      W p l e R s m args below meth c t.heap (locs ++ L) (cells + mc) (slots + ms) Q (F0 m (pc + 3) ls (v.toList ++ rest)))
    (kt : ∀ (x : Addr) (st₀ t : State) (L : List Loc), st₀.heap = H → (∀ q ∈ L, free q.base) → Qo (Value.ref b0 :: As).toArray st₀ (.threw x) t → s.vm.Alike st₀.vm → ∀ T2 : State, T2.heap = t.heap → T2.status = .running → Ended T2 below (.threw x) → s.WarmedH T2.vm → s.sameButNew ({ T2 with vm := s.vm } : State) (locs ++ L) (cells + mc) (slots + ms) → Q T2) :
    W p l e R s m args below meth c H locs cells slots Q (F0 m pc ls st0) := by
  subst hst
  have h1 := S.w hlink
  have h2 := S.w hinst
  have h3 := S.w hsel
  have h4 := S.w hini
  obtain ⟨Ts, S, hTs⟩ := S
  have cw : CallW R s args own y.cls index y b n ret (pc_ws y b n ret) { frames := fr, cells := mc, slots := ms, locals := lo } mc ms As.length := ⟨callB_of As.length S.2.2.2.2 (AL_call (ex := []) hTs hcode (fun _ h => absurd h List.not_mem_nil)) rfl rfl rfl h4 h1 hy hR, h2, h3⟩
  obtain ⟨⟨hrc2, hrs, hfr, hlo, hws, hcw, hcode2, hini2, hy2, hlen, hl2⟩, hin, hse⟩ := cw
  have hp : PreV s H y.cls b0 (pc_Pre D cs (.ref b0 :: As) H.size pcs X) As := ⟨px_blind hX.1, hrc, px_pre hT hw hX⟩
  have hK : tx_Back l R p e below s args y 3 8 (PreOf R mc ms (pc_Pre D cs (.ref b0 :: As) H.size pcs X)) (tx_PostOf Qo mc ms free) :=
    tx_back_of (bytes := b) (maxL := n) (ret := ret) hM hp.1 hrc2 hrs hfr hlo hws hcw (fun a' U hW => word_at hW (Or.inl (by first | rfl | simp [Cond.onTables, Cond.keeps, Cond.steady])) hini2)
  obtain ⟨hx, hb, hml, ho, -⟩ := S
  obtain ⟨-, ⟨cellB, hcB, hoB, hclB⟩, hPc⟩ := hp
  intro T hT1 X1
  obtain ⟨o, vm₁, ⟨U', l2, c2, s2⟩, hW₁, X', ⟨g', mk, t, L, e1, e2, hq, g1, hL, g2, g3⟩, st⟩ := tx_callV X1 hx (C := y.cls) (bytes := b) (maxL := n) (ret := ret) ho hl2 hin hse hcode2 hy2 hK (by rw [hT1]; exact hcB) hoB hclB (g := F0 m pc ls (As.reverse ++ .ref b0 :: rest)) rfl (hl.trans hml.symm) (argsL := As) (rest := rest) (fun sig h => hlen sig h) rfl (by show 2 * 0 + _ ≤ 8; omega) (by rw [hb]; exact hdg)
    (fun vm₁ hW₁ => ⟨hf.1, hf.2, hPc (T.setVm vm₁) hT1 hW₁⟩)
  dsimp only [Pt.U, Pt.locs, Pt.cells, Pt.slots] at X' e1 e2 g1 g2 g3 st
  subst g1; subst g2; subst g3
  have ha0 : s.vm.Alike ((T.setVm vm₁).calling g' mk (Value.ref b0 :: As).toArray).vm := hW₁.alike
  cases o with
  | returned v =>
    obtain ⟨z, a1, a2⟩ := kr v ((T.setVm vm₁).calling g' mk (Value.ref b0 :: As).toArray) t L hT1 hL hq ha0 U' e1 X'
    exact ⟨z, st z a1, a2⟩
  | threw x =>
    have h0 : ∀ z ∈ c.exceptionTable.toList, covers z (F0 m pc ls rest).pc = false := by
      have h1 : c.exceptionTable.toList = [] := List.eq_nil_of_length_eq_zero (by simpa [Array.isEmpty] using hne)
      intro z hz; rw [h1] at hz; cases hz
    obtain ⟨q1, q2, q3, q4, q5⟩ := X'.leaveThrown x (g := F0 m pc ls rest) rfl rfl rfl h0 hlocks
    exact ⟨_, st _ q1, kt x ((T.setVm vm₁).calling g' mk (Value.ref b0 :: As).toArray) t L hT1 hL hq ha0 _ e1 q2 q3 q4 q5⟩
theorem th_S {A0 A1 : Nat → Prop} {H0 H H1 : Heap} {locs L : List Loc} (hS : va_S A0 H0 H locs) (hz : H.size ≤ H1.size) (hk : ∀ q : Nat, q < H.size → ¬ A1 q → H1[q]? = H[q]?) (hA : ∀ q, A1 q → A0 q) (hL : ∀ q ∈ L, A1 q.base) : va_S A0 H0 H1 (locs ++ L) :=
  ⟨Nat.le_trans hS.1 hz, fun q h1 h2 => by rw [hk q (Nat.lt_of_lt_of_le h1 hS.1) (fun z => h2 (hA q z))]; exact hS.2.1 q h1 h2, fun q hq => by
    rcases List.mem_append.mp hq with h | h
    · exact hS.2.2 q h
    · exact hA _ (hL q h)⟩
/-- what is thrown through: the caller's end -/
theorem th_out {A1 : Nat → Prop} {ps0 : List va_W} {postT postT' : List va_W → Prop} {Qr : Array Value → State → Outcome → State → Prop} (hA1 : A1 = va_A pcs.flatten H.size) (hw : pw D A s.heap H locs (pr ++ pcs)) (hA : ∀ q, s.heap.size ≤ q → A q) (hAe : A = va_A ps0.flatten s.heap.size)
    (kt : ∀ (p1 : List va_W) (H1 : Heap) (locs1 : List Loc), postT p1 → pw D A s.heap H1 locs1 (pr ++ p1) → ∃ qs, postT' qs ∧ pw D A s.heap H1 locs1 qs)
    (hQ : ∀ (o : Outcome) (t : State), thT D (va_A ps0.flatten s.heap.size) E postT' s o t → Qr args s o t)
    {x : Addr} {st₀ t : State} {L : List Loc} (h0 : st₀.heap = H) (hL : ∀ q ∈ L, A1 q.base) (hq : thT D A1 E postT st₀ (.threw x) t) (ha : s.vm.Alike st₀.vm) {T2 : State} (e1 : T2.heap = t.heap) (e2 : T2.status = .running) (e3 : Ended T2 below (.threw x)) (e4 : s.WarmedH T2.vm) (e5 : s.sameButNew ({ T2 with vm := s.vm } : State) (locs ++ L) (0 + 1) (0 + 6)) :
    tx_MQ below Qr args s 1 6 A T2 := by
  subst hA1
  obtain ⟨x', u, hx, hp, hB, hF, ce, hc1, hc2, hc3⟩ := hq
  cases hx
  have hF0 := pp_free hw.2.1 hw.2.2 hA
  have hz : H.size ≤ t.heap.size := by rw [← h0]; exact hF.1
  have hk : ∀ q : Nat, q < H.size → ¬ va_A pcs.flatten H.size q → t.heap[q]? = H[q]? := fun q h1 h2 => by rw [← h0] at h1 ⊢; exact hF.2 q h1 h2
  have hj := pp_join hw.1 hw.2.1 hk hF0 hB.1 hB.2
  have hS := th_S hw.2.2 hz hk hF0 hL
  obtain ⟨qs, k1, k2⟩ := kt u t.heap (locs ++ L) hp ⟨hj.1, hj.2, hS⟩
  refine ⟨.threw x, e2, e3, hQ _ _ ⟨x, qs, rfl, k1, ⟨by show va_P _ _ _ _; rw [e1]; exact k2.1, by rw [← hAe]; exact k2.2.1⟩, by rw [← hAe]; exact k2.2.2.F e1, ce, by rw [e1]; exact hc1, hc2, by rw [← ha.findClass]; exact hc3⟩, locs ++ L, ⟨e4, e5⟩, hS.2.2⟩
theorem th_calli {ps0 : List va_W} {post : Int32 → List va_W → Prop} {postT postT' : List va_W → Prop} {Qr : Array Value → State → Outcome → State → Prop} {rt : FieldType} (hM : ThI l y b n rt D cs fr lo (.ref b0 :: As) pcs X E post postT) (S : px_S p m c cc nL s args own) (hT : Tb D cs s) (hw : pw D A s.heap H locs (pr ++ pcs)) (hX : px_X X s H)
    (hrc : ∃ cell : Cell, H[b0]? = some cell ∧ cell.vm.isStatics = false ∧ s.vm.findClass y.cls = some cell.cls) (hcode : Cond.code y b n (some rt) ∈ AL) (hlink : Cond.methodLink own index y ∈ AL) (hinst : Cond.instanceMethod y ∈ AL) (hsel : Cond.selects y.cls y y ∈ AL) (hini : Cond.initialized y.cls ∈ AL) (hy : px_y y As.length)
    (hR : fr + 1 ≤ R.frames ∧ 8 + (n + 11) + lo ≤ R.locals) (hl : ls.size = nL) (hst : st0 = As.reverse ++ .ref b0 :: rest) (hrm : (rest.map fun v => v.category).sum ≤ 8) (hdg : decode cc pc = .ok (.invokevirtual index, 3)) (hf : 0 + 1 ≤ R.cells ∧ 0 + 6 ≤ R.slots) (hne : c.exceptionTable.isEmpty = true) (hlocks : meth.locks = false) (hA : ∀ q, s.heap.size ≤ q → A q) (hAe : A = va_A ps0.flatten s.heap.size)
    (hQ : ∀ (o : Outcome) (t : State), thT D (va_A ps0.flatten s.heap.size) E postT' s o t → Qr args s o t)
    (kt : ∀ (p1 : List va_W) (H1 : Heap) (locs1 : List Loc), postT p1 → pw D A s.heap H1 locs1 (pr ++ p1) → ∃ qs, postT' qs ∧ pw D A s.heap H1 locs1 qs)
    (kr : ∀ (r : Int32) (p1 : List va_W) (H1 : Heap) (locs1 : List Loc), post r p1 → pw D A s.heap H1 locs1 (pr ++ p1) → W p l e R s m args below meth c H1 locs1 0 0 (tx_MQ below Qr args s 1 6 A) (F0 m (pc + 3) ls (.int r :: rest))) :
    W p l e R s m args below meth c H locs 0 0 (tx_MQ below Qr args s 1 6 A) (F0 m pc ls st0) := by
  refine W.know (fun k1 k2 => ?_)
  refine th_runV (mc := 1) (ms := 6) S (hM H.size (tot H)) hT hw hX.tot hrc hcode hlink hinst hsel hini hy hR hl hst hrm hdg hf hne hlocks (fun v st₀ t L h0 hL hq ha => ?_) (fun x st₀ t L h0 hL hq ha T2 e1 e2 e3 e4 e5 => ?_)
  · rcases hq with ⟨⟨r, u, hv, hp, hB, g1, g2⟩, hF⟩ | ⟨x, u, hx, -⟩
    · cases hv
      have hF0 := pp_free hw.2.1 hw.2.2 hA
      have hz : H.size ≤ t.heap.size := by rw [← h0]; exact hF.1
      have hk : ∀ q : Nat, q < H.size → ¬ va_A pcs.flatten H.size q → t.heap[q]? = H[q]? := fun q h1 h2 => by rw [← h0] at h1 ⊢; exact hF.2 q h1 h2
      have hj := pp_join hw.1 hw.2.1 hk hF0 hB.1 hB.2
      exact W.tight (k := 0) (n := 0) (by omega) (by omega) (kr r u t.heap (locs ++ L) hp ⟨hj.1, hj.2, th_S hw.2.2 hz hk hF0 hL⟩)
    · cases hx
  · rcases hq with ⟨⟨r, u, hv, -⟩, -⟩ | hq
    · cases hv
    · exact th_out (ps0 := ps0) rfl hw hA hAe kt hQ h0 hL hq ha e1 e2 e3 e4 e5
theorem th_callv {ps0 : List va_W} {post : List va_W → Prop} {postT postT' : List va_W → Prop} {Qr : Array Value → State → Outcome → State → Prop} (hM : ThV l y b n D cs fr lo (.ref b0 :: As) pcs X E post postT) (S : px_S p m c cc nL s args own) (hT : Tb D cs s) (hw : pw D A s.heap H locs (pr ++ pcs)) (hX : px_X X s H)
    (hrc : ∃ cell : Cell, H[b0]? = some cell ∧ cell.vm.isStatics = false ∧ s.vm.findClass y.cls = some cell.cls) (hcode : Cond.code y b n none ∈ AL) (hlink : Cond.methodLink own index y ∈ AL) (hinst : Cond.instanceMethod y ∈ AL) (hsel : Cond.selects y.cls y y ∈ AL) (hini : Cond.initialized y.cls ∈ AL) (hy : px_y y As.length)
    (hR : fr + 1 ≤ R.frames ∧ 8 + (n + 11) + lo ≤ R.locals) (hl : ls.size = nL) (hst : st0 = As.reverse ++ .ref b0 :: rest) (hrm : (rest.map fun v => v.category).sum ≤ 8) (hdg : decode cc pc = .ok (.invokevirtual index, 3)) (hf : 0 + 1 ≤ R.cells ∧ 0 + 6 ≤ R.slots) (hne : c.exceptionTable.isEmpty = true) (hlocks : meth.locks = false) (hA : ∀ q, s.heap.size ≤ q → A q) (hAe : A = va_A ps0.flatten s.heap.size)
    (hQ : ∀ (o : Outcome) (t : State), thT D (va_A ps0.flatten s.heap.size) E postT' s o t → Qr args s o t)
    (kt : ∀ (p1 : List va_W) (H1 : Heap) (locs1 : List Loc), postT p1 → pw D A s.heap H1 locs1 (pr ++ p1) → ∃ qs, postT' qs ∧ pw D A s.heap H1 locs1 qs)
    (kr : ∀ (p1 : List va_W) (H1 : Heap) (locs1 : List Loc), post p1 → pw D A s.heap H1 locs1 (pr ++ p1) → W p l e R s m args below meth c H1 locs1 0 0 (tx_MQ below Qr args s 1 6 A) (F0 m (pc + 3) ls rest)) :
    W p l e R s m args below meth c H locs 0 0 (tx_MQ below Qr args s 1 6 A) (F0 m pc ls st0) := by
  refine W.know (fun k1 k2 => ?_)
  refine th_runV (mc := 1) (ms := 6) S (hM H.size (tot H)) hT hw hX.tot hrc hcode hlink hinst hsel hini hy hR hl hst hrm hdg hf hne hlocks (fun v st₀ t L h0 hL hq ha => ?_) (fun x st₀ t L h0 hL hq ha T2 e1 e2 e3 e4 e5 => ?_)
  · rcases hq with ⟨⟨u, hv, hp, hB, g1, g2⟩, hF⟩ | ⟨x, u, hx, -⟩
    · cases hv
      have hF0 := pp_free hw.2.1 hw.2.2 hA
      have hz : H.size ≤ t.heap.size := by rw [← h0]; exact hF.1
      have hk : ∀ q : Nat, q < H.size → ¬ va_A pcs.flatten H.size q → t.heap[q]? = H[q]? := fun q h1 h2 => by rw [← h0] at h1 ⊢; exact hF.2 q h1 h2
      have hj := pp_join hw.1 hw.2.1 hk hF0 hB.1 hB.2
      exact W.tight (k := 0) (n := 0) (by omega) (by omega) (kr u t.heap (locs ++ L) hp ⟨hj.1, hj.2, th_S hw.2.2 hz hk hF0 hL⟩)
    · cases hx
  · rcases hq with ⟨⟨u, hv, -⟩, -⟩ | hq
    · cases hv
    · exact th_out (ps0 := ps0) rfl hw hA hAe kt hQ h0 hL hq ha e1 e2 e3 e4 e5
end TH
