theorem m11_190 : Cond.methodLink "HomeSystemModel$Program" 705 ⟨"HomeSystemModel$Program", "whole", "()V"⟩ ∈ AL := AL_11 (List.mem_of_getElem? (i := 190) rfl) rfl
theorem m11_193 : Cond.code ⟨"HomeSystemModel$Program", "whole", "()V"⟩ prog_16_method_62_code 1 (Option.none : Option Jvm.ClassFile.FieldType) ∈ AL := AL_11 (List.mem_of_getElem? (i := 193) rfl) rfl
theorem ms_8_8 : Cond.selects "HomeSystemModel$Program" ⟨"HomeSystemModel$Program", "whole", "()V"⟩ ⟨"HomeSystemModel$Program", "whole", "()V"⟩ ∈ AL := AL_p (q := (⟨"HomeSystemModel$Program", "whole", "()V"⟩, 69)) (by unfold lw_privs; exact List.mem_append_right _ (List.mem_append_right _ (List.mem_append_right _ (List.mem_append_right _ (List.mem_append_right _ (List.mem_append_right _ (List.mem_append_right _ (List.mem_append_left _ (List.mem_of_getElem? (i := 8) rfl)))))))))
theorem m11_192 : Cond.instanceMethod ⟨"HomeSystemModel$Program", "whole", "()V"⟩ ∈ AL := AL_11 (List.mem_of_getElem? (i := 192) rfl) rfl
/-! A METHOD WITH HANDLERS: its words, its start, a call in it that may throw -/
abbrev ph_ws (y : MethodName) (b : ByteArray) (n : Nat) (ret : Option FieldType) (hh : List (Nat × Nat × Nat × Nat)) : List Cond := .codeWith y b n ret hh :: AL
def MhI (l : Launch) (y : MethodName) (b : ByteArray) (n : Nat) (ret : FieldType) (hh : List (Nat × Nat × Nat × Nat)) (D : va_G) (cs : Nat → ClassId) (fr lo mc ms : Nat) (av : List Value) (ps : List va_W) (X : State → Prop) (post : Int32 → List va_W → Prop) : Prop := ∀ sz : Nat, Met l y (ph_ws y b n (some ret) hh) { frames := fr, cells := mc, slots := ms, locals := lo } (pc_Pre D cs av sz ps X) (va_Qi post (pc_B D (va_A ps.flatten sz)) (va_A ps.flatten sz)) mc ms (va_A ps.flatten sz)
theorem ph_enter {l : Launch} {y : MethodName} {b : ByteArray} {n : Nat} {ret : Option FieldType} {hh : List (Nat × Nat × Nat × Nat)} {D : va_G} {cs : Nat → ClassId} {fr lo mc ms : Nat} {av : List Value} {ps : List va_W} {X : State → Prop} {Qc : Nat → Array Value → State → Outcome → State → Prop}
    (hy : plainName y.cls = true) (hn : (lg_sl av).length ≤ n)
    (body : ∀ (p : Program) (e : Env) (s : State) (m : MethodId) (below : List Frame) (meth : Method) (c : Code) (A : Nat → Prop) (ls : Array Slot), A = va_A ps.flatten s.heap.size → px_S p m c b n s av.toArray y.cls → meth.sig.returnType = ret → meth.locks = false → (∀ q : Nat, s.heap.size ≤ q → A q) → Tb D cs s → X s → pw D A s.heap s.heap [] ps → lv_has ls n (lv_args 0 av) → l.admits e → c.exceptionTable.toList = hh.map (fun q => ⟨q.1, q.2.1, q.2.2.1, q.2.2.2⟩) →
      W p l e { frames := fr, cells := mc, slots := ms, locals := lo } s m av.toArray below meth c s.heap [] 0 0 (MQ below (Qc s.heap.size) av.toArray s mc ms A) (F0 m 0 ls [])) :
    ∀ sz : Nat, Met l y (ph_ws y b n ret hh) { frames := fr, cells := mc, slots := ms, locals := lo } (pc_Pre D cs av sz ps X) (Qc sz) mc ms (va_A ps.flatten sz) := by
  intro sz
  refine tx_ofWH (cc := b) (maxL := n) (ret := ret) (hh := hh) hy rfl ?_
  intro p e s m args below meth c s₁ B hml hv hadm htb
  obtain ⟨rfl, hsz, hP, hT, hD0, hX⟩ := hv
  subst hsz
  rw [lg_entry_eq]
  exact body p e s m below meth c _ _ rfl ⟨_, ⟨B.exec, B.bytes, hml, findClass_of_methodNamed B.named, atoms_spec (ws := ph_ws y b n ret hh) B.pre⟩, fun w h => List.mem_cons_of_mem _ h⟩ B.returns B.notSynchronized (fun q h => Or.inr h) hT hX ⟨hP, hD0.self, va_S.rf⟩ (lv_entry av hn) hadm htb
section THH
variable {p : Program} {l : Launch} {e : Env} {R : Room} {s : State} {m : MethodId} {args : Array Value} {below : List Frame} {meth : Method} {c : Code} {H : Heap} {locs : List Loc} {cells slots : Nat} {Q : State → Prop}
variable {cc b : ByteArray} {pc nL n fr lo mc ms index : Nat} {ls : Array Slot} {rest As : List Value} {D : va_G} {A : Nat → Prop} {b0 : Nat} {cs : Nat → ClassId} {ps pr pcs : List va_W} {own C E : String} {y : MethodName} {ret : Option FieldType} {X : State → Prop} {st0 : List Value}
set_option maxHeartbeats 2000000 in
theorem thh_callv {hpc : Nat} {post postT : List va_W → Prop} (hM : ThV l y b n D cs fr lo (.ref b0 :: As) pcs X E post postT) (S : px_S p m c cc nL s args own) (hT : Tb D cs s) (hw : pw D A s.heap H locs (pr ++ pcs)) (hX : px_X X s H)
    (hrc : ∃ cell : Cell, H[b0]? = some cell ∧ cell.vm.isStatics = false ∧ s.vm.findClass y.cls = some cell.cls) (hcode : Cond.code y b n none ∈ AL) (hlink : Cond.methodLink own index y ∈ AL) (hinst : Cond.instanceMethod y ∈ AL) (hsel : Cond.selects y.cls y y ∈ AL) (hini : Cond.initialized y.cls ∈ AL) (hy : px_y y As.length)
    (hR : fr + 1 ≤ R.frames ∧ 8 + (n + 11) + lo ≤ R.locals) (hl : ls.size = nL) (hst : st0 = As.reverse ++ .ref b0 :: rest) (hrm : (rest.map fun v => v.category).sum ≤ 8) (hdg : decode cc pc = .ok (.invokevirtual index, 3)) (hf : 0 + 1 ≤ R.cells ∧ 0 + 6 ≤ R.slots) (hA : ∀ q, s.heap.size ≤ q → A q)
    (hTk : tx_Takes s args own E pc hpc c.exceptionTable.toList)
    (kt : ∀ (x : Addr) (p1 : List va_W) (H1 : Heap) (locs1 : List Loc), postT p1 → pw D A s.heap H1 locs1 (pr ++ p1) → W p l e R s m args below meth c H1 locs1 (0 + 1) (0 + 6) Q (F0 m hpc ls [.ref x]))
    (kr : ∀ (p1 : List va_W) (H1 : Heap) (locs1 : List Loc), post p1 → pw D A s.heap H1 locs1 (pr ++ p1) → W p l e R s m args below meth c H1 locs1 0 0 Q (F0 m (pc + 3) ls rest)) :
    W p l e R s m args below meth c H locs 0 0 Q (F0 m pc ls st0) := by
  subst hst
  have h1 := S.w hlink
  have h2 := S.w hinst
  have h3 := S.w hsel
  have h4 := S.w hini
  obtain ⟨Ts, S, hTs⟩ := S
  have cw : CallW R s args own y.cls index y b n none (pc_ws y b n none) { frames := fr, cells := 1, slots := 6, locals := lo } 1 6 As.length := ⟨callB_of As.length S.2.2.2.2 (AL_call (ex := []) hTs hcode (fun _ h => absurd h List.not_mem_nil)) rfl rfl rfl h4 h1 hy hR, h2, h3⟩
  refine W.know (fun k1 k2 => ?_)
  have hp : PreV s H y.cls b0 (pc_Pre D cs (.ref b0 :: As) H.size pcs (thX X (tot H))) As := ⟨px_blind hX.tot.1, hrc, px_pre hT hw hX.tot⟩
  have hF0 := pp_free hw.2.1 hw.2.2 hA
  refine tx_runV S (hM H.size (tot H)) cw hp rfl hl hrm hdg hf (fun v st₀ t L h0 hL hq ha ha2 => ?_) (fun x st₀ t L h0 hL hq ha ha2 => ?_)
  · rcases hq with ⟨⟨u, hv, hp, hB, g1, g2⟩, hF⟩ | ⟨x, u, hx, -⟩
    · cases hv
      have hz : H.size ≤ t.heap.size := by rw [← h0]; exact hF.1
      have hk : ∀ q : Nat, q < H.size → ¬ va_A pcs.flatten H.size q → t.heap[q]? = H[q]? := fun q h1 h2 => by rw [← h0] at h1 ⊢; exact hF.2 q h1 h2
      have hj := pp_join hw.1 hw.2.1 hk hF0 hB.1 hB.2
      exact W.tight (k := 0) (n := 0) (by omega) (by omega) (kr u t.heap (locs ++ L) hp ⟨hj.1, hj.2, th_S hw.2.2 hz hk hF0 hL⟩)
    · cases hx
  · rcases hq with ⟨⟨u, hv, -⟩, -⟩ | ⟨x', u, hx, hp, hB, hF, ce, c1, c2, c3⟩
    · cases hv
    · cases hx
      have hz : H.size ≤ t.heap.size := by rw [← h0]; exact hF.1
      have hk : ∀ q : Nat, q < H.size → ¬ va_A pcs.flatten H.size q → t.heap[q]? = H[q]? := fun q h1 h2 => by rw [← h0] at h1 ⊢; exact hF.2 q h1 h2
      have hj := pp_join hw.1 hw.2.1 hk hF0 hB.1 hB.2
      exact ⟨E, hpc, ce, c1, c2, by rw [← ha.findClass]; exact c3, hTk, kt x u t.heap (locs ++ L) hp ⟨hj.1, hj.2, th_S hw.2.2 hz hk hF0 hL⟩⟩
end THH
abbrev b_Mpg_isText : ByteArray := prog_16_method_105_code
def y_Mpg_isText : MethodName := ⟨"HomeSystemModel$Program", "isText", "()Z"⟩
theorem d_Mpg_isText_0 : decode b_Mpg_isText 0 = .ok (.iconst 1, 1) := by decide +kernel
theorem d_Mpg_isText_1 : decode b_Mpg_isText 1 = .ok (.istore_n 1, 1) := by decide +kernel
theorem d_Mpg_isText_2 : decode b_Mpg_isText 2 = .ok (.aload_n 0, 1) := by decide +kernel
theorem d_Mpg_isText_3 : decode b_Mpg_isText 3 = .ok (.invokevirtual 705, 3) := by decide +kernel
theorem d_Mpg_isText_6 : decode b_Mpg_isText 6 = .ok (.goto 6, 3) := by decide +kernel
theorem d_Mpg_isText_9 : decode b_Mpg_isText 9 = .ok (.astore_n 2, 1) := by decide +kernel
theorem d_Mpg_isText_10 : decode b_Mpg_isText 10 = .ok (.iconst 0, 1) := by decide +kernel
theorem d_Mpg_isText_11 : decode b_Mpg_isText 11 = .ok (.istore_n 1, 1) := by decide +kernel
theorem d_Mpg_isText_12 : decode b_Mpg_isText 12 = .ok (.iload_n 1, 1) := by decide +kernel
theorem d_Mpg_isText_13 : decode b_Mpg_isText 13 = .ok (.ireturn, 1) := by decide +kernel
theorem q_Mpg_isText : px_y y_Mpg_isText 0 := by unfold px_y; decide +kernel
set_option maxHeartbeats 4000000 in
set_option maxRecDepth 100000 in
theorem c_mp_isText (l : Launch) (D : va_G) (cs : Nat → ClassId) (h : Nat) (r : Nat → Nat) (g : Nat → Nat → Option Nat) (tf : Nat → Int32) (ta : Nat → Nat → Int32) (cf : Nat → Int32) (ca : Nat → Nat → Int32) (ef : Nat → Int32) (ea : Nat → Nat → Int32) (xf : Nat → Int32) (xa : Nat → Nat → Int32) (pf : Nat → Int32) (na : Nat → Nat → Int32) (ma : Nat → Nat → Int32) (wa : Nat → Nat → Int32)  (g0 : 0 ≤ (pf 11).toInt) (g1 : (pf 11).toInt < (tf 6).toInt) (g2 : (tf 6).toInt ≤ 2049) (g3 : (pf 12).toInt = 0) (g4 : 0 ≤ (pf 13).toInt) (g5 : (pf 13).toInt ≤ (pf 11).toInt + 10) (g6 : (pf 26).toInt = 0) (g7 : -1 ≤ (pf 25).toInt) (g8 : (pf 25).toInt < (pf 13).toInt) (hlf : l.flags = pinnedFlags ++ [noTraceFlag]) (htk : TkI tf ta) (hfs : FsI (tf 6).toInt (pf 13).toInt na) (hzg : RzG ta (tf 6).toInt na ma (pf 24) (pf 25) 0 (pf 13).toInt (3 * bp ta (pf 11)) 200) : MhI l y_Mpg_isText b_Mpg_isText 3 (.boolean) [(2, 6, 9, 353)] D cs (8 * 61 + 34) (220 * 61 + 1560) 1 6 [.ref h] [wdP cs h r g tf ta pf na ma wa cf ca ef ea xf xa] (oX (fun A U H => (oN A U H) ∧ (oP A g U H)) [wdP cs h r g tf ta pf na ma wa cf ca ef ea xf xa]) (fun v ps => (v = 1 ∧ (fun ps => ∃ (pf' : Nat → Int32) (na' : Nat → Nat → Int32) (ma' : Nat → Nat → Int32) (wa' : Nat → Nat → Int32), (ps = [wdP cs h r g tf ta pf' na' ma' wa' cf ca ef ea xf xa]) ∧ ((pf 11).toInt ≤ (pf' 11).toInt) ∧ ((pf' 11).toInt < (tf 6).toInt) ∧ ((pf 13).toInt ≤ (pf' 13).toInt) ∧ ((pf' 13).toInt ≤ (pf' 11).toInt + 10) ∧ ((pf' 12).toInt = 0) ∧ ((pf' 26).toInt = 0) ∧ (-1 ≤ (pf' 25).toInt) ∧ ((pf' 25).toInt < (pf' 13).toInt) ∧ (RzG ta (tf 6).toInt na' ma' (pf' 24) (pf' 25) 0 (pf' 13).toInt (3 * bp ta (pf' 11)) 200) ∧ (FsI (tf 6).toInt (pf' 13).toInt na') ∧ (R_mp_whole ta pf na ma wa pf' na' ma' wa' 0)) ps) ∨ (v = 0 ∧ (fun ps => ∃ (pf' : Nat → Int32) (na' : Nat → Nat → Int32) (ma' : Nat → Nat → Int32) (wa' : Nat → Nat → Int32), ps = [wdP cs h r g tf ta pf' na' ma' wa' cf ca ef ea xf xa] ∧ 0 ≤ (pf' 11).toInt ∧ (pf' 11).toInt + 1 ≤ (tf 6).toInt ∧ R_mp_whole ta pf na ma wa pf' na' ma' wa' 1) ps)) := by
  refine ph_enter (by decide) (Nat.le_of_ble_eq_true rfl) ?_
  intro p e s m below meth c A ls hAe S hr hlk hA hT hX hw hl hadm htb
  have hl : lv_has ls 3 [(0, .ref h)] := hl
  have hX : (fun A U H => (oN A U H) ∧ (oP A g U H)) A s s.heap := by rw [hAe]; exact hX
  obtain ⟨hN, hP⟩ := hX
  have hZ := hP.1
  have hF0 := hP.2.1
  have hcst := Cond.castable_spec (show (Cond.castable "java/lang/IllegalArgumentException" "java/lang/IllegalArgumentException").before [Value.ref h].toArray s = true from va_Nw.use rfl (hT.2.2 _ m3_135n rfl))
  have hTk : tx_Takes s [Value.ref h].toArray "HomeSystemModel$Program" "java/lang/IllegalArgumentException" 3 9 c.exceptionTable.toList := by rw [htb]; exact Or.inr ⟨rfl, by decide, "java/lang/IllegalArgumentException", S.w m11_189, Or.inl ⟨rfl, hcst⟩⟩
  refine lv_iconst (v := 1) S.x S.b d_Mpg_isText_0 (by decide) ?_
  refine lv_istore_n (lv' := [(1, .int 1), (0, .ref h)]) S.x S.b d_Mpg_isText_1 rfl hl (by decide) rfl (fun ls hl => ?_)
  refine lv_aload_n S.x S.b d_Mpg_isText_2 rfl (lv_at hl 1 rfl) ?_
  first | refine thh_callv (hpc := 9) (pr := []) (pcs := [wdP cs h r g tf ta pf na ma wa cf ca ef ea xf xa]) (As := []) (rest := []) (c_mp_whole l D cs h r g tf ta cf ca ef ea xf xa pf na ma wa   (show 0 ≤ (pf 11).toInt from g0) (show (pf 11).toInt < (tf 6).toInt from g1) (show (tf 6).toInt ≤ 2049 from g2) (show (pf 12).toInt = 0 from g3) (show 0 ≤ (pf 13).toInt from g4) (show (pf 13).toInt ≤ (pf 11).toInt + 10 from g5) (show (pf 26).toInt = 0 from g6) (show -1 ≤ (pf 25).toInt from g7) (show (pf 25).toInt < (pf 13).toInt from g8) hlf htk (FsI.le (N' := (pf 13).toInt) hfs (by omega)) (RzV.le (rz_eq hzg (by omega) (by omega)) (by omega) (by omega) (by omega) (by omega))) S hT hw (oX_call (P := (fun A U H => (oN A U H) ∧ (oP A g U H))) (pr := []) (oG_and oG_N oG_P) hw hA ⟨hN, hP⟩) (px_recv hT hw 0 0 rfl rfl rfl) m11_193 m11_190 m11_192 ms_8_8 m1_21 q_Mpg_whole ⟨Nat.le_of_ble_eq_true rfl, Nat.le_of_ble_eq_true rfl⟩ hl.1 rfl (Nat.le_of_ble_eq_true rfl) d_Mpg_isText_3 ⟨Nat.le_of_ble_eq_true rfl, Nat.le_of_ble_eq_true rfl⟩ hA hTk ?_ (fun p9 H locs hp9 hw => ?_) | (refine thh_callv (hpc := 9) (pr := []) (pcs := [wdP cs h r g tf ta pf na ma wa cf ca ef ea xf xa]) (As := []) (rest := []) (c_mp_whole l D cs h r g tf ta cf ca ef ea xf xa pf na ma wa   (show 0 ≤ (pf 11).toInt from by first | exact g0 | omega) (show (pf 11).toInt < (tf 6).toInt from by first | exact g1 | omega) (show (tf 6).toInt ≤ 2049 from by first | exact g2 | omega) (show (pf 12).toInt = 0 from by first | exact g3 | omega) (show 0 ≤ (pf 13).toInt from by first | exact g4 | omega) (show (pf 13).toInt ≤ (pf 11).toInt + 10 from by first | exact g5 | omega) (show (pf 26).toInt = 0 from by first | exact g6 | omega) (show -1 ≤ (pf 25).toInt from by first | exact g7 | omega) (show (pf 25).toInt < (pf 13).toInt from by first | exact g8 | omega) hlf htk (FsI.le (N' := (pf 13).toInt) hfs (by omega)) (RzV.le (rz_eq hzg (by omega) (by omega)) (by omega) (by omega) (by omega) (by omega))) S hT hw (oX_call (P := (fun A U H => (oN A U H) ∧ (oP A g U H))) (pr := []) (oG_and oG_N oG_P) hw hA ⟨hN, hP⟩) (px_recv hT hw 0 0 rfl rfl rfl) m11_193 m11_190 m11_192 ms_8_8 m1_21 q_Mpg_whole ⟨Nat.le_of_ble_eq_true rfl, Nat.le_of_ble_eq_true rfl⟩ hl.1 rfl (Nat.le_of_ble_eq_true rfl) d_Mpg_isText_3 ⟨Nat.le_of_ble_eq_true rfl, Nat.le_of_ble_eq_true rfl⟩ hA hTk ?_ (fun p9 H locs hp9 hw => ?_))
  · intro x9 p9 H locs hp9 hw
    obtain ⟨pf9, na9, ma9, wa9, rfl, hq1, hq2⟩ := hp9
    refine lv_astore_n (lv' := [(2, .ref x9), (1, .int 1), (0, .ref h)]) S.x S.b d_Mpg_isText_9 rfl hl (by decide) rfl (fun ls hl => ?_)
    refine lv_iconst (v := 0) S.x S.b d_Mpg_isText_10 (by decide) ?_
    refine lv_istore_n (lv' := [(1, .int 0), (2, .ref x9), (0, .ref h)]) S.x S.b d_Mpg_isText_11 rfl hl (by decide) rfl (fun ls hl => ?_)
    refine lv_iload_n S.x S.b d_Mpg_isText_12 rfl (lv_at hl 0 rfl) ?_
    exact px_iret (v := 0) S hr rfl hlk hAe hw (Nat.le_of_ble_eq_true rfl) (Nat.le_of_ble_eq_true rfl) (Or.inr ⟨rfl, pf9, na9, ma9, wa9, rfl, hq1, hq2⟩) d_Mpg_isText_13
  obtain ⟨pf11, na12, ma13, wa14, rfl, hrest⟩ := hp9
  refine lv_goto (tgt := 12) S.x S.b d_Mpg_isText_6 (by decide) ?_
  refine lv_iload_n S.x S.b d_Mpg_isText_12 rfl (lv_at hl 0 rfl) ?_
  exact px_iret (v := 1) S hr rfl hlk hAe hw (Nat.le_of_ble_eq_true rfl) (Nat.le_of_ble_eq_true rfl) (Or.inl ⟨rfl, pf11, na12, ma13, wa14, rfl, hrest⟩) d_Mpg_isText_13
