/-! inherited fields and methods -/
section PI
variable {p : Program} {l : Launch} {e : Env} {R : Room} {s : State} {m : MethodId} {args : Array Value} {below : List Frame} {meth : Method} {c : Code} {H : Heap} {locs : List Loc} {cells slots : Nat} {Q : State → Prop}
variable {cc b : ByteArray} {pc nL n fr lo mc ms index : Nat} {ls : Array Slot} {rest As st0 : List Value} {D : va_G} {A : Nat → Prop} {a b0 : Nat} {cs : Nat → ClassId} {ps ps' pr pcs : List va_W} {w w' : va_W} {H0 : Heap} {own : String} {x y : MethodName} {ret : Option FieldType} {X : State → Prop} {Qc : Array Value → State → Outcome → State → Prop} {free : Addr → Prop}
theorem px_getS (S : px_S p m c cc nL s args own) {ci N : Nat} {C ref : String} {T : u_T} {ty0 : Nat → FieldType} (hc : px_cls ci C T N ty0) (hT : Tb D cs s) (hw : pw D A H0 H locs ps) (i j k : Nat) {fs : List Value} {v : Value} (hi : ps[i]? = some w) (he : w[j]? = some (a, .inr (ci, fs))) (hv : fs[k]? = some v) (hk : k < N) (hlink : Cond.fieldLink own index ref (T k).2.1 (T k).2.2.1 ∈ AL) (hsame : Cond.sameField ref (T k).1 (T k).2.1 (T k).2.2.1 ∈ AL) (hdg : decode cc pc = .ok (.getfield index, 3))
    (kk : W p l e R s m args below meth c H locs cells slots Q (F0 m (pc + 3) ls (v :: rest))) : W p l e R s m args below meth c H locs cells slots Q (F0 m pc ls (.ref a :: rest)) := by
  have hl := S.w hlink
  have hs := S.w hsame
  obtain ⟨Ts, S, h⟩ := S
  exact va_get S.1 S.2.1 S.2.2.2.2 (fun w h1 => h w (hc.2.2.2 w h1)) S.2.2.2.1 hT.1 hw.1 (pp_off ps i + j) (pp_get he ps i hi) hc.1 k hk hl (fun x h => u_same hs x h) hv hdg kk
theorem px_putS (S : px_S p m c cc nL s args own) {ci N : Nat} {C ref : String} {T : u_T} {ty0 : Nat → FieldType} (hc : px_cls ci C T N ty0) (hT : Tb D cs s) (hw : pw D A H0 H locs ps) (i j k : Nat) {fs : List Value} {v : Value} (hi : ps[i]? = some w) (he : w[j]? = some (a, .inr (ci, fs))) (hk : k < N) (hlink : Cond.fieldLink own index ref (T k).2.1 (T k).2.2.1 ∈ AL) (hsame : Cond.sameField ref (T k).1 (T k).2.1 (T k).2.2.1 ∈ AL) (hfin : (T k).2.2.2 = false) (hn : narrow (ty0 k) v = v) (hfit : fits (ty0 k) v = true) (hl : k < fs.length) (hdg : decode cc pc = .ok (.putfield index, 3)) (hww : w.set j (a, .inr (ci, fs.set k v)) = w') (hps : ps.set i w' = ps')
    (kk : ∀ (H1 : Heap) (locs1 : List Loc), pw D A H0 H1 locs1 ps' → W p l e R s m args below meth c H1 locs1 cells slots Q (F0 m (pc + 3) ls rest)) : W p l e R s m args below meth c H locs cells slots Q (F0 m pc ls (v :: .ref a :: rest)) := by
  have hlk := S.w hlink
  have hs := S.w hsame
  obtain ⟨Ts, S, h⟩ := S
  have hj : j < w.length := (List.getElem?_eq_some_iff.mp he).1
  refine va_put S.1 S.2.1 S.2.2.2.2 (fun w h1 => h w (hc.2.2.2 w h1)) ty0 hc.2.1 hc.2.2.1 S.2.2.2.1 hT.1 hw.1 hw.2.1 hw.2.2 (pp_off ps i + j) (pp_get he ps i hi) hc.1 k hk hlk (fun x h => u_same hs x h) hfin (hc.2.1 k hk) hn hfit hl hdg (fun H1 locs1 h1 h2 h3 => kk H1 locs1 ⟨?_, ?_, h3⟩)
  · rw [← hps, ← hww, ← pp_set hj ps i hi]; exact h1
  · rw [← hps, ← hww, ← pp_set hj ps i hi]; exact h2
theorem px_runU {C : String} (S : px_S p m c cc nL s args own) (hM : Met l y (pc_ws y b n ret) { frames := fr, cells := mc, slots := ms, locals := lo } (pc_Pre D cs (.ref b0 :: As) H.size pcs X) Qc mc ms free) (hT : Tb D cs s) (hw : pw D A H0 H locs (pr ++ pcs)) (hX : px_X X s H)
    (hrc : ∃ cell : Cell, H[b0]? = some cell ∧ cell.vm.isStatics = false ∧ s.vm.findClass C = some cell.cls) (hcode : Cond.code y b n ret ∈ AL) (hlink : Cond.methodLink own index x ∈ AL) (hsame : Cond.sameMethod x.cls y.cls x.name x.desc ∈ AL) (hinst : Cond.instanceMethod y ∈ AL) (hsel : Cond.selects C x y ∈ AL) (hini : Cond.initialized y.cls ∈ AL) (hyx : y = ⟨y.cls, x.name, x.desc⟩) (hy : px_y y As.length)
    (hR : fr + 1 ≤ R.frames ∧ 8 + (n + 11) + lo ≤ R.locals) (hl : ls.size = nL) (hst : st0 = As.reverse ++ .ref b0 :: rest) (hrm : (rest.map fun v => v.category).sum ≤ 8) (hdg : decode cc pc = .ok (.invokevirtual index, 3)) (hf : cells + mc ≤ R.cells ∧ slots + ms ≤ R.slots) :
    va_Run p l e R s m args below meth c H locs cells slots mc ms (F0 m pc ls st0) rest (Qc (Value.ref b0 :: As).toArray) free := by
  obtain ⟨Ts, S, h⟩ := S
  have hd : x.desc = y.desc := by rw [hyx]
  have hG : GoodIn Ts (va_wsU own index C y.cls x y (pc_ws y b n ret)) := AL_call (ex := [.methodLink own index x, .sameMethod x.cls y.cls x.name x.desc, .selects C x y, .instanceMethod y, .initialized y.cls]) h hcode (fun w hw => by
    rcases List.mem_cons.mp hw with e | hw
    · rw [e]; exact hlink
    rcases List.mem_cons.mp hw with e | hw
    · rw [e]; exact hsame
    rcases List.mem_cons.mp hw with e | hw
    · rw [e]; exact hsel
    rcases List.mem_cons.mp hw with e | hw
    · rw [e]; exact hinst
    rcases List.mem_cons.mp hw with e | hw
    · rw [e]; exact hini
    exact absurd hw List.not_mem_nil)
  exact va_runU S hM (va_cwU As.length S.2.2.2.2 hG rfl rfl rfl hyx (by rw [hd]; exact hy) hR) ⟨px_blind hX.1, hrc, px_pre hT hw hX⟩ rfl rfl hl hst (lv_room hrm) hdg hf
end PI
