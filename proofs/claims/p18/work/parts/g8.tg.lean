/-! METHODS THAT MAY THROW one of several, and make objects where they return -/
def tgT (D : va_G) (A : Nat → Prop) (Es : List String) (postT : List va_W → Prop) (st : State) (o : Outcome) (t : State) : Prop :=
  ∃ (x : Addr) (u : List va_W) (E : String), E ∈ Es ∧ o = .threw x ∧ postT u ∧ pc_B D A u t ∧ va_F A st t ∧ thE E x st.vm t ∧ t.heap.size ≤ st.heap.size + 1 ∧ tot t.heap ≤ tot st.heap + 6
def tgQi (D : va_G) (A : Nat → Prop) (Es : List String) (post : Int32 → List va_W × Nat × Nat → Prop) (postT : List va_W → Prop) (sz tz : Nat) : Array Value → State → Outcome → State → Prop := fun a st o t => va_Qi post (pg_B D A sz tz) A a st o t ∨ tgT D A Es postT st o t
def TgI (l : Launch) (y : MethodName) (b : ByteArray) (n : Nat) (ret : FieldType) (D : va_G) (cs : Nat → ClassId) (fr lo mc ms : Nat) (av : List Value) (ps : List va_W) (X : State → Prop) (Es : List String) (post : Int32 → List va_W × Nat × Nat → Prop) (postT : List va_W → Prop) : Prop := ∀ sz tz : Nat, tx_Met l y (pc_ws y b n (some ret)) { frames := fr, cells := mc, slots := ms, locals := lo } (pc_Pre D cs av sz ps (thX X tz)) (tgQi D (va_A ps.flatten sz) Es post postT sz tz) mc ms (va_A ps.flatten sz)
theorem tg_enter {l : Launch} {y : MethodName} {b : ByteArray} {n : Nat} {ret : Option FieldType} {D : va_G} {cs : Nat → ClassId} {fr lo mc ms : Nat} {av : List Value} {ps : List va_W} {X : State → Prop} {Qo : Nat → Nat → Array Value → State → Outcome → State → Prop}
    (hy : plainName y.cls = true) (hn : (lg_sl av).length ≤ n)
    (body : ∀ (p : Program) (e : Env) (s : State) (m : MethodId) (below : List Frame) (meth : Method) (c : Code) (A : Nat → Prop) (ls : Array Slot), A = va_A ps.flatten s.heap.size → px_S p m c b n s av.toArray y.cls → meth.sig.returnType = ret → meth.locks = false → meth.name = y.name → (∀ q : Nat, s.heap.size ≤ q → A q) → Tb D cs s → X s → pw D A s.heap s.heap [] ps → lv_has ls n (lv_args 0 av) → c.exceptionTable.isEmpty = true → l.admits e →
      W p l e { frames := fr, cells := mc, slots := ms, locals := lo } s m av.toArray below meth c s.heap [] 0 0 (tx_MQ below (Qo s.heap.size (tot s.heap)) av.toArray s mc ms A) (F0 m 0 ls [])) :
    ∀ sz tz : Nat, tx_Met l y (pc_ws y b n ret) { frames := fr, cells := mc, slots := ms, locals := lo } (pc_Pre D cs av sz ps (thX X tz)) (Qo sz tz) mc ms (va_A ps.flatten sz) := by
  intro sz tz
  refine tx_ofW (cc := b) (maxL := n) (ret := ret) hy rfl ?_
  intro p e s m args below meth c s₁ B hml hv hadm hne
  obtain ⟨rfl, hsz, hP, hT, hD0, htz, hX⟩ := hv
  subst hsz
  subst htz
  rw [lg_entry_eq]
  exact body p e s m below meth c _ _ rfl ⟨_, ⟨B.exec, B.bytes, hml, findClass_of_methodNamed B.named, atoms_spec (ws := pc_ws y b n ret) B.pre⟩, fun w h => List.mem_cons_of_mem _ h⟩ B.returns B.notSynchronized (name_of_methodNamed B.named B.method).1 (fun q h => Or.inr h) hT hX ⟨hP, hD0.self, va_S.rf⟩ (lv_entry av hn) hne hadm
section TG
variable {p : Program} {l : Launch} {e : Env} {R : Room} {s : State} {m : MethodId} {args : Array Value} {below : List Frame} {meth : Method} {c : Code} {H : Heap} {locs : List Loc} {cells slots : Nat} {Q : State → Prop}
variable {cc b : ByteArray} {pc nL n fr lo mc ms index : Nat} {ls : Array Slot} {rest As : List Value} {D : va_G} {A : Nat → Prop} {cs : Nat → ClassId} {ps : List va_W} {own : String} {Es : List String}
theorem sbn_le {u t : State} {L : List Loc} {k n k' n' : Nat} (h : u.sameButNew t L k n) (h1 : k ≤ k') (h2 : n ≤ n') : u.sameButNew t L k' n' := ⟨h.1, h.2.1, Nat.le_trans h.2.2.1 (Nat.add_le_add_left h1 _), h.2.2.2.1, Nat.le_trans h.2.2.2.2.1 h2, h.2.2.2.2.2⟩
/-- a throw, where there is more room -/
theorem tg_iret {post : Int32 → List va_W × Nat × Nat → Prop} {postT : List va_W → Prop} {ps0 : List va_W} {v : Int32} {ty : FieldType} (S : px_S p m c cc nL s args own) (hr : meth.sig.returnType = some ty) (hn : narrow ty (.int v) = .int v) (hlocks : meth.locks = false) (hAe : A = va_A ps0.flatten s.heap.size) (hw : pw D A s.heap H locs ps) (hc : cells ≤ mc) (hs : slots ≤ ms) (hp : post v (ps, cells, slots)) (hdg : decode cc pc = .ok (.ireturn, 1)) :
    W p l e R s m args below meth c H locs cells slots (tx_MQ below (tgQi D (va_A ps0.flatten s.heap.size) Es post postT s.heap.size (tot s.heap)) args s mc ms A) (F0 m pc ls [.int v]) := by
  subst hAe
  refine W.know (fun k1 k2 => ?_)
  refine W.widen (k := mc) (n := ms) hc hs ?_
  refine tx_ret (Qc := va_Qi post (pg_B D (va_A ps0.flatten s.heap.size) s.heap.size (tot s.heap)) (va_A ps0.flatten s.heap.size)) (fun o t h => Or.inl h) ?_
  exact W.zret S.x S.b hr hn (fun t ht hW => ⟨⟨v, (ps, cells, slots), rfl, hp, ⟨by show va_P _ _ _ _; rw [ht]; exact hw.1, hw.2.1⟩, by rw [ht]; exact k1, by rw [ht]; exact k2⟩, hw.2.2.F ht⟩) hw.2.2.2.2 hdg hlocks
end TG
theorem tot_list (H : Heap) : tot H = (H.toList.map (·.slots.size)).sum := by
  have k : ∀ (L : List Cell) (n : Nat), L.foldl (fun n c => n + c.slots.size) n = n + (L.map (·.slots.size)).sum := by
    intro L
    induction L with
    | nil => intro n; simp
    | cons a L ih => intro n; simp only [List.foldl_cons, List.map_cons, List.sum_cons]; rw [ih]; omega
  unfold tot
  rw [← Array.foldl_toList, k]; omega
theorem tot_drop {H0 H1 : Heap} (h : ∀ q : Nat, q < H0.size → H1[q]? = H0[q]?) (hs : H0.size ≤ H1.size) : tot H1 = tot H0 + ((H1.toList.drop H0.size).map (·.slots.size)).sum := by
  have e : H1.toList.take H0.size = H0.toList := by
    apply List.ext_getElem?
    intro i
    by_cases hi : i < H0.size
    · rw [List.getElem?_take_of_lt hi, Array.getElem?_toList, Array.getElem?_toList]; exact h i hi
    · rw [List.getElem?_eq_none (by simp; omega), List.getElem?_eq_none (by simp; omega)]
  rw [tot_list, tot_list, ← e]
  conv => lhs; rw [← List.take_append_drop H0.size H1.toList]
  rw [List.map_append, List.sum_append]
section TG2
variable {p : Program} {l : Launch} {e : Env} {R : Room} {s : State} {m : MethodId} {args : Array Value} {below : List Frame} {meth : Method} {c : Code} {H : Heap} {locs : List Loc} {cells slots mc ms : Nat} {E : String} {free : Addr → Prop}
theorem tg_thr {Qo : Array Value → State → Outcome → State → Prop} {g : JFrame} (h1 : 1 ≤ mc) (h2 : 6 ≤ ms) (k : W p l e R s m args below meth c H locs cells slots (tx_MQ below (fun _ _ o t => ∃ x, o = .threw x ∧ tx_new E s x t) args s 1 6 free) g) (hQ : ∀ (x : Addr) (t : State), tx_new E s x t → t.heap.size ≤ s.heap.size + 1 → tot t.heap ≤ tot s.heap + 6 → Qo args s (.threw x) t) : W p l e R s m args below meth c H locs cells slots (tx_MQ below Qo args s mc ms free) g := fun T hT X => by
  obtain ⟨t, a, o, q1, q2, ⟨x, rfl, hn⟩, L, hF, hL⟩ := k T hT X
  have z1 : t.heap.size ≤ s.heap.size + 1 := hF.2.2.2.1
  have z2 : ((t.heap.toList.drop s.heap.size).map (·.slots.size)).sum ≤ 6 := hF.2.2.2.2.2.1
  have z3 := tot_drop hn.2.2.1 hn.2.1
  exact ⟨t, a, _, q1, q2, hQ x t hn z1 (by omega), L, ⟨hF.1, sbn_le hF.2 h1 h2⟩, hL⟩
end TG2
/-! PROGRAMS of the class are replaced -/
theorem pw_left {D : va_G} {A : Nat → Prop} {H0 H : Heap} {locs : List Loc} {ps qs : List va_W} (h : pw D A H0 H locs (ps ++ qs)) : pw D A H0 H locs ps := by
  have l : ∀ (k : Nat) (q : Nat × va_E), ps.flatten[k]? = some q → (ps ++ qs).flatten[k]? = some q := fun k q hk => by
    rw [pp_two, List.getElem?_append_left (List.getElem?_eq_some_iff.mp hk).1]; exact hk
  exact ⟨fun k q hk => h.1 k q (l k q hk), ⟨fun i j x y hx hy e => h.2.1.1 i j x y (l i x hx) (l j y hy) e, fun k q hk => h.2.1.2 k q (l k q hk)⟩, h.2.2⟩
def bPg (cs : Nat → ClassId) (h : Nat) (g : Pvs) : va_W := wd_Prg cs h g.r (fun k => if k = 2 then g.o else none) g.f (fun _ _ => 0) (fun _ _ => none) ++ (nA cs g.o g.fn g.fd ++ [(g.r 1, .inl (cs 0, g.cn, .inl g.cd))])
section PGR
variable {D : va_G} {A : Nat → Prop} {H0 H : Heap} {locs : List Loc} {pr : List va_W} {cs : Nat → ClassId} {p h : Nat} {pq ps tq rq : Nat → Option Nat} {PV : Nat → Pvs} {g : Pvs} {TF RF : Nat → Nat → Int32} {TA : Nat → Nat → Nat → Int32}
theorem fm_repl {n : Nat} {T T' : Nat → va_W} {w : va_W} (hw : pw D A H0 H locs (pr ++ [fm n T, w])) (hp : p < n) (h1 : ∀ i, i ≠ p → T' i = T i) (h2 : T' p = w) : pw D A H0 H locs (pr ++ [fm n T']) := by
  have hw2 : pw D A H0 H locs ((pr ++ [fo n T p, w]) ++ [T p]) := pw_perm hw (by
    rw [pp_two, pp_two, pp_two, List.append_assoc]
    refine List.Perm.append_left _ ?_
    have q := (fm_perm n T p hp).append_right w
    simp only [List.flatten_cons, List.flatten_nil, List.append_nil]
    refine q.trans ?_
    rw [List.append_assoc, List.append_assoc]
    exact List.Perm.append_left _ List.perm_append_comm)
  exact fm_put (pw_left hw2) hp h1 h2
theorem fpp_repl (hw : pw D A H0 H locs (pr ++ [fm 8 (fPp cs pq PV), bPg cs h g])) (hp : p < 8) : pw D A H0 H locs (pr ++ [fm 8 (fPp cs (va_up pq p (some h)) (va_up PV p g))]) :=
  fm_repl hw hp (fun i hi => by unfold fPp; rw [va_up_n hi, va_up_n hi]) (by unfold fPp; rw [va_up_s, va_up_s]; rfl)
theorem fpp_nul (hw : pw D A H0 H locs (pr ++ [fm 8 (fPp cs pq PV)])) (hp : p < 8) : pw D A H0 H locs (pr ++ [fm 8 (fPp cs (va_up pq p none) PV)]) := by
  have hw2 : pw D A H0 H locs (pr ++ [fm 8 (fPp cs pq PV), []]) := pw_cat hw (by simp)
  exact fm_repl hw2 hp (fun i hi => by unfold fPp; rw [va_up_n hi]) (by unfold fPp; rw [va_up_s])
theorem KnR.prog (k : KnR pq PV ps tq rq TF TA RF) (o : PvO g) : KnR (va_up pq p (some h)) (va_up PV p g) ps tq rq TF TA RF := ⟨fun j hj q e => by
  by_cases z : j = p
  · subst z; rw [va_up_s]; exact o
  · rw [va_up_n z] at e ⊢; exact k.1 j hj q e, k.2⟩
theorem KnR.progN (k : KnR pq PV ps tq rq TF TA RF) : KnR (va_up pq p none) PV ps tq rq TF TA RF := ⟨fun j hj q e => by
  by_cases z : j = p
  · subst z; rw [va_up_s] at e; cases e
  · rw [va_up_n z] at e; exact k.1 j hj q e, k.2⟩
end PGR
