/-! switches: each target is walked once -/
theorem sw_mem : ∀ (ps : List (Int × Int)) (d v : Int), Op.lookupswitch.offset ps d v ∈ d :: ps.map (fun q => q.2)
  | [], d, v => List.mem_cons_self
  | (a, o) :: r, d, v => by
    rw [Op.lookupswitch.offset_cons]
    by_cases h : a = v
    · rw [if_pos h]
      exact List.mem_cons_of_mem _ List.mem_cons_self
    · rw [if_neg h]
      rcases List.mem_cons.mp (sw_mem r d v) with h | h
      · rw [h]; exact List.mem_cons_self
      · exact List.mem_cons_of_mem _ (List.mem_cons_of_mem _ h)
section SW
variable {p : Program} {l : Launch} {e : Env} {R : Room} {s : State} {m : MethodId} {args : Array Value} {below : List Frame} {meth : Method} {c : Code} {H : Heap} {locs : List Loc} {cells slots : Nat} {Q : State → Prop}
variable {cc : ByteArray} {pc nL : Nat} {ls : Array Slot} {rest : List Value} {own : String}
theorem px_lookup (S : px_S p m c cc nL s args own) {dflt : Int} {ps : Array (Int × Int)} {len : Nat} {x : Int32} {tgts : List Nat} (hdg : decode cc pc = .ok (.lookupswitch dflt ps, len)) (hp : (ps.toList.zip (ps.toList.drop 1)).all (fun (a, next) => a.1 < next.1) = true) (hall : (dflt :: ps.toList.map (fun q => q.2)).all (fun o => tgts.any (fun t => decide ((pc : Int) + o = (t : Int)))) = true)
    (kk : ∀ t ∈ tgts, W p l e R s m args below meth c H locs cells slots Q (F0 m t ls rest)) : W p l e R s m args below meth c H locs cells slots Q (F0 m pc ls (.int x :: rest)) := by
  have h1 := List.all_eq_true.mp hall _ (sw_mem ps.toList dflt x.toInt)
  obtain ⟨t, ht, he⟩ := List.any_eq_true.mp h1
  exact lv_lookup S.x S.b hdg hp rfl (of_decide_eq_true he) (kk t ht)
theorem px_table (S : px_S p m c cc nL s args own) {dflt lo hi : Int} {offs : Array Int} {len : Nat} {x : Int32} {tgts : List Nat} (hdg : decode cc pc = .ok (.tableswitch dflt lo hi offs, len)) (hsz : (hi - lo + 1).toNat = offs.size) (hall : (dflt :: offs.toList).all (fun o => tgts.any (fun t => decide ((pc : Int) + o = (t : Int)))) = true)
    (kk : ∀ t ∈ tgts, W p l e R s m args below meth c H locs cells slots Q (F0 m t ls rest)) : W p l e R s m args below meth c H locs cells slots Q (F0 m pc ls (.int x :: rest)) := by
  by_cases h : x.toInt < lo ∨ hi < x.toInt
  · have h1 := List.all_eq_true.mp hall dflt List.mem_cons_self
    obtain ⟨t, ht, he⟩ := List.any_eq_true.mp h1
    exact lv_tableOut S.x S.b hdg h (of_decide_eq_true he) (kk t ht)
  · have h2 : ¬ x.toInt < lo := fun q => h (Or.inl q)
    have h3 : ¬ hi < x.toInt := fun q => h (Or.inr q)
    have hlt : (x.toInt - lo).toNat < offs.size := by omega
    have hm : offs[(x.toInt - lo).toNat] ∈ offs.toList := by simp
    have h1 := List.all_eq_true.mp hall _ (List.mem_cons_of_mem _ hm)
    obtain ⟨t, ht, he⟩ := List.any_eq_true.mp h1
    exact lv_tableIn S.x S.b hdg h2 h3 (Array.getElem?_eq_getElem hlt) (of_decide_eq_true he) (kk t ht)
end SW
def nA (cs : Nat → ClassId) (x : Option Nat) (n : Nat) (c : Nat → Int32) : va_W := match x with
  | none => []
  | some q => [(q, .inl (cs 0, n, .inl c))]
