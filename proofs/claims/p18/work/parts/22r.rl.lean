theorem sw_memD : ∀ (ps : List (Int × Int)) (d v : Int), ((∀ q ∈ ps, ¬ q.1 = v) ∧ Op.lookupswitch.offset ps d v = d) ∨ ∃ q ∈ ps, q.1 = v ∧ Op.lookupswitch.offset ps d v = q.2
  | [], d, v => Or.inl ⟨fun _ h => absurd h List.not_mem_nil, rfl⟩
  | (a, o) :: r, d, v => by
    rw [Op.lookupswitch.offset_cons]
    by_cases h : a = v
    · rw [if_pos h]
      exact Or.inr ⟨(a, o), List.mem_cons_self, h, rfl⟩
    · rw [if_neg h]
      rcases sw_memD r d v with ⟨h0, h1⟩ | ⟨q, h1, h2, h3⟩
      · refine Or.inl ⟨fun q hq => ?_, h1⟩
        rcases List.mem_cons.mp hq with e | e
        · rw [e]; exact h
        · exact h0 q e
      · exact Or.inr ⟨q, List.mem_cons_of_mem _ h1, h2, h3⟩
section SWD
variable {p : Program} {l : Launch} {e : Env} {R : Room} {s : State} {m : MethodId} {args : Array Value} {below : List Frame} {meth : Method} {c : Code} {H : Heap} {locs : List Loc} {cells slots : Nat} {Q : State → Prop}
variable {cc : ByteArray} {pc nL : Nat} {ls : Array Slot} {rest : List Value} {own : String}
theorem px_lookD (S : px_S p m c cc nL s args own) {dflt : Int} {ps : Array (Int × Int)} {len dt : Nat} {x : Int32} (ks : List Int) (tgts : List (Nat × List Int)) (hdg : decode cc pc = .ok (.lookupswitch dflt ps, len)) (hp : (ps.toList.zip (ps.toList.drop 1)).all (fun (a, next) => a.1 < next.1) = true) (hd : (pc : Int) + dflt = (dt : Int)) (hall : ps.toList.all (fun q => tgts.any (fun t => decide ((pc : Int) + q.2 = (t.1 : Int)) && t.2.contains q.1)) = true) (hks : ks.all (fun k => ps.toList.any (fun q => decide (q.1 = k))) = true)
    (kd : (∀ k ∈ ks, ¬ x.toInt = k) → W p l e R s m args below meth c H locs cells slots Q (F0 m dt ls rest)) (kk : ∀ t ∈ tgts, x.toInt ∈ t.2 → W p l e R s m args below meth c H locs cells slots Q (F0 m t.1 ls rest)) : W p l e R s m args below meth c H locs cells slots Q (F0 m pc ls (.int x :: rest)) := by
  rcases sw_memD ps.toList dflt x.toInt with ⟨h0, h⟩ | ⟨q, h1, h2, h3⟩
  · refine lv_lookup S.x S.b hdg hp h hd (kd (fun k hk hx => ?_))
    obtain ⟨q, hq, he⟩ := List.any_eq_true.mp (List.all_eq_true.mp hks k hk)
    exact h0 q hq ((of_decide_eq_true he).trans hx.symm)
  · have h4 := List.all_eq_true.mp hall q h1
    obtain ⟨t, ht, he⟩ := List.any_eq_true.mp h4
    simp only [Bool.and_eq_true, decide_eq_true_eq] at he
    exact lv_lookup S.x S.b hdg hp h3 he.1 (kk t ht (by rw [← h2]; exact List.contains_iff_mem.mp he.2))
theorem px_tabD (S : px_S p m c cc nL s args own) {dflt lo hi : Int} {offs : Array Int} {len dt : Nat} {x : Int32} (tgts : List (Nat × List Int)) (hdg : decode cc pc = .ok (.tableswitch dflt lo hi offs, len)) (hsz : (hi - lo + 1).toNat = offs.size) (hd : (pc : Int) + dflt = (dt : Int)) (hall : (List.range offs.size).all (fun i => tgts.any (fun t => decide ((pc : Int) + offs.toList.getD i 0 = (t.1 : Int)) && t.2.contains (lo + (i : Int)))) = true)
    (kd : (x.toInt < lo ∨ hi < x.toInt) → W p l e R s m args below meth c H locs cells slots Q (F0 m dt ls rest)) (kk : ∀ t ∈ tgts, x.toInt ∈ t.2 → W p l e R s m args below meth c H locs cells slots Q (F0 m t.1 ls rest)) : W p l e R s m args below meth c H locs cells slots Q (F0 m pc ls (.int x :: rest)) := by
  by_cases h : x.toInt < lo ∨ hi < x.toInt
  · exact lv_tableOut S.x S.b hdg h hd (kd h)
  · have h2 : ¬ x.toInt < lo := fun q => h (Or.inl q)
    have h3 : ¬ hi < x.toInt := fun q => h (Or.inr q)
    have hlt : (x.toInt - lo).toNat < offs.size := by omega
    have h4 := List.all_eq_true.mp hall _ (List.mem_range.mpr hlt)
    obtain ⟨t, ht, he⟩ := List.any_eq_true.mp h4
    simp only [Bool.and_eq_true, decide_eq_true_eq] at he
    have e1 : offs.toList.getD (x.toInt - lo).toNat 0 = offs[(x.toInt - lo).toNat] := by
      rw [List.getD_eq_getElem?_getD, List.getElem?_eq_getElem (by simpa using hlt)]
      simp
    have e2 : lo + (((x.toInt - lo).toNat : Nat) : Int) = x.toInt := by omega
    rw [e1, e2] at he
    exact lv_tableIn S.x S.b hdg h2 h3 (Array.getElem?_eq_getElem hlt) he.1 (kk t ht (List.contains_iff_mem.mp he.2))
end SWD
