/-! more rows: values that may be null; arrays of references; masks -/
theorem rf_cat (o : Option Nat) : (va_rf o).category = 1 := by cases o <;> rfl
theorem rf_narO (C : String) (o : Option Nat) : narrow (.object C) (va_rf o) = va_rf o := by cases o <;> rfl
theorem rf_fitO (C : String) (o : Option Nat) : fits (.object C) (va_rf o) = true := by cases o <;> rfl
section LQ
variable {p : Program} {l : Launch} {e : Env} {R : Room} {s : State} {m : MethodId} {args : Array Value} {below : List Frame} {meth : Method} {c : Code} {H : Heap} {locs : List Loc} {cells slots : Nat} {Q : State → Prop}
variable {cc : ByteArray} {pc nL : Nat} {ls : Array Slot} {rest : List Value} {D : va_G} {A : Nat → Prop} {a : Nat} {cs : Nat → ClassId} {ps ps' : List va_W} {w w' : va_W} {H0 : Heap} {own : String}
theorem lq_aload_n (hexec : p.tables.exec = Jvm.exec) (hb : c.code = cc) {k : Fin 4} {i : Nat} {x : Option Nat} (hdg : decode cc pc = .ok (.aload_n k, 1)) (hi : (k : Nat) = i) (hl : ls[i]? = some (.val (va_rf x))) (kk : W p l e R s m args below meth c H locs cells slots Q (F0 m (pc + 1) ls (va_rf x :: rest))) : W p l e R s m args below meth c H locs cells slots Q (F0 m pc ls rest) := by
  cases x with
  | none => exact lv_aload_nN hexec hb hdg hi hl kk
  | some q => exact lv_aload_n hexec hb hdg hi hl kk
theorem lq_astore_n (hexec : p.tables.exec = Jvm.exec) (hb : c.code = cc) {k : Fin 4} {i nL : Nat} {x : Option Nat} {lv lv' : List (Nat × Value)} (hdg : decode cc pc = .ok (.astore_n k, 1)) (hi : (k : Nat) = i) (h : lv_has ls nL lv) (hn : i < nL) (hl : (i, va_rf x) :: lv.filter (fun q => !(q.1 == i) && !(q.1 + 1 == i && q.2.category == 2)) = lv') (kk : ∀ ls' : Array Slot, lv_has ls' nL lv' → W p l e R s m args below meth c H locs cells slots Q (F0 m (pc + 1) ls' rest)) : W p l e R s m args below meth c H locs cells slots Q (F0 m pc ls (va_rf x :: rest)) := by
  cases x with
  | none => exact lv_astore_nN hexec hb hdg hi h hn hl kk
  | some q => exact lv_astore_n hexec hb hdg hi h hn hl kk
theorem lq_ifnull (hexec : p.tables.exec = Jvm.exec) (hb : c.code = cc) {x : Option Nat} {off : Int} {tgt : Nat} (hdg : decode cc pc = .ok (.ifnull off, 3)) (ht : (pc : Int) + off = (tgt : Int)) (kt : x = none → W p l e R s m args below meth c H locs cells slots Q (F0 m tgt ls rest)) (kf : ∀ q, x = some q → W p l e R s m args below meth c H locs cells slots Q (F0 m (pc + 3) ls rest)) : W p l e R s m args below meth c H locs cells slots Q (F0 m pc ls (va_rf x :: rest)) := by
  cases x with
  | none => exact lv_ifnullN hexec hb hdg ht (kt rfl)
  | some q => exact lv_ifnull hexec hb hdg (kf q rfl)
theorem lq_ifnonnull (hexec : p.tables.exec = Jvm.exec) (hb : c.code = cc) {x : Option Nat} {off : Int} {tgt : Nat} (hdg : decode cc pc = .ok (.ifnonnull off, 3)) (ht : (pc : Int) + off = (tgt : Int)) (kt : ∀ q, x = some q → W p l e R s m args below meth c H locs cells slots Q (F0 m tgt ls rest)) (kf : x = none → W p l e R s m args below meth c H locs cells slots Q (F0 m (pc + 3) ls rest)) : W p l e R s m args below meth c H locs cells slots Q (F0 m pc ls (va_rf x :: rest)) := by
  cases x with
  | none => exact lv_ifnonnullN hexec hb hdg (kf rfl)
  | some q => exact lv_ifnonnull hexec hb hdg ht (kt q rfl)
theorem px_aald (S : px_S p m c cc nL s args own) (hT : Tb D cs s) (hw : pw D A H0 H locs ps) (i j t0 : Nat) {cA : ClassId} {C : String} {n : Nat} {f : Nat → Option Nat} (hi : ps[i]? = some w) (he : w[j]? = some (a, .inl (cA, n, .inr (.inr (.inr (.inr f)))))) (ht : (tyL cs)[t0]? = some (cA, .object C)) {x : Int32} (hin : vp_in x n) (hdg : decode cc pc = .ok (.aaload, 1))
    (kk : W p l e R s m args below meth c H locs cells slots Q (F0 m (pc + 1) ls (va_rf (f x.toNatClampNeg) :: rest))) : W p l e R s m args below meth c H locs cells slots Q (F0 m pc ls (.int x :: .ref a :: rest)) := va_aldq S.x S.b hT.1 hw.1 (pp_off ps i + j) t0 (pp_get he ps i hi) ht hin hdg kk
theorem px_aastN (S : px_S p m c cc nL s args own) (hT : Tb D cs s) (hw : pw D A H0 H locs ps) (i j t0 : Nat) {cA : ClassId} {C : String} {n : Nat} {f : Nat → Option Nat} (hi : ps[i]? = some w) (he : w[j]? = some (a, .inl (cA, n, .inr (.inr (.inr (.inr f)))))) (ht : (tyL cs)[t0]? = some (cA, .object C)) {x : Int32} (hin : vp_in x n) (hdg : decode cc pc = .ok (.aastore, 1)) (hww : w.set j (a, .inl (cA, n, .inr (.inr (.inr (.inr (va_up f x.toNatClampNeg none)))))) = w') (hps : ps.set i w' = ps')
    (kk : ∀ (H1 : Heap) (locs1 : List Loc), pw D A H0 H1 locs1 ps' → W p l e R s m args below meth c H1 locs1 cells slots Q (F0 m (pc + 1) ls rest)) : W p l e R s m args below meth c H locs cells slots Q (F0 m pc ls (.null :: .int x :: .ref a :: rest)) := by
  have hj : j < w.length := (List.getElem?_eq_some_iff.mp he).1
  refine va_astqN S.x S.b hT.1 hw.1 hw.2.1 hw.2.2 (pp_off ps i + j) t0 (pp_get he ps i hi) ht hin hdg (fun H1 locs1 h1 h2 h3 => kk H1 locs1 ⟨?_, ?_, h3⟩)
  · rw [← hps, ← hww, ← pp_set hj ps i hi]; exact h1
  · rw [← hps, ← hww, ← pp_set hj ps i hi]; exact h2
theorem px_aast (S : px_S p m c cc nL s args own) (hT : Tb D cs s) (hw : pw D A H0 H locs ps) (i j t0 i2 j2 : Nat) {w2 : va_W} {ci : Nat} {r : vw_C} {vs : List Value} {v : Nat} {cA : ClassId} {n : Nat} {f : Nat → Option Nat} (hi : ps[i]? = some w) (he : w[j]? = some (a, .inl (cA, n, .inr (.inr (.inr (.inr f)))))) (ht : (tyL cs)[t0]? = some (cA, .object r.1)) (hi2 : ps[i2]? = some w2) (he2 : w2[j2]? = some (v, .inr (ci, vs))) (hc : classes[ci]? = some r) {x : Int32} (hin : vp_in x n) (hdg : decode cc pc = .ok (.aastore, 1)) (hww : w.set j (a, .inl (cA, n, .inr (.inr (.inr (.inr (va_up f x.toNatClampNeg (some v))))))) = w') (hps : ps.set i w' = ps')
    (kk : ∀ (H1 : Heap) (locs1 : List Loc), pw D A H0 H1 locs1 ps' → W p l e R s m args below meth c H1 locs1 cells slots Q (F0 m (pc + 1) ls rest)) : W p l e R s m args below meth c H locs cells slots Q (F0 m pc ls (.ref v :: .int x :: .ref a :: rest)) := by
  have hj : j < w.length := (List.getElem?_eq_some_iff.mp he).1
  refine va_astq S.x S.b hT.1 hw.1 hw.2.1 hw.2.2 (pp_off ps i + j) t0 (pp_off ps i2 + j2) ci (pp_get he ps i hi) ht (pp_get he2 ps i2 hi2) hc hin hdg (fun H1 locs1 h1 h2 h3 => kk H1 locs1 ⟨?_, ?_, h3⟩)
  · rw [← hps, ← hww, ← pp_set hj ps i hi]; exact h1
  · rw [← hps, ← hww, ← pp_set hj ps i hi]; exact h2
end LQ
theorem i_andm (x : Int32) {m : Int32} (k : Nat) (hm : m.toBitVec.toNat = 2 ^ k - 1) (hk : k ≤ 30) : 0 ≤ (x &&& m).toInt ∧ (x &&& m).toInt < 2 ^ k := by
  obtain ⟨j, hj, e⟩ := pk_andE x k hm
  have h2 : (2 : Nat) ^ k ≤ 2 ^ 30 := Nat.pow_le_pow_right (by omega) hk
  rw [e, nI_toInt (by omega)]
  refine ⟨by omega, ?_⟩
  exact_mod_cast hj
/-- the tokens' numbers: each in its range -/
def TokOk (x7 x8 x10 x11 x12 x13 x17 : Int32) (n4 : Nat → Int32) : Prop := (0 ≤ x7.toInt ∧ x7.toInt ≤ 2048) ∧ (0 ≤ x8.toInt ∧ x8.toInt ≤ x7.toInt + 8) ∧ (0 ≤ x10.toInt ∧ x10.toInt ≤ 2049) ∧ (26 ≤ x11.toInt ∧ x11.toInt ≤ 2074) ∧ (0 ≤ x12.toInt ∧ x12.toInt ≤ 2048) ∧ (0 ≤ x13.toInt ∧ x13.toInt ≤ 2048) ∧ 0 ≤ x17.toInt ∧ ∀ j : Nat, 0 ≤ (n4 j).toInt ∧ (n4 j).toInt ≤ 1000 + 24 * (j : Int)
