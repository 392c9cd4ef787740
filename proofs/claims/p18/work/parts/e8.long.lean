/-! LONGS: their numbers -/
theorem l_i2l (x : Int32) : x.toInt64.toInt = x.toInt := Int32.toInt_toInt64 x
theorem l_sub {x y : Int64} (h1 : -9223372036854775808 ≤ x.toInt - y.toInt) (h2 : x.toInt - y.toInt < 9223372036854775808) : (x - y).toInt = x.toInt - y.toInt := by
  rw [Int64.toInt_sub, Int.bmod_eq_of_le] <;> omega
theorem l_add {x y : Int64} (h1 : -9223372036854775808 ≤ x.toInt + y.toInt) (h2 : x.toInt + y.toInt < 9223372036854775808) : (x + y).toInt = x.toInt + y.toInt := by
  rw [Int64.toInt_add, Int.bmod_eq_of_le] <;> omega
theorem l_mul {x y : Int64} (h1 : -9223372036854775808 ≤ x.toInt * y.toInt) (h2 : x.toInt * y.toInt < 9223372036854775808) : (x * y).toInt = x.toInt * y.toInt := by
  rw [Int64.toInt_mul, Int.bmod_eq_of_le] <;> omega
theorem l_div {x y : Int64} (h1 : 0 ≤ x.toInt) (h2 : 0 < y.toInt) : (x / y).toInt = x.toInt / y.toInt := by
  have a := Int64.toInt_lt x
  have b : x.toInt / y.toInt ≤ x.toInt := Int.ediv_le_self _ h1
  have c : 0 ≤ x.toInt / y.toInt := Int.ediv_nonneg h1 (by omega)
  rw [Int64.toInt_div, Int.tdiv_eq_ediv_of_nonneg h1, Int.bmod_eq_of_le] <;> omega
theorem l_cmp {x y : Int64} {z : Int32} (e : z = (if x > y then 1 else if x = y then 0 else -1)) : (z.toInt < 0 ↔ x.toInt < y.toInt) ∧ (z.toInt = 0 ↔ x.toInt = y.toInt) := by
  have c1 : (1 : Int32).toInt = 1 := rfl
  have c0 : (0 : Int32).toInt = 0 := rfl
  have cm : (-1 : Int32).toInt = -1 := rfl
  simp only [gt_iff_lt, Int64.lt_iff_toInt_lt, ← Int64.toInt_inj] at e
  split at e
  · rw [e]; omega
  · split at e
    · rw [e]; omega
    · rw [e]; omega
theorem l_l2i {x : Int64} (h1 : -2147483648 ≤ x.toInt) (h2 : x.toInt < 2147483648) : x.toInt32.toInt = x.toInt := by
  rw [Int64.toInt_toInt32, Int.bmod_eq_of_le] <;> omega
theorem i_dv4 {x : Int32} (h : 0 ≤ x.toInt) : (x / 4).toInt = x.toInt / 4 := by
  have a := Int32.toInt_lt x
  have c4 : (4 : Int32).toInt = 4 := rfl
  rw [Int32.toInt_div, c4, Int.tdiv_eq_ediv_of_nonneg h, Int.bmod_eq_of_le] <;> omega
theorem l_and {x m : Int64} (k : Nat) (hm : m.toBitVec.toNat = 2 ^ k - 1) (hk : k ≤ 62) : (x &&& m).toInt = (x.toBitVec.toNat % 2 ^ k : Nat) := by
  have h2 : (2 : Nat) ^ k ≤ 2 ^ 62 := Nat.pow_le_pow_right (by omega) hk
  have e : (x &&& m).toBitVec.toNat = x.toBitVec.toNat % 2 ^ k := by
    show (x.toBitVec &&& m.toBitVec).toNat = _
    rw [BitVec.toNat_and, hm, Nat.and_two_pow_sub_one_eq_mod]
  have lt : x.toBitVec.toNat % 2 ^ k < 2 ^ k := Nat.mod_lt _ (Nat.two_pow_pos k)
  show (x &&& m).toBitVec.toInt = _
  rw [BitVec.toInt_eq_toNat_of_lt (by rw [e]; omega), e]
/-- a word, plain -/
theorem l_plain (x : Int32) : (x.toInt64 &&& 4294967295).toInt = x.toInt % 4294967296 := by
  rw [l_and 32 rfl (by decide)]
  have a := Int32.toInt_lt x
  have b := Int32.le_toInt x
  have h : x.toInt64.toBitVec.toInt = x.toInt := l_i2l x
  have t := BitVec.toInt_eq_toNat_cond x.toInt64.toBitVec
  have l := x.toInt64.toBitVec.isLt
  split at t <;> omega
/-- five bits -/
theorem l_five {x m : Int64} {z : Int32} (em : m = 31) (e : z = (x &&& m).toInt32) : 0 ≤ z.toInt ∧ z.toInt < 32 := by
  have h := l_and (x := x) (m := 31) 5 rfl (by decide)
  have lt : x.toBitVec.toNat % 2 ^ 5 < 2 ^ 5 := Nat.mod_lt _ (by decide)
  subst em
  rw [e, l_l2i (by omega) (by omega), h]; omega
theorem l_shl5 {p : Int32} (h : p.toInt = 5) : (1 : Int64) <<< (p.toInt64 &&& 63) - 1 = 31 := by
  have e : p = 5 := Int32.toInt_inj.mp h
  subst e; decide
theorem l_ne {y : Int64} (h : ¬ y.toInt = 0) : ¬ y = 0 := fun e => h (by rw [e]; rfl)
/-! METHODS that answer a long -/
def MetL (l : Launch) (y : MethodName) (b : ByteArray) (n : Nat) (ret : FieldType) (D : va_G) (cs : Nat → ClassId) (fr lo mc ms : Nat) (av : List Value) (ps : List va_W) (X : State → Prop) (post : Int64 → List va_W → Prop) : Prop := ∀ sz : Nat, Met l y (pc_ws y b n (some ret)) { frames := fr, cells := mc, slots := ms, locals := lo } (pc_Pre D cs av sz ps X) (va_Ql post (pc_B D (va_A ps.flatten sz)) (va_A ps.flatten sz)) mc ms (va_A ps.flatten sz)
section PXL
variable {p : Program} {l : Launch} {e : Env} {R : Room} {s : State} {m : MethodId} {args : Array Value} {below : List Frame} {meth : Method} {c : Code} {H H0 : Heap} {locs : List Loc} {cells slots : Nat} {Q : State → Prop}
variable {cc : ByteArray} {nL : Nat} {own : String} {pc : Nat} {ls : Array Slot} {rest st0 : List Value} {A : Nat → Prop} {D : va_G} {ps pr pcs : List va_W} {mc ms : Nat} {aa : Array Value}
theorem px_lret {post : Int64 → List va_W → Prop} {ps0 : List va_W} {s0 : Nat} {v : Int64} (S : px_S p m c cc nL s args own) (hr : meth.sig.returnType = some .long) (hlocks : meth.locks = false) (hAe : A = va_A ps0.flatten s0) (hw : pw D A s.heap H locs ps) (hc : cells ≤ mc) (hs : slots ≤ ms) (hp : post v ps) (hdg : decode cc pc = .ok (.lreturn, 1)) :
    W p l e R s m args below meth c H locs cells slots (MQ below (va_Ql post (pc_B D (va_A ps0.flatten s0)) (va_A ps0.flatten s0)) args s mc ms A) (F0 m pc ls [.long v]) := by
  subst hAe
  refine W.widen (k := mc) (n := ms) hc hs ?_
  exact W.lret S.x S.b hr (fun t ht hW => ⟨⟨v, ps, rfl, hp, by show va_P _ _ _ _ ∧ _; rw [ht]; exact ⟨hw.1, hw.2.1⟩⟩, hw.2.2.F ht⟩) hw.2.2.2.2 hdg hlocks
theorem px_calll {post : Int64 → List va_W → Prop} (hr : va_Run p l e R s m args below meth c H locs cells slots mc ms (F0 m pc ls st0) rest (va_Ql post (pc_B D (va_A pcs.flatten H.size)) (va_A pcs.flatten H.size) aa) (va_A pcs.flatten H.size)) (hw : pw D A H0 H locs (pr ++ pcs)) (hA : ∀ q, H0.size ≤ q → A q)
    (kk : ∀ (r : Int64) (p1 : List va_W) (H1 : Heap) (locs1 : List Loc), post r p1 → pw D A H0 H1 locs1 (pr ++ p1) → W p l e R s m args below meth c H1 locs1 (cells + mc) (slots + ms) Q (F0 m (pc + 3) ls (.long r :: rest))) : W p l e R s m args below meth c H locs cells slots Q (F0 m pc ls st0) := by
  have hF := pp_free hw.2.1 hw.2.2 hA
  refine va_calll hr hw.2.2 (fun q _ h => hF q h) hF (fun r p1 t H1 locs1 ht hvm hp hB hz hk hS => ?_)
  have h1 : va_P D classes p1.flatten H1 := by rw [← ht]; exact hB.1
  have hj := pp_join hw.1 hw.2.1 hk hF h1 hB.2
  exact kk r p1 H1 locs1 hp ⟨hj.1, hj.2, hS⟩
end PXL
