/-! NODES of the reference as trees. Rep e false n: node n is e, made of nodes of [lo, hi); what hangs behind it (nexts) and its operator (kidD) are not part of it. Rep e true n b: node n is the chain e, whose last operand is b: neither its depth nor its last operand's field need tell that yet. -/
def NdI (na : Nat → Nat → Int32) (i : Nat) (s t : Int) : Prop := (na 14 i).toInt = s ∧ (na 15 i).toInt = t
/-- no row of arguments -/
def isEx (e : Ast) : Bool := match e with
  | .add _ _ => false
  | .null => false
  | _ => true
/-- a row of arguments -/
def isRw (e : Ast) : Bool := match e with
  | .add _ _ => true
  | .null => true
  | _ => false
def Rep (k : Nat → Int) (c : Nat) (na ma : Nat → Nat → Int32) : Ast → Bool → Int → Int → Nat → Nat → Prop
  | .arg t, false, n, _, lo, hi => ∃ i : Nat, n = (i : Int) ∧ (lo ≤ i ∧ i < hi) ∧ NdI na i 1 (t : Int) ∧ (na 23 i).toInt = 1 ∧ (t < c ∧ k t = 17)
  | .index t, false, n, _, lo, hi => ∃ i : Nat, n = (i : Int) ∧ (lo ≤ i ∧ i < hi) ∧ NdI na i 2 (t : Int) ∧ (na 23 i).toInt = 1 ∧ (t < c ∧ k t = 16)
  | .elem (.arg t) as, false, n, _, lo, hi => ∃ i : Nat, n = (i : Int) ∧ (lo ≤ i ∧ i < hi) ∧ NdI na i 3 (t : Int) ∧ (na 23 i).toInt = dpT k (.elem (.arg t) as) ∧ (t < c ∧ k t = 16 ∧ isRw as = true) ∧ Rep k c na ma as false (na 17 i).toInt 0 (i + 1) hi
  | .null, false, n, _, _, _ => n < 0
  | .add e r, false, n, _, lo, hi => ∃ i mid : Nat, n = (i : Int) ∧ (lo ≤ i ∧ i < mid ∧ mid ≤ hi) ∧ (isEx e = true ∧ isRw r = true) ∧ Rep k c na ma e false n 0 lo mid ∧ Rep k c na ma r false (na 21 i).toInt 0 mid hi
  | .sub (.arg t) e, false, n, _, lo, hi => ∃ i : Nat, n = (i : Int) ∧ (lo ≤ i ∧ i < hi) ∧ NdI na i 4 (t : Int) ∧ (na 23 i).toInt = dpT k (.sub (.arg t) e) ∧ (t < c ∧ k t = 16 ∧ isEx e = true) ∧ Rep k c na ma e false (na 17 i).toInt 0 (i + 1) hi
  | .mul (.arg t) e, false, n, _, lo, hi => ∃ i j : Nat, n = (i : Int) ∧ (lo ≤ i ∧ i < hi) ∧ NdI na i 5 (t : Int) ∧ (na 23 i).toInt = dpT k (.mul (.arg t) e) ∧ (t < c ∧ isPre (k t) ∧ isEx e = true) ∧ ((na 17 i).toInt = (j : Int) ∧ lo ≤ j ∧ j < i ∧ (na 21 j).toInt = -1 ∧ (ma 20 j).toInt = -1) ∧ Rep k c na ma e false (j : Int) 0 lo i
  | .div (.arg t) e, false, n, _, lo, hi => ∃ i : Nat, n = (i : Int) ∧ (lo ≤ i ∧ i < hi) ∧ NdI na i 6 (t : Int) ∧ (na 23 i).toInt = dpT k (.div (.arg t) e) ∧ (t < c ∧ (k t = 138 ∨ k t = 139) ∧ isEx e = true) ∧ Rep k c na ma e false (na 17 i).toInt 0 lo i
  | .old (.elem x (.elem y z)), false, n, _, lo, hi => ∃ i m1 m2 : Nat, n = (i : Int) ∧ (lo ≤ m1 ∧ m1 ≤ m2 ∧ m2 ≤ i ∧ i < hi) ∧ (na 14 i).toInt = 8 ∧ (na 23 i).toInt = dpT k (.old (.elem x (.elem y z))) ∧ (isEx x = true ∧ isEx y = true ∧ isEx z = true) ∧ Rep k c na ma x false (na 17 i).toInt 0 lo m1 ∧ Rep k c na ma y false (ma 18 i).toInt 0 m1 m2 ∧ Rep k c na ma z false (ma 19 i).toInt 0 m2 i
  | .length (.elem (.arg t) (.elem x y)), false, n, _, lo, hi => ∃ i m1 : Nat, n = (i : Int) ∧ (lo ≤ m1 ∧ m1 ≤ i ∧ i < hi) ∧ NdI na i 9 (t : Int) ∧ (na 23 i).toInt = dpT k (.length (.elem (.arg t) (.elem x y))) ∧ (t < c ∧ 256 ≤ k t ∧ isEx x = true ∧ isEx y = true) ∧ Rep k c na ma x false (na 17 i).toInt 0 lo m1 ∧ Rep k c na ma y false (ma 18 i).toInt 0 m1 i
  | .rem (.arg t) (.elem x y), md, n, b, lo, hi => ∃ i j mid l2 h2 : Nat, n = (i : Int) ∧ (md = true → b = (j : Int)) ∧ (md = false → (ma 18 i).toInt = (j : Int) ∧ (na 23 i).toInt = dpT k (.rem (.arg t) (.elem x y)) ∧ (na 21 j).toInt = -1) ∧ (lo ≤ i ∧ i < hi) ∧ (lo ≤ mid ∧ mid ≤ l2 ∧ l2 ≤ h2 ∧ h2 ≤ hi) ∧ (i < l2 ∨ h2 ≤ i) ∧ (l2 ≤ j ∧ j < h2) ∧ (isEx x = true ∧ isEx y = true ∧ t < c ∧ 0 < rkO (k t)) ∧ (na 14 i).toInt = 7 ∧ (ma 22 i).toInt = rkO (k t) ∧ (ma 20 j).toInt = (t : Int) ∧ Rep k c na ma y false (j : Int) 0 l2 h2 ∧ ((rkT k x = rkO (k t) ∧ i < mid ∧ ∃ p : Nat, (lo ≤ p ∧ p < mid ∧ ¬ p = i) ∧ Rep k c na ma x true n (p : Int) lo mid ∧ (na 21 p).toInt = (j : Int)) ∨ (¬ rkT k x = rkO (k t) ∧ mid ≤ i ∧ ∃ a : Nat, (lo ≤ a ∧ a < mid) ∧ (na 17 i).toInt = (a : Int) ∧ Rep k c na ma x false (a : Int) 0 lo mid ∧ (na 21 a).toInt = (j : Int)))
  | .mul (.arg s) e, true, n, b, lo, hi => (k s = 43 ∧ s < c) ∧ Rep k c na ma e true n b lo hi
  | _, _, _, _, _, _ => False
/-- fields that stay: of all nodes, but what hangs behind r and its operator -/
def AgF (na ma na' ma' : Nat → Nat → Int32) (lo hi : Nat) (r : Int) : Prop := ∀ i : Nat, lo ≤ i → i < hi → na' 14 i = na 14 i ∧ na' 15 i = na 15 i ∧ na' 17 i = na 17 i ∧ ma' 18 i = ma 18 i ∧ ma' 19 i = ma 19 i ∧ ma' 22 i = ma 22 i ∧ na' 23 i = na 23 i ∧ (¬ (i : Int) = r → na' 21 i = na 21 i ∧ ma' 20 i = ma 20 i)
/-- of a chain n whose last operand is b: also its depth and its last operand's field may change, and what hangs behind b -/
def AgT (na ma na' ma' : Nat → Nat → Int32) (lo hi : Nat) (n b : Int) : Prop := ∀ i : Nat, lo ≤ i → i < hi → na' 14 i = na 14 i ∧ na' 15 i = na 15 i ∧ na' 17 i = na 17 i ∧ ma' 19 i = ma 19 i ∧ ma' 22 i = ma 22 i ∧ (¬ (i : Int) = n → ma' 18 i = ma 18 i ∧ na' 23 i = na 23 i ∧ ma' 20 i = ma 20 i ∧ (¬ (i : Int) = b → na' 21 i = na 21 i))
theorem AgF.le {na ma na' ma' : Nat → Nat → Int32} {lo hi lo' hi' : Nat} {r : Int} (h : AgF na ma na' ma' lo hi r) (h1 : lo ≤ lo') (h2 : hi' ≤ hi) : AgF na ma na' ma' lo' hi' r := fun i a b => h i (by omega) (by omega)
theorem AgF.ot {na ma na' ma' : Nat → Nat → Int32} {lo hi : Nat} {r r' : Int} (h : AgF na ma na' ma' lo hi r) (h1 : r < (lo : Int) ∨ (hi : Int) ≤ r) : AgF na ma na' ma' lo hi r' := fun i a b => by
  obtain ⟨g1, g2, g3, g4, g5, g6, g7, g8⟩ := h i a b
  exact ⟨g1, g2, g3, g4, g5, g6, g7, fun _ => g8 (by omega)⟩
