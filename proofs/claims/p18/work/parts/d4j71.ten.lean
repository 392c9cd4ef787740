/-! the class: the ten functions that are given, before a text -/
section TO
variable {na : Nat → Nat → Int32} {P : va_W} {ff nf nf' ff' : Nat → Int32} {fg fg' : Nat → Option Nat}
/-- the ten stand in front -/
def TenF (na : Nat → Nat → Int32) (P : va_W) (ff : Nat → Int32) (fg : Nat → Option Nat) : Prop := 10 ≤ (ff 1).toInt ∧ FunE na P fg 14 GV ∧ ∀ i j : Nat, i < 10 → j < 10 → fg i = fg j → i = j
theorem fgt_18 : ∀ (d : Nat) (x : Int32) (m : Nat) (ff : Nat → Int32) (fg : Nat → Option Nat), E_nw_forget nf' ff' fg' m 18 [x] [] [] [] [] nf ff fg → x.toInt = 9 + (d : Int) → (ff 1).toInt = 10 + (d : Int) → d ≤ 2147483637 → nf' = nf ∧ (ff' 1).toInt = 10 ∧ ∀ i : Nat, i < 10 → fg' i = fg i := by
  intro d
  induction d with
  | zero =>
    intro x m ff fg h hx hf hd
    rcases iv_nw_forget_18 h with ⟨m2, (⟨h1, e0, e1, e2⟩ | ⟨h1, lf5, lg6, v8, h2, lf5, lg6, v8, h3, z12, h4, hE_1⟩)⟩
    · rw [e0, e1, e2]; exact ⟨rfl, by omega, fun i _ => rfl⟩
    · exfalso; omega
  | succ d ih =>
    intro x m ff fg h hx hf hd
    rcases iv_nw_forget_18 h with ⟨m2, (⟨h1, e0, e1, e2⟩ | ⟨h1, lf5, lg6, v8, h2, lf5, lg6, v8, h3, z12, h4, hE_1⟩)⟩
    · exfalso; omega
    · obtain ⟨z, z2, r1, r2, r3⟩ := rem_r h3
      have hz := ti_sub r1 hf (show (1 : Int32).toInt = 1 from rfl) (by omega) (by omega)
      have hx' : ∀ {y : Int32}, y = x + (-1) → y.toInt = 9 + (d : Int) := fun {y} e => by
        have := ti_add e hx (show ((-1 : Int32)).toInt = -1 from rfl) (by omega) (by omega)
        omega
      obtain ⟨g1, g2, g3⟩ := ih _ m2 _ _ hE_1 (hx' h4) (by rw [r2, pk_un (by decide), pk_us, hz]; omega) (by omega)
      have hzn : z.toNatClampNeg = 10 + d := cn_of (by omega)
      exact ⟨g1, g2, fun i hi => by rw [g3 i hi, r3, va_up_n (by omega)]⟩
/-- forget leaves the ten -/
theorem fgt_ok (hT : TenF na P ff fg) (h : R_nw_forget nf ff fg nf' ff' fg') : FunX na P ff' fg' 14 GV ∧ (nf' 3).toInt = 14 := by
  obtain ⟨t1, t3, t4⟩ := hT
  have t2 := Int32.toInt_lt (ff 1)
  obtain ⟨m, h⟩ := h
  obtain ⟨m2, v14, h1, z17, h2, hE_1⟩ := iv_nw_forget_0 h
  rcases h1 with q | q
  · obtain ⟨d, hd⟩ : ∃ d : Nat, (ff 1).toInt = 10 + (d : Int) := ⟨((ff 1).toInt - 10).toNat, by omega⟩
    have hz := ti_sub h2 (by rw [q]) (show (1 : Int32).toInt = 1 from rfl) (by omega) (by omega)
    obtain ⟨g1, g2, g3⟩ := fgt_18 d _ m2 _ _ hE_1 (by omega) hd (by omega)
    have lg : GV.length = 10 := rfl
    refine ⟨⟨by rw [g2, lg]; rfl, by rw [lg]; omega, by omega, fun i e he => ?_, fun i j hi hj e => ?_⟩, by rw [g1, pk_us]; rfl⟩
    · obtain ⟨q, s, b, ⟨a1, a2⟩, a3⟩ := t3 i e he
      have hi := (List.getElem?_eq_some_iff.mp he).1
      exact ⟨q, s, b, ⟨by rw [g3 i (by omega)]; exact a1, a2⟩, a3⟩
    · rw [lg] at hi hj
      rw [g3 i hi, g3 j hj] at e
      exact t4 i j hi hj e
  · exact q.elim
end TO
