/-! THE REFERENCE's checker: notes stay; calls -/
def szA : Ast → Nat
  | .elem a b => szA a + szA b + 1
  | .add a b => szA a + szA b + 1
  | .sub a b => szA a + szA b + 1
  | .mul a b => szA a + szA b + 1
  | .div a b => szA a + szA b + 1
  | .rem a b => szA a + szA b + 1
  | .old a => szA a + 1
  | .length a => szA a + 1
  | _ => 1
theorem sz_e {a b : Ast} : szA (.elem a b) = szA a + szA b + 1 := by first | rfl | simp [szA]
theorem sz_a {a b : Ast} : szA (.add a b) = szA a + szA b + 1 := by first | rfl | simp [szA]
theorem sz_s {a b : Ast} : szA (.sub a b) = szA a + szA b + 1 := by first | rfl | simp [szA]
theorem sz_m {a b : Ast} : szA (.mul a b) = szA a + szA b + 1 := by first | rfl | simp [szA]
theorem sz_d {a b : Ast} : szA (.div a b) = szA a + szA b + 1 := by first | rfl | simp [szA]
theorem sz_r {a b : Ast} : szA (.rem a b) = szA a + szA b + 1 := by first | rfl | simp [szA]
theorem sz_o {a : Ast} : szA (.old a) = szA a + 1 := by first | rfl | simp [szA]
theorem sz_l {a : Ast} : szA (.length a) = szA a + 1 := by first | rfl | simp [szA]
theorem sz_p {e : Ast} : 1 ≤ szA e := by
  cases e <;> simp [szA]
theorem ops_sz {k : Nat → Int} (e : Ast) : ∀ oe ∈ opsT k e, szA oe.2 < szA e := by
  fun_induction opsT k e
  case case1 =>
    rename_i a e ih
    intro oe h
    have := ih oe h
    rw [sz_m]
    omega
  case case2 =>
    rename_i t x y ih
    intro oe h
    rw [sz_r, sz_e]
    rcases List.mem_append.mp h with h | h
    · split at h
      · have := ih oe h
        omega
      · rw [List.mem_singleton] at h
        rw [h]
        show szA x < _
        omega
    · rw [List.mem_singleton] at h
      rw [h]
      show szA y < _
      omega
  case case3 =>
    intro oe h
    exact absurd h (by simp)
section RY
variable {k : Nat → Int} {vl M : Nat → Int32} {c : Nat} {na ca ma ma' : Nat → Nat → Int32} {F : Int32 → Option Fnc}
theorem AllN.imp {P Q : Int → Prop} {n : Int} (h : AllN na P n) (g : ∀ m, P m → Q m) : AllN na Q n := by
  obtain ⟨l, h1, h2⟩ := h
  exact ⟨l, h1, fun i hi => g _ (h2 i hi)⟩
theorem opl_all {P Q : Int → Prop} : ∀ (r : List (Option Nat × Ast)) (n : Int) (lo hi : Nat), OpL k c na ma r n lo hi → (∀ oe ∈ r, ∀ (j l h : Nat), lo ≤ l → h ≤ hi → isEx oe.2 = true → Rep k c na ma oe.2 false (j : Int) 0 l h → P (j : Int) → Q (j : Int)) → AllN na P n → AllN na Q n := by
  intro r
  induction r with
  | nil => intro n lo hi h _ _; exact AllN.nil h.1
  | cons a r ih =>
    obtain ⟨o, e⟩ := a
    intro n lo hi h g hA
    obtain ⟨j, l, h', h1, h2, h3, h4, -, h6⟩ := h
    rcases hA.inv with q | ⟨i, q1, q2, q3⟩
    · exfalso; omega
    · have ei : i = j := by omega
      subst ei
      refine AllN.cons h1 ?_ (ih _ h' hi h6 (fun oe m j l h a b => g oe (List.mem_cons_of_mem _ m) j l h (by omega) b) q3)
      rw [h1] at q2 ⊢
      exact g (o, e) List.mem_cons_self i l h' h2.1 h2.2.2.2 h3 h4 q2
/-- notes stay where nothing is written -/
theorem nt_kp : ∀ (s : Nat) (e : Ast) (md : Bool) (n b : Int) (lo hi : Nat), szA e ≤ s → md = false → b = 0 → Rep k c na ma e md n b lo hi → (∀ f i : Nat, lo ≤ i → i < hi → ma' f i = ma f i) → (isEx e = true → ∀ d : Nat, NtN na ca vl M F ma d n → NtN na ca vl M F ma' d n) ∧ (isRw e = true → ∀ d : Nat, AllN na (NtN na ca vl M F ma d) n → AllN na (NtN na ca vl M F ma' d) n) := by
  intro s
  induction s with
  | zero =>
    intro e md n b lo hi h
    have := sz_p (e := e)
    exfalso; omega
  | succ s IH =>
    intro e md n b lo hi
    have leaf : ∀ {n : Int} {i : Nat} {q : Int}, (n = (i : Int)) → (na 14 i).toInt = q → (q = 1 ∨ q = 2) → ∀ d : Nat, NtN na ca vl M F ma d n → NtN na ca vl M F ma' d n := fun {n} {i} {q} h1 h2 h3 d h => by
      cases d with
      | zero => trivial
      | succ d => exact ⟨i, h1, fun w => by exfalso; omega, fun w => by exfalso; omega, fun w => by exfalso; omega, fun w => by exfalso; omega, fun w => by exfalso; omega⟩
    fun_induction Rep k c na ma e md n b lo hi
    all_goals intro hs hm hb hR hA
    case case1 =>
      obtain ⟨i, h1, h2, h3, h4⟩ := hR
      exact ⟨fun _ => leaf h1 h3.1 (Or.inl rfl), fun w => absurd w Bool.false_ne_true⟩
    case case2 =>
      obtain ⟨i, h1, h2, h3, h4⟩ := hR
      exact ⟨fun _ => leaf h1 h3.1 (Or.inr rfl), fun w => absurd w Bool.false_ne_true⟩
    case case3 =>
      rename_i t as n b lo hi ih
      obtain ⟨i, h1, h2, h3, h4, hq, h5⟩ := hR
      have h3' := h3.1
      rw [sz_e] at hs
      refine ⟨fun _ d h => ?_, fun w => absurd w Bool.false_ne_true⟩
      cases d with
      | zero => trivial
      | succ d =>
        obtain ⟨i', g1, g3, -⟩ := h
        have ei : i' = i := by omega
        subst ei
        have g := g3 h3'
        refine ⟨i', h1, fun _ => ⟨by rw [hA 18 i' h2.1 h2.2]; exact g.1, ?_⟩, fun w => by exfalso; omega, fun w => by exfalso; omega, fun w => by exfalso; omega, fun w => by exfalso; omega⟩
        exact (IH as false _ 0 _ _ (by omega) rfl rfl h5 (fun f j a b => hA f j (by omega) b)).2 hq.2.2 d g.2
    case case4 =>
      exact ⟨fun w => absurd w Bool.false_ne_true, fun _ d _ => AllN.nil hR⟩
    case case5 =>
      rename_i e r n b lo hi ih2 ih1
      obtain ⟨i, mid, h1, h2, hq, h3, h4⟩ := hR
      rw [sz_a] at hs
      refine ⟨fun w => absurd w Bool.false_ne_true, fun _ d h => ?_⟩
      rcases h.inv with q | ⟨i', q1, q2, q3⟩
      · exfalso; omega
      · have ei : i' = i := by omega
        subst ei
        exact AllN.cons h1 ((IH e false _ 0 _ _ (by omega) rfl rfl h3 (fun f j a b => hA f j a (by omega))).1 hq.1 d q2) ((IH r false _ 0 _ _ (by omega) rfl rfl h4 (fun f j a b => hA f j (by omega) b)).2 hq.2 d q3)
    case case6 =>
      rename_i t e n b lo hi ih
      obtain ⟨i, h1, h2, h3, h4, hq, h5⟩ := hR
      have h3' := h3.1
      rw [sz_s] at hs
      refine ⟨fun _ d h => ?_, fun w => absurd w Bool.false_ne_true⟩
      cases d with
      | zero => trivial
      | succ d =>
        obtain ⟨i', g1, -, g4, -⟩ := h
        have ei : i' = i := by omega
        subst ei
        refine ⟨i', h1, fun w => by exfalso; omega, fun w => ?_, fun w => by exfalso; omega, fun w => by exfalso; omega, fun w => by exfalso; omega⟩
        exact (IH e false _ 0 _ _ (by omega) rfl rfl h5 (fun f j a b => hA f j (by omega) b)).1 hq.2.2 d (g4 w)
    case case7 =>
      rename_i t e n b lo hi ih
      obtain ⟨i, j, h1, h2, h3, h4, hq, h6, h5⟩ := hR
      have h3' := h3.1
      rw [sz_m] at hs
      refine ⟨fun _ d h => ?_, fun w => absurd w Bool.false_ne_true⟩
      cases d with
      | zero => trivial
      | succ d =>
        obtain ⟨i', g1, -, g4, -⟩ := h
        have ei : i' = i := by omega
        subst ei
        refine ⟨i', h1, fun w => by exfalso; omega, fun w => ?_, fun w => by exfalso; omega, fun w => by exfalso; omega, fun w => by exfalso; omega⟩
        have g := g4 w
        rw [h6.1] at g ⊢
        exact (IH e false _ 0 _ _ (by omega) rfl rfl h5 (fun f j a b => hA f j a (by omega))).1 hq.2.2 d g
    case case8 =>
      rename_i t e n b lo hi ih
      obtain ⟨i, h1, h2, h3, h4, hq, h5⟩ := hR
      have h3' := h3.1
      rw [sz_d] at hs
      refine ⟨fun _ d h => ?_, fun w => absurd w Bool.false_ne_true⟩
      cases d with
      | zero => trivial
      | succ d =>
        obtain ⟨i', g1, -, g4, -⟩ := h
        have ei : i' = i := by omega
        subst ei
        refine ⟨i', h1, fun w => by exfalso; omega, fun w => ?_, fun w => by exfalso; omega, fun w => by exfalso; omega, fun w => by exfalso; omega⟩
        exact (IH e false _ 0 _ _ (by omega) rfl rfl h5 (fun f j a b => hA f j a (by omega))).1 hq.2.2 d (g4 w)
    case case9 =>
      rename_i x y z n b lo hi ih3 ih2 ih1
      obtain ⟨i, m1, m2, h1, h2, h3, h4, hq, h5, h6, h7⟩ := hR
      rw [sz_o, sz_e, sz_e] at hs
      refine ⟨fun _ d h => ?_, fun w => absurd w Bool.false_ne_true⟩
      cases d with
      | zero => trivial
      | succ d =>
        obtain ⟨i', g1, -, -, -, g6, -⟩ := h
        have ei : i' = i := by omega
        subst ei
        have g := g6 h3
        refine ⟨i', h1, fun w => by exfalso; omega, fun w => by exfalso; omega, fun w => by exfalso; omega, fun _ => ?_, fun w => by exfalso; omega⟩
        rw [hA 18 i' (by omega) (by omega), hA 19 i' (by omega) (by omega)]
        exact ⟨(IH x false _ 0 _ _ (by omega) rfl rfl h5 (fun f j a b => hA f j a (by omega))).1 hq.1 d g.1, (IH y false _ 0 _ _ (by omega) rfl rfl h6 (fun f j a b => hA f j (by omega) (by omega))).1 hq.2.1 d g.2.1, (IH z false _ 0 _ _ (by omega) rfl rfl h7 (fun f j a b => hA f j (by omega) (by omega))).1 hq.2.2 d g.2.2⟩
    case case10 =>
      rename_i t x y n b lo hi ih2 ih1
      obtain ⟨i, m1, h1, h2, h3, h4, hq, h5, h6⟩ := hR
      have h3' := h3.1
      rw [sz_l, sz_e, sz_e] at hs
      refine ⟨fun _ d h => ?_, fun w => absurd w Bool.false_ne_true⟩
      cases d with
      | zero => trivial
      | succ d =>
        obtain ⟨i', g1, -, -, -, -, g7⟩ := h
        have ei : i' = i := by omega
        subst ei
        have g := g7 h3'
        refine ⟨i', h1, fun w => by exfalso; omega, fun w => by exfalso; omega, fun w => by exfalso; omega, fun w => by exfalso; omega, fun _ => ?_⟩
        rw [hA 18 i' (by omega) (by omega)]
        exact ⟨(IH x false _ 0 _ _ (by omega) rfl rfl h5 (fun f j a b => hA f j a (by omega))).1 hq.2.2.1 d g.1, (IH y false _ 0 _ _ (by omega) rfl rfl h6 (fun f j a b => hA f j (by omega) (by omega))).1 hq.2.2.2 d g.2⟩
    case case11 =>
      rename_i t x y md n b lo hi ih3 ih2 ih1
      subst hm
      subst hb
      have hR' : Rep k c na ma (.rem (.arg t) (.elem x y)) false n 0 lo hi := hR
      clear hR
      obtain ⟨i, h1, h2, h3, -, h5⟩ := chain_r hR'
      refine ⟨fun _ d h => ?_, fun w => absurd w Bool.false_ne_true⟩
      cases d with
      | zero => trivial
      | succ d =>
        obtain ⟨i', g1, -, -, g5, -⟩ := h
        have ei : i' = i := by omega
        subst ei
        refine ⟨i', h1, fun w => by exfalso; omega, fun w => by exfalso; omega, fun _ => ?_, fun w => by exfalso; omega, fun w => by exfalso; omega⟩
        refine opl_all _ _ _ _ h5 (fun oe m j l h a b hx hr hp => ?_) (g5 h3)
        have sz := ops_sz _ oe m
        exact (IH oe.2 false _ 0 _ _ (by omega) rfl rfl hr (fun f j' a' b' => hA f j' (by omega) (by omega))).1 hx d hp
    case case12 => exact absurd hm (by decide)
    case case13 => exact hR.elim
end RY
