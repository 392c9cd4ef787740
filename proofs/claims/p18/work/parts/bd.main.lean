theorem oz_37a46abba3 {a0 a1 : Int} (h0 : ¬ a1 ≤ a0) (h1 : a1 = (4 : Int)) : a0 < (4 : Int) := by omega
theorem oz_d39881dc4c {a0 a1 a2 : Int} (h0 : a0 = a1 + 1) (h1 : ¬ a2 ≤ a1) (h2 : a2 = (4 : Int)) : a0 ≤ 4 := by omega
theorem oz_cc6852433c {a0 a2 : Int} {n1 : Nat} (h0 : 4 - a2 + 1 < ((n1 + 1 : Nat) : Int)) (h1 : a0 = a2 + 1) : 4 - a0 + 1 < (n1 : Int) := by omega
theorem oz_426bac7366 {a0 : Int} (h0 : ¬ a0 < (0 : Int)) (h1 : 0 ≤ a0 → a0 < 2100) : 0 ≤ a0 ∧ a0 < ((2100 : Nat) : Int) := by omega
theorem oz_735c831122 {a0 a1 a2 : Int} (h0 : a0 < a2) (h1 : a2 ≤ a1) : a0 < a1 := by omega
theorem oz_70333772d8 {a0 a1 a2 : Int} (h0 : a0 < a2) (h1 : a1 = a2 + 1) : a0 < a1 := by omega
theorem oz_e650421971 {a0 a1 : Int} (h0 : a1 = a0 + 1) : a0 < a1 := by omega
/-! MAIN: a name's letters -/
def MnT (ta : Nat → Nat → Int32) (L : Int) (sb : Nat → Int32) (t : Int32) : Prop := sz ta t = 4 ∧ ∀ k : Nat, k < 4 → btR ta L (bp ta t + k) = (chz (sb k)).toInt
def StL (ta : Nat → Nat → Int32) (L : Int) (sb : Nat → Int32) (p x i : Int) : Prop := (x = 1 → ∀ k : Nat, (k : Int) < i → btR ta L (p + k) = (chz (sb k)).toInt) ∧ (x = 0 → ¬ ∀ k : Nat, k < 4 → btR ta L (p + k) = (chz (sb k)).toInt)
def StM (ta : Nat → Nat → Int32) (L : Int) (sb : Nat → Int32) (p v : Int) : Prop := (v = 1 → ∀ k : Nat, k < 4 → btR ta L (p + k) = (chz (sb k)).toInt) ∧ (v = 0 → ¬ ∀ k : Nat, k < 4 → btR ta L (p + k) = (chz (sb k)).toInt)
def MnV (ta : Nat → Nat → Int32) (L : Int) (sb : Nat → Int32) (t : Int32) (v : Int) : Prop := (v = 1 → MnT ta L sb t) ∧ (v = 0 → ¬ MnT ta L sb t)
section MN
variable {ta : Nat → Nat → Int32} {L p x i : Int} {sb : Nat → Int32} {t : Int32}
theorem stl_0 : StL ta L sb p 1 0 := ⟨fun _ k hk => absurd hk (by omega), fun h => absurd h (by decide)⟩
theorem StL.nx {y i' : Int} {a b q : Int32} (h : StL ta L sb p x i) (hx : x = 1) (h0 : 0 ≤ i) (hi : i < 4) (eb : BtV ta L a.toInt b.toInt) (ea : a.toInt = p + i) {j : Int32} (ej : j.toInt = i) (eq : ChL sb j q) (h1 : y = 1 → b.toInt = q.toInt) (h2 : y = 0 → b.toInt ≠ q.toInt) (e : i' = i + 1) : StL ta L sb p y i' := by
  have hj := cl_nat (x := j) (by first | exact oz_016f458179 hj | omega)
  have e1 : btR ta L (p + ((i.toNat : Nat) : Int)) = b.toInt := by rw [show p + ((i.toNat : Nat) : Int) = a.toInt by omega]; exact eb.symm
  have e2 : (chz (sb i.toNat)).toInt = q.toInt := by rw [show i.toNat = j.toNatClampNeg by omega, eq]
  refine ⟨fun hy k hk => ?_, fun hy g => ?_⟩
  · by_cases hk' : (k : Int) < i
    · exact h.1 hx k hk'
    · have : k = i.toNat := by omega
      subst this
      rw [e1, e2]; exact h1 hy
  · have k := g i.toNat (by omega)
    rw [e1, e2] at k
    exact h2 hy k
theorem StL.e (h : StL ta L sb p x i) (hi : x = 0 ∨ 4 ≤ i) : StM ta L sb p x := ⟨fun hx k hk => h.1 hx k (by omega), h.2⟩
theorem mnv_1 {b v : Int} (hs : sz ta t = 4) (e : b = bp ta t) (h : StM ta L sb b v) : MnV ta L sb t v := by
  subst e
  exact ⟨fun hv => ⟨hs, h.1 hv⟩, fun hv g => h.2 hv g.2⟩
theorem mnv_0 (hs : sz ta t ≠ 4) : MnV ta L sb t 0 := ⟨fun h => absurd h (by decide), fun _ g => hs g.1⟩
end MN
theorem mnt_same {tf : Nat → Int32} {ta : Nat → Nat → Int32} {sb : Nat → Int32} {s t : Int32} (hk : TkI tf ta) (h0 : 0 ≤ s.toInt ∧ s.toInt < (tf 6).toInt) (h1 : 0 ≤ t.toInt ∧ t.toInt < (tf 6).toInt) (a : MnT ta (tf 5).toInt sb s) (b : MnT ta (tf 5).toInt sb t) : SameN ta s t := by
  refine ⟨by rw [a.1, b.1], fun j hj => ?_⟩
  have bs := tk_b hk h0.1 h0.2
  have bt := tk_b hk h1.1 h1.2
  have a1 := a.1
  have b1 := b.1
  have q1 := a.2 j (by omega)
  have q2 := b.2 j (by omega)
  unfold btR at q1 q2
  rw [if_pos (by omega)] at q1 q2
  exact i_eq.mpr (q1.trans q2.symm)
/-- which function has a name -/
def FfV (ta na ca : Nat → Nat → Int32) (n : Int) (t : Int32) (v : Int) : Prop := (v = -1 ∧ ∀ j : Nat, (j : Int) < n → ¬ SameN ta (na 15 (ca 39 j).toNatClampNeg) t) ∨ (0 ≤ v ∧ v < n ∧ SameN ta (na 15 (ca 39 v.toNat).toNatClampNeg) t ∧ ∀ j : Nat, (j : Int) < v → ¬ SameN ta (na 15 (ca 39 j).toNatClampNeg) t)
def FfL (ta na ca : Nat → Nat → Int32) (t : Int32) (x : Int) : Prop := ∀ j : Nat, (j : Int) < x → ¬ SameN ta (na 15 (ca 39 j).toNatClampNeg) t
section FF
variable {ta na ca : Nat → Nat → Int32} {n : Int} {t x z u v : Int32}
theorem ffl_0 : FfL ta na ca t 0 := fun j h => absurd h (by omega)
theorem FfL.nx {y : Int} (h : FfL ta na ca t x.toInt) (e : z = ca 39 x.toNatClampNeg) (e2 : u = na 15 z.toNatClampNeg) (s : SmV ta u t v.toInt) (hv : v.toInt = 0) (h0 : 0 ≤ x.toInt) (hy : y = x.toInt + 1) : FfL ta na ca t y := fun j a => by
  by_cases g : (j : Int) < x.toInt
  · exact h j g
  · have hx := cl_nat h0
    have : j = x.toNatClampNeg := by omega
    subst this
    rw [← e, ← e2]; exact s.2 hv
theorem ff_some (h : FfL ta na ca t x.toInt) (e : z = ca 39 x.toNatClampNeg) (e2 : u = na 15 z.toNatClampNeg) (s : SmV ta u t v.toInt) (hv : v.toInt = 1) (h0 : 0 ≤ x.toInt) (hn : x.toInt < n) : FfV ta na ca n t x.toInt := by
  have hx := cl_nat h0
  exact Or.inr ⟨h0, hn, by rw [show x.toInt.toNat = x.toNatClampNeg by omega, ← e, ← e2]; exact s.1 hv, h⟩
theorem ff_none {y : Int} (h : FfL ta na ca t y) (hy : n ≤ y) : FfV ta na ca n t (-1) := Or.inl ⟨rfl, fun j a => h j (by omega)⟩
end FF
/-- of the functions below n: one of that name, with one number -/
def OneI (na ma ca : Nat → Nat → Int32) (f : Nat) : Prop := 0 ≤ (na 17 (ca 39 f).toNatClampNeg).toInt ∧ (na 21 (na 17 (ca 39 f).toNatClampNeg).toNatClampNeg).toInt < 0 ∧ (na 17 (na 17 (ca 39 f).toNatClampNeg).toNatClampNeg).toInt < 0
def HmV (ta na ma ca : Nat → Nat → Int32) (L : Int) (sb : Nat → Int32) (n v : Int) : Prop := v = 1 → ∃ f : Nat, (f : Int) < n ∧ MnT ta L sb (na 15 (ca 39 f).toNatClampNeg) ∧ OneI na ma ca f
/-- the last of that name -/
def MfV (ta na ca : Nat → Nat → Int32) (L : Int) (sb : Nat → Int32) (n v : Int) : Prop := (v = -1 ∧ ∀ j : Nat, (j : Int) < n → ¬ MnT ta L sb (na 15 (ca 39 j).toNatClampNeg)) ∨ (0 ≤ v ∧ v < n ∧ MnT ta L sb (na 15 (ca 39 v.toNat).toNatClampNeg))
theorem mfv_nx {ta na ca : Nat → Nat → Int32} {L n w y : Int} {sb : Nat → Int32} {x z u v : Int32} (h : MfV ta na ca L sb x.toInt w) (e : z = ca 39 x.toNatClampNeg) (e2 : u = na 15 z.toNatClampNeg) (s : MnV ta L sb u v.toInt) (h0 : 0 ≤ x.toInt) (hb : v.toInt = 0 ∨ v.toInt = 1) (hy : n = x.toInt + 1) (h1 : v.toInt = 1 → y = x.toInt) (h2 : v.toInt = 0 → y = w) : MfV ta na ca L sb n y := by
  have hx := cl_nat h0
  rcases hb with hv | hv
  · rw [h2 hv]
    rcases h with ⟨a, b⟩ | ⟨a, b, c⟩
    · refine Or.inl ⟨a, fun j hj => ?_⟩
      by_cases g : (j : Int) < x.toInt
      · exact b j g
      · have : j = x.toNatClampNeg := by omega
        subst this
        rw [← e, ← e2]; exact s.2 hv
    · exact Or.inr ⟨a, by omega, c⟩
  · rw [h1 hv]
    exact Or.inr ⟨h0, by omega, by rw [show x.toInt.toNat = x.toNatClampNeg by omega, ← e, ← e2]; exact s.1 hv⟩
theorem mfv_0 {ta na ca : Nat → Nat → Int32} {L : Int} {sb : Nat → Int32} : MfV ta na ca L sb 0 (-1) := Or.inl ⟨rfl, fun j h => absurd h (by omega)⟩
theorem hm_1 {ta na ma ca : Nat → Nat → Int32} {L n : Int} {sb : Nat → Int32} {x z u v a b c : Int32} (hx0 : 0 ≤ x.toInt) (hxn : x.toInt < n) (e : z = ca 39 x.toNatClampNeg) (e2 : u = na 15 z.toNatClampNeg) (s : MnV ta L sb u v.toInt) (hv : v.toInt = 1) (ea : a = na 17 z.toNatClampNeg) (ha : 0 ≤ a.toInt) (eb : b = na 21 a.toNatClampNeg) (hb : b.toInt < 0) (ec : c = na 17 a.toNatClampNeg) (hc : c.toInt < 0) : HmV ta na ma ca L sb n 1 := fun _ => by
  have hx := cl_nat hx0
  refine ⟨x.toNatClampNeg, by omega, ?_, ?_⟩
  · rw [← e, ← e2]; exact s.1 hv
  · unfold OneI; rw [← e, ← ea, ← eb, ← ec]; exact ⟨ha, hb, hc⟩
/-! a wide row of the pool: a string -/
section LW
variable {p : Program} {l : Launch} {e : Env} {R : Room} {s : State} {m : MethodId} {args : Array Value} {below : List Frame} {meth : Method} {c : Code} {H : Heap} {locs : List Loc} {cells slots : Nat} {Q : State → Prop}
variable {cc : ByteArray} {pc : Nat} {ls : Array Slot} {rest : List Value}
theorem px_ldcwS (hexec : p.tables.exec = Jvm.exec) (hb : c.code = cc) {own tx : String} {index q : Nat} (hown : s.vm.findClass own = some m.cls) (hZ : vk_R own index tx q s) (hdg : decode cc pc = .ok (.ldc_w index, 3))
    (k : W p l e R s m args below meth c H locs cells slots Q (F0 m (pc + 3) ls (.ref q :: rest))) : W p l e R s m args below meth c H locs cells slots Q (F0 m pc ls rest) := by
  intro T hT X
  obtain ⟨t, a1, b1⟩ := k T hT X
  obtain ⟨k1, cf, i, a', hk, hcf, hcp, -, hr, hev'⟩ := Cond.stringRef_spec hown hZ.1
  cases hZ.2.symm.trans hev'
  obtain ⟨k', hk', he⟩ := X.warmed.alike.2.2 _ _ hk
  have hr' : k'.resolved[index]? = some (some (.string q)) := by
    rcases X.warmed.entry hk hk' index with h | ⟨h, -⟩
    · rw [h]; exact hr
    · rw [hr] at h; cases h
  have hdg' : decode c.code (F0 m pc ls rest).pc = .ok (.ldc_w index, 3) := by rw [hb]; exact hdg
  refine ⟨t, ?_, b1⟩
  jvm_step X.here [hexec, hdg', ldc_w.wp_string (e := e) (s := T) (f := F0 m pc ls rest) X.here.top hk' (by rw [he]; exact hcf) hcp hr']
  exact a1
end LW
set_option maxHeartbeats 4000000 in
set_option maxRecDepth 100000 in
theorem c_mp_standsM (l : Launch) (D : va_G) (cs : Nat → ClassId) (sk : Nat) (st : Nat) (sb : Nat → Int32) (h : Nat) (r : Nat → Nat) (g : Nat → Nat → Option Nat) (tf : Nat → Int32) (ta : Nat → Nat → Int32) (pf : Nat → Int32) (na : Nat → Nat → Int32) (ma : Nat → Nat → Int32) (wa : Nat → Nat → Int32) (cf : Nat → Int32) (ca : Nat → Nat → Int32) (ef : Nat → Int32) (ea : Nat → Nat → Int32) (xf : Nat → Int32) (xa : Nat → Nat → Int32) (p0 : Int32)  (g0 : 0 ≤ (tf 5).toInt) (g1 : (tf 5).toInt ≤ 2048) (g2 : 0 ≤ p0.toInt) (g3 : p0.toInt ≤ 4000) (htk : TkI tf ta) : MetI l y_Mpg_stands b_Mpg_stands 5 (.boolean) D cs 4 140 (0) (0) [.ref h, .int p0, .ref sk] [wdP cs h r g tf ta pf na ma wa cf ca ef ea xf xa] (oX (fun A U H => (oP A g U H) ∧ ((vk_R "HomeSystemModel$Program" 688 "main" sk U ∧ oS A sk st 4 sb U H))) [wdP cs h r g tf ta pf na ma wa cf ca ef ea xf xa]) (fun v ps => (ps = [wdP cs h r g tf ta pf na ma wa cf ca ef ea xf xa]) ∧ (v = 0 ∨ v = 1) ∧ (StM ta (tf 5).toInt sb p0.toInt v.toInt)) := by
  refine px_enter (by decide) (Nat.le_of_ble_eq_true rfl) ?_
  intro p e s m below meth c A ls hAe S hr hlk hnm hA hT hX hw hl
  replace hl : lv_has ls 5 [(0, .ref h), (1, .int p0), (2, .ref sk)] := hl
  have lp0 := Int32.le_toInt p0
  have up0 := Int32.toInt_lt p0
  have cst0 : (0 : Int32).toInt = 0 := rfl
  have cst1 : (1 : Int32).toInt = 1 := rfl
  have hX : (fun A U H => (oP A g U H) ∧ ((vk_R "HomeSystemModel$Program" 688 "main" sk U ∧ oS A sk st 4 sb U H))) A s s.heap := by rw [hAe]; exact hX
  obtain ⟨hP, hMn⟩ := hX
  have hZ := hP.1
  have hF0 := hP.2.1
  have J5 : ∀ (n_5 : Nat)  (x5_3 x5_4 : Int32) (H : Heap) (locs : List Loc) (ls : Array Slot), (0 ≤ x5_3.toInt) → (x5_3.toInt ≤ 1) → (0 ≤ x5_4.toInt) → (x5_4.toInt ≤ 4) → (StL ta (tf 5).toInt sb p0.toInt x5_3.toInt x5_4.toInt) → 4 - x5_4.toInt + 1 < (n_5 : Int) → pw D A s.heap H locs [wdP cs h r g tf ta pf na ma wa cf ca ef ea xf xa] → lv_has ls 5 [(0, .ref h), (1, .int p0), (2, .ref sk), (3, .int x5_3), (4, .int x5_4)] → W p l e { frames := 4, cells := 0, slots := 0, locals := 140 } s m [.ref h, .int p0, .ref sk].toArray below meth c H locs 0 0 (MQ below (va_Qi (fun v ps => (ps = [wdP cs h r g tf ta pf na ma wa cf ca ef ea xf xa]) ∧ (v = 0 ∨ v = 1) ∧ (StM ta (tf 5).toInt sb p0.toInt v.toInt)) (pc_B D (va_A ([wdP cs h r g tf ta pf na ma wa cf ca ef ea xf xa] : List va_W).flatten s.heap.size)) (va_A ([wdP cs h r g tf ta pf na ma wa cf ca ef ea xf xa] : List va_W).flatten s.heap.size)) [.ref h, .int p0, .ref sk].toArray s 0 0 A) (F0 m 5 ls []) := by
    intro  n_5
    induction n_5 with
    | zero =>
      intro x5_3 x5_4 H locs ls k5_0 k5_1 k5_2 k5_3 k5_4 hm hw hl
      have lx5_3 := Int32.le_toInt x5_3
      have ux5_3 := Int32.toInt_lt x5_3
      have lx5_4 := Int32.le_toInt x5_4
      have ux5_4 := Int32.toInt_lt x5_4
      have hsl := k5_4
      exact absurd hm (by omega)
    | succ n_5 ih5 =>
      intro x5_3 x5_4 H locs ls k5_0 k5_1 k5_2 k5_3 k5_4 hm hw hl
      have lx5_3 := Int32.le_toInt x5_3
      have ux5_3 := Int32.toInt_lt x5_3
      have lx5_4 := Int32.le_toInt x5_4
      have ux5_4 := Int32.toInt_lt x5_4
      have hsl := k5_4
      refine lv_iload S.x S.b d_Mpg_stands_5 (lv_at hl 4 rfl) ?_
      refine lv_aload_n S.x S.b d_Mpg_stands_7 rfl (lv_at hl 2 rfl) ?_
      refine px_calli (pr := [wdP cs h r g tf ta pf na ma wa cf ca ef ea xf xa]) (px_runV (As := []) (rest := [.int x5_4]) S (c_String_length l D cs sk st 4 sb   (show 4 ≤ 1000000 from by first | decide | omega) _) hT (pr := [wdP cs h r g tf ta pf na ma wa cf ca ef ea xf xa]) (pcs := []) hw (oX_call (P := (fun A U H => (oZ A U H) ∧ (oS A sk st 4 sb U H))) (pr := [wdP cs h r g tf ta pf na ma wa cf ca ef ea xf xa]) (oG_and oG_Z oG_S) hw hA ⟨hZ, hMn.2⟩) (oS_recv hw hMn.2) m1_58 m11_157 m1_56 m1_57 m1_3 q_String_length ⟨Nat.le_of_ble_eq_true rfl, Nat.le_of_ble_eq_true rfl⟩ hl.1 rfl (Nat.le_of_ble_eq_true rfl) d_Mpg_stands_8 ⟨Nat.le_of_ble_eq_true rfl, Nat.le_of_ble_eq_true rfl⟩) hw hA (fun v2 p1 H locs hp1 hw => ?_)
      obtain ⟨rfl, e3⟩ := hp1
      replace e3 : v2.toInt = (4 : Int) := e3
      replace hw : pw D A s.heap H locs [wdP cs h r g tf ta pf na ma wa cf ca ef ea xf xa] := hw
      have lv2 := Int32.le_toInt v2
      have uv2 := Int32.toInt_lt v2
      refine lv_icmp_ge (tgt := 47) S.x S.b d_Mpg_stands_11 (by decide) (fun c4 => ?_) (fun c4 => ?_)
      · have nc4 : v2.toInt ≤ x5_4.toInt := (i_le (x := v2) (y := x5_4)).mp c4
        refine lv_iload_n S.x S.b d_Mpg_stands_47 rfl (lv_at hl 3 rfl) ?_
        exact px_iret (v := x5_3) S hr (z_nar (by omega)) hlk hAe hw (Nat.le_of_ble_eq_true rfl) (Nat.le_of_ble_eq_true rfl) (⟨rfl, (show x5_3 = 0 ∨ x5_3 = 1 from by first | exact Or.inl rfl | exact Or.inr rfl | exact z_or (by omega)), (show StM ta (tf 5).toInt sb p0.toInt x5_3.toInt from (StL.e hsl (by omega)))⟩) d_Mpg_stands_48
      · have nc4 : ¬ v2.toInt ≤ x5_4.toInt := mt (i_le (x := v2) (y := x5_4)).mpr c4
        refine lv_iload_n S.x S.b d_Mpg_stands_14 rfl (lv_at hl 3 rfl) ?_
        refine lv_if_eq (tgt := 47) S.x S.b d_Mpg_stands_15 (by decide) (fun c5 => ?_) (fun c5 => ?_)
        · have nc5 : x5_3.toInt = (0 : Int) := (i_eq (x := x5_3) (y := 0)).mp c5
          refine lv_iload_n S.x S.b d_Mpg_stands_47 rfl (lv_at hl 3 rfl) ?_
          exact px_iret (v := x5_3) S hr (z_nar (by omega)) hlk hAe hw (Nat.le_of_ble_eq_true rfl) (Nat.le_of_ble_eq_true rfl) (⟨rfl, (show x5_3 = 0 ∨ x5_3 = 1 from by first | exact Or.inl rfl | exact Or.inr rfl | exact z_or (by omega)), (show StM ta (tf 5).toInt sb p0.toInt x5_3.toInt from (StL.e hsl (by omega)))⟩) d_Mpg_stands_48
        · have nc5 : ¬ x5_3.toInt = (0 : Int) := mt (i_eq (x := x5_3) (y := 0)).mpr c5
          refine lv_aload_n S.x S.b d_Mpg_stands_18 rfl (lv_at hl 0 rfl) ?_
          refine lv_iload_n S.x S.b d_Mpg_stands_19 rfl (lv_at hl 1 rfl) ?_
          refine lv_iload S.x S.b d_Mpg_stands_20 (lv_at hl 4 rfl) ?_
          refine lv_iadd S.x S.b d_Mpg_stands_22 ?_
          refine lv_topi (fun z6 ez6 => ?_)
          have tz6 : z6.toInt = (p0.toInt + x5_4.toInt + 2147483648) % 4294967296 - 2147483648 := by rw [ez6]; exact i_add p0 x5_4
          have lz6 := Int32.le_toInt z6
          have uz6 := Int32.toInt_lt z6
          try replace tz6 : z6.toInt = p0.toInt + x5_4.toInt := by omega
          refine px_calli (pr := []) (px_runV (As := [.int z6]) (rest := []) S (c_mp_byteAt l D cs h r g tf ta pf na ma wa cf ca ef ea xf xa z6  (show 0 ≤ (tf 5).toInt from by first | exact g0 | omega) (show (tf 5).toInt ≤ 2048 from by first | exact g1 | omega) (show 0 ≤ z6.toInt from by first | exact oz_58f944d8b2 tz6 g2 k5_2 | omega) _) hT (pr := []) (pcs := [wdP cs h r g tf ta pf na ma wa cf ca ef ea xf xa]) hw px_X.tt (px_recv hT hw 0 0 rfl rfl rfl) m11_142 m11_139 m11_141 ms_7_15 m1_21 q_Mpg_byteAt ⟨Nat.le_of_ble_eq_true rfl, Nat.le_of_ble_eq_true rfl⟩ hl.1 rfl (Nat.le_of_ble_eq_true rfl) d_Mpg_stands_23 ⟨Nat.le_of_ble_eq_true rfl, Nat.le_of_ble_eq_true rfl⟩) hw hA (fun v8 p7 H locs hp7 hw => ?_)
          obtain ⟨rfl, e9, e10⟩ := hp7
          replace e9 : z6.toInt < (tf 5).toInt ∨ v8.toInt = -1 := e9
          replace e10 : BtV ta (tf 5).toInt z6.toInt v8.toInt := e10
          have hbt := e10
          replace hw : pw D A s.heap H locs [wdP cs h r g tf ta pf na ma wa cf ca ef ea xf xa] := hw
          have lv8 := Int32.le_toInt v8
          have uv8 := Int32.toInt_lt v8
          refine lv_aload_n S.x S.b d_Mpg_stands_26 rfl (lv_at hl 2 rfl) ?_
          refine lv_iload S.x S.b d_Mpg_stands_27 (lv_at hl 4 rfl) ?_
          refine px_calli (pr := [wdP cs h r g tf ta pf na ma wa cf ca ef ea xf xa]) (px_runV (As := [.int x5_4]) (rest := [.int v8]) S (c_sg_charAtL l D cs sk st 4 sb x5_4  (show 4 ≤ 1000000 from by first | decide | omega) (show 0 ≤ x5_4.toInt from by first | exact k5_2 | omega) (show x5_4.toInt < (4 : Int) from by first | exact oz_37a46abba3 nc4 e3 | omega) _) hT (pr := [wdP cs h r g tf ta pf na ma wa cf ca ef ea xf xa]) (pcs := []) hw (oX_call (P := (fun A U H => (oF A U H) ∧ (oZ A U H) ∧ (oS A sk st 4 sb U H))) (pr := [wdP cs h r g tf ta pf na ma wa cf ca ef ea xf xa]) (oG_and oG_F (oG_and oG_Z oG_S)) hw hA ⟨hF0, hZ, hMn.2⟩) (oS_recv hw hMn.2) m1_68 m11_162 m1_66 m1_67 m1_3 q_String_charAt ⟨Nat.le_of_ble_eq_true rfl, Nat.le_of_ble_eq_true rfl⟩ hl.1 rfl (Nat.le_of_ble_eq_true rfl) d_Mpg_stands_29 ⟨Nat.le_of_ble_eq_true rfl, Nat.le_of_ble_eq_true rfl⟩) hw hA (fun v12 p11 H locs hp11 hw => ?_)
          obtain ⟨rfl, e13, e14⟩ := hp11
          replace e13 : narrow .char (.int v12) = .int v12 := e13
          replace e14 : ChL sb x5_4 v12 := e14
          have hch := e14
          replace hw : pw D A s.heap H locs [wdP cs h r g tf ta pf na ma wa cf ca ef ea xf xa] := hw
          have lv12 := Int32.le_toInt v12
          have uv12 := Int32.toInt_lt v12
          refine lv_icmp_ne (tgt := 39) S.x S.b d_Mpg_stands_32 (by decide) (fun c15 => ?_) (fun c15 => ?_)
          · have nc15 : ¬ v8.toInt = v12.toInt := mt (i_eq (x := v8) (y := v12)).mpr c15
            refine lv_iconst (v := 0) S.x S.b d_Mpg_stands_39 (by decide) ?_
            refine lv_istore_n (lv' := [(3, .int 0), (0, .ref h), (1, .int p0), (2, .ref sk), (4, .int x5_4)]) S.x S.b d_Mpg_stands_40 rfl hl (by decide) rfl (fun ls hl => ?_)
            obtain ⟨z16, ez16⟩ : ∃ y : Int32, y = x5_4 + 1 := ⟨_, rfl⟩
            have tz16 : z16.toInt = (x5_4.toInt + 1 + 2147483648) % 4294967296 - 2147483648 := by rw [ez16]; exact i_add x5_4 1
            have lz16 := Int32.le_toInt z16
            have uz16 := Int32.toInt_lt z16
            try replace tz16 : z16.toInt = x5_4.toInt + 1 := by omega
            refine lv_iinc (v := z16) (lv' := [(4, .int z16), (3, .int 0), (0, .ref h), (1, .int p0), (2, .ref sk)]) S.x S.b d_Mpg_stands_41 hl (k := 4) rfl (by rw [ez16]; rfl) (by decide) rfl (fun ls hl => ?_)
            refine lv_goto (tgt := 5) S.x S.b d_Mpg_stands_44 (by decide) ?_
            exact ih5 (0 : Int32) z16 _ _ ls (show 0 ≤ (0 : Int) from by first | decide | omega) (show (0 : Int) ≤ 1 from by first | decide | omega) (show 0 ≤ z16.toInt from by first | exact oz_ae613611c0 tz16 k5_2 | omega) (show z16.toInt ≤ 4 from by first | exact oz_d39881dc4c tz16 nc4 e3 | omega) (show StL ta (tf 5).toInt sb p0.toInt (0 : Int) z16.toInt from (StL.nx hsl (by omega) (by omega) (by omega) hbt (by omega) (j := x5_4) (by omega) hch (fun _ => by omega) (fun _ => by omega) (by omega))) (show 4 - z16.toInt + 1 < (n_5 : Int) from by first | exact oz_cc6852433c hm tz16 | omega) hw (lv_sub hl [2, 3, 4, 1, 0] rfl)
          · have nc15 : v8.toInt = v12.toInt := (i_eq (x := v8) (y := v12)).mp c15
            refine lv_iconst (v := 1) S.x S.b d_Mpg_stands_35 (by decide) ?_
            refine lv_goto (tgt := 40) S.x S.b d_Mpg_stands_36 (by decide) ?_
            refine lv_istore_n (lv' := [(3, .int 1), (0, .ref h), (1, .int p0), (2, .ref sk), (4, .int x5_4)]) S.x S.b d_Mpg_stands_40 rfl hl (by decide) rfl (fun ls hl => ?_)
            obtain ⟨z17, ez17⟩ : ∃ y : Int32, y = x5_4 + 1 := ⟨_, rfl⟩
            have tz17 : z17.toInt = (x5_4.toInt + 1 + 2147483648) % 4294967296 - 2147483648 := by rw [ez17]; exact i_add x5_4 1
            have lz17 := Int32.le_toInt z17
            have uz17 := Int32.toInt_lt z17
            try replace tz17 : z17.toInt = x5_4.toInt + 1 := by omega
            refine lv_iinc (v := z17) (lv' := [(4, .int z17), (3, .int 1), (0, .ref h), (1, .int p0), (2, .ref sk)]) S.x S.b d_Mpg_stands_41 hl (k := 4) rfl (by rw [ez17]; rfl) (by decide) rfl (fun ls hl => ?_)
            refine lv_goto (tgt := 5) S.x S.b d_Mpg_stands_44 (by decide) ?_
            exact ih5 (1 : Int32) z17 _ _ ls (show 0 ≤ (1 : Int) from by first | decide | omega) (show (1 : Int) ≤ 1 from by first | decide | omega) (show 0 ≤ z17.toInt from by first | exact oz_ae613611c0 tz17 k5_2 | omega) (show z17.toInt ≤ 4 from by first | exact oz_d39881dc4c tz17 nc4 e3 | omega) (show StL ta (tf 5).toInt sb p0.toInt (1 : Int) z17.toInt from (StL.nx hsl (by omega) (by omega) (by omega) hbt (by omega) (j := x5_4) (by omega) hch (fun _ => by omega) (fun _ => by omega) (by omega))) (show 4 - z17.toInt + 1 < (n_5 : Int) from by first | exact oz_cc6852433c hm tz17 | omega) hw (lv_sub hl [2, 3, 4, 1, 0] rfl)
  refine lv_iconst (v := 1) S.x S.b d_Mpg_stands_0 (by decide) ?_
  refine lv_istore_n (lv' := [(3, .int 1), (0, .ref h), (1, .int p0), (2, .ref sk)]) S.x S.b d_Mpg_stands_1 rfl hl (by decide) rfl (fun ls hl => ?_)
  refine lv_iconst (v := 0) S.x S.b d_Mpg_stands_2 (by decide) ?_
  refine lv_istore (lv' := [(4, .int 0), (3, .int 1), (0, .ref h), (1, .int p0), (2, .ref sk)]) S.x S.b d_Mpg_stands_3 hl (by decide) rfl (fun ls hl => ?_)
  exact J5 ((4 - (0 : Int) + 1).toNat + 1) (1 : Int32) (0 : Int32) _ _ ls (show 0 ≤ (1 : Int) from by first | decide | omega) (show (1 : Int) ≤ 1 from by first | decide | omega) (show 0 ≤ (0 : Int) from by first | decide | omega) (show (0 : Int) ≤ 4 from by first | decide | omega) (show StL ta (tf 5).toInt sb p0.toInt (1 : Int) (0 : Int) from stl_0) (show 4 - (0 : Int) + 1 < ((((4 - (0 : Int) + 1).toNat + 1 : Nat) : Int) : Int) from by first | exact oz_natlt | omega) hw (lv_sub hl [2, 3, 4, 1, 0] rfl)
set_option maxHeartbeats 4000000 in
set_option maxRecDepth 100000 in
theorem c_mp_isNamedM (l : Launch) (D : va_G) (cs : Nat → ClassId) (sk : Nat) (st : Nat) (sb : Nat → Int32) (h : Nat) (r : Nat → Nat) (g : Nat → Nat → Option Nat) (tf : Nat → Int32) (ta : Nat → Nat → Int32) (pf : Nat → Int32) (na : Nat → Nat → Int32) (ma : Nat → Nat → Int32) (wa : Nat → Nat → Int32) (cf : Nat → Int32) (ca : Nat → Nat → Int32) (ef : Nat → Int32) (ea : Nat → Nat → Int32) (xf : Nat → Int32) (xa : Nat → Nat → Int32) (p0 : Int32)  (g0 : 0 ≤ p0.toInt) (g1 : p0.toInt < (tf 6).toInt) (g2 : (tf 6).toInt ≤ 2049) (htk : TkI tf ta) : MetI l y_Mpg_isNamed b_Mpg_isNamed 3 (.boolean) D cs 5 190 (0) (0) [.ref h, .int p0, .ref sk] [wdP cs h r g tf ta pf na ma wa cf ca ef ea xf xa] (oX (fun A U H => (oP A g U H) ∧ ((vk_R "HomeSystemModel$Program" 688 "main" sk U ∧ oS A sk st 4 sb U H))) [wdP cs h r g tf ta pf na ma wa cf ca ef ea xf xa]) (fun v ps => (ps = [wdP cs h r g tf ta pf na ma wa cf ca ef ea xf xa]) ∧ (v = 0 ∨ v = 1) ∧ (MnV ta (tf 5).toInt sb p0 v.toInt)) := by
  refine px_enter (by decide) (Nat.le_of_ble_eq_true rfl) ?_
  intro p e s m below meth c A ls hAe S hr hlk hnm hA hT hX hw hl
  replace hl : lv_has ls 3 [(0, .ref h), (1, .int p0), (2, .ref sk)] := hl
  have lp0 := Int32.le_toInt p0
  have up0 := Int32.toInt_lt p0
  have cst0 : (0 : Int32).toInt = 0 := rfl
  have cst1 : (1 : Int32).toInt = 1 := rfl
  have hX : (fun A U H => (oP A g U H) ∧ ((vk_R "HomeSystemModel$Program" 688 "main" sk U ∧ oS A sk st 4 sb U H))) A s s.heap := by rw [hAe]; exact hX
  obtain ⟨hP, hMn⟩ := hX
  have hZ := hP.1
  have hF0 := hP.2.1
  have hb_p0 := tk_b htk (x := p0) (by omega) (by omega)
  refine lv_aload_n S.x S.b d_Mpg_isNamed_0 rfl (lv_at hl 0 rfl) ?_
  refine px_get S k_Mpg hT hw 0 0 8 (v := .ref (r 8)) rfl rfl rfl (by decide) m9_232 d_Mpg_isNamed_1 ?_
  refine lv_iload_n S.x S.b d_Mpg_isNamed_4 rfl (lv_at hl 1 rfl) ?_
  refine px_iald S hT hw 0 7 (n := 2060) (f := (ta 8)) rfl gp_8 (x := p0) (vp_in_iff.mpr (by first | exact oz_846323bf3a g0 g1 g2 | (constructor <;> omega))) d_Mpg_isNamed_5 ?_
  refine lv_topi (fun z1 ez1 => ?_)
  have lz1 := Int32.le_toInt z1
  have uz1 := Int32.toInt_lt z1
  have rz1 : z1.toInt = sz ta p0 := by rw [ez1]; rfl
  refine lv_aload_n S.x S.b d_Mpg_isNamed_6 rfl (lv_at hl 2 rfl) ?_
  refine px_calli (pr := [wdP cs h r g tf ta pf na ma wa cf ca ef ea xf xa]) (px_runV (As := []) (rest := [.int z1]) S (c_String_length l D cs sk st 4 sb   (show 4 ≤ 1000000 from by first | decide | omega) _) hT (pr := [wdP cs h r g tf ta pf na ma wa cf ca ef ea xf xa]) (pcs := []) hw (oX_call (P := (fun A U H => (oZ A U H) ∧ (oS A sk st 4 sb U H))) (pr := [wdP cs h r g tf ta pf na ma wa cf ca ef ea xf xa]) (oG_and oG_Z oG_S) hw hA ⟨hZ, hMn.2⟩) (oS_recv hw hMn.2) m1_58 m11_157 m1_56 m1_57 m1_3 q_String_length ⟨Nat.le_of_ble_eq_true rfl, Nat.le_of_ble_eq_true rfl⟩ hl.1 rfl (Nat.le_of_ble_eq_true rfl) d_Mpg_isNamed_7 ⟨Nat.le_of_ble_eq_true rfl, Nat.le_of_ble_eq_true rfl⟩) hw hA (fun v3 p2 H locs hp2 hw => ?_)
  obtain ⟨rfl, e4⟩ := hp2
  replace e4 : v3.toInt = (4 : Int) := e4
  replace hw : pw D A s.heap H locs [wdP cs h r g tf ta pf na ma wa cf ca ef ea xf xa] := hw
  have lv3 := Int32.le_toInt v3
  have uv3 := Int32.toInt_lt v3
  refine lv_icmp_ne (tgt := 31) S.x S.b d_Mpg_isNamed_10 (by decide) (fun c5 => ?_) (fun c5 => ?_)
  · have nc5 : ¬ z1.toInt = v3.toInt := mt (i_eq (x := z1) (y := v3)).mpr c5
    refine lv_iconst (v := 0) S.x S.b d_Mpg_isNamed_31 (by decide) ?_
    exact px_iret (v := 0) S hr rfl hlk hAe hw (Nat.le_of_ble_eq_true rfl) (Nat.le_of_ble_eq_true rfl) (⟨rfl, (show (0 : Int32) = 0 ∨ (0 : Int32) = 1 from by first | exact Or.inl rfl | exact Or.inr rfl | exact z_or (by omega)), (show MnV ta (tf 5).toInt sb p0 (0 : Int) from (by first | exact mnv_0 (by omega) | exact mnv_1 (by omega) (by omega) (show StM ta (tf 5).toInt sb _ 0 from (by have q9 := hsm9; rw [show p0.toInt = 0 by omega] at q9; exact q9))))⟩) d_Mpg_isNamed_32
  · have nc5 : z1.toInt = v3.toInt := (i_eq (x := z1) (y := v3)).mp c5
    refine lv_aload_n S.x S.b d_Mpg_isNamed_13 rfl (lv_at hl 0 rfl) ?_
    refine lv_aload_n S.x S.b d_Mpg_isNamed_14 rfl (lv_at hl 0 rfl) ?_
    refine px_get S k_Mpg hT hw 0 0 7 (v := .ref (r 7)) rfl rfl rfl (by decide) m9_231 d_Mpg_isNamed_15 ?_
    refine lv_iload_n S.x S.b d_Mpg_isNamed_18 rfl (lv_at hl 1 rfl) ?_
    refine px_iald S hT hw 0 6 (n := 2060) (f := (ta 7)) rfl gp_7 (x := p0) (vp_in_iff.mpr (by first | exact oz_846323bf3a g0 g1 g2 | (constructor <;> omega))) d_Mpg_isNamed_19 ?_
    refine lv_topi (fun z6 ez6 => ?_)
    have lz6 := Int32.le_toInt z6
    have uz6 := Int32.toInt_lt z6
    have rz6 : z6.toInt = bp ta p0 := by rw [ez6]; rfl
    refine lv_aload_n S.x S.b d_Mpg_isNamed_20 rfl (lv_at hl 2 rfl) ?_
    refine px_calli (pr := []) (px_runV (As := [.int z6, .ref sk]) (rest := []) S (c_mp_standsM l D cs sk st sb h r g tf ta pf na ma wa cf ca ef ea xf xa z6  (show 0 ≤ (tf 5).toInt from by first | exact oz_3e80f65ba7 hb_p0.2.2.1 hb_p0.1 hb_p0.2.1 | omega) (show (tf 5).toInt ≤ 2048 from by first | exact hb_p0.2.2.2 | omega) (show 0 ≤ z6.toInt from by first | exact oz_f3ebed1ad0 rz6 hb_p0.1 | omega) (show z6.toInt ≤ 4000 from by first | exact oz_27a4de8aa9 rz6 hb_p0.2.2.1 hb_p0.2.1 hb_p0.2.2.2 | omega) htk _) hT (pr := []) (pcs := [wdP cs h r g tf ta pf na ma wa cf ca ef ea xf xa]) hw (oX_call (P := (fun A U H => (oP A g U H) ∧ ((vk_R "HomeSystemModel$Program" 688 "main" sk U ∧ oS A sk st 4 sb U H)))) (pr := []) (oG_and oG_P (oG_and oG_L oG_S)) hw hA ⟨hP, hMn⟩) (px_recv hT hw 0 0 rfl rfl rfl) m11_161 m11_158 m11_160 ms_8_2 m1_21 q_Mpg_stands ⟨Nat.le_of_ble_eq_true rfl, Nat.le_of_ble_eq_true rfl⟩ hl.1 rfl (Nat.le_of_ble_eq_true rfl) d_Mpg_isNamed_21 ⟨Nat.le_of_ble_eq_true rfl, Nat.le_of_ble_eq_true rfl⟩) hw hA (fun v8 p7 H locs hp7 hw => ?_)
    obtain ⟨rfl, e9, e10⟩ := hp7
    have e9 := z_rng e9
    replace e10 : StM ta (tf 5).toInt sb z6.toInt v8.toInt := e10
    have hsm9 := e10
    replace hw : pw D A s.heap H locs [wdP cs h r g tf ta pf na ma wa cf ca ef ea xf xa] := hw
    have lv8 := Int32.le_toInt v8
    have uv8 := Int32.toInt_lt v8
    refine lv_if_eq (tgt := 31) S.x S.b d_Mpg_isNamed_24 (by decide) (fun c11 => ?_) (fun c11 => ?_)
    · have nc11 : v8.toInt = (0 : Int) := (i_eq (x := v8) (y := 0)).mp c11
      refine lv_iconst (v := 0) S.x S.b d_Mpg_isNamed_31 (by decide) ?_
      exact px_iret (v := 0) S hr rfl hlk hAe hw (Nat.le_of_ble_eq_true rfl) (Nat.le_of_ble_eq_true rfl) (⟨rfl, (show (0 : Int32) = 0 ∨ (0 : Int32) = 1 from by first | exact Or.inl rfl | exact Or.inr rfl | exact z_or (by omega)), (show MnV ta (tf 5).toInt sb p0 (0 : Int) from (by first | exact mnv_0 (by omega) | exact mnv_1 (by omega) (by omega) (show StM ta (tf 5).toInt sb _ 0 from (by have q9 := hsm9; rw [show v8.toInt = 0 by omega] at q9; exact q9))))⟩) d_Mpg_isNamed_32
    · have nc11 : ¬ v8.toInt = (0 : Int) := mt (i_eq (x := v8) (y := 0)).mpr c11
      refine lv_iconst (v := 1) S.x S.b d_Mpg_isNamed_27 (by decide) ?_
      refine lv_goto (tgt := 32) S.x S.b d_Mpg_isNamed_28 (by decide) ?_
      exact px_iret (v := 1) S hr rfl hlk hAe hw (Nat.le_of_ble_eq_true rfl) (Nat.le_of_ble_eq_true rfl) (⟨rfl, (show (1 : Int32) = 0 ∨ (1 : Int32) = 1 from by first | exact Or.inl rfl | exact Or.inr rfl | exact z_or (by omega)), (show MnV ta (tf 5).toInt sb p0 (1 : Int) from (mnv_1 (by omega) (by omega) (show StM ta (tf 5).toInt sb _ 1 from (by have q9 := hsm9; rw [show v8.toInt = 1 by omega] at q9; exact q9))))⟩) d_Mpg_isNamed_32
set_option maxHeartbeats 4000000 in
set_option maxRecDepth 100000 in
theorem c_mp_findFunction2 (l : Launch) (D : va_G) (cs : Nat → ClassId) (h : Nat) (r : Nat → Nat) (g : Nat → Nat → Option Nat) (tf : Nat → Int32) (ta : Nat → Nat → Int32) (pf : Nat → Int32) (na : Nat → Nat → Int32) (ma : Nat → Nat → Int32) (wa : Nat → Nat → Int32) (cf : Nat → Int32) (ca : Nat → Nat → Int32) (ef : Nat → Int32) (ea : Nat → Nat → Int32) (xf : Nat → Int32) (xa : Nat → Nat → Int32) (p0 : Int32)  (g0 : 0 ≤ p0.toInt) (g1 : p0.toInt < (tf 6).toInt) (g2 : (tf 6).toInt ≤ 2049) (g3 : 0 ≤ (cf 38).toInt) (htk : TkI tf ta) (hft : FnT (tf 6).toInt na ca (cf 38).toInt) : MetI l y_Mpg_findFunction b_Mpg_findFunction 3 (.int) D cs 1 40 (0) (0) [.ref h, .int p0] [wdP cs h r g tf ta pf na ma wa cf ca ef ea xf xa] (fun _ => True) (fun v ps => (ps = [wdP cs h r g tf ta pf na ma wa cf ca ef ea xf xa]) ∧ (-1 ≤ v.toInt) ∧ (v.toInt < (cf 38).toInt) ∧ (FfV ta na ca (cf 38).toInt p0 v.toInt)) := by
  refine px_enter (by decide) (Nat.le_of_ble_eq_true rfl) ?_
  intro p e s m below meth c A ls hAe S hr hlk hnm hA hT hX hw hl
  replace hl : lv_has ls 3 [(0, .ref h), (1, .int p0)] := hl
  have lp0 := Int32.le_toInt p0
  have up0 := Int32.toInt_lt p0
  have cstm1 : ((-1) : Int32).toInt = (-1) := rfl
  have cst0 : (0 : Int32).toInt = 0 := rfl
  have hf11 := hft.1
  have J2 : ∀ (n_2 : Nat)  (x2_2 : Int32) (H : Heap) (locs : List Loc) (ls : Array Slot), (0 ≤ x2_2.toInt) → (x2_2.toInt ≤ (cf 38).toInt) → (FfL ta na ca p0 x2_2.toInt) → (cf 38).toInt - x2_2.toInt < (n_2 : Int) → pw D A s.heap H locs [wdP cs h r g tf ta pf na ma wa cf ca ef ea xf xa] → lv_has ls 3 [(0, .ref h), (1, .int p0), (2, .int x2_2)] → W p l e { frames := 1, cells := 0, slots := 0, locals := 40 } s m [.ref h, .int p0].toArray below meth c H locs 0 0 (MQ below (va_Qi (fun v ps => (ps = [wdP cs h r g tf ta pf na ma wa cf ca ef ea xf xa]) ∧ (-1 ≤ v.toInt) ∧ (v.toInt < (cf 38).toInt) ∧ (FfV ta na ca (cf 38).toInt p0 v.toInt)) (pc_B D (va_A ([wdP cs h r g tf ta pf na ma wa cf ca ef ea xf xa] : List va_W).flatten s.heap.size)) (va_A ([wdP cs h r g tf ta pf na ma wa cf ca ef ea xf xa] : List va_W).flatten s.heap.size)) [.ref h, .int p0].toArray s 0 0 A) (F0 m 2 ls []) := by
    intro  n_2
    induction n_2 with
    | zero =>
      intro x2_2 H locs ls k2_0 k2_1 k2_2 hm hw hl
      have lx2_2 := Int32.le_toInt x2_2
      have ux2_2 := Int32.toInt_lt x2_2
      have hfl := k2_2
      exact absurd hm (by omega)
    | succ n_2 ih2 =>
      intro x2_2 H locs ls k2_0 k2_1 k2_2 hm hw hl
      have lx2_2 := Int32.le_toInt x2_2
      have ux2_2 := Int32.toInt_lt x2_2
      have hfl := k2_2
      refine lv_iload_n S.x S.b d_Mpg_findFunction_2 rfl (lv_at hl 2 rfl) ?_
      refine lv_aload_n S.x S.b d_Mpg_findFunction_3 rfl (lv_at hl 0 rfl) ?_
      refine px_get S k_Mpg hT hw 0 0 38 (v := .int (cf 38)) rfl rfl rfl (by decide) m10_27 d_Mpg_findFunction_4 ?_
      refine lv_icmp_ge (tgt := 37) S.x S.b d_Mpg_findFunction_7 (by decide) (fun c1 => ?_) (fun c1 => ?_)
      · have nc1 : (cf 38).toInt ≤ x2_2.toInt := (i_le (x := (cf 38)) (y := x2_2)).mp c1
        refine lv_iconst (v := (-1)) S.x S.b d_Mpg_findFunction_37 (by decide) ?_
        exact px_iret (v := (-1)) S hr rfl hlk hAe hw (Nat.le_of_ble_eq_true rfl) (Nat.le_of_ble_eq_true rfl) (⟨rfl, (show -1 ≤ (-1 : Int) from by first | decide | omega), (show (-1 : Int) < (cf 38).toInt from by first | exact oz_3089bf86b0 k2_1 k2_0 | omega), (show FfV ta na ca (cf 38).toInt p0 (-1 : Int) from (ff_none hfl (by omega)))⟩) d_Mpg_findFunction_38
      · have nc1 : ¬ (cf 38).toInt ≤ x2_2.toInt := mt (i_le (x := (cf 38)) (y := x2_2)).mpr c1
        refine lv_aload_n S.x S.b d_Mpg_findFunction_10 rfl (lv_at hl 0 rfl) ?_
        refine lv_aload_n S.x S.b d_Mpg_findFunction_11 rfl (lv_at hl 0 rfl) ?_
        refine px_get S k_Mpg hT hw 0 0 15 (v := .ref (r 15)) rfl rfl rfl (by decide) m9_239 d_Mpg_findFunction_12 ?_
        refine lv_aload_n S.x S.b d_Mpg_findFunction_15 rfl (lv_at hl 0 rfl) ?_
        refine px_get S k_Mpg hT hw 0 0 39 (v := .ref (r 39)) rfl rfl rfl (by decide) m10_28 d_Mpg_findFunction_16 ?_
        refine lv_iload_n S.x S.b d_Mpg_findFunction_19 rfl (lv_at hl 2 rfl) ?_
        refine px_iald S hT hw 0 26 (n := 260) (f := (ca 39)) rfl gp_39 (x := x2_2) (vp_in_iff.mpr (by first | exact oz_873c269565 k2_0 nc1 hf11 | (constructor <;> omega))) d_Mpg_findFunction_20 ?_
        refine lv_topi (fun z2 ez2 => ?_)
        have lz2 := Int32.le_toInt z2
        have uz2 := Int32.toInt_lt z2
        have rz2 := FnT.at hft (x := x2_2) (by omega) (by omega) ez2
        refine px_iald S hT hw 0 11 (n := 2100) (f := (na 15)) rfl gp_15 (x := z2) (vp_in_iff.mpr (by constructor <;> omega)) d_Mpg_findFunction_21 ?_
        refine lv_topi (fun z3 ez3 => ?_)
        have lz3 := Int32.le_toInt z3
        have uz3 := Int32.toInt_lt z3
        have qz3 := rz2.2; rw [← ez3] at qz3
        refine lv_iload_n S.x S.b d_Mpg_findFunction_22 rfl (lv_at hl 1 rfl) ?_
        refine px_calli (pr := []) (px_runV (As := [.int z3, .int p0]) (rest := []) S (c_mp_sameName l D cs h r g tf ta pf na ma wa cf ca ef ea xf xa z3 p0  (show 0 ≤ z3.toInt from by first | with_reducible rfl | with_reducible assumption | omega) (show z3.toInt < (tf 6).toInt from by first | with_reducible rfl | with_reducible assumption | omega) (show 0 ≤ p0.toInt from by first | exact g0 | omega) (show p0.toInt < (tf 6).toInt from by first | exact g1 | omega) (show (tf 6).toInt ≤ 2049 from by first | exact g2 | omega) htk _) hT (pr := []) (pcs := [wdP cs h r g tf ta pf na ma wa cf ca ef ea xf xa]) hw px_X.tt (px_recv hT hw 0 0 rfl rfl rfl) m12_169 m12_166 m12_168 ms_11_11 m1_21 q_Mpg_sameName ⟨Nat.le_of_ble_eq_true rfl, Nat.le_of_ble_eq_true rfl⟩ hl.1 rfl (Nat.le_of_ble_eq_true rfl) d_Mpg_findFunction_23 ⟨Nat.le_of_ble_eq_true rfl, Nat.le_of_ble_eq_true rfl⟩) hw hA (fun v5 p4 H locs hp4 hw => ?_)
        obtain ⟨rfl, e6, e7⟩ := hp4
        have e6 := z_rng e6
        replace e7 : SmV ta z3 p0 v5.toInt := e7
        have hsv := e7
        replace hw : pw D A s.heap H locs [wdP cs h r g tf ta pf na ma wa cf ca ef ea xf xa] := hw
        have lv5 := Int32.le_toInt v5
        have uv5 := Int32.toInt_lt v5
        refine lv_if_eq (tgt := 31) S.x S.b d_Mpg_findFunction_26 (by decide) (fun c8 => ?_) (fun c8 => ?_)
        · have nc8 : v5.toInt = (0 : Int) := (i_eq (x := v5) (y := 0)).mp c8
          obtain ⟨z9, ez9⟩ : ∃ y : Int32, y = x2_2 + 1 := ⟨_, rfl⟩
          have tz9 : z9.toInt = (x2_2.toInt + 1 + 2147483648) % 4294967296 - 2147483648 := by rw [ez9]; exact i_add x2_2 1
          have lz9 := Int32.le_toInt z9
          have uz9 := Int32.toInt_lt z9
          try replace tz9 : z9.toInt = x2_2.toInt + 1 := by omega
          refine lv_iinc (v := z9) (lv' := [(2, .int z9), (0, .ref h), (1, .int p0)]) S.x S.b d_Mpg_findFunction_31 hl (k := 2) rfl (by rw [ez9]; rfl) (by decide) rfl (fun ls hl => ?_)
          refine lv_goto (tgt := 2) S.x S.b d_Mpg_findFunction_34 (by decide) ?_
          exact ih2 z9 _ _ ls (show 0 ≤ z9.toInt from by first | exact oz_ae613611c0 tz9 k2_0 | omega) (show z9.toInt ≤ (cf 38).toInt from by first | exact oz_b1314744c8 nc1 tz9 | omega) (show FfL ta na ca p0 z9.toInt from (FfL.nx hfl ez2 ez3 hsv (by omega) (by omega) (by omega))) (show (cf 38).toInt - z9.toInt < (n_2 : Int) from by first | exact oz_654393c63a hm tz9 | omega) hw (lv_sub hl [1, 2, 0] rfl)
        · have nc8 : ¬ v5.toInt = (0 : Int) := mt (i_eq (x := v5) (y := 0)).mpr c8
          refine lv_iload_n S.x S.b d_Mpg_findFunction_29 rfl (lv_at hl 2 rfl) ?_
          exact px_iret (v := x2_2) S hr rfl hlk hAe hw (Nat.le_of_ble_eq_true rfl) (Nat.le_of_ble_eq_true rfl) (⟨rfl, (show -1 ≤ x2_2.toInt from by first | exact oz_bd82420902 k2_0 | omega), (show x2_2.toInt < (cf 38).toInt from by first | exact oz_e1f61422c9 nc1 | omega), (show FfV ta na ca (cf 38).toInt p0 x2_2.toInt from (ff_some hfl ez2 ez3 hsv (by omega) (by omega) (by omega)))⟩) d_Mpg_findFunction_30
  refine lv_iconst (v := 0) S.x S.b d_Mpg_findFunction_0 (by decide) ?_
  refine lv_istore_n (lv' := [(2, .int 0), (0, .ref h), (1, .int p0)]) S.x S.b d_Mpg_findFunction_1 rfl hl (by decide) rfl (fun ls hl => ?_)
  exact J2 (((cf 38).toInt - (0 : Int)).toNat + 1) (0 : Int32) _ _ ls (show 0 ≤ (0 : Int) from by first | decide | omega) (show (0 : Int) ≤ (cf 38).toInt from by first | exact oz_50c21e157e g3 | omega) (show FfL ta na ca p0 (0 : Int) from ffl_0) (show (cf 38).toInt - (0 : Int) < (((((cf 38).toInt - (0 : Int)).toNat + 1 : Nat) : Int) : Int) from by first | exact oz_natlt | omega) hw (lv_sub hl [1, 2, 0] rfl)
abbrev b_Mpg_hasMain : ByteArray := prog_16_method_103_code
def y_Mpg_hasMain : MethodName := ⟨"HomeSystemModel$Program", "hasMain", "()Z"⟩
theorem d_Mpg_hasMain_0 : decode b_Mpg_hasMain 0 = .ok (.iconst 0, 1) := by decide +kernel
theorem d_Mpg_hasMain_1 : decode b_Mpg_hasMain 1 = .ok (.istore_n 1, 1) := by decide +kernel
theorem d_Mpg_hasMain_2 : decode b_Mpg_hasMain 2 = .ok (.iload_n 1, 1) := by decide +kernel
theorem d_Mpg_hasMain_3 : decode b_Mpg_hasMain 3 = .ok (.aload_n 0, 1) := by decide +kernel
theorem d_Mpg_hasMain_4 : decode b_Mpg_hasMain 4 = .ok (.getfield 535, 3) := by decide +kernel
theorem d_Mpg_hasMain_7 : decode b_Mpg_hasMain 7 = .ok (.if_icmp .ge 104, 3) := by decide +kernel
theorem d_Mpg_hasMain_10 : decode b_Mpg_hasMain 10 = .ok (.aload_n 0, 1) := by decide +kernel
theorem d_Mpg_hasMain_11 : decode b_Mpg_hasMain 11 = .ok (.getfield 255, 3) := by decide +kernel
theorem d_Mpg_hasMain_14 : decode b_Mpg_hasMain 14 = .ok (.iload_n 1, 1) := by decide +kernel
theorem d_Mpg_hasMain_15 : decode b_Mpg_hasMain 15 = .ok (.iaload, 1) := by decide +kernel
theorem d_Mpg_hasMain_16 : decode b_Mpg_hasMain 16 = .ok (.istore_n 2, 1) := by decide +kernel
theorem d_Mpg_hasMain_17 : decode b_Mpg_hasMain 17 = .ok (.aload_n 0, 1) := by decide +kernel
theorem d_Mpg_hasMain_18 : decode b_Mpg_hasMain 18 = .ok (.getfield 216, 3) := by decide +kernel
theorem d_Mpg_hasMain_21 : decode b_Mpg_hasMain 21 = .ok (.iload_n 2, 1) := by decide +kernel
theorem d_Mpg_hasMain_22 : decode b_Mpg_hasMain 22 = .ok (.iaload, 1) := by decide +kernel
theorem d_Mpg_hasMain_23 : decode b_Mpg_hasMain 23 = .ok (.ifCond .lt 49, 3) := by decide +kernel
theorem d_Mpg_hasMain_26 : decode b_Mpg_hasMain 26 = .ok (.aload_n 0, 1) := by decide +kernel
theorem d_Mpg_hasMain_27 : decode b_Mpg_hasMain 27 = .ok (.getfield 228, 3) := by decide +kernel
theorem d_Mpg_hasMain_30 : decode b_Mpg_hasMain 30 = .ok (.aload_n 0, 1) := by decide +kernel
theorem d_Mpg_hasMain_31 : decode b_Mpg_hasMain 31 = .ok (.getfield 216, 3) := by decide +kernel
theorem d_Mpg_hasMain_34 : decode b_Mpg_hasMain 34 = .ok (.iload_n 2, 1) := by decide +kernel
theorem d_Mpg_hasMain_35 : decode b_Mpg_hasMain 35 = .ok (.iaload, 1) := by decide +kernel
theorem d_Mpg_hasMain_36 : decode b_Mpg_hasMain 36 = .ok (.iaload, 1) := by decide +kernel
theorem d_Mpg_hasMain_37 : decode b_Mpg_hasMain 37 = .ok (.ifCond .ge 35, 3) := by decide +kernel
theorem d_Mpg_hasMain_40 : decode b_Mpg_hasMain 40 = .ok (.aload_n 0, 1) := by decide +kernel
theorem d_Mpg_hasMain_41 : decode b_Mpg_hasMain 41 = .ok (.getfield 216, 3) := by decide +kernel
theorem d_Mpg_hasMain_44 : decode b_Mpg_hasMain 44 = .ok (.aload_n 0, 1) := by decide +kernel
theorem d_Mpg_hasMain_45 : decode b_Mpg_hasMain 45 = .ok (.getfield 216, 3) := by decide +kernel
theorem d_Mpg_hasMain_48 : decode b_Mpg_hasMain 48 = .ok (.iload_n 2, 1) := by decide +kernel
theorem d_Mpg_hasMain_49 : decode b_Mpg_hasMain 49 = .ok (.iaload, 1) := by decide +kernel
theorem d_Mpg_hasMain_50 : decode b_Mpg_hasMain 50 = .ok (.iaload, 1) := by decide +kernel
theorem d_Mpg_hasMain_51 : decode b_Mpg_hasMain 51 = .ok (.ifCond .ge 21, 3) := by decide +kernel
theorem d_Mpg_hasMain_54 : decode b_Mpg_hasMain 54 = .ok (.aload_n 0, 1) := by decide +kernel
theorem d_Mpg_hasMain_55 : decode b_Mpg_hasMain 55 = .ok (.getfield 231, 3) := by decide +kernel
theorem d_Mpg_hasMain_58 : decode b_Mpg_hasMain 58 = .ok (.aload_n 0, 1) := by decide +kernel
theorem d_Mpg_hasMain_59 : decode b_Mpg_hasMain 59 = .ok (.getfield 216, 3) := by decide +kernel
theorem d_Mpg_hasMain_62 : decode b_Mpg_hasMain 62 = .ok (.iload_n 2, 1) := by decide +kernel
theorem d_Mpg_hasMain_63 : decode b_Mpg_hasMain 63 = .ok (.iaload, 1) := by decide +kernel
theorem d_Mpg_hasMain_64 : decode b_Mpg_hasMain 64 = .ok (.iaload, 1) := by decide +kernel
theorem d_Mpg_hasMain_65 : decode b_Mpg_hasMain 65 = .ok (.ifCond .ne 7, 3) := by decide +kernel
theorem d_Mpg_hasMain_68 : decode b_Mpg_hasMain 68 = .ok (.iconst 1, 1) := by decide +kernel
theorem d_Mpg_hasMain_69 : decode b_Mpg_hasMain 69 = .ok (.goto 4, 3) := by decide +kernel
theorem d_Mpg_hasMain_72 : decode b_Mpg_hasMain 72 = .ok (.iconst 0, 1) := by decide +kernel
theorem d_Mpg_hasMain_73 : decode b_Mpg_hasMain 73 = .ok (.istore_n 3, 1) := by decide +kernel
theorem d_Mpg_hasMain_74 : decode b_Mpg_hasMain 74 = .ok (.aload_n 0, 1) := by decide +kernel
theorem d_Mpg_hasMain_75 : decode b_Mpg_hasMain 75 = .ok (.aload_n 0, 1) := by decide +kernel
theorem d_Mpg_hasMain_76 : decode b_Mpg_hasMain 76 = .ok (.getfield 210, 3) := by decide +kernel
theorem d_Mpg_hasMain_79 : decode b_Mpg_hasMain 79 = .ok (.iload_n 2, 1) := by decide +kernel
theorem d_Mpg_hasMain_80 : decode b_Mpg_hasMain 80 = .ok (.iaload, 1) := by decide +kernel
theorem d_Mpg_hasMain_81 : decode b_Mpg_hasMain 81 = .ok (.ldc_w 688, 3) := by decide +kernel
theorem d_Mpg_hasMain_84 : decode b_Mpg_hasMain 84 = .ok (.invokevirtual 538, 3) := by decide +kernel
theorem d_Mpg_hasMain_87 : decode b_Mpg_hasMain 87 = .ok (.ifCond .eq 18, 3) := by decide +kernel
theorem d_Mpg_hasMain_90 : decode b_Mpg_hasMain 90 = .ok (.aload_n 0, 1) := by decide +kernel
theorem d_Mpg_hasMain_91 : decode b_Mpg_hasMain 91 = .ok (.getfield 231, 3) := by decide +kernel
theorem d_Mpg_hasMain_94 : decode b_Mpg_hasMain 94 = .ok (.iload_n 2, 1) := by decide +kernel
theorem d_Mpg_hasMain_95 : decode b_Mpg_hasMain 95 = .ok (.iaload, 1) := by decide +kernel
theorem d_Mpg_hasMain_96 : decode b_Mpg_hasMain 96 = .ok (.ifCond .ne 9, 3) := by decide +kernel
theorem d_Mpg_hasMain_99 : decode b_Mpg_hasMain 99 = .ok (.iload_n 3, 1) := by decide +kernel
theorem d_Mpg_hasMain_100 : decode b_Mpg_hasMain 100 = .ok (.ifCond .eq 5, 3) := by decide +kernel
theorem d_Mpg_hasMain_103 : decode b_Mpg_hasMain 103 = .ok (.iconst 1, 1) := by decide +kernel
theorem d_Mpg_hasMain_104 : decode b_Mpg_hasMain 104 = .ok (.ireturn, 1) := by decide +kernel
theorem d_Mpg_hasMain_105 : decode b_Mpg_hasMain 105 = .ok (.iinc 1 1, 3) := by decide +kernel
theorem d_Mpg_hasMain_108 : decode b_Mpg_hasMain 108 = .ok (.goto (-106), 3) := by decide +kernel
theorem d_Mpg_hasMain_111 : decode b_Mpg_hasMain 111 = .ok (.iconst 0, 1) := by decide +kernel
theorem d_Mpg_hasMain_112 : decode b_Mpg_hasMain 112 = .ok (.ireturn, 1) := by decide +kernel
theorem q_Mpg_hasMain : px_y y_Mpg_hasMain 0 := by unfold px_y; decide +kernel
set_option maxHeartbeats 4000000 in
set_option maxRecDepth 100000 in
theorem c_mp_hasMain (l : Launch) (D : va_G) (cs : Nat → ClassId) (sk : Nat) (st : Nat) (sb : Nat → Int32) (h : Nat) (r : Nat → Nat) (g : Nat → Nat → Option Nat) (tf : Nat → Int32) (ta : Nat → Nat → Int32) (pf : Nat → Int32) (na : Nat → Nat → Int32) (ma : Nat → Nat → Int32) (wa : Nat → Nat → Int32) (cf : Nat → Int32) (ca : Nat → Nat → Int32) (ef : Nat → Int32) (ea : Nat → Nat → Int32) (xf : Nat → Int32) (xa : Nat → Nat → Int32)  (g0 : 0 ≤ (cf 38).toInt) (g1 : (tf 6).toInt ≤ 2049) (htk : TkI tf ta) (hft : FnT (tf 6).toInt na ca (cf 38).toInt) (hfp : FnP na ca (cf 38).toInt) : MetI l y_Mpg_hasMain b_Mpg_hasMain 4 (.boolean) D cs 7 260 (0) (0) [.ref h] [wdP cs h r g tf ta pf na ma wa cf ca ef ea xf xa] (oX (fun A U H => (oP A g U H) ∧ ((vk_R "HomeSystemModel$Program" 688 "main" sk U ∧ oS A sk st 4 sb U H))) [wdP cs h r g tf ta pf na ma wa cf ca ef ea xf xa]) (fun v ps => (ps = [wdP cs h r g tf ta pf na ma wa cf ca ef ea xf xa]) ∧ (v = 0 ∨ v = 1) ∧ (HmV ta na ma ca (tf 5).toInt sb (cf 38).toInt v.toInt)) := by
  refine px_enter (by decide) (Nat.le_of_ble_eq_true rfl) ?_
  intro p e s m below meth c A ls hAe S hr hlk hnm hA hT hX hw hl
  replace hl : lv_has ls 4 [(0, .ref h)] := hl
  have cst0 : (0 : Int32).toInt = 0 := rfl
  have cst1 : (1 : Int32).toInt = 1 := rfl
  have hX : (fun A U H => (oP A g U H) ∧ ((vk_R "HomeSystemModel$Program" 688 "main" sk U ∧ oS A sk st 4 sb U H))) A s s.heap := by rw [hAe]; exact hX
  obtain ⟨hP, hMn⟩ := hX
  have hZ := hP.1
  have hF0 := hP.2.1
  have hf11 := hft.1
  have J2 : ∀ (n_2 : Nat)  (x2_1 : Int32) (H : Heap) (locs : List Loc) (ls : Array Slot), (0 ≤ x2_1.toInt) → (x2_1.toInt ≤ (cf 38).toInt) → (cf 38).toInt - x2_1.toInt < (n_2 : Int) → pw D A s.heap H locs [wdP cs h r g tf ta pf na ma wa cf ca ef ea xf xa] → lv_has ls 4 [(0, .ref h), (1, .int x2_1)] → W p l e { frames := 7, cells := 0, slots := 0, locals := 260 } s m [.ref h].toArray below meth c H locs 0 0 (MQ below (va_Qi (fun v ps => (ps = [wdP cs h r g tf ta pf na ma wa cf ca ef ea xf xa]) ∧ (v = 0 ∨ v = 1) ∧ (HmV ta na ma ca (tf 5).toInt sb (cf 38).toInt v.toInt)) (pc_B D (va_A ([wdP cs h r g tf ta pf na ma wa cf ca ef ea xf xa] : List va_W).flatten s.heap.size)) (va_A ([wdP cs h r g tf ta pf na ma wa cf ca ef ea xf xa] : List va_W).flatten s.heap.size)) [.ref h].toArray s 0 0 A) (F0 m 2 ls []) := by
    intro  n_2
    induction n_2 with
    | zero =>
      intro x2_1 H locs ls k2_0 k2_1 hm hw hl
      have lx2_1 := Int32.le_toInt x2_1
      have ux2_1 := Int32.toInt_lt x2_1
      exact absurd hm (by omega)
    | succ n_2 ih2 =>
      intro x2_1 H locs ls k2_0 k2_1 hm hw hl
      have lx2_1 := Int32.le_toInt x2_1
      have ux2_1 := Int32.toInt_lt x2_1
      refine lv_iload_n S.x S.b d_Mpg_hasMain_2 rfl (lv_at hl 1 rfl) ?_
      refine lv_aload_n S.x S.b d_Mpg_hasMain_3 rfl (lv_at hl 0 rfl) ?_
      refine px_get S k_Mpg hT hw 0 0 38 (v := .int (cf 38)) rfl rfl rfl (by decide) m10_27 d_Mpg_hasMain_4 ?_
      refine lv_icmp_ge (tgt := 111) S.x S.b d_Mpg_hasMain_7 (by decide) (fun c1 => ?_) (fun c1 => ?_)
      · have nc1 : (cf 38).toInt ≤ x2_1.toInt := (i_le (x := (cf 38)) (y := x2_1)).mp c1
        refine lv_iconst (v := 0) S.x S.b d_Mpg_hasMain_111 (by decide) ?_
        exact px_iret (v := 0) S hr rfl hlk hAe hw (Nat.le_of_ble_eq_true rfl) (Nat.le_of_ble_eq_true rfl) (⟨rfl, (show (0 : Int32) = 0 ∨ (0 : Int32) = 1 from by first | exact Or.inl rfl | exact Or.inr rfl | exact z_or (by omega)), (show HmV ta na ma ca (tf 5).toInt sb (cf 38).toInt (0 : Int) from (fun h9 => absurd h9 (by decide)))⟩) d_Mpg_hasMain_112
      · have nc1 : ¬ (cf 38).toInt ≤ x2_1.toInt := mt (i_le (x := (cf 38)) (y := x2_1)).mpr c1
        refine lv_aload_n S.x S.b d_Mpg_hasMain_10 rfl (lv_at hl 0 rfl) ?_
        refine px_get S k_Mpg hT hw 0 0 39 (v := .ref (r 39)) rfl rfl rfl (by decide) m10_28 d_Mpg_hasMain_11 ?_
        refine lv_iload_n S.x S.b d_Mpg_hasMain_14 rfl (lv_at hl 1 rfl) ?_
        refine px_iald S hT hw 0 26 (n := 260) (f := (ca 39)) rfl gp_39 (x := x2_1) (vp_in_iff.mpr (by first | exact oz_873c269565 k2_0 nc1 hf11 | (constructor <;> omega))) d_Mpg_hasMain_15 ?_
        refine lv_topi (fun z2 ez2 => ?_)
        have lz2 := Int32.le_toInt z2
        have uz2 := Int32.toInt_lt z2
        have rz2 := FnT.at hft (x := x2_1) (by omega) (by omega) ez2
        refine lv_istore_n (lv' := [(2, .int z2), (0, .ref h), (1, .int x2_1)]) S.x S.b d_Mpg_hasMain_16 rfl hl (by decide) rfl (fun ls hl => ?_)
        refine lv_aload_n S.x S.b d_Mpg_hasMain_17 rfl (lv_at hl 1 rfl) ?_
        refine px_get S k_Mpg hT hw 0 0 17 (v := .ref (r 17)) rfl rfl rfl (by decide) m10_1 d_Mpg_hasMain_18 ?_
        refine lv_iload_n S.x S.b d_Mpg_hasMain_21 rfl (lv_at hl 0 rfl) ?_
        refine px_iald S hT hw 0 13 (n := 2100) (f := (na 17)) rfl gp_17 (x := z2) (vp_in_iff.mpr (by constructor <;> omega)) d_Mpg_hasMain_22 ?_
        refine lv_topi (fun z3 ez3 => ?_)
        have lz3 := Int32.le_toInt z3
        have uz3 := Int32.toInt_lt z3
        have hpw := FnP.at hfp (by omega) (by omega) ez2 ez3; have hpa : 0 ≤ z3.toInt → z3.toInt < 2100 := fun q9 => (PrW.at hpw q9).1
        refine lv_if_lt (tgt := 72) S.x S.b d_Mpg_hasMain_23 (by decide) (fun c4 => ?_) (fun c4 => ?_)
        · have nc4 : z3.toInt < (0 : Int) := (i_lt (x := z3) (y := 0)).mp c4
          refine lv_iconst (v := 0) S.x S.b d_Mpg_hasMain_72 (by decide) ?_
          refine lv_istore_n (lv' := [(3, .int 0), (2, .int z2), (0, .ref h), (1, .int x2_1)]) S.x S.b d_Mpg_hasMain_73 rfl hl (by decide) rfl (fun ls hl => ?_)
          refine lv_aload_n S.x S.b d_Mpg_hasMain_74 rfl (lv_at hl 2 rfl) ?_
          refine lv_aload_n S.x S.b d_Mpg_hasMain_75 rfl (lv_at hl 2 rfl) ?_
          refine px_get S k_Mpg hT hw 0 0 15 (v := .ref (r 15)) rfl rfl rfl (by decide) m9_239 d_Mpg_hasMain_76 ?_
          refine lv_iload_n S.x S.b d_Mpg_hasMain_79 rfl (lv_at hl 1 rfl) ?_
          refine px_iald S hT hw 0 11 (n := 2100) (f := (na 15)) rfl gp_15 (x := z2) (vp_in_iff.mpr (by constructor <;> omega)) d_Mpg_hasMain_80 ?_
          refine lv_topi (fun z5 ez5 => ?_)
          have lz5 := Int32.le_toInt z5
          have uz5 := Int32.toInt_lt z5
          have hqz5 := rz2.2; rw [← ez5] at hqz5
          refine px_ldcwS S.x S.b S.own hMn.1 d_Mpg_hasMain_81 ?_
          refine px_calli (pr := []) (px_runV (As := [.int z5, .ref sk]) (rest := []) S (c_mp_isNamedM l D cs sk st sb h r g tf ta pf na ma wa cf ca ef ea xf xa z5  (show 0 ≤ z5.toInt from by first | with_reducible rfl | with_reducible assumption | omega) (show z5.toInt < (tf 6).toInt from by first | with_reducible rfl | with_reducible assumption | omega) (show (tf 6).toInt ≤ 2049 from by first | exact g1 | omega) htk _) hT (pr := []) (pcs := [wdP cs h r g tf ta pf na ma wa cf ca ef ea xf xa]) hw (oX_call (P := (fun A U H => (oP A g U H) ∧ ((vk_R "HomeSystemModel$Program" 688 "main" sk U ∧ oS A sk st 4 sb U H)))) (pr := []) (oG_and oG_P (oG_and oG_L oG_S)) hw hA ⟨hP, hMn⟩) (px_recv hT hw 0 0 rfl rfl rfl) m12_161 m12_158 m12_160 ms_11_9 m1_21 q_Mpg_isNamed ⟨Nat.le_of_ble_eq_true rfl, Nat.le_of_ble_eq_true rfl⟩ hl.1 rfl (Nat.le_of_ble_eq_true rfl) d_Mpg_hasMain_84 ⟨Nat.le_of_ble_eq_true rfl, Nat.le_of_ble_eq_true rfl⟩) hw hA (fun v7 p6 H locs hp6 hw => ?_)
          obtain ⟨rfl, e8, e9⟩ := hp6
          have e8 := z_rng e8
          replace e9 : MnV ta (tf 5).toInt sb z5 v7.toInt := e9
          have hmn := e9
          replace hw : pw D A s.heap H locs [wdP cs h r g tf ta pf na ma wa cf ca ef ea xf xa] := hw
          have lv7 := Int32.le_toInt v7
          have uv7 := Int32.toInt_lt v7
          refine lv_if_eq (tgt := 105) S.x S.b d_Mpg_hasMain_87 (by decide) (fun c10 => ?_) (fun c10 => ?_)
          · have nc10 : v7.toInt = (0 : Int) := (i_eq (x := v7) (y := 0)).mp c10
            obtain ⟨z11, ez11⟩ : ∃ y : Int32, y = x2_1 + 1 := ⟨_, rfl⟩
            have tz11 : z11.toInt = (x2_1.toInt + 1 + 2147483648) % 4294967296 - 2147483648 := by rw [ez11]; exact i_add x2_1 1
            have lz11 := Int32.le_toInt z11
            have uz11 := Int32.toInt_lt z11
            try replace tz11 : z11.toInt = x2_1.toInt + 1 := by omega
            refine lv_iinc (v := z11) (lv' := [(1, .int z11), (3, .int 0), (2, .int z2), (0, .ref h)]) S.x S.b d_Mpg_hasMain_105 hl (k := 3) rfl (by rw [ez11]; rfl) (by decide) rfl (fun ls hl => ?_)
            refine lv_goto (tgt := 2) S.x S.b d_Mpg_hasMain_108 (by decide) ?_
            exact ih2 z11 _ _ ls (show 0 ≤ z11.toInt from by first | exact oz_ae613611c0 tz11 k2_0 | omega) (show z11.toInt ≤ (cf 38).toInt from by first | exact oz_b1314744c8 nc1 tz11 | omega) (show (cf 38).toInt - z11.toInt < (n_2 : Int) from by first | exact oz_654393c63a hm tz11 | omega) hw (lv_sub hl [3, 0] rfl)
          · have nc10 : ¬ v7.toInt = (0 : Int) := mt (i_eq (x := v7) (y := 0)).mpr c10
            refine lv_aload_n S.x S.b d_Mpg_hasMain_90 rfl (lv_at hl 2 rfl) ?_
            refine px_get S k_Mpg hT hw 0 0 22 (v := .ref (r 22)) rfl rfl rfl (by decide) m10_9 d_Mpg_hasMain_91 ?_
            refine lv_iload_n S.x S.b d_Mpg_hasMain_94 rfl (lv_at hl 1 rfl) ?_
            refine px_iald S hT hw 0 18 (n := 2100) (f := (ma 22)) rfl gp_22 (x := z2) (vp_in_iff.mpr (by constructor <;> omega)) d_Mpg_hasMain_95 ?_
            refine lv_topi (fun z12 ez12 => ?_)
            have lz12 := Int32.le_toInt z12
            have uz12 := Int32.toInt_lt z12
            refine lv_if_ne (tgt := 105) S.x S.b d_Mpg_hasMain_96 (by decide) (fun c13 => ?_) (fun c13 => ?_)
            · have nc13 : ¬ z12.toInt = (0 : Int) := mt (i_eq (x := z12) (y := 0)).mpr c13
              obtain ⟨z14, ez14⟩ : ∃ y : Int32, y = x2_1 + 1 := ⟨_, rfl⟩
              have tz14 : z14.toInt = (x2_1.toInt + 1 + 2147483648) % 4294967296 - 2147483648 := by rw [ez14]; exact i_add x2_1 1
              have lz14 := Int32.le_toInt z14
              have uz14 := Int32.toInt_lt z14
              try replace tz14 : z14.toInt = x2_1.toInt + 1 := by omega
              refine lv_iinc (v := z14) (lv' := [(1, .int z14), (3, .int 0), (2, .int z2), (0, .ref h)]) S.x S.b d_Mpg_hasMain_105 hl (k := 3) rfl (by rw [ez14]; rfl) (by decide) rfl (fun ls hl => ?_)
              refine lv_goto (tgt := 2) S.x S.b d_Mpg_hasMain_108 (by decide) ?_
              exact ih2 z14 _ _ ls (show 0 ≤ z14.toInt from by first | exact oz_ae613611c0 tz14 k2_0 | omega) (show z14.toInt ≤ (cf 38).toInt from by first | exact oz_b1314744c8 nc1 tz14 | omega) (show (cf 38).toInt - z14.toInt < (n_2 : Int) from by first | exact oz_654393c63a hm tz14 | omega) hw (lv_sub hl [3, 0] rfl)
            · have nc13 : z12.toInt = (0 : Int) := (i_eq (x := z12) (y := 0)).mp c13
              refine lv_iload_n S.x S.b d_Mpg_hasMain_99 rfl (lv_at hl 0 rfl) ?_
              refine lv_if_eq (tgt := 105) S.x S.b d_Mpg_hasMain_100 (by decide) (fun c15 => ?_) (fun c15 => ?_)
              ·
                obtain ⟨z16, ez16⟩ : ∃ y : Int32, y = x2_1 + 1 := ⟨_, rfl⟩
                have tz16 : z16.toInt = (x2_1.toInt + 1 + 2147483648) % 4294967296 - 2147483648 := by rw [ez16]; exact i_add x2_1 1
                have lz16 := Int32.le_toInt z16
                have uz16 := Int32.toInt_lt z16
                try replace tz16 : z16.toInt = x2_1.toInt + 1 := by omega
                refine lv_iinc (v := z16) (lv' := [(1, .int z16), (3, .int 0), (2, .int z2), (0, .ref h)]) S.x S.b d_Mpg_hasMain_105 hl (k := 3) rfl (by rw [ez16]; rfl) (by decide) rfl (fun ls hl => ?_)
                refine lv_goto (tgt := 2) S.x S.b d_Mpg_hasMain_108 (by decide) ?_
                exact ih2 z16 _ _ ls (show 0 ≤ z16.toInt from by first | exact oz_ae613611c0 tz16 k2_0 | omega) (show z16.toInt ≤ (cf 38).toInt from by first | exact oz_b1314744c8 nc1 tz16 | omega) (show (cf 38).toInt - z16.toInt < (n_2 : Int) from by first | exact oz_654393c63a hm tz16 | omega) hw (lv_sub hl [3, 0] rfl)
              · exact absurd c15 (by decide)
        · have nc4 : ¬ z3.toInt < (0 : Int) := mt (i_lt (x := z3) (y := 0)).mpr c4
          refine lv_aload_n S.x S.b d_Mpg_hasMain_26 rfl (lv_at hl 1 rfl) ?_
          refine px_get S k_Mpg hT hw 0 0 21 (v := .ref (r 21)) rfl rfl rfl (by decide) m10_7 d_Mpg_hasMain_27 ?_
          refine lv_aload_n S.x S.b d_Mpg_hasMain_30 rfl (lv_at hl 1 rfl) ?_
          refine px_get S k_Mpg hT hw 0 0 17 (v := .ref (r 17)) rfl rfl rfl (by decide) m10_1 d_Mpg_hasMain_31 ?_
          refine lv_iload_n S.x S.b d_Mpg_hasMain_34 rfl (lv_at hl 0 rfl) ?_
          refine px_iald S hT hw 0 13 (n := 2100) (f := (na 17)) rfl gp_17 (x := z2) (vp_in_iff.mpr (by constructor <;> omega)) d_Mpg_hasMain_35 ?_
          refine lv_topi (fun z17 ez17 => ?_)
          have lz17 := Int32.le_toInt z17
          have uz17 := Int32.toInt_lt z17
          have hsz17 : z3 = z17 := ez3.trans ez17.symm; subst hsz17
          refine px_iald S hT hw 0 17 (n := 2100) (f := (na 21)) rfl gp_21 (x := z3) (vp_in_iff.mpr (by first | exact oz_426bac7366 nc4 hpa | (constructor <;> omega))) d_Mpg_hasMain_36 ?_
          refine lv_topi (fun z18 ez18 => ?_)
          have lz18 := Int32.le_toInt z18
          have uz18 := Int32.toInt_lt z18
          refine lv_if_ge (tgt := 72) S.x S.b d_Mpg_hasMain_37 (by decide) (fun c19 => ?_) (fun c19 => ?_)
          · have nc19 : (0 : Int) ≤ z18.toInt := (i_le (x := 0) (y := z18)).mp c19
            refine lv_iconst (v := 0) S.x S.b d_Mpg_hasMain_72 (by decide) ?_
            refine lv_istore_n (lv' := [(3, .int 0), (2, .int z2), (0, .ref h), (1, .int x2_1)]) S.x S.b d_Mpg_hasMain_73 rfl hl (by decide) rfl (fun ls hl => ?_)
            refine lv_aload_n S.x S.b d_Mpg_hasMain_74 rfl (lv_at hl 2 rfl) ?_
            refine lv_aload_n S.x S.b d_Mpg_hasMain_75 rfl (lv_at hl 2 rfl) ?_
            refine px_get S k_Mpg hT hw 0 0 15 (v := .ref (r 15)) rfl rfl rfl (by decide) m9_239 d_Mpg_hasMain_76 ?_
            refine lv_iload_n S.x S.b d_Mpg_hasMain_79 rfl (lv_at hl 1 rfl) ?_
            refine px_iald S hT hw 0 11 (n := 2100) (f := (na 15)) rfl gp_15 (x := z2) (vp_in_iff.mpr (by constructor <;> omega)) d_Mpg_hasMain_80 ?_
            refine lv_topi (fun z20 ez20 => ?_)
            have lz20 := Int32.le_toInt z20
            have uz20 := Int32.toInt_lt z20
            have hqz20 := rz2.2; rw [← ez20] at hqz20
            refine px_ldcwS S.x S.b S.own hMn.1 d_Mpg_hasMain_81 ?_
            refine px_calli (pr := []) (px_runV (As := [.int z20, .ref sk]) (rest := []) S (c_mp_isNamedM l D cs sk st sb h r g tf ta pf na ma wa cf ca ef ea xf xa z20  (show 0 ≤ z20.toInt from by first | with_reducible rfl | with_reducible assumption | omega) (show z20.toInt < (tf 6).toInt from by first | with_reducible rfl | with_reducible assumption | omega) (show (tf 6).toInt ≤ 2049 from by first | exact g1 | omega) htk _) hT (pr := []) (pcs := [wdP cs h r g tf ta pf na ma wa cf ca ef ea xf xa]) hw (oX_call (P := (fun A U H => (oP A g U H) ∧ ((vk_R "HomeSystemModel$Program" 688 "main" sk U ∧ oS A sk st 4 sb U H)))) (pr := []) (oG_and oG_P (oG_and oG_L oG_S)) hw hA ⟨hP, hMn⟩) (px_recv hT hw 0 0 rfl rfl rfl) m12_161 m12_158 m12_160 ms_11_9 m1_21 q_Mpg_isNamed ⟨Nat.le_of_ble_eq_true rfl, Nat.le_of_ble_eq_true rfl⟩ hl.1 rfl (Nat.le_of_ble_eq_true rfl) d_Mpg_hasMain_84 ⟨Nat.le_of_ble_eq_true rfl, Nat.le_of_ble_eq_true rfl⟩) hw hA (fun v22 p21 H locs hp21 hw => ?_)
            obtain ⟨rfl, e23, e24⟩ := hp21
            have e23 := z_rng e23
            replace e24 : MnV ta (tf 5).toInt sb z20 v22.toInt := e24
            have hmn := e24
            replace hw : pw D A s.heap H locs [wdP cs h r g tf ta pf na ma wa cf ca ef ea xf xa] := hw
            have lv22 := Int32.le_toInt v22
            have uv22 := Int32.toInt_lt v22
            refine lv_if_eq (tgt := 105) S.x S.b d_Mpg_hasMain_87 (by decide) (fun c25 => ?_) (fun c25 => ?_)
            · have nc25 : v22.toInt = (0 : Int) := (i_eq (x := v22) (y := 0)).mp c25
              obtain ⟨z26, ez26⟩ : ∃ y : Int32, y = x2_1 + 1 := ⟨_, rfl⟩
              have tz26 : z26.toInt = (x2_1.toInt + 1 + 2147483648) % 4294967296 - 2147483648 := by rw [ez26]; exact i_add x2_1 1
              have lz26 := Int32.le_toInt z26
              have uz26 := Int32.toInt_lt z26
              try replace tz26 : z26.toInt = x2_1.toInt + 1 := by omega
              refine lv_iinc (v := z26) (lv' := [(1, .int z26), (3, .int 0), (2, .int z2), (0, .ref h)]) S.x S.b d_Mpg_hasMain_105 hl (k := 3) rfl (by rw [ez26]; rfl) (by decide) rfl (fun ls hl => ?_)
              refine lv_goto (tgt := 2) S.x S.b d_Mpg_hasMain_108 (by decide) ?_
              exact ih2 z26 _ _ ls (show 0 ≤ z26.toInt from by first | exact oz_ae613611c0 tz26 k2_0 | omega) (show z26.toInt ≤ (cf 38).toInt from by first | exact oz_b1314744c8 nc1 tz26 | omega) (show (cf 38).toInt - z26.toInt < (n_2 : Int) from by first | exact oz_654393c63a hm tz26 | omega) hw (lv_sub hl [3, 0] rfl)
            · have nc25 : ¬ v22.toInt = (0 : Int) := mt (i_eq (x := v22) (y := 0)).mpr c25
              refine lv_aload_n S.x S.b d_Mpg_hasMain_90 rfl (lv_at hl 2 rfl) ?_
              refine px_get S k_Mpg hT hw 0 0 22 (v := .ref (r 22)) rfl rfl rfl (by decide) m10_9 d_Mpg_hasMain_91 ?_
              refine lv_iload_n S.x S.b d_Mpg_hasMain_94 rfl (lv_at hl 1 rfl) ?_
              refine px_iald S hT hw 0 18 (n := 2100) (f := (ma 22)) rfl gp_22 (x := z2) (vp_in_iff.mpr (by constructor <;> omega)) d_Mpg_hasMain_95 ?_
              refine lv_topi (fun z27 ez27 => ?_)
              have lz27 := Int32.le_toInt z27
              have uz27 := Int32.toInt_lt z27
              refine lv_if_ne (tgt := 105) S.x S.b d_Mpg_hasMain_96 (by decide) (fun c28 => ?_) (fun c28 => ?_)
              · have nc28 : ¬ z27.toInt = (0 : Int) := mt (i_eq (x := z27) (y := 0)).mpr c28
                obtain ⟨z29, ez29⟩ : ∃ y : Int32, y = x2_1 + 1 := ⟨_, rfl⟩
                have tz29 : z29.toInt = (x2_1.toInt + 1 + 2147483648) % 4294967296 - 2147483648 := by rw [ez29]; exact i_add x2_1 1
                have lz29 := Int32.le_toInt z29
                have uz29 := Int32.toInt_lt z29
                try replace tz29 : z29.toInt = x2_1.toInt + 1 := by omega
                refine lv_iinc (v := z29) (lv' := [(1, .int z29), (3, .int 0), (2, .int z2), (0, .ref h)]) S.x S.b d_Mpg_hasMain_105 hl (k := 3) rfl (by rw [ez29]; rfl) (by decide) rfl (fun ls hl => ?_)
                refine lv_goto (tgt := 2) S.x S.b d_Mpg_hasMain_108 (by decide) ?_
                exact ih2 z29 _ _ ls (show 0 ≤ z29.toInt from by first | exact oz_ae613611c0 tz29 k2_0 | omega) (show z29.toInt ≤ (cf 38).toInt from by first | exact oz_b1314744c8 nc1 tz29 | omega) (show (cf 38).toInt - z29.toInt < (n_2 : Int) from by first | exact oz_654393c63a hm tz29 | omega) hw (lv_sub hl [3, 0] rfl)
              · have nc28 : z27.toInt = (0 : Int) := (i_eq (x := z27) (y := 0)).mp c28
                refine lv_iload_n S.x S.b d_Mpg_hasMain_99 rfl (lv_at hl 0 rfl) ?_
                refine lv_if_eq (tgt := 105) S.x S.b d_Mpg_hasMain_100 (by decide) (fun c30 => ?_) (fun c30 => ?_)
                ·
                  obtain ⟨z31, ez31⟩ : ∃ y : Int32, y = x2_1 + 1 := ⟨_, rfl⟩
                  have tz31 : z31.toInt = (x2_1.toInt + 1 + 2147483648) % 4294967296 - 2147483648 := by rw [ez31]; exact i_add x2_1 1
                  have lz31 := Int32.le_toInt z31
                  have uz31 := Int32.toInt_lt z31
                  try replace tz31 : z31.toInt = x2_1.toInt + 1 := by omega
                  refine lv_iinc (v := z31) (lv' := [(1, .int z31), (3, .int 0), (2, .int z2), (0, .ref h)]) S.x S.b d_Mpg_hasMain_105 hl (k := 3) rfl (by rw [ez31]; rfl) (by decide) rfl (fun ls hl => ?_)
                  refine lv_goto (tgt := 2) S.x S.b d_Mpg_hasMain_108 (by decide) ?_
                  exact ih2 z31 _ _ ls (show 0 ≤ z31.toInt from by first | exact oz_ae613611c0 tz31 k2_0 | omega) (show z31.toInt ≤ (cf 38).toInt from by first | exact oz_b1314744c8 nc1 tz31 | omega) (show (cf 38).toInt - z31.toInt < (n_2 : Int) from by first | exact oz_654393c63a hm tz31 | omega) hw (lv_sub hl [3, 0] rfl)
                · exact absurd c30 (by decide)
          · have nc19 : ¬ (0 : Int) ≤ z18.toInt := mt (i_le (x := 0) (y := z18)).mpr c19
            refine lv_aload_n S.x S.b d_Mpg_hasMain_40 rfl (lv_at hl 1 rfl) ?_
            refine px_get S k_Mpg hT hw 0 0 17 (v := .ref (r 17)) rfl rfl rfl (by decide) m10_1 d_Mpg_hasMain_41 ?_
            refine lv_aload_n S.x S.b d_Mpg_hasMain_44 rfl (lv_at hl 1 rfl) ?_
            refine px_get S k_Mpg hT hw 0 0 17 (v := .ref (r 17)) rfl rfl rfl (by decide) m10_1 d_Mpg_hasMain_45 ?_
            refine lv_iload_n S.x S.b d_Mpg_hasMain_48 rfl (lv_at hl 0 rfl) ?_
            refine px_iald S hT hw 0 13 (n := 2100) (f := (na 17)) rfl gp_17 (x := z2) (vp_in_iff.mpr (by constructor <;> omega)) d_Mpg_hasMain_49 ?_
            refine lv_topi (fun z32 ez32 => ?_)
            have lz32 := Int32.le_toInt z32
            have uz32 := Int32.toInt_lt z32
            have hsz32 : z3 = z32 := ez3.trans ez32.symm; subst hsz32
            refine px_iald S hT hw 0 13 (n := 2100) (f := (na 17)) rfl gp_17 (x := z3) (vp_in_iff.mpr (by first | exact oz_426bac7366 nc4 hpa | (constructor <;> omega))) d_Mpg_hasMain_50 ?_
            refine lv_topi (fun z33 ez33 => ?_)
            have lz33 := Int32.le_toInt z33
            have uz33 := Int32.toInt_lt z33
            refine lv_if_ge (tgt := 72) S.x S.b d_Mpg_hasMain_51 (by decide) (fun c34 => ?_) (fun c34 => ?_)
            · have nc34 : (0 : Int) ≤ z33.toInt := (i_le (x := 0) (y := z33)).mp c34
              refine lv_iconst (v := 0) S.x S.b d_Mpg_hasMain_72 (by decide) ?_
              refine lv_istore_n (lv' := [(3, .int 0), (2, .int z2), (0, .ref h), (1, .int x2_1)]) S.x S.b d_Mpg_hasMain_73 rfl hl (by decide) rfl (fun ls hl => ?_)
              refine lv_aload_n S.x S.b d_Mpg_hasMain_74 rfl (lv_at hl 2 rfl) ?_
              refine lv_aload_n S.x S.b d_Mpg_hasMain_75 rfl (lv_at hl 2 rfl) ?_
              refine px_get S k_Mpg hT hw 0 0 15 (v := .ref (r 15)) rfl rfl rfl (by decide) m9_239 d_Mpg_hasMain_76 ?_
              refine lv_iload_n S.x S.b d_Mpg_hasMain_79 rfl (lv_at hl 1 rfl) ?_
              refine px_iald S hT hw 0 11 (n := 2100) (f := (na 15)) rfl gp_15 (x := z2) (vp_in_iff.mpr (by constructor <;> omega)) d_Mpg_hasMain_80 ?_
              refine lv_topi (fun z35 ez35 => ?_)
              have lz35 := Int32.le_toInt z35
              have uz35 := Int32.toInt_lt z35
              have hqz35 := rz2.2; rw [← ez35] at hqz35
              refine px_ldcwS S.x S.b S.own hMn.1 d_Mpg_hasMain_81 ?_
              refine px_calli (pr := []) (px_runV (As := [.int z35, .ref sk]) (rest := []) S (c_mp_isNamedM l D cs sk st sb h r g tf ta pf na ma wa cf ca ef ea xf xa z35  (show 0 ≤ z35.toInt from by first | with_reducible rfl | with_reducible assumption | omega) (show z35.toInt < (tf 6).toInt from by first | with_reducible rfl | with_reducible assumption | omega) (show (tf 6).toInt ≤ 2049 from by first | exact g1 | omega) htk _) hT (pr := []) (pcs := [wdP cs h r g tf ta pf na ma wa cf ca ef ea xf xa]) hw (oX_call (P := (fun A U H => (oP A g U H) ∧ ((vk_R "HomeSystemModel$Program" 688 "main" sk U ∧ oS A sk st 4 sb U H)))) (pr := []) (oG_and oG_P (oG_and oG_L oG_S)) hw hA ⟨hP, hMn⟩) (px_recv hT hw 0 0 rfl rfl rfl) m12_161 m12_158 m12_160 ms_11_9 m1_21 q_Mpg_isNamed ⟨Nat.le_of_ble_eq_true rfl, Nat.le_of_ble_eq_true rfl⟩ hl.1 rfl (Nat.le_of_ble_eq_true rfl) d_Mpg_hasMain_84 ⟨Nat.le_of_ble_eq_true rfl, Nat.le_of_ble_eq_true rfl⟩) hw hA (fun v37 p36 H locs hp36 hw => ?_)
              obtain ⟨rfl, e38, e39⟩ := hp36
              have e38 := z_rng e38
              replace e39 : MnV ta (tf 5).toInt sb z35 v37.toInt := e39
              have hmn := e39
              replace hw : pw D A s.heap H locs [wdP cs h r g tf ta pf na ma wa cf ca ef ea xf xa] := hw
              have lv37 := Int32.le_toInt v37
              have uv37 := Int32.toInt_lt v37
              refine lv_if_eq (tgt := 105) S.x S.b d_Mpg_hasMain_87 (by decide) (fun c40 => ?_) (fun c40 => ?_)
              · have nc40 : v37.toInt = (0 : Int) := (i_eq (x := v37) (y := 0)).mp c40
                obtain ⟨z41, ez41⟩ : ∃ y : Int32, y = x2_1 + 1 := ⟨_, rfl⟩
                have tz41 : z41.toInt = (x2_1.toInt + 1 + 2147483648) % 4294967296 - 2147483648 := by rw [ez41]; exact i_add x2_1 1
                have lz41 := Int32.le_toInt z41
                have uz41 := Int32.toInt_lt z41
                try replace tz41 : z41.toInt = x2_1.toInt + 1 := by omega
                refine lv_iinc (v := z41) (lv' := [(1, .int z41), (3, .int 0), (2, .int z2), (0, .ref h)]) S.x S.b d_Mpg_hasMain_105 hl (k := 3) rfl (by rw [ez41]; rfl) (by decide) rfl (fun ls hl => ?_)
                refine lv_goto (tgt := 2) S.x S.b d_Mpg_hasMain_108 (by decide) ?_
                exact ih2 z41 _ _ ls (show 0 ≤ z41.toInt from by first | exact oz_ae613611c0 tz41 k2_0 | omega) (show z41.toInt ≤ (cf 38).toInt from by first | exact oz_b1314744c8 nc1 tz41 | omega) (show (cf 38).toInt - z41.toInt < (n_2 : Int) from by first | exact oz_654393c63a hm tz41 | omega) hw (lv_sub hl [3, 0] rfl)
              · have nc40 : ¬ v37.toInt = (0 : Int) := mt (i_eq (x := v37) (y := 0)).mpr c40
                refine lv_aload_n S.x S.b d_Mpg_hasMain_90 rfl (lv_at hl 2 rfl) ?_
                refine px_get S k_Mpg hT hw 0 0 22 (v := .ref (r 22)) rfl rfl rfl (by decide) m10_9 d_Mpg_hasMain_91 ?_
                refine lv_iload_n S.x S.b d_Mpg_hasMain_94 rfl (lv_at hl 1 rfl) ?_
                refine px_iald S hT hw 0 18 (n := 2100) (f := (ma 22)) rfl gp_22 (x := z2) (vp_in_iff.mpr (by constructor <;> omega)) d_Mpg_hasMain_95 ?_
                refine lv_topi (fun z42 ez42 => ?_)
                have lz42 := Int32.le_toInt z42
                have uz42 := Int32.toInt_lt z42
                refine lv_if_ne (tgt := 105) S.x S.b d_Mpg_hasMain_96 (by decide) (fun c43 => ?_) (fun c43 => ?_)
                · have nc43 : ¬ z42.toInt = (0 : Int) := mt (i_eq (x := z42) (y := 0)).mpr c43
                  obtain ⟨z44, ez44⟩ : ∃ y : Int32, y = x2_1 + 1 := ⟨_, rfl⟩
                  have tz44 : z44.toInt = (x2_1.toInt + 1 + 2147483648) % 4294967296 - 2147483648 := by rw [ez44]; exact i_add x2_1 1
                  have lz44 := Int32.le_toInt z44
                  have uz44 := Int32.toInt_lt z44
                  try replace tz44 : z44.toInt = x2_1.toInt + 1 := by omega
                  refine lv_iinc (v := z44) (lv' := [(1, .int z44), (3, .int 0), (2, .int z2), (0, .ref h)]) S.x S.b d_Mpg_hasMain_105 hl (k := 3) rfl (by rw [ez44]; rfl) (by decide) rfl (fun ls hl => ?_)
                  refine lv_goto (tgt := 2) S.x S.b d_Mpg_hasMain_108 (by decide) ?_
                  exact ih2 z44 _ _ ls (show 0 ≤ z44.toInt from by first | exact oz_ae613611c0 tz44 k2_0 | omega) (show z44.toInt ≤ (cf 38).toInt from by first | exact oz_b1314744c8 nc1 tz44 | omega) (show (cf 38).toInt - z44.toInt < (n_2 : Int) from by first | exact oz_654393c63a hm tz44 | omega) hw (lv_sub hl [3, 0] rfl)
                · have nc43 : z42.toInt = (0 : Int) := (i_eq (x := z42) (y := 0)).mp c43
                  refine lv_iload_n S.x S.b d_Mpg_hasMain_99 rfl (lv_at hl 0 rfl) ?_
                  refine lv_if_eq (tgt := 105) S.x S.b d_Mpg_hasMain_100 (by decide) (fun c45 => ?_) (fun c45 => ?_)
                  ·
                    obtain ⟨z46, ez46⟩ : ∃ y : Int32, y = x2_1 + 1 := ⟨_, rfl⟩
                    have tz46 : z46.toInt = (x2_1.toInt + 1 + 2147483648) % 4294967296 - 2147483648 := by rw [ez46]; exact i_add x2_1 1
                    have lz46 := Int32.le_toInt z46
                    have uz46 := Int32.toInt_lt z46
                    try replace tz46 : z46.toInt = x2_1.toInt + 1 := by omega
                    refine lv_iinc (v := z46) (lv' := [(1, .int z46), (3, .int 0), (2, .int z2), (0, .ref h)]) S.x S.b d_Mpg_hasMain_105 hl (k := 3) rfl (by rw [ez46]; rfl) (by decide) rfl (fun ls hl => ?_)
                    refine lv_goto (tgt := 2) S.x S.b d_Mpg_hasMain_108 (by decide) ?_
                    exact ih2 z46 _ _ ls (show 0 ≤ z46.toInt from by first | exact oz_ae613611c0 tz46 k2_0 | omega) (show z46.toInt ≤ (cf 38).toInt from by first | exact oz_b1314744c8 nc1 tz46 | omega) (show (cf 38).toInt - z46.toInt < (n_2 : Int) from by first | exact oz_654393c63a hm tz46 | omega) hw (lv_sub hl [3, 0] rfl)
                  · exact absurd c45 (by decide)
            · have nc34 : ¬ (0 : Int) ≤ z33.toInt := mt (i_le (x := 0) (y := z33)).mpr c34
              refine lv_aload_n S.x S.b d_Mpg_hasMain_54 rfl (lv_at hl 1 rfl) ?_
              refine px_get S k_Mpg hT hw 0 0 22 (v := .ref (r 22)) rfl rfl rfl (by decide) m10_9 d_Mpg_hasMain_55 ?_
              refine lv_aload_n S.x S.b d_Mpg_hasMain_58 rfl (lv_at hl 1 rfl) ?_
              refine px_get S k_Mpg hT hw 0 0 17 (v := .ref (r 17)) rfl rfl rfl (by decide) m10_1 d_Mpg_hasMain_59 ?_
              refine lv_iload_n S.x S.b d_Mpg_hasMain_62 rfl (lv_at hl 0 rfl) ?_
              refine px_iald S hT hw 0 13 (n := 2100) (f := (na 17)) rfl gp_17 (x := z2) (vp_in_iff.mpr (by constructor <;> omega)) d_Mpg_hasMain_63 ?_
              refine lv_topi (fun z47 ez47 => ?_)
              have lz47 := Int32.le_toInt z47
              have uz47 := Int32.toInt_lt z47
              have hsz47 : z3 = z47 := ez3.trans ez47.symm; subst hsz47
              refine px_iald S hT hw 0 18 (n := 2100) (f := (ma 22)) rfl gp_22 (x := z3) (vp_in_iff.mpr (by first | exact oz_426bac7366 nc4 hpa | (constructor <;> omega))) d_Mpg_hasMain_64 ?_
              refine lv_topi (fun z48 ez48 => ?_)
              have lz48 := Int32.le_toInt z48
              have uz48 := Int32.toInt_lt z48
              refine lv_if_ne (tgt := 72) S.x S.b d_Mpg_hasMain_65 (by decide) (fun c49 => ?_) (fun c49 => ?_)
              · have nc49 : ¬ z48.toInt = (0 : Int) := mt (i_eq (x := z48) (y := 0)).mpr c49
                refine lv_iconst (v := 0) S.x S.b d_Mpg_hasMain_72 (by decide) ?_
                refine lv_istore_n (lv' := [(3, .int 0), (2, .int z2), (0, .ref h), (1, .int x2_1)]) S.x S.b d_Mpg_hasMain_73 rfl hl (by decide) rfl (fun ls hl => ?_)
                refine lv_aload_n S.x S.b d_Mpg_hasMain_74 rfl (lv_at hl 2 rfl) ?_
                refine lv_aload_n S.x S.b d_Mpg_hasMain_75 rfl (lv_at hl 2 rfl) ?_
                refine px_get S k_Mpg hT hw 0 0 15 (v := .ref (r 15)) rfl rfl rfl (by decide) m9_239 d_Mpg_hasMain_76 ?_
                refine lv_iload_n S.x S.b d_Mpg_hasMain_79 rfl (lv_at hl 1 rfl) ?_
                refine px_iald S hT hw 0 11 (n := 2100) (f := (na 15)) rfl gp_15 (x := z2) (vp_in_iff.mpr (by constructor <;> omega)) d_Mpg_hasMain_80 ?_
                refine lv_topi (fun z50 ez50 => ?_)
                have lz50 := Int32.le_toInt z50
                have uz50 := Int32.toInt_lt z50
                have hqz50 := rz2.2; rw [← ez50] at hqz50
                refine px_ldcwS S.x S.b S.own hMn.1 d_Mpg_hasMain_81 ?_
                refine px_calli (pr := []) (px_runV (As := [.int z50, .ref sk]) (rest := []) S (c_mp_isNamedM l D cs sk st sb h r g tf ta pf na ma wa cf ca ef ea xf xa z50  (show 0 ≤ z50.toInt from by first | with_reducible rfl | with_reducible assumption | omega) (show z50.toInt < (tf 6).toInt from by first | with_reducible rfl | with_reducible assumption | omega) (show (tf 6).toInt ≤ 2049 from by first | exact g1 | omega) htk _) hT (pr := []) (pcs := [wdP cs h r g tf ta pf na ma wa cf ca ef ea xf xa]) hw (oX_call (P := (fun A U H => (oP A g U H) ∧ ((vk_R "HomeSystemModel$Program" 688 "main" sk U ∧ oS A sk st 4 sb U H)))) (pr := []) (oG_and oG_P (oG_and oG_L oG_S)) hw hA ⟨hP, hMn⟩) (px_recv hT hw 0 0 rfl rfl rfl) m12_161 m12_158 m12_160 ms_11_9 m1_21 q_Mpg_isNamed ⟨Nat.le_of_ble_eq_true rfl, Nat.le_of_ble_eq_true rfl⟩ hl.1 rfl (Nat.le_of_ble_eq_true rfl) d_Mpg_hasMain_84 ⟨Nat.le_of_ble_eq_true rfl, Nat.le_of_ble_eq_true rfl⟩) hw hA (fun v52 p51 H locs hp51 hw => ?_)
                obtain ⟨rfl, e53, e54⟩ := hp51
                have e53 := z_rng e53
                replace e54 : MnV ta (tf 5).toInt sb z50 v52.toInt := e54
                have hmn := e54
                replace hw : pw D A s.heap H locs [wdP cs h r g tf ta pf na ma wa cf ca ef ea xf xa] := hw
                have lv52 := Int32.le_toInt v52
                have uv52 := Int32.toInt_lt v52
                refine lv_if_eq (tgt := 105) S.x S.b d_Mpg_hasMain_87 (by decide) (fun c55 => ?_) (fun c55 => ?_)
                · have nc55 : v52.toInt = (0 : Int) := (i_eq (x := v52) (y := 0)).mp c55
                  obtain ⟨z56, ez56⟩ : ∃ y : Int32, y = x2_1 + 1 := ⟨_, rfl⟩
                  have tz56 : z56.toInt = (x2_1.toInt + 1 + 2147483648) % 4294967296 - 2147483648 := by rw [ez56]; exact i_add x2_1 1
                  have lz56 := Int32.le_toInt z56
                  have uz56 := Int32.toInt_lt z56
                  try replace tz56 : z56.toInt = x2_1.toInt + 1 := by omega
                  refine lv_iinc (v := z56) (lv' := [(1, .int z56), (3, .int 0), (2, .int z2), (0, .ref h)]) S.x S.b d_Mpg_hasMain_105 hl (k := 3) rfl (by rw [ez56]; rfl) (by decide) rfl (fun ls hl => ?_)
                  refine lv_goto (tgt := 2) S.x S.b d_Mpg_hasMain_108 (by decide) ?_
                  exact ih2 z56 _ _ ls (show 0 ≤ z56.toInt from by first | exact oz_ae613611c0 tz56 k2_0 | omega) (show z56.toInt ≤ (cf 38).toInt from by first | exact oz_b1314744c8 nc1 tz56 | omega) (show (cf 38).toInt - z56.toInt < (n_2 : Int) from by first | exact oz_654393c63a hm tz56 | omega) hw (lv_sub hl [3, 0] rfl)
                · have nc55 : ¬ v52.toInt = (0 : Int) := mt (i_eq (x := v52) (y := 0)).mpr c55
                  refine lv_aload_n S.x S.b d_Mpg_hasMain_90 rfl (lv_at hl 2 rfl) ?_
                  refine px_get S k_Mpg hT hw 0 0 22 (v := .ref (r 22)) rfl rfl rfl (by decide) m10_9 d_Mpg_hasMain_91 ?_
                  refine lv_iload_n S.x S.b d_Mpg_hasMain_94 rfl (lv_at hl 1 rfl) ?_
                  refine px_iald S hT hw 0 18 (n := 2100) (f := (ma 22)) rfl gp_22 (x := z2) (vp_in_iff.mpr (by constructor <;> omega)) d_Mpg_hasMain_95 ?_
                  refine lv_topi (fun z57 ez57 => ?_)
                  have lz57 := Int32.le_toInt z57
                  have uz57 := Int32.toInt_lt z57
                  refine lv_if_ne (tgt := 105) S.x S.b d_Mpg_hasMain_96 (by decide) (fun c58 => ?_) (fun c58 => ?_)
                  · have nc58 : ¬ z57.toInt = (0 : Int) := mt (i_eq (x := z57) (y := 0)).mpr c58
                    obtain ⟨z59, ez59⟩ : ∃ y : Int32, y = x2_1 + 1 := ⟨_, rfl⟩
                    have tz59 : z59.toInt = (x2_1.toInt + 1 + 2147483648) % 4294967296 - 2147483648 := by rw [ez59]; exact i_add x2_1 1
                    have lz59 := Int32.le_toInt z59
                    have uz59 := Int32.toInt_lt z59
                    try replace tz59 : z59.toInt = x2_1.toInt + 1 := by omega
                    refine lv_iinc (v := z59) (lv' := [(1, .int z59), (3, .int 0), (2, .int z2), (0, .ref h)]) S.x S.b d_Mpg_hasMain_105 hl (k := 3) rfl (by rw [ez59]; rfl) (by decide) rfl (fun ls hl => ?_)
                    refine lv_goto (tgt := 2) S.x S.b d_Mpg_hasMain_108 (by decide) ?_
                    exact ih2 z59 _ _ ls (show 0 ≤ z59.toInt from by first | exact oz_ae613611c0 tz59 k2_0 | omega) (show z59.toInt ≤ (cf 38).toInt from by first | exact oz_b1314744c8 nc1 tz59 | omega) (show (cf 38).toInt - z59.toInt < (n_2 : Int) from by first | exact oz_654393c63a hm tz59 | omega) hw (lv_sub hl [3, 0] rfl)
                  · have nc58 : z57.toInt = (0 : Int) := (i_eq (x := z57) (y := 0)).mp c58
                    refine lv_iload_n S.x S.b d_Mpg_hasMain_99 rfl (lv_at hl 0 rfl) ?_
                    refine lv_if_eq (tgt := 105) S.x S.b d_Mpg_hasMain_100 (by decide) (fun c60 => ?_) (fun c60 => ?_)
                    ·
                      obtain ⟨z61, ez61⟩ : ∃ y : Int32, y = x2_1 + 1 := ⟨_, rfl⟩
                      have tz61 : z61.toInt = (x2_1.toInt + 1 + 2147483648) % 4294967296 - 2147483648 := by rw [ez61]; exact i_add x2_1 1
                      have lz61 := Int32.le_toInt z61
                      have uz61 := Int32.toInt_lt z61
                      try replace tz61 : z61.toInt = x2_1.toInt + 1 := by omega
                      refine lv_iinc (v := z61) (lv' := [(1, .int z61), (3, .int 0), (2, .int z2), (0, .ref h)]) S.x S.b d_Mpg_hasMain_105 hl (k := 3) rfl (by rw [ez61]; rfl) (by decide) rfl (fun ls hl => ?_)
                      refine lv_goto (tgt := 2) S.x S.b d_Mpg_hasMain_108 (by decide) ?_
                      exact ih2 z61 _ _ ls (show 0 ≤ z61.toInt from by first | exact oz_ae613611c0 tz61 k2_0 | omega) (show z61.toInt ≤ (cf 38).toInt from by first | exact oz_b1314744c8 nc1 tz61 | omega) (show (cf 38).toInt - z61.toInt < (n_2 : Int) from by first | exact oz_654393c63a hm tz61 | omega) hw (lv_sub hl [3, 0] rfl)
                    · exact absurd c60 (by decide)
              · have nc49 : z48.toInt = (0 : Int) := (i_eq (x := z48) (y := 0)).mp c49
                refine lv_iconst (v := 1) S.x S.b d_Mpg_hasMain_68 (by decide) ?_
                refine lv_goto (tgt := 73) S.x S.b d_Mpg_hasMain_69 (by decide) ?_
                refine lv_istore_n (lv' := [(3, .int 1), (2, .int z2), (0, .ref h), (1, .int x2_1)]) S.x S.b d_Mpg_hasMain_73 rfl hl (by decide) rfl (fun ls hl => ?_)
                refine lv_aload_n S.x S.b d_Mpg_hasMain_74 rfl (lv_at hl 2 rfl) ?_
                refine lv_aload_n S.x S.b d_Mpg_hasMain_75 rfl (lv_at hl 2 rfl) ?_
                refine px_get S k_Mpg hT hw 0 0 15 (v := .ref (r 15)) rfl rfl rfl (by decide) m9_239 d_Mpg_hasMain_76 ?_
                refine lv_iload_n S.x S.b d_Mpg_hasMain_79 rfl (lv_at hl 1 rfl) ?_
                refine px_iald S hT hw 0 11 (n := 2100) (f := (na 15)) rfl gp_15 (x := z2) (vp_in_iff.mpr (by constructor <;> omega)) d_Mpg_hasMain_80 ?_
                refine lv_topi (fun z62 ez62 => ?_)
                have lz62 := Int32.le_toInt z62
                have uz62 := Int32.toInt_lt z62
                have hqz62 := rz2.2; rw [← ez62] at hqz62
                refine px_ldcwS S.x S.b S.own hMn.1 d_Mpg_hasMain_81 ?_
                refine px_calli (pr := []) (px_runV (As := [.int z62, .ref sk]) (rest := []) S (c_mp_isNamedM l D cs sk st sb h r g tf ta pf na ma wa cf ca ef ea xf xa z62  (show 0 ≤ z62.toInt from by first | with_reducible rfl | with_reducible assumption | omega) (show z62.toInt < (tf 6).toInt from by first | with_reducible rfl | with_reducible assumption | omega) (show (tf 6).toInt ≤ 2049 from by first | exact g1 | omega) htk _) hT (pr := []) (pcs := [wdP cs h r g tf ta pf na ma wa cf ca ef ea xf xa]) hw (oX_call (P := (fun A U H => (oP A g U H) ∧ ((vk_R "HomeSystemModel$Program" 688 "main" sk U ∧ oS A sk st 4 sb U H)))) (pr := []) (oG_and oG_P (oG_and oG_L oG_S)) hw hA ⟨hP, hMn⟩) (px_recv hT hw 0 0 rfl rfl rfl) m12_161 m12_158 m12_160 ms_11_9 m1_21 q_Mpg_isNamed ⟨Nat.le_of_ble_eq_true rfl, Nat.le_of_ble_eq_true rfl⟩ hl.1 rfl (Nat.le_of_ble_eq_true rfl) d_Mpg_hasMain_84 ⟨Nat.le_of_ble_eq_true rfl, Nat.le_of_ble_eq_true rfl⟩) hw hA (fun v64 p63 H locs hp63 hw => ?_)
                obtain ⟨rfl, e65, e66⟩ := hp63
                have e65 := z_rng e65
                replace e66 : MnV ta (tf 5).toInt sb z62 v64.toInt := e66
                have hmn := e66
                replace hw : pw D A s.heap H locs [wdP cs h r g tf ta pf na ma wa cf ca ef ea xf xa] := hw
                have lv64 := Int32.le_toInt v64
                have uv64 := Int32.toInt_lt v64
                refine lv_if_eq (tgt := 105) S.x S.b d_Mpg_hasMain_87 (by decide) (fun c67 => ?_) (fun c67 => ?_)
                · have nc67 : v64.toInt = (0 : Int) := (i_eq (x := v64) (y := 0)).mp c67
                  obtain ⟨z68, ez68⟩ : ∃ y : Int32, y = x2_1 + 1 := ⟨_, rfl⟩
                  have tz68 : z68.toInt = (x2_1.toInt + 1 + 2147483648) % 4294967296 - 2147483648 := by rw [ez68]; exact i_add x2_1 1
                  have lz68 := Int32.le_toInt z68
                  have uz68 := Int32.toInt_lt z68
                  try replace tz68 : z68.toInt = x2_1.toInt + 1 := by omega
                  refine lv_iinc (v := z68) (lv' := [(1, .int z68), (3, .int 1), (2, .int z2), (0, .ref h)]) S.x S.b d_Mpg_hasMain_105 hl (k := 3) rfl (by rw [ez68]; rfl) (by decide) rfl (fun ls hl => ?_)
                  refine lv_goto (tgt := 2) S.x S.b d_Mpg_hasMain_108 (by decide) ?_
                  exact ih2 z68 _ _ ls (show 0 ≤ z68.toInt from by first | exact oz_ae613611c0 tz68 k2_0 | omega) (show z68.toInt ≤ (cf 38).toInt from by first | exact oz_b1314744c8 nc1 tz68 | omega) (show (cf 38).toInt - z68.toInt < (n_2 : Int) from by first | exact oz_654393c63a hm tz68 | omega) hw (lv_sub hl [3, 0] rfl)
                · have nc67 : ¬ v64.toInt = (0 : Int) := mt (i_eq (x := v64) (y := 0)).mpr c67
                  refine lv_aload_n S.x S.b d_Mpg_hasMain_90 rfl (lv_at hl 2 rfl) ?_
                  refine px_get S k_Mpg hT hw 0 0 22 (v := .ref (r 22)) rfl rfl rfl (by decide) m10_9 d_Mpg_hasMain_91 ?_
                  refine lv_iload_n S.x S.b d_Mpg_hasMain_94 rfl (lv_at hl 1 rfl) ?_
                  refine px_iald S hT hw 0 18 (n := 2100) (f := (ma 22)) rfl gp_22 (x := z2) (vp_in_iff.mpr (by constructor <;> omega)) d_Mpg_hasMain_95 ?_
                  refine lv_topi (fun z69 ez69 => ?_)
                  have lz69 := Int32.le_toInt z69
                  have uz69 := Int32.toInt_lt z69
                  refine lv_if_ne (tgt := 105) S.x S.b d_Mpg_hasMain_96 (by decide) (fun c70 => ?_) (fun c70 => ?_)
                  · have nc70 : ¬ z69.toInt = (0 : Int) := mt (i_eq (x := z69) (y := 0)).mpr c70
                    obtain ⟨z71, ez71⟩ : ∃ y : Int32, y = x2_1 + 1 := ⟨_, rfl⟩
                    have tz71 : z71.toInt = (x2_1.toInt + 1 + 2147483648) % 4294967296 - 2147483648 := by rw [ez71]; exact i_add x2_1 1
                    have lz71 := Int32.le_toInt z71
                    have uz71 := Int32.toInt_lt z71
                    try replace tz71 : z71.toInt = x2_1.toInt + 1 := by omega
                    refine lv_iinc (v := z71) (lv' := [(1, .int z71), (3, .int 1), (2, .int z2), (0, .ref h)]) S.x S.b d_Mpg_hasMain_105 hl (k := 3) rfl (by rw [ez71]; rfl) (by decide) rfl (fun ls hl => ?_)
                    refine lv_goto (tgt := 2) S.x S.b d_Mpg_hasMain_108 (by decide) ?_
                    exact ih2 z71 _ _ ls (show 0 ≤ z71.toInt from by first | exact oz_ae613611c0 tz71 k2_0 | omega) (show z71.toInt ≤ (cf 38).toInt from by first | exact oz_b1314744c8 nc1 tz71 | omega) (show (cf 38).toInt - z71.toInt < (n_2 : Int) from by first | exact oz_654393c63a hm tz71 | omega) hw (lv_sub hl [3, 0] rfl)
                  · have nc70 : z69.toInt = (0 : Int) := (i_eq (x := z69) (y := 0)).mp c70
                    refine lv_iload_n S.x S.b d_Mpg_hasMain_99 rfl (lv_at hl 0 rfl) ?_
                    refine lv_if_eq (tgt := 105) S.x S.b d_Mpg_hasMain_100 (by decide) (fun c72 => ?_) (fun c72 => ?_)
                    · exact absurd c72 (by decide)
                    ·
                      refine lv_iconst (v := 1) S.x S.b d_Mpg_hasMain_103 (by decide) ?_
                      exact px_iret (v := 1) S hr rfl hlk hAe hw (Nat.le_of_ble_eq_true rfl) (Nat.le_of_ble_eq_true rfl) (⟨rfl, (show (1 : Int32) = 0 ∨ (1 : Int32) = 1 from by first | exact Or.inl rfl | exact Or.inr rfl | exact z_or (by omega)), (show HmV ta na ma ca (tf 5).toInt sb (cf 38).toInt (1 : Int) from (hm_1 (by omega) (by omega) ez2 ez62 hmn (by omega) ez3 (by omega) ez18 (by omega) ez33 (by omega)))⟩) d_Mpg_hasMain_104
  refine lv_iconst (v := 0) S.x S.b d_Mpg_hasMain_0 (by decide) ?_
  refine lv_istore_n (lv' := [(1, .int 0), (0, .ref h)]) S.x S.b d_Mpg_hasMain_1 rfl hl (by decide) rfl (fun ls hl => ?_)
  exact J2 (((cf 38).toInt - (0 : Int)).toNat + 1) (0 : Int32) _ _ ls (show 0 ≤ (0 : Int) from by first | decide | omega) (show (0 : Int) ≤ (cf 38).toInt from by first | exact oz_50c21e157e g0 | omega) (show (cf 38).toInt - (0 : Int) < (((((cf 38).toInt - (0 : Int)).toNat + 1 : Nat) : Int) : Int) from by first | exact oz_natlt | omega) hw (lv_sub hl [1, 0] rfl)
abbrev b_Mpg_mainFunction : ByteArray := prog_16_method_120_code
def y_Mpg_mainFunction : MethodName := ⟨"HomeSystemModel$Program", "mainFunction", "()I"⟩
theorem d_Mpg_mainFunction_0 : decode b_Mpg_mainFunction 0 = .ok (.iconst (-1), 1) := by decide +kernel
theorem d_Mpg_mainFunction_1 : decode b_Mpg_mainFunction 1 = .ok (.istore_n 1, 1) := by decide +kernel
theorem d_Mpg_mainFunction_2 : decode b_Mpg_mainFunction 2 = .ok (.iconst 0, 1) := by decide +kernel
theorem d_Mpg_mainFunction_3 : decode b_Mpg_mainFunction 3 = .ok (.istore_n 2, 1) := by decide +kernel
theorem d_Mpg_mainFunction_4 : decode b_Mpg_mainFunction 4 = .ok (.iload_n 2, 1) := by decide +kernel
theorem d_Mpg_mainFunction_5 : decode b_Mpg_mainFunction 5 = .ok (.aload_n 0, 1) := by decide +kernel
theorem d_Mpg_mainFunction_6 : decode b_Mpg_mainFunction 6 = .ok (.getfield 535, 3) := by decide +kernel
theorem d_Mpg_mainFunction_9 : decode b_Mpg_mainFunction 9 = .ok (.if_icmp .ge 36, 3) := by decide +kernel
theorem d_Mpg_mainFunction_12 : decode b_Mpg_mainFunction 12 = .ok (.aload_n 0, 1) := by decide +kernel
theorem d_Mpg_mainFunction_13 : decode b_Mpg_mainFunction 13 = .ok (.aload_n 0, 1) := by decide +kernel
theorem d_Mpg_mainFunction_14 : decode b_Mpg_mainFunction 14 = .ok (.getfield 210, 3) := by decide +kernel
theorem d_Mpg_mainFunction_17 : decode b_Mpg_mainFunction 17 = .ok (.aload_n 0, 1) := by decide +kernel
theorem d_Mpg_mainFunction_18 : decode b_Mpg_mainFunction 18 = .ok (.getfield 255, 3) := by decide +kernel
theorem d_Mpg_mainFunction_21 : decode b_Mpg_mainFunction 21 = .ok (.iload_n 2, 1) := by decide +kernel
theorem d_Mpg_mainFunction_22 : decode b_Mpg_mainFunction 22 = .ok (.iaload, 1) := by decide +kernel
theorem d_Mpg_mainFunction_23 : decode b_Mpg_mainFunction 23 = .ok (.iaload, 1) := by decide +kernel
theorem d_Mpg_mainFunction_24 : decode b_Mpg_mainFunction 24 = .ok (.ldc_w 688, 3) := by decide +kernel
theorem d_Mpg_mainFunction_27 : decode b_Mpg_mainFunction 27 = .ok (.invokevirtual 538, 3) := by decide +kernel
theorem d_Mpg_mainFunction_30 : decode b_Mpg_mainFunction 30 = .ok (.ifCond .eq 7, 3) := by decide +kernel
theorem d_Mpg_mainFunction_33 : decode b_Mpg_mainFunction 33 = .ok (.iload_n 2, 1) := by decide +kernel
theorem d_Mpg_mainFunction_34 : decode b_Mpg_mainFunction 34 = .ok (.goto 4, 3) := by decide +kernel
theorem d_Mpg_mainFunction_37 : decode b_Mpg_mainFunction 37 = .ok (.iload_n 1, 1) := by decide +kernel
theorem d_Mpg_mainFunction_38 : decode b_Mpg_mainFunction 38 = .ok (.istore_n 1, 1) := by decide +kernel
theorem d_Mpg_mainFunction_39 : decode b_Mpg_mainFunction 39 = .ok (.iinc 2 1, 3) := by decide +kernel
theorem d_Mpg_mainFunction_42 : decode b_Mpg_mainFunction 42 = .ok (.goto (-38), 3) := by decide +kernel
theorem d_Mpg_mainFunction_45 : decode b_Mpg_mainFunction 45 = .ok (.iload_n 1, 1) := by decide +kernel
theorem d_Mpg_mainFunction_46 : decode b_Mpg_mainFunction 46 = .ok (.ireturn, 1) := by decide +kernel
theorem q_Mpg_mainFunction : px_y y_Mpg_mainFunction 0 := by unfold px_y; decide +kernel
set_option maxHeartbeats 4000000 in
set_option maxRecDepth 100000 in
theorem c_mp_mainFunction (l : Launch) (D : va_G) (cs : Nat → ClassId) (sk : Nat) (st : Nat) (sb : Nat → Int32) (h : Nat) (r : Nat → Nat) (g : Nat → Nat → Option Nat) (tf : Nat → Int32) (ta : Nat → Nat → Int32) (pf : Nat → Int32) (na : Nat → Nat → Int32) (ma : Nat → Nat → Int32) (wa : Nat → Nat → Int32) (cf : Nat → Int32) (ca : Nat → Nat → Int32) (ef : Nat → Int32) (ea : Nat → Nat → Int32) (xf : Nat → Int32) (xa : Nat → Nat → Int32)  (g0 : 0 ≤ (cf 38).toInt) (g1 : (tf 6).toInt ≤ 2049) (htk : TkI tf ta) (hft : FnT (tf 6).toInt na ca (cf 38).toInt) : MetI l y_Mpg_mainFunction b_Mpg_mainFunction 3 (.int) D cs 7 260 (0) (0) [.ref h] [wdP cs h r g tf ta pf na ma wa cf ca ef ea xf xa] (oX (fun A U H => (oP A g U H) ∧ ((vk_R "HomeSystemModel$Program" 688 "main" sk U ∧ oS A sk st 4 sb U H))) [wdP cs h r g tf ta pf na ma wa cf ca ef ea xf xa]) (fun v ps => (ps = [wdP cs h r g tf ta pf na ma wa cf ca ef ea xf xa]) ∧ (-1 ≤ v.toInt) ∧ (v.toInt < (cf 38).toInt) ∧ (MfV ta na ca (tf 5).toInt sb (cf 38).toInt v.toInt)) := by
  refine px_enter (by decide) (Nat.le_of_ble_eq_true rfl) ?_
  intro p e s m below meth c A ls hAe S hr hlk hnm hA hT hX hw hl
  replace hl : lv_has ls 3 [(0, .ref h)] := hl
  have cstm1 : ((-1) : Int32).toInt = (-1) := rfl
  have cst0 : (0 : Int32).toInt = 0 := rfl
  have hX : (fun A U H => (oP A g U H) ∧ ((vk_R "HomeSystemModel$Program" 688 "main" sk U ∧ oS A sk st 4 sb U H))) A s s.heap := by rw [hAe]; exact hX
  obtain ⟨hP, hMn⟩ := hX
  have hZ := hP.1
  have hF0 := hP.2.1
  have hf11 := hft.1
  have J4 : ∀ (n_4 : Nat)  (x4_1 x4_2 : Int32) (H : Heap) (locs : List Loc) (ls : Array Slot), (-1 ≤ x4_1.toInt) → (x4_1.toInt < x4_2.toInt) → (0 ≤ x4_2.toInt) → (x4_2.toInt ≤ (cf 38).toInt) → (MfV ta na ca (tf 5).toInt sb x4_2.toInt x4_1.toInt) → (cf 38).toInt - x4_2.toInt < (n_4 : Int) → pw D A s.heap H locs [wdP cs h r g tf ta pf na ma wa cf ca ef ea xf xa] → lv_has ls 3 [(0, .ref h), (1, .int x4_1), (2, .int x4_2)] → W p l e { frames := 7, cells := 0, slots := 0, locals := 260 } s m [.ref h].toArray below meth c H locs 0 0 (MQ below (va_Qi (fun v ps => (ps = [wdP cs h r g tf ta pf na ma wa cf ca ef ea xf xa]) ∧ (-1 ≤ v.toInt) ∧ (v.toInt < (cf 38).toInt) ∧ (MfV ta na ca (tf 5).toInt sb (cf 38).toInt v.toInt)) (pc_B D (va_A ([wdP cs h r g tf ta pf na ma wa cf ca ef ea xf xa] : List va_W).flatten s.heap.size)) (va_A ([wdP cs h r g tf ta pf na ma wa cf ca ef ea xf xa] : List va_W).flatten s.heap.size)) [.ref h].toArray s 0 0 A) (F0 m 4 ls []) := by
    intro  n_4
    induction n_4 with
    | zero =>
      intro x4_1 x4_2 H locs ls k4_0 k4_1 k4_2 k4_3 k4_4 hm hw hl
      have lx4_1 := Int32.le_toInt x4_1
      have ux4_1 := Int32.toInt_lt x4_1
      have lx4_2 := Int32.le_toInt x4_2
      have ux4_2 := Int32.toInt_lt x4_2
      have hmf := k4_4
      exact absurd hm (by omega)
    | succ n_4 ih4 =>
      intro x4_1 x4_2 H locs ls k4_0 k4_1 k4_2 k4_3 k4_4 hm hw hl
      have lx4_1 := Int32.le_toInt x4_1
      have ux4_1 := Int32.toInt_lt x4_1
      have lx4_2 := Int32.le_toInt x4_2
      have ux4_2 := Int32.toInt_lt x4_2
      have hmf := k4_4
      refine lv_iload_n S.x S.b d_Mpg_mainFunction_4 rfl (lv_at hl 2 rfl) ?_
      refine lv_aload_n S.x S.b d_Mpg_mainFunction_5 rfl (lv_at hl 0 rfl) ?_
      refine px_get S k_Mpg hT hw 0 0 38 (v := .int (cf 38)) rfl rfl rfl (by decide) m10_27 d_Mpg_mainFunction_6 ?_
      refine lv_icmp_ge (tgt := 45) S.x S.b d_Mpg_mainFunction_9 (by decide) (fun c1 => ?_) (fun c1 => ?_)
      · have nc1 : (cf 38).toInt ≤ x4_2.toInt := (i_le (x := (cf 38)) (y := x4_2)).mp c1
        refine lv_iload_n S.x S.b d_Mpg_mainFunction_45 rfl (lv_at hl 1 rfl) ?_
        exact px_iret (v := x4_1) S hr rfl hlk hAe hw (Nat.le_of_ble_eq_true rfl) (Nat.le_of_ble_eq_true rfl) (⟨rfl, (show -1 ≤ x4_1.toInt from by first | exact k4_0 | omega), (show x4_1.toInt < (cf 38).toInt from by first | exact oz_735c831122 k4_1 k4_3 | omega), (show MfV ta na ca (tf 5).toInt sb (cf 38).toInt x4_1.toInt from (show MfV ta na ca (tf 5).toInt sb (cf 38).toInt _ from (by rw [show (cf 38).toInt = x4_2.toInt by omega]; exact hmf)))⟩) d_Mpg_mainFunction_46
      · have nc1 : ¬ (cf 38).toInt ≤ x4_2.toInt := mt (i_le (x := (cf 38)) (y := x4_2)).mpr c1
        refine lv_aload_n S.x S.b d_Mpg_mainFunction_12 rfl (lv_at hl 0 rfl) ?_
        refine lv_aload_n S.x S.b d_Mpg_mainFunction_13 rfl (lv_at hl 0 rfl) ?_
        refine px_get S k_Mpg hT hw 0 0 15 (v := .ref (r 15)) rfl rfl rfl (by decide) m9_239 d_Mpg_mainFunction_14 ?_
        refine lv_aload_n S.x S.b d_Mpg_mainFunction_17 rfl (lv_at hl 0 rfl) ?_
        refine px_get S k_Mpg hT hw 0 0 39 (v := .ref (r 39)) rfl rfl rfl (by decide) m10_28 d_Mpg_mainFunction_18 ?_
        refine lv_iload_n S.x S.b d_Mpg_mainFunction_21 rfl (lv_at hl 2 rfl) ?_
        refine px_iald S hT hw 0 26 (n := 260) (f := (ca 39)) rfl gp_39 (x := x4_2) (vp_in_iff.mpr (by first | exact oz_873c269565 k4_2 nc1 hf11 | (constructor <;> omega))) d_Mpg_mainFunction_22 ?_
        refine lv_topi (fun z2 ez2 => ?_)
        have lz2 := Int32.le_toInt z2
        have uz2 := Int32.toInt_lt z2
        have rz2 := FnT.at hft (x := x4_2) (by omega) (by omega) ez2
        refine px_iald S hT hw 0 11 (n := 2100) (f := (na 15)) rfl gp_15 (x := z2) (vp_in_iff.mpr (by constructor <;> omega)) d_Mpg_mainFunction_23 ?_
        refine lv_topi (fun z3 ez3 => ?_)
        have lz3 := Int32.le_toInt z3
        have uz3 := Int32.toInt_lt z3
        have hqz3 := rz2.2; rw [← ez3] at hqz3
        refine px_ldcwS S.x S.b S.own hMn.1 d_Mpg_mainFunction_24 ?_
        refine px_calli (pr := []) (px_runV (As := [.int z3, .ref sk]) (rest := []) S (c_mp_isNamedM l D cs sk st sb h r g tf ta pf na ma wa cf ca ef ea xf xa z3  (show 0 ≤ z3.toInt from by first | with_reducible rfl | with_reducible assumption | omega) (show z3.toInt < (tf 6).toInt from by first | with_reducible rfl | with_reducible assumption | omega) (show (tf 6).toInt ≤ 2049 from by first | exact g1 | omega) htk _) hT (pr := []) (pcs := [wdP cs h r g tf ta pf na ma wa cf ca ef ea xf xa]) hw (oX_call (P := (fun A U H => (oP A g U H) ∧ ((vk_R "HomeSystemModel$Program" 688 "main" sk U ∧ oS A sk st 4 sb U H)))) (pr := []) (oG_and oG_P (oG_and oG_L oG_S)) hw hA ⟨hP, hMn⟩) (px_recv hT hw 0 0 rfl rfl rfl) m12_161 m12_158 m12_160 ms_11_9 m1_21 q_Mpg_isNamed ⟨Nat.le_of_ble_eq_true rfl, Nat.le_of_ble_eq_true rfl⟩ hl.1 rfl (Nat.le_of_ble_eq_true rfl) d_Mpg_mainFunction_27 ⟨Nat.le_of_ble_eq_true rfl, Nat.le_of_ble_eq_true rfl⟩) hw hA (fun v5 p4 H locs hp4 hw => ?_)
        obtain ⟨rfl, e6, e7⟩ := hp4
        have e6 := z_rng e6
        replace e7 : MnV ta (tf 5).toInt sb z3 v5.toInt := e7
        have hmn := e7
        replace hw : pw D A s.heap H locs [wdP cs h r g tf ta pf na ma wa cf ca ef ea xf xa] := hw
        have lv5 := Int32.le_toInt v5
        have uv5 := Int32.toInt_lt v5
        refine lv_if_eq (tgt := 37) S.x S.b d_Mpg_mainFunction_30 (by decide) (fun c8 => ?_) (fun c8 => ?_)
        · have nc8 : v5.toInt = (0 : Int) := (i_eq (x := v5) (y := 0)).mp c8
          refine lv_iload_n S.x S.b d_Mpg_mainFunction_37 rfl (lv_at hl 1 rfl) ?_
          refine lv_istore_n (lv' := [(1, .int x4_1), (0, .ref h), (2, .int x4_2)]) S.x S.b d_Mpg_mainFunction_38 rfl hl (by decide) rfl (fun ls hl => ?_)
          obtain ⟨z9, ez9⟩ : ∃ y : Int32, y = x4_2 + 1 := ⟨_, rfl⟩
          have tz9 : z9.toInt = (x4_2.toInt + 1 + 2147483648) % 4294967296 - 2147483648 := by rw [ez9]; exact i_add x4_2 1
          have lz9 := Int32.le_toInt z9
          have uz9 := Int32.toInt_lt z9
          try replace tz9 : z9.toInt = x4_2.toInt + 1 := by omega
          refine lv_iinc (v := z9) (lv' := [(2, .int z9), (1, .int x4_1), (0, .ref h)]) S.x S.b d_Mpg_mainFunction_39 hl (k := 2) rfl (by rw [ez9]; rfl) (by decide) rfl (fun ls hl => ?_)
          refine lv_goto (tgt := 4) S.x S.b d_Mpg_mainFunction_42 (by decide) ?_
          exact ih4 x4_1 z9 _ _ ls (show -1 ≤ x4_1.toInt from by first | exact k4_0 | omega) (show x4_1.toInt < z9.toInt from by first | exact oz_70333772d8 k4_1 tz9 | omega) (show 0 ≤ z9.toInt from by first | exact oz_ae613611c0 tz9 k4_2 | omega) (show z9.toInt ≤ (cf 38).toInt from by first | exact oz_b1314744c8 nc1 tz9 | omega) (show MfV ta na ca (tf 5).toInt sb z9.toInt x4_1.toInt from (mfv_nx hmf ez2 ez3 hmn (by omega) (by omega) (by omega) (fun q9 => by omega) (fun q9 => by omega))) (show (cf 38).toInt - z9.toInt < (n_4 : Int) from by first | exact oz_654393c63a hm tz9 | omega) hw (lv_sub hl [2, 1, 0] rfl)
        · have nc8 : ¬ v5.toInt = (0 : Int) := mt (i_eq (x := v5) (y := 0)).mpr c8
          refine lv_iload_n S.x S.b d_Mpg_mainFunction_33 rfl (lv_at hl 2 rfl) ?_
          refine lv_goto (tgt := 38) S.x S.b d_Mpg_mainFunction_34 (by decide) ?_
          refine lv_istore_n (lv' := [(1, .int x4_2), (0, .ref h), (2, .int x4_2)]) S.x S.b d_Mpg_mainFunction_38 rfl hl (by decide) rfl (fun ls hl => ?_)
          obtain ⟨z10, ez10⟩ : ∃ y : Int32, y = x4_2 + 1 := ⟨_, rfl⟩
          have tz10 : z10.toInt = (x4_2.toInt + 1 + 2147483648) % 4294967296 - 2147483648 := by rw [ez10]; exact i_add x4_2 1
          have lz10 := Int32.le_toInt z10
          have uz10 := Int32.toInt_lt z10
          try replace tz10 : z10.toInt = x4_2.toInt + 1 := by omega
          refine lv_iinc (v := z10) (lv' := [(2, .int z10), (1, .int x4_2), (0, .ref h)]) S.x S.b d_Mpg_mainFunction_39 hl (k := 2) rfl (by rw [ez10]; rfl) (by decide) rfl (fun ls hl => ?_)
          refine lv_goto (tgt := 4) S.x S.b d_Mpg_mainFunction_42 (by decide) ?_
          exact ih4 x4_2 z10 _ _ ls (show -1 ≤ x4_2.toInt from by first | exact oz_bd82420902 k4_2 | omega) (show x4_2.toInt < z10.toInt from by first | exact oz_e650421971 tz10 | omega) (show 0 ≤ z10.toInt from by first | exact oz_ae613611c0 tz10 k4_2 | omega) (show z10.toInt ≤ (cf 38).toInt from by first | exact oz_b1314744c8 nc1 tz10 | omega) (show MfV ta na ca (tf 5).toInt sb z10.toInt x4_2.toInt from (mfv_nx hmf ez2 ez3 hmn (by omega) (by omega) (by omega) (fun q9 => by omega) (fun q9 => by omega))) (show (cf 38).toInt - z10.toInt < (n_4 : Int) from by first | exact oz_654393c63a hm tz10 | omega) hw (lv_sub hl [2, 1, 0] rfl)
  refine lv_iconst (v := (-1)) S.x S.b d_Mpg_mainFunction_0 (by decide) ?_
  refine lv_istore_n (lv' := [(1, .int (-1)), (0, .ref h)]) S.x S.b d_Mpg_mainFunction_1 rfl hl (by decide) rfl (fun ls hl => ?_)
  refine lv_iconst (v := 0) S.x S.b d_Mpg_mainFunction_2 (by decide) ?_
  refine lv_istore_n (lv' := [(2, .int 0), (1, .int (-1)), (0, .ref h)]) S.x S.b d_Mpg_mainFunction_3 rfl hl (by decide) rfl (fun ls hl => ?_)
  exact J4 (((cf 38).toInt - (0 : Int)).toNat + 1) (-1) (0 : Int32) _ _ ls (show -1 ≤ (-1 : Int) from by first | decide | omega) (show (-1 : Int) < (0 : Int) from by first | decide | omega) (show 0 ≤ (0 : Int) from by first | decide | omega) (show (0 : Int) ≤ (cf 38).toInt from by first | exact oz_50c21e157e g0 | omega) (show MfV ta na ca (tf 5).toInt sb (0 : Int) (-1 : Int) from mfv_0) (show (cf 38).toInt - (0 : Int) < (((((cf 38).toInt - (0 : Int)).toNat + 1 : Nat) : Int) : Int) from by first | exact oz_natlt | omega) hw (lv_sub hl [2, 1, 0] rfl)
