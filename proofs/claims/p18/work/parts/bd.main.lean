theorem oz_37a46abba3 {a0 a1 : Int} (h0 : ¬ a1 ≤ a0) (h1 : a1 = (4 : Int)) : a0 < (4 : Int) := by omega
theorem oz_d39881dc4c {a0 a1 a2 : Int} (h0 : a0 = a1 + 1) (h1 : ¬ a2 ≤ a1) (h2 : a2 = (4 : Int)) : a0 ≤ 4 := by omega
theorem oz_cc6852433c {a0 a2 : Int} {n1 : Nat} (h0 : 4 - a2 + 1 < ((n1 + 1 : Nat) : Int)) (h1 : a0 = a2 + 1) : 4 - a0 + 1 < (n1 : Int) := by omega
theorem oz_426bac7366 {a0 : Int} (h0 : ¬ a0 < (0 : Int)) (h1 : 0 ≤ a0 → a0 < 2100) : 0 ≤ a0 ∧ a0 < ((2100 : Nat) : Int) := by omega
theorem oz_735c831122 {a0 a1 a2 : Int} (h0 : a0 < a2) (h1 : a2 ≤ a1) : a0 < a1 := by omega
theorem oz_70333772d8 {a0 a1 a2 : Int} (h0 : a0 < a2) (h1 : a1 = a2 + 1) : a0 < a1 := by omega
theorem oz_e650421971 {a0 a1 : Int} (h0 : a1 = a0 + 1) : a0 < a1 := by omega
theorem oz_f8a0b1a796  : (-1 : Int) < (0 : Int) := by omega
/-! MAIN: a name's letters -/
def MnT (ta : Nat → Nat → Int32) (L : Int) (sb : Nat → Int32) (t : Int32) : Prop := sz ta t = 4 ∧ ∀ k : Nat, k < 4 → btR ta L (bp ta t + k) = (chz (sb k)).toInt
def StL (ta : Nat → Nat → Int32) (L : Int) (sb : Nat → Int32) (p x i : Int) : Prop := (x = 1 → ∀ k : Nat, (k : Int) < i → btR ta L (p + k) = (chz (sb k)).toInt) ∧ (x = 0 → ¬ ∀ k : Nat, k < 4 → btR ta L (p + k) = (chz (sb k)).toInt)
def StM (ta : Nat → Nat → Int32) (L : Int) (sb : Nat → Int32) (p v : Int) : Prop := (v = 1 → ∀ k : Nat, k < 4 → btR ta L (p + k) = (chz (sb k)).toInt) ∧ (v = 0 → ¬ ∀ k : Nat, k < 4 → btR ta L (p + k) = (chz (sb k)).toInt)
def MnV (ta : Nat → Nat → Int32) (L : Int) (sb : Nat → Int32) (t : Int32) (v : Int) : Prop := (v = 1 → MnT ta L sb t) ∧ (v = 0 → ¬ MnT ta L sb t)
section MN
variable {ta : Nat → Nat → Int32} {L p x i : Int} {sb : Nat → Int32} {t : Int32}
theorem stl_0 : StL ta L sb p 1 0 := ⟨fun _ k hk => absurd hk (by omega), fun h => absurd h (by decide)⟩
theorem StL.nx {y i' : Int} {a b q : Int32} (h : StL ta L sb p x i) (hx : x = 1) (h0 : 0 ≤ i) (hi : i < 4) (eb : BtV ta L a.toInt b.toInt) (ea : a.toInt = p + i) {j : Int32} (ej : j.toInt = i) (eq : ChL sb j q) (h1 : y = 1 → b.toInt = q.toInt) (h2 : y = 0 → b.toInt ≠ q.toInt) (e : i' = i + 1) : StL ta L sb p y i' := by
  first | have hj := cl_nat (x := j) ((oz_016f458179 hj)) | (have hj := cl_nat (x := j) (by first | exact oz_016f458179 hj | omega))
  have e1 : btR ta L (p + ((i.toNat : Nat) : Int)) = b.toInt := by rw [show p + ((i.toNat : Nat) : Int) = a.toInt by omega]; exact eb.symm
  have e2 : (chz (sb i.toNat)).toInt = q.toInt := by rw [show i.toNat = j.toNatClampNeg by omega, eq]
  refine ⟨fun hy k hk => ?_, fun hy g => ?_⟩
  · by_cases hk' : (k : Int) < i
    · exact h.1 hx k hk'
    · have : k = i.toNat := by omega
      subst this
      rw [e1, e2]; exact h1 hy
  · have k := g i.toNat (by omega)
    rw [e1, e2] at k
    exact h2 hy k
theorem StL.e (h : StL ta L sb p x i) (hi : x = 0 ∨ 4 ≤ i) : StM ta L sb p x := ⟨fun hx k hk => h.1 hx k (by omega), h.2⟩
theorem mnv_1 {b v : Int} (hs : sz ta t = 4) (e : b = bp ta t) (h : StM ta L sb b v) : MnV ta L sb t v := by
  subst e
  exact ⟨fun hv => ⟨hs, h.1 hv⟩, fun hv g => h.2 hv g.2⟩
theorem mnv_0 (hs : sz ta t ≠ 4) : MnV ta L sb t 0 := ⟨fun h => absurd h (by decide), fun _ g => hs g.1⟩
end MN
theorem mnt_same {tf : Nat → Int32} {ta : Nat → Nat → Int32} {sb : Nat → Int32} {s t : Int32} (hk : TkI tf ta) (h0 : 0 ≤ s.toInt ∧ s.toInt < (tf 6).toInt) (h1 : 0 ≤ t.toInt ∧ t.toInt < (tf 6).toInt) (a : MnT ta (tf 5).toInt sb s) (b : MnT ta (tf 5).toInt sb t) : SameN ta s t := by
  refine ⟨by rw [a.1, b.1], fun j hj => ?_⟩
  have bs := tk_b hk h0.1 h0.2
  have bt := tk_b hk h1.1 h1.2
  have a1 := a.1
  have b1 := b.1
  have q1 := a.2 j (by omega)
  have q2 := b.2 j (by omega)
  unfold btR at q1 q2
  rw [if_pos (by omega)] at q1 q2
  exact i_eq.mpr (q1.trans q2.symm)
/-- which function has a name -/
def FfV (ta na ca : Nat → Nat → Int32) (n : Int) (t : Int32) (v : Int) : Prop := (v = -1 ∧ ∀ j : Nat, (j : Int) < n → ¬ SameN ta (na 15 (ca 39 j).toNatClampNeg) t) ∨ (0 ≤ v ∧ v < n ∧ SameN ta (na 15 (ca 39 v.toNat).toNatClampNeg) t ∧ ∀ j : Nat, (j : Int) < v → ¬ SameN ta (na 15 (ca 39 j).toNatClampNeg) t)
def FfL (ta na ca : Nat → Nat → Int32) (t : Int32) (x : Int) : Prop := ∀ j : Nat, (j : Int) < x → ¬ SameN ta (na 15 (ca 39 j).toNatClampNeg) t
section FF
variable {ta na ca : Nat → Nat → Int32} {n : Int} {t x z u v : Int32}
theorem ffl_0 : FfL ta na ca t 0 := fun j h => absurd h (by omega)
theorem FfL.nx {y : Int} (h : FfL ta na ca t x.toInt) (e : z = ca 39 x.toNatClampNeg) (e2 : u = na 15 z.toNatClampNeg) (s : SmV ta u t v.toInt) (hv : v.toInt = 0) (h0 : 0 ≤ x.toInt) (hy : y = x.toInt + 1) : FfL ta na ca t y := fun j a => by
  by_cases g : (j : Int) < x.toInt
  · exact h j g
  · have hx := cl_nat h0
    have : j = x.toNatClampNeg := by omega
    subst this
    rw [← e, ← e2]; exact s.2 hv
theorem ff_some (h : FfL ta na ca t x.toInt) (e : z = ca 39 x.toNatClampNeg) (e2 : u = na 15 z.toNatClampNeg) (s : SmV ta u t v.toInt) (hv : v.toInt = 1) (h0 : 0 ≤ x.toInt) (hn : x.toInt < n) : FfV ta na ca n t x.toInt := by
  have hx := cl_nat h0
  exact Or.inr ⟨h0, hn, by rw [show x.toInt.toNat = x.toNatClampNeg by omega, ← e, ← e2]; exact s.1 hv, h⟩
theorem ff_none {y : Int} (h : FfL ta na ca t y) (hy : n ≤ y) : FfV ta na ca n t (-1) := Or.inl ⟨rfl, fun j a => h j (by omega)⟩
end FF
/-- of the functions below n: one of that name, with one number -/
def OneI (na ma ca : Nat → Nat → Int32) (f : Nat) : Prop := 0 ≤ (na 17 (ca 39 f).toNatClampNeg).toInt ∧ (na 21 (na 17 (ca 39 f).toNatClampNeg).toNatClampNeg).toInt < 0 ∧ (na 17 (na 17 (ca 39 f).toNatClampNeg).toNatClampNeg).toInt < 0
def HmV (ta na ma ca : Nat → Nat → Int32) (L : Int) (sb : Nat → Int32) (n v : Int) : Prop := v = 1 → ∃ f : Nat, (f : Int) < n ∧ MnT ta L sb (na 15 (ca 39 f).toNatClampNeg) ∧ OneI na ma ca f
/-- the last of that name -/
def MfV (ta na ca : Nat → Nat → Int32) (L : Int) (sb : Nat → Int32) (n v : Int) : Prop := (v = -1 ∧ ∀ j : Nat, (j : Int) < n → ¬ MnT ta L sb (na 15 (ca 39 j).toNatClampNeg)) ∨ (0 ≤ v ∧ v < n ∧ MnT ta L sb (na 15 (ca 39 v.toNat).toNatClampNeg))
theorem mfv_nx {ta na ca : Nat → Nat → Int32} {L n w y : Int} {sb : Nat → Int32} {x z u v : Int32} (h : MfV ta na ca L sb x.toInt w) (e : z = ca 39 x.toNatClampNeg) (e2 : u = na 15 z.toNatClampNeg) (s : MnV ta L sb u v.toInt) (h0 : 0 ≤ x.toInt) (hb : v.toInt = 0 ∨ v.toInt = 1) (hy : n = x.toInt + 1) (h1 : v.toInt = 1 → y = x.toInt) (h2 : v.toInt = 0 → y = w) : MfV ta na ca L sb n y := by
  have hx := cl_nat h0
  rcases hb with hv | hv
  · rw [h2 hv]
    rcases h with ⟨a, b⟩ | ⟨a, b, c⟩
    · refine Or.inl ⟨a, fun j hj => ?_⟩
      by_cases g : (j : Int) < x.toInt
      · exact b j g
      · have : j = x.toNatClampNeg := by omega
        subst this
        rw [← e, ← e2]; exact s.2 hv
    · exact Or.inr ⟨a, by omega, c⟩
  · rw [h1 hv]
    exact Or.inr ⟨h0, by omega, by rw [show x.toInt.toNat = x.toNatClampNeg by omega, ← e, ← e2]; exact s.1 hv⟩
theorem mfv_0 {ta na ca : Nat → Nat → Int32} {L : Int} {sb : Nat → Int32} : MfV ta na ca L sb 0 (-1) := Or.inl ⟨rfl, fun j h => absurd h (by omega)⟩
theorem hm_1 {ta na ma ca : Nat → Nat → Int32} {L n : Int} {sb : Nat → Int32} {x z u v a b c : Int32} (hx0 : 0 ≤ x.toInt) (hxn : x.toInt < n) (e : z = ca 39 x.toNatClampNeg) (e2 : u = na 15 z.toNatClampNeg) (s : MnV ta L sb u v.toInt) (hv : v.toInt = 1) (ea : a = na 17 z.toNatClampNeg) (ha : 0 ≤ a.toInt) (eb : b = na 21 a.toNatClampNeg) (hb : b.toInt < 0) (ec : c = na 17 a.toNatClampNeg) (hc : c.toInt < 0) : HmV ta na ma ca L sb n 1 := fun _ => by
  have hx := cl_nat hx0
  refine ⟨x.toNatClampNeg, by omega, ?_, ?_⟩
  · rw [← e, ← e2]; exact s.1 hv
  · unfold OneI; rw [← e, ← ea, ← eb, ← ec]; exact ⟨ha, hb, hc⟩
/-! a wide row of the pool: a string -/
section LW
variable {p : Program} {l : Launch} {e : Env} {R : Room} {s : State} {m : MethodId} {args : Array Value} {below : List Frame} {meth : Method} {c : Code} {H : Heap} {locs : List Loc} {cells slots : Nat} {Q : State → Prop}
variable {cc : ByteArray} {pc : Nat} {ls : Array Slot} {rest : List Value}
theorem px_ldcwS (hexec : p.tables.exec = Jvm.exec) (hb : c.code = cc) {own tx : String} {index q : Nat} (hown : s.vm.findClass own = some m.cls) (hZ : vk_R own index tx q s) (hdg : decode cc pc = .ok (.ldc_w index, 3))
    (k : W p l e R s m args below meth c H locs cells slots Q (F0 m (pc + 3) ls (.ref q :: rest))) : W p l e R s m args below meth c H locs cells slots Q (F0 m pc ls rest) := by
  intro T hT X
  obtain ⟨t, a1, b1⟩ := k T hT X
  obtain ⟨k1, cf, i, a', hk, hcf, hcp, -, hr, hev'⟩ := Cond.stringRef_spec hown hZ.1
  cases hZ.2.symm.trans hev'
  obtain ⟨k', hk', he⟩ := X.warmed.alike.2.2 _ _ hk
  have hr' : k'.resolved[index]? = some (some (.string q)) := by
    rcases X.warmed.entry hk hk' index with h | ⟨h, -⟩
    · rw [h]; exact hr
    · rw [hr] at h; cases h
  have hdg' : decode c.code (F0 m pc ls rest).pc = .ok (.ldc_w index, 3) := by rw [hb]; exact hdg
  refine ⟨t, ?_, b1⟩
  jvm_step X.here [hexec, hdg', ldc_w.wp_string (e := e) (s := T) (f := F0 m pc ls rest) X.here.top hk' (by rw [he]; exact hcf) hcp hr']
  exact a1
end LW
set_option maxHeartbeats 4000000 in
set_option maxRecDepth 100000 in
theorem c_mp_standsM (l : Launch) (D : va_G) (cs : Nat → ClassId) (sk : Nat) (st : Nat) (sb : Nat → Int32) (h : Nat) (r : Nat → Nat) (g : Nat → Nat → Option Nat) (tf : Nat → Int32) (ta : Nat → Nat → Int32) (pf : Nat → Int32) (na : Nat → Nat → Int32) (ma : Nat → Nat → Int32) (wa : Nat → Nat → Int32) (cf : Nat → Int32) (ca : Nat → Nat → Int32) (ef : Nat → Int32) (ea : Nat → Nat → Int32) (xf : Nat → Int32) (xa : Nat → Nat → Int32) (p0 : Int32)  (g0 : 0 ≤ (tf 5).toInt) (g1 : (tf 5).toInt ≤ 2048) (g2 : 0 ≤ p0.toInt) (g3 : p0.toInt ≤ 4000) (htk : TkI tf ta) : MetI l y_Mpg_stands b_Mpg_stands 5 (.boolean) D cs 4 140 (0) (0) [.ref h, .int p0, .ref sk] [wdP cs h r g tf ta pf na ma wa cf ca ef ea xf xa] (oX (fun A U H => (oP A g U H) ∧ ((vk_R "HomeSystemModel$Program" 688 "main" sk U ∧ oS A sk st 4 sb U H))) [wdP cs h r g tf ta pf na ma wa cf ca ef ea xf xa]) (fun v ps => (ps = [wdP cs h r g tf ta pf na ma wa cf ca ef ea xf xa]) ∧ (v = 0 ∨ v = 1) ∧ (StM ta (tf 5).toInt sb p0.toInt v.toInt) ∧ (R_mp_standsM sb tf ta p0 v)) := by
  refine px_enter (by decide) (Nat.le_of_ble_eq_true rfl) ?_
  intro p e s m below meth c A ls hAe S hr hlk hnm hA hT hX hw hl
  have hl : lv_has ls 5 [(0, .ref h), (1, .int p0), (2, .ref sk)] := hl
  have lp0 := Int32.le_toInt p0
  have up0 := Int32.toInt_lt p0
  have cst0 : (0 : Int32).toInt = 0 := rfl
  have cst1 : (1 : Int32).toInt = 1 := rfl
  have hX : (fun A U H => (oP A g U H) ∧ ((vk_R "HomeSystemModel$Program" 688 "main" sk U ∧ oS A sk st 4 sb U H))) A s s.heap := by rw [hAe]; exact hX
  obtain ⟨hP, hMn⟩ := hX
  have hZ := hP.1
  have hF0 := hP.2.1
  have J5 : ∀ (n_5 : Nat)  (x5_3 x5_4 : Int32) (H : Heap) (locs : List Loc) (ls : Array Slot), (0 ≤ x5_3.toInt) → (x5_3.toInt ≤ 1) → (0 ≤ x5_4.toInt) → (x5_4.toInt ≤ 4) → (StL ta (tf 5).toInt sb p0.toInt x5_3.toInt x5_4.toInt) → (K_mp_standsM_5 sb tf ta p0 x5_3 x5_4) → 4 - x5_4.toInt + 1 < (n_5 : Int) → pw D A s.heap H locs [wdP cs h r g tf ta pf na ma wa cf ca ef ea xf xa] → lv_has ls 5 [(0, .ref h), (1, .int p0), (2, .ref sk), (3, .int x5_3), (4, .int x5_4)] → W p l e { frames := 4, cells := 0, slots := 0, locals := 140 } s m [.ref h, .int p0, .ref sk].toArray below meth c H locs 0 0 (MQ below (va_Qi (fun v ps => (ps = [wdP cs h r g tf ta pf na ma wa cf ca ef ea xf xa]) ∧ (v = 0 ∨ v = 1) ∧ (StM ta (tf 5).toInt sb p0.toInt v.toInt) ∧ (R_mp_standsM sb tf ta p0 v)) (pc_B D (va_A ([wdP cs h r g tf ta pf na ma wa cf ca ef ea xf xa] : List va_W).flatten s.heap.size)) (va_A ([wdP cs h r g tf ta pf na ma wa cf ca ef ea xf xa] : List va_W).flatten s.heap.size)) [.ref h, .int p0, .ref sk].toArray s 0 0 A) (F0 m 5 ls []) := by
    intro  n_5
    induction n_5 with
    | zero =>
      intro x5_3 x5_4 H locs ls k5_0 k5_1 k5_2 k5_3 k5_4 k5_5 hm hw hl
      have lx5_3 := Int32.le_toInt x5_3
      have ux5_3 := Int32.toInt_lt x5_3
      have lx5_4 := Int32.le_toInt x5_4
      have ux5_4 := Int32.toInt_lt x5_4
      have hsl := k5_4
      exact absurd hm (by omega)
    | succ n_5 ih5 =>
      intro x5_3 x5_4 H locs ls k5_0 k5_1 k5_2 k5_3 k5_4 k5_5 hm hw hl
      have lx5_3 := Int32.le_toInt x5_3
      have ux5_3 := Int32.toInt_lt x5_3
      have lx5_4 := Int32.le_toInt x5_4
      have ux5_4 := Int32.toInt_lt x5_4
      have hsl := k5_4
      refine lv_iload S.x S.b d_Mpg_stands_5 (lv_at hl 4 rfl) ?_
      refine lv_aload_n S.x S.b d_Mpg_stands_7 rfl (lv_at hl 2 rfl) ?_
      refine px_calli (pr := [wdP cs h r g tf ta pf na ma wa cf ca ef ea xf xa]) (px_runV (As := []) (rest := [.int x5_4]) S (c_String_length l D cs sk st 4 sb   (show 4 ≤ 1000000 from by omega) _) hT (pr := [wdP cs h r g tf ta pf na ma wa cf ca ef ea xf xa]) (pcs := []) hw (oX_call (P := (fun A U H => (oZ A U H) ∧ (oS A sk st 4 sb U H))) (pr := [wdP cs h r g tf ta pf na ma wa cf ca ef ea xf xa]) (oG_and oG_Z oG_S) hw hA ⟨hZ, hMn.2⟩) (oS_recv hw hMn.2) m1_58 m11_157 m1_56 m1_57 m1_3 q_String_length ⟨Nat.le_of_ble_eq_true rfl, Nat.le_of_ble_eq_true rfl⟩ hl.1 rfl (Nat.le_of_ble_eq_true rfl) d_Mpg_stands_8 ⟨Nat.le_of_ble_eq_true rfl, Nat.le_of_ble_eq_true rfl⟩) hw hA (fun v2 p1 H locs hp1 hw => ?_)
      obtain ⟨rfl, e3, e4⟩ := hp1
      have e3 : v2.toInt = (4 : Int) := e3
      have e4 : R_String_length 4 v2 := e4
      have lv2 := Int32.le_toInt v2
      have uv2 := Int32.toInt_lt v2
      refine lv_icmp_ge (tgt := 47) S.x S.b d_Mpg_stands_11 (by decide) (fun c5 => ?_) (fun c5 => ?_)
      · have nc5 : v2.toInt ≤ x5_4.toInt := (i_le (x := v2) (y := x5_4)).mp c5
        refine lv_iload_n S.x S.b d_Mpg_stands_47 rfl (lv_at hl 3 rfl) ?_
        exact px_iret (v := x5_3) S hr (z_nar (by omega)) hlk hAe hw (Nat.le_of_ble_eq_true rfl) (Nat.le_of_ble_eq_true rfl) (⟨rfl, (show x5_3 = 0 ∨ x5_3 = 1 from by first | exact Or.inl rfl | exact Or.inr rfl | exact z_or (by omega)), (show StM ta (tf 5).toInt sb p0.toInt x5_3.toInt from (StL.e hsl (by omega))), (show R_mp_standsM sb tf ta p0 x5_3 from (k5_5 _ 1 (Or.inr (Or.inl ⟨rfl, x5_3, x5_4, rfl, rfl, rfl, rfl, rfl, v2, e4, Or.inl ⟨nc5, rfl⟩⟩))))⟩) d_Mpg_stands_48
      · have nc5 : ¬ v2.toInt ≤ x5_4.toInt := mt (i_le (x := v2) (y := x5_4)).mpr c5
        refine lv_iload_n S.x S.b d_Mpg_stands_14 rfl (lv_at hl 3 rfl) ?_
        refine lv_if_eq (tgt := 47) S.x S.b d_Mpg_stands_15 (by decide) (fun c7 => ?_) (fun c7 => ?_)
        · have nc7 : x5_3.toInt = (0 : Int) := (i_eq (x := x5_3) (y := 0)).mp c7
          refine lv_iload_n S.x S.b d_Mpg_stands_47 rfl (lv_at hl 3 rfl) ?_
          exact px_iret (v := x5_3) S hr (z_nar (by omega)) hlk hAe hw (Nat.le_of_ble_eq_true rfl) (Nat.le_of_ble_eq_true rfl) (⟨rfl, (show x5_3 = 0 ∨ x5_3 = 1 from by first | exact Or.inl rfl | exact Or.inr rfl | exact z_or (by omega)), (show StM ta (tf 5).toInt sb p0.toInt x5_3.toInt from (StL.e hsl (by omega))), (show R_mp_standsM sb tf ta p0 x5_3 from (k5_5 _ 1 (Or.inr (Or.inl ⟨rfl, x5_3, x5_4, rfl, rfl, rfl, rfl, rfl, v2, e4, Or.inr ⟨nc5, Or.inl ⟨nc7, rfl⟩⟩⟩))))⟩) d_Mpg_stands_48
        · have nc7 : ¬ x5_3.toInt = (0 : Int) := mt (i_eq (x := x5_3) (y := 0)).mpr c7
          refine lv_aload_n S.x S.b d_Mpg_stands_18 rfl (lv_at hl 0 rfl) ?_
          refine lv_iload_n S.x S.b d_Mpg_stands_19 rfl (lv_at hl 1 rfl) ?_
          refine lv_iload S.x S.b d_Mpg_stands_20 (lv_at hl 4 rfl) ?_
          refine lv_iadd S.x S.b d_Mpg_stands_22 ?_
          refine lv_topi (fun z9 ez9 => ?_)
          have tz9 : z9.toInt = (p0.toInt + x5_4.toInt + 2147483648) % 4294967296 - 2147483648 := by rw [ez9]; exact i_add p0 x5_4
          have lz9 := Int32.le_toInt z9
          have uz9 := Int32.toInt_lt z9
          try replace tz9 : z9.toInt = p0.toInt + x5_4.toInt := by omega
          first | refine px_calli (pr := []) (px_runV (As := [.int z9]) (rest := []) S (c_mp_byteAt l D cs h r g tf ta pf na ma wa cf ca ef ea xf xa z9  (show 0 ≤ (tf 5).toInt from g0) (show (tf 5).toInt ≤ 2048 from g1) (show 0 ≤ z9.toInt from (oz_58f944d8b2 tz9 g2 k5_2)) _) hT (pr := []) (pcs := [wdP cs h r g tf ta pf na ma wa cf ca ef ea xf xa]) hw px_X.tt (px_recv hT hw 0 0 rfl rfl rfl) m11_142 m11_139 m11_141 ms_7_15 m1_21 q_Mpg_byteAt ⟨Nat.le_of_ble_eq_true rfl, Nat.le_of_ble_eq_true rfl⟩ hl.1 rfl (Nat.le_of_ble_eq_true rfl) d_Mpg_stands_23 ⟨Nat.le_of_ble_eq_true rfl, Nat.le_of_ble_eq_true rfl⟩) hw hA (fun v11 p10 H locs hp10 hw => ?_) | (refine px_calli (pr := []) (px_runV (As := [.int z9]) (rest := []) S (c_mp_byteAt l D cs h r g tf ta pf na ma wa cf ca ef ea xf xa z9  (show 0 ≤ (tf 5).toInt from by first | exact g0 | omega) (show (tf 5).toInt ≤ 2048 from by first | exact g1 | omega) (show 0 ≤ z9.toInt from by first | exact oz_58f944d8b2 tz9 g2 k5_2 | omega) _) hT (pr := []) (pcs := [wdP cs h r g tf ta pf na ma wa cf ca ef ea xf xa]) hw px_X.tt (px_recv hT hw 0 0 rfl rfl rfl) m11_142 m11_139 m11_141 ms_7_15 m1_21 q_Mpg_byteAt ⟨Nat.le_of_ble_eq_true rfl, Nat.le_of_ble_eq_true rfl⟩ hl.1 rfl (Nat.le_of_ble_eq_true rfl) d_Mpg_stands_23 ⟨Nat.le_of_ble_eq_true rfl, Nat.le_of_ble_eq_true rfl⟩) hw hA (fun v11 p10 H locs hp10 hw => ?_))
          obtain ⟨rfl, e12, e13, e14⟩ := hp10
          have e12 : z9.toInt < (tf 5).toInt ∨ v11.toInt = -1 := e12
          have e13 : BtV ta (tf 5).toInt z9.toInt v11.toInt := e13
          have hbt := e13
          have e14 : R_mp_byteAt tf ta z9 v11 := e14
          have lv11 := Int32.le_toInt v11
          have uv11 := Int32.toInt_lt v11
          refine lv_aload_n S.x S.b d_Mpg_stands_26 rfl (lv_at hl 2 rfl) ?_
          refine lv_iload S.x S.b d_Mpg_stands_27 (lv_at hl 4 rfl) ?_
          first | refine px_calli (pr := [wdP cs h r g tf ta pf na ma wa cf ca ef ea xf xa]) (px_runV (As := [.int x5_4]) (rest := [.int v11]) S (c_sg_charAtL l D cs sk st 4 sb x5_4  (show 4 ≤ 1000000 from by omega) (show 0 ≤ x5_4.toInt from k5_2) (show x5_4.toInt < (4 : Int) from (oz_37a46abba3 nc5 e3)) _) hT (pr := [wdP cs h r g tf ta pf na ma wa cf ca ef ea xf xa]) (pcs := []) hw (oX_call (P := (fun A U H => (oF A U H) ∧ (oZ A U H) ∧ (oS A sk st 4 sb U H))) (pr := [wdP cs h r g tf ta pf na ma wa cf ca ef ea xf xa]) (oG_and oG_F (oG_and oG_Z oG_S)) hw hA ⟨hF0, hZ, hMn.2⟩) (oS_recv hw hMn.2) m1_68 m11_162 m1_66 m1_67 m1_3 q_String_charAt ⟨Nat.le_of_ble_eq_true rfl, Nat.le_of_ble_eq_true rfl⟩ hl.1 rfl (Nat.le_of_ble_eq_true rfl) d_Mpg_stands_29 ⟨Nat.le_of_ble_eq_true rfl, Nat.le_of_ble_eq_true rfl⟩) hw hA (fun v16 p15 H locs hp15 hw => ?_) | (refine px_calli (pr := [wdP cs h r g tf ta pf na ma wa cf ca ef ea xf xa]) (px_runV (As := [.int x5_4]) (rest := [.int v11]) S (c_sg_charAtL l D cs sk st 4 sb x5_4  (show 4 ≤ 1000000 from by omega) (show 0 ≤ x5_4.toInt from by first | exact k5_2 | omega) (show x5_4.toInt < (4 : Int) from by first | exact oz_37a46abba3 nc5 e3 | omega) _) hT (pr := [wdP cs h r g tf ta pf na ma wa cf ca ef ea xf xa]) (pcs := []) hw (oX_call (P := (fun A U H => (oF A U H) ∧ (oZ A U H) ∧ (oS A sk st 4 sb U H))) (pr := [wdP cs h r g tf ta pf na ma wa cf ca ef ea xf xa]) (oG_and oG_F (oG_and oG_Z oG_S)) hw hA ⟨hF0, hZ, hMn.2⟩) (oS_recv hw hMn.2) m1_68 m11_162 m1_66 m1_67 m1_3 q_String_charAt ⟨Nat.le_of_ble_eq_true rfl, Nat.le_of_ble_eq_true rfl⟩ hl.1 rfl (Nat.le_of_ble_eq_true rfl) d_Mpg_stands_29 ⟨Nat.le_of_ble_eq_true rfl, Nat.le_of_ble_eq_true rfl⟩) hw hA (fun v16 p15 H locs hp15 hw => ?_))
          obtain ⟨rfl, e17, e18, e19⟩ := hp15
          have e17 : narrow .char (.int v16) = .int v16 := e17
          have e18 : ChL sb x5_4 v16 := e18
          have hch := e18
          have e19 : R_sg_charAtL sb x5_4 v16 := e19
          have lv16 := Int32.le_toInt v16
          have uv16 := Int32.toInt_lt v16
          refine lv_icmp_ne (tgt := 39) S.x S.b d_Mpg_stands_32 (by decide) (fun c20 => ?_) (fun c20 => ?_)
          · have nc20 : ¬ v11.toInt = v16.toInt := mt (i_eq (x := v11) (y := v16)).mpr c20
            refine lv_iconst (v := 0) S.x S.b d_Mpg_stands_39 (by decide) ?_
            refine lv_istore_n (lv' := [(3, .int 0), (0, .ref h), (1, .int p0), (2, .ref sk), (4, .int x5_4)]) S.x S.b d_Mpg_stands_40 rfl hl (by decide) rfl (fun ls hl => ?_)
            obtain ⟨z22, ez22⟩ : ∃ y : Int32, y = x5_4 + 1 := ⟨_, rfl⟩
            have tz22 : z22.toInt = (x5_4.toInt + 1 + 2147483648) % 4294967296 - 2147483648 := by rw [ez22]; exact i_add x5_4 1
            have lz22 := Int32.le_toInt z22
            have uz22 := Int32.toInt_lt z22
            try replace tz22 : z22.toInt = x5_4.toInt + 1 := by omega
            refine lv_iinc (v := z22) (lv' := [(4, .int z22), (3, .int 0), (0, .ref h), (1, .int p0), (2, .ref sk)]) S.x S.b d_Mpg_stands_41 hl (k := 4) rfl (by rw [ez22]; rfl) (by decide) rfl (fun ls hl => ?_)
            refine lv_goto (tgt := 5) S.x S.b d_Mpg_stands_44 (by decide) ?_
            first | exact ih5 (0 : Int32) z22 _ _ ls (show 0 ≤ (0 : Int) from oz_5a341f00aa) (show (0 : Int) ≤ 1 from oz_6e68cd0f48) (show 0 ≤ z22.toInt from (oz_ae613611c0 tz22 k5_2)) (show z22.toInt ≤ 4 from (oz_d39881dc4c tz22 nc5 e3)) (show StL ta (tf 5).toInt sb p0.toInt (0 : Int) z22.toInt from (StL.nx hsl (by omega) (by omega) (by omega) hbt (by omega) (j := x5_4) (by omega) hch (fun _ => by omega) (fun _ => by omega) (by omega))) (show K_mp_standsM_5 sb tf ta p0 0 z22 from (fun y_v k hE => k5_5 y_v (k + 1) (Or.inr (Or.inl ⟨rfl, x5_3, x5_4, rfl, rfl, rfl, rfl, rfl, v2, e4, Or.inr ⟨nc5, Or.inr ⟨nc7, z9, ez9, v11, e14, v16, e19, Or.inl ⟨nc20, z22, ez22, hE⟩⟩⟩⟩)))) (show 4 - z22.toInt + 1 < (n_5 : Int) from (oz_cc6852433c hm tz22)) hw (lv_sub hl [2, 3, 4, 1, 0] rfl) | (exact ih5 (0 : Int32) z22 _ _ ls (show 0 ≤ (0 : Int) from by first | exact oz_5a341f00aa | omega) (show (0 : Int) ≤ 1 from by first | exact oz_6e68cd0f48 | omega) (show 0 ≤ z22.toInt from by first | exact oz_ae613611c0 tz22 k5_2 | omega) (show z22.toInt ≤ 4 from by first | exact oz_d39881dc4c tz22 nc5 e3 | omega) (show StL ta (tf 5).toInt sb p0.toInt (0 : Int) z22.toInt from (StL.nx hsl (by omega) (by omega) (by omega) hbt (by omega) (j := x5_4) (by omega) hch (fun _ => by omega) (fun _ => by omega) (by omega))) (show K_mp_standsM_5 sb tf ta p0 0 z22 from (fun y_v k hE => k5_5 y_v (k + 1) (Or.inr (Or.inl ⟨rfl, x5_3, x5_4, rfl, rfl, rfl, rfl, rfl, v2, e4, Or.inr ⟨nc5, Or.inr ⟨nc7, z9, ez9, v11, e14, v16, e19, Or.inl ⟨nc20, z22, ez22, hE⟩⟩⟩⟩)))) (show 4 - z22.toInt + 1 < (n_5 : Int) from by first | exact oz_cc6852433c hm tz22 | omega) hw (lv_sub hl [2, 3, 4, 1, 0] rfl))
          · have nc20 : v11.toInt = v16.toInt := (i_eq (x := v11) (y := v16)).mp c20
            refine lv_iconst (v := 1) S.x S.b d_Mpg_stands_35 (by decide) ?_
            refine lv_goto (tgt := 40) S.x S.b d_Mpg_stands_36 (by decide) ?_
            refine lv_istore_n (lv' := [(3, .int 1), (0, .ref h), (1, .int p0), (2, .ref sk), (4, .int x5_4)]) S.x S.b d_Mpg_stands_40 rfl hl (by decide) rfl (fun ls hl => ?_)
            obtain ⟨z23, ez23⟩ : ∃ y : Int32, y = x5_4 + 1 := ⟨_, rfl⟩
            have tz23 : z23.toInt = (x5_4.toInt + 1 + 2147483648) % 4294967296 - 2147483648 := by rw [ez23]; exact i_add x5_4 1
            have lz23 := Int32.le_toInt z23
            have uz23 := Int32.toInt_lt z23
            try replace tz23 : z23.toInt = x5_4.toInt + 1 := by omega
            refine lv_iinc (v := z23) (lv' := [(4, .int z23), (3, .int 1), (0, .ref h), (1, .int p0), (2, .ref sk)]) S.x S.b d_Mpg_stands_41 hl (k := 4) rfl (by rw [ez23]; rfl) (by decide) rfl (fun ls hl => ?_)
            refine lv_goto (tgt := 5) S.x S.b d_Mpg_stands_44 (by decide) ?_
            first | exact ih5 (1 : Int32) z23 _ _ ls (show 0 ≤ (1 : Int) from oz_19c3a41681) (show (1 : Int) ≤ 1 from oz_f9181dc4bb) (show 0 ≤ z23.toInt from (oz_ae613611c0 tz23 k5_2)) (show z23.toInt ≤ 4 from (oz_d39881dc4c tz23 nc5 e3)) (show StL ta (tf 5).toInt sb p0.toInt (1 : Int) z23.toInt from (StL.nx hsl (by omega) (by omega) (by omega) hbt (by omega) (j := x5_4) (by omega) hch (fun _ => by omega) (fun _ => by omega) (by omega))) (show K_mp_standsM_5 sb tf ta p0 1 z23 from (fun y_v k hE => k5_5 y_v (k + 1) (Or.inr (Or.inl ⟨rfl, x5_3, x5_4, rfl, rfl, rfl, rfl, rfl, v2, e4, Or.inr ⟨nc5, Or.inr ⟨nc7, z9, ez9, v11, e14, v16, e19, Or.inr ⟨nc20, z23, ez23, hE⟩⟩⟩⟩)))) (show 4 - z23.toInt + 1 < (n_5 : Int) from (oz_cc6852433c hm tz23)) hw (lv_sub hl [2, 3, 4, 1, 0] rfl) | (exact ih5 (1 : Int32) z23 _ _ ls (show 0 ≤ (1 : Int) from by first | exact oz_19c3a41681 | omega) (show (1 : Int) ≤ 1 from by first | exact oz_f9181dc4bb | omega) (show 0 ≤ z23.toInt from by first | exact oz_ae613611c0 tz23 k5_2 | omega) (show z23.toInt ≤ 4 from by first | exact oz_d39881dc4c tz23 nc5 e3 | omega) (show StL ta (tf 5).toInt sb p0.toInt (1 : Int) z23.toInt from (StL.nx hsl (by omega) (by omega) (by omega) hbt (by omega) (j := x5_4) (by omega) hch (fun _ => by omega) (fun _ => by omega) (by omega))) (show K_mp_standsM_5 sb tf ta p0 1 z23 from (fun y_v k hE => k5_5 y_v (k + 1) (Or.inr (Or.inl ⟨rfl, x5_3, x5_4, rfl, rfl, rfl, rfl, rfl, v2, e4, Or.inr ⟨nc5, Or.inr ⟨nc7, z9, ez9, v11, e14, v16, e19, Or.inr ⟨nc20, z23, ez23, hE⟩⟩⟩⟩)))) (show 4 - z23.toInt + 1 < (n_5 : Int) from by first | exact oz_cc6852433c hm tz23 | omega) hw (lv_sub hl [2, 3, 4, 1, 0] rfl))
  refine lv_iconst (v := 1) S.x S.b d_Mpg_stands_0 (by decide) ?_
  refine lv_istore_n (lv' := [(3, .int 1), (0, .ref h), (1, .int p0), (2, .ref sk)]) S.x S.b d_Mpg_stands_1 rfl hl (by decide) rfl (fun ls hl => ?_)
  refine lv_iconst (v := 0) S.x S.b d_Mpg_stands_2 (by decide) ?_
  refine lv_istore (lv' := [(4, .int 0), (3, .int 1), (0, .ref h), (1, .int p0), (2, .ref sk)]) S.x S.b d_Mpg_stands_3 hl (by decide) rfl (fun ls hl => ?_)
  first | exact J5 ((4 - (0 : Int) + 1).toNat + 1) (1 : Int32) (0 : Int32) _ _ ls (show 0 ≤ (1 : Int) from oz_19c3a41681) (show (1 : Int) ≤ 1 from oz_f9181dc4bb) (show 0 ≤ (0 : Int) from oz_5a341f00aa) (show (0 : Int) ≤ 4 from oz_9a2dd02853) (show StL ta (tf 5).toInt sb p0.toInt (1 : Int) (0 : Int) from stl_0) (show K_mp_standsM_5 sb tf ta p0 1 0 from (fun y_v k hE => Exists.intro (k + 1) (Or.inl ⟨rfl, hE⟩))) (show 4 - (0 : Int) + 1 < ((((4 - (0 : Int) + 1).toNat + 1 : Nat) : Int) : Int) from oz_natlt) hw (lv_sub hl [2, 3, 4, 1, 0] rfl) | (exact J5 ((4 - (0 : Int) + 1).toNat + 1) (1 : Int32) (0 : Int32) _ _ ls (show 0 ≤ (1 : Int) from by first | exact oz_19c3a41681 | omega) (show (1 : Int) ≤ 1 from by first | exact oz_f9181dc4bb | omega) (show 0 ≤ (0 : Int) from by first | exact oz_5a341f00aa | omega) (show (0 : Int) ≤ 4 from by first | exact oz_9a2dd02853 | omega) (show StL ta (tf 5).toInt sb p0.toInt (1 : Int) (0 : Int) from stl_0) (show K_mp_standsM_5 sb tf ta p0 1 0 from (fun y_v k hE => Exists.intro (k + 1) (Or.inl ⟨rfl, hE⟩))) (show 4 - (0 : Int) + 1 < ((((4 - (0 : Int) + 1).toNat + 1 : Nat) : Int) : Int) from by first | exact oz_natlt | omega) hw (lv_sub hl [2, 3, 4, 1, 0] rfl))
set_option maxHeartbeats 4000000 in
set_option maxRecDepth 100000 in
theorem c_mp_isNamedM (l : Launch) (D : va_G) (cs : Nat → ClassId) (sk : Nat) (st : Nat) (sb : Nat → Int32) (h : Nat) (r : Nat → Nat) (g : Nat → Nat → Option Nat) (tf : Nat → Int32) (ta : Nat → Nat → Int32) (pf : Nat → Int32) (na : Nat → Nat → Int32) (ma : Nat → Nat → Int32) (wa : Nat → Nat → Int32) (cf : Nat → Int32) (ca : Nat → Nat → Int32) (ef : Nat → Int32) (ea : Nat → Nat → Int32) (xf : Nat → Int32) (xa : Nat → Nat → Int32) (p0 : Int32)  (g0 : 0 ≤ p0.toInt) (g1 : p0.toInt < (tf 6).toInt) (g2 : (tf 6).toInt ≤ 2049) (htk : TkI tf ta) : MetI l y_Mpg_isNamed b_Mpg_isNamed 3 (.boolean) D cs 5 190 (0) (0) [.ref h, .int p0, .ref sk] [wdP cs h r g tf ta pf na ma wa cf ca ef ea xf xa] (oX (fun A U H => (oP A g U H) ∧ ((vk_R "HomeSystemModel$Program" 688 "main" sk U ∧ oS A sk st 4 sb U H))) [wdP cs h r g tf ta pf na ma wa cf ca ef ea xf xa]) (fun v ps => (ps = [wdP cs h r g tf ta pf na ma wa cf ca ef ea xf xa]) ∧ (v = 0 ∨ v = 1) ∧ (MnV ta (tf 5).toInt sb p0 v.toInt) ∧ (R_mp_isNamedM sb tf ta p0 v)) := by
  refine px_enter (by decide) (Nat.le_of_ble_eq_true rfl) ?_
  intro p e s m below meth c A ls hAe S hr hlk hnm hA hT hX hw hl
  have hl : lv_has ls 3 [(0, .ref h), (1, .int p0), (2, .ref sk)] := hl
  have lp0 := Int32.le_toInt p0
  have up0 := Int32.toInt_lt p0
  have cst0 : (0 : Int32).toInt = 0 := rfl
  have cst1 : (1 : Int32).toInt = 1 := rfl
  have hX : (fun A U H => (oP A g U H) ∧ ((vk_R "HomeSystemModel$Program" 688 "main" sk U ∧ oS A sk st 4 sb U H))) A s s.heap := by rw [hAe]; exact hX
  obtain ⟨hP, hMn⟩ := hX
  have hZ := hP.1
  have hF0 := hP.2.1
  have hb_p0 := tk_b htk (x := p0) (by omega) (by omega)
  refine lv_aload_n S.x S.b d_Mpg_isNamed_0 rfl (lv_at hl 0 rfl) ?_
  refine gP_8 S hT hw 0 rfl m9_232 d_Mpg_isNamed_1 ?_
  refine lv_iload_n S.x S.b d_Mpg_isNamed_4 rfl (lv_at hl 1 rfl) ?_
  refine px_iald S hT hw 0 7 (n := 2060) (f := (ta 8)) rfl gp_8 (x := p0) (vp_in_iff.mpr (by first | exact oz_846323bf3a g0 g1 g2 | (constructor <;> omega))) d_Mpg_isNamed_5 ?_
  refine lv_topi (fun z1 ez1 => ?_)
  have lz1 := Int32.le_toInt z1
  have uz1 := Int32.toInt_lt z1
  have rz1 : z1.toInt = sz ta p0 := by rw [ez1]; rfl
  refine lv_aload_n S.x S.b d_Mpg_isNamed_6 rfl (lv_at hl 2 rfl) ?_
  refine px_calli (pr := [wdP cs h r g tf ta pf na ma wa cf ca ef ea xf xa]) (px_runV (As := []) (rest := [.int z1]) S (c_String_length l D cs sk st 4 sb   (show 4 ≤ 1000000 from by omega) _) hT (pr := [wdP cs h r g tf ta pf na ma wa cf ca ef ea xf xa]) (pcs := []) hw (oX_call (P := (fun A U H => (oZ A U H) ∧ (oS A sk st 4 sb U H))) (pr := [wdP cs h r g tf ta pf na ma wa cf ca ef ea xf xa]) (oG_and oG_Z oG_S) hw hA ⟨hZ, hMn.2⟩) (oS_recv hw hMn.2) m1_58 m11_157 m1_56 m1_57 m1_3 q_String_length ⟨Nat.le_of_ble_eq_true rfl, Nat.le_of_ble_eq_true rfl⟩ hl.1 rfl (Nat.le_of_ble_eq_true rfl) d_Mpg_isNamed_7 ⟨Nat.le_of_ble_eq_true rfl, Nat.le_of_ble_eq_true rfl⟩) hw hA (fun v3 p2 H locs hp2 hw => ?_)
  obtain ⟨rfl, e4, e5⟩ := hp2
  have e4 : v3.toInt = (4 : Int) := e4
  have e5 : R_String_length 4 v3 := e5
  have lv3 := Int32.le_toInt v3
  have uv3 := Int32.toInt_lt v3
  refine lv_icmp_ne (tgt := 31) S.x S.b d_Mpg_isNamed_10 (by decide) (fun c6 => ?_) (fun c6 => ?_)
  · have nc6 : ¬ z1.toInt = v3.toInt := mt (i_eq (x := z1) (y := v3)).mpr c6
    refine lv_iconst (v := 0) S.x S.b d_Mpg_isNamed_31 (by decide) ?_
    exact px_iret (v := 0) S hr rfl hlk hAe hw (Nat.le_of_ble_eq_true rfl) (Nat.le_of_ble_eq_true rfl) (⟨rfl, (show (0 : Int32) = 0 ∨ (0 : Int32) = 1 from by first | exact Or.inl rfl | exact Or.inr rfl | exact z_or (by omega)), (show MnV ta (tf 5).toInt sb p0 (0 : Int) from (by first | exact mnv_0 (by omega) | exact mnv_1 (by omega) (by omega) (show StM ta (tf 5).toInt sb _ 0 from (by have q9 := hsm9; rw [show p0.toInt = 0 by omega] at q9; exact q9)))), (show R_mp_isNamedM sb tf ta p0 (0 : Int32) from (Or.inl ⟨z1, ez1, v3, e5, Or.inl ⟨nc6, rfl⟩⟩))⟩) d_Mpg_isNamed_32
  · have nc6 : z1.toInt = v3.toInt := (i_eq (x := z1) (y := v3)).mp c6
    refine lv_aload_n S.x S.b d_Mpg_isNamed_13 rfl (lv_at hl 0 rfl) ?_
    refine lv_aload_n S.x S.b d_Mpg_isNamed_14 rfl (lv_at hl 0 rfl) ?_
    refine gP_7 S hT hw 0 rfl m9_231 d_Mpg_isNamed_15 ?_
    refine lv_iload_n S.x S.b d_Mpg_isNamed_18 rfl (lv_at hl 1 rfl) ?_
    refine px_iald S hT hw 0 6 (n := 2060) (f := (ta 7)) rfl gp_7 (x := p0) (vp_in_iff.mpr (by first | exact oz_846323bf3a g0 g1 g2 | (constructor <;> omega))) d_Mpg_isNamed_19 ?_
    refine lv_topi (fun z8 ez8 => ?_)
    have lz8 := Int32.le_toInt z8
    have uz8 := Int32.toInt_lt z8
    have rz8 : z8.toInt = bp ta p0 := by rw [ez8]; rfl
    refine lv_aload_n S.x S.b d_Mpg_isNamed_20 rfl (lv_at hl 2 rfl) ?_
    first | refine px_calli (pr := []) (px_runV (As := [.int z8, .ref sk]) (rest := []) S (c_mp_standsM l D cs sk st sb h r g tf ta pf na ma wa cf ca ef ea xf xa z8  (show 0 ≤ (tf 5).toInt from (oz_3e80f65ba7 hb_p0.2.2.1 hb_p0.1 hb_p0.2.1)) (show (tf 5).toInt ≤ 2048 from hb_p0.2.2.2) (show 0 ≤ z8.toInt from (oz_f3ebed1ad0 rz8 hb_p0.1)) (show z8.toInt ≤ 4000 from (oz_27a4de8aa9 rz8 hb_p0.2.2.1 hb_p0.2.1 hb_p0.2.2.2)) htk _) hT (pr := []) (pcs := [wdP cs h r g tf ta pf na ma wa cf ca ef ea xf xa]) hw (oX_call (P := (fun A U H => (oP A g U H) ∧ ((vk_R "HomeSystemModel$Program" 688 "main" sk U ∧ oS A sk st 4 sb U H)))) (pr := []) (oG_and oG_P (oG_and oG_L oG_S)) hw hA ⟨hP, hMn⟩) (px_recv hT hw 0 0 rfl rfl rfl) m11_161 m11_158 m11_160 ms_8_2 m1_21 q_Mpg_stands ⟨Nat.le_of_ble_eq_true rfl, Nat.le_of_ble_eq_true rfl⟩ hl.1 rfl (Nat.le_of_ble_eq_true rfl) d_Mpg_isNamed_21 ⟨Nat.le_of_ble_eq_true rfl, Nat.le_of_ble_eq_true rfl⟩) hw hA (fun v10 p9 H locs hp9 hw => ?_) | (refine px_calli (pr := []) (px_runV (As := [.int z8, .ref sk]) (rest := []) S (c_mp_standsM l D cs sk st sb h r g tf ta pf na ma wa cf ca ef ea xf xa z8  (show 0 ≤ (tf 5).toInt from by first | exact oz_3e80f65ba7 hb_p0.2.2.1 hb_p0.1 hb_p0.2.1 | omega) (show (tf 5).toInt ≤ 2048 from by first | exact hb_p0.2.2.2 | omega) (show 0 ≤ z8.toInt from by first | exact oz_f3ebed1ad0 rz8 hb_p0.1 | omega) (show z8.toInt ≤ 4000 from by first | exact oz_27a4de8aa9 rz8 hb_p0.2.2.1 hb_p0.2.1 hb_p0.2.2.2 | omega) htk _) hT (pr := []) (pcs := [wdP cs h r g tf ta pf na ma wa cf ca ef ea xf xa]) hw (oX_call (P := (fun A U H => (oP A g U H) ∧ ((vk_R "HomeSystemModel$Program" 688 "main" sk U ∧ oS A sk st 4 sb U H)))) (pr := []) (oG_and oG_P (oG_and oG_L oG_S)) hw hA ⟨hP, hMn⟩) (px_recv hT hw 0 0 rfl rfl rfl) m11_161 m11_158 m11_160 ms_8_2 m1_21 q_Mpg_stands ⟨Nat.le_of_ble_eq_true rfl, Nat.le_of_ble_eq_true rfl⟩ hl.1 rfl (Nat.le_of_ble_eq_true rfl) d_Mpg_isNamed_21 ⟨Nat.le_of_ble_eq_true rfl, Nat.le_of_ble_eq_true rfl⟩) hw hA (fun v10 p9 H locs hp9 hw => ?_))
    obtain ⟨rfl, e11, e12, e13⟩ := hp9
    have e11 := z_rng e11
    have e12 : StM ta (tf 5).toInt sb z8.toInt v10.toInt := e12
    have hsm9 := e12
    have e13 : R_mp_standsM sb tf ta z8 v10 := e13
    have lv10 := Int32.le_toInt v10
    have uv10 := Int32.toInt_lt v10
    refine lv_if_eq (tgt := 31) S.x S.b d_Mpg_isNamed_24 (by decide) (fun c14 => ?_) (fun c14 => ?_)
    · have nc14 : v10.toInt = (0 : Int) := (i_eq (x := v10) (y := 0)).mp c14
      refine lv_iconst (v := 0) S.x S.b d_Mpg_isNamed_31 (by decide) ?_
      exact px_iret (v := 0) S hr rfl hlk hAe hw (Nat.le_of_ble_eq_true rfl) (Nat.le_of_ble_eq_true rfl) (⟨rfl, (show (0 : Int32) = 0 ∨ (0 : Int32) = 1 from by first | exact Or.inl rfl | exact Or.inr rfl | exact z_or (by omega)), (show MnV ta (tf 5).toInt sb p0 (0 : Int) from (by first | exact mnv_0 (by omega) | exact mnv_1 (by omega) (by omega) (show StM ta (tf 5).toInt sb _ 0 from (by have q9 := hsm9; rw [show v10.toInt = 0 by omega] at q9; exact q9)))), (show R_mp_isNamedM sb tf ta p0 (0 : Int32) from (Or.inl ⟨z1, ez1, v3, e5, Or.inr ⟨nc6, z8, ez8, v10, e13, Or.inl ⟨nc14, rfl⟩⟩⟩))⟩) d_Mpg_isNamed_32
    · have nc14 : ¬ v10.toInt = (0 : Int) := mt (i_eq (x := v10) (y := 0)).mpr c14
      refine lv_iconst (v := 1) S.x S.b d_Mpg_isNamed_27 (by decide) ?_
      refine lv_goto (tgt := 32) S.x S.b d_Mpg_isNamed_28 (by decide) ?_
      exact px_iret (v := 1) S hr rfl hlk hAe hw (Nat.le_of_ble_eq_true rfl) (Nat.le_of_ble_eq_true rfl) (⟨rfl, (show (1 : Int32) = 0 ∨ (1 : Int32) = 1 from by first | exact Or.inl rfl | exact Or.inr rfl | exact z_or (by omega)), (show MnV ta (tf 5).toInt sb p0 (1 : Int) from (mnv_1 (by omega) (by omega) (show StM ta (tf 5).toInt sb _ 1 from (by have q9 := hsm9; rw [show v10.toInt = 1 by omega] at q9; exact q9)))), (show R_mp_isNamedM sb tf ta p0 (1 : Int32) from (Or.inl ⟨z1, ez1, v3, e5, Or.inr ⟨nc6, z8, ez8, v10, e13, Or.inr ⟨nc14, rfl⟩⟩⟩))⟩) d_Mpg_isNamed_32
set_option maxHeartbeats 4000000 in
set_option maxRecDepth 100000 in
theorem c_mp_findFunction2 (l : Launch) (D : va_G) (cs : Nat → ClassId) (h : Nat) (r : Nat → Nat) (g : Nat → Nat → Option Nat) (tf : Nat → Int32) (ta : Nat → Nat → Int32) (pf : Nat → Int32) (na : Nat → Nat → Int32) (ma : Nat → Nat → Int32) (wa : Nat → Nat → Int32) (cf : Nat → Int32) (ca : Nat → Nat → Int32) (ef : Nat → Int32) (ea : Nat → Nat → Int32) (xf : Nat → Int32) (xa : Nat → Nat → Int32) (p0 : Int32)  (g0 : 0 ≤ p0.toInt) (g1 : p0.toInt < (tf 6).toInt) (g2 : (tf 6).toInt ≤ 2049) (g3 : 0 ≤ (cf 38).toInt) (htk : TkI tf ta) (hft : FnT (tf 6).toInt na ca (cf 38).toInt) : MetI l y_Mpg_findFunction b_Mpg_findFunction 3 (.int) D cs 1 40 (0) (0) [.ref h, .int p0] [wdP cs h r g tf ta pf na ma wa cf ca ef ea xf xa] (fun _ => True) (fun v ps => (ps = [wdP cs h r g tf ta pf na ma wa cf ca ef ea xf xa]) ∧ (-1 ≤ v.toInt) ∧ (v.toInt < (cf 38).toInt) ∧ (FfV ta na ca (cf 38).toInt p0 v.toInt) ∧ (R_mp_findFunction2 ta na cf ca p0 v)) := by
  refine px_enter (by decide) (Nat.le_of_ble_eq_true rfl) ?_
  intro p e s m below meth c A ls hAe S hr hlk hnm hA hT hX hw hl
  have hl : lv_has ls 3 [(0, .ref h), (1, .int p0)] := hl
  have lp0 := Int32.le_toInt p0
  have up0 := Int32.toInt_lt p0
  have cstm1 : ((-1) : Int32).toInt = (-1) := rfl
  have cst0 : (0 : Int32).toInt = 0 := rfl
  have hf11 := hft.1
  have J2 : ∀ (n_2 : Nat)  (x2_2 : Int32) (H : Heap) (locs : List Loc) (ls : Array Slot), (0 ≤ x2_2.toInt) → (x2_2.toInt ≤ (cf 38).toInt) → (FfL ta na ca p0 x2_2.toInt) → (K_mp_findFunction2_2 ta na cf ca p0 x2_2) → (cf 38).toInt - x2_2.toInt < (n_2 : Int) → pw D A s.heap H locs [wdP cs h r g tf ta pf na ma wa cf ca ef ea xf xa] → lv_has ls 3 [(0, .ref h), (1, .int p0), (2, .int x2_2)] → W p l e { frames := 1, cells := 0, slots := 0, locals := 40 } s m [.ref h, .int p0].toArray below meth c H locs 0 0 (MQ below (va_Qi (fun v ps => (ps = [wdP cs h r g tf ta pf na ma wa cf ca ef ea xf xa]) ∧ (-1 ≤ v.toInt) ∧ (v.toInt < (cf 38).toInt) ∧ (FfV ta na ca (cf 38).toInt p0 v.toInt) ∧ (R_mp_findFunction2 ta na cf ca p0 v)) (pc_B D (va_A ([wdP cs h r g tf ta pf na ma wa cf ca ef ea xf xa] : List va_W).flatten s.heap.size)) (va_A ([wdP cs h r g tf ta pf na ma wa cf ca ef ea xf xa] : List va_W).flatten s.heap.size)) [.ref h, .int p0].toArray s 0 0 A) (F0 m 2 ls []) := by
    intro  n_2
    induction n_2 with
    | zero =>
      intro x2_2 H locs ls k2_0 k2_1 k2_2 k2_3 hm hw hl
      have lx2_2 := Int32.le_toInt x2_2
      have ux2_2 := Int32.toInt_lt x2_2
      have hfl := k2_2
      exact absurd hm (by omega)
    | succ n_2 ih2 =>
      intro x2_2 H locs ls k2_0 k2_1 k2_2 k2_3 hm hw hl
      have lx2_2 := Int32.le_toInt x2_2
      have ux2_2 := Int32.toInt_lt x2_2
      have hfl := k2_2
      refine lv_iload_n S.x S.b d_Mpg_findFunction_2 rfl (lv_at hl 2 rfl) ?_
      refine lv_aload_n S.x S.b d_Mpg_findFunction_3 rfl (lv_at hl 0 rfl) ?_
      refine gP_38 (v := (cf 38)) S hT hw 0 rfl rfl m10_27 d_Mpg_findFunction_4 ?_
      refine lv_icmp_ge (tgt := 37) S.x S.b d_Mpg_findFunction_7 (by decide) (fun c1 => ?_) (fun c1 => ?_)
      · have nc1 : (cf 38).toInt ≤ x2_2.toInt := (i_le (x := (cf 38)) (y := x2_2)).mp c1
        refine lv_iconst (v := (-1)) S.x S.b d_Mpg_findFunction_37 (by decide) ?_
        first | exact px_iret (v := (-1)) S hr rfl hlk hAe hw (Nat.le_of_ble_eq_true rfl) (Nat.le_of_ble_eq_true rfl) (⟨rfl, (show -1 ≤ (-1 : Int) from oz_268d846349), (show (-1 : Int) < (cf 38).toInt from (oz_3089bf86b0 k2_1 k2_0)), (show FfV ta na ca (cf 38).toInt p0 (-1 : Int) from (ff_none hfl (by omega))), (show R_mp_findFunction2 ta na cf ca p0 (-1 : Int32) from (k2_3 _ 1 (Or.inr (Or.inl ⟨rfl, x2_2, rfl, rfl, rfl, rfl, rfl, Or.inl ⟨nc1, rfl⟩⟩))))⟩) d_Mpg_findFunction_38 | (exact px_iret (v := (-1)) S hr rfl hlk hAe hw (Nat.le_of_ble_eq_true rfl) (Nat.le_of_ble_eq_true rfl) (⟨rfl, (show -1 ≤ (-1 : Int) from by first | exact oz_268d846349 | omega), (show (-1 : Int) < (cf 38).toInt from by first | exact oz_3089bf86b0 k2_1 k2_0 | omega), (show FfV ta na ca (cf 38).toInt p0 (-1 : Int) from (ff_none hfl (by omega))), (show R_mp_findFunction2 ta na cf ca p0 (-1 : Int32) from (k2_3 _ 1 (Or.inr (Or.inl ⟨rfl, x2_2, rfl, rfl, rfl, rfl, rfl, Or.inl ⟨nc1, rfl⟩⟩))))⟩) d_Mpg_findFunction_38)
      · have nc1 : ¬ (cf 38).toInt ≤ x2_2.toInt := mt (i_le (x := (cf 38)) (y := x2_2)).mpr c1
        refine lv_aload_n S.x S.b d_Mpg_findFunction_10 rfl (lv_at hl 0 rfl) ?_
        refine lv_aload_n S.x S.b d_Mpg_findFunction_11 rfl (lv_at hl 0 rfl) ?_
        refine gP_15 S hT hw 0 rfl m9_239 d_Mpg_findFunction_12 ?_
        refine lv_aload_n S.x S.b d_Mpg_findFunction_15 rfl (lv_at hl 0 rfl) ?_
        refine gP_39 S hT hw 0 rfl m10_28 d_Mpg_findFunction_16 ?_
        refine lv_iload_n S.x S.b d_Mpg_findFunction_19 rfl (lv_at hl 2 rfl) ?_
        refine px_iald S hT hw 0 26 (n := 260) (f := (ca 39)) rfl gp_39 (x := x2_2) (vp_in_iff.mpr (by first | exact oz_873c269565 k2_0 nc1 hf11 | (constructor <;> omega))) d_Mpg_findFunction_20 ?_
        refine lv_topi (fun z3 ez3 => ?_)
        have lz3 := Int32.le_toInt z3
        have uz3 := Int32.toInt_lt z3
        have rz3 := FnT.at hft (x := x2_2) (by omega) (by omega) ez3
        refine px_iald S hT hw 0 11 (n := 2100) (f := (na 15)) rfl gp_15 (x := z3) (vp_in_iff.mpr (by constructor <;> omega)) d_Mpg_findFunction_21 ?_
        refine lv_topi (fun z4 ez4 => ?_)
        have lz4 := Int32.le_toInt z4
        have uz4 := Int32.toInt_lt z4
        have qz4 := rz3.2; rw [← ez4] at qz4
        refine lv_iload_n S.x S.b d_Mpg_findFunction_22 rfl (lv_at hl 1 rfl) ?_
        first | refine px_calli (pr := []) (px_runV (As := [.int z4, .int p0]) (rest := []) S (c_mp_sameName l D cs h r g tf ta pf na ma wa cf ca ef ea xf xa z4 p0  (show 0 ≤ z4.toInt from by omega) (show z4.toInt < (tf 6).toInt from by omega) (show 0 ≤ p0.toInt from g0) (show p0.toInt < (tf 6).toInt from g1) (show (tf 6).toInt ≤ 2049 from g2) htk _) hT (pr := []) (pcs := [wdP cs h r g tf ta pf na ma wa cf ca ef ea xf xa]) hw px_X.tt (px_recv hT hw 0 0 rfl rfl rfl) m12_169 m12_166 m12_168 ms_11_11 m1_21 q_Mpg_sameName ⟨Nat.le_of_ble_eq_true rfl, Nat.le_of_ble_eq_true rfl⟩ hl.1 rfl (Nat.le_of_ble_eq_true rfl) d_Mpg_findFunction_23 ⟨Nat.le_of_ble_eq_true rfl, Nat.le_of_ble_eq_true rfl⟩) hw hA (fun v6 p5 H locs hp5 hw => ?_) | (refine px_calli (pr := []) (px_runV (As := [.int z4, .int p0]) (rest := []) S (c_mp_sameName l D cs h r g tf ta pf na ma wa cf ca ef ea xf xa z4 p0  (show 0 ≤ z4.toInt from by omega) (show z4.toInt < (tf 6).toInt from by omega) (show 0 ≤ p0.toInt from by first | exact g0 | omega) (show p0.toInt < (tf 6).toInt from by first | exact g1 | omega) (show (tf 6).toInt ≤ 2049 from by first | exact g2 | omega) htk _) hT (pr := []) (pcs := [wdP cs h r g tf ta pf na ma wa cf ca ef ea xf xa]) hw px_X.tt (px_recv hT hw 0 0 rfl rfl rfl) m12_169 m12_166 m12_168 ms_11_11 m1_21 q_Mpg_sameName ⟨Nat.le_of_ble_eq_true rfl, Nat.le_of_ble_eq_true rfl⟩ hl.1 rfl (Nat.le_of_ble_eq_true rfl) d_Mpg_findFunction_23 ⟨Nat.le_of_ble_eq_true rfl, Nat.le_of_ble_eq_true rfl⟩) hw hA (fun v6 p5 H locs hp5 hw => ?_))
        obtain ⟨rfl, e7, e8, e9⟩ := hp5
        have e7 := z_rng e7
        have e8 : SmV ta z4 p0 v6.toInt := e8
        have hsv := e8
        have e9 : R_mp_sameName ta z4 p0 v6 := e9
        have lv6 := Int32.le_toInt v6
        have uv6 := Int32.toInt_lt v6
        refine lv_if_eq (tgt := 31) S.x S.b d_Mpg_findFunction_26 (by decide) (fun c10 => ?_) (fun c10 => ?_)
        · have nc10 : v6.toInt = (0 : Int) := (i_eq (x := v6) (y := 0)).mp c10
          obtain ⟨z12, ez12⟩ : ∃ y : Int32, y = x2_2 + 1 := ⟨_, rfl⟩
          have tz12 : z12.toInt = (x2_2.toInt + 1 + 2147483648) % 4294967296 - 2147483648 := by rw [ez12]; exact i_add x2_2 1
          have lz12 := Int32.le_toInt z12
          have uz12 := Int32.toInt_lt z12
          try replace tz12 : z12.toInt = x2_2.toInt + 1 := by omega
          refine lv_iinc (v := z12) (lv' := [(2, .int z12), (0, .ref h), (1, .int p0)]) S.x S.b d_Mpg_findFunction_31 hl (k := 2) rfl (by rw [ez12]; rfl) (by decide) rfl (fun ls hl => ?_)
          refine lv_goto (tgt := 2) S.x S.b d_Mpg_findFunction_34 (by decide) ?_
          first | exact ih2 z12 _ _ ls (show 0 ≤ z12.toInt from (oz_ae613611c0 tz12 k2_0)) (show z12.toInt ≤ (cf 38).toInt from (oz_b1314744c8 nc1 tz12)) (show FfL ta na ca p0 z12.toInt from (FfL.nx hfl ez3 ez4 hsv (by omega) (by omega) (by omega))) (show K_mp_findFunction2_2 ta na cf ca p0 z12 from (fun y_v k hE => k2_3 y_v (k + 1) (Or.inr (Or.inl ⟨rfl, x2_2, rfl, rfl, rfl, rfl, rfl, Or.inr ⟨nc1, z3, ez3, z4, ez4, v6, e9, Or.inl ⟨nc10, z12, ez12, hE⟩⟩⟩)))) (show (cf 38).toInt - z12.toInt < (n_2 : Int) from (oz_654393c63a hm tz12)) hw (lv_sub hl [1, 2, 0] rfl) | (exact ih2 z12 _ _ ls (show 0 ≤ z12.toInt from by first | exact oz_ae613611c0 tz12 k2_0 | omega) (show z12.toInt ≤ (cf 38).toInt from by first | exact oz_b1314744c8 nc1 tz12 | omega) (show FfL ta na ca p0 z12.toInt from (FfL.nx hfl ez3 ez4 hsv (by omega) (by omega) (by omega))) (show K_mp_findFunction2_2 ta na cf ca p0 z12 from (fun y_v k hE => k2_3 y_v (k + 1) (Or.inr (Or.inl ⟨rfl, x2_2, rfl, rfl, rfl, rfl, rfl, Or.inr ⟨nc1, z3, ez3, z4, ez4, v6, e9, Or.inl ⟨nc10, z12, ez12, hE⟩⟩⟩)))) (show (cf 38).toInt - z12.toInt < (n_2 : Int) from by first | exact oz_654393c63a hm tz12 | omega) hw (lv_sub hl [1, 2, 0] rfl))
        · have nc10 : ¬ v6.toInt = (0 : Int) := mt (i_eq (x := v6) (y := 0)).mpr c10
          refine lv_iload_n S.x S.b d_Mpg_findFunction_29 rfl (lv_at hl 2 rfl) ?_
          first | exact px_iret (v := x2_2) S hr rfl hlk hAe hw (Nat.le_of_ble_eq_true rfl) (Nat.le_of_ble_eq_true rfl) (⟨rfl, (show -1 ≤ x2_2.toInt from (oz_bd82420902 k2_0)), (show x2_2.toInt < (cf 38).toInt from (oz_e1f61422c9 nc1)), (show FfV ta na ca (cf 38).toInt p0 x2_2.toInt from (ff_some hfl ez3 ez4 hsv (by omega) (by omega) (by omega))), (show R_mp_findFunction2 ta na cf ca p0 x2_2 from (k2_3 _ 1 (Or.inr (Or.inl ⟨rfl, x2_2, rfl, rfl, rfl, rfl, rfl, Or.inr ⟨nc1, z3, ez3, z4, ez4, v6, e9, Or.inr ⟨nc10, rfl⟩⟩⟩))))⟩) d_Mpg_findFunction_30 | (exact px_iret (v := x2_2) S hr rfl hlk hAe hw (Nat.le_of_ble_eq_true rfl) (Nat.le_of_ble_eq_true rfl) (⟨rfl, (show -1 ≤ x2_2.toInt from by first | exact oz_bd82420902 k2_0 | omega), (show x2_2.toInt < (cf 38).toInt from by first | exact oz_e1f61422c9 nc1 | omega), (show FfV ta na ca (cf 38).toInt p0 x2_2.toInt from (ff_some hfl ez3 ez4 hsv (by omega) (by omega) (by omega))), (show R_mp_findFunction2 ta na cf ca p0 x2_2 from (k2_3 _ 1 (Or.inr (Or.inl ⟨rfl, x2_2, rfl, rfl, rfl, rfl, rfl, Or.inr ⟨nc1, z3, ez3, z4, ez4, v6, e9, Or.inr ⟨nc10, rfl⟩⟩⟩))))⟩) d_Mpg_findFunction_30)
  refine lv_iconst (v := 0) S.x S.b d_Mpg_findFunction_0 (by decide) ?_
  refine lv_istore_n (lv' := [(2, .int 0), (0, .ref h), (1, .int p0)]) S.x S.b d_Mpg_findFunction_1 rfl hl (by decide) rfl (fun ls hl => ?_)
  first | exact J2 (((cf 38).toInt - (0 : Int)).toNat + 1) (0 : Int32) _ _ ls (show 0 ≤ (0 : Int) from oz_5a341f00aa) (show (0 : Int) ≤ (cf 38).toInt from (oz_50c21e157e g3)) (show FfL ta na ca p0 (0 : Int) from ffl_0) (show K_mp_findFunction2_2 ta na cf ca p0 0 from (fun y_v k hE => Exists.intro (k + 1) (Or.inl ⟨rfl, hE⟩))) (show (cf 38).toInt - (0 : Int) < (((((cf 38).toInt - (0 : Int)).toNat + 1 : Nat) : Int) : Int) from oz_natlt) hw (lv_sub hl [1, 2, 0] rfl) | (exact J2 (((cf 38).toInt - (0 : Int)).toNat + 1) (0 : Int32) _ _ ls (show 0 ≤ (0 : Int) from by first | exact oz_5a341f00aa | omega) (show (0 : Int) ≤ (cf 38).toInt from by first | exact oz_50c21e157e g3 | omega) (show FfL ta na ca p0 (0 : Int) from ffl_0) (show K_mp_findFunction2_2 ta na cf ca p0 0 from (fun y_v k hE => Exists.intro (k + 1) (Or.inl ⟨rfl, hE⟩))) (show (cf 38).toInt - (0 : Int) < (((((cf 38).toInt - (0 : Int)).toNat + 1 : Nat) : Int) : Int) from by first | exact oz_natlt | omega) hw (lv_sub hl [1, 2, 0] rfl))
abbrev b_Mpg_hasMain : ByteArray := prog_16_method_103_code
def y_Mpg_hasMain : MethodName := ⟨"HomeSystemModel$Program", "hasMain", "()Z"⟩
theorem d_Mpg_hasMain_0 : decode b_Mpg_hasMain 0 = .ok (.iconst 0, 1) := by decide +kernel
theorem d_Mpg_hasMain_1 : decode b_Mpg_hasMain 1 = .ok (.istore_n 1, 1) := by decide +kernel
theorem d_Mpg_hasMain_2 : decode b_Mpg_hasMain 2 = .ok (.iload_n 1, 1) := by decide +kernel
theorem d_Mpg_hasMain_3 : decode b_Mpg_hasMain 3 = .ok (.aload_n 0, 1) := by decide +kernel
theorem d_Mpg_hasMain_4 : decode b_Mpg_hasMain 4 = .ok (.getfield 535, 3) := by decide +kernel
theorem d_Mpg_hasMain_7 : decode b_Mpg_hasMain 7 = .ok (.if_icmp .ge 104, 3) := by decide +kernel
theorem d_Mpg_hasMain_10 : decode b_Mpg_hasMain 10 = .ok (.aload_n 0, 1) := by decide +kernel
theorem d_Mpg_hasMain_11 : decode b_Mpg_hasMain 11 = .ok (.getfield 255, 3) := by decide +kernel
theorem d_Mpg_hasMain_14 : decode b_Mpg_hasMain 14 = .ok (.iload_n 1, 1) := by decide +kernel
theorem d_Mpg_hasMain_15 : decode b_Mpg_hasMain 15 = .ok (.iaload, 1) := by decide +kernel
theorem d_Mpg_hasMain_16 : decode b_Mpg_hasMain 16 = .ok (.istore_n 2, 1) := by decide +kernel
theorem d_Mpg_hasMain_17 : decode b_Mpg_hasMain 17 = .ok (.aload_n 0, 1) := by decide +kernel
theorem d_Mpg_hasMain_18 : decode b_Mpg_hasMain 18 = .ok (.getfield 216, 3) := by decide +kernel
theorem d_Mpg_hasMain_21 : decode b_Mpg_hasMain 21 = .ok (.iload_n 2, 1) := by decide +kernel
theorem d_Mpg_hasMain_22 : decode b_Mpg_hasMain 22 = .ok (.iaload, 1) := by decide +kernel
theorem d_Mpg_hasMain_23 : decode b_Mpg_hasMain 23 = .ok (.ifCond .lt 49, 3) := by decide +kernel
theorem d_Mpg_hasMain_26 : decode b_Mpg_hasMain 26 = .ok (.aload_n 0, 1) := by decide +kernel
theorem d_Mpg_hasMain_27 : decode b_Mpg_hasMain 27 = .ok (.getfield 228, 3) := by decide +kernel
theorem d_Mpg_hasMain_30 : decode b_Mpg_hasMain 30 = .ok (.aload_n 0, 1) := by decide +kernel
theorem d_Mpg_hasMain_31 : decode b_Mpg_hasMain 31 = .ok (.getfield 216, 3) := by decide +kernel
theorem d_Mpg_hasMain_34 : decode b_Mpg_hasMain 34 = .ok (.iload_n 2, 1) := by decide +kernel
theorem d_Mpg_hasMain_35 : decode b_Mpg_hasMain 35 = .ok (.iaload, 1) := by decide +kernel
theorem d_Mpg_hasMain_36 : decode b_Mpg_hasMain 36 = .ok (.iaload, 1) := by decide +kernel
theorem d_Mpg_hasMain_37 : decode b_Mpg_hasMain 37 = .ok (.ifCond .ge 35, 3) := by decide +kernel
theorem d_Mpg_hasMain_40 : decode b_Mpg_hasMain 40 = .ok (.aload_n 0, 1) := by decide +kernel
theorem d_Mpg_hasMain_41 : decode b_Mpg_hasMain 41 = .ok (.getfield 216, 3) := by decide +kernel
theorem d_Mpg_hasMain_44 : decode b_Mpg_hasMain 44 = .ok (.aload_n 0, 1) := by decide +kernel
theorem d_Mpg_hasMain_45 : decode b_Mpg_hasMain 45 = .ok (.getfield 216, 3) := by decide +kernel
theorem d_Mpg_hasMain_48 : decode b_Mpg_hasMain 48 = .ok (.iload_n 2, 1) := by decide +kernel
theorem d_Mpg_hasMain_49 : decode b_Mpg_hasMain 49 = .ok (.iaload, 1) := by decide +kernel
theorem d_Mpg_hasMain_50 : decode b_Mpg_hasMain 50 = .ok (.iaload, 1) := by decide +kernel
theorem d_Mpg_hasMain_51 : decode b_Mpg_hasMain 51 = .ok (.ifCond .ge 21, 3) := by decide +kernel
theorem d_Mpg_hasMain_54 : decode b_Mpg_hasMain 54 = .ok (.aload_n 0, 1) := by decide +kernel
theorem d_Mpg_hasMain_55 : decode b_Mpg_hasMain 55 = .ok (.getfield 231, 3) := by decide +kernel
theorem d_Mpg_hasMain_58 : decode b_Mpg_hasMain 58 = .ok (.aload_n 0, 1) := by decide +kernel
theorem d_Mpg_hasMain_59 : decode b_Mpg_hasMain 59 = .ok (.getfield 216, 3) := by decide +kernel
theorem d_Mpg_hasMain_62 : decode b_Mpg_hasMain 62 = .ok (.iload_n 2, 1) := by decide +kernel
theorem d_Mpg_hasMain_63 : decode b_Mpg_hasMain 63 = .ok (.iaload, 1) := by decide +kernel
theorem d_Mpg_hasMain_64 : decode b_Mpg_hasMain 64 = .ok (.iaload, 1) := by decide +kernel
theorem d_Mpg_hasMain_65 : decode b_Mpg_hasMain 65 = .ok (.ifCond .ne 7, 3) := by decide +kernel
theorem d_Mpg_hasMain_68 : decode b_Mpg_hasMain 68 = .ok (.iconst 1, 1) := by decide +kernel
theorem d_Mpg_hasMain_69 : decode b_Mpg_hasMain 69 = .ok (.goto 4, 3) := by decide +kernel
theorem d_Mpg_hasMain_72 : decode b_Mpg_hasMain 72 = .ok (.iconst 0, 1) := by decide +kernel
theorem d_Mpg_hasMain_73 : decode b_Mpg_hasMain 73 = .ok (.istore_n 3, 1) := by decide +kernel
theorem d_Mpg_hasMain_74 : decode b_Mpg_hasMain 74 = .ok (.aload_n 0, 1) := by decide +kernel
theorem d_Mpg_hasMain_75 : decode b_Mpg_hasMain 75 = .ok (.aload_n 0, 1) := by decide +kernel
theorem d_Mpg_hasMain_76 : decode b_Mpg_hasMain 76 = .ok (.getfield 210, 3) := by decide +kernel
theorem d_Mpg_hasMain_79 : decode b_Mpg_hasMain 79 = .ok (.iload_n 2, 1) := by decide +kernel
theorem d_Mpg_hasMain_80 : decode b_Mpg_hasMain 80 = .ok (.iaload, 1) := by decide +kernel
theorem d_Mpg_hasMain_81 : decode b_Mpg_hasMain 81 = .ok (.ldc_w 688, 3) := by decide +kernel
theorem d_Mpg_hasMain_84 : decode b_Mpg_hasMain 84 = .ok (.invokevirtual 538, 3) := by decide +kernel
theorem d_Mpg_hasMain_87 : decode b_Mpg_hasMain 87 = .ok (.ifCond .eq 18, 3) := by decide +kernel
theorem d_Mpg_hasMain_90 : decode b_Mpg_hasMain 90 = .ok (.aload_n 0, 1) := by decide +kernel
theorem d_Mpg_hasMain_91 : decode b_Mpg_hasMain 91 = .ok (.getfield 231, 3) := by decide +kernel
theorem d_Mpg_hasMain_94 : decode b_Mpg_hasMain 94 = .ok (.iload_n 2, 1) := by decide +kernel
theorem d_Mpg_hasMain_95 : decode b_Mpg_hasMain 95 = .ok (.iaload, 1) := by decide +kernel
theorem d_Mpg_hasMain_96 : decode b_Mpg_hasMain 96 = .ok (.ifCond .ne 9, 3) := by decide +kernel
theorem d_Mpg_hasMain_99 : decode b_Mpg_hasMain 99 = .ok (.iload_n 3, 1) := by decide +kernel
theorem d_Mpg_hasMain_100 : decode b_Mpg_hasMain 100 = .ok (.ifCond .eq 5, 3) := by decide +kernel
theorem d_Mpg_hasMain_103 : decode b_Mpg_hasMain 103 = .ok (.iconst 1, 1) := by decide +kernel
theorem d_Mpg_hasMain_104 : decode b_Mpg_hasMain 104 = .ok (.ireturn, 1) := by decide +kernel
theorem d_Mpg_hasMain_105 : decode b_Mpg_hasMain 105 = .ok (.iinc 1 1, 3) := by decide +kernel
theorem d_Mpg_hasMain_108 : decode b_Mpg_hasMain 108 = .ok (.goto (-106), 3) := by decide +kernel
theorem d_Mpg_hasMain_111 : decode b_Mpg_hasMain 111 = .ok (.iconst 0, 1) := by decide +kernel
theorem d_Mpg_hasMain_112 : decode b_Mpg_hasMain 112 = .ok (.ireturn, 1) := by decide +kernel
theorem q_Mpg_hasMain : px_y y_Mpg_hasMain 0 := by unfold px_y; decide +kernel
set_option maxHeartbeats 4000000 in
set_option maxRecDepth 100000 in
theorem c_mp_hasMain (l : Launch) (D : va_G) (cs : Nat → ClassId) (sk : Nat) (st : Nat) (sb : Nat → Int32) (h : Nat) (r : Nat → Nat) (g : Nat → Nat → Option Nat) (tf : Nat → Int32) (ta : Nat → Nat → Int32) (pf : Nat → Int32) (na : Nat → Nat → Int32) (ma : Nat → Nat → Int32) (wa : Nat → Nat → Int32) (cf : Nat → Int32) (ca : Nat → Nat → Int32) (ef : Nat → Int32) (ea : Nat → Nat → Int32) (xf : Nat → Int32) (xa : Nat → Nat → Int32)  (g0 : 0 ≤ (cf 38).toInt) (g1 : (tf 6).toInt ≤ 2049) (htk : TkI tf ta) (hft : FnT (tf 6).toInt na ca (cf 38).toInt) (hfp : FnP na ca (cf 38).toInt) : MetI l y_Mpg_hasMain b_Mpg_hasMain 4 (.boolean) D cs 7 260 (0) (0) [.ref h] [wdP cs h r g tf ta pf na ma wa cf ca ef ea xf xa] (oX (fun A U H => (oP A g U H) ∧ ((vk_R "HomeSystemModel$Program" 688 "main" sk U ∧ oS A sk st 4 sb U H))) [wdP cs h r g tf ta pf na ma wa cf ca ef ea xf xa]) (fun v ps => (ps = [wdP cs h r g tf ta pf na ma wa cf ca ef ea xf xa]) ∧ (v = 0 ∨ v = 1) ∧ (HmV ta na ma ca (tf 5).toInt sb (cf 38).toInt v.toInt) ∧ (R_mp_hasMain sb tf ta na ma cf ca v)) := by
  refine px_enter (by decide) (Nat.le_of_ble_eq_true rfl) ?_
  intro p e s m below meth c A ls hAe S hr hlk hnm hA hT hX hw hl
  have hl : lv_has ls 4 [(0, .ref h)] := hl
  have cst0 : (0 : Int32).toInt = 0 := rfl
  have cst1 : (1 : Int32).toInt = 1 := rfl
  have hX : (fun A U H => (oP A g U H) ∧ ((vk_R "HomeSystemModel$Program" 688 "main" sk U ∧ oS A sk st 4 sb U H))) A s s.heap := by rw [hAe]; exact hX
  obtain ⟨hP, hMn⟩ := hX
  have hZ := hP.1
  have hF0 := hP.2.1
  have hf11 := hft.1
  have J2 : ∀ (n_2 : Nat)  (x2_1 : Int32) (H : Heap) (locs : List Loc) (ls : Array Slot), (0 ≤ x2_1.toInt) → (x2_1.toInt ≤ (cf 38).toInt) → (K_mp_hasMain_2 sb tf ta na ma cf ca x2_1) → (cf 38).toInt - x2_1.toInt < (n_2 : Int) → pw D A s.heap H locs [wdP cs h r g tf ta pf na ma wa cf ca ef ea xf xa] → lv_has ls 4 [(0, .ref h), (1, .int x2_1)] → W p l e { frames := 7, cells := 0, slots := 0, locals := 260 } s m [.ref h].toArray below meth c H locs 0 0 (MQ below (va_Qi (fun v ps => (ps = [wdP cs h r g tf ta pf na ma wa cf ca ef ea xf xa]) ∧ (v = 0 ∨ v = 1) ∧ (HmV ta na ma ca (tf 5).toInt sb (cf 38).toInt v.toInt) ∧ (R_mp_hasMain sb tf ta na ma cf ca v)) (pc_B D (va_A ([wdP cs h r g tf ta pf na ma wa cf ca ef ea xf xa] : List va_W).flatten s.heap.size)) (va_A ([wdP cs h r g tf ta pf na ma wa cf ca ef ea xf xa] : List va_W).flatten s.heap.size)) [.ref h].toArray s 0 0 A) (F0 m 2 ls []) := by
    intro  n_2
    induction n_2 with
    | zero =>
      intro x2_1 H locs ls k2_0 k2_1 k2_2 hm hw hl
      have lx2_1 := Int32.le_toInt x2_1
      have ux2_1 := Int32.toInt_lt x2_1
      exact absurd hm (by omega)
    | succ n_2 ih2 =>
      intro x2_1 H locs ls k2_0 k2_1 k2_2 hm hw hl
      have lx2_1 := Int32.le_toInt x2_1
      have ux2_1 := Int32.toInt_lt x2_1
      refine lv_iload_n S.x S.b d_Mpg_hasMain_2 rfl (lv_at hl 1 rfl) ?_
      refine lv_aload_n S.x S.b d_Mpg_hasMain_3 rfl (lv_at hl 0 rfl) ?_
      refine gP_38 (v := (cf 38)) S hT hw 0 rfl rfl m10_27 d_Mpg_hasMain_4 ?_
      refine lv_icmp_ge (tgt := 111) S.x S.b d_Mpg_hasMain_7 (by decide) (fun c1 => ?_) (fun c1 => ?_)
      · have nc1 : (cf 38).toInt ≤ x2_1.toInt := (i_le (x := (cf 38)) (y := x2_1)).mp c1
        refine lv_iconst (v := 0) S.x S.b d_Mpg_hasMain_111 (by decide) ?_
        exact px_iret (v := 0) S hr rfl hlk hAe hw (Nat.le_of_ble_eq_true rfl) (Nat.le_of_ble_eq_true rfl) (⟨rfl, (show (0 : Int32) = 0 ∨ (0 : Int32) = 1 from by first | exact Or.inl rfl | exact Or.inr rfl | exact z_or (by omega)), (show HmV ta na ma ca (tf 5).toInt sb (cf 38).toInt (0 : Int) from (fun h9 => absurd h9 (by decide))), (show R_mp_hasMain sb tf ta na ma cf ca (0 : Int32) from (k2_2 _ 1 (Or.inr (Or.inl ⟨rfl, x2_1, rfl, rfl, rfl, rfl, rfl, Or.inl ⟨nc1, rfl⟩⟩))))⟩) d_Mpg_hasMain_112
      · have nc1 : ¬ (cf 38).toInt ≤ x2_1.toInt := mt (i_le (x := (cf 38)) (y := x2_1)).mpr c1
        refine lv_aload_n S.x S.b d_Mpg_hasMain_10 rfl (lv_at hl 0 rfl) ?_
        refine gP_39 S hT hw 0 rfl m10_28 d_Mpg_hasMain_11 ?_
        refine lv_iload_n S.x S.b d_Mpg_hasMain_14 rfl (lv_at hl 1 rfl) ?_
        refine px_iald S hT hw 0 26 (n := 260) (f := (ca 39)) rfl gp_39 (x := x2_1) (vp_in_iff.mpr (by first | exact oz_873c269565 k2_0 nc1 hf11 | (constructor <;> omega))) d_Mpg_hasMain_15 ?_
        refine lv_topi (fun z3 ez3 => ?_)
        have lz3 := Int32.le_toInt z3
        have uz3 := Int32.toInt_lt z3
        have rz3 := FnT.at hft (x := x2_1) (by omega) (by omega) ez3
        refine lv_istore_n (lv' := [(2, .int z3), (0, .ref h), (1, .int x2_1)]) S.x S.b d_Mpg_hasMain_16 rfl hl (by decide) rfl (fun ls hl => ?_)
        refine lv_aload_n S.x S.b d_Mpg_hasMain_17 rfl (lv_at hl 1 rfl) ?_
        refine gP_17 S hT hw 0 rfl m10_1 d_Mpg_hasMain_18 ?_
        refine lv_iload_n S.x S.b d_Mpg_hasMain_21 rfl (lv_at hl 0 rfl) ?_
        refine px_iald S hT hw 0 13 (n := 2100) (f := (na 17)) rfl gp_17 (x := z3) (vp_in_iff.mpr (by constructor <;> omega)) d_Mpg_hasMain_22 ?_
        refine lv_topi (fun z4 ez4 => ?_)
        have lz4 := Int32.le_toInt z4
        have uz4 := Int32.toInt_lt z4
        have hpw := FnP.at hfp (by omega) (by omega) ez3 ez4; have hpa : 0 ≤ z4.toInt → z4.toInt < 2100 := fun q9 => (PrW.at hpw q9).1
        refine lv_if_lt (tgt := 72) S.x S.b d_Mpg_hasMain_23 (by decide) (fun c5 => ?_) (fun c5 => ?_)
        · have nc5 : z4.toInt < (0 : Int) := (i_lt (x := z4) (y := 0)).mp c5
          refine lv_iconst (v := 0) S.x S.b d_Mpg_hasMain_72 (by decide) ?_
          refine lv_istore_n (lv' := [(3, .int 0), (2, .int z3), (0, .ref h), (1, .int x2_1)]) S.x S.b d_Mpg_hasMain_73 rfl hl (by decide) rfl (fun ls hl => ?_)
          refine lv_aload_n S.x S.b d_Mpg_hasMain_74 rfl (lv_at hl 2 rfl) ?_
          refine lv_aload_n S.x S.b d_Mpg_hasMain_75 rfl (lv_at hl 2 rfl) ?_
          refine gP_15 S hT hw 0 rfl m9_239 d_Mpg_hasMain_76 ?_
          refine lv_iload_n S.x S.b d_Mpg_hasMain_79 rfl (lv_at hl 1 rfl) ?_
          refine px_iald S hT hw 0 11 (n := 2100) (f := (na 15)) rfl gp_15 (x := z3) (vp_in_iff.mpr (by constructor <;> omega)) d_Mpg_hasMain_80 ?_
          refine lv_topi (fun z7 ez7 => ?_)
          have lz7 := Int32.le_toInt z7
          have uz7 := Int32.toInt_lt z7
          have hqz7 := rz3.2; rw [← ez7] at hqz7
          refine px_ldcwS S.x S.b S.own hMn.1 d_Mpg_hasMain_81 ?_
          first | refine px_calli (pr := []) (px_runV (As := [.int z7, .ref sk]) (rest := []) S (c_mp_isNamedM l D cs sk st sb h r g tf ta pf na ma wa cf ca ef ea xf xa z7  (show 0 ≤ z7.toInt from by omega) (show z7.toInt < (tf 6).toInt from by omega) (show (tf 6).toInt ≤ 2049 from g1) htk _) hT (pr := []) (pcs := [wdP cs h r g tf ta pf na ma wa cf ca ef ea xf xa]) hw (oX_call (P := (fun A U H => (oP A g U H) ∧ ((vk_R "HomeSystemModel$Program" 688 "main" sk U ∧ oS A sk st 4 sb U H)))) (pr := []) (oG_and oG_P (oG_and oG_L oG_S)) hw hA ⟨hP, hMn⟩) (px_recv hT hw 0 0 rfl rfl rfl) m12_161 m12_158 m12_160 ms_11_9 m1_21 q_Mpg_isNamed ⟨Nat.le_of_ble_eq_true rfl, Nat.le_of_ble_eq_true rfl⟩ hl.1 rfl (Nat.le_of_ble_eq_true rfl) d_Mpg_hasMain_84 ⟨Nat.le_of_ble_eq_true rfl, Nat.le_of_ble_eq_true rfl⟩) hw hA (fun v9 p8 H locs hp8 hw => ?_) | (refine px_calli (pr := []) (px_runV (As := [.int z7, .ref sk]) (rest := []) S (c_mp_isNamedM l D cs sk st sb h r g tf ta pf na ma wa cf ca ef ea xf xa z7  (show 0 ≤ z7.toInt from by omega) (show z7.toInt < (tf 6).toInt from by omega) (show (tf 6).toInt ≤ 2049 from by first | exact g1 | omega) htk _) hT (pr := []) (pcs := [wdP cs h r g tf ta pf na ma wa cf ca ef ea xf xa]) hw (oX_call (P := (fun A U H => (oP A g U H) ∧ ((vk_R "HomeSystemModel$Program" 688 "main" sk U ∧ oS A sk st 4 sb U H)))) (pr := []) (oG_and oG_P (oG_and oG_L oG_S)) hw hA ⟨hP, hMn⟩) (px_recv hT hw 0 0 rfl rfl rfl) m12_161 m12_158 m12_160 ms_11_9 m1_21 q_Mpg_isNamed ⟨Nat.le_of_ble_eq_true rfl, Nat.le_of_ble_eq_true rfl⟩ hl.1 rfl (Nat.le_of_ble_eq_true rfl) d_Mpg_hasMain_84 ⟨Nat.le_of_ble_eq_true rfl, Nat.le_of_ble_eq_true rfl⟩) hw hA (fun v9 p8 H locs hp8 hw => ?_))
          obtain ⟨rfl, e10, e11, e12⟩ := hp8
          have e10 := z_rng e10
          have e11 : MnV ta (tf 5).toInt sb z7 v9.toInt := e11
          have hmn := e11
          have e12 : R_mp_isNamedM sb tf ta z7 v9 := e12
          have lv9 := Int32.le_toInt v9
          have uv9 := Int32.toInt_lt v9
          refine lv_if_eq (tgt := 105) S.x S.b d_Mpg_hasMain_87 (by decide) (fun c13 => ?_) (fun c13 => ?_)
          · have nc13 : v9.toInt = (0 : Int) := (i_eq (x := v9) (y := 0)).mp c13
            obtain ⟨z15, ez15⟩ : ∃ y : Int32, y = x2_1 + 1 := ⟨_, rfl⟩
            have tz15 : z15.toInt = (x2_1.toInt + 1 + 2147483648) % 4294967296 - 2147483648 := by rw [ez15]; exact i_add x2_1 1
            have lz15 := Int32.le_toInt z15
            have uz15 := Int32.toInt_lt z15
            try replace tz15 : z15.toInt = x2_1.toInt + 1 := by omega
            refine lv_iinc (v := z15) (lv' := [(1, .int z15), (3, .int 0), (2, .int z3), (0, .ref h)]) S.x S.b d_Mpg_hasMain_105 hl (k := 3) rfl (by rw [ez15]; rfl) (by decide) rfl (fun ls hl => ?_)
            refine lv_goto (tgt := 2) S.x S.b d_Mpg_hasMain_108 (by decide) ?_
            first | exact ih2 z15 _ _ ls (show 0 ≤ z15.toInt from (oz_ae613611c0 tz15 k2_0)) (show z15.toInt ≤ (cf 38).toInt from (oz_b1314744c8 nc1 tz15)) (show K_mp_hasMain_2 sb tf ta na ma cf ca z15 from (fun y_v k hE => k2_2 y_v (k + 1) (Or.inr (Or.inl ⟨rfl, x2_1, rfl, rfl, rfl, rfl, rfl, Or.inr ⟨nc1, z3, ez3, z4, ez4, Or.inl ⟨nc5, z7, ez7, v9, e12, Or.inl ⟨nc13, z15, ez15, hE⟩⟩⟩⟩)))) (show (cf 38).toInt - z15.toInt < (n_2 : Int) from (oz_654393c63a hm tz15)) hw (lv_sub hl [3, 0] rfl) | (exact ih2 z15 _ _ ls (show 0 ≤ z15.toInt from by first | exact oz_ae613611c0 tz15 k2_0 | omega) (show z15.toInt ≤ (cf 38).toInt from by first | exact oz_b1314744c8 nc1 tz15 | omega) (show K_mp_hasMain_2 sb tf ta na ma cf ca z15 from (fun y_v k hE => k2_2 y_v (k + 1) (Or.inr (Or.inl ⟨rfl, x2_1, rfl, rfl, rfl, rfl, rfl, Or.inr ⟨nc1, z3, ez3, z4, ez4, Or.inl ⟨nc5, z7, ez7, v9, e12, Or.inl ⟨nc13, z15, ez15, hE⟩⟩⟩⟩)))) (show (cf 38).toInt - z15.toInt < (n_2 : Int) from by first | exact oz_654393c63a hm tz15 | omega) hw (lv_sub hl [3, 0] rfl))
          · have nc13 : ¬ v9.toInt = (0 : Int) := mt (i_eq (x := v9) (y := 0)).mpr c13
            refine lv_aload_n S.x S.b d_Mpg_hasMain_90 rfl (lv_at hl 2 rfl) ?_
            refine gP_22 S hT hw 0 rfl m10_9 d_Mpg_hasMain_91 ?_
            refine lv_iload_n S.x S.b d_Mpg_hasMain_94 rfl (lv_at hl 1 rfl) ?_
            refine px_iald S hT hw 0 18 (n := 2100) (f := (ma 22)) rfl gp_22 (x := z3) (vp_in_iff.mpr (by constructor <;> omega)) d_Mpg_hasMain_95 ?_
            refine lv_topi (fun z16 ez16 => ?_)
            have lz16 := Int32.le_toInt z16
            have uz16 := Int32.toInt_lt z16
            refine lv_if_ne (tgt := 105) S.x S.b d_Mpg_hasMain_96 (by decide) (fun c17 => ?_) (fun c17 => ?_)
            · have nc17 : ¬ z16.toInt = (0 : Int) := mt (i_eq (x := z16) (y := 0)).mpr c17
              obtain ⟨z19, ez19⟩ : ∃ y : Int32, y = x2_1 + 1 := ⟨_, rfl⟩
              have tz19 : z19.toInt = (x2_1.toInt + 1 + 2147483648) % 4294967296 - 2147483648 := by rw [ez19]; exact i_add x2_1 1
              have lz19 := Int32.le_toInt z19
              have uz19 := Int32.toInt_lt z19
              try replace tz19 : z19.toInt = x2_1.toInt + 1 := by omega
              refine lv_iinc (v := z19) (lv' := [(1, .int z19), (3, .int 0), (2, .int z3), (0, .ref h)]) S.x S.b d_Mpg_hasMain_105 hl (k := 3) rfl (by rw [ez19]; rfl) (by decide) rfl (fun ls hl => ?_)
              refine lv_goto (tgt := 2) S.x S.b d_Mpg_hasMain_108 (by decide) ?_
              first | exact ih2 z19 _ _ ls (show 0 ≤ z19.toInt from (oz_ae613611c0 tz19 k2_0)) (show z19.toInt ≤ (cf 38).toInt from (oz_b1314744c8 nc1 tz19)) (show K_mp_hasMain_2 sb tf ta na ma cf ca z19 from (fun y_v k hE => k2_2 y_v (k + 1) (Or.inr (Or.inl ⟨rfl, x2_1, rfl, rfl, rfl, rfl, rfl, Or.inr ⟨nc1, z3, ez3, z4, ez4, Or.inl ⟨nc5, z7, ez7, v9, e12, Or.inr ⟨nc13, z16, ez16, Or.inl ⟨nc17, z19, ez19, hE⟩⟩⟩⟩⟩)))) (show (cf 38).toInt - z19.toInt < (n_2 : Int) from (oz_654393c63a hm tz19)) hw (lv_sub hl [3, 0] rfl) | (exact ih2 z19 _ _ ls (show 0 ≤ z19.toInt from by first | exact oz_ae613611c0 tz19 k2_0 | omega) (show z19.toInt ≤ (cf 38).toInt from by first | exact oz_b1314744c8 nc1 tz19 | omega) (show K_mp_hasMain_2 sb tf ta na ma cf ca z19 from (fun y_v k hE => k2_2 y_v (k + 1) (Or.inr (Or.inl ⟨rfl, x2_1, rfl, rfl, rfl, rfl, rfl, Or.inr ⟨nc1, z3, ez3, z4, ez4, Or.inl ⟨nc5, z7, ez7, v9, e12, Or.inr ⟨nc13, z16, ez16, Or.inl ⟨nc17, z19, ez19, hE⟩⟩⟩⟩⟩)))) (show (cf 38).toInt - z19.toInt < (n_2 : Int) from by first | exact oz_654393c63a hm tz19 | omega) hw (lv_sub hl [3, 0] rfl))
            · have nc17 : z16.toInt = (0 : Int) := (i_eq (x := z16) (y := 0)).mp c17
              refine lv_iload_n S.x S.b d_Mpg_hasMain_99 rfl (lv_at hl 0 rfl) ?_
              refine lv_if_eq (tgt := 105) S.x S.b d_Mpg_hasMain_100 (by decide) (fun c20 => ?_) (fun c20 => ?_)
              ·
                obtain ⟨z21, ez21⟩ : ∃ y : Int32, y = x2_1 + 1 := ⟨_, rfl⟩
                have tz21 : z21.toInt = (x2_1.toInt + 1 + 2147483648) % 4294967296 - 2147483648 := by rw [ez21]; exact i_add x2_1 1
                have lz21 := Int32.le_toInt z21
                have uz21 := Int32.toInt_lt z21
                try replace tz21 : z21.toInt = x2_1.toInt + 1 := by omega
                refine lv_iinc (v := z21) (lv' := [(1, .int z21), (3, .int 0), (2, .int z3), (0, .ref h)]) S.x S.b d_Mpg_hasMain_105 hl (k := 3) rfl (by rw [ez21]; rfl) (by decide) rfl (fun ls hl => ?_)
                refine lv_goto (tgt := 2) S.x S.b d_Mpg_hasMain_108 (by decide) ?_
                first | exact ih2 z21 _ _ ls (show 0 ≤ z21.toInt from (oz_ae613611c0 tz21 k2_0)) (show z21.toInt ≤ (cf 38).toInt from (oz_b1314744c8 nc1 tz21)) (show K_mp_hasMain_2 sb tf ta na ma cf ca z21 from (fun y_v k hE => k2_2 y_v (k + 1) (Or.inr (Or.inl ⟨rfl, x2_1, rfl, rfl, rfl, rfl, rfl, Or.inr ⟨nc1, z3, ez3, z4, ez4, Or.inl ⟨nc5, z7, ez7, v9, e12, Or.inr ⟨nc13, z16, ez16, Or.inr ⟨nc17, z21, ez21, hE⟩⟩⟩⟩⟩)))) (show (cf 38).toInt - z21.toInt < (n_2 : Int) from (oz_654393c63a hm tz21)) hw (lv_sub hl [3, 0] rfl) | (exact ih2 z21 _ _ ls (show 0 ≤ z21.toInt from by first | exact oz_ae613611c0 tz21 k2_0 | omega) (show z21.toInt ≤ (cf 38).toInt from by first | exact oz_b1314744c8 nc1 tz21 | omega) (show K_mp_hasMain_2 sb tf ta na ma cf ca z21 from (fun y_v k hE => k2_2 y_v (k + 1) (Or.inr (Or.inl ⟨rfl, x2_1, rfl, rfl, rfl, rfl, rfl, Or.inr ⟨nc1, z3, ez3, z4, ez4, Or.inl ⟨nc5, z7, ez7, v9, e12, Or.inr ⟨nc13, z16, ez16, Or.inr ⟨nc17, z21, ez21, hE⟩⟩⟩⟩⟩)))) (show (cf 38).toInt - z21.toInt < (n_2 : Int) from by first | exact oz_654393c63a hm tz21 | omega) hw (lv_sub hl [3, 0] rfl))
              · exact absurd c20 (by decide)
        · have nc5 : ¬ z4.toInt < (0 : Int) := mt (i_lt (x := z4) (y := 0)).mpr c5
          refine lv_aload_n S.x S.b d_Mpg_hasMain_26 rfl (lv_at hl 1 rfl) ?_
          refine gP_21 S hT hw 0 rfl m10_7 d_Mpg_hasMain_27 ?_
          refine lv_aload_n S.x S.b d_Mpg_hasMain_30 rfl (lv_at hl 1 rfl) ?_
          refine gP_17 S hT hw 0 rfl m10_1 d_Mpg_hasMain_31 ?_
          refine lv_iload_n S.x S.b d_Mpg_hasMain_34 rfl (lv_at hl 0 rfl) ?_
          refine px_iald S hT hw 0 13 (n := 2100) (f := (na 17)) rfl gp_17 (x := z3) (vp_in_iff.mpr (by constructor <;> omega)) d_Mpg_hasMain_35 ?_
          refine lv_topi (fun z22 ez22 => ?_)
          have lz22 := Int32.le_toInt z22
          have uz22 := Int32.toInt_lt z22
          have hsz22 : z4 = z22 := ez4.trans ez22.symm; subst hsz22
          refine px_iald S hT hw 0 17 (n := 2100) (f := (na 21)) rfl gp_21 (x := z4) (vp_in_iff.mpr (by first | exact oz_426bac7366 nc5 hpa | (constructor <;> omega))) d_Mpg_hasMain_36 ?_
          refine lv_topi (fun z23 ez23 => ?_)
          have lz23 := Int32.le_toInt z23
          have uz23 := Int32.toInt_lt z23
          refine lv_if_ge (tgt := 72) S.x S.b d_Mpg_hasMain_37 (by decide) (fun c24 => ?_) (fun c24 => ?_)
          · have nc24 : (0 : Int) ≤ z23.toInt := (i_le (x := 0) (y := z23)).mp c24
            refine lv_iconst (v := 0) S.x S.b d_Mpg_hasMain_72 (by decide) ?_
            refine lv_istore_n (lv' := [(3, .int 0), (2, .int z3), (0, .ref h), (1, .int x2_1)]) S.x S.b d_Mpg_hasMain_73 rfl hl (by decide) rfl (fun ls hl => ?_)
            refine lv_aload_n S.x S.b d_Mpg_hasMain_74 rfl (lv_at hl 2 rfl) ?_
            refine lv_aload_n S.x S.b d_Mpg_hasMain_75 rfl (lv_at hl 2 rfl) ?_
            refine gP_15 S hT hw 0 rfl m9_239 d_Mpg_hasMain_76 ?_
            refine lv_iload_n S.x S.b d_Mpg_hasMain_79 rfl (lv_at hl 1 rfl) ?_
            refine px_iald S hT hw 0 11 (n := 2100) (f := (na 15)) rfl gp_15 (x := z3) (vp_in_iff.mpr (by constructor <;> omega)) d_Mpg_hasMain_80 ?_
            refine lv_topi (fun z26 ez26 => ?_)
            have lz26 := Int32.le_toInt z26
            have uz26 := Int32.toInt_lt z26
            have hqz26 := rz3.2; rw [← ez26] at hqz26
            refine px_ldcwS S.x S.b S.own hMn.1 d_Mpg_hasMain_81 ?_
            first | refine px_calli (pr := []) (px_runV (As := [.int z26, .ref sk]) (rest := []) S (c_mp_isNamedM l D cs sk st sb h r g tf ta pf na ma wa cf ca ef ea xf xa z26  (show 0 ≤ z26.toInt from by omega) (show z26.toInt < (tf 6).toInt from by omega) (show (tf 6).toInt ≤ 2049 from g1) htk _) hT (pr := []) (pcs := [wdP cs h r g tf ta pf na ma wa cf ca ef ea xf xa]) hw (oX_call (P := (fun A U H => (oP A g U H) ∧ ((vk_R "HomeSystemModel$Program" 688 "main" sk U ∧ oS A sk st 4 sb U H)))) (pr := []) (oG_and oG_P (oG_and oG_L oG_S)) hw hA ⟨hP, hMn⟩) (px_recv hT hw 0 0 rfl rfl rfl) m12_161 m12_158 m12_160 ms_11_9 m1_21 q_Mpg_isNamed ⟨Nat.le_of_ble_eq_true rfl, Nat.le_of_ble_eq_true rfl⟩ hl.1 rfl (Nat.le_of_ble_eq_true rfl) d_Mpg_hasMain_84 ⟨Nat.le_of_ble_eq_true rfl, Nat.le_of_ble_eq_true rfl⟩) hw hA (fun v28 p27 H locs hp27 hw => ?_) | (refine px_calli (pr := []) (px_runV (As := [.int z26, .ref sk]) (rest := []) S (c_mp_isNamedM l D cs sk st sb h r g tf ta pf na ma wa cf ca ef ea xf xa z26  (show 0 ≤ z26.toInt from by omega) (show z26.toInt < (tf 6).toInt from by omega) (show (tf 6).toInt ≤ 2049 from by first | exact g1 | omega) htk _) hT (pr := []) (pcs := [wdP cs h r g tf ta pf na ma wa cf ca ef ea xf xa]) hw (oX_call (P := (fun A U H => (oP A g U H) ∧ ((vk_R "HomeSystemModel$Program" 688 "main" sk U ∧ oS A sk st 4 sb U H)))) (pr := []) (oG_and oG_P (oG_and oG_L oG_S)) hw hA ⟨hP, hMn⟩) (px_recv hT hw 0 0 rfl rfl rfl) m12_161 m12_158 m12_160 ms_11_9 m1_21 q_Mpg_isNamed ⟨Nat.le_of_ble_eq_true rfl, Nat.le_of_ble_eq_true rfl⟩ hl.1 rfl (Nat.le_of_ble_eq_true rfl) d_Mpg_hasMain_84 ⟨Nat.le_of_ble_eq_true rfl, Nat.le_of_ble_eq_true rfl⟩) hw hA (fun v28 p27 H locs hp27 hw => ?_))
            obtain ⟨rfl, e29, e30, e31⟩ := hp27
            have e29 := z_rng e29
            have e30 : MnV ta (tf 5).toInt sb z26 v28.toInt := e30
            have hmn := e30
            have e31 : R_mp_isNamedM sb tf ta z26 v28 := e31
            have lv28 := Int32.le_toInt v28
            have uv28 := Int32.toInt_lt v28
            refine lv_if_eq (tgt := 105) S.x S.b d_Mpg_hasMain_87 (by decide) (fun c32 => ?_) (fun c32 => ?_)
            · have nc32 : v28.toInt = (0 : Int) := (i_eq (x := v28) (y := 0)).mp c32
              obtain ⟨z34, ez34⟩ : ∃ y : Int32, y = x2_1 + 1 := ⟨_, rfl⟩
              have tz34 : z34.toInt = (x2_1.toInt + 1 + 2147483648) % 4294967296 - 2147483648 := by rw [ez34]; exact i_add x2_1 1
              have lz34 := Int32.le_toInt z34
              have uz34 := Int32.toInt_lt z34
              try replace tz34 : z34.toInt = x2_1.toInt + 1 := by omega
              refine lv_iinc (v := z34) (lv' := [(1, .int z34), (3, .int 0), (2, .int z3), (0, .ref h)]) S.x S.b d_Mpg_hasMain_105 hl (k := 3) rfl (by rw [ez34]; rfl) (by decide) rfl (fun ls hl => ?_)
              refine lv_goto (tgt := 2) S.x S.b d_Mpg_hasMain_108 (by decide) ?_
              first | exact ih2 z34 _ _ ls (show 0 ≤ z34.toInt from (oz_ae613611c0 tz34 k2_0)) (show z34.toInt ≤ (cf 38).toInt from (oz_b1314744c8 nc1 tz34)) (show K_mp_hasMain_2 sb tf ta na ma cf ca z34 from (fun y_v k hE => k2_2 y_v (k + 1) (Or.inr (Or.inl ⟨rfl, x2_1, rfl, rfl, rfl, rfl, rfl, Or.inr ⟨nc1, z3, ez3, z4, ez4, Or.inr ⟨nc5, z4, ez22, z23, ez23, Or.inl ⟨nc24, z26, ez26, v28, e31, Or.inl ⟨nc32, z34, ez34, hE⟩⟩⟩⟩⟩)))) (show (cf 38).toInt - z34.toInt < (n_2 : Int) from (oz_654393c63a hm tz34)) hw (lv_sub hl [3, 0] rfl) | (exact ih2 z34 _ _ ls (show 0 ≤ z34.toInt from by first | exact oz_ae613611c0 tz34 k2_0 | omega) (show z34.toInt ≤ (cf 38).toInt from by first | exact oz_b1314744c8 nc1 tz34 | omega) (show K_mp_hasMain_2 sb tf ta na ma cf ca z34 from (fun y_v k hE => k2_2 y_v (k + 1) (Or.inr (Or.inl ⟨rfl, x2_1, rfl, rfl, rfl, rfl, rfl, Or.inr ⟨nc1, z3, ez3, z4, ez4, Or.inr ⟨nc5, z4, ez22, z23, ez23, Or.inl ⟨nc24, z26, ez26, v28, e31, Or.inl ⟨nc32, z34, ez34, hE⟩⟩⟩⟩⟩)))) (show (cf 38).toInt - z34.toInt < (n_2 : Int) from by first | exact oz_654393c63a hm tz34 | omega) hw (lv_sub hl [3, 0] rfl))
            · have nc32 : ¬ v28.toInt = (0 : Int) := mt (i_eq (x := v28) (y := 0)).mpr c32
              refine lv_aload_n S.x S.b d_Mpg_hasMain_90 rfl (lv_at hl 2 rfl) ?_
              refine gP_22 S hT hw 0 rfl m10_9 d_Mpg_hasMain_91 ?_
              refine lv_iload_n S.x S.b d_Mpg_hasMain_94 rfl (lv_at hl 1 rfl) ?_
              refine px_iald S hT hw 0 18 (n := 2100) (f := (ma 22)) rfl gp_22 (x := z3) (vp_in_iff.mpr (by constructor <;> omega)) d_Mpg_hasMain_95 ?_
              refine lv_topi (fun z35 ez35 => ?_)
              have lz35 := Int32.le_toInt z35
              have uz35 := Int32.toInt_lt z35
              refine lv_if_ne (tgt := 105) S.x S.b d_Mpg_hasMain_96 (by decide) (fun c36 => ?_) (fun c36 => ?_)
              · have nc36 : ¬ z35.toInt = (0 : Int) := mt (i_eq (x := z35) (y := 0)).mpr c36
                obtain ⟨z38, ez38⟩ : ∃ y : Int32, y = x2_1 + 1 := ⟨_, rfl⟩
                have tz38 : z38.toInt = (x2_1.toInt + 1 + 2147483648) % 4294967296 - 2147483648 := by rw [ez38]; exact i_add x2_1 1
                have lz38 := Int32.le_toInt z38
                have uz38 := Int32.toInt_lt z38
                try replace tz38 : z38.toInt = x2_1.toInt + 1 := by omega
                refine lv_iinc (v := z38) (lv' := [(1, .int z38), (3, .int 0), (2, .int z3), (0, .ref h)]) S.x S.b d_Mpg_hasMain_105 hl (k := 3) rfl (by rw [ez38]; rfl) (by decide) rfl (fun ls hl => ?_)
                refine lv_goto (tgt := 2) S.x S.b d_Mpg_hasMain_108 (by decide) ?_
                first | exact ih2 z38 _ _ ls (show 0 ≤ z38.toInt from (oz_ae613611c0 tz38 k2_0)) (show z38.toInt ≤ (cf 38).toInt from (oz_b1314744c8 nc1 tz38)) (show K_mp_hasMain_2 sb tf ta na ma cf ca z38 from (fun y_v k hE => k2_2 y_v (k + 1) (Or.inr (Or.inl ⟨rfl, x2_1, rfl, rfl, rfl, rfl, rfl, Or.inr ⟨nc1, z3, ez3, z4, ez4, Or.inr ⟨nc5, z4, ez22, z23, ez23, Or.inl ⟨nc24, z26, ez26, v28, e31, Or.inr ⟨nc32, z35, ez35, Or.inl ⟨nc36, z38, ez38, hE⟩⟩⟩⟩⟩⟩)))) (show (cf 38).toInt - z38.toInt < (n_2 : Int) from (oz_654393c63a hm tz38)) hw (lv_sub hl [3, 0] rfl) | (exact ih2 z38 _ _ ls (show 0 ≤ z38.toInt from by first | exact oz_ae613611c0 tz38 k2_0 | omega) (show z38.toInt ≤ (cf 38).toInt from by first | exact oz_b1314744c8 nc1 tz38 | omega) (show K_mp_hasMain_2 sb tf ta na ma cf ca z38 from (fun y_v k hE => k2_2 y_v (k + 1) (Or.inr (Or.inl ⟨rfl, x2_1, rfl, rfl, rfl, rfl, rfl, Or.inr ⟨nc1, z3, ez3, z4, ez4, Or.inr ⟨nc5, z4, ez22, z23, ez23, Or.inl ⟨nc24, z26, ez26, v28, e31, Or.inr ⟨nc32, z35, ez35, Or.inl ⟨nc36, z38, ez38, hE⟩⟩⟩⟩⟩⟩)))) (show (cf 38).toInt - z38.toInt < (n_2 : Int) from by first | exact oz_654393c63a hm tz38 | omega) hw (lv_sub hl [3, 0] rfl))
              · have nc36 : z35.toInt = (0 : Int) := (i_eq (x := z35) (y := 0)).mp c36
                refine lv_iload_n S.x S.b d_Mpg_hasMain_99 rfl (lv_at hl 0 rfl) ?_
                refine lv_if_eq (tgt := 105) S.x S.b d_Mpg_hasMain_100 (by decide) (fun c39 => ?_) (fun c39 => ?_)
                ·
                  obtain ⟨z40, ez40⟩ : ∃ y : Int32, y = x2_1 + 1 := ⟨_, rfl⟩
                  have tz40 : z40.toInt = (x2_1.toInt + 1 + 2147483648) % 4294967296 - 2147483648 := by rw [ez40]; exact i_add x2_1 1
                  have lz40 := Int32.le_toInt z40
                  have uz40 := Int32.toInt_lt z40
                  try replace tz40 : z40.toInt = x2_1.toInt + 1 := by omega
                  refine lv_iinc (v := z40) (lv' := [(1, .int z40), (3, .int 0), (2, .int z3), (0, .ref h)]) S.x S.b d_Mpg_hasMain_105 hl (k := 3) rfl (by rw [ez40]; rfl) (by decide) rfl (fun ls hl => ?_)
                  refine lv_goto (tgt := 2) S.x S.b d_Mpg_hasMain_108 (by decide) ?_
                  first | exact ih2 z40 _ _ ls (show 0 ≤ z40.toInt from (oz_ae613611c0 tz40 k2_0)) (show z40.toInt ≤ (cf 38).toInt from (oz_b1314744c8 nc1 tz40)) (show K_mp_hasMain_2 sb tf ta na ma cf ca z40 from (fun y_v k hE => k2_2 y_v (k + 1) (Or.inr (Or.inl ⟨rfl, x2_1, rfl, rfl, rfl, rfl, rfl, Or.inr ⟨nc1, z3, ez3, z4, ez4, Or.inr ⟨nc5, z4, ez22, z23, ez23, Or.inl ⟨nc24, z26, ez26, v28, e31, Or.inr ⟨nc32, z35, ez35, Or.inr ⟨nc36, z40, ez40, hE⟩⟩⟩⟩⟩⟩)))) (show (cf 38).toInt - z40.toInt < (n_2 : Int) from (oz_654393c63a hm tz40)) hw (lv_sub hl [3, 0] rfl) | (exact ih2 z40 _ _ ls (show 0 ≤ z40.toInt from by first | exact oz_ae613611c0 tz40 k2_0 | omega) (show z40.toInt ≤ (cf 38).toInt from by first | exact oz_b1314744c8 nc1 tz40 | omega) (show K_mp_hasMain_2 sb tf ta na ma cf ca z40 from (fun y_v k hE => k2_2 y_v (k + 1) (Or.inr (Or.inl ⟨rfl, x2_1, rfl, rfl, rfl, rfl, rfl, Or.inr ⟨nc1, z3, ez3, z4, ez4, Or.inr ⟨nc5, z4, ez22, z23, ez23, Or.inl ⟨nc24, z26, ez26, v28, e31, Or.inr ⟨nc32, z35, ez35, Or.inr ⟨nc36, z40, ez40, hE⟩⟩⟩⟩⟩⟩)))) (show (cf 38).toInt - z40.toInt < (n_2 : Int) from by first | exact oz_654393c63a hm tz40 | omega) hw (lv_sub hl [3, 0] rfl))
                · exact absurd c39 (by decide)
          · have nc24 : ¬ (0 : Int) ≤ z23.toInt := mt (i_le (x := 0) (y := z23)).mpr c24
            refine lv_aload_n S.x S.b d_Mpg_hasMain_40 rfl (lv_at hl 1 rfl) ?_
            refine gP_17 S hT hw 0 rfl m10_1 d_Mpg_hasMain_41 ?_
            refine lv_aload_n S.x S.b d_Mpg_hasMain_44 rfl (lv_at hl 1 rfl) ?_
            refine gP_17 S hT hw 0 rfl m10_1 d_Mpg_hasMain_45 ?_
            refine lv_iload_n S.x S.b d_Mpg_hasMain_48 rfl (lv_at hl 0 rfl) ?_
            refine px_iald S hT hw 0 13 (n := 2100) (f := (na 17)) rfl gp_17 (x := z3) (vp_in_iff.mpr (by constructor <;> omega)) d_Mpg_hasMain_49 ?_
            refine lv_topi (fun z41 ez41 => ?_)
            have lz41 := Int32.le_toInt z41
            have uz41 := Int32.toInt_lt z41
            have hsz41 : z4 = z41 := ez4.trans ez41.symm; subst hsz41
            refine px_iald S hT hw 0 13 (n := 2100) (f := (na 17)) rfl gp_17 (x := z4) (vp_in_iff.mpr (by first | exact oz_426bac7366 nc5 hpa | (constructor <;> omega))) d_Mpg_hasMain_50 ?_
            refine lv_topi (fun z42 ez42 => ?_)
            have lz42 := Int32.le_toInt z42
            have uz42 := Int32.toInt_lt z42
            refine lv_if_ge (tgt := 72) S.x S.b d_Mpg_hasMain_51 (by decide) (fun c43 => ?_) (fun c43 => ?_)
            · have nc43 : (0 : Int) ≤ z42.toInt := (i_le (x := 0) (y := z42)).mp c43
              refine lv_iconst (v := 0) S.x S.b d_Mpg_hasMain_72 (by decide) ?_
              refine lv_istore_n (lv' := [(3, .int 0), (2, .int z3), (0, .ref h), (1, .int x2_1)]) S.x S.b d_Mpg_hasMain_73 rfl hl (by decide) rfl (fun ls hl => ?_)
              refine lv_aload_n S.x S.b d_Mpg_hasMain_74 rfl (lv_at hl 2 rfl) ?_
              refine lv_aload_n S.x S.b d_Mpg_hasMain_75 rfl (lv_at hl 2 rfl) ?_
              refine gP_15 S hT hw 0 rfl m9_239 d_Mpg_hasMain_76 ?_
              refine lv_iload_n S.x S.b d_Mpg_hasMain_79 rfl (lv_at hl 1 rfl) ?_
              refine px_iald S hT hw 0 11 (n := 2100) (f := (na 15)) rfl gp_15 (x := z3) (vp_in_iff.mpr (by constructor <;> omega)) d_Mpg_hasMain_80 ?_
              refine lv_topi (fun z45 ez45 => ?_)
              have lz45 := Int32.le_toInt z45
              have uz45 := Int32.toInt_lt z45
              have hqz45 := rz3.2; rw [← ez45] at hqz45
              refine px_ldcwS S.x S.b S.own hMn.1 d_Mpg_hasMain_81 ?_
              first | refine px_calli (pr := []) (px_runV (As := [.int z45, .ref sk]) (rest := []) S (c_mp_isNamedM l D cs sk st sb h r g tf ta pf na ma wa cf ca ef ea xf xa z45  (show 0 ≤ z45.toInt from by omega) (show z45.toInt < (tf 6).toInt from by omega) (show (tf 6).toInt ≤ 2049 from g1) htk _) hT (pr := []) (pcs := [wdP cs h r g tf ta pf na ma wa cf ca ef ea xf xa]) hw (oX_call (P := (fun A U H => (oP A g U H) ∧ ((vk_R "HomeSystemModel$Program" 688 "main" sk U ∧ oS A sk st 4 sb U H)))) (pr := []) (oG_and oG_P (oG_and oG_L oG_S)) hw hA ⟨hP, hMn⟩) (px_recv hT hw 0 0 rfl rfl rfl) m12_161 m12_158 m12_160 ms_11_9 m1_21 q_Mpg_isNamed ⟨Nat.le_of_ble_eq_true rfl, Nat.le_of_ble_eq_true rfl⟩ hl.1 rfl (Nat.le_of_ble_eq_true rfl) d_Mpg_hasMain_84 ⟨Nat.le_of_ble_eq_true rfl, Nat.le_of_ble_eq_true rfl⟩) hw hA (fun v47 p46 H locs hp46 hw => ?_) | (refine px_calli (pr := []) (px_runV (As := [.int z45, .ref sk]) (rest := []) S (c_mp_isNamedM l D cs sk st sb h r g tf ta pf na ma wa cf ca ef ea xf xa z45  (show 0 ≤ z45.toInt from by omega) (show z45.toInt < (tf 6).toInt from by omega) (show (tf 6).toInt ≤ 2049 from by first | exact g1 | omega) htk _) hT (pr := []) (pcs := [wdP cs h r g tf ta pf na ma wa cf ca ef ea xf xa]) hw (oX_call (P := (fun A U H => (oP A g U H) ∧ ((vk_R "HomeSystemModel$Program" 688 "main" sk U ∧ oS A sk st 4 sb U H)))) (pr := []) (oG_and oG_P (oG_and oG_L oG_S)) hw hA ⟨hP, hMn⟩) (px_recv hT hw 0 0 rfl rfl rfl) m12_161 m12_158 m12_160 ms_11_9 m1_21 q_Mpg_isNamed ⟨Nat.le_of_ble_eq_true rfl, Nat.le_of_ble_eq_true rfl⟩ hl.1 rfl (Nat.le_of_ble_eq_true rfl) d_Mpg_hasMain_84 ⟨Nat.le_of_ble_eq_true rfl, Nat.le_of_ble_eq_true rfl⟩) hw hA (fun v47 p46 H locs hp46 hw => ?_))
              obtain ⟨rfl, e48, e49, e50⟩ := hp46
              have e48 := z_rng e48
              have e49 : MnV ta (tf 5).toInt sb z45 v47.toInt := e49
              have hmn := e49
              have e50 : R_mp_isNamedM sb tf ta z45 v47 := e50
              have lv47 := Int32.le_toInt v47
              have uv47 := Int32.toInt_lt v47
              refine lv_if_eq (tgt := 105) S.x S.b d_Mpg_hasMain_87 (by decide) (fun c51 => ?_) (fun c51 => ?_)
              · have nc51 : v47.toInt = (0 : Int) := (i_eq (x := v47) (y := 0)).mp c51
                obtain ⟨z53, ez53⟩ : ∃ y : Int32, y = x2_1 + 1 := ⟨_, rfl⟩
                have tz53 : z53.toInt = (x2_1.toInt + 1 + 2147483648) % 4294967296 - 2147483648 := by rw [ez53]; exact i_add x2_1 1
                have lz53 := Int32.le_toInt z53
                have uz53 := Int32.toInt_lt z53
                try replace tz53 : z53.toInt = x2_1.toInt + 1 := by omega
                refine lv_iinc (v := z53) (lv' := [(1, .int z53), (3, .int 0), (2, .int z3), (0, .ref h)]) S.x S.b d_Mpg_hasMain_105 hl (k := 3) rfl (by rw [ez53]; rfl) (by decide) rfl (fun ls hl => ?_)
                refine lv_goto (tgt := 2) S.x S.b d_Mpg_hasMain_108 (by decide) ?_
                first | exact ih2 z53 _ _ ls (show 0 ≤ z53.toInt from (oz_ae613611c0 tz53 k2_0)) (show z53.toInt ≤ (cf 38).toInt from (oz_b1314744c8 nc1 tz53)) (show K_mp_hasMain_2 sb tf ta na ma cf ca z53 from (fun y_v k hE => k2_2 y_v (k + 1) (Or.inr (Or.inl ⟨rfl, x2_1, rfl, rfl, rfl, rfl, rfl, Or.inr ⟨nc1, z3, ez3, z4, ez4, Or.inr ⟨nc5, z4, ez22, z23, ez23, Or.inr ⟨nc24, z4, ez41, z42, ez42, Or.inl ⟨nc43, z45, ez45, v47, e50, Or.inl ⟨nc51, z53, ez53, hE⟩⟩⟩⟩⟩⟩)))) (show (cf 38).toInt - z53.toInt < (n_2 : Int) from (oz_654393c63a hm tz53)) hw (lv_sub hl [3, 0] rfl) | (exact ih2 z53 _ _ ls (show 0 ≤ z53.toInt from by first | exact oz_ae613611c0 tz53 k2_0 | omega) (show z53.toInt ≤ (cf 38).toInt from by first | exact oz_b1314744c8 nc1 tz53 | omega) (show K_mp_hasMain_2 sb tf ta na ma cf ca z53 from (fun y_v k hE => k2_2 y_v (k + 1) (Or.inr (Or.inl ⟨rfl, x2_1, rfl, rfl, rfl, rfl, rfl, Or.inr ⟨nc1, z3, ez3, z4, ez4, Or.inr ⟨nc5, z4, ez22, z23, ez23, Or.inr ⟨nc24, z4, ez41, z42, ez42, Or.inl ⟨nc43, z45, ez45, v47, e50, Or.inl ⟨nc51, z53, ez53, hE⟩⟩⟩⟩⟩⟩)))) (show (cf 38).toInt - z53.toInt < (n_2 : Int) from by first | exact oz_654393c63a hm tz53 | omega) hw (lv_sub hl [3, 0] rfl))
              · have nc51 : ¬ v47.toInt = (0 : Int) := mt (i_eq (x := v47) (y := 0)).mpr c51
                refine lv_aload_n S.x S.b d_Mpg_hasMain_90 rfl (lv_at hl 2 rfl) ?_
                refine gP_22 S hT hw 0 rfl m10_9 d_Mpg_hasMain_91 ?_
                refine lv_iload_n S.x S.b d_Mpg_hasMain_94 rfl (lv_at hl 1 rfl) ?_
                refine px_iald S hT hw 0 18 (n := 2100) (f := (ma 22)) rfl gp_22 (x := z3) (vp_in_iff.mpr (by constructor <;> omega)) d_Mpg_hasMain_95 ?_
                refine lv_topi (fun z54 ez54 => ?_)
                have lz54 := Int32.le_toInt z54
                have uz54 := Int32.toInt_lt z54
                refine lv_if_ne (tgt := 105) S.x S.b d_Mpg_hasMain_96 (by decide) (fun c55 => ?_) (fun c55 => ?_)
                · have nc55 : ¬ z54.toInt = (0 : Int) := mt (i_eq (x := z54) (y := 0)).mpr c55
                  obtain ⟨z57, ez57⟩ : ∃ y : Int32, y = x2_1 + 1 := ⟨_, rfl⟩
                  have tz57 : z57.toInt = (x2_1.toInt + 1 + 2147483648) % 4294967296 - 2147483648 := by rw [ez57]; exact i_add x2_1 1
                  have lz57 := Int32.le_toInt z57
                  have uz57 := Int32.toInt_lt z57
                  try replace tz57 : z57.toInt = x2_1.toInt + 1 := by omega
                  refine lv_iinc (v := z57) (lv' := [(1, .int z57), (3, .int 0), (2, .int z3), (0, .ref h)]) S.x S.b d_Mpg_hasMain_105 hl (k := 3) rfl (by rw [ez57]; rfl) (by decide) rfl (fun ls hl => ?_)
                  refine lv_goto (tgt := 2) S.x S.b d_Mpg_hasMain_108 (by decide) ?_
                  first | exact ih2 z57 _ _ ls (show 0 ≤ z57.toInt from (oz_ae613611c0 tz57 k2_0)) (show z57.toInt ≤ (cf 38).toInt from (oz_b1314744c8 nc1 tz57)) (show K_mp_hasMain_2 sb tf ta na ma cf ca z57 from (fun y_v k hE => k2_2 y_v (k + 1) (Or.inr (Or.inl ⟨rfl, x2_1, rfl, rfl, rfl, rfl, rfl, Or.inr ⟨nc1, z3, ez3, z4, ez4, Or.inr ⟨nc5, z4, ez22, z23, ez23, Or.inr ⟨nc24, z4, ez41, z42, ez42, Or.inl ⟨nc43, z45, ez45, v47, e50, Or.inr ⟨nc51, z54, ez54, Or.inl ⟨nc55, z57, ez57, hE⟩⟩⟩⟩⟩⟩⟩)))) (show (cf 38).toInt - z57.toInt < (n_2 : Int) from (oz_654393c63a hm tz57)) hw (lv_sub hl [3, 0] rfl) | (exact ih2 z57 _ _ ls (show 0 ≤ z57.toInt from by first | exact oz_ae613611c0 tz57 k2_0 | omega) (show z57.toInt ≤ (cf 38).toInt from by first | exact oz_b1314744c8 nc1 tz57 | omega) (show K_mp_hasMain_2 sb tf ta na ma cf ca z57 from (fun y_v k hE => k2_2 y_v (k + 1) (Or.inr (Or.inl ⟨rfl, x2_1, rfl, rfl, rfl, rfl, rfl, Or.inr ⟨nc1, z3, ez3, z4, ez4, Or.inr ⟨nc5, z4, ez22, z23, ez23, Or.inr ⟨nc24, z4, ez41, z42, ez42, Or.inl ⟨nc43, z45, ez45, v47, e50, Or.inr ⟨nc51, z54, ez54, Or.inl ⟨nc55, z57, ez57, hE⟩⟩⟩⟩⟩⟩⟩)))) (show (cf 38).toInt - z57.toInt < (n_2 : Int) from by first | exact oz_654393c63a hm tz57 | omega) hw (lv_sub hl [3, 0] rfl))
                · have nc55 : z54.toInt = (0 : Int) := (i_eq (x := z54) (y := 0)).mp c55
                  refine lv_iload_n S.x S.b d_Mpg_hasMain_99 rfl (lv_at hl 0 rfl) ?_
                  refine lv_if_eq (tgt := 105) S.x S.b d_Mpg_hasMain_100 (by decide) (fun c58 => ?_) (fun c58 => ?_)
                  ·
                    obtain ⟨z59, ez59⟩ : ∃ y : Int32, y = x2_1 + 1 := ⟨_, rfl⟩
                    have tz59 : z59.toInt = (x2_1.toInt + 1 + 2147483648) % 4294967296 - 2147483648 := by rw [ez59]; exact i_add x2_1 1
                    have lz59 := Int32.le_toInt z59
                    have uz59 := Int32.toInt_lt z59
                    try replace tz59 : z59.toInt = x2_1.toInt + 1 := by omega
                    refine lv_iinc (v := z59) (lv' := [(1, .int z59), (3, .int 0), (2, .int z3), (0, .ref h)]) S.x S.b d_Mpg_hasMain_105 hl (k := 3) rfl (by rw [ez59]; rfl) (by decide) rfl (fun ls hl => ?_)
                    refine lv_goto (tgt := 2) S.x S.b d_Mpg_hasMain_108 (by decide) ?_
                    first | exact ih2 z59 _ _ ls (show 0 ≤ z59.toInt from (oz_ae613611c0 tz59 k2_0)) (show z59.toInt ≤ (cf 38).toInt from (oz_b1314744c8 nc1 tz59)) (show K_mp_hasMain_2 sb tf ta na ma cf ca z59 from (fun y_v k hE => k2_2 y_v (k + 1) (Or.inr (Or.inl ⟨rfl, x2_1, rfl, rfl, rfl, rfl, rfl, Or.inr ⟨nc1, z3, ez3, z4, ez4, Or.inr ⟨nc5, z4, ez22, z23, ez23, Or.inr ⟨nc24, z4, ez41, z42, ez42, Or.inl ⟨nc43, z45, ez45, v47, e50, Or.inr ⟨nc51, z54, ez54, Or.inr ⟨nc55, z59, ez59, hE⟩⟩⟩⟩⟩⟩⟩)))) (show (cf 38).toInt - z59.toInt < (n_2 : Int) from (oz_654393c63a hm tz59)) hw (lv_sub hl [3, 0] rfl) | (exact ih2 z59 _ _ ls (show 0 ≤ z59.toInt from by first | exact oz_ae613611c0 tz59 k2_0 | omega) (show z59.toInt ≤ (cf 38).toInt from by first | exact oz_b1314744c8 nc1 tz59 | omega) (show K_mp_hasMain_2 sb tf ta na ma cf ca z59 from (fun y_v k hE => k2_2 y_v (k + 1) (Or.inr (Or.inl ⟨rfl, x2_1, rfl, rfl, rfl, rfl, rfl, Or.inr ⟨nc1, z3, ez3, z4, ez4, Or.inr ⟨nc5, z4, ez22, z23, ez23, Or.inr ⟨nc24, z4, ez41, z42, ez42, Or.inl ⟨nc43, z45, ez45, v47, e50, Or.inr ⟨nc51, z54, ez54, Or.inr ⟨nc55, z59, ez59, hE⟩⟩⟩⟩⟩⟩⟩)))) (show (cf 38).toInt - z59.toInt < (n_2 : Int) from by first | exact oz_654393c63a hm tz59 | omega) hw (lv_sub hl [3, 0] rfl))
                  · exact absurd c58 (by decide)
            · have nc43 : ¬ (0 : Int) ≤ z42.toInt := mt (i_le (x := 0) (y := z42)).mpr c43
              refine lv_aload_n S.x S.b d_Mpg_hasMain_54 rfl (lv_at hl 1 rfl) ?_
              refine gP_22 S hT hw 0 rfl m10_9 d_Mpg_hasMain_55 ?_
              refine lv_aload_n S.x S.b d_Mpg_hasMain_58 rfl (lv_at hl 1 rfl) ?_
              refine gP_17 S hT hw 0 rfl m10_1 d_Mpg_hasMain_59 ?_
              refine lv_iload_n S.x S.b d_Mpg_hasMain_62 rfl (lv_at hl 0 rfl) ?_
              refine px_iald S hT hw 0 13 (n := 2100) (f := (na 17)) rfl gp_17 (x := z3) (vp_in_iff.mpr (by constructor <;> omega)) d_Mpg_hasMain_63 ?_
              refine lv_topi (fun z60 ez60 => ?_)
              have lz60 := Int32.le_toInt z60
              have uz60 := Int32.toInt_lt z60
              have hsz60 : z4 = z60 := ez4.trans ez60.symm; subst hsz60
              refine px_iald S hT hw 0 18 (n := 2100) (f := (ma 22)) rfl gp_22 (x := z4) (vp_in_iff.mpr (by first | exact oz_426bac7366 nc5 hpa | (constructor <;> omega))) d_Mpg_hasMain_64 ?_
              refine lv_topi (fun z61 ez61 => ?_)
              have lz61 := Int32.le_toInt z61
              have uz61 := Int32.toInt_lt z61
              refine lv_if_ne (tgt := 72) S.x S.b d_Mpg_hasMain_65 (by decide) (fun c62 => ?_) (fun c62 => ?_)
              · have nc62 : ¬ z61.toInt = (0 : Int) := mt (i_eq (x := z61) (y := 0)).mpr c62
                refine lv_iconst (v := 0) S.x S.b d_Mpg_hasMain_72 (by decide) ?_
                refine lv_istore_n (lv' := [(3, .int 0), (2, .int z3), (0, .ref h), (1, .int x2_1)]) S.x S.b d_Mpg_hasMain_73 rfl hl (by decide) rfl (fun ls hl => ?_)
                refine lv_aload_n S.x S.b d_Mpg_hasMain_74 rfl (lv_at hl 2 rfl) ?_
                refine lv_aload_n S.x S.b d_Mpg_hasMain_75 rfl (lv_at hl 2 rfl) ?_
                refine gP_15 S hT hw 0 rfl m9_239 d_Mpg_hasMain_76 ?_
                refine lv_iload_n S.x S.b d_Mpg_hasMain_79 rfl (lv_at hl 1 rfl) ?_
                refine px_iald S hT hw 0 11 (n := 2100) (f := (na 15)) rfl gp_15 (x := z3) (vp_in_iff.mpr (by constructor <;> omega)) d_Mpg_hasMain_80 ?_
                refine lv_topi (fun z64 ez64 => ?_)
                have lz64 := Int32.le_toInt z64
                have uz64 := Int32.toInt_lt z64
                have hqz64 := rz3.2; rw [← ez64] at hqz64
                refine px_ldcwS S.x S.b S.own hMn.1 d_Mpg_hasMain_81 ?_
                first | refine px_calli (pr := []) (px_runV (As := [.int z64, .ref sk]) (rest := []) S (c_mp_isNamedM l D cs sk st sb h r g tf ta pf na ma wa cf ca ef ea xf xa z64  (show 0 ≤ z64.toInt from by omega) (show z64.toInt < (tf 6).toInt from by omega) (show (tf 6).toInt ≤ 2049 from g1) htk _) hT (pr := []) (pcs := [wdP cs h r g tf ta pf na ma wa cf ca ef ea xf xa]) hw (oX_call (P := (fun A U H => (oP A g U H) ∧ ((vk_R "HomeSystemModel$Program" 688 "main" sk U ∧ oS A sk st 4 sb U H)))) (pr := []) (oG_and oG_P (oG_and oG_L oG_S)) hw hA ⟨hP, hMn⟩) (px_recv hT hw 0 0 rfl rfl rfl) m12_161 m12_158 m12_160 ms_11_9 m1_21 q_Mpg_isNamed ⟨Nat.le_of_ble_eq_true rfl, Nat.le_of_ble_eq_true rfl⟩ hl.1 rfl (Nat.le_of_ble_eq_true rfl) d_Mpg_hasMain_84 ⟨Nat.le_of_ble_eq_true rfl, Nat.le_of_ble_eq_true rfl⟩) hw hA (fun v66 p65 H locs hp65 hw => ?_) | (refine px_calli (pr := []) (px_runV (As := [.int z64, .ref sk]) (rest := []) S (c_mp_isNamedM l D cs sk st sb h r g tf ta pf na ma wa cf ca ef ea xf xa z64  (show 0 ≤ z64.toInt from by omega) (show z64.toInt < (tf 6).toInt from by omega) (show (tf 6).toInt ≤ 2049 from by first | exact g1 | omega) htk _) hT (pr := []) (pcs := [wdP cs h r g tf ta pf na ma wa cf ca ef ea xf xa]) hw (oX_call (P := (fun A U H => (oP A g U H) ∧ ((vk_R "HomeSystemModel$Program" 688 "main" sk U ∧ oS A sk st 4 sb U H)))) (pr := []) (oG_and oG_P (oG_and oG_L oG_S)) hw hA ⟨hP, hMn⟩) (px_recv hT hw 0 0 rfl rfl rfl) m12_161 m12_158 m12_160 ms_11_9 m1_21 q_Mpg_isNamed ⟨Nat.le_of_ble_eq_true rfl, Nat.le_of_ble_eq_true rfl⟩ hl.1 rfl (Nat.le_of_ble_eq_true rfl) d_Mpg_hasMain_84 ⟨Nat.le_of_ble_eq_true rfl, Nat.le_of_ble_eq_true rfl⟩) hw hA (fun v66 p65 H locs hp65 hw => ?_))
                obtain ⟨rfl, e67, e68, e69⟩ := hp65
                have e67 := z_rng e67
                have e68 : MnV ta (tf 5).toInt sb z64 v66.toInt := e68
                have hmn := e68
                have e69 : R_mp_isNamedM sb tf ta z64 v66 := e69
                have lv66 := Int32.le_toInt v66
                have uv66 := Int32.toInt_lt v66
                refine lv_if_eq (tgt := 105) S.x S.b d_Mpg_hasMain_87 (by decide) (fun c70 => ?_) (fun c70 => ?_)
                · have nc70 : v66.toInt = (0 : Int) := (i_eq (x := v66) (y := 0)).mp c70
                  obtain ⟨z72, ez72⟩ : ∃ y : Int32, y = x2_1 + 1 := ⟨_, rfl⟩
                  have tz72 : z72.toInt = (x2_1.toInt + 1 + 2147483648) % 4294967296 - 2147483648 := by rw [ez72]; exact i_add x2_1 1
                  have lz72 := Int32.le_toInt z72
                  have uz72 := Int32.toInt_lt z72
                  try replace tz72 : z72.toInt = x2_1.toInt + 1 := by omega
                  refine lv_iinc (v := z72) (lv' := [(1, .int z72), (3, .int 0), (2, .int z3), (0, .ref h)]) S.x S.b d_Mpg_hasMain_105 hl (k := 3) rfl (by rw [ez72]; rfl) (by decide) rfl (fun ls hl => ?_)
                  refine lv_goto (tgt := 2) S.x S.b d_Mpg_hasMain_108 (by decide) ?_
                  first | exact ih2 z72 _ _ ls (show 0 ≤ z72.toInt from (oz_ae613611c0 tz72 k2_0)) (show z72.toInt ≤ (cf 38).toInt from (oz_b1314744c8 nc1 tz72)) (show K_mp_hasMain_2 sb tf ta na ma cf ca z72 from (fun y_v k hE => k2_2 y_v (k + 1) (Or.inr (Or.inl ⟨rfl, x2_1, rfl, rfl, rfl, rfl, rfl, Or.inr ⟨nc1, z3, ez3, z4, ez4, Or.inr ⟨nc5, z4, ez22, z23, ez23, Or.inr ⟨nc24, z4, ez41, z42, ez42, Or.inr ⟨nc43, z4, ez60, z61, ez61, Or.inl ⟨nc62, z64, ez64, v66, e69, Or.inl ⟨nc70, z72, ez72, hE⟩⟩⟩⟩⟩⟩⟩)))) (show (cf 38).toInt - z72.toInt < (n_2 : Int) from (oz_654393c63a hm tz72)) hw (lv_sub hl [3, 0] rfl) | (exact ih2 z72 _ _ ls (show 0 ≤ z72.toInt from by first | exact oz_ae613611c0 tz72 k2_0 | omega) (show z72.toInt ≤ (cf 38).toInt from by first | exact oz_b1314744c8 nc1 tz72 | omega) (show K_mp_hasMain_2 sb tf ta na ma cf ca z72 from (fun y_v k hE => k2_2 y_v (k + 1) (Or.inr (Or.inl ⟨rfl, x2_1, rfl, rfl, rfl, rfl, rfl, Or.inr ⟨nc1, z3, ez3, z4, ez4, Or.inr ⟨nc5, z4, ez22, z23, ez23, Or.inr ⟨nc24, z4, ez41, z42, ez42, Or.inr ⟨nc43, z4, ez60, z61, ez61, Or.inl ⟨nc62, z64, ez64, v66, e69, Or.inl ⟨nc70, z72, ez72, hE⟩⟩⟩⟩⟩⟩⟩)))) (show (cf 38).toInt - z72.toInt < (n_2 : Int) from by first | exact oz_654393c63a hm tz72 | omega) hw (lv_sub hl [3, 0] rfl))
                · have nc70 : ¬ v66.toInt = (0 : Int) := mt (i_eq (x := v66) (y := 0)).mpr c70
                  refine lv_aload_n S.x S.b d_Mpg_hasMain_90 rfl (lv_at hl 2 rfl) ?_
                  refine gP_22 S hT hw 0 rfl m10_9 d_Mpg_hasMain_91 ?_
                  refine lv_iload_n S.x S.b d_Mpg_hasMain_94 rfl (lv_at hl 1 rfl) ?_
                  refine px_iald S hT hw 0 18 (n := 2100) (f := (ma 22)) rfl gp_22 (x := z3) (vp_in_iff.mpr (by constructor <;> omega)) d_Mpg_hasMain_95 ?_
                  refine lv_topi (fun z73 ez73 => ?_)
                  have lz73 := Int32.le_toInt z73
                  have uz73 := Int32.toInt_lt z73
                  refine lv_if_ne (tgt := 105) S.x S.b d_Mpg_hasMain_96 (by decide) (fun c74 => ?_) (fun c74 => ?_)
                  · have nc74 : ¬ z73.toInt = (0 : Int) := mt (i_eq (x := z73) (y := 0)).mpr c74
                    obtain ⟨z76, ez76⟩ : ∃ y : Int32, y = x2_1 + 1 := ⟨_, rfl⟩
                    have tz76 : z76.toInt = (x2_1.toInt + 1 + 2147483648) % 4294967296 - 2147483648 := by rw [ez76]; exact i_add x2_1 1
                    have lz76 := Int32.le_toInt z76
                    have uz76 := Int32.toInt_lt z76
                    try replace tz76 : z76.toInt = x2_1.toInt + 1 := by omega
                    refine lv_iinc (v := z76) (lv' := [(1, .int z76), (3, .int 0), (2, .int z3), (0, .ref h)]) S.x S.b d_Mpg_hasMain_105 hl (k := 3) rfl (by rw [ez76]; rfl) (by decide) rfl (fun ls hl => ?_)
                    refine lv_goto (tgt := 2) S.x S.b d_Mpg_hasMain_108 (by decide) ?_
                    first | exact ih2 z76 _ _ ls (show 0 ≤ z76.toInt from (oz_ae613611c0 tz76 k2_0)) (show z76.toInt ≤ (cf 38).toInt from (oz_b1314744c8 nc1 tz76)) (show K_mp_hasMain_2 sb tf ta na ma cf ca z76 from (fun y_v k hE => k2_2 y_v (k + 1) (Or.inr (Or.inl ⟨rfl, x2_1, rfl, rfl, rfl, rfl, rfl, Or.inr ⟨nc1, z3, ez3, z4, ez4, Or.inr ⟨nc5, z4, ez22, z23, ez23, Or.inr ⟨nc24, z4, ez41, z42, ez42, Or.inr ⟨nc43, z4, ez60, z61, ez61, Or.inl ⟨nc62, z64, ez64, v66, e69, Or.inr ⟨nc70, z73, ez73, Or.inl ⟨nc74, z76, ez76, hE⟩⟩⟩⟩⟩⟩⟩⟩)))) (show (cf 38).toInt - z76.toInt < (n_2 : Int) from (oz_654393c63a hm tz76)) hw (lv_sub hl [3, 0] rfl) | (exact ih2 z76 _ _ ls (show 0 ≤ z76.toInt from by first | exact oz_ae613611c0 tz76 k2_0 | omega) (show z76.toInt ≤ (cf 38).toInt from by first | exact oz_b1314744c8 nc1 tz76 | omega) (show K_mp_hasMain_2 sb tf ta na ma cf ca z76 from (fun y_v k hE => k2_2 y_v (k + 1) (Or.inr (Or.inl ⟨rfl, x2_1, rfl, rfl, rfl, rfl, rfl, Or.inr ⟨nc1, z3, ez3, z4, ez4, Or.inr ⟨nc5, z4, ez22, z23, ez23, Or.inr ⟨nc24, z4, ez41, z42, ez42, Or.inr ⟨nc43, z4, ez60, z61, ez61, Or.inl ⟨nc62, z64, ez64, v66, e69, Or.inr ⟨nc70, z73, ez73, Or.inl ⟨nc74, z76, ez76, hE⟩⟩⟩⟩⟩⟩⟩⟩)))) (show (cf 38).toInt - z76.toInt < (n_2 : Int) from by first | exact oz_654393c63a hm tz76 | omega) hw (lv_sub hl [3, 0] rfl))
                  · have nc74 : z73.toInt = (0 : Int) := (i_eq (x := z73) (y := 0)).mp c74
                    refine lv_iload_n S.x S.b d_Mpg_hasMain_99 rfl (lv_at hl 0 rfl) ?_
                    refine lv_if_eq (tgt := 105) S.x S.b d_Mpg_hasMain_100 (by decide) (fun c77 => ?_) (fun c77 => ?_)
                    ·
                      obtain ⟨z78, ez78⟩ : ∃ y : Int32, y = x2_1 + 1 := ⟨_, rfl⟩
                      have tz78 : z78.toInt = (x2_1.toInt + 1 + 2147483648) % 4294967296 - 2147483648 := by rw [ez78]; exact i_add x2_1 1
                      have lz78 := Int32.le_toInt z78
                      have uz78 := Int32.toInt_lt z78
                      try replace tz78 : z78.toInt = x2_1.toInt + 1 := by omega
                      refine lv_iinc (v := z78) (lv' := [(1, .int z78), (3, .int 0), (2, .int z3), (0, .ref h)]) S.x S.b d_Mpg_hasMain_105 hl (k := 3) rfl (by rw [ez78]; rfl) (by decide) rfl (fun ls hl => ?_)
                      refine lv_goto (tgt := 2) S.x S.b d_Mpg_hasMain_108 (by decide) ?_
                      first | exact ih2 z78 _ _ ls (show 0 ≤ z78.toInt from (oz_ae613611c0 tz78 k2_0)) (show z78.toInt ≤ (cf 38).toInt from (oz_b1314744c8 nc1 tz78)) (show K_mp_hasMain_2 sb tf ta na ma cf ca z78 from (fun y_v k hE => k2_2 y_v (k + 1) (Or.inr (Or.inl ⟨rfl, x2_1, rfl, rfl, rfl, rfl, rfl, Or.inr ⟨nc1, z3, ez3, z4, ez4, Or.inr ⟨nc5, z4, ez22, z23, ez23, Or.inr ⟨nc24, z4, ez41, z42, ez42, Or.inr ⟨nc43, z4, ez60, z61, ez61, Or.inl ⟨nc62, z64, ez64, v66, e69, Or.inr ⟨nc70, z73, ez73, Or.inr ⟨nc74, z78, ez78, hE⟩⟩⟩⟩⟩⟩⟩⟩)))) (show (cf 38).toInt - z78.toInt < (n_2 : Int) from (oz_654393c63a hm tz78)) hw (lv_sub hl [3, 0] rfl) | (exact ih2 z78 _ _ ls (show 0 ≤ z78.toInt from by first | exact oz_ae613611c0 tz78 k2_0 | omega) (show z78.toInt ≤ (cf 38).toInt from by first | exact oz_b1314744c8 nc1 tz78 | omega) (show K_mp_hasMain_2 sb tf ta na ma cf ca z78 from (fun y_v k hE => k2_2 y_v (k + 1) (Or.inr (Or.inl ⟨rfl, x2_1, rfl, rfl, rfl, rfl, rfl, Or.inr ⟨nc1, z3, ez3, z4, ez4, Or.inr ⟨nc5, z4, ez22, z23, ez23, Or.inr ⟨nc24, z4, ez41, z42, ez42, Or.inr ⟨nc43, z4, ez60, z61, ez61, Or.inl ⟨nc62, z64, ez64, v66, e69, Or.inr ⟨nc70, z73, ez73, Or.inr ⟨nc74, z78, ez78, hE⟩⟩⟩⟩⟩⟩⟩⟩)))) (show (cf 38).toInt - z78.toInt < (n_2 : Int) from by first | exact oz_654393c63a hm tz78 | omega) hw (lv_sub hl [3, 0] rfl))
                    · exact absurd c77 (by decide)
              · have nc62 : z61.toInt = (0 : Int) := (i_eq (x := z61) (y := 0)).mp c62
                refine lv_iconst (v := 1) S.x S.b d_Mpg_hasMain_68 (by decide) ?_
                refine lv_goto (tgt := 73) S.x S.b d_Mpg_hasMain_69 (by decide) ?_
                refine lv_istore_n (lv' := [(3, .int 1), (2, .int z3), (0, .ref h), (1, .int x2_1)]) S.x S.b d_Mpg_hasMain_73 rfl hl (by decide) rfl (fun ls hl => ?_)
                refine lv_aload_n S.x S.b d_Mpg_hasMain_74 rfl (lv_at hl 2 rfl) ?_
                refine lv_aload_n S.x S.b d_Mpg_hasMain_75 rfl (lv_at hl 2 rfl) ?_
                refine gP_15 S hT hw 0 rfl m9_239 d_Mpg_hasMain_76 ?_
                refine lv_iload_n S.x S.b d_Mpg_hasMain_79 rfl (lv_at hl 1 rfl) ?_
                refine px_iald S hT hw 0 11 (n := 2100) (f := (na 15)) rfl gp_15 (x := z3) (vp_in_iff.mpr (by constructor <;> omega)) d_Mpg_hasMain_80 ?_
                refine lv_topi (fun z79 ez79 => ?_)
                have lz79 := Int32.le_toInt z79
                have uz79 := Int32.toInt_lt z79
                have hqz79 := rz3.2; rw [← ez79] at hqz79
                refine px_ldcwS S.x S.b S.own hMn.1 d_Mpg_hasMain_81 ?_
                first | refine px_calli (pr := []) (px_runV (As := [.int z79, .ref sk]) (rest := []) S (c_mp_isNamedM l D cs sk st sb h r g tf ta pf na ma wa cf ca ef ea xf xa z79  (show 0 ≤ z79.toInt from by omega) (show z79.toInt < (tf 6).toInt from by omega) (show (tf 6).toInt ≤ 2049 from g1) htk _) hT (pr := []) (pcs := [wdP cs h r g tf ta pf na ma wa cf ca ef ea xf xa]) hw (oX_call (P := (fun A U H => (oP A g U H) ∧ ((vk_R "HomeSystemModel$Program" 688 "main" sk U ∧ oS A sk st 4 sb U H)))) (pr := []) (oG_and oG_P (oG_and oG_L oG_S)) hw hA ⟨hP, hMn⟩) (px_recv hT hw 0 0 rfl rfl rfl) m12_161 m12_158 m12_160 ms_11_9 m1_21 q_Mpg_isNamed ⟨Nat.le_of_ble_eq_true rfl, Nat.le_of_ble_eq_true rfl⟩ hl.1 rfl (Nat.le_of_ble_eq_true rfl) d_Mpg_hasMain_84 ⟨Nat.le_of_ble_eq_true rfl, Nat.le_of_ble_eq_true rfl⟩) hw hA (fun v81 p80 H locs hp80 hw => ?_) | (refine px_calli (pr := []) (px_runV (As := [.int z79, .ref sk]) (rest := []) S (c_mp_isNamedM l D cs sk st sb h r g tf ta pf na ma wa cf ca ef ea xf xa z79  (show 0 ≤ z79.toInt from by omega) (show z79.toInt < (tf 6).toInt from by omega) (show (tf 6).toInt ≤ 2049 from by first | exact g1 | omega) htk _) hT (pr := []) (pcs := [wdP cs h r g tf ta pf na ma wa cf ca ef ea xf xa]) hw (oX_call (P := (fun A U H => (oP A g U H) ∧ ((vk_R "HomeSystemModel$Program" 688 "main" sk U ∧ oS A sk st 4 sb U H)))) (pr := []) (oG_and oG_P (oG_and oG_L oG_S)) hw hA ⟨hP, hMn⟩) (px_recv hT hw 0 0 rfl rfl rfl) m12_161 m12_158 m12_160 ms_11_9 m1_21 q_Mpg_isNamed ⟨Nat.le_of_ble_eq_true rfl, Nat.le_of_ble_eq_true rfl⟩ hl.1 rfl (Nat.le_of_ble_eq_true rfl) d_Mpg_hasMain_84 ⟨Nat.le_of_ble_eq_true rfl, Nat.le_of_ble_eq_true rfl⟩) hw hA (fun v81 p80 H locs hp80 hw => ?_))
                obtain ⟨rfl, e82, e83, e84⟩ := hp80
                have e82 := z_rng e82
                have e83 : MnV ta (tf 5).toInt sb z79 v81.toInt := e83
                have hmn := e83
                have e84 : R_mp_isNamedM sb tf ta z79 v81 := e84
                have lv81 := Int32.le_toInt v81
                have uv81 := Int32.toInt_lt v81
                refine lv_if_eq (tgt := 105) S.x S.b d_Mpg_hasMain_87 (by decide) (fun c85 => ?_) (fun c85 => ?_)
                · have nc85 : v81.toInt = (0 : Int) := (i_eq (x := v81) (y := 0)).mp c85
                  obtain ⟨z87, ez87⟩ : ∃ y : Int32, y = x2_1 + 1 := ⟨_, rfl⟩
                  have tz87 : z87.toInt = (x2_1.toInt + 1 + 2147483648) % 4294967296 - 2147483648 := by rw [ez87]; exact i_add x2_1 1
                  have lz87 := Int32.le_toInt z87
                  have uz87 := Int32.toInt_lt z87
                  try replace tz87 : z87.toInt = x2_1.toInt + 1 := by omega
                  refine lv_iinc (v := z87) (lv' := [(1, .int z87), (3, .int 1), (2, .int z3), (0, .ref h)]) S.x S.b d_Mpg_hasMain_105 hl (k := 3) rfl (by rw [ez87]; rfl) (by decide) rfl (fun ls hl => ?_)
                  refine lv_goto (tgt := 2) S.x S.b d_Mpg_hasMain_108 (by decide) ?_
                  first | exact ih2 z87 _ _ ls (show 0 ≤ z87.toInt from (oz_ae613611c0 tz87 k2_0)) (show z87.toInt ≤ (cf 38).toInt from (oz_b1314744c8 nc1 tz87)) (show K_mp_hasMain_2 sb tf ta na ma cf ca z87 from (fun y_v k hE => k2_2 y_v (k + 1) (Or.inr (Or.inl ⟨rfl, x2_1, rfl, rfl, rfl, rfl, rfl, Or.inr ⟨nc1, z3, ez3, z4, ez4, Or.inr ⟨nc5, z4, ez22, z23, ez23, Or.inr ⟨nc24, z4, ez41, z42, ez42, Or.inr ⟨nc43, z4, ez60, z61, ez61, Or.inr ⟨nc62, z79, ez79, v81, e84, Or.inl ⟨nc85, z87, ez87, hE⟩⟩⟩⟩⟩⟩⟩)))) (show (cf 38).toInt - z87.toInt < (n_2 : Int) from (oz_654393c63a hm tz87)) hw (lv_sub hl [3, 0] rfl) | (exact ih2 z87 _ _ ls (show 0 ≤ z87.toInt from by first | exact oz_ae613611c0 tz87 k2_0 | omega) (show z87.toInt ≤ (cf 38).toInt from by first | exact oz_b1314744c8 nc1 tz87 | omega) (show K_mp_hasMain_2 sb tf ta na ma cf ca z87 from (fun y_v k hE => k2_2 y_v (k + 1) (Or.inr (Or.inl ⟨rfl, x2_1, rfl, rfl, rfl, rfl, rfl, Or.inr ⟨nc1, z3, ez3, z4, ez4, Or.inr ⟨nc5, z4, ez22, z23, ez23, Or.inr ⟨nc24, z4, ez41, z42, ez42, Or.inr ⟨nc43, z4, ez60, z61, ez61, Or.inr ⟨nc62, z79, ez79, v81, e84, Or.inl ⟨nc85, z87, ez87, hE⟩⟩⟩⟩⟩⟩⟩)))) (show (cf 38).toInt - z87.toInt < (n_2 : Int) from by first | exact oz_654393c63a hm tz87 | omega) hw (lv_sub hl [3, 0] rfl))
                · have nc85 : ¬ v81.toInt = (0 : Int) := mt (i_eq (x := v81) (y := 0)).mpr c85
                  refine lv_aload_n S.x S.b d_Mpg_hasMain_90 rfl (lv_at hl 2 rfl) ?_
                  refine gP_22 S hT hw 0 rfl m10_9 d_Mpg_hasMain_91 ?_
                  refine lv_iload_n S.x S.b d_Mpg_hasMain_94 rfl (lv_at hl 1 rfl) ?_
                  refine px_iald S hT hw 0 18 (n := 2100) (f := (ma 22)) rfl gp_22 (x := z3) (vp_in_iff.mpr (by constructor <;> omega)) d_Mpg_hasMain_95 ?_
                  refine lv_topi (fun z88 ez88 => ?_)
                  have lz88 := Int32.le_toInt z88
                  have uz88 := Int32.toInt_lt z88
                  refine lv_if_ne (tgt := 105) S.x S.b d_Mpg_hasMain_96 (by decide) (fun c89 => ?_) (fun c89 => ?_)
                  · have nc89 : ¬ z88.toInt = (0 : Int) := mt (i_eq (x := z88) (y := 0)).mpr c89
                    obtain ⟨z91, ez91⟩ : ∃ y : Int32, y = x2_1 + 1 := ⟨_, rfl⟩
                    have tz91 : z91.toInt = (x2_1.toInt + 1 + 2147483648) % 4294967296 - 2147483648 := by rw [ez91]; exact i_add x2_1 1
                    have lz91 := Int32.le_toInt z91
                    have uz91 := Int32.toInt_lt z91
                    try replace tz91 : z91.toInt = x2_1.toInt + 1 := by omega
                    refine lv_iinc (v := z91) (lv' := [(1, .int z91), (3, .int 1), (2, .int z3), (0, .ref h)]) S.x S.b d_Mpg_hasMain_105 hl (k := 3) rfl (by rw [ez91]; rfl) (by decide) rfl (fun ls hl => ?_)
                    refine lv_goto (tgt := 2) S.x S.b d_Mpg_hasMain_108 (by decide) ?_
                    first | exact ih2 z91 _ _ ls (show 0 ≤ z91.toInt from (oz_ae613611c0 tz91 k2_0)) (show z91.toInt ≤ (cf 38).toInt from (oz_b1314744c8 nc1 tz91)) (show K_mp_hasMain_2 sb tf ta na ma cf ca z91 from (fun y_v k hE => k2_2 y_v (k + 1) (Or.inr (Or.inl ⟨rfl, x2_1, rfl, rfl, rfl, rfl, rfl, Or.inr ⟨nc1, z3, ez3, z4, ez4, Or.inr ⟨nc5, z4, ez22, z23, ez23, Or.inr ⟨nc24, z4, ez41, z42, ez42, Or.inr ⟨nc43, z4, ez60, z61, ez61, Or.inr ⟨nc62, z79, ez79, v81, e84, Or.inr ⟨nc85, z88, ez88, Or.inl ⟨nc89, z91, ez91, hE⟩⟩⟩⟩⟩⟩⟩⟩)))) (show (cf 38).toInt - z91.toInt < (n_2 : Int) from (oz_654393c63a hm tz91)) hw (lv_sub hl [3, 0] rfl) | (exact ih2 z91 _ _ ls (show 0 ≤ z91.toInt from by first | exact oz_ae613611c0 tz91 k2_0 | omega) (show z91.toInt ≤ (cf 38).toInt from by first | exact oz_b1314744c8 nc1 tz91 | omega) (show K_mp_hasMain_2 sb tf ta na ma cf ca z91 from (fun y_v k hE => k2_2 y_v (k + 1) (Or.inr (Or.inl ⟨rfl, x2_1, rfl, rfl, rfl, rfl, rfl, Or.inr ⟨nc1, z3, ez3, z4, ez4, Or.inr ⟨nc5, z4, ez22, z23, ez23, Or.inr ⟨nc24, z4, ez41, z42, ez42, Or.inr ⟨nc43, z4, ez60, z61, ez61, Or.inr ⟨nc62, z79, ez79, v81, e84, Or.inr ⟨nc85, z88, ez88, Or.inl ⟨nc89, z91, ez91, hE⟩⟩⟩⟩⟩⟩⟩⟩)))) (show (cf 38).toInt - z91.toInt < (n_2 : Int) from by first | exact oz_654393c63a hm tz91 | omega) hw (lv_sub hl [3, 0] rfl))
                  · have nc89 : z88.toInt = (0 : Int) := (i_eq (x := z88) (y := 0)).mp c89
                    refine lv_iload_n S.x S.b d_Mpg_hasMain_99 rfl (lv_at hl 0 rfl) ?_
                    refine lv_if_eq (tgt := 105) S.x S.b d_Mpg_hasMain_100 (by decide) (fun c92 => ?_) (fun c92 => ?_)
                    · exact absurd c92 (by decide)
                    ·
                      refine lv_iconst (v := 1) S.x S.b d_Mpg_hasMain_103 (by decide) ?_
                      exact px_iret (v := 1) S hr rfl hlk hAe hw (Nat.le_of_ble_eq_true rfl) (Nat.le_of_ble_eq_true rfl) (⟨rfl, (show (1 : Int32) = 0 ∨ (1 : Int32) = 1 from by first | exact Or.inl rfl | exact Or.inr rfl | exact z_or (by omega)), (show HmV ta na ma ca (tf 5).toInt sb (cf 38).toInt (1 : Int) from (hm_1 (by omega) (by omega) ez3 ez79 hmn (by omega) ez4 (by omega) ez23 (by omega) ez42 (by omega))), (show R_mp_hasMain sb tf ta na ma cf ca (1 : Int32) from (k2_2 _ 1 (Or.inr (Or.inl ⟨rfl, x2_1, rfl, rfl, rfl, rfl, rfl, Or.inr ⟨nc1, z3, ez3, z4, ez4, Or.inr ⟨nc5, z4, ez22, z23, ez23, Or.inr ⟨nc24, z4, ez41, z42, ez42, Or.inr ⟨nc43, z4, ez60, z61, ez61, Or.inr ⟨nc62, z79, ez79, v81, e84, Or.inr ⟨nc85, z88, ez88, Or.inr ⟨nc89, rfl⟩⟩⟩⟩⟩⟩⟩⟩))))⟩) d_Mpg_hasMain_104
  refine lv_iconst (v := 0) S.x S.b d_Mpg_hasMain_0 (by decide) ?_
  refine lv_istore_n (lv' := [(1, .int 0), (0, .ref h)]) S.x S.b d_Mpg_hasMain_1 rfl hl (by decide) rfl (fun ls hl => ?_)
  first | exact J2 (((cf 38).toInt - (0 : Int)).toNat + 1) (0 : Int32) _ _ ls (show 0 ≤ (0 : Int) from oz_5a341f00aa) (show (0 : Int) ≤ (cf 38).toInt from (oz_50c21e157e g0)) (show K_mp_hasMain_2 sb tf ta na ma cf ca 0 from (fun y_v k hE => Exists.intro (k + 1) (Or.inl ⟨rfl, hE⟩))) (show (cf 38).toInt - (0 : Int) < (((((cf 38).toInt - (0 : Int)).toNat + 1 : Nat) : Int) : Int) from oz_natlt) hw (lv_sub hl [1, 0] rfl) | (exact J2 (((cf 38).toInt - (0 : Int)).toNat + 1) (0 : Int32) _ _ ls (show 0 ≤ (0 : Int) from by first | exact oz_5a341f00aa | omega) (show (0 : Int) ≤ (cf 38).toInt from by first | exact oz_50c21e157e g0 | omega) (show K_mp_hasMain_2 sb tf ta na ma cf ca 0 from (fun y_v k hE => Exists.intro (k + 1) (Or.inl ⟨rfl, hE⟩))) (show (cf 38).toInt - (0 : Int) < (((((cf 38).toInt - (0 : Int)).toNat + 1 : Nat) : Int) : Int) from by first | exact oz_natlt | omega) hw (lv_sub hl [1, 0] rfl))
abbrev b_Mpg_mainFunction : ByteArray := prog_16_method_120_code
def y_Mpg_mainFunction : MethodName := ⟨"HomeSystemModel$Program", "mainFunction", "()I"⟩
theorem d_Mpg_mainFunction_0 : decode b_Mpg_mainFunction 0 = .ok (.iconst (-1), 1) := by decide +kernel
theorem d_Mpg_mainFunction_1 : decode b_Mpg_mainFunction 1 = .ok (.istore_n 1, 1) := by decide +kernel
theorem d_Mpg_mainFunction_2 : decode b_Mpg_mainFunction 2 = .ok (.iconst 0, 1) := by decide +kernel
theorem d_Mpg_mainFunction_3 : decode b_Mpg_mainFunction 3 = .ok (.istore_n 2, 1) := by decide +kernel
theorem d_Mpg_mainFunction_4 : decode b_Mpg_mainFunction 4 = .ok (.iload_n 2, 1) := by decide +kernel
theorem d_Mpg_mainFunction_5 : decode b_Mpg_mainFunction 5 = .ok (.aload_n 0, 1) := by decide +kernel
theorem d_Mpg_mainFunction_6 : decode b_Mpg_mainFunction 6 = .ok (.getfield 535, 3) := by decide +kernel
theorem d_Mpg_mainFunction_9 : decode b_Mpg_mainFunction 9 = .ok (.if_icmp .ge 36, 3) := by decide +kernel
theorem d_Mpg_mainFunction_12 : decode b_Mpg_mainFunction 12 = .ok (.aload_n 0, 1) := by decide +kernel
theorem d_Mpg_mainFunction_13 : decode b_Mpg_mainFunction 13 = .ok (.aload_n 0, 1) := by decide +kernel
theorem d_Mpg_mainFunction_14 : decode b_Mpg_mainFunction 14 = .ok (.getfield 210, 3) := by decide +kernel
theorem d_Mpg_mainFunction_17 : decode b_Mpg_mainFunction 17 = .ok (.aload_n 0, 1) := by decide +kernel
theorem d_Mpg_mainFunction_18 : decode b_Mpg_mainFunction 18 = .ok (.getfield 255, 3) := by decide +kernel
theorem d_Mpg_mainFunction_21 : decode b_Mpg_mainFunction 21 = .ok (.iload_n 2, 1) := by decide +kernel
theorem d_Mpg_mainFunction_22 : decode b_Mpg_mainFunction 22 = .ok (.iaload, 1) := by decide +kernel
theorem d_Mpg_mainFunction_23 : decode b_Mpg_mainFunction 23 = .ok (.iaload, 1) := by decide +kernel
theorem d_Mpg_mainFunction_24 : decode b_Mpg_mainFunction 24 = .ok (.ldc_w 688, 3) := by decide +kernel
theorem d_Mpg_mainFunction_27 : decode b_Mpg_mainFunction 27 = .ok (.invokevirtual 538, 3) := by decide +kernel
theorem d_Mpg_mainFunction_30 : decode b_Mpg_mainFunction 30 = .ok (.ifCond .eq 7, 3) := by decide +kernel
theorem d_Mpg_mainFunction_33 : decode b_Mpg_mainFunction 33 = .ok (.iload_n 2, 1) := by decide +kernel
theorem d_Mpg_mainFunction_34 : decode b_Mpg_mainFunction 34 = .ok (.goto 4, 3) := by decide +kernel
theorem d_Mpg_mainFunction_37 : decode b_Mpg_mainFunction 37 = .ok (.iload_n 1, 1) := by decide +kernel
theorem d_Mpg_mainFunction_38 : decode b_Mpg_mainFunction 38 = .ok (.istore_n 1, 1) := by decide +kernel
theorem d_Mpg_mainFunction_39 : decode b_Mpg_mainFunction 39 = .ok (.iinc 2 1, 3) := by decide +kernel
theorem d_Mpg_mainFunction_42 : decode b_Mpg_mainFunction 42 = .ok (.goto (-38), 3) := by decide +kernel
theorem d_Mpg_mainFunction_45 : decode b_Mpg_mainFunction 45 = .ok (.iload_n 1, 1) := by decide +kernel
theorem d_Mpg_mainFunction_46 : decode b_Mpg_mainFunction 46 = .ok (.ireturn, 1) := by decide +kernel
theorem q_Mpg_mainFunction : px_y y_Mpg_mainFunction 0 := by unfold px_y; decide +kernel
set_option maxHeartbeats 4000000 in
set_option maxRecDepth 100000 in
theorem c_mp_mainFunction (l : Launch) (D : va_G) (cs : Nat → ClassId) (sk : Nat) (st : Nat) (sb : Nat → Int32) (h : Nat) (r : Nat → Nat) (g : Nat → Nat → Option Nat) (tf : Nat → Int32) (ta : Nat → Nat → Int32) (pf : Nat → Int32) (na : Nat → Nat → Int32) (ma : Nat → Nat → Int32) (wa : Nat → Nat → Int32) (cf : Nat → Int32) (ca : Nat → Nat → Int32) (ef : Nat → Int32) (ea : Nat → Nat → Int32) (xf : Nat → Int32) (xa : Nat → Nat → Int32)  (g0 : 0 ≤ (cf 38).toInt) (g1 : (tf 6).toInt ≤ 2049) (htk : TkI tf ta) (hft : FnT (tf 6).toInt na ca (cf 38).toInt) : MetI l y_Mpg_mainFunction b_Mpg_mainFunction 3 (.int) D cs 7 260 (0) (0) [.ref h] [wdP cs h r g tf ta pf na ma wa cf ca ef ea xf xa] (oX (fun A U H => (oP A g U H) ∧ ((vk_R "HomeSystemModel$Program" 688 "main" sk U ∧ oS A sk st 4 sb U H))) [wdP cs h r g tf ta pf na ma wa cf ca ef ea xf xa]) (fun v ps => (ps = [wdP cs h r g tf ta pf na ma wa cf ca ef ea xf xa]) ∧ (-1 ≤ v.toInt) ∧ (v.toInt < (cf 38).toInt) ∧ (MfV ta na ca (tf 5).toInt sb (cf 38).toInt v.toInt) ∧ (R_mp_mainFunction sb tf ta na cf ca v)) := by
  refine px_enter (by decide) (Nat.le_of_ble_eq_true rfl) ?_
  intro p e s m below meth c A ls hAe S hr hlk hnm hA hT hX hw hl
  have hl : lv_has ls 3 [(0, .ref h)] := hl
  have cstm1 : ((-1) : Int32).toInt = (-1) := rfl
  have cst0 : (0 : Int32).toInt = 0 := rfl
  have hX : (fun A U H => (oP A g U H) ∧ ((vk_R "HomeSystemModel$Program" 688 "main" sk U ∧ oS A sk st 4 sb U H))) A s s.heap := by rw [hAe]; exact hX
  obtain ⟨hP, hMn⟩ := hX
  have hZ := hP.1
  have hF0 := hP.2.1
  have hf11 := hft.1
  have J4 : ∀ (n_4 : Nat)  (x4_1 x4_2 : Int32) (H : Heap) (locs : List Loc) (ls : Array Slot), (-1 ≤ x4_1.toInt) → (x4_1.toInt < x4_2.toInt) → (0 ≤ x4_2.toInt) → (x4_2.toInt ≤ (cf 38).toInt) → (MfV ta na ca (tf 5).toInt sb x4_2.toInt x4_1.toInt) → (K_mp_mainFunction_4 sb tf ta na cf ca x4_1 x4_2) → (cf 38).toInt - x4_2.toInt < (n_4 : Int) → pw D A s.heap H locs [wdP cs h r g tf ta pf na ma wa cf ca ef ea xf xa] → lv_has ls 3 [(0, .ref h), (1, .int x4_1), (2, .int x4_2)] → W p l e { frames := 7, cells := 0, slots := 0, locals := 260 } s m [.ref h].toArray below meth c H locs 0 0 (MQ below (va_Qi (fun v ps => (ps = [wdP cs h r g tf ta pf na ma wa cf ca ef ea xf xa]) ∧ (-1 ≤ v.toInt) ∧ (v.toInt < (cf 38).toInt) ∧ (MfV ta na ca (tf 5).toInt sb (cf 38).toInt v.toInt) ∧ (R_mp_mainFunction sb tf ta na cf ca v)) (pc_B D (va_A ([wdP cs h r g tf ta pf na ma wa cf ca ef ea xf xa] : List va_W).flatten s.heap.size)) (va_A ([wdP cs h r g tf ta pf na ma wa cf ca ef ea xf xa] : List va_W).flatten s.heap.size)) [.ref h].toArray s 0 0 A) (F0 m 4 ls []) := by
    intro  n_4
    induction n_4 with
    | zero =>
      intro x4_1 x4_2 H locs ls k4_0 k4_1 k4_2 k4_3 k4_4 k4_5 hm hw hl
      have lx4_1 := Int32.le_toInt x4_1
      have ux4_1 := Int32.toInt_lt x4_1
      have lx4_2 := Int32.le_toInt x4_2
      have ux4_2 := Int32.toInt_lt x4_2
      have hmf := k4_4
      exact absurd hm (by omega)
    | succ n_4 ih4 =>
      intro x4_1 x4_2 H locs ls k4_0 k4_1 k4_2 k4_3 k4_4 k4_5 hm hw hl
      have lx4_1 := Int32.le_toInt x4_1
      have ux4_1 := Int32.toInt_lt x4_1
      have lx4_2 := Int32.le_toInt x4_2
      have ux4_2 := Int32.toInt_lt x4_2
      have hmf := k4_4
      refine lv_iload_n S.x S.b d_Mpg_mainFunction_4 rfl (lv_at hl 2 rfl) ?_
      refine lv_aload_n S.x S.b d_Mpg_mainFunction_5 rfl (lv_at hl 0 rfl) ?_
      refine gP_38 (v := (cf 38)) S hT hw 0 rfl rfl m10_27 d_Mpg_mainFunction_6 ?_
      refine lv_icmp_ge (tgt := 45) S.x S.b d_Mpg_mainFunction_9 (by decide) (fun c1 => ?_) (fun c1 => ?_)
      · have nc1 : (cf 38).toInt ≤ x4_2.toInt := (i_le (x := (cf 38)) (y := x4_2)).mp c1
        refine lv_iload_n S.x S.b d_Mpg_mainFunction_45 rfl (lv_at hl 1 rfl) ?_
        first | exact px_iret (v := x4_1) S hr rfl hlk hAe hw (Nat.le_of_ble_eq_true rfl) (Nat.le_of_ble_eq_true rfl) (⟨rfl, (show -1 ≤ x4_1.toInt from k4_0), (show x4_1.toInt < (cf 38).toInt from (oz_735c831122 k4_1 k4_3)), (show MfV ta na ca (tf 5).toInt sb (cf 38).toInt x4_1.toInt from (show MfV ta na ca (tf 5).toInt sb (cf 38).toInt _ from (by rw [show (cf 38).toInt = x4_2.toInt by omega]; exact hmf))), (show R_mp_mainFunction sb tf ta na cf ca x4_1 from (k4_5 _ 1 (Or.inr (Or.inl ⟨rfl, x4_1, x4_2, rfl, rfl, rfl, rfl, rfl, Or.inl ⟨nc1, rfl⟩⟩))))⟩) d_Mpg_mainFunction_46 | (exact px_iret (v := x4_1) S hr rfl hlk hAe hw (Nat.le_of_ble_eq_true rfl) (Nat.le_of_ble_eq_true rfl) (⟨rfl, (show -1 ≤ x4_1.toInt from by first | exact k4_0 | omega), (show x4_1.toInt < (cf 38).toInt from by first | exact oz_735c831122 k4_1 k4_3 | omega), (show MfV ta na ca (tf 5).toInt sb (cf 38).toInt x4_1.toInt from (show MfV ta na ca (tf 5).toInt sb (cf 38).toInt _ from (by rw [show (cf 38).toInt = x4_2.toInt by omega]; exact hmf))), (show R_mp_mainFunction sb tf ta na cf ca x4_1 from (k4_5 _ 1 (Or.inr (Or.inl ⟨rfl, x4_1, x4_2, rfl, rfl, rfl, rfl, rfl, Or.inl ⟨nc1, rfl⟩⟩))))⟩) d_Mpg_mainFunction_46)
      · have nc1 : ¬ (cf 38).toInt ≤ x4_2.toInt := mt (i_le (x := (cf 38)) (y := x4_2)).mpr c1
        refine lv_aload_n S.x S.b d_Mpg_mainFunction_12 rfl (lv_at hl 0 rfl) ?_
        refine lv_aload_n S.x S.b d_Mpg_mainFunction_13 rfl (lv_at hl 0 rfl) ?_
        refine gP_15 S hT hw 0 rfl m9_239 d_Mpg_mainFunction_14 ?_
        refine lv_aload_n S.x S.b d_Mpg_mainFunction_17 rfl (lv_at hl 0 rfl) ?_
        refine gP_39 S hT hw 0 rfl m10_28 d_Mpg_mainFunction_18 ?_
        refine lv_iload_n S.x S.b d_Mpg_mainFunction_21 rfl (lv_at hl 2 rfl) ?_
        refine px_iald S hT hw 0 26 (n := 260) (f := (ca 39)) rfl gp_39 (x := x4_2) (vp_in_iff.mpr (by first | exact oz_873c269565 k4_2 nc1 hf11 | (constructor <;> omega))) d_Mpg_mainFunction_22 ?_
        refine lv_topi (fun z3 ez3 => ?_)
        have lz3 := Int32.le_toInt z3
        have uz3 := Int32.toInt_lt z3
        have rz3 := FnT.at hft (x := x4_2) (by omega) (by omega) ez3
        refine px_iald S hT hw 0 11 (n := 2100) (f := (na 15)) rfl gp_15 (x := z3) (vp_in_iff.mpr (by constructor <;> omega)) d_Mpg_mainFunction_23 ?_
        refine lv_topi (fun z4 ez4 => ?_)
        have lz4 := Int32.le_toInt z4
        have uz4 := Int32.toInt_lt z4
        have hqz4 := rz3.2; rw [← ez4] at hqz4
        refine px_ldcwS S.x S.b S.own hMn.1 d_Mpg_mainFunction_24 ?_
        first | refine px_calli (pr := []) (px_runV (As := [.int z4, .ref sk]) (rest := []) S (c_mp_isNamedM l D cs sk st sb h r g tf ta pf na ma wa cf ca ef ea xf xa z4  (show 0 ≤ z4.toInt from by omega) (show z4.toInt < (tf 6).toInt from by omega) (show (tf 6).toInt ≤ 2049 from g1) htk _) hT (pr := []) (pcs := [wdP cs h r g tf ta pf na ma wa cf ca ef ea xf xa]) hw (oX_call (P := (fun A U H => (oP A g U H) ∧ ((vk_R "HomeSystemModel$Program" 688 "main" sk U ∧ oS A sk st 4 sb U H)))) (pr := []) (oG_and oG_P (oG_and oG_L oG_S)) hw hA ⟨hP, hMn⟩) (px_recv hT hw 0 0 rfl rfl rfl) m12_161 m12_158 m12_160 ms_11_9 m1_21 q_Mpg_isNamed ⟨Nat.le_of_ble_eq_true rfl, Nat.le_of_ble_eq_true rfl⟩ hl.1 rfl (Nat.le_of_ble_eq_true rfl) d_Mpg_mainFunction_27 ⟨Nat.le_of_ble_eq_true rfl, Nat.le_of_ble_eq_true rfl⟩) hw hA (fun v6 p5 H locs hp5 hw => ?_) | (refine px_calli (pr := []) (px_runV (As := [.int z4, .ref sk]) (rest := []) S (c_mp_isNamedM l D cs sk st sb h r g tf ta pf na ma wa cf ca ef ea xf xa z4  (show 0 ≤ z4.toInt from by omega) (show z4.toInt < (tf 6).toInt from by omega) (show (tf 6).toInt ≤ 2049 from by first | exact g1 | omega) htk _) hT (pr := []) (pcs := [wdP cs h r g tf ta pf na ma wa cf ca ef ea xf xa]) hw (oX_call (P := (fun A U H => (oP A g U H) ∧ ((vk_R "HomeSystemModel$Program" 688 "main" sk U ∧ oS A sk st 4 sb U H)))) (pr := []) (oG_and oG_P (oG_and oG_L oG_S)) hw hA ⟨hP, hMn⟩) (px_recv hT hw 0 0 rfl rfl rfl) m12_161 m12_158 m12_160 ms_11_9 m1_21 q_Mpg_isNamed ⟨Nat.le_of_ble_eq_true rfl, Nat.le_of_ble_eq_true rfl⟩ hl.1 rfl (Nat.le_of_ble_eq_true rfl) d_Mpg_mainFunction_27 ⟨Nat.le_of_ble_eq_true rfl, Nat.le_of_ble_eq_true rfl⟩) hw hA (fun v6 p5 H locs hp5 hw => ?_))
        obtain ⟨rfl, e7, e8, e9⟩ := hp5
        have e7 := z_rng e7
        have e8 : MnV ta (tf 5).toInt sb z4 v6.toInt := e8
        have hmn := e8
        have e9 : R_mp_isNamedM sb tf ta z4 v6 := e9
        have lv6 := Int32.le_toInt v6
        have uv6 := Int32.toInt_lt v6
        refine lv_if_eq (tgt := 37) S.x S.b d_Mpg_mainFunction_30 (by decide) (fun c10 => ?_) (fun c10 => ?_)
        · have nc10 : v6.toInt = (0 : Int) := (i_eq (x := v6) (y := 0)).mp c10
          refine lv_iload_n S.x S.b d_Mpg_mainFunction_37 rfl (lv_at hl 1 rfl) ?_
          refine lv_istore_n (lv' := [(1, .int x4_1), (0, .ref h), (2, .int x4_2)]) S.x S.b d_Mpg_mainFunction_38 rfl hl (by decide) rfl (fun ls hl => ?_)
          obtain ⟨z12, ez12⟩ : ∃ y : Int32, y = x4_2 + 1 := ⟨_, rfl⟩
          have tz12 : z12.toInt = (x4_2.toInt + 1 + 2147483648) % 4294967296 - 2147483648 := by rw [ez12]; exact i_add x4_2 1
          have lz12 := Int32.le_toInt z12
          have uz12 := Int32.toInt_lt z12
          try replace tz12 : z12.toInt = x4_2.toInt + 1 := by omega
          refine lv_iinc (v := z12) (lv' := [(2, .int z12), (1, .int x4_1), (0, .ref h)]) S.x S.b d_Mpg_mainFunction_39 hl (k := 2) rfl (by rw [ez12]; rfl) (by decide) rfl (fun ls hl => ?_)
          refine lv_goto (tgt := 4) S.x S.b d_Mpg_mainFunction_42 (by decide) ?_
          first | exact ih4 x4_1 z12 _ _ ls (show -1 ≤ x4_1.toInt from k4_0) (show x4_1.toInt < z12.toInt from (oz_70333772d8 k4_1 tz12)) (show 0 ≤ z12.toInt from (oz_ae613611c0 tz12 k4_2)) (show z12.toInt ≤ (cf 38).toInt from (oz_b1314744c8 nc1 tz12)) (show MfV ta na ca (tf 5).toInt sb z12.toInt x4_1.toInt from (mfv_nx hmf ez3 ez4 hmn (by omega) (by omega) (by omega) (fun q9 => by omega) (fun q9 => by omega))) (show K_mp_mainFunction_4 sb tf ta na cf ca x4_1 z12 from (fun y_v k hE => k4_5 y_v (k + 1) (Or.inr (Or.inl ⟨rfl, x4_1, x4_2, rfl, rfl, rfl, rfl, rfl, Or.inr ⟨nc1, z3, ez3, z4, ez4, v6, e9, Or.inl ⟨nc10, z12, ez12, hE⟩⟩⟩)))) (show (cf 38).toInt - z12.toInt < (n_4 : Int) from (oz_654393c63a hm tz12)) hw (lv_sub hl [2, 1, 0] rfl) | (exact ih4 x4_1 z12 _ _ ls (show -1 ≤ x4_1.toInt from by first | exact k4_0 | omega) (show x4_1.toInt < z12.toInt from by first | exact oz_70333772d8 k4_1 tz12 | omega) (show 0 ≤ z12.toInt from by first | exact oz_ae613611c0 tz12 k4_2 | omega) (show z12.toInt ≤ (cf 38).toInt from by first | exact oz_b1314744c8 nc1 tz12 | omega) (show MfV ta na ca (tf 5).toInt sb z12.toInt x4_1.toInt from (mfv_nx hmf ez3 ez4 hmn (by omega) (by omega) (by omega) (fun q9 => by omega) (fun q9 => by omega))) (show K_mp_mainFunction_4 sb tf ta na cf ca x4_1 z12 from (fun y_v k hE => k4_5 y_v (k + 1) (Or.inr (Or.inl ⟨rfl, x4_1, x4_2, rfl, rfl, rfl, rfl, rfl, Or.inr ⟨nc1, z3, ez3, z4, ez4, v6, e9, Or.inl ⟨nc10, z12, ez12, hE⟩⟩⟩)))) (show (cf 38).toInt - z12.toInt < (n_4 : Int) from by first | exact oz_654393c63a hm tz12 | omega) hw (lv_sub hl [2, 1, 0] rfl))
        · have nc10 : ¬ v6.toInt = (0 : Int) := mt (i_eq (x := v6) (y := 0)).mpr c10
          refine lv_iload_n S.x S.b d_Mpg_mainFunction_33 rfl (lv_at hl 2 rfl) ?_
          refine lv_goto (tgt := 38) S.x S.b d_Mpg_mainFunction_34 (by decide) ?_
          refine lv_istore_n (lv' := [(1, .int x4_2), (0, .ref h), (2, .int x4_2)]) S.x S.b d_Mpg_mainFunction_38 rfl hl (by decide) rfl (fun ls hl => ?_)
          obtain ⟨z13, ez13⟩ : ∃ y : Int32, y = x4_2 + 1 := ⟨_, rfl⟩
          have tz13 : z13.toInt = (x4_2.toInt + 1 + 2147483648) % 4294967296 - 2147483648 := by rw [ez13]; exact i_add x4_2 1
          have lz13 := Int32.le_toInt z13
          have uz13 := Int32.toInt_lt z13
          try replace tz13 : z13.toInt = x4_2.toInt + 1 := by omega
          refine lv_iinc (v := z13) (lv' := [(2, .int z13), (1, .int x4_2), (0, .ref h)]) S.x S.b d_Mpg_mainFunction_39 hl (k := 2) rfl (by rw [ez13]; rfl) (by decide) rfl (fun ls hl => ?_)
          refine lv_goto (tgt := 4) S.x S.b d_Mpg_mainFunction_42 (by decide) ?_
          first | exact ih4 x4_2 z13 _ _ ls (show -1 ≤ x4_2.toInt from (oz_bd82420902 k4_2)) (show x4_2.toInt < z13.toInt from (oz_e650421971 tz13)) (show 0 ≤ z13.toInt from (oz_ae613611c0 tz13 k4_2)) (show z13.toInt ≤ (cf 38).toInt from (oz_b1314744c8 nc1 tz13)) (show MfV ta na ca (tf 5).toInt sb z13.toInt x4_2.toInt from (mfv_nx hmf ez3 ez4 hmn (by omega) (by omega) (by omega) (fun q9 => by omega) (fun q9 => by omega))) (show K_mp_mainFunction_4 sb tf ta na cf ca x4_2 z13 from (fun y_v k hE => k4_5 y_v (k + 1) (Or.inr (Or.inl ⟨rfl, x4_1, x4_2, rfl, rfl, rfl, rfl, rfl, Or.inr ⟨nc1, z3, ez3, z4, ez4, v6, e9, Or.inr ⟨nc10, z13, ez13, hE⟩⟩⟩)))) (show (cf 38).toInt - z13.toInt < (n_4 : Int) from (oz_654393c63a hm tz13)) hw (lv_sub hl [2, 1, 0] rfl) | (exact ih4 x4_2 z13 _ _ ls (show -1 ≤ x4_2.toInt from by first | exact oz_bd82420902 k4_2 | omega) (show x4_2.toInt < z13.toInt from by first | exact oz_e650421971 tz13 | omega) (show 0 ≤ z13.toInt from by first | exact oz_ae613611c0 tz13 k4_2 | omega) (show z13.toInt ≤ (cf 38).toInt from by first | exact oz_b1314744c8 nc1 tz13 | omega) (show MfV ta na ca (tf 5).toInt sb z13.toInt x4_2.toInt from (mfv_nx hmf ez3 ez4 hmn (by omega) (by omega) (by omega) (fun q9 => by omega) (fun q9 => by omega))) (show K_mp_mainFunction_4 sb tf ta na cf ca x4_2 z13 from (fun y_v k hE => k4_5 y_v (k + 1) (Or.inr (Or.inl ⟨rfl, x4_1, x4_2, rfl, rfl, rfl, rfl, rfl, Or.inr ⟨nc1, z3, ez3, z4, ez4, v6, e9, Or.inr ⟨nc10, z13, ez13, hE⟩⟩⟩)))) (show (cf 38).toInt - z13.toInt < (n_4 : Int) from by first | exact oz_654393c63a hm tz13 | omega) hw (lv_sub hl [2, 1, 0] rfl))
  refine lv_iconst (v := (-1)) S.x S.b d_Mpg_mainFunction_0 (by decide) ?_
  refine lv_istore_n (lv' := [(1, .int (-1)), (0, .ref h)]) S.x S.b d_Mpg_mainFunction_1 rfl hl (by decide) rfl (fun ls hl => ?_)
  refine lv_iconst (v := 0) S.x S.b d_Mpg_mainFunction_2 (by decide) ?_
  refine lv_istore_n (lv' := [(2, .int 0), (1, .int (-1)), (0, .ref h)]) S.x S.b d_Mpg_mainFunction_3 rfl hl (by decide) rfl (fun ls hl => ?_)
  first | exact J4 (((cf 38).toInt - (0 : Int)).toNat + 1) (-1) (0 : Int32) _ _ ls (show -1 ≤ (-1 : Int) from oz_268d846349) (show (-1 : Int) < (0 : Int) from oz_f8a0b1a796) (show 0 ≤ (0 : Int) from oz_5a341f00aa) (show (0 : Int) ≤ (cf 38).toInt from (oz_50c21e157e g0)) (show MfV ta na ca (tf 5).toInt sb (0 : Int) (-1 : Int) from mfv_0) (show K_mp_mainFunction_4 sb tf ta na cf ca (-1) 0 from (fun y_v k hE => Exists.intro (k + 1) (Or.inl ⟨rfl, hE⟩))) (show (cf 38).toInt - (0 : Int) < (((((cf 38).toInt - (0 : Int)).toNat + 1 : Nat) : Int) : Int) from oz_natlt) hw (lv_sub hl [2, 1, 0] rfl) | (exact J4 (((cf 38).toInt - (0 : Int)).toNat + 1) (-1) (0 : Int32) _ _ ls (show -1 ≤ (-1 : Int) from by first | exact oz_268d846349 | omega) (show (-1 : Int) < (0 : Int) from by first | exact oz_f8a0b1a796 | omega) (show 0 ≤ (0 : Int) from by first | exact oz_5a341f00aa | omega) (show (0 : Int) ≤ (cf 38).toInt from by first | exact oz_50c21e157e g0 | omega) (show MfV ta na ca (tf 5).toInt sb (0 : Int) (-1 : Int) from mfv_0) (show K_mp_mainFunction_4 sb tf ta na cf ca (-1) 0 from (fun y_v k hE => Exists.intro (k + 1) (Or.inl ⟨rfl, hE⟩))) (show (cf 38).toInt - (0 : Int) < (((((cf 38).toInt - (0 : Int)).toNat + 1 : Nat) : Int) : Int) from by first | exact oz_natlt | omega) hw (lv_sub hl [2, 1, 0] rfl))
