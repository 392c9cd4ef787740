/-! THE CODE THAT GROWS: what it keeps -/
def Pok (cn : Nat) (z : Int32) (cd : Nat → Int32) : Prop := (0 ≤ z.toInt ∧ z.toInt % 4 = 0 ∧ z.toInt ≤ (cn : Int)) ∧ CodeOk cd
/-- from size z and code cd to size z' and code cd': nothing below z has changed -/
def Prel (cn : Nat) (z : Int32) (cd : Nat → Int32) (z' : Int32) (cd' : Nat → Int32) : Prop := Pok cn z' cd' ∧ z.toInt ≤ z'.toInt ∧ ∀ i : Nat, (i : Int) < z.toInt → cd' i = cd i
theorem Prel.rf {cn : Nat} {z : Int32} {cd : Nat → Int32} (h : Pok cn z cd) : Prel cn z cd z cd := ⟨h, Int.le_refl _, fun _ _ => rfl⟩
theorem Prel.tr {cn : Nat} {z z1 z2 : Int32} {cd cd1 cd2 : Nat → Int32} (h : Prel cn z cd z1 cd1) (k : Prel cn z1 cd1 z2 cd2) : Prel cn z cd z2 cd2 := by
  have h1 := h.2.1
  have h2 := k.2.1
  exact ⟨k.1, by omega, fun i hi => (k.2.2 i (by omega)).trans (h.2.2 i hi)⟩
theorem Prel.nm {cn : Nat} {z z' : Int32} {cd cd' : Nat → Int32} (h : Prel cn z cd z' cd') : 0 ≤ z'.toInt ∧ z'.toInt % 4 = 0 ∧ z'.toInt ≤ (cn : Int) ∧ z.toInt ≤ z'.toInt := ⟨h.1.1.1, h.1.1.2.1, h.1.1.2.2, h.2.1⟩
/-- the code is taken back -/
theorem Prel.back {cn : Nat} {z z' y : Int32} {cd cd' : Nat → Int32} (h : Prel cn z cd z' cd') (h1 : z.toInt ≤ y.toInt) (h2 : y.toInt ≤ z'.toInt) (h3 : y.toInt % 4 = 0) (h0 : 0 ≤ z.toInt) : Prel cn z cd y cd' := by
  have h4 := h.nm
  exact ⟨⟨⟨by omega, h3, by omega⟩, h.1.2⟩, h1, h.2.2⟩
/-- a jump that waits alone for its target (or there is none, or no room was left for it) -/
def Wt (cn : Nat) (cd : Nat → Int32) (z p : Int32) : Prop := p.toInt = -1 ∨ p.toInt = (cn : Int) ∨ (0 ≤ p.toInt ∧ p.toInt % 4 = 0 ∧ p.toInt + 4 ≤ z.toInt ∧ ∀ i : Nat, (i : Int) = p.toInt + 1 → cd i = -1)
theorem Wt.no {cn : Nat} {cd : Nat → Int32} {z p : Int32} (h : p.toInt = -1) : Wt cn cd z p := Or.inl h
theorem Wt.kp {cn : Nat} {z z' p : Int32} {cd cd' : Nat → Int32} (h : Wt cn cd z p) (k : Prel cn z cd z' cd') : Wt cn cd' z' p := by
  have hk := k.2.1
  rcases h with h | h | ⟨h1, h2, h3, h4⟩
  · exact Or.inl h
  · exact Or.inr (Or.inl h)
  · exact Or.inr (Or.inr ⟨h1, h2, by omega, fun i hi => (k.2.2 i (by omega)).trans (h4 i hi)⟩)
/-- the jump at p gets its target -/
def Am (cn : Nat) (p : Int32) (cd cd' : Nat → Int32) : Prop := CodeOk cd' ∧ ∀ i : Nat, ((i : Int) ≠ p.toInt + 1 ∨ p.toInt < 0) → cd' i = cd i
theorem Am.rf {cn : Nat} {p : Int32} {cd : Nat → Int32} (h : CodeOk cd) : Am cn p cd cd := ⟨h, fun _ _ => rfl⟩
theorem Prel.am {cn : Nat} {z z' p : Int32} {cd cd1 cd2 : Nat → Int32} (h : Prel cn z cd z' cd1) (k : Am cn p cd1 cd2) (hp : z.toInt ≤ p.toInt ∨ p.toInt < 0) : Prel cn z cd z' cd2 :=
  ⟨⟨h.1.1, k.1⟩, h.2.1, fun i hi => (k.2 i (by omega)).trans (h.2.2 i hi)⟩
theorem Wt.am {cn : Nat} {z p q : Int32} {cd cd' : Nat → Int32} (h : Wt cn cd z q) (k : Am cn p cd cd') (hp : p.toInt ≠ q.toInt ∨ q.toInt = (cn : Int)) : Wt cn cd' z q := by
  rcases h with h | h | ⟨h1, h2, h3, h4⟩
  · exact Or.inl h
  · exact Or.inr (Or.inl h)
  · rcases hp with hp | hp
    · exact Or.inr (Or.inr ⟨h1, h2, h3, fun i hi => (k.2 i (by omega)).trans (h4 i hi)⟩)
    · exact Or.inr (Or.inl hp)
/-- what an instruction may be -/
def Jop (p0 p1 : Int32) : Prop := (15 ≤ (p0 &&& 255).toInt → (p0 &&& 255).toInt ≤ 20 → Lk p1) ∧ ((p0 &&& 255).toInt = 22 → 0 ≤ p1.toInt ∧ p1.toInt ≤ 1000000)
theorem jop_low {p0 p1 : Int32} (h : (p0 &&& 255).toInt < 15) : Jop p0 p1 := ⟨fun q => absurd q (by omega), fun q => absurd q (by omega)⟩
theorem jop_hi {p0 p1 : Int32} (h : 22 < (p0 &&& 255).toInt) : Jop p0 p1 := ⟨fun _ q => absurd q (by omega), fun q => absurd q (by omega)⟩
theorem jop_21 {p1 : Int32} : Jop 21 p1 := ⟨fun _ q => absurd q (by decide), fun q => absurd q (by decide)⟩
theorem jop_lk {p0 p1 : Int32} (h : (p0 &&& 255).toInt ≤ 20) (h1 : Lk p1) : Jop p0 p1 := ⟨fun _ _ => h1, fun q => absurd q (by omega)⟩
theorem jop_call {p1 : Int32} (h0 : 0 ≤ p1.toInt) (h1 : p1.toInt ≤ 1000000) : Jop 22 p1 := ⟨fun _ q => absurd q (by decide), fun _ => ⟨h0, h1⟩⟩
theorem lk_m1 : Lk (-1) := Or.inl (by decide)
theorem em4_ok {cd : Nat → Int32} (h : CodeOk cd) {z p0 p1 p2 p3 : Int32} (h0 : 0 ≤ z.toInt) (h4 : z.toInt % 4 = 0) (hz : z.toInt ≤ 100000) (hj : Jop p0 p1) : CodeOk (em4 cd z p0 p1 p2 p3) := by
  intro j
  have e0 := cl_nat h0
  have t1 : (z + 1).toInt = z.toInt + 1 := by have := i_add z 1; have c1 : (1 : Int32).toInt = 1 := rfl; omega
  have t2 : (z + 2).toInt = z.toInt + 2 := by have := i_add z 2; have c1 : (2 : Int32).toInt = 2 := rfl; omega
  have t3 : (z + 3).toInt = z.toInt + 3 := by have := i_add z 3; have c1 : (3 : Int32).toInt = 3 := rfl; omega
  have e1 := cl_nat (x := z + 1) (by omega)
  have e2 := cl_nat (x := z + 2) (by omega)
  have e3 := cl_nat (x := z + 3) (by omega)
  unfold em4
  by_cases hz4 : 4 * j = z.toNatClampNeg
  · have a0 : upd (upd (upd (upd cd z.toNatClampNeg p0) (z + 1).toNatClampNeg p1) (z + 2).toNatClampNeg p2) (z + 3).toNatClampNeg p3 (4 * j) = p0 := by
      rw [pk_un (by omega), pk_un (by omega), pk_un (by omega), hz4, pk_us]
    have a1 : upd (upd (upd (upd cd z.toNatClampNeg p0) (z + 1).toNatClampNeg p1) (z + 2).toNatClampNeg p2) (z + 3).toNatClampNeg p3 (4 * j + 1) = p1 := by
      have e : 4 * j + 1 = (z + 1).toNatClampNeg := by omega
      rw [pk_un (by omega), pk_un (by omega), e, pk_us]
    rw [a0, a1]
    exact hj
  · have a0 : upd (upd (upd (upd cd z.toNatClampNeg p0) (z + 1).toNatClampNeg p1) (z + 2).toNatClampNeg p2) (z + 3).toNatClampNeg p3 (4 * j) = cd (4 * j) := by
      rw [pk_un (by omega), pk_un (by omega), pk_un (by omega), pk_un (by omega)]
    have a1 : upd (upd (upd (upd cd z.toNatClampNeg p0) (z + 1).toNatClampNeg p1) (z + 2).toNatClampNeg p2) (z + 3).toNatClampNeg p3 (4 * j + 1) = cd (4 * j + 1) := by
      rw [pk_un (by omega), pk_un (by omega), pk_un (by omega), pk_un (by omega)]
    rw [a0, a1]
    exact h j
theorem em4_rel {cn : Nat} {cd : Nat → Int32} (h : CodeOk cd) {z z' p0 p1 p2 p3 : Int32} (h0 : 0 ≤ z.toInt) (h4 : z.toInt % 4 = 0) (hc : cn ≤ 100000) (hr : z.toInt + 4 ≤ (cn : Int)) (hz : z'.toInt = z.toInt + 4) (hj : Jop p0 p1) : Prel cn z cd z' (em4 cd z p0 p1 p2 p3) := by
  refine ⟨⟨⟨by omega, by omega, by omega⟩, em4_ok h h0 h4 (by omega) hj⟩, by omega, fun i hi => ?_⟩
  have e0 := cl_nat h0
  have t1 : (z + 1).toInt = z.toInt + 1 := by have := i_add z 1; have c1 : (1 : Int32).toInt = 1 := rfl; omega
  have t2 : (z + 2).toInt = z.toInt + 2 := by have := i_add z 2; have c1 : (2 : Int32).toInt = 2 := rfl; omega
  have t3 : (z + 3).toInt = z.toInt + 3 := by have := i_add z 3; have c1 : (3 : Int32).toInt = 3 := rfl; omega
  have e1 := cl_nat (x := z + 1) (by omega)
  have e2 := cl_nat (x := z + 2) (by omega)
  have e3 := cl_nat (x := z + 3) (by omega)
  unfold em4
  rw [pk_un (by omega), pk_un (by omega), pk_un (by omega), pk_un (by omega)]
theorem em4_wt {cn : Nat} {cd : Nat → Int32} {z z' p0 p1 p2 p3 : Int32} (h0 : 0 ≤ z.toInt) (h4 : z.toInt % 4 = 0) (hc : cn ≤ 100000) (hr : z.toInt + 4 ≤ (cn : Int)) (hz : z'.toInt = z.toInt + 4) (hp : p1.toInt = -1) : Wt cn (em4 cd z p0 p1 p2 p3) z' z := by
  refine Or.inr (Or.inr ⟨h0, h4, by omega, fun i hi => ?_⟩)
  have t1 : (z + 1).toInt = z.toInt + 1 := by have := i_add z 1; have c1 : (1 : Int32).toInt = 1 := rfl; omega
  have t2 : (z + 2).toInt = z.toInt + 2 := by have := i_add z 2; have c1 : (2 : Int32).toInt = 2 := rfl; omega
  have t3 : (z + 3).toInt = z.toInt + 3 := by have := i_add z 3; have c1 : (3 : Int32).toInt = 3 := rfl; omega
  have e1 := cl_nat (x := z + 1) (by omega)
  have e2 := cl_nat (x := z + 2) (by omega)
  have e3 := cl_nat (x := z + 3) (by omega)
  have e : i = (z + 1).toNatClampNeg := by omega
  unfold em4
  rw [pk_un (by omega), pk_un (by omega), e, pk_us]
  exact i_eq.mpr hp
theorem am_up {cn : Nat} {cd : Nat → Int32} (h : CodeOk cd) {p x t : Int32} (h0 : 0 ≤ p.toInt) (h4 : p.toInt % 4 = 0) (hx : x.toInt = p.toInt + 1) (ht : 0 ≤ t.toInt ∧ t.toInt % 4 = 0 ∧ t.toInt ≤ 100000) : Am cn p cd (upd cd x.toNatClampNeg t) := by
  have e0 := cl_nat h0
  have e1 := cl_nat (x := x) (by first | exact oz_ae613611c0 hx h0 | omega)
  refine ⟨fun j => ?_, fun i hi => pk_un (by omega)⟩
  rw [pk_un (j := 4 * j) (by omega)]
  by_cases hj : 4 * j + 1 = x.toNatClampNeg
  · rw [hj, pk_us]
    exact ⟨fun _ _ => Or.inr ⟨ht.2.1, ht.2.2⟩, fun _ => ⟨ht.1, by omega⟩⟩
  · rw [pk_un hj]
    exact h j
set_option maxHeartbeats 4000000 in
set_option maxRecDepth 100000 in
theorem c_pe_emit (l : Launch) (D : va_G) (cs : Nat → ClassId) (hp : Nat) (rp : Nat → Nat) (of : Option Nat) (cn : Nat) (fp : Nat → Int32) (cd : Nat → Int32) (p0 p1 p2 p3 : Int32)  (g0 : cn % 4 = 0) (g1 : cn ≤ 100000) (hpk : Pok cn (fp 3) cd) (hj : Jop p0 p1) : MetI l y_Prg_emit b_Prg_emit 6 (.int) D cs 0 0 (0) (0) [.ref hp, .int p0, .int p1, .int p2, .int p3] [wd_Prg cs hp rp (fun k => if k = 2 then of else none) fp (fun _ _ => 0) (fun _ _ => none), [((rp 1), .inl (cs 0, cn, .inl cd))]] (fun _ => True) (fun v ps => ∃ (fp' cd' : Nat → Int32), ps = [wd_Prg cs hp rp (fun k => if k = 2 then of else none) fp' (fun _ _ => 0) (fun _ _ => none), [((rp 1), .inl (cs 0, cn, .inl cd'))]] ∧ v = fp 3 ∧ Prel cn (fp 3) cd (fp' 3) cd' ∧ (p1.toInt = -1 → Wt cn cd' (fp' 3) (fp 3)) ∧ (((fp' 3).toInt = (fp 3).toInt + 4 ∧ (fp 3).toInt + 4 ≤ (cn : Int)) ∨ ((fp' 3).toInt = (fp 3).toInt ∧ (fp 3).toInt = (cn : Int))) ∧ fp' 0 = fp 0 ∧ fp' 4 = fp 4 ∧ fp' 5 = fp 5 ∧ R_pe_emit cn p0 p1 p2 p3 fp cd fp' cd' v) := by
  refine px_enter (by decide) (Nat.le_of_ble_eq_true rfl) ?_
  intro p e s m below meth c A ls hAe S hr hlk hnm hA hT hX hw hl
  have hl : lv_has ls 6 [(0, .ref hp), (1, .int p0), (2, .int p1), (3, .int p2), (4, .int p3)] := hl
  have lp0 := Int32.le_toInt p0
  have up0 := Int32.toInt_lt p0
  have lp1 := Int32.le_toInt p1
  have up1 := Int32.toInt_lt p1
  have lp2 := Int32.le_toInt p2
  have up2 := Int32.toInt_lt p2
  have lp3 := Int32.le_toInt p3
  have up3 := Int32.toInt_lt p3
  have cst1 : (1 : Int32).toInt = 1 := rfl
  have cst2 : (2 : Int32).toInt = 2 := rfl
  have cst3 : (3 : Int32).toInt = 3 := rfl
  have cst4 : (4 : Int32).toInt = 4 := rfl
  have hcn : (nI cn).toInt = (cn : Int) := nI_toInt (by omega)
  have pz := hpk.1
  refine lv_aload_n S.x S.b d_Prg_emit_0 rfl (lv_at hl 0 rfl) ?_
  refine px_get S k_Prg hT hw 0 0 3 (v := .int (fp 3)) rfl rfl rfl (by decide) m2_105 d_Prg_emit_1 ?_
  refine lv_istore (lv' := [(5, .int (fp 3)), (0, .ref hp), (1, .int p0), (2, .int p1), (3, .int p2), (4, .int p3)]) S.x S.b d_Prg_emit_4 hl (by decide) rfl (fun ls hl => ?_)
  refine lv_iload S.x S.b d_Prg_emit_6 (lv_at hl 0 rfl) ?_
  refine lv_if_lt (tgt := 70) S.x S.b d_Prg_emit_8 (by decide) (fun c1 => ?_) (fun c1 => ?_)
  · have nc1 : (fp 3).toInt < (0 : Int) := (i_lt (x := (fp 3)) (y := 0)).mp c1
    refine lv_iload S.x S.b d_Prg_emit_70 (lv_at hl 0 rfl) ?_
    exact px_iret (v := (fp 3)) S hr rfl hlk hAe hw (Nat.le_of_ble_eq_true rfl) (Nat.le_of_ble_eq_true rfl) (⟨fp, cd, rfl, rfl, (show Prel cn (fp 3) cd (fp 3) cd from Prel.rf hpk), (show p1.toInt = -1 → Wt cn cd (fp 3) (fp 3) from (fun _ => Or.inr (Or.inl (by omega)))), (show ((fp 3).toInt = (fp 3).toInt + 4 ∧ (fp 3).toInt + 4 ≤ (cn : Int)) ∨ ((fp 3).toInt = (fp 3).toInt ∧ (fp 3).toInt = (cn : Int)) from Or.inr ⟨by omega, by omega⟩), (show (fp 0) = (fp 0) from rfl), (show (fp 4) = (fp 4) from rfl), (show (fp 5) = (fp 5) from rfl), (Or.inl (Or.inl ⟨nc1, rfl, rfl, rfl⟩))⟩) d_Prg_emit_72
  · have nc1 : ¬ (fp 3).toInt < (0 : Int) := mt (i_lt (x := (fp 3)) (y := 0)).mpr c1
    refine lv_iload S.x S.b d_Prg_emit_11 (lv_at hl 0 rfl) ?_
    refine lv_iconst (v := 4) S.x S.b d_Prg_emit_13 (by decide) ?_
    refine lv_iadd S.x S.b d_Prg_emit_14 ?_
    have lr3 := Int32.le_toInt (fp 3)
    have ur3 := Int32.toInt_lt (fp 3)
    refine lv_topi (fun z4 ez4 => ?_)
    have tz4 : z4.toInt = ((fp 3).toInt + (4 : Int) + 2147483648) % 4294967296 - 2147483648 := by rw [ez4]; exact i_add (fp 3) 4
    have lz4 := Int32.le_toInt z4
    have uz4 := Int32.toInt_lt z4
    try replace tz4 : z4.toInt = (fp 3).toInt + (4 : Int) := by omega
    refine lv_aload_n S.x S.b d_Prg_emit_15 rfl (lv_at hl 1 rfl) ?_
    refine px_get S k_Prg hT hw 0 0 1 (v := .ref (rp 1)) rfl rfl rfl (by decide) m2_99 d_Prg_emit_16 ?_
    refine px_len S hT hw 1 0 0 rfl rfl rfl (v := (nI cn)) rfl d_Prg_emit_19 ?_
    refine lv_icmp_gt (tgt := 70) S.x S.b d_Prg_emit_20 (by decide) (fun c5 => ?_) (fun c5 => ?_)
    · have nc5 : (nI cn).toInt < z4.toInt := (i_lt (x := (nI cn)) (y := z4)).mp c5
      refine lv_iload S.x S.b d_Prg_emit_70 (lv_at hl 0 rfl) ?_
      exact px_iret (v := (fp 3)) S hr rfl hlk hAe hw (Nat.le_of_ble_eq_true rfl) (Nat.le_of_ble_eq_true rfl) (⟨fp, cd, rfl, rfl, (show Prel cn (fp 3) cd (fp 3) cd from Prel.rf hpk), (show p1.toInt = -1 → Wt cn cd (fp 3) (fp 3) from (fun _ => Or.inr (Or.inl (by omega)))), (show ((fp 3).toInt = (fp 3).toInt + 4 ∧ (fp 3).toInt + 4 ≤ (cn : Int)) ∨ ((fp 3).toInt = (fp 3).toInt ∧ (fp 3).toInt = (cn : Int)) from Or.inr ⟨by omega, by omega⟩), (show (fp 0) = (fp 0) from rfl), (show (fp 4) = (fp 4) from rfl), (show (fp 5) = (fp 5) from rfl), (Or.inl (Or.inr ⟨nc1, z4, ez4, Or.inl ⟨nc5, rfl, rfl, rfl⟩⟩))⟩) d_Prg_emit_72
    · have nc5 : ¬ (nI cn).toInt < z4.toInt := mt (i_lt (x := (nI cn)) (y := z4)).mpr c5
      refine lv_aload_n S.x S.b d_Prg_emit_23 rfl (lv_at hl 1 rfl) ?_
      refine px_get S k_Prg hT hw 0 0 1 (v := .ref (rp 1)) rfl rfl rfl (by decide) m2_99 d_Prg_emit_24 ?_
      refine lv_iload S.x S.b d_Prg_emit_27 (lv_at hl 0 rfl) ?_
      refine lv_iload_n S.x S.b d_Prg_emit_29 rfl (lv_at hl 2 rfl) ?_
      refine px_iast S hT hw 1 0 (n := cn) (f := cd) (x := (fp 3)) (y := p0) rfl rfl (vp_in_iff.mpr (by constructor <;> omega)) d_Prg_emit_30 (w' := [((rp 1), .inl (cs 0, cn, .inl (upd cd (fp 3).toNatClampNeg p0)))]) (ps' := [wd_Prg cs hp rp (fun k => if k = 2 then of else none) fp (fun _ _ => 0) (fun _ _ => none), [((rp 1), .inl (cs 0, cn, .inl (upd cd (fp 3).toNatClampNeg p0)))]]) rfl rfl (fun H locs hw => ?_)
      refine lv_aload_n S.x S.b d_Prg_emit_31 rfl (lv_at hl 1 rfl) ?_
      refine px_get S k_Prg hT hw 0 0 1 (v := .ref (rp 1)) rfl rfl rfl (by decide) m2_99 d_Prg_emit_32 ?_
      refine lv_iload S.x S.b d_Prg_emit_35 (lv_at hl 0 rfl) ?_
      refine lv_iconst (v := 1) S.x S.b d_Prg_emit_37 (by decide) ?_
      refine lv_iadd S.x S.b d_Prg_emit_38 ?_
      have lr7 := Int32.le_toInt (fp 3)
      have ur7 := Int32.toInt_lt (fp 3)
      refine lv_topi (fun z8 ez8 => ?_)
      have tz8 : z8.toInt = ((fp 3).toInt + (1 : Int) + 2147483648) % 4294967296 - 2147483648 := by rw [ez8]; exact i_add (fp 3) 1
      have lz8 := Int32.le_toInt z8
      have uz8 := Int32.toInt_lt z8
      try replace tz8 : z8.toInt = (fp 3).toInt + (1 : Int) := by omega
      refine lv_iload_n S.x S.b d_Prg_emit_39 rfl (lv_at hl 3 rfl) ?_
      refine px_iast S hT hw 1 0 (n := cn) (f := (upd cd (fp 3).toNatClampNeg p0)) (x := z8) (y := p1) rfl rfl (vp_in_iff.mpr (by constructor <;> omega)) d_Prg_emit_40 (w' := [((rp 1), .inl (cs 0, cn, .inl (upd (upd cd (fp 3).toNatClampNeg p0) z8.toNatClampNeg p1)))]) (ps' := [wd_Prg cs hp rp (fun k => if k = 2 then of else none) fp (fun _ _ => 0) (fun _ _ => none), [((rp 1), .inl (cs 0, cn, .inl (upd (upd cd (fp 3).toNatClampNeg p0) z8.toNatClampNeg p1)))]]) rfl rfl (fun H locs hw => ?_)
      refine lv_aload_n S.x S.b d_Prg_emit_41 rfl (lv_at hl 1 rfl) ?_
      refine px_get S k_Prg hT hw 0 0 1 (v := .ref (rp 1)) rfl rfl rfl (by decide) m2_99 d_Prg_emit_42 ?_
      refine lv_iload S.x S.b d_Prg_emit_45 (lv_at hl 0 rfl) ?_
      refine lv_iconst (v := 2) S.x S.b d_Prg_emit_47 (by decide) ?_
      refine lv_iadd S.x S.b d_Prg_emit_48 ?_
      have lr9 := Int32.le_toInt (fp 3)
      have ur9 := Int32.toInt_lt (fp 3)
      refine lv_topi (fun z10 ez10 => ?_)
      have tz10 : z10.toInt = ((fp 3).toInt + (2 : Int) + 2147483648) % 4294967296 - 2147483648 := by rw [ez10]; exact i_add (fp 3) 2
      have lz10 := Int32.le_toInt z10
      have uz10 := Int32.toInt_lt z10
      try replace tz10 : z10.toInt = (fp 3).toInt + (2 : Int) := by omega
      refine lv_iload_n S.x S.b d_Prg_emit_49 rfl (lv_at hl 4 rfl) ?_
      refine px_iast S hT hw 1 0 (n := cn) (f := (upd (upd cd (fp 3).toNatClampNeg p0) z8.toNatClampNeg p1)) (x := z10) (y := p2) rfl rfl (vp_in_iff.mpr (by constructor <;> omega)) d_Prg_emit_50 (w' := [((rp 1), .inl (cs 0, cn, .inl (upd (upd (upd cd (fp 3).toNatClampNeg p0) z8.toNatClampNeg p1) z10.toNatClampNeg p2)))]) (ps' := [wd_Prg cs hp rp (fun k => if k = 2 then of else none) fp (fun _ _ => 0) (fun _ _ => none), [((rp 1), .inl (cs 0, cn, .inl (upd (upd (upd cd (fp 3).toNatClampNeg p0) z8.toNatClampNeg p1) z10.toNatClampNeg p2)))]]) rfl rfl (fun H locs hw => ?_)
      refine lv_aload_n S.x S.b d_Prg_emit_51 rfl (lv_at hl 1 rfl) ?_
      refine px_get S k_Prg hT hw 0 0 1 (v := .ref (rp 1)) rfl rfl rfl (by decide) m2_99 d_Prg_emit_52 ?_
      refine lv_iload S.x S.b d_Prg_emit_55 (lv_at hl 0 rfl) ?_
      refine lv_iconst (v := 3) S.x S.b d_Prg_emit_57 (by decide) ?_
      refine lv_iadd S.x S.b d_Prg_emit_58 ?_
      have lr11 := Int32.le_toInt (fp 3)
      have ur11 := Int32.toInt_lt (fp 3)
      refine lv_topi (fun z12 ez12 => ?_)
      have tz12 : z12.toInt = ((fp 3).toInt + (3 : Int) + 2147483648) % 4294967296 - 2147483648 := by rw [ez12]; exact i_add (fp 3) 3
      have lz12 := Int32.le_toInt z12
      have uz12 := Int32.toInt_lt z12
      try replace tz12 : z12.toInt = (fp 3).toInt + (3 : Int) := by omega
      refine lv_iload S.x S.b d_Prg_emit_59 (lv_at hl 5 rfl) ?_
      refine px_iast S hT hw 1 0 (n := cn) (f := (upd (upd (upd cd (fp 3).toNatClampNeg p0) z8.toNatClampNeg p1) z10.toNatClampNeg p2)) (x := z12) (y := p3) rfl rfl (vp_in_iff.mpr (by constructor <;> omega)) d_Prg_emit_61 (w' := [((rp 1), .inl (cs 0, cn, .inl (upd (upd (upd (upd cd (fp 3).toNatClampNeg p0) z8.toNatClampNeg p1) z10.toNatClampNeg p2) z12.toNatClampNeg p3)))]) (ps' := [wd_Prg cs hp rp (fun k => if k = 2 then of else none) fp (fun _ _ => 0) (fun _ _ => none), [((rp 1), .inl (cs 0, cn, .inl (upd (upd (upd (upd cd (fp 3).toNatClampNeg p0) z8.toNatClampNeg p1) z10.toNatClampNeg p2) z12.toNatClampNeg p3)))]]) rfl rfl (fun H locs hw => ?_)
      refine lv_aload_n S.x S.b d_Prg_emit_62 rfl (lv_at hl 1 rfl) ?_
      refine lv_iload S.x S.b d_Prg_emit_63 (lv_at hl 0 rfl) ?_
      refine lv_iconst (v := 4) S.x S.b d_Prg_emit_65 (by decide) ?_
      refine lv_iadd S.x S.b d_Prg_emit_66 ?_
      have lr13 := Int32.le_toInt (fp 3)
      have ur13 := Int32.toInt_lt (fp 3)
      refine lv_topi (fun z14 ez14 => ?_)
      have tz14 : z14.toInt = ((fp 3).toInt + (4 : Int) + 2147483648) % 4294967296 - 2147483648 := by rw [ez14]; exact i_add (fp 3) 4
      have lz14 := Int32.le_toInt z14
      have uz14 := Int32.toInt_lt z14
      try replace tz14 : z14.toInt = (fp 3).toInt + (4 : Int) := by omega
      refine px_put S k_Prg hT hw 0 0 3 rfl rfl (by decide) m2_105 rfl rfl rfl (Nat.le_of_ble_eq_true rfl) d_Prg_emit_67 (w' := wd_Prg cs hp rp (fun k => if k = 2 then of else none) (upd fp 3 z14) (fun _ _ => 0) (fun _ _ => none)) (ps' := [wd_Prg cs hp rp (fun k => if k = 2 then of else none) (upd fp 3 z14) (fun _ _ => 0) (fun _ _ => none), [((rp 1), .inl (cs 0, cn, .inl (upd (upd (upd (upd cd (fp 3).toNatClampNeg p0) z8.toNatClampNeg p1) z10.toNatClampNeg p2) z12.toNatClampNeg p3)))]]) rfl rfl (fun H locs hw => ?_)
      refine lv_iload S.x S.b d_Prg_emit_70 (lv_at hl 0 rfl) ?_
      exact px_iret (v := (fp 3)) S hr rfl hlk hAe hw (Nat.le_of_ble_eq_true rfl) (Nat.le_of_ble_eq_true rfl) (⟨(upd fp 3 z14), (upd (upd (upd (upd cd (fp 3).toNatClampNeg p0) z8.toNatClampNeg p1) z10.toNatClampNeg p2) z12.toNatClampNeg p3), rfl, rfl, (show Prel cn (fp 3) cd z14 (upd (upd (upd (upd cd (fp 3).toNatClampNeg p0) z8.toNatClampNeg p1) z10.toNatClampNeg p2) z12.toNatClampNeg p3) from (by have hq : (upd (upd (upd (upd cd (fp 3).toNatClampNeg p0) z8.toNatClampNeg p1) z10.toNatClampNeg p2) z12.toNatClampNeg p3) = em4 cd (fp 3) p0 p1 p2 p3 := (by unfold em4; rw [ez8, ez10, ez12]); rw [hq]; exact em4_rel hpk.2 (by omega) (by omega) (by omega) (by omega) (by omega) hj)), (show p1.toInt = -1 → Wt cn (upd (upd (upd (upd cd (fp 3).toNatClampNeg p0) z8.toNatClampNeg p1) z10.toNatClampNeg p2) z12.toNatClampNeg p3) z14 (fp 3) from (fun hp1 => (by have hq : (upd (upd (upd (upd cd (fp 3).toNatClampNeg p0) z8.toNatClampNeg p1) z10.toNatClampNeg p2) z12.toNatClampNeg p3) = em4 cd (fp 3) p0 p1 p2 p3 := (by unfold em4; rw [ez8, ez10, ez12]); rw [hq]; exact em4_wt (by omega) (by omega) (by omega) (by omega) (by omega) hp1))), (show (z14.toInt = (fp 3).toInt + 4 ∧ (fp 3).toInt + 4 ≤ (cn : Int)) ∨ (z14.toInt = (fp 3).toInt ∧ (fp 3).toInt = (cn : Int)) from Or.inl ⟨by omega, by omega⟩), (show (fp 0) = (fp 0) from rfl), (show (fp 4) = (fp 4) from rfl), (show (fp 5) = (fp 5) from rfl), (Or.inl (Or.inr ⟨nc1, z4, ez4, Or.inr ⟨nc5, z8, ez8, z10, ez10, z12, ez12, z14, ez14, rfl, rfl, rfl⟩⟩))⟩) d_Prg_emit_72
abbrev b_Prg_aim : ByteArray := prog_7_method_3_code
def y_Prg_aim : MethodName := ⟨"HomeSystem$Program", "aim", "(II)V"⟩
theorem d_Prg_aim_0 : decode b_Prg_aim 0 = .ok (.iload_n 1, 1) := by decide +kernel
theorem d_Prg_aim_1 : decode b_Prg_aim 1 = .ok (.istore_n 3, 1) := by decide +kernel
theorem d_Prg_aim_2 : decode b_Prg_aim 2 = .ok (.iconst 0, 1) := by decide +kernel
theorem d_Prg_aim_3 : decode b_Prg_aim 3 = .ok (.istore 4, 2) := by decide +kernel
theorem d_Prg_aim_5 : decode b_Prg_aim 5 = .ok (.iload 4, 2) := by decide +kernel
theorem d_Prg_aim_7 : decode b_Prg_aim 7 = .ok (.sipush 2048, 3) := by decide +kernel
theorem d_Prg_aim_10 : decode b_Prg_aim 10 = .ok (.if_icmp .ge 46, 3) := by decide +kernel
theorem d_Prg_aim_13 : decode b_Prg_aim 13 = .ok (.iload_n 3, 1) := by decide +kernel
theorem d_Prg_aim_14 : decode b_Prg_aim 14 = .ok (.ifCond .lt 42, 3) := by decide +kernel
theorem d_Prg_aim_17 : decode b_Prg_aim 17 = .ok (.iload_n 3, 1) := by decide +kernel
theorem d_Prg_aim_18 : decode b_Prg_aim 18 = .ok (.iconst 1, 1) := by decide +kernel
theorem d_Prg_aim_19 : decode b_Prg_aim 19 = .ok (.iadd, 1) := by decide +kernel
theorem d_Prg_aim_20 : decode b_Prg_aim 20 = .ok (.aload_n 0, 1) := by decide +kernel
theorem d_Prg_aim_21 : decode b_Prg_aim 21 = .ok (.getfield 9, 3) := by decide +kernel
theorem d_Prg_aim_24 : decode b_Prg_aim 24 = .ok (.arraylength, 1) := by decide +kernel
theorem d_Prg_aim_25 : decode b_Prg_aim 25 = .ok (.if_icmp .ge 31, 3) := by decide +kernel
theorem d_Prg_aim_28 : decode b_Prg_aim 28 = .ok (.aload_n 0, 1) := by decide +kernel
theorem d_Prg_aim_29 : decode b_Prg_aim 29 = .ok (.getfield 9, 3) := by decide +kernel
theorem d_Prg_aim_32 : decode b_Prg_aim 32 = .ok (.iload_n 3, 1) := by decide +kernel
theorem d_Prg_aim_33 : decode b_Prg_aim 33 = .ok (.iconst 1, 1) := by decide +kernel
theorem d_Prg_aim_34 : decode b_Prg_aim 34 = .ok (.iadd, 1) := by decide +kernel
theorem d_Prg_aim_35 : decode b_Prg_aim 35 = .ok (.iaload, 1) := by decide +kernel
theorem d_Prg_aim_36 : decode b_Prg_aim 36 = .ok (.istore 5, 2) := by decide +kernel
theorem d_Prg_aim_38 : decode b_Prg_aim 38 = .ok (.aload_n 0, 1) := by decide +kernel
theorem d_Prg_aim_39 : decode b_Prg_aim 39 = .ok (.getfield 9, 3) := by decide +kernel
theorem d_Prg_aim_42 : decode b_Prg_aim 42 = .ok (.iload_n 3, 1) := by decide +kernel
theorem d_Prg_aim_43 : decode b_Prg_aim 43 = .ok (.iconst 1, 1) := by decide +kernel
theorem d_Prg_aim_44 : decode b_Prg_aim 44 = .ok (.iadd, 1) := by decide +kernel
theorem d_Prg_aim_45 : decode b_Prg_aim 45 = .ok (.iload_n 2, 1) := by decide +kernel
theorem d_Prg_aim_46 : decode b_Prg_aim 46 = .ok (.iastore, 1) := by decide +kernel
theorem d_Prg_aim_47 : decode b_Prg_aim 47 = .ok (.iload 5, 2) := by decide +kernel
theorem d_Prg_aim_49 : decode b_Prg_aim 49 = .ok (.istore_n 3, 1) := by decide +kernel
theorem d_Prg_aim_50 : decode b_Prg_aim 50 = .ok (.iinc 4 1, 3) := by decide +kernel
theorem d_Prg_aim_53 : decode b_Prg_aim 53 = .ok (.goto (-48), 3) := by decide +kernel
theorem d_Prg_aim_56 : decode b_Prg_aim 56 = .ok (.return_, 1) := by decide +kernel
theorem q_Prg_aim : px_y y_Prg_aim 2 := by unfold px_y; decide +kernel
set_option maxHeartbeats 4000000 in
set_option maxRecDepth 100000 in
theorem c_pe_aim (l : Launch) (D : va_G) (cs : Nat → ClassId) (hp : Nat) (rp : Nat → Nat) (of : Option Nat) (cn : Nat) (fp : Nat → Int32) (cd : Nat → Int32) (p0 p1 : Int32)  (g0 : cn % 4 = 0) (g1 : cn ≤ 100000) (g2 : 0 ≤ p1.toInt) (g3 : p1.toInt % 4 = 0) (g4 : p1.toInt ≤ 100000) (hpk : Pok cn (fp 3) cd) (hwt : Wt cn cd (fp 3) p0) : MetV l y_Prg_aim b_Prg_aim 6 D cs 0 0 (0) (0) [.ref hp, .int p0, .int p1] [wd_Prg cs hp rp (fun k => if k = 2 then of else none) fp (fun _ _ => 0) (fun _ _ => none), [((rp 1), .inl (cs 0, cn, .inl cd))]] (fun _ => True) (fun ps => ∃ (cd' : Nat → Int32), ps = [wd_Prg cs hp rp (fun k => if k = 2 then of else none) fp (fun _ _ => 0) (fun _ _ => none), [((rp 1), .inl (cs 0, cn, .inl cd'))]] ∧ Am cn p0 cd cd' ∧ R_pe_aim cn p0 p1 cd cd') := by
  refine px_enter (by decide) (Nat.le_of_ble_eq_true rfl) ?_
  intro p e s m below meth c A ls hAe S hr hlk hnm hA hT hX hw hl
  have hl : lv_has ls 6 [(0, .ref hp), (1, .int p0), (2, .int p1)] := hl
  have lp0 := Int32.le_toInt p0
  have up0 := Int32.toInt_lt p0
  have lp1 := Int32.le_toInt p1
  have up1 := Int32.toInt_lt p1
  have cst0 : (0 : Int32).toInt = 0 := rfl
  have cst1 : (1 : Int32).toInt = 1 := rfl
  have cst2048 : (2048 : Int32).toInt = 2048 := rfl
  have hcn : (nI cn).toInt = (cn : Int) := nI_toInt (by omega)
  have pz := hpk.1
  have hwn : -1 ≤ p0.toInt ∧ p0.toInt ≤ (cn : Int) := by rcases hwt with h | h | h <;> omega
  have J5 : ∀ (cd_5 : Nat → Int32) (x5_3 x5_4 : Int32) (H : Heap) (locs : List Loc) (ls : Array Slot), (x5_3.toInt = -1) → (Am cn p0 cd cd_5) → (K_pe_aim_5 cn p0 p1 cd cd_5 x5_3 x5_4) → pw D A s.heap H locs [wd_Prg cs hp rp (fun k => if k = 2 then of else none) fp (fun _ _ => 0) (fun _ _ => none), [((rp 1), .inl (cs 0, cn, .inl cd_5))]] → lv_has ls 6 [(0, .ref hp), (1, .int p0), (2, .int p1), (3, .int x5_3), (4, .int x5_4)] → W p l e { frames := 0, cells := 0, slots := 0, locals := 0 } s m [.ref hp, .int p0, .int p1].toArray below meth c H locs 0 0 (MQ below (va_Qv (fun ps => ∃ (cd' : Nat → Int32), ps = [wd_Prg cs hp rp (fun k => if k = 2 then of else none) fp (fun _ _ => 0) (fun _ _ => none), [((rp 1), .inl (cs 0, cn, .inl cd'))]] ∧ Am cn p0 cd cd' ∧ R_pe_aim cn p0 p1 cd cd') (pc_B D (va_A ([wd_Prg cs hp rp (fun k => if k = 2 then of else none) fp (fun _ _ => 0) (fun _ _ => none), [((rp 1), .inl (cs 0, cn, .inl cd))]] : List va_W).flatten s.heap.size)) (va_A ([wd_Prg cs hp rp (fun k => if k = 2 then of else none) fp (fun _ _ => 0) (fun _ _ => none), [((rp 1), .inl (cs 0, cn, .inl cd))]] : List va_W).flatten s.heap.size)) [.ref hp, .int p0, .int p1].toArray s 0 0 A) (F0 m 5 ls []) := by
    intro cd_5 x5_3 x5_4 H locs ls k5_0 k5_1 k5_2 hw hl
    have lx5_3 := Int32.le_toInt x5_3
    have ux5_3 := Int32.toInt_lt x5_3
    have lx5_4 := Int32.le_toInt x5_4
    have ux5_4 := Int32.toInt_lt x5_4
    refine lv_iload S.x S.b d_Prg_aim_5 (lv_at hl 4 rfl) ?_
    refine lv_sipush (v := 2048) S.x S.b d_Prg_aim_7 (by decide) ?_
    refine lv_icmp_ge (tgt := 56) S.x S.b d_Prg_aim_10 (by decide) (fun c1 => ?_) (fun c1 => ?_)
    · have nc1 : (2048 : Int) ≤ x5_4.toInt := (i_le (x := 2048) (y := x5_4)).mp c1
      exact px_vret S hr hlk hAe hw (Nat.le_of_ble_eq_true rfl) (Nat.le_of_ble_eq_true rfl) (⟨cd_5, rfl, (by assumption), (k5_2 _ 1 (Or.inr (Or.inl ⟨rfl, x5_3, x5_4, rfl, rfl, rfl, rfl, rfl, Or.inl ⟨nc1, rfl⟩⟩)))⟩) d_Prg_aim_56
    · have nc1 : ¬ (2048 : Int) ≤ x5_4.toInt := mt (i_le (x := 2048) (y := x5_4)).mpr c1
      refine lv_iload_n S.x S.b d_Prg_aim_13 rfl (lv_at hl 3 rfl) ?_
      refine lv_if_lt (tgt := 56) S.x S.b d_Prg_aim_14 (by decide) (fun c3 => ?_) (fun c3 => ?_)
      · have nc3 : x5_3.toInt < (0 : Int) := (i_lt (x := x5_3) (y := 0)).mp c3
        exact px_vret S hr hlk hAe hw (Nat.le_of_ble_eq_true rfl) (Nat.le_of_ble_eq_true rfl) (⟨cd_5, rfl, (by assumption), (k5_2 _ 1 (Or.inr (Or.inl ⟨rfl, x5_3, x5_4, rfl, rfl, rfl, rfl, rfl, Or.inr ⟨nc1, nc3, rfl⟩⟩)))⟩) d_Prg_aim_56
      · have nc3 : ¬ x5_3.toInt < (0 : Int) := mt (i_lt (x := x5_3) (y := 0)).mpr c3
        exfalso
        omega
  refine lv_iload_n S.x S.b d_Prg_aim_0 rfl (lv_at hl 1 rfl) ?_
  refine lv_istore_n (lv' := [(3, .int p0), (0, .ref hp), (1, .int p0), (2, .int p1)]) S.x S.b d_Prg_aim_1 rfl hl (by decide) rfl (fun ls hl => ?_)
  refine lv_iconst (v := 0) S.x S.b d_Prg_aim_2 (by decide) ?_
  refine lv_istore (lv' := [(4, .int 0), (3, .int p0), (0, .ref hp), (1, .int p0), (2, .int p1)]) S.x S.b d_Prg_aim_3 hl (by decide) rfl (fun ls hl => ?_)
  refine lv_iload S.x S.b d_Prg_aim_5 (lv_at hl 0 rfl) ?_
  refine lv_sipush (v := 2048) S.x S.b d_Prg_aim_7 (by decide) ?_
  refine lv_icmp_ge (tgt := 56) S.x S.b d_Prg_aim_10 (by decide) (fun c5 => ?_) (fun c5 => ?_)
  · exact absurd c5 (by decide)
  ·
    refine lv_iload_n S.x S.b d_Prg_aim_13 rfl (lv_at hl 1 rfl) ?_
    refine lv_if_lt (tgt := 56) S.x S.b d_Prg_aim_14 (by decide) (fun c6 => ?_) (fun c6 => ?_)
    · have nc6 : p0.toInt < (0 : Int) := (i_lt (x := p0) (y := 0)).mp c6
      exact px_vret S hr hlk hAe hw (Nat.le_of_ble_eq_true rfl) (Nat.le_of_ble_eq_true rfl) (⟨cd, rfl, Am.rf hpk.2, (Exists.intro 1 (Or.inl ⟨rfl, Or.inl ⟨nc6, rfl⟩⟩))⟩) d_Prg_aim_56
    · have nc6 : ¬ p0.toInt < (0 : Int) := mt (i_lt (x := p0) (y := 0)).mpr c6
      refine lv_iload_n S.x S.b d_Prg_aim_17 rfl (lv_at hl 1 rfl) ?_
      refine lv_iconst (v := 1) S.x S.b d_Prg_aim_18 (by decide) ?_
      refine lv_iadd S.x S.b d_Prg_aim_19 ?_
      refine lv_topi (fun z8 ez8 => ?_)
      have tz8 : z8.toInt = (p0.toInt + (1 : Int) + 2147483648) % 4294967296 - 2147483648 := by rw [ez8]; exact i_add p0 1
      have lz8 := Int32.le_toInt z8
      have uz8 := Int32.toInt_lt z8
      try replace tz8 : z8.toInt = p0.toInt + (1 : Int) := by omega
      refine lv_aload_n S.x S.b d_Prg_aim_20 rfl (lv_at hl 2 rfl) ?_
      refine px_get S k_Prg hT hw 0 0 1 (v := .ref (rp 1)) rfl rfl rfl (by decide) m2_99 d_Prg_aim_21 ?_
      refine px_len S hT hw 1 0 0 rfl rfl rfl (v := (nI cn)) rfl d_Prg_aim_24 ?_
      refine lv_icmp_ge (tgt := 56) S.x S.b d_Prg_aim_25 (by decide) (fun c9 => ?_) (fun c9 => ?_)
      · have nc9 : (nI cn).toInt ≤ z8.toInt := (i_le (x := (nI cn)) (y := z8)).mp c9
        exact px_vret S hr hlk hAe hw (Nat.le_of_ble_eq_true rfl) (Nat.le_of_ble_eq_true rfl) (⟨cd, rfl, Am.rf hpk.2, (Exists.intro 1 (Or.inl ⟨rfl, Or.inr ⟨nc6, z8, ez8, Or.inl ⟨nc9, rfl⟩⟩⟩))⟩) d_Prg_aim_56
      · have nc9 : ¬ (nI cn).toInt ≤ z8.toInt := mt (i_le (x := (nI cn)) (y := z8)).mpr c9
        refine lv_aload_n S.x S.b d_Prg_aim_28 rfl (lv_at hl 2 rfl) ?_
        refine px_get S k_Prg hT hw 0 0 1 (v := .ref (rp 1)) rfl rfl rfl (by decide) m2_99 d_Prg_aim_29 ?_
        refine lv_iload_n S.x S.b d_Prg_aim_32 rfl (lv_at hl 1 rfl) ?_
        refine lv_iconst (v := 1) S.x S.b d_Prg_aim_33 (by decide) ?_
        refine lv_iadd S.x S.b d_Prg_aim_34 ?_
        refine lv_topi (fun z11 ez11 => ?_)
        have tz11 : z11.toInt = (p0.toInt + (1 : Int) + 2147483648) % 4294967296 - 2147483648 := by rw [ez11]; exact i_add p0 1
        have lz11 := Int32.le_toInt z11
        have uz11 := Int32.toInt_lt z11
        try replace tz11 : z11.toInt = p0.toInt + (1 : Int) := by omega
        refine px_iald S hT hw 1 0 (n := cn) (f := cd) rfl rfl (x := z11) (vp_in_iff.mpr (by constructor <;> omega)) d_Prg_aim_35 ?_
        refine lv_topi (fun z12 ez12 => ?_)
        have lz12 := Int32.le_toInt z12
        have uz12 := Int32.toInt_lt z12
        have hm1 : z12.toInt = -1 := by rw [show z12 = -1 from by have hx1 : (p0 + 1).toInt = p0.toInt + 1 := (by have := i_add p0 1; have c1 : (1 : Int32).toInt = 1 := rfl; omega); have hx2 := cl_nat (x := p0 + 1) (by omega); rcases hwt with h | h | h <;> first | omega | (rw [ez12, ez11]; exact h.2.2.2 _ (by omega))]; rfl
        refine lv_istore (lv' := [(5, .int z12), (4, .int 0), (3, .int p0), (0, .ref hp), (1, .int p0), (2, .int p1)]) S.x S.b d_Prg_aim_36 hl (by decide) rfl (fun ls hl => ?_)
        refine lv_aload_n S.x S.b d_Prg_aim_38 rfl (lv_at hl 3 rfl) ?_
        refine px_get S k_Prg hT hw 0 0 1 (v := .ref (rp 1)) rfl rfl rfl (by decide) m2_99 d_Prg_aim_39 ?_
        refine lv_iload_n S.x S.b d_Prg_aim_42 rfl (lv_at hl 2 rfl) ?_
        refine lv_iconst (v := 1) S.x S.b d_Prg_aim_43 (by decide) ?_
        refine lv_iadd S.x S.b d_Prg_aim_44 ?_
        refine lv_topi (fun z13 ez13 => ?_)
        have tz13 : z13.toInt = (p0.toInt + (1 : Int) + 2147483648) % 4294967296 - 2147483648 := by rw [ez13]; exact i_add p0 1
        have lz13 := Int32.le_toInt z13
        have uz13 := Int32.toInt_lt z13
        try replace tz13 : z13.toInt = p0.toInt + (1 : Int) := by omega
        refine lv_iload_n S.x S.b d_Prg_aim_45 rfl (lv_at hl 5 rfl) ?_
        refine px_iast S hT hw 1 0 (n := cn) (f := cd) (x := z13) (y := p1) rfl rfl (vp_in_iff.mpr (by constructor <;> omega)) d_Prg_aim_46 (w' := [((rp 1), .inl (cs 0, cn, .inl (upd cd z13.toNatClampNeg p1)))]) (ps' := [wd_Prg cs hp rp (fun k => if k = 2 then of else none) fp (fun _ _ => 0) (fun _ _ => none), [((rp 1), .inl (cs 0, cn, .inl (upd cd z13.toNatClampNeg p1)))]]) rfl rfl (fun H locs hw => ?_)
        have ham : Am cn p0 cd (upd cd z13.toNatClampNeg p1) := am_up hpk.2 (by omega) (by rcases hwt with h | h | h <;> omega) (show z13.toInt = p0.toInt + 1 from by first | exact oz_037caa6b79 tz13 | omega) ⟨by omega, by omega, by omega⟩
        refine lv_iload S.x S.b d_Prg_aim_47 (lv_at hl 0 rfl) ?_
        refine lv_istore_n (lv' := [(3, .int z12), (5, .int z12), (4, .int 0), (0, .ref hp), (1, .int p0), (2, .int p1)]) S.x S.b d_Prg_aim_49 rfl hl (by decide) rfl (fun ls hl => ?_)
        obtain ⟨z14, ez14⟩ : ∃ y : Int32, y = 0 + 1 := ⟨_, rfl⟩
        have tz14 : z14.toInt = ((0 : Int) + 1 + 2147483648) % 4294967296 - 2147483648 := by rw [ez14]; exact i_add 0 1
        have lz14 := Int32.le_toInt z14
        have uz14 := Int32.toInt_lt z14
        try replace tz14 : z14.toInt = (0 : Int) + 1 := by omega
        refine lv_iinc (v := z14) (lv' := [(4, .int z14), (3, .int z12), (5, .int z12), (0, .ref hp), (1, .int p0), (2, .int p1)]) S.x S.b d_Prg_aim_50 hl (k := 2) rfl (by rw [ez14]; rfl) (by decide) rfl (fun ls hl => ?_)
        refine lv_goto (tgt := 5) S.x S.b d_Prg_aim_53 (by decide) ?_
        exact J5 (upd cd z13.toNatClampNeg p1) z12 z14 _ _ ls (show z12.toInt = -1 from by first | exact hm1 | omega) (show Am cn p0 cd (upd cd z13.toNatClampNeg p1) from (by assumption)) (show K_pe_aim_5 cn p0 p1 cd (upd cd z13.toNatClampNeg p1) z12 z14 from (fun y_f0 k hE => Exists.intro (k + 1) (Or.inl ⟨rfl, Or.inr ⟨nc6, z8, ez8, Or.inr ⟨nc9, z11, ez11, z12, ez12, z13, ez13, z14, ez14, hE⟩⟩⟩))) hw (lv_sub hl [3, 4, 5, 1, 0] rfl)
