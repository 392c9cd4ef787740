/-! THE REFERENCE's tokens in the class's numbers, and its cursor -/
def mkC (w : Nat) : Int := ([390, 391, 299, 301, 298, 303, 293, 294, 380, 350, 137, 136, 130, 131, 132, 133, 134, 135, 138, 139, 40, 41, 123, 125, 91, 93, 44, 59, 58, 63, 256, 124, 94, 38, 60, 62, 43, 45, 42, 47, 37, 33, 126] : List Int).getD w 0
/-- sorts: 1 a name, 2 a key, 3 a number, 4 a string, 5 a mark, 6 one that can't stand, 7 the end -/
def rkd (ta : Nat → Nat → Int32) (i : Nat) : Int := if (ta 9 i).toInt = 1 then 16 else if (ta 9 i).toInt = 2 then (ta 10 i).toInt + 1 else if (ta 9 i).toInt = 3 then 17 else if (ta 9 i).toInt = 4 then 18 else if (ta 9 i).toInt = 5 then mkC (ta 10 i).toNatClampNeg else if (ta 9 i).toInt = 6 then 19 else 0
def RTk (ta : Nat → Nat → Int32) (c : Nat) : Prop := ∀ i : Nat, i < c → (1 ≤ (ta 9 i).toInt ∧ (ta 9 i).toInt ≤ 7) ∧ ((ta 9 i).toInt = 5 → 0 ≤ (ta 10 i).toInt ∧ (ta 10 i).toInt < 43) ∧ ((ta 9 i).toInt = 2 → 0 ≤ (ta 10 i).toInt ∧ (ta 10 i).toInt < 15) ∧ (i + 1 = c ↔ 6 ≤ (ta 9 i).toInt)
theorem mkC_b : ∀ w : Nat, w < 43 → 33 ≤ mkC w := by decide
theorem rkd_b {ta : Nat → Nat → Int32} {c i : Nat} (h : RTk ta c) (hi : i < c) : ((ta 9 i).toInt = 5 ↔ 33 ≤ rkd ta i) ∧ ((ta 9 i).toInt = 5 → rkd ta i = mkC (ta 10 i).toNatClampNeg) ∧ ((ta 9 i).toInt = 1 ↔ rkd ta i = 16) ∧ ((ta 9 i).toInt = 3 ↔ rkd ta i = 17) ∧ ((ta 9 i).toInt = 4 ↔ rkd ta i = 18) ∧ ((ta 9 i).toInt = 2 ↔ (1 ≤ rkd ta i ∧ rkd ta i ≤ 15)) ∧ ((ta 9 i).toInt = 2 → rkd ta i = (ta 10 i).toInt + 1) ∧ (i + 1 = c ↔ (rkd ta i = 0 ∨ rkd ta i = 19)) ∧ ((ta 9 i).toInt = 7 ↔ rkd ta i = 0) := by
  obtain ⟨h1, h2, h3, h4⟩ := h i hi
  unfold rkd
  by_cases q1 : (ta 9 i).toInt = 1
  · rw [if_pos q1]; omega
  · rw [if_neg q1]
    by_cases q2 : (ta 9 i).toInt = 2
    · rw [if_pos q2]
      have := h3 q2
      omega
    · rw [if_neg q2]
      by_cases q3 : (ta 9 i).toInt = 3
      · rw [if_pos q3]; omega
      · rw [if_neg q3]
        by_cases q4 : (ta 9 i).toInt = 4
        · rw [if_pos q4]; omega
        · rw [if_neg q4]
          by_cases q5 : (ta 9 i).toInt = 5
          · rw [if_pos q5]
            have w := h2 q5
            have wn : (ta 10 i).toNatClampNeg < 43 := by have := cl_nat (x := ta 10 i) w.1; omega
            have := mkC_b _ wn
            omega
          · rw [if_neg q5]
            by_cases q6 : (ta 9 i).toInt = 6
            · rw [if_pos q6]; omega
            · rw [if_neg q6]; omega
theorem nI_i {k : Nat} (h : k ≤ 1000) : (nI k).toInt = (k : Int) := by
  unfold nI
  rw [Int32.toInt_ofNat_of_lt (by omega)]
theorem sle_9 {sn sn2 : Nat} {sb sb2 : Nat → Int32} {v : Int32} (hs : sn ≤ 1000) : ∀ (d i k : Nat) (x : Int32), E_sl_equals sn sb sn2 sb2 v k 9 [x] [] [] [] [] () → x.toInt = (i : Int) → i + d = sn → (v.toInt = 0 ∨ v.toInt = 1) ∧ (v.toInt = 1 ↔ ∀ j : Nat, i ≤ j → j < sn → (sb j).toInt = (sb2 j).toInt) := by
  have hN := nI_i hs
  intro d
  induction d with
  | zero =>
    intro i k x h hx hd
    rcases iv_sl_equals_9 h with ⟨k, (⟨h1, ev⟩ | ⟨h1, z3, h2, z4, h3, (⟨h4, z7, h5, hE⟩ | ⟨h4, ev⟩)⟩)⟩
    · rw [ev]; exact ⟨Or.inr rfl, fun _ j a b => by omega, fun _ => rfl⟩
    all_goals (exfalso; omega)
  | succ d ih =>
    intro i k x h hx hd
    rcases iv_sl_equals_9 h with ⟨k, (⟨h1, ev⟩ | ⟨h1, z3, h2, z4, h3, (⟨h4, z7, h5, hE⟩ | ⟨h4, ev⟩)⟩)⟩
    · exfalso; omega
    · rw [cn_of hx] at h2 h3
      rw [h2, h3] at h4
      have hz := ti_add h5 hx (show (1 : Int32).toInt = 1 from rfl) (by omega) (by omega)
      obtain ⟨r1, r2⟩ := ih (i + 1) k _ hE (by omega) (by omega)
      refine ⟨r1, fun hv j hj hm => ?_, fun hv => r2.mpr (fun j hj hm => hv j (by omega) hm)⟩
      rcases Nat.eq_or_lt_of_le hj with y | y
      · subst y; exact h4
      · exact r2.mp hv j y hm
    · rw [cn_of hx] at h2 h3
      rw [h2, h3] at h4
      rw [ev]
      exact ⟨Or.inl rfl, fun hv => absurd hv (by decide), fun hv => absurd (hv i (Nat.le_refl _) (by omega)) h4⟩
theorem sle_r {sn sn2 : Nat} {sb sb2 : Nat → Int32} {v : Int32} (hs : sn ≤ 1000) (hs2 : sn2 ≤ 1000) (h : R_sl_equals sn sb sn2 sb2 v) : (v.toInt = 0 ∨ v.toInt = 1) ∧ (v.toInt = 1 ↔ sn = sn2 ∧ ∀ j : Nat, j < sn → (sb j).toInt = (sb2 j).toInt) := by
  have hN := nI_i hs
  have hN2 := nI_i hs2
  obtain ⟨k, h⟩ := h
  rcases iv_sl_equals_0 h with ⟨k, (⟨h1, ev⟩ | ⟨h1, hE⟩)⟩
  · rw [ev]
    exact ⟨Or.inl rfl, fun q => absurd q (by decide), fun q => absurd (by rw [hN, hN2, q.1]) h1⟩
  · obtain ⟨r1, r2⟩ := sle_9 hs sn 0 k _ hE (by rfl) (by omega)
    exact ⟨r1, fun q => ⟨by omega, fun j hj => r2.mp q j (Nat.zero_le _) hj⟩, fun q => r2.mpr (fun j _ hj => q.2 j hj)⟩
theorem sge_r {sn sn2 : Nat} {sb sb2 : Nat → Int32} {v : Int32} (hs : sn ≤ 1000) (hs2 : sn2 ≤ 1000) (h : R_sg_equals sn sb sn2 sb2 v) : (v.toInt = 0 ∨ v.toInt = 1) ∧ (v.toInt = 1 ↔ sn = sn2 ∧ ∀ j : Nat, j < sn → (sb j).toInt = (sb2 j).toInt) := by
  rcases h with (⟨v7, h1, (⟨h2, ev⟩ | ⟨h2, ev⟩)⟩ | ⟨h1, ev⟩) | h
  · obtain ⟨r1, r2⟩ := sle_r hs hs2 h1
    rw [ev]
    exact ⟨Or.inl rfl, fun q => absurd q (by decide), fun q => absurd (r2.mpr q) (by omega)⟩
  · obtain ⟨r1, r2⟩ := sle_r hs hs2 h1
    rw [ev]
    exact ⟨Or.inr rfl, fun _ => r2.mp (by omega), fun _ => rfl⟩
  · rw [ev]
    exact ⟨Or.inr rfl, fun _ => ⟨h1.1, fun j hj => by rw [h1.2 j hj]⟩, fun _ => rfl⟩
  · exact h.elim
/-- whether mark w is that string -/
def mEq (w sn : Nat) (sb : Nat → Int32) : Bool := decide (mlen w = sn) && (List.range sn).all (fun j => decide ((mby w j).toInt = (sb j).toInt))
theorem mEq_iff {w sn : Nat} {sb : Nat → Int32} : mEq w sn sb = true ↔ mlen w = sn ∧ ∀ j : Nat, j < mlen w → (mby w j).toInt = (sb j).toInt := by
  unfold mEq
  rw [Bool.and_eq_true, decide_eq_true_iff, List.all_eq_true]
  constructor
  · intro h
    refine ⟨h.1, fun j hj => ?_⟩
    exact of_decide_eq_true (h.2 j (List.mem_range.mpr (by rw [← h.1]; exact hj)))
  · intro h
    refine ⟨h.1, fun j hj => decide_eq_true (h.2 j ?_)⟩
    rw [h.1]; exact List.mem_range.mp hj
theorem mlen_b : ∀ w : Nat, w < 43 → mlen w ≤ 3 := by decide
section RB
variable {ta : Nat → Nat → Int32} {c t : Nat} {pf pf' : Nat → Int32} {o : Int} {sn : Nat} {sb : Nat → Int32} {q : Int} {v xt : Int32}
theorem isAt_r {p0 : Int32} (hT : RTk ta c) (hp : p0.toInt = (t : Int)) (htc : t < c) (hs : sn ≤ 1000) (hq : ∀ w : Nat, w < 43 → mEq w sn sb = decide (mkC w = q)) (h33 : 33 ≤ q) (h : R_mp_isAt sn sb ta p0 v) : (v.toInt = 0 ∨ v.toInt = 1) ∧ (v.toInt = 1 ↔ rkd ta t = q) := by
  obtain ⟨k1, k2, -⟩ := rkd_b hT htc
  have hn := cn_of hp
  rcases h with ⟨z1, h1, (⟨h2, ev⟩ | ⟨h2, z4, h3, v9, h4, (⟨h5, ev⟩ | ⟨h5, ev⟩)⟩)⟩ | h
  · rw [hn] at h1
    rw [h1] at h2
    rw [ev]
    exact ⟨Or.inl rfl, fun y => absurd y (by decide), fun y => absurd (k1.mpr (by omega)) h2⟩
  · rw [hn] at h1 h3
    rw [h1] at h2
    have w := (hT t htc).2.1 h2
    have wn : z4.toNatClampNeg < 43 := by rw [h3]; have := cl_nat (x := ta 10 t) w.1; omega
    obtain ⟨r1, r2⟩ := sge_r (by have := mlen_b _ wn; omega) hs h4
    rw [ev]
    refine ⟨Or.inl rfl, fun y => absurd y (by decide), fun y => ?_⟩
    exfalso
    rw [k2 h2, ← h3] at y
    have := hq _ wn
    rw [decide_eq_true y] at this
    have := r2.mpr (mEq_iff.mp this)
    omega
  · rw [hn] at h1 h3
    rw [h1] at h2
    have w := (hT t htc).2.1 h2
    have wn : z4.toNatClampNeg < 43 := by rw [h3]; have := cl_nat (x := ta 10 t) w.1; omega
    obtain ⟨r1, r2⟩ := sge_r (by have := mlen_b _ wn; omega) hs h4
    rw [ev]
    refine ⟨Or.inr rfl, fun _ => ?_, fun _ => rfl⟩
    have e := mEq_iff.mpr (r2.mp (by omega))
    rw [hq _ wn] at e
    rw [k2 h2, ← h3]
    exact of_decide_eq_true e
  · exact h.elim
/-- the cursor stands at token t of c, o are open -/
def RCur (pf : Nat → Int32) (c t : Nat) (o : Int) : Prop := (pf 11).toInt = (t : Int) ∧ (pf 12).toInt = o ∧ t < c ∧ c ≤ 2049 ∧ 0 ≤ o ∧ o ≤ 60
/-- all but the cursor's own stays -/
def RSm (pf pf' : Nat → Int32) : Prop := ∀ i : Nat, i ≠ 11 → i ≠ 12 → pf' i = pf i
theorem RSm.rf {a : Nat → Int32} : RSm a a := fun _ _ _ => rfl
theorem RSm.tr {a b d : Nat → Int32} (h : RSm a b) (k : RSm b d) : RSm a d := fun i h1 h2 => (k i h1 h2).trans (h i h1 h2)
theorem rlt (hT : RTk ta c) (hc : RCur pf c t o) (hk : ¬ (rkd ta t = 0 ∨ rkd ta t = 19)) : t + 1 < c := by
  have k8 := (rkd_b hT hc.2.2.1).2.2.2.2.2.2.2.1
  have := hc.2.2.1
  omega
theorem is_r (hT : RTk ta c) (hc : RCur pf c t o) (hs : sn ≤ 1000) (hq : ∀ w : Nat, w < 43 → mEq w sn sb = decide (mkC w = q)) (h33 : 33 ≤ q) (h : R_mp_is sn sb ta pf v) : (v.toInt = 0 ∨ v.toInt = 1) ∧ (v.toInt = 1 ↔ rkd ta t = q) := by
  rcases h with ⟨v2, h1, ev⟩ | h
  · rw [ev]; exact isAt_r hT hc.1 hc.2.2.1 hs hq h33 h1
  · exact h.elim
theorem RCur.st {z : Int32} (hc : RCur pf c t o) (hz : z = pf 11 + 1) (hlt : t + 1 < c) : RCur (upd pf 11 z) c (t + 1) o := by
  have h2 := hc.2.2.2.1
  have y := ti_add hz hc.1 (show (1 : Int32).toInt = 1 from rfl) (by omega) (by omega)
  refine ⟨by rw [pk_us]; omega, ?_, hlt, hc.2.2.2.1, hc.2.2.2.2⟩
  rw [pk_un (by decide)]; exact hc.2.1
theorem takes_r (hT : RTk ta c) (hc : RCur pf c t o) (hs : sn ≤ 1000) (hq : ∀ w : Nat, w < 43 → mEq w sn sb = decide (mkC w = q)) (h33 : 33 ≤ q) (h : R_mp_takes sn sb ta pf pf' v) : RSm pf pf' ∧ ((rkd ta t = q ∧ v.toInt = 1 ∧ RCur pf' c (t + 1) o) ∨ (¬ rkd ta t = q ∧ v.toInt = 0 ∧ RCur pf' c t o)) := by
  rcases h with ⟨v2, h1, (⟨h2, e0, ev⟩ | ⟨h2, z9, h3, e0, ev⟩)⟩ | h
  · obtain ⟨r1, r2⟩ := is_r hT hc hs hq h33 h1
    rw [e0, ev]
    refine ⟨fun i i1 _ => pk_un i1, Or.inr ⟨fun y => by have := r2.mpr y; omega, h2, ?_⟩⟩
    refine ⟨by rw [pk_us]; exact hc.1, ?_, hc.2.2⟩
    rw [pk_un (by decide)]; exact hc.2.1
  · obtain ⟨r1, r2⟩ := is_r hT hc hs hq h33 h1
    have y : rkd ta t = q := r2.mp (by omega)
    rw [e0, ev]
    exact ⟨fun i i1 _ => pk_un i1, Or.inl ⟨y, by omega, hc.st h3 (rlt hT hc (by omega))⟩⟩
  · exact h.elim
theorem take_r (hT : RTk ta c) (hc : RCur pf c t o) (hs : sn ≤ 1000) (hq : ∀ w : Nat, w < 43 → mEq w sn sb = decide (mkC w = q)) (h33 : 33 ≤ q) (h : R_mp_take sn sb ta pf pf' xt) : RSm pf pf' ∧ ((rkd ta t = q ∧ xt = 0 ∧ RCur pf' c (t + 1) o) ∨ (¬ rkd ta t = q ∧ xt = 1)) := by
  rcases h with ⟨pf2, v4, h1, (⟨h2, e0, ex⟩ | ⟨h2, e0, ex⟩)⟩ | h
  · obtain ⟨r1, r2⟩ := takes_r hT hc hs hq h33 h1
    rw [e0]
    refine ⟨r1, ?_⟩
    rcases r2 with ⟨y1, y2, y3⟩ | ⟨y1, y2, y3⟩
    · exfalso; omega
    · exact Or.inr ⟨y1, ex⟩
  · obtain ⟨r1, r2⟩ := takes_r hT hc hs hq h33 h1
    rw [e0]
    refine ⟨r1, ?_⟩
    rcases r2 with ⟨y1, y2, y3⟩ | ⟨y1, y2, y3⟩
    · exact Or.inl ⟨y1, ex, y3⟩
    · exact absurd y2 h2
  · exact h.elim
theorem opens_r (hc : RCur pf c t o) (hlt : t + 1 < c) (h : R_mp_opens pf pf' xt) : RSm pf pf' ∧ ((o < 60 ∧ xt = 0 ∧ RCur pf' c (t + 1) (o + 1)) ∨ (¬ o < 60 ∧ xt = 1)) := by
  have h1' := hc.1
  have h2' := hc.2.1
  have h4' := hc.2.2.2.1
  have h5' := hc.2.2.2.2
  have go : ∀ {z y : Int32}, z = pf 12 + 1 → y = pf 11 + 1 → o < 60 → RCur (upd (upd pf 11 y) 12 z) c (t + 1) (o + 1) := by
    intro z y hz hy ho
    have z1 := ti_add hz h2' (show (1 : Int32).toInt = 1 from rfl) (by omega) (by omega)
    have z2 := ti_add hy h1' (show (1 : Int32).toInt = 1 from rfl) (by omega) (by omega)
    refine ⟨?_, ?_, hlt, h4', by omega, by omega⟩
    · rw [pk_un (by decide), pk_us]; omega
    · rw [pk_us]; omega
  rcases h with (⟨h1, (⟨h2, e0, ex⟩ | ⟨h2, z6, h3, z8, h4, e0, ex⟩)⟩ | ⟨h1, (⟨h2, e0, ex⟩ | ⟨h2, z12, h3, z14, h4, e0, ex⟩)⟩) | h
  · rw [e0]; exact ⟨RSm.rf, Or.inr ⟨by omega, ex⟩⟩
  · exact absurd rfl h2
  · exact absurd h2 (by decide)
  · rw [e0]
    exact ⟨fun i i1 i2 => by rw [pk_un i2, pk_un i1], Or.inl ⟨by omega, ex, go h3 h4 (by omega)⟩⟩
  · exact h.elim
theorem opensMark_r (hT : RTk ta c) (hc : RCur pf c t o) (hs : sn ≤ 1000) (hq : ∀ w : Nat, w < 43 → mEq w sn sb = decide (mkC w = q)) (h33 : 33 ≤ q) (h : R_mp_opensMark sn sb ta pf pf' xt) : RSm pf pf' ∧ (((rkd ta t = q ∧ o < 60) ∧ xt = 0 ∧ RCur pf' c (t + 1) (o + 1)) ∨ (¬ (rkd ta t = q ∧ o < 60) ∧ xt = 1)) := by
  rcases h with ⟨v2, h1, (⟨h2, e0, ex⟩ | ⟨h2, (⟨pq1, h3, e0, ex⟩ | ⟨pf9, h3, e0, ex⟩)⟩)⟩ | h
  · obtain ⟨r1, r2⟩ := is_r hT hc hs hq h33 h1
    rw [e0]
    exact ⟨RSm.rf, Or.inr ⟨fun y => by have := r2.mpr y.1; omega, ex⟩⟩
  · obtain ⟨r1, r2⟩ := is_r hT hc hs hq h33 h1
    have y : rkd ta t = q := r2.mp (by omega)
    obtain ⟨s1, s2⟩ := opens_r hc (rlt hT hc (by omega)) h3
    rw [e0]
    refine ⟨s1, ?_⟩
    rcases s2 with ⟨y1, y2, y3⟩ | ⟨y1, y2⟩
    · exact absurd y2 (by decide)
    · exact Or.inr ⟨fun z => y1 z.2, ex⟩
  · obtain ⟨r1, r2⟩ := is_r hT hc hs hq h33 h1
    have y : rkd ta t = q := r2.mp (by omega)
    obtain ⟨s1, s2⟩ := opens_r hc (rlt hT hc (by omega)) h3
    rw [e0]
    refine ⟨s1, ?_⟩
    rcases s2 with ⟨y1, y2, y3⟩ | ⟨y1, y2⟩
    · exact Or.inl ⟨⟨y, y1⟩, ex, y3⟩
    · exact absurd y2 (by decide)
  · exact h.elim
theorem closes_r (hT : RTk ta c) (hc : RCur pf c t o) (ho : 1 ≤ o) (hs : sn ≤ 1000) (hq : ∀ w : Nat, w < 43 → mEq w sn sb = decide (mkC w = q)) (h33 : 33 ≤ q) (h : R_mp_closes sn sb ta pf pf' xt) : RSm pf pf' ∧ ((rkd ta t = q ∧ xt = 0 ∧ RCur pf' c (t + 1) (o - 1)) ∨ (¬ rkd ta t = q ∧ xt = 1)) := by
  rcases h with (⟨pq1, h1, e0, ex⟩ | ⟨pf2, h1, z15, h2, e0, ex⟩) | h
  · obtain ⟨r1, r2⟩ := take_r hT hc hs hq h33 h1
    rw [e0]
    refine ⟨r1, ?_⟩
    rcases r2 with ⟨y1, y2, y3⟩ | ⟨y1, y2⟩
    · exact absurd y2 (by decide)
    · exact Or.inr ⟨y1, ex⟩
  · obtain ⟨r1, r2⟩ := take_r hT hc hs hq h33 h1
    rcases r2 with ⟨y1, y2, y3⟩ | ⟨y1, y2⟩
    · have h12 := y3.2.1
      have z := ti_sub h2 h12 (show (1 : Int32).toInt = 1 from rfl) (by omega) (by have := hc.2.2.2.2.2; omega)
      rw [e0]
      refine ⟨fun i i1 i2 => by rw [pk_un i2]; exact r1 i i1 i2, Or.inl ⟨y1, ex, ?_, ?_, y3.2.2.1, y3.2.2.2.1, by omega, by have := hc.2.2.2.2.2; omega⟩⟩
      · rw [pk_un (by decide)]; exact y3.1
      · rw [pk_us]; exact z
    · exact absurd y2 (by decide)
  · exact h.elim
theorem name_r (hT : RTk ta c) (hc : RCur pf c t o) (h : R_mp_name ta pf pf' v xt) : RSm pf pf' ∧ ((rkd ta t = 16 ∧ xt = 0 ∧ v.toInt = (t : Int) ∧ RCur pf' c (t + 1) o) ∨ (¬ rkd ta t = 16 ∧ xt = 1)) := by
  have k := (rkd_b hT hc.2.2.1).2.2.1
  have hn := cn_of hc.1
  have h4' := hc.2.2.2.1
  have h3' := hc.2.2.1
  rcases h with ⟨z1, h1, (⟨h2, (⟨h3, e0, ev, ex⟩ | ⟨h3, z7, h4, z8, h5, e0, ev, ex⟩)⟩ | ⟨h2, (⟨h3, e0, ev, ex⟩ | ⟨h3, z12, h4, z13, h5, e0, ev, ex⟩)⟩)⟩ | h
  · rw [hn] at h1
    rw [h1] at h2
    rw [e0]
    exact ⟨RSm.rf, Or.inr ⟨fun y => h2 (k.mpr y), ex⟩⟩
  · exact absurd rfl h3
  · exact absurd h3 (by decide)
  · rw [hn] at h1
    rw [h1] at h2
    have y := k.mp h2
    have z1 := ti_add h4 hc.1 (show (1 : Int32).toInt = 1 from rfl) (by omega) (by omega)
    have z2 := ti_sub h5 z1 (show (1 : Int32).toInt = 1 from rfl) (by omega) (by omega)
    rw [e0, ev]
    exact ⟨fun i i1 _ => pk_un i1, Or.inl ⟨y, ex, by omega, hc.st h4 (rlt hT hc (by omega))⟩⟩
  · exact h.elim
theorem isKey_r {p0 : Int32} (hT : RTk ta c) (hc : RCur pf c t o) (h0 : 0 ≤ p0.toInt ∧ p0.toInt < 15) (h : R_mp_isKey ta pf p0 v) : (v.toInt = 0 ∨ v.toInt = 1) ∧ (v.toInt = 1 ↔ rkd ta t = p0.toInt + 1) := by
  obtain ⟨-, -, -, -, -, k6, k7, -⟩ := rkd_b hT hc.2.2.1
  have hn := cn_of hc.1
  rcases h with ⟨z1, h1, (⟨h2, ev⟩ | ⟨h2, z4, h3, (⟨h4, ev⟩ | ⟨h4, ev⟩)⟩)⟩ | h
  · rw [hn] at h1
    rw [h1] at h2
    rw [ev]
    exact ⟨Or.inl rfl, fun y => absurd y (by decide), fun y => absurd (k6.mpr (by omega)) h2⟩
  · rw [hn] at h1 h3
    rw [h1] at h2
    rw [ev]
    refine ⟨Or.inl rfl, fun y => absurd y (by decide), fun y => ?_⟩
    exfalso
    have := k7 h2
    rw [h3] at h4
    omega
  · rw [hn] at h1 h3
    rw [h1] at h2
    rw [ev]
    refine ⟨Or.inr rfl, fun _ => ?_, fun _ => rfl⟩
    have := k7 h2
    rw [h3] at h4
    omega
  · exact h.elim
end RB
theorem mq_390 : ∀ w : Nat, w < 43 → mEq w 3 (lby "<<=") = decide (mkC w = 390) := by decide
theorem mq_391 : ∀ w : Nat, w < 43 → mEq w 3 (lby ">>=") = decide (mkC w = 391) := by decide
theorem mq_299 : ∀ w : Nat, w < 43 → mEq w 2 (lby "+=") = decide (mkC w = 299) := by decide
theorem mq_301 : ∀ w : Nat, w < 43 → mEq w 2 (lby "-=") = decide (mkC w = 301) := by decide
theorem mq_298 : ∀ w : Nat, w < 43 → mEq w 2 (lby "*=") = decide (mkC w = 298) := by decide
theorem mq_303 : ∀ w : Nat, w < 43 → mEq w 2 (lby "/=") = decide (mkC w = 303) := by decide
theorem mq_293 : ∀ w : Nat, w < 43 → mEq w 2 (lby "%=") = decide (mkC w = 293) := by decide
theorem mq_294 : ∀ w : Nat, w < 43 → mEq w 2 (lby "&=") = decide (mkC w = 294) := by decide
theorem mq_380 : ∀ w : Nat, w < 43 → mEq w 2 (lby "|=") = decide (mkC w = 380) := by decide
theorem mq_350 : ∀ w : Nat, w < 43 → mEq w 2 (lby "^=") = decide (mkC w = 350) := by decide
theorem mq_137 : ∀ w : Nat, w < 43 → mEq w 2 (lby "||") = decide (mkC w = 137) := by decide
theorem mq_136 : ∀ w : Nat, w < 43 → mEq w 2 (lby "&&") = decide (mkC w = 136) := by decide
theorem mq_130 : ∀ w : Nat, w < 43 → mEq w 2 (lby "==") = decide (mkC w = 130) := by decide
theorem mq_131 : ∀ w : Nat, w < 43 → mEq w 2 (lby "!=") = decide (mkC w = 131) := by decide
theorem mq_132 : ∀ w : Nat, w < 43 → mEq w 2 (lby "<=") = decide (mkC w = 132) := by decide
theorem mq_133 : ∀ w : Nat, w < 43 → mEq w 2 (lby ">=") = decide (mkC w = 133) := by decide
theorem mq_134 : ∀ w : Nat, w < 43 → mEq w 2 (lby "<<") = decide (mkC w = 134) := by decide
theorem mq_135 : ∀ w : Nat, w < 43 → mEq w 2 (lby ">>") = decide (mkC w = 135) := by decide
theorem mq_138 : ∀ w : Nat, w < 43 → mEq w 2 (lby "++") = decide (mkC w = 138) := by decide
theorem mq_139 : ∀ w : Nat, w < 43 → mEq w 2 (lby "--") = decide (mkC w = 139) := by decide
theorem mq_40 : ∀ w : Nat, w < 43 → mEq w 1 (lby "(") = decide (mkC w = 40) := by decide
theorem mq_41 : ∀ w : Nat, w < 43 → mEq w 1 (lby ")") = decide (mkC w = 41) := by decide
theorem mq_123 : ∀ w : Nat, w < 43 → mEq w 1 (lby "{") = decide (mkC w = 123) := by decide
theorem mq_125 : ∀ w : Nat, w < 43 → mEq w 1 (lby "}") = decide (mkC w = 125) := by decide
theorem mq_91 : ∀ w : Nat, w < 43 → mEq w 1 (lby "[") = decide (mkC w = 91) := by decide
theorem mq_93 : ∀ w : Nat, w < 43 → mEq w 1 (lby "]") = decide (mkC w = 93) := by decide
theorem mq_44 : ∀ w : Nat, w < 43 → mEq w 1 (lby ",") = decide (mkC w = 44) := by decide
theorem mq_59 : ∀ w : Nat, w < 43 → mEq w 1 (lby ";") = decide (mkC w = 59) := by decide
theorem mq_58 : ∀ w : Nat, w < 43 → mEq w 1 (lby ":") = decide (mkC w = 58) := by decide
theorem mq_63 : ∀ w : Nat, w < 43 → mEq w 1 (lby "?") = decide (mkC w = 63) := by decide
theorem mq_256 : ∀ w : Nat, w < 43 → mEq w 1 (lby "=") = decide (mkC w = 256) := by decide
theorem mq_124 : ∀ w : Nat, w < 43 → mEq w 1 (lby "|") = decide (mkC w = 124) := by decide
theorem mq_94 : ∀ w : Nat, w < 43 → mEq w 1 (lby "^") = decide (mkC w = 94) := by decide
theorem mq_38 : ∀ w : Nat, w < 43 → mEq w 1 (lby "&") = decide (mkC w = 38) := by decide
theorem mq_60 : ∀ w : Nat, w < 43 → mEq w 1 (lby "<") = decide (mkC w = 60) := by decide
theorem mq_62 : ∀ w : Nat, w < 43 → mEq w 1 (lby ">") = decide (mkC w = 62) := by decide
theorem mq_43 : ∀ w : Nat, w < 43 → mEq w 1 (lby "+") = decide (mkC w = 43) := by decide
theorem mq_45 : ∀ w : Nat, w < 43 → mEq w 1 (lby "-") = decide (mkC w = 45) := by decide
theorem mq_42 : ∀ w : Nat, w < 43 → mEq w 1 (lby "*") = decide (mkC w = 42) := by decide
theorem mq_47 : ∀ w : Nat, w < 43 → mEq w 1 (lby "/") = decide (mkC w = 47) := by decide
theorem mq_37 : ∀ w : Nat, w < 43 → mEq w 1 (lby "%") = decide (mkC w = 37) := by decide
theorem mq_33 : ∀ w : Nat, w < 43 → mEq w 1 (lby "!") = decide (mkC w = 33) := by decide
theorem mq_126 : ∀ w : Nat, w < 43 → mEq w 1 (lby "~") = decide (mkC w = 126) := by decide
