/-! THE REFERENCE: choices and assignments; expressions whole -/
theorem tail_L {P : PPT} {k : Nat → Int} {L o : Int} (hL : L ≤ 1) : ∀ (n : Nat) (x : Ast) (t : Nat), pTail P k L o n x t = pTail P k 1 o n x t := by
  intro n
  induction n with
  | zero => intro x t; rfl
  | succ n ih =>
    intro x t
    have un : ∀ M : Int, pTail P k M o (n + 1) x t = if 0 < rkO (k t) ∧ M ≤ rkO (k t) then (if o + dpT k x < 60 then (match P (rkO (k t) + 1) (t + 1) (o + 1) with
        | none => none
        | some (y, t1) => pTail P k M o n (eBin t x y) t1) else none)
      else some (x, t) := fun M => by first | rfl | simp [pTail]
    rw [un L, un 1]
    by_cases h : 0 < rkO (k t)
    · rw [if_pos (show 0 < rkO (k t) ∧ L ≤ rkO (k t) from ⟨h, by omega⟩), if_pos (show 0 < rkO (k t) ∧ (1 : Int) ≤ rkO (k t) from ⟨h, by omega⟩)]
      simp only [ih]
    · rw [if_neg (fun q => h q.1), if_neg (fun q => h q.1)]
/-- a choice behind x -/
def gTer (k : Nat → Int) (o : Int) (x : Ast) (t : Nat) : Option (Ast × Nat) := if k t = 63 then (if o + dpT k x < 60 then gThen ((pBoth k 62).1 (-1) (t + 1) (o + 1)) (fun y t2 => if k t2 = 58 then gThen ((pBoth k 62).1 0 (t2 + 1) (o + 1)) (fun z t3 => some (eCnd x y z, t3)) else none) else none) else some (x, t)
/-- an assignment to x -/
def gAsg (k : Nat → Int) (o : Int) (x : Ast) (t : Nat) : Option (Ast × Nat) := if o + dpT k x < 60 then gThen ((pBoth k 62).1 (-1) (t + 1) (o + 1)) (fun y t2 => some (eAsg t x y, t2)) else none
theorem whole_0 {k : Nat → Int} {L o : Int} {x : Ast} {t : Nat} (hL : L ≤ 0) (h : ¬ (L = -1 ∧ 256 ≤ k t)) : pWhole (pBoth k 62).1 k L o x t = gThen (runW k o 2048 [] x t) (gTer k o) := by
  unfold pWhole
  rw [if_neg h, tail_L (by omega), runW_nil]
  cases pTail (pBoth k 62).1 k 1 o 2048 x t with
  | none => rfl
  | some r =>
    obtain ⟨x1, t1⟩ := r
    show (if L ≤ 0 ∧ k t1 = 63 then _ else some (x1, t1)) = gTer k o x1 t1
    unfold gTer
    by_cases q : k t1 = 63
    · rw [if_pos ⟨hL, q⟩, if_pos q]
      by_cases q2 : o + dpT k x1 < 60
      · rw [if_pos q2, if_pos q2]
        cases (pBoth k 62).1 (-1) (t1 + 1) (o + 1) with
        | none => rfl
        | some r2 =>
          obtain ⟨y, t2⟩ := r2
          show (if k t2 = 58 then _ else none) = (if k t2 = 58 then gThen ((pBoth k 62).1 0 (t2 + 1) (o + 1)) (fun z t3 => some (eCnd x1 y z, t3)) else none)
          by_cases q3 : k t2 = 58
          · rw [if_pos q3, if_pos q3]
            cases (pBoth k 62).1 0 (t2 + 1) (o + 1) with
            | none => rfl
            | some r3 => rfl
          · rw [if_neg q3, if_neg q3]
      · rw [if_neg q2, if_neg q2]
    · rw [if_neg (fun z => q z.2), if_neg q]
theorem pE_g {k : Nat → Int} {o : Int} (h0 : 0 ≤ o) (L : Int) (t : Nat) : (pBoth k 62).1 L t o = gThen ((pBoth k 62).2 t o) (pWhole (pBoth k 62).1 k L o) := ((pE_eq k h0).1 L t).trans gThen_m
theorem p0_eq {k : Nat → Int} {t : Nat} {o : Int} (h0 : 0 ≤ o) : (pBoth k 62).1 0 t o = gThen (gBin k t o) (gTer k o) := by
  rw [pE_g h0 0 t]
  unfold gBin
  rw [gThen_a]
  exact gThen_c (fun x t1 _ => whole_0 (Int.le_refl 0) (fun q => absurd q.1 (by decide)))
theorem rkO_hi {v : Int} (h : 256 ≤ v) : rkO v = 0 := by
  unfold rkO
  repeat' (split; · omega)
  rfl
theorem pm_al {k : Nat → Int} {t t1 : Nat} {o : Int} {x : Ast} (h0 : 0 ≤ o) (h : (pBoth k 62).2 t o = some (x, t1)) (hr : rkO (k t1) ≤ 0) (h63 : ¬ k t1 = 63) : (pBoth k 62).1 0 t o = some (x, t1) := by
  rw [pE_g h0 0 t, h, gThen_s, whole_0 (Int.le_refl 0) (fun q => absurd q.1 (by decide)), run_end (by omega), gThen_s]
  unfold gTer
  rw [if_neg h63]
theorem pm_asg {k : Nat → Int} {t t1 : Nat} {o : Int} {x : Ast} (h0 : 0 ≤ o) (h : (pBoth k 62).2 t o = some (x, t1)) (hr : 256 ≤ k t1) : (pBoth k 62).1 (-1) t o = gAsg k o x t1 := by
  rw [(pE_eq k h0).1 (-1) t, h]
  show pWhole (pBoth k 62).1 k (-1) o x t1 = gAsg k o x t1
  unfold pWhole gAsg
  rw [if_pos ⟨rfl, hr⟩]
  by_cases q2 : o + dpT k x < 60
  · rw [if_pos q2, if_pos q2]
    cases (pBoth k 62).1 (-1) (t1 + 1) (o + 1) with
    | none => rfl
    | some r => rfl
  · rw [if_neg q2, if_neg q2]
theorem pm_no {k : Nat → Int} {t : Nat} {o : Int} (h0 : 0 ≤ o) (h : ∀ (x : Ast) (t1 : Nat), (pBoth k 62).2 t o = some (x, t1) → ¬ 256 ≤ k t1) : (pBoth k 62).1 (-1) t o = (pBoth k 62).1 0 t o := by
  rw [pE_g h0 (-1) t, pE_g h0 0 t]
  exact gThen_c (fun x t1 hg => (whole_0 (by decide) (fun q => h x t1 hg q.2)).trans (whole_0 (Int.le_refl 0) (fun q => absurd q.1 (by decide))).symm)
/-- alone also before a choice -/
def alC (k : Nat → Int) (t : Nat) (o : Int) : Prop := ∃ (x : Ast) (t1 : Nat), (pBoth k 62).2 t o = some (x, t1) ∧ rkO (k t1) ≤ 0 ∧ ¬ k t1 = 63
def HPc (RLc : T_mp_conditional) (ta : Nat → Nat → Int32) (k : Nat → Int) (c : Nat) : Prop := ∀ {t N : Nat} {o : Int} {pf : Nat → Int32} {na ma wa : Nat → Nat → Int32} {pf' : Nat → Int32} {na' ma' wa' : Nat → Nat → Int32} {v xt : Int32}, RCur pf c t o → RW pf o → (pf 13).toInt = (N : Int) → N ≤ t + 10001 → RLc ta pf na ma wa pf' na' ma' wa' v xt → ∃ al : Prop, OkB al k c t o ((pBoth k 62).1 0 t o) N pf na ma wa pf' na' ma' wa' v xt
section RJ
variable {RLe : T_mp_expression} {RLc : T_mp_conditional} {k : Nat → Int} {ta : Nat → Nat → Int32} {c t N : Nat} {o : Int} {pf : Nat → Int32} {na ma wa : Nat → Nat → Int32} {pf' : Nat → Int32} {na' ma' wa' : Nat → Nat → Int32} {v xt : Int32}
theorem dp_cndr {x y z : Ast} : dpT k (eCnd x y z) = max (dpT k x) (max (dpT k y) (dpT k z)) + 1 := by first | rfl | simp [dpT, eCnd]
theorem dp_asgr {j : Nat} {x y : Ast} : dpT k (eAsg j x y) = max (dpT k x) (dpT k y) + 1 := by first | rfl | simp [dpT, eAsg]
theorem cl_cur {z : Int32} {t1 : Nat} (hc : RCur pf c t1 (o + 1)) (h0 : 0 ≤ o) (hz : z = pf 12 - (1 : Int32)) : RCur (upd pf 12 z) c t1 o ∧ (∀ i : Nat, ¬ i = 12 → (upd pf 12 z) i = pf i) := by
  have h2 := hc.2.1
  have h5 := hc.2.2.2.2
  have y := ti_sub hz h2 (show (1 : Int32).toInt = 1 from rfl) (by omega) (by omega)
  refine ⟨⟨?_, ?_, hc.2.2.1, hc.2.2.2.1, h0, by omega⟩, fun i hi => pk_un hi⟩
  · rw [pk_un (by decide)]; exact hc.1
  · rw [pk_us]; omega
theorem cl_wk {z : Int32} : WKp pf wa (upd pf 12 z) wa := ⟨fun i _ b _ _ => pk_un b, by rw [pk_un (by decide)], fun _ _ _ => rfl⟩
theorem cnd_mk {x y z : Ast} {t2 t3 t4 N1 N2 : Nat} {pf5 pf42 pf60 pf84 pf100 pf125 : Nat → Int32} {na6 ma7 wa8 na61 ma62 wa63 na101 ma102 wa103 na126 ma127 : Nat → Nat → Int32} {w1 v65 w3 z121 v129 zd fx x1 x2 x3 x4 x5 : Int32} (h0 : 0 ≤ o) (hb : N ≤ t + 10001) (A : OkR k c t o (some (x, t2)) N pf na ma wa pf5 na6 ma7 wa8 w1 0) (s1 : RSm pf5 pf42) (hN1 : (pf5 13).toInt = (N1 : Int)) (B : OkR k c (t2 + 1) (o + 1) (some (y, t3)) N1 pf42 na6 ma7 wa8 pf60 na61 ma62 wa63 v65 0) (s2 : RSm pf60 pf84) (hN2 : (pf60 13).toInt = (N2 : Int)) (C : OkR k c (t3 + 1) (o + 1) (some (z, t4)) N2 pf84 na61 ma62 wa63 pf100 na101 ma102 wa103 w3 0) (hz : z121 = pf100 12 - (1 : Int32)) (h : R_mp_make (8 : Int32) (pf5 11) (upd pf100 12 z121) na101 ma102 pf125 na126 ma127 v129) (g1 : x1 = na126 23 w1.toNatClampNeg) (g2 : x2 = na126 23 v65.toNatClampNeg) (g3 : x3 = na126 23 w3.toNatClampNeg) (g4 : R_mp_deeper x2 x3 x4) (g5 : R_mp_deeper x1 x4 x5) (g6 : zd = (1 : Int32) + x5) : OkR k c t o (some (eCnd x y z, t4)) N pf na ma wa pf125 (vu (vu (vu na126 23 v129.toNatClampNeg zd) 16 v129.toNatClampNeg fx) 17 v129.toNatClampNeg w1) (vu (vu ma127 18 v129.toNatClampNeg v65) 19 v129.toNatClampNeg w3) wa103 v129 0 := by
  obtain ⟨-, M1, i1, a1, a2, a3, a4, a5, a6, a7, a8, a9, a10, a11⟩ := A
  obtain ⟨-, M2, i2, b1, b2, b3, b4, b5, b6, b7, b8, b9, b10, b11⟩ := B
  obtain ⟨-, M3, i3, d1, d2, d3, d4, d5, d6, d7, d8, d9, d10, d11⟩ := C
  simp only [] at a2 a4 a5 a6 a8 a9 b2 b4 b5 b6 b8 b9 d2 d4 d5 d6 d8 d9
  obtain rfl : M1 = N1 := by omega
  obtain rfl : M2 = N2 := by omega
  have c1 := d4.2.2.1
  have c2 := d4.2.2.2.1
  obtain ⟨k1, k2⟩ := cl_cur d4 h0 hz
  obtain ⟨m1, m2, m3, m4⟩ := make_r (N := M3) (by rw [k2 13 (by decide)]; exact d3) (by omega) (show (vp_nar .byte (8 : Int32).toInt8.toInt32).toInt = 8 from rfl) a4.1 h
  have hc1 := k1.mk m3
  have dd := dp_cndr (k := k) (x := x) (y := y) (z := z)
  rw [cn_of a1, (m4.2 23 i1 (by omega)).1, (d10 i1 (Nat.zero_le _) (by omega)).2.2.2.2.2.2.1, (b10 i1 (Nat.zero_le _) (by omega)).2.2.2.2.2.2.1] at g1
  rw [cn_of b1, (m4.2 23 i2 (by omega)).1, (d10 i2 (Nat.zero_le _) (by omega)).2.2.2.2.2.2.1] at g2
  rw [cn_of d1, (m4.2 23 i3 (by omega)).1] at g3
  have y1 : x1.toInt = dpT k x := by rw [g1]; exact a8
  have y2 : x2.toInt = dpT k y := by rw [g2]; exact b8
  have y3 : x3.toInt = dpT k z := by rw [g3]; exact d8
  have y4 := deeper_r g4
  have y5 := deeper_r g5
  have y6 := ti_add g6 (show (1 : Int32).toInt = 1 from rfl) y5 (by omega) (by omega)
  have hd : zd.toInt = dpT k (eCnd x y z) := by omega
  rw [cn_of m1]
  generalize hA : vu (vu (vu na126 23 M3 zd) 16 M3 fx) 17 M3 w1 = nb
  generalize hB : vu (vu ma127 18 M3 v65) 19 M3 w3 = mb
  have at' : ∀ f i : Nat, ¬ i = M3 → nb f i = na101 f i ∧ mb f i = ma102 f i := fun f i hi => by
    refine ⟨?_, ?_⟩
    · rw [← hA, vu_p (fun q => hi q.2), vu_p (fun q => hi q.2), vu_p (fun q => hi q.2)]; exact (m4.2 f i hi).1
    · rw [← hB, vu_p (fun q => hi q.2), vu_p (fun q => hi q.2)]; exact (m4.2 f i hi).2
  have n14 : (nb 14 M3).toInt = 8 := by rw [← hA, vu_p (by omega), vu_p (by omega), vu_p (by omega)]; exact m4.1.1.1
  have n17 : (nb 17 M3).toInt = (i1 : Int) := by rw [← hA, vu_s]; exact a1
  have n21 : (nb 21 M3).toInt = -1 := by rw [← hA, vu_p (by omega), vu_p (by omega), vu_p (by omega)]; exact m4.1.2.2.1
  have n23 : (nb 23 M3).toInt = dpT k (eCnd x y z) := by rw [← hA, vu_p (by omega), vu_p (by omega), vu_s]; exact hd
  have q18 : (mb 18 M3).toInt = (i2 : Int) := by rw [← hB, vu_p (by omega), vu_s]; exact b1
  have q19 : (mb 19 M3).toInt = (i3 : Int) := by rw [← hB, vu_s]; exact d1
  have q20 : (mb 20 M3).toInt = -1 := by rw [← hB, vu_p (by omega), vu_p (by omega)]; exact m4.1.2.2.2.2.2.2.1
  clear hA hB
  refine ⟨rfl, M3 + 1, M3, m1, by simp only []; omega, by rw [m2]; rfl, hc1, rfl, ⟨M3, M1, M2, rfl, by omega, n14, n23, ⟨a5, b5, d5⟩, ?_, ?_, ?_⟩, ⟨n21, q20⟩, n23, by simp only []; omega, ?_, ?_⟩
  · rw [n17]
    exact rep_kp _ _ _ _ _ _ a6 (fun _ => (((b10.le (Nat.zero_le _) (Nat.le_refl _)).tr ((d10.le (Nat.zero_le _) (by omega)).tr (ag_at at' (Or.inl (by omega))))).rt (Or.inl (by omega)))) (fun z => absurd z (by decide))
  · rw [q18]
    exact rep_kp _ _ _ _ _ _ b6 (fun _ => (((d10.le (Nat.zero_le _) (Nat.le_refl _)).tr (ag_at at' (Or.inl (by omega)))).rt (Or.inl (by omega)))) (fun z => absurd z (by decide))
  · rw [q19]
    exact rep_kp _ _ _ _ _ _ d6 (fun _ => ag_at at' (Or.inl (Nat.le_refl _))) (fun z => absurd z (by decide))
  · exact a10.tr ((b10.le (Nat.le_refl _) (by omega)).tr ((d10.le (Nat.le_refl _) (by omega)).tr (ag_at at' (Or.inl (by omega)))))
  · exact a11.tr (s1.wk.tr (b11.tr (s2.wk.tr (d11.tr (cl_wk.tr (mk_wk m3))))))
theorem asg_mk {x y : Ast} {t2 t3 N1 : Nat} {pf5 pf42 pf60 pf94 : Nat → Int32} {na6 ma7 wa8 na61 ma62 wa63 na95 ma96 : Nat → Nat → Int32} {w1 v65 z90 v98 zd fx x1 x2 x3 : Int32} (h0 : 0 ≤ o) (hb : N ≤ t + 10001) (h256 : 256 ≤ k t2) (A : OkR k c t o (some (x, t2)) N pf na ma wa pf5 na6 ma7 wa8 w1 0) (s1 : RSm pf5 pf42) (hN1 : (pf5 13).toInt = (N1 : Int)) (B : OkR k c (t2 + 1) (o + 1) (some (y, t3)) N1 pf42 na6 ma7 wa8 pf60 na61 ma62 wa63 v65 0) (hz : z90 = pf60 12 - (1 : Int32)) (h : R_mp_make (9 : Int32) (pf5 11) (upd pf60 12 z90) na61 ma62 pf94 na95 ma96 v98) (g1 : x1 = na95 23 w1.toNatClampNeg) (g2 : x2 = na95 23 v65.toNatClampNeg) (g3 : R_mp_deeper x1 x2 x3) (g4 : zd = (1 : Int32) + x3) : OkR k c t o (some (eAsg t2 x y, t3)) N pf na ma wa pf94 (vu (vu (vu na95 23 v98.toNatClampNeg zd) 16 v98.toNatClampNeg fx) 17 v98.toNatClampNeg w1) (vu ma96 18 v98.toNatClampNeg v65) wa63 v98 0 := by
  obtain ⟨-, M1, i1, a1, a2, a3, a4, a5, a6, a7, a8, a9, a10, a11⟩ := A
  obtain ⟨-, M2, i2, b1, b2, b3, b4, b5, b6, b7, b8, b9, b10, b11⟩ := B
  simp only [] at a2 a4 a5 a6 a8 a9 b2 b4 b5 b6 b8 b9
  obtain rfl : M1 = N1 := by omega
  have c1 := b4.2.2.1
  have c2 := b4.2.2.2.1
  obtain ⟨k1, k2⟩ := cl_cur b4 h0 hz
  obtain ⟨m1, m2, m3, m4⟩ := make_r (N := M2) (by rw [k2 13 (by decide)]; exact b3) (by omega) (show (vp_nar .byte (9 : Int32).toInt8.toInt32).toInt = 9 from rfl) a4.1 h
  have hc1 := k1.mk m3
  have dd := dp_asgr (k := k) (j := t2) (x := x) (y := y)
  rw [cn_of a1, (m4.2 23 i1 (by omega)).1, (b10 i1 (Nat.zero_le _) (by omega)).2.2.2.2.2.2.1] at g1
  rw [cn_of b1, (m4.2 23 i2 (by omega)).1] at g2
  have y1 : x1.toInt = dpT k x := by rw [g1]; exact a8
  have y2 : x2.toInt = dpT k y := by rw [g2]; exact b8
  have y3 := deeper_r g3
  have y6 := ti_add g4 (show (1 : Int32).toInt = 1 from rfl) y3 (by omega) (by omega)
  have hd : zd.toInt = dpT k (eAsg t2 x y) := by omega
  rw [cn_of m1]
  generalize hA : vu (vu (vu na95 23 M2 zd) 16 M2 fx) 17 M2 w1 = nb
  generalize hB : vu ma96 18 M2 v65 = mb
  have at' : ∀ f i : Nat, ¬ i = M2 → nb f i = na61 f i ∧ mb f i = ma62 f i := fun f i hi => by
    refine ⟨?_, ?_⟩
    · rw [← hA, vu_p (fun q => hi q.2), vu_p (fun q => hi q.2), vu_p (fun q => hi q.2)]; exact (m4.2 f i hi).1
    · rw [← hB, vu_p (fun q => hi q.2)]; exact (m4.2 f i hi).2
  have n14 : (nb 14 M2).toInt = 9 := by rw [← hA, vu_p (by omega), vu_p (by omega), vu_p (by omega)]; exact m4.1.1.1
  have n15 : (nb 15 M2).toInt = (t2 : Int) := by rw [← hA, vu_p (by omega), vu_p (by omega), vu_p (by omega)]; exact m4.1.1.2
  have n17 : (nb 17 M2).toInt = (i1 : Int) := by rw [← hA, vu_s]; exact a1
  have n21 : (nb 21 M2).toInt = -1 := by rw [← hA, vu_p (by omega), vu_p (by omega), vu_p (by omega)]; exact m4.1.2.2.1
  have n23 : (nb 23 M2).toInt = dpT k (eAsg t2 x y) := by rw [← hA, vu_p (by omega), vu_p (by omega), vu_s]; exact hd
  have q18 : (mb 18 M2).toInt = (i2 : Int) := by rw [← hB, vu_s]; exact b1
  have q20 : (mb 20 M2).toInt = -1 := by rw [← hB, vu_p (by omega)]; exact m4.1.2.2.2.2.2.2.1
  clear hA hB
  refine ⟨rfl, M2 + 1, M2, m1, by simp only []; omega, by rw [m2]; rfl, hc1, rfl, ⟨M2, M1, rfl, by omega, ⟨n14, n15⟩, n23, ⟨by omega, h256, a5, b5⟩, ?_, ?_⟩, ⟨n21, q20⟩, n23, by simp only []; omega, ?_, ?_⟩
  · rw [n17]
    exact rep_kp _ _ _ _ _ _ a6 (fun _ => (((b10.le (Nat.zero_le _) (Nat.le_refl _)).tr (ag_at at' (Or.inl (by omega)))).rt (Or.inl (by omega)))) (fun z => absurd z (by decide))
  · rw [q18]
    exact rep_kp _ _ _ _ _ _ b6 (fun _ => ag_at at' (Or.inl (Nat.le_refl _))) (fun z => absurd z (by decide))
  · exact a10.tr ((b10.le (Nat.le_refl _) (by omega)).tr (ag_at at' (Or.inl (by omega))))
  · exact a11.tr (s1.wk.tr (b11.tr (cl_wk.tr (mk_wk m3))))
theorem OkR.vv {g : Option (Ast × Nat)} {u w : Int32} (q : OkR k c t o g N pf na ma wa pf' na' ma' wa' u xt) (h : w.toInt = u.toInt) : OkR k c t o g N pf na ma wa pf' na' ma' wa' w xt := by
  cases g with
  | none => exact q
  | some r =>
    obtain ⟨q0, N', i, q1, q2⟩ := q
    exact ⟨q0, N', i, h.trans q1, q2⟩
theorem OkR.i0 {e : Ast} {t1 : Nat} {u : Int32} (q : OkR k c t o (some (e, t1)) N pf na ma wa pf' na' ma' wa' u xt) : 0 ≤ u.toInt := by
  obtain ⟨q0, N', i, q1, q2⟩ := q
  omega
theorem cnd_q (hP : HPr RLe ta k c (pBoth k 62).1) (hQ : HPc RLc ta k c) (hT : RTk ta c) (hk : ∀ i : Nat, i < c → rkd ta i = k i) (h0 : 0 ≤ o) (hb : N ≤ t + 10001) (hW : RW pf o) {w : Int32} {x : Ast} {t2 : Nat} {pf5 : Nat → Int32} {na6 ma7 wa8 : Nat → Nat → Int32} (A : OkR k c t o (some (x, t2)) N pf na ma wa pf5 na6 ma7 wa8 w 0) (h63 : k t2 = 63) {Z : (Nat → Int32) → (Nat → Int32) → (Nat → Nat → Int32) → (Nat → Nat → Int32) → (Nat → Nat → Int32) → Int32 → (Nat → Int32) → (Nat → Int32) → (Nat → Nat → Int32) → (Nat → Nat → Int32) → (Nat → Nat → Int32) → Int32 → Prop}
    (hZ : ∀ (pf42 pf60 : Nat → Int32) (na61 ma62 wa63 : Nat → Nat → Int32) (v65 : Int32) (pf84 pf100 : Nat → Int32) (na101 ma102 wa103 : Nat → Nat → Int32) (v105 : Int32) (N1 N2 t3 t4 : Nat) (y z : Ast) (u : Int32), RSm pf5 pf42 → (pf5 13).toInt = (N1 : Int) → OkR k c (t2 + 1) (o + 1) (some (y, t3)) N1 pf42 na6 ma7 wa8 pf60 na61 ma62 wa63 v65 0 → RSm pf60 pf84 → (pf60 13).toInt = (N2 : Int) → OkR k c (t3 + 1) (o + 1) (some (z, t4)) N2 pf84 na61 ma62 wa63 pf100 na101 ma102 wa103 u 0 → (v105.toInt = -1 - u.toInt ∨ v105.toInt = u.toInt) → Z pf42 pf60 na61 ma62 wa63 v65 pf84 pf100 na101 ma102 wa103 v105 → OkR k c t o (some (eCnd x y z, t4)) N pf na ma wa pf' na' ma' wa' v xt)
    (h : ((R_mp_stands pf5 na6 w 1) ∧ pf' = pf5 ∧ na' = na6 ∧ ma' = ma7 ∧ wa' = wa8 ∧ v = 0 ∧ xt = 1) ∨ ((R_mp_stands pf5 na6 w 0) ∧ ((∃ (pq1 : Nat → Int32), (R_mp_opens pf5 pq1 1) ∧ pf' = pq1 ∧ na' = na6 ∧ ma' = ma7 ∧ wa' = wa8 ∧ v = 0 ∧ xt = 1) ∨ (∃ (pf42 : Nat → Int32), (R_mp_opens pf5 pf42 0) ∧ ((∃ (pq1 : Nat → Int32), ∃ (pq2 : Nat → Nat → Int32), ∃ (pq3 : Nat → Nat → Int32), ∃ (pq4 : Nat → Nat → Int32), (RLe ta pf42 na6 ma7 wa8 pq1 pq2 pq3 pq4 0 1) ∧ pf' = pq1 ∧ na' = pq2 ∧ ma' = pq3 ∧ wa' = pq4 ∧ v = 0 ∧ xt = 1) ∨ (∃ (pf60 : Nat → Int32), ∃ (na61 : Nat → Nat → Int32), ∃ (ma62 : Nat → Nat → Int32), ∃ (wa63 : Nat → Nat → Int32), ∃ (v65 : Int32), (RLe ta pf42 na6 ma7 wa8 pf60 na61 ma62 wa63 v65 0) ∧ ((∃ (pq1 : Nat → Int32), (R_mp_take 1 (lby ":") ta pf60 pq1 1) ∧ pf' = pq1 ∧ na' = na61 ∧ ma' = ma62 ∧ wa' = wa63 ∧ v = 0 ∧ xt = 1) ∨ (∃ (pf84 : Nat → Int32), (R_mp_take 1 (lby ":") ta pf60 pf84 0) ∧ ((∃ (pq1 : Nat → Int32), ∃ (pq2 : Nat → Nat → Int32), ∃ (pq3 : Nat → Nat → Int32), ∃ (pq4 : Nat → Nat → Int32), (RLc ta pf84 na61 ma62 wa63 pq1 pq2 pq3 pq4 0 1) ∧ pf' = pq1 ∧ na' = pq2 ∧ ma' = pq3 ∧ wa' = pq4 ∧ v = 0 ∧ xt = 1) ∨ (∃ (pf100 : Nat → Int32), ∃ (na101 : Nat → Nat → Int32), ∃ (ma102 : Nat → Nat → Int32), ∃ (wa103 : Nat → Nat → Int32), ∃ (v105 : Int32), (RLc ta pf84 na61 ma62 wa63 pf100 na101 ma102 wa103 v105 0) ∧ Z pf42 pf60 na61 ma62 wa63 v65 pf84 pf100 na101 ma102 wa103 v105))))))))))
    : OkR k c t o (gTer k o x t2) N pf na ma wa pf' na' ma' wa' v xt := by
  unfold gTer
  rw [if_pos h63]
  have A' := A
  obtain ⟨-, N1, i1, a1, a2, a3, a4, a5, a6, a7, a8, a9, a10, a11⟩ := A'
  simp only [] at a2 a4 a5 a6 a8 a9
  have c1 := a4.2.2.1
  have c2 := a4.2.2.2.1
  have st := fun {z : Int32} (y : R_mp_stands pf5 na6 w z) => stands_r a4 a1 a8 (by omega) y
  have hl : t2 + 1 < c := rlt hT a4 (by rw [hk t2 c1]; omega)
  rcases h with ⟨h1, e0, e1, e2, e3, ev, ex⟩ | ⟨h1, h⟩
  · rcases st h1 with ⟨y1, y2⟩ | ⟨y1, y2⟩
    · exact absurd y2 (by decide)
    · rw [if_neg y1]; exact ex
  · rcases st h1 with ⟨y1, y2⟩ | ⟨y1, y2⟩
    · rw [if_pos y1]
      rcases h with ⟨pq1, h3, e0, e1, e2, e3, ev, ex⟩ | ⟨pf42, h3, h⟩
      · rcases (opens_r a4 hl h3).2 with ⟨u1, u2, u3⟩ | ⟨u1, u2⟩
        · exact absurd u2 (by decide)
        · exfalso; omega
      · obtain ⟨r1, r2⟩ := opens_r a4 hl h3
        rcases r2 with ⟨u1, u2, u3⟩ | ⟨u1, u2⟩
        · have hW1 : RW pf42 (o + 1) := (hW.wk a11).sm r1 (by omega)
          have hN1 : (pf42 13).toInt = (N1 : Int) := by rw [r1 13 (by decide) (by decide)]; exact a3
          rcases h with ⟨pq1, pq2, pq3, pq4, h4, e0, e1, e2, e3, ev, ex⟩ | ⟨pf60, na61, ma62, wa63, v65, h4, h⟩
          · rw [(hP u3 hW1 hN1 (by omega) h4).no]; exact ex
          · have B := hP u3 hW1 hN1 (by omega) h4
            obtain ⟨g, hg⟩ := B.sm
            obtain ⟨y, t3⟩ := g
            rw [hg] at B ⊢
            show OkR k c t o (if k t3 = 58 then gThen ((pBoth k 62).1 0 (t3 + 1) (o + 1)) (fun z t4 => some (eCnd x y z, t4)) else none) N pf na ma wa pf' na' ma' wa' v xt
            have B' := B
            obtain ⟨-, N2, i2, b1, b2, b3, b4, b5, b6, b7, b8, b9, b10, b11⟩ := B'
            simp only [] at b2 b4 b5 b6 b8 b9
            have tk := fun {p : Nat → Int32} {z : Int32} (y : R_mp_take 1 (lby ":") ta pf60 p z) => take_r hT b4 (by decide) mq_58 (by decide) y
            rw [hk t3 b4.2.2.1] at tk
            rcases h with ⟨pq1, h5, e0, e1, e2, e3, ev, ex⟩ | ⟨pf84, h5, h⟩
            · rcases (tk h5).2 with ⟨z1, z2, z3⟩ | ⟨z1, z2⟩
              · exact absurd z2 (by decide)
              · rw [if_neg z1]; exact ex
            · obtain ⟨s1, s2⟩ := tk h5
              rcases s2 with ⟨z1, z2, z3⟩ | ⟨z1, z2⟩
              · rw [if_pos z1]
                have hW2 : RW pf84 (o + 1) := (hW1.wk b11).sm s1 (Int.le_refl _)
                have hN2 : (pf84 13).toInt = (N2 : Int) := by rw [s1 13 (by decide) (by decide)]; exact b3
                rcases h with ⟨pq1, pq2, pq3, pq4, h6, e0, e1, e2, e3, ev, ex⟩ | ⟨pf100, na101, ma102, wa103, v105, h6, hz⟩
                · obtain ⟨al, w', C, -⟩ := hQ z3 hW2 hN2 (by omega) h6
                  rw [C.no]; exact ex
                · obtain ⟨al, w', C, C2⟩ := hQ z3 hW2 hN2 (by omega) h6
                  obtain ⟨g, hg⟩ := C.sm
                  obtain ⟨z, t4⟩ := g
                  rw [hg] at C ⊢
                  exact hZ pf42 pf60 na61 ma62 wa63 v65 pf84 pf100 na101 ma102 wa103 v105 N1 N2 t3 t4 y z w' r1 a3 B s1 b3 C ((C2 rfl).imp (fun q => q.2) (fun q => q.2)) hz
              · exact absurd z2 (by decide)
        · exact absurd u2 (by decide)
    · exact absurd y2 (by decide)
theorem cnd_ok (hW : RW pf o) (hP : HPr RLe ta k c (pBoth k 62).1) (hQ : HPc RLc ta k c) (hT : RTk ta c) (hk : ∀ i : Nat, i < c → rkd ta i = k i) (hPl : RPl ta c) (hc : RCur pf c t o) (hN : (pf 13).toInt = (N : Int)) (hb : N ≤ t + 10001) (h : R_mp_conditional RLe RLc ta pf na ma wa pf' na' ma' wa' v xt) : OkB (alC k t o) k c t o ((pBoth k 62).1 0 t o) N pf na ma wa pf' na' ma' wa' v xt := by
  have h0 := hc.2.2.2.2.1
  rw [p0_eq h0]
  obtain (⟨pq1, pq2, pq3, pq4, h1, e0, e1, e2, e3, ev, ex⟩ | ⟨pf5, na6, ma7, wa8, v10, h1, v29, h2, h⟩) | h := h
  · obtain ⟨u, q1, -⟩ := bin_ok hW hP hT hk hPl hc hN hb h1
    rw [q1.no, gThen_n]; exact OkB.thr ex
  · obtain ⟨u, q1, q2⟩ := bin_ok hW hP hT hk hPl hc hN hb h1
    obtain ⟨g, hg⟩ := q1.sm
    obtain ⟨x, t2⟩ := g
    rw [hg] at q1
    rw [hg, gThen_s]
    have u0 := q1.i0
    have c4 : RCur pf5 c t2 o := by
      obtain ⟨-, N1, i1, a1, a2, a3, a4, -⟩ := q1
      exact a4
    have w1 := is_r hT c4 (by decide) mq_63 (by decide) h2
    rw [hk t2 c4.2.2.1] at w1
    /- alone: the operand itself is what was read -/
    have al1 : ∀ (x' : Ast) (t1 : Nat), (pBoth k 62).2 t o = some (x', t1) → rkO (k t1) ≤ 0 → t1 = t2 := fun x' t1 e1 e2 => by
      unfold gBin at hg
      rw [e1, gThen_s, run_end (by omega)] at hg
      injection hg with hg
      injection hg with f1 f2
    rcases h with ⟨h3, h⟩ | ⟨h3, e0, e1, e2, e3, ev, ex⟩
    · have y63 : k t2 = 63 := w1.2.mp (by omega)
      have nal : ¬ alC k t o := fun ⟨x', t1, f1, f2, f3⟩ => by
        have := al1 x' t1 f1 f2
        rw [this] at f3
        exact f3 y63
      have fin : OkR k c t o (gTer k o x t2) N pf na ma wa pf' na' ma' wa' v xt → OkB (alC k t o) k c t o (gTer k o x t2) N pf na ma wa pf' na' ma' wa' v xt := fun q => ⟨v, q, fun _ => Or.inr ⟨nal, rfl⟩⟩
      apply fin
      rcases h with ⟨h4, h⟩ | ⟨h4, z184, h5, h⟩
      · have ev10 : v10.toInt = u.toInt := by
          rcases q2 rfl with ⟨-, y⟩ | ⟨-, y⟩
          · exfalso; omega
          · exact y
        refine cnd_q hP hQ hT hk h0 hb hW (q1.vv ev10) y63 ?_ h
        intro pf42 pf60 na61 ma62 wa63 v65 pf84 pf100 na101 ma102 wa103 v105 N1 N2 t3 t4 y z w' r1 r2 r3 r4 r5 r6 r7 hz
        have w0 := r6.i0
        obtain ⟨z121, h10, pf125, na126, ma127, v129, h11, h12, z142, h13, z143, h14, hz⟩ := hz
        rcases hz with ⟨h15, z146, h16, v148, h17, v154, h18, z159, h19, h20, h21, e0, e1, e2, e3, ev, ex⟩ | ⟨h15, z164, h16, z165, h17, v167, h18, v173, h19, z178, h20, h21, h22, z183, h23, e0, e1, e2, e3, ev, ex⟩
        · have e105 : v105.toInt = w'.toInt := by rcases r7 with y | y <;> omega
          rw [e0, e1, e2, e3, ev, ex]
          exact cnd_mk h0 hb (q1.vv ev10) r1 r2 r3 r4 r5 (r6.vv e105) h10 h11 h13 h14 h16 h17 h18 h19
        · have e105 : v105.toInt = -1 - w'.toInt := by rcases r7 with y | y <;> omega
          have i2 := Int32.toInt_lt w'
          have e164 := ti_sub h16 (show (-1 : Int32).toInt = -1 from rfl) e105 (by omega) (by omega)
          rw [e0, e1, e2, e3, ev, ex]
          exact cnd_mk h0 hb (q1.vv ev10) r1 r2 r3 r4 r5 (r6.vv (show z164.toInt = w'.toInt by omega)) h10 h11 h13 h14 h17 h18 h19 h20
      · have ev10 : v10.toInt = -1 - u.toInt := by
          rcases q2 rfl with ⟨-, y⟩ | ⟨-, y⟩
          · exact y
          · exfalso; omega
        have i1 := Int32.toInt_lt u
        have e184 := ti_sub h5 (show (-1 : Int32).toInt = -1 from rfl) ev10 (by omega) (by omega)
        have e184' : z184.toInt = u.toInt := by omega
        refine cnd_q hP hQ hT hk h0 hb hW (q1.vv e184') y63 ?_ h
        intro pf42 pf60 na61 ma62 wa63 v65 pf84 pf100 na101 ma102 wa103 v105 N1 N2 t3 t4 y z w' r1 r2 r3 r4 r5 r6 r7 hz
        have w0 := r6.i0
        obtain ⟨z121, h10, pf125, na126, ma127, v129, h11, h12, z290, h13, z291, h14, z292, h15, hz⟩ := hz
        rcases hz with ⟨h17, z295, h18, v297, h19, v303, h20, z308, h21, h22, z311, h23, h24, e0, e1, e2, e3, ev, ex⟩ | ⟨h17, z314, h18, z315, h19, v317, h20, v323, h21, z328, h22, h23, z331, h24, h25, z334, h26, e0, e1, e2, e3, ev, ex⟩
        · have e105 : v105.toInt = w'.toInt := by rcases r7 with y | y <;> omega
          rw [e0, e1, e2, e3, ev, ex]
          exact cnd_mk h0 hb (q1.vv e184') r1 r2 r3 r4 r5 (r6.vv e105) h10 h11 h14 h15 h18 h19 h20 h21
        · have e105 : v105.toInt = -1 - w'.toInt := by rcases r7 with y | y <;> omega
          have i2 := Int32.toInt_lt w'
          have e314 := ti_sub h18 (show (-1 : Int32).toInt = -1 from rfl) e105 (by omega) (by omega)
          rw [e0, e1, e2, e3, ev, ex]
          exact cnd_mk h0 hb (q1.vv e184') r1 r2 r3 r4 r5 (r6.vv (show z314.toInt = w'.toInt by omega)) h10 h11 h14 h15 h19 h20 h21 h22
    · have n63 : ¬ k t2 = 63 := fun y => by have := w1.2.mpr y; omega
      have gt : gTer k o x t2 = some (x, t2) := by unfold gTer; rw [if_neg n63]
      rw [gt, e0, e1, e2, e3, ev, ex]
      refine ⟨u, q1, fun e => ?_⟩
      rcases q2 rfl with ⟨⟨x', t1, f1, f2⟩, y2⟩ | ⟨y1, y2⟩
      · exact Or.inl ⟨⟨x', t1, f1, f2, by rw [al1 x' t1 f1 f2]; exact n63⟩, y2⟩
      · exact Or.inr ⟨fun ⟨x', t1, f1, f2, f3⟩ => y1 ⟨x', t1, f1, f2⟩, y2⟩
  · exact h.elim
theorem exp_ok (hW : RW pf o) (hP : HPr RLe ta k c (pBoth k 62).1) (hQ : HPc RLc ta k c) (hT : RTk ta c) (hk : ∀ i : Nat, i < c → rkd ta i = k i) (hPl : RPl ta c) (hc : RCur pf c t o) (hN : (pf 13).toInt = (N : Int)) (hb : N ≤ t + 10001) (h : R_mp_expression RLe RLc ta pf na ma wa pf' na' ma' wa' v xt) : OkR k c t o ((pBoth k 62).1 (-1) t o) N pf na ma wa pf' na' ma' wa' v xt := by
  have h0 := hc.2.2.2.2.1
  have hi := fun {t1 : Nat} (q : 256 ≤ k t1) => rkO_hi q
  obtain (⟨pq1, pq2, pq3, pq4, h1, e0, e1, e2, e3, ev, ex⟩ | ⟨pf5, na6, ma7, wa8, v10, h1, h⟩) | h := h
  · obtain ⟨u, q1, -⟩ := cnd_ok hW hP hQ hT hk hPl hc hN hb h1
    have gn := q1.no
    rw [pm_no h0 (fun x t1 f1 f2 => by
      have y := pm_al h0 f1 (by rw [hi f2]; exact Int.le_refl 0) (by omega)
      rw [gn] at y
      exact absurd y (by simp)), gn]
    exact ex
  · obtain ⟨u, q1, q2⟩ := cnd_ok hW hP hQ hT hk hPl hc hN hb h1
    obtain ⟨g, hg⟩ := q1.sm
    obtain ⟨x, t2⟩ := g
    have q1' := q1
    rw [hg] at q1
    have u0 := q1.i0
    have A := q1
    obtain ⟨-, N1, i1, a1, a2, a3, a4, a5, a6, a7, a8, a9, a10, a11⟩ := q1
    simp only [] at a2 a4 a5 a6 a8 a9
    have c1 := a4.2.2.1
    have c2 := a4.2.2.2.1
    have as := fun {z : Int32} (y : R_mp_isAssigning ta pf5 z) => isAssigning_r hT a4 y
    rw [hk t2 c1] at as
    rcases h with ⟨h2, v29, h3, h⟩ | ⟨h2, z37, h3, v39, h4, h⟩
    · have nal : ¬ alC k t o ∧ v10.toInt = u.toInt := by
        rcases q2 rfl with ⟨-, y⟩ | y
        · exfalso; omega
        · exact y
      have fin : OkR k c t o ((pBoth k 62).1 (-1) t o) N pf na ma wa pf5 na6 ma7 wa8 v10 0 := by
        rw [pm_no h0 (fun x' t1 f1 f2 => nal.1 ⟨x', t1, f1, by rw [hi f2]; exact Int.le_refl 0, by omega⟩)]
        exact q1'.vv nal.2
      rcases h with ⟨h4, e0, e1, e2, e3, ev, ex⟩ | ⟨h4, e0, e1, e2, e3, ev, ex⟩
      · rw [e0, e1, e2, e3, ev, ex]; exact fin
      · rw [e0, e1, e2, e3, ev, ex]; exact fin
    · have al : alC k t o ∧ v10.toInt = -1 - u.toInt := by
        rcases q2 rfl with y | ⟨-, y⟩
        · exact y
        · exfalso; omega
      obtain ⟨⟨x', t1, f1, f2, f3⟩, ev10⟩ := al
      have pa := pm_al h0 f1 f2 f3
      rw [hg] at pa
      injection pa with pa
      injection pa with g1 g2
      subst g1
      subst g2
      have i2 := Int32.toInt_lt u
      have e37 := ti_sub h3 (show (-1 : Int32).toInt = -1 from rfl) ev10 (by omega) (by omega)
      have e37' : z37.toInt = u.toInt := by omega
      have w2 := as h4
      rcases h with ⟨h5, e0, e1, e2, e3, ev, ex⟩ | ⟨h5, h⟩
      · have n256 : ¬ 256 ≤ k t2 := fun y => by have := w2.2.mpr y; omega
        rw [pm_no h0 (fun x' t1 f1' f2' => by
          rw [f1] at f1'
          injection f1' with f1'
          injection f1' with k1 k2
          rw [← k2] at f2'
          exact n256 f2'), e0, e1, e2, e3, ev, ex]
        exact q1'.vv e37'
      · have y256 : 256 ≤ k t2 := w2.2.mp (by omega)
        rw [pm_asg h0 f1 y256]
        unfold gAsg
        have st := fun {z : Int32} (y : R_mp_stands pf5 na6 z37 z) => stands_r a4 (show z37.toInt = (i1 : Int) by omega) a8 (by omega) y
        have hl : t2 + 1 < c := rlt hT a4 (by rw [hk t2 c1]; omega)
        rcases h with ⟨h6, e0, e1, e2, e3, ev, ex⟩ | ⟨h6, h⟩
        · rcases st h6 with ⟨y1, y2⟩ | ⟨y1, y2⟩
          · exact absurd y2 (by decide)
          · rw [if_neg y1]; exact ex
        · rcases st h6 with ⟨y1, y2⟩ | ⟨y1, y2⟩
          · rw [if_pos y1]
            rcases h with ⟨pq1, h7, e0, e1, e2, e3, ev, ex⟩ | ⟨pf51, h7, h⟩
            · rcases (opens_r a4 hl h7).2 with ⟨u1, u2, u3⟩ | ⟨u1, u2⟩
              · exact absurd u2 (by decide)
              · exfalso; omega
            · obtain ⟨r1, r2⟩ := opens_r a4 hl h7
              rcases r2 with ⟨u1, u2, u3⟩ | ⟨u1, u2⟩
              · have hW1 : RW pf51 (o + 1) := (hW.wk a11).sm r1 (by omega)
                have hN1 : (pf51 13).toInt = (N1 : Int) := by rw [r1 13 (by decide) (by decide)]; exact a3
                rcases h with ⟨pq1, pq2, pq3, pq4, h8, e0, e1, e2, e3, ev, ex⟩ | ⟨pf69, na70, ma71, wa72, v74, h8, z90, h9, pf94, na95, ma96, v98, h10, z109, h11, z110, h12, v112, h13, z117, h14, e0, e1, e2, e3, ev, ex⟩
                · rw [(hP u3 hW1 hN1 (by omega) h8).no]; exact ex
                · have B := hP u3 hW1 hN1 (by omega) h8
                  obtain ⟨g, hg2⟩ := B.sm
                  obtain ⟨y, t3⟩ := g
                  rw [hg2] at B ⊢
                  rw [e0, e1, e2, e3, ev, ex]
                  exact asg_mk h0 hb y256 (A.vv e37') r1 a3 B h9 h10 h11 h12 h13 h14
              · exact absurd u2 (by decide)
          · exact absurd y2 (by decide)
  · exact h.elim
theorem xe_all (hT : RTk ta c) (hk : ∀ i : Nat, i < c → rkd ta i = k i) (hPl : RPl ta c) : ∀ n : Nat, HPr (RL_mp_expression n) ta k c (pBoth k 62).1 ∧ HPc (RL_mp_conditional n) ta k c
  | 0 => ⟨fun _ _ _ _ h => h.elim, fun _ _ _ _ h => h.elim⟩
  | n + 1 => ⟨fun h1 h2 h3 h4 h => exp_ok h2 (xe_all hT hk hPl n).1 (xe_all hT hk hPl n).2 hT hk hPl h1 h3 h4 h, fun h1 h2 h3 h4 h => ⟨_, cnd_ok h2 (xe_all hT hk hPl n).1 (xe_all hT hk hPl n).2 hT hk hPl h1 h3 h4 h⟩⟩
end RJ
