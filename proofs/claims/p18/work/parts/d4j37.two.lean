/-! THE REFERENCE's checker: two numbers (laid by gentw.py) -/
theorem tw_1 : ∀ w : Nat, w < 43 → (mlen w = 1 ∧ 0 < rkO (mkC w)) → mkC w = (chF (mby w 0)).toInt := by decide
theorem tw_d2 : ∀ w : Nat, w < 43 → (mlen w = 2 ∧ 0 < rkO (mkC w) ∧ ¬ rkO (mkC w) = 1 ∧ ¬ rkO (mkC w) = 2) → 130 ≤ mkC w ∧ mkC w ≤ 135 := by decide
theorem tw_d1 : ∀ w : Nat, w < 43 → (¬ mlen w = 2 ∧ 0 < rkO (mkC w)) → mlen w = 1 ∧ (mkC w = 38 ∨ mkC w = 42 ∨ mkC w = 43 ∨ mkC w = 45 ∨ mkC w = 60 ∨ mkC w = 62 ∨ mkC w = 94 ∨ mkC w = 124 ∨ mkC w = 47 ∨ mkC w = 37) := by decide
theorem an31 {b : Int32} : (b &&& 31) &&& 31 = b &&& 31 := by
  rw [Int32.and_assoc]
  rfl
theorem rck_37 {a b : Int32} : rck 37 a b = (if b.toInt = 0 then 0 else a - a / b * b) := by first | rfl | simp [rck]
theorem rck_38 {a b : Int32} : rck 38 a b = a &&& b := by first | rfl | simp [rck]
theorem rck_42 {a b : Int32} : rck 42 a b = a * b := by first | rfl | simp [rck]
theorem rck_43 {a b : Int32} : rck 43 a b = a + b := by first | rfl | simp [rck]
theorem rck_45 {a b : Int32} : rck 45 a b = a - b := by first | rfl | simp [rck]
theorem rck_47 {a b : Int32} : rck 47 a b = (if b.toInt = 0 then 0 else a / b) := by first | rfl | simp [rck]
theorem rck_60 {a b : Int32} : rck 60 a b = (if b.toInt ≤ a.toInt then 0 else 1) := by first | rfl | simp [rck]
theorem rck_62 {a b : Int32} : rck 62 a b = (if a.toInt ≤ b.toInt then 0 else 1) := by first | rfl | simp [rck]
theorem rck_94 {a b : Int32} : rck 94 a b = a ^^^ b := by first | rfl | simp [rck]
theorem rck_124 {a b : Int32} : rck 124 a b = a ||| b := by first | rfl | simp [rck]
theorem rck_130 {a b : Int32} : rck 130 a b = (if a.toInt = b.toInt then 1 else 0) := by first | rfl | simp [rck]
theorem rck_132 {a b : Int32} : rck 132 a b = (if b.toInt < a.toInt then 0 else 1) := by first | rfl | simp [rck]
theorem rck_133 {a b : Int32} : rck 133 a b = (if a.toInt < b.toInt then 0 else 1) := by first | rfl | simp [rck]
theorem rck_134 {a b : Int32} : rck 134 a b = a <<< ((b &&& 31) &&& 31) := by first | rfl | simp [rck]
theorem rck_135 {a b : Int32} : rck 135 a b = a >>> ((b &&& 31) &&& 31) := by first | rfl | simp [rck]
theorem rck_131 {a b : Int32} : rck 131 a b = (if a.toInt = b.toInt then 0 else 1) := by first | rfl | simp [rck]
theorem two_f {ta : Nat → Nat → Int32} {p0 p1 p2 v : Int32} {cf cf' : Nat → Int32} (h : R_mp_two ta p0 p1 p2 cf cf' v) : (∀ i : Nat, ¬ i = 46 → cf' i = cf i) ∧ (¬ (cf 46).toInt = 0 → ¬ (cf' 46).toInt = 0) := by
  rcases h with ⟨z1, h1, v6, h2, (⟨h3, v12, h4, (⟨h5, (⟨h6, (⟨h7, v21, h8, (⟨h9, z26, h10, e0, ev⟩ | ⟨h9, z27, h10, e0, ev⟩)⟩ | ⟨h7, e0, ev⟩)⟩ | ⟨h6, (⟨h7, (⟨h8, v33, h9, (⟨h10, z38, h11, e0, ev⟩ | ⟨h10, z39, h11, e0, ev⟩)⟩ | ⟨h8, e0, ev⟩)⟩ | ⟨h7, (⟨h8, v43, h9, (⟨h10, z48, h11, e0, ev⟩ | ⟨h10, z49, h11, e0, ev⟩)⟩ | ⟨h8, e0, ev⟩)⟩)⟩)⟩ | ⟨h5, z51, h6, e0, ev⟩ | ⟨h5, z52, h6, e0, ev⟩ | ⟨h5, z53, h6, e0, ev⟩ | ⟨h5, z54, h6, e0, ev⟩ | ⟨h5, (⟨h6, e0, ev⟩ | ⟨h6, e0, ev⟩)⟩ | ⟨h5, (⟨h6, e0, ev⟩ | ⟨h6, e0, ev⟩)⟩ | ⟨h5, z59, h6, e0, ev⟩ | ⟨h5, z60, h6, e0, ev⟩)⟩ | ⟨h3, v65, h4, (⟨h5, v74, h6, (⟨h7, v83, h8, (⟨h9, (⟨h10, v94, h11, (⟨h12, v103, h13, (⟨h14, e0, ev⟩ | ⟨h14, z109, h15, e0, ev⟩)⟩ | ⟨h12, z110, h13, e0, ev⟩)⟩ | ⟨h10, v115, h11, (⟨h12, v124, h13, (⟨h14, e0, ev⟩ | ⟨h14, z130, h15, e0, ev⟩)⟩ | ⟨h12, z131, h13, e0, ev⟩)⟩)⟩ | ⟨h9, (⟨h10, v138, h11, (⟨h12, v147, h13, (⟨h14, e0, ev⟩ | ⟨h14, z153, h15, e0, ev⟩)⟩ | ⟨h12, z154, h13, e0, ev⟩)⟩ | ⟨h10, v159, h11, (⟨h12, v168, h13, (⟨h14, e0, ev⟩ | ⟨h14, z174, h15, e0, ev⟩)⟩ | ⟨h12, z175, h13, e0, ev⟩)⟩)⟩)⟩ | ⟨h7, (⟨h8, v182, h9, (⟨h10, v191, h11, (⟨h12, e0, ev⟩ | ⟨h12, z197, h13, e0, ev⟩)⟩ | ⟨h10, z198, h11, e0, ev⟩)⟩ | ⟨h8, v203, h9, (⟨h10, v212, h11, (⟨h12, e0, ev⟩ | ⟨h12, z218, h13, e0, ev⟩)⟩ | ⟨h10, z219, h11, e0, ev⟩)⟩)⟩)⟩ | ⟨h5, (⟨h6, v226, h7, (⟨h8, v235, h9, (⟨h10, e0, ev⟩ | ⟨h10, z241, h11, e0, ev⟩)⟩ | ⟨h8, z242, h9, e0, ev⟩)⟩ | ⟨h6, v247, h7, (⟨h8, v256, h9, (⟨h10, e0, ev⟩ | ⟨h10, z262, h11, e0, ev⟩)⟩ | ⟨h8, z263, h9, e0, ev⟩)⟩)⟩)⟩)⟩ | h
  all_goals first
    | exact h.elim
    | (rw [e0]; exact ⟨fun _ _ => rfl, id⟩)
    | (rw [e0]; exact ⟨fun i hi => pk_un hi, fun _ => by rw [pk_us]; decide⟩)
    | (rw [e0]; exact ⟨fun i hi => pk_un hi, fun w => absurd h6 w⟩)
/-- what two gives, by the operator -/
theorem two_r {ta : Nat → Nat → Int32} {c t : Nat} {p0 p1 p2 v : Int32} {cf cf' : Nat → Int32} (hT : RTk ta c) (hp : p0.toInt = (t : Int)) (htc : t < c) (hr : 0 < rkO (rkd ta t)) (hr1 : ¬ rkO (rkd ta t) = 1) (hr2 : ¬ rkO (rkd ta t) = 2) (h : R_mp_two ta p0 p1 p2 cf cf' v) : (cf 46).toInt = 0 → if (rkd ta t = 47 ∨ rkd ta t = 37) ∧ p2.toInt = 0 then ¬ (cf' 46).toInt = 0 else ((cf' 46).toInt = 0 ∧ v = rck (rkd ta t) p1 p2) := by
  have hn := cn_of hp
  obtain ⟨k1, k2, -⟩ := rkd_b hT htc
  have h5k : (ta 9 t).toInt = 5 := by
    by_cases q : 33 ≤ rkd ta t
    · exact k1.mpr q
    · rw [rkO_lo (by omega)] at hr
      exact absurd hr (by decide)
  have w := (hT t htc).2.1 h5k
  have e2 := k2 h5k
  rw [e2] at hr hr1 hr2
  rw [e2]
  clear k1 k2
  have key : ∀ m : Nat, m < 43 → (ta 10 t).toNatClampNeg = m → 0 < rkO (mkC m) → ¬ rkO (mkC m) = 1 → ¬ rkO (mkC m) = 2 → (cf 46).toInt = 0 → if (mkC m = 47 ∨ mkC m = 37) ∧ p2.toInt = 0 then ¬ (cf' 46).toInt = 0 else ((cf' 46).toInt = 0 ∧ v = rck (mkC m) p1 p2) := by
    intro m wn em hr hr1 hr2 hz
    have mb := mlen_b m wn
    have g := fun {x : Int32} {sb : Nat → Int32} {q : Int} (mq : ∀ w : Nat, w < 43 → mEq w 2 sb = decide (mkC w = q)) (y : R_sg_equals (mlen m) (mby m) 2 sb x) => show (x.toInt = 0 ∨ x.toInt = 1) ∧ (x.toInt = 1 ↔ mkC m = q) from by
      obtain ⟨r1, r2⟩ := sge_r (by omega) (by decide) y
      refine ⟨r1, r2.trans (mEq_iff.symm.trans ?_)⟩
      rw [mq m wn]
      exact decide_eq_true_iff
    have ok : cf' = cf → ¬ ((mkC m = 47 ∨ mkC m = 37) ∧ p2.toInt = 0) → v = rck (mkC m) p1 p2 → if (mkC m = 47 ∨ mkC m = 37) ∧ p2.toInt = 0 then ¬ (cf' 46).toInt = 0 else ((cf' 46).toInt = 0 ∧ v = rck (mkC m) p1 p2) := fun e hn hv => by
      rw [if_neg hn, e]; exact ⟨hz, hv⟩
    have ok0 : cf' = upd cf 46 0 → ¬ ((mkC m = 47 ∨ mkC m = 37) ∧ p2.toInt = 0) → v = rck (mkC m) p1 p2 → if (mkC m = 47 ∨ mkC m = 37) ∧ p2.toInt = 0 then ¬ (cf' 46).toInt = 0 else ((cf' 46).toInt = 0 ∧ v = rck (mkC m) p1 p2) := fun e hn hv => by
      rw [if_neg hn, e, pk_us]; exact ⟨rfl, hv⟩
    rcases h with ⟨z1, h1, v6, h2, (⟨h3, v12, h4, (⟨h5, (⟨h6, (⟨h7, v21, h8, (⟨h9, z26, h10, e0, ev⟩ | ⟨h9, z27, h10, e0, ev⟩)⟩ | ⟨h7, e0, ev⟩)⟩ | ⟨h6, (⟨h7, (⟨h8, v33, h9, (⟨h10, z38, h11, e0, ev⟩ | ⟨h10, z39, h11, e0, ev⟩)⟩ | ⟨h8, e0, ev⟩)⟩ | ⟨h7, (⟨h8, v43, h9, (⟨h10, z48, h11, e0, ev⟩ | ⟨h10, z49, h11, e0, ev⟩)⟩ | ⟨h8, e0, ev⟩)⟩)⟩)⟩ | ⟨h5, z51, h6, e0, ev⟩ | ⟨h5, z52, h6, e0, ev⟩ | ⟨h5, z53, h6, e0, ev⟩ | ⟨h5, z54, h6, e0, ev⟩ | ⟨h5, (⟨h6, e0, ev⟩ | ⟨h6, e0, ev⟩)⟩ | ⟨h5, (⟨h6, e0, ev⟩ | ⟨h6, e0, ev⟩)⟩ | ⟨h5, z59, h6, e0, ev⟩ | ⟨h5, z60, h6, e0, ev⟩)⟩ | ⟨h3, v65, h4, (⟨h5, v74, h6, (⟨h7, v83, h8, (⟨h9, (⟨h10, v94, h11, (⟨h12, v103, h13, (⟨h14, e0, ev⟩ | ⟨h14, z109, h15, e0, ev⟩)⟩ | ⟨h12, z110, h13, e0, ev⟩)⟩ | ⟨h10, v115, h11, (⟨h12, v124, h13, (⟨h14, e0, ev⟩ | ⟨h14, z130, h15, e0, ev⟩)⟩ | ⟨h12, z131, h13, e0, ev⟩)⟩)⟩ | ⟨h9, (⟨h10, v138, h11, (⟨h12, v147, h13, (⟨h14, e0, ev⟩ | ⟨h14, z153, h15, e0, ev⟩)⟩ | ⟨h12, z154, h13, e0, ev⟩)⟩ | ⟨h10, v159, h11, (⟨h12, v168, h13, (⟨h14, e0, ev⟩ | ⟨h14, z174, h15, e0, ev⟩)⟩ | ⟨h12, z175, h13, e0, ev⟩)⟩)⟩)⟩ | ⟨h7, (⟨h8, v182, h9, (⟨h10, v191, h11, (⟨h12, e0, ev⟩ | ⟨h12, z197, h13, e0, ev⟩)⟩ | ⟨h10, z198, h11, e0, ev⟩)⟩ | ⟨h8, v203, h9, (⟨h10, v212, h11, (⟨h12, e0, ev⟩ | ⟨h12, z218, h13, e0, ev⟩)⟩ | ⟨h10, z219, h11, e0, ev⟩)⟩)⟩)⟩ | ⟨h5, (⟨h6, v226, h7, (⟨h8, v235, h9, (⟨h10, e0, ev⟩ | ⟨h10, z241, h11, e0, ev⟩)⟩ | ⟨h8, z242, h9, e0, ev⟩)⟩ | ⟨h6, v247, h7, (⟨h8, v256, h9, (⟨h10, e0, ev⟩ | ⟨h10, z262, h11, e0, ev⟩)⟩ | ⟨h8, z263, h9, e0, ev⟩)⟩)⟩)⟩)⟩ | h
    · exact absurd hz h6
    · exact absurd hz h6
    · exact absurd hz h6
    · rw [hn] at h1
      have ez : z1.toNatClampNeg = m := by rw [h1]; exact em
      rw [ez] at h2 h4
      have l6 := slen_r (by omega) h2
      have d1 := tw_d1 m wn ⟨by omega, hr⟩
      have c1 := tw_1 m wn ⟨d1.1, hr⟩
      have c4 := chat_r h4
      rw [← c4] at c1
      have n38 := h5 38 (by simp)
      have n42 := h5 42 (by simp)
      have n43 := h5 43 (by simp)
      have n45 := h5 45 (by simp)
      have n60 := h5 60 (by simp)
      have n62 := h5 62 (by simp)
      have n94 := h5 94 (by simp)
      have n124 := h5 124 (by simp)
      rw [ez] at h9
      have c9 := chat_r h9
      rw [← c4] at c9
      rw [c9] at h10
      have hq : mkC m = 37 := by omega
      exact ok0 e0 (by omega) (by rw [ev, hq, rck_37, if_neg h7, h11])
    · rw [hn] at h1
      have ez : z1.toNatClampNeg = m := by rw [h1]; exact em
      rw [ez] at h2 h4
      have l6 := slen_r (by omega) h2
      have d1 := tw_d1 m wn ⟨by omega, hr⟩
      have c1 := tw_1 m wn ⟨d1.1, hr⟩
      have c4 := chat_r h4
      rw [← c4] at c1
      have n38 := h5 38 (by simp)
      have n42 := h5 42 (by simp)
      have n43 := h5 43 (by simp)
      have n45 := h5 45 (by simp)
      have n60 := h5 60 (by simp)
      have n62 := h5 62 (by simp)
      have n94 := h5 94 (by simp)
      have n124 := h5 124 (by simp)
      rw [ez] at h9
      have c9 := chat_r h9
      rw [← c4] at c9
      rw [c9] at h10
      have hq : mkC m = 47 := by omega
      exact ok0 e0 (by omega) (by rw [ev, hq, rck_47, if_neg h7, h11])
    · exact absurd h8 h7
    · exact absurd h7 h8
    · exact absurd h7 h8
    · rw [hn] at h1
      have ez : z1.toNatClampNeg = m := by rw [h1]; exact em
      rw [ez] at h2 h4
      have l6 := slen_r (by omega) h2
      have d1 := tw_d1 m wn ⟨by omega, hr⟩
      have c1 := tw_1 m wn ⟨d1.1, hr⟩
      have c4 := chat_r h4
      rw [← c4] at c1
      have n38 := h5 38 (by simp)
      have n42 := h5 42 (by simp)
      have n43 := h5 43 (by simp)
      have n45 := h5 45 (by simp)
      have n60 := h5 60 (by simp)
      have n62 := h5 62 (by simp)
      have n94 := h5 94 (by simp)
      have n124 := h5 124 (by simp)
      have hq : (mkC m = 47 ∨ mkC m = 37) ∧ p2.toInt = 0 := by omega
      rw [if_pos hq, e0, pk_us]
      decide
    · rw [hn] at h1
      have ez : z1.toNatClampNeg = m := by rw [h1]; exact em
      rw [ez] at h2 h4
      have l6 := slen_r (by omega) h2
      have d1 := tw_d1 m wn ⟨by omega, hr⟩
      have c1 := tw_1 m wn ⟨d1.1, hr⟩
      have c4 := chat_r h4
      rw [← c4] at c1
      have hq : mkC m = 38 := by omega
      exact ok e0 (by omega) (by rw [ev, hq, rck_38, h6])
    · rw [hn] at h1
      have ez : z1.toNatClampNeg = m := by rw [h1]; exact em
      rw [ez] at h2 h4
      have l6 := slen_r (by omega) h2
      have d1 := tw_d1 m wn ⟨by omega, hr⟩
      have c1 := tw_1 m wn ⟨d1.1, hr⟩
      have c4 := chat_r h4
      rw [← c4] at c1
      have hq : mkC m = 42 := by omega
      exact ok e0 (by omega) (by rw [ev, hq, rck_42, h6])
    · rw [hn] at h1
      have ez : z1.toNatClampNeg = m := by rw [h1]; exact em
      rw [ez] at h2 h4
      have l6 := slen_r (by omega) h2
      have d1 := tw_d1 m wn ⟨by omega, hr⟩
      have c1 := tw_1 m wn ⟨d1.1, hr⟩
      have c4 := chat_r h4
      rw [← c4] at c1
      have hq : mkC m = 43 := by omega
      exact ok e0 (by omega) (by rw [ev, hq, rck_43, h6])
    · rw [hn] at h1
      have ez : z1.toNatClampNeg = m := by rw [h1]; exact em
      rw [ez] at h2 h4
      have l6 := slen_r (by omega) h2
      have d1 := tw_d1 m wn ⟨by omega, hr⟩
      have c1 := tw_1 m wn ⟨d1.1, hr⟩
      have c4 := chat_r h4
      rw [← c4] at c1
      have hq : mkC m = 45 := by omega
      exact ok e0 (by omega) (by rw [ev, hq, rck_45, h6])
    · rw [hn] at h1
      have ez : z1.toNatClampNeg = m := by rw [h1]; exact em
      rw [ez] at h2 h4
      have l6 := slen_r (by omega) h2
      have d1 := tw_d1 m wn ⟨by omega, hr⟩
      have c1 := tw_1 m wn ⟨d1.1, hr⟩
      have c4 := chat_r h4
      rw [← c4] at c1
      have hq : mkC m = 60 := by omega
      exact ok e0 (by omega) (by rw [ev, hq, rck_60, if_pos h6])
    · rw [hn] at h1
      have ez : z1.toNatClampNeg = m := by rw [h1]; exact em
      rw [ez] at h2 h4
      have l6 := slen_r (by omega) h2
      have d1 := tw_d1 m wn ⟨by omega, hr⟩
      have c1 := tw_1 m wn ⟨d1.1, hr⟩
      have c4 := chat_r h4
      rw [← c4] at c1
      have hq : mkC m = 60 := by omega
      exact ok e0 (by omega) (by rw [ev, hq, rck_60, if_neg h6])
    · rw [hn] at h1
      have ez : z1.toNatClampNeg = m := by rw [h1]; exact em
      rw [ez] at h2 h4
      have l6 := slen_r (by omega) h2
      have d1 := tw_d1 m wn ⟨by omega, hr⟩
      have c1 := tw_1 m wn ⟨d1.1, hr⟩
      have c4 := chat_r h4
      rw [← c4] at c1
      have hq : mkC m = 62 := by omega
      exact ok e0 (by omega) (by rw [ev, hq, rck_62, if_pos h6])
    · rw [hn] at h1
      have ez : z1.toNatClampNeg = m := by rw [h1]; exact em
      rw [ez] at h2 h4
      have l6 := slen_r (by omega) h2
      have d1 := tw_d1 m wn ⟨by omega, hr⟩
      have c1 := tw_1 m wn ⟨d1.1, hr⟩
      have c4 := chat_r h4
      rw [← c4] at c1
      have hq : mkC m = 62 := by omega
      exact ok e0 (by omega) (by rw [ev, hq, rck_62, if_neg h6])
    · rw [hn] at h1
      have ez : z1.toNatClampNeg = m := by rw [h1]; exact em
      rw [ez] at h2 h4
      have l6 := slen_r (by omega) h2
      have d1 := tw_d1 m wn ⟨by omega, hr⟩
      have c1 := tw_1 m wn ⟨d1.1, hr⟩
      have c4 := chat_r h4
      rw [← c4] at c1
      have hq : mkC m = 94 := by omega
      exact ok e0 (by omega) (by rw [ev, hq, rck_94, h6])
    · rw [hn] at h1
      have ez : z1.toNatClampNeg = m := by rw [h1]; exact em
      rw [ez] at h2 h4
      have l6 := slen_r (by omega) h2
      have d1 := tw_d1 m wn ⟨by omega, hr⟩
      have c1 := tw_1 m wn ⟨d1.1, hr⟩
      have c4 := chat_r h4
      rw [← c4] at c1
      have hq : mkC m = 124 := by omega
      exact ok e0 (by omega) (by rw [ev, hq, rck_124, h6])
    · rw [hn] at h1
      have ez : z1.toNatClampNeg = m := by rw [h1]; exact em
      rw [ez] at h2 h4
      have l6 := slen_r (by omega) h2
      rw [ez] at h6 h8
      have d2 := tw_d2 m wn ⟨by omega, hr, hr1, hr2⟩
      have t130 := g mq_130 h4
      have t131 := g mq_131 h6
      have t132 := g mq_132 h8
      rw [ez] at h11 h13
      have t134 := g mq_134 h11
      have t135 := g mq_135 h13
      have hq : mkC m = 133 := by omega
      exact ok e0 (by omega) (by rw [ev, hq, rck_133, if_pos h10])
    · rw [hn] at h1
      have ez : z1.toNatClampNeg = m := by rw [h1]; exact em
      rw [ez] at h2 h4
      have l6 := slen_r (by omega) h2
      rw [ez] at h6 h8
      have d2 := tw_d2 m wn ⟨by omega, hr, hr1, hr2⟩
      have t130 := g mq_130 h4
      have t131 := g mq_131 h6
      have t132 := g mq_132 h8
      rw [ez] at h11 h13
      have t134 := g mq_134 h11
      have t135 := g mq_135 h13
      have hq : mkC m = 135 := by omega
      exact ok e0 (by omega) (by rw [ev, hq, rck_135, an31, h15])
    · rw [hn] at h1
      have ez : z1.toNatClampNeg = m := by rw [h1]; exact em
      rw [ez] at h2 h4
      have l6 := slen_r (by omega) h2
      rw [ez] at h6 h8
      have d2 := tw_d2 m wn ⟨by omega, hr, hr1, hr2⟩
      have t130 := g mq_130 h4
      have t131 := g mq_131 h6
      have t132 := g mq_132 h8
      rw [ez] at h11
      have t134 := g mq_134 h11
      have hq : mkC m = 134 := by omega
      exact ok e0 (by omega) (by rw [ev, hq, rck_134, an31, h13])
    · rw [hn] at h1
      have ez : z1.toNatClampNeg = m := by rw [h1]; exact em
      rw [ez] at h2 h4
      have l6 := slen_r (by omega) h2
      rw [ez] at h6 h8
      have d2 := tw_d2 m wn ⟨by omega, hr, hr1, hr2⟩
      have t130 := g mq_130 h4
      have t131 := g mq_131 h6
      have t132 := g mq_132 h8
      rw [ez] at h11 h13
      have t134 := g mq_134 h11
      have t135 := g mq_135 h13
      have hq : mkC m = 133 := by omega
      exact ok e0 (by omega) (by rw [ev, hq, rck_133, if_neg h10])
    · rw [hn] at h1
      have ez : z1.toNatClampNeg = m := by rw [h1]; exact em
      rw [ez] at h2 h4
      have l6 := slen_r (by omega) h2
      rw [ez] at h6 h8
      have d2 := tw_d2 m wn ⟨by omega, hr, hr1, hr2⟩
      have t130 := g mq_130 h4
      have t131 := g mq_131 h6
      have t132 := g mq_132 h8
      rw [ez] at h11 h13
      have t134 := g mq_134 h11
      have t135 := g mq_135 h13
      have hq : mkC m = 135 := by omega
      exact ok e0 (by omega) (by rw [ev, hq, rck_135, an31, h15])
    · rw [hn] at h1
      have ez : z1.toNatClampNeg = m := by rw [h1]; exact em
      rw [ez] at h2 h4
      have l6 := slen_r (by omega) h2
      rw [ez] at h6 h8
      have d2 := tw_d2 m wn ⟨by omega, hr, hr1, hr2⟩
      have t130 := g mq_130 h4
      have t131 := g mq_131 h6
      have t132 := g mq_132 h8
      rw [ez] at h11
      have t134 := g mq_134 h11
      have hq : mkC m = 134 := by omega
      exact ok e0 (by omega) (by rw [ev, hq, rck_134, an31, h13])
    · rw [hn] at h1
      have ez : z1.toNatClampNeg = m := by rw [h1]; exact em
      rw [ez] at h2 h4
      have l6 := slen_r (by omega) h2
      rw [ez] at h6 h8
      have d2 := tw_d2 m wn ⟨by omega, hr, hr1, hr2⟩
      have t130 := g mq_130 h4
      have t131 := g mq_131 h6
      have t132 := g mq_132 h8
      rw [ez] at h11 h13
      have t134 := g mq_134 h11
      have t135 := g mq_135 h13
      have hq : mkC m = 132 := by omega
      exact ok e0 (by omega) (by rw [ev, hq, rck_132, if_pos h10])
    · rw [hn] at h1
      have ez : z1.toNatClampNeg = m := by rw [h1]; exact em
      rw [ez] at h2 h4
      have l6 := slen_r (by omega) h2
      rw [ez] at h6 h8
      have d2 := tw_d2 m wn ⟨by omega, hr, hr1, hr2⟩
      have t130 := g mq_130 h4
      have t131 := g mq_131 h6
      have t132 := g mq_132 h8
      rw [ez] at h11 h13
      have t134 := g mq_134 h11
      have t135 := g mq_135 h13
      exfalso; omega
    · rw [hn] at h1
      have ez : z1.toNatClampNeg = m := by rw [h1]; exact em
      rw [ez] at h2 h4
      have l6 := slen_r (by omega) h2
      rw [ez] at h6 h8
      have d2 := tw_d2 m wn ⟨by omega, hr, hr1, hr2⟩
      have t130 := g mq_130 h4
      have t131 := g mq_131 h6
      have t132 := g mq_132 h8
      rw [ez] at h11
      have t134 := g mq_134 h11
      exfalso; omega
    · rw [hn] at h1
      have ez : z1.toNatClampNeg = m := by rw [h1]; exact em
      rw [ez] at h2 h4
      have l6 := slen_r (by omega) h2
      rw [ez] at h6 h8
      have d2 := tw_d2 m wn ⟨by omega, hr, hr1, hr2⟩
      have t130 := g mq_130 h4
      have t131 := g mq_131 h6
      have t132 := g mq_132 h8
      rw [ez] at h11 h13
      have t134 := g mq_134 h11
      have t135 := g mq_135 h13
      have hq : mkC m = 132 := by omega
      exact ok e0 (by omega) (by rw [ev, hq, rck_132, if_neg h10])
    · rw [hn] at h1
      have ez : z1.toNatClampNeg = m := by rw [h1]; exact em
      rw [ez] at h2 h4
      have l6 := slen_r (by omega) h2
      rw [ez] at h6 h8
      have d2 := tw_d2 m wn ⟨by omega, hr, hr1, hr2⟩
      have t130 := g mq_130 h4
      have t131 := g mq_131 h6
      have t132 := g mq_132 h8
      rw [ez] at h11 h13
      have t134 := g mq_134 h11
      have t135 := g mq_135 h13
      exfalso; omega
    · rw [hn] at h1
      have ez : z1.toNatClampNeg = m := by rw [h1]; exact em
      rw [ez] at h2 h4
      have l6 := slen_r (by omega) h2
      rw [ez] at h6 h8
      have d2 := tw_d2 m wn ⟨by omega, hr, hr1, hr2⟩
      have t130 := g mq_130 h4
      have t131 := g mq_131 h6
      have t132 := g mq_132 h8
      rw [ez] at h11
      have t134 := g mq_134 h11
      exfalso; omega
    · rw [hn] at h1
      have ez : z1.toNatClampNeg = m := by rw [h1]; exact em
      rw [ez] at h2 h4
      have l6 := slen_r (by omega) h2
      rw [ez] at h6
      have d2 := tw_d2 m wn ⟨by omega, hr, hr1, hr2⟩
      have t130 := g mq_130 h4
      have t131 := g mq_131 h6
      rw [ez] at h9 h11
      have t134 := g mq_134 h9
      have t135 := g mq_135 h11
      have hq : mkC m = 131 := by omega
      exact ok e0 (by omega) (by rw [ev, hq, rck_131, if_pos h8])
    · rw [hn] at h1
      have ez : z1.toNatClampNeg = m := by rw [h1]; exact em
      rw [ez] at h2 h4
      have l6 := slen_r (by omega) h2
      rw [ez] at h6
      have d2 := tw_d2 m wn ⟨by omega, hr, hr1, hr2⟩
      have t130 := g mq_130 h4
      have t131 := g mq_131 h6
      rw [ez] at h9 h11
      have t134 := g mq_134 h9
      have t135 := g mq_135 h11
      exfalso; omega
    · rw [hn] at h1
      have ez : z1.toNatClampNeg = m := by rw [h1]; exact em
      rw [ez] at h2 h4
      have l6 := slen_r (by omega) h2
      rw [ez] at h6
      have d2 := tw_d2 m wn ⟨by omega, hr, hr1, hr2⟩
      have t130 := g mq_130 h4
      have t131 := g mq_131 h6
      rw [ez] at h9
      have t134 := g mq_134 h9
      exfalso; omega
    · rw [hn] at h1
      have ez : z1.toNatClampNeg = m := by rw [h1]; exact em
      rw [ez] at h2 h4
      have l6 := slen_r (by omega) h2
      rw [ez] at h6
      have d2 := tw_d2 m wn ⟨by omega, hr, hr1, hr2⟩
      have t130 := g mq_130 h4
      have t131 := g mq_131 h6
      rw [ez] at h9 h11
      have t134 := g mq_134 h9
      have t135 := g mq_135 h11
      have hq : mkC m = 131 := by omega
      exact ok e0 (by omega) (by rw [ev, hq, rck_131, if_neg h8])
    · rw [hn] at h1
      have ez : z1.toNatClampNeg = m := by rw [h1]; exact em
      rw [ez] at h2 h4
      have l6 := slen_r (by omega) h2
      rw [ez] at h6
      have d2 := tw_d2 m wn ⟨by omega, hr, hr1, hr2⟩
      have t130 := g mq_130 h4
      have t131 := g mq_131 h6
      rw [ez] at h9 h11
      have t134 := g mq_134 h9
      have t135 := g mq_135 h11
      exfalso; omega
    · rw [hn] at h1
      have ez : z1.toNatClampNeg = m := by rw [h1]; exact em
      rw [ez] at h2 h4
      have l6 := slen_r (by omega) h2
      rw [ez] at h6
      have d2 := tw_d2 m wn ⟨by omega, hr, hr1, hr2⟩
      have t130 := g mq_130 h4
      have t131 := g mq_131 h6
      rw [ez] at h9
      have t134 := g mq_134 h9
      exfalso; omega
    · rw [hn] at h1
      have ez : z1.toNatClampNeg = m := by rw [h1]; exact em
      rw [ez] at h2 h4
      have l6 := slen_r (by omega) h2
      have d2 := tw_d2 m wn ⟨by omega, hr, hr1, hr2⟩
      have t130 := g mq_130 h4
      rw [ez] at h7 h9
      have t134 := g mq_134 h7
      have t135 := g mq_135 h9
      have hq : mkC m = 130 := by omega
      exact ok e0 (by omega) (by rw [ev, hq, rck_130, if_neg h6])
    · rw [hn] at h1
      have ez : z1.toNatClampNeg = m := by rw [h1]; exact em
      rw [ez] at h2 h4
      have l6 := slen_r (by omega) h2
      have d2 := tw_d2 m wn ⟨by omega, hr, hr1, hr2⟩
      have t130 := g mq_130 h4
      rw [ez] at h7 h9
      have t134 := g mq_134 h7
      have t135 := g mq_135 h9
      exfalso; omega
    · rw [hn] at h1
      have ez : z1.toNatClampNeg = m := by rw [h1]; exact em
      rw [ez] at h2 h4
      have l6 := slen_r (by omega) h2
      have d2 := tw_d2 m wn ⟨by omega, hr, hr1, hr2⟩
      have t130 := g mq_130 h4
      rw [ez] at h7
      have t134 := g mq_134 h7
      exfalso; omega
    · rw [hn] at h1
      have ez : z1.toNatClampNeg = m := by rw [h1]; exact em
      rw [ez] at h2 h4
      have l6 := slen_r (by omega) h2
      have d2 := tw_d2 m wn ⟨by omega, hr, hr1, hr2⟩
      have t130 := g mq_130 h4
      rw [ez] at h7 h9
      have t134 := g mq_134 h7
      have t135 := g mq_135 h9
      have hq : mkC m = 130 := by omega
      exact ok e0 (by omega) (by rw [ev, hq, rck_130, if_pos h6])
    · rw [hn] at h1
      have ez : z1.toNatClampNeg = m := by rw [h1]; exact em
      rw [ez] at h2 h4
      have l6 := slen_r (by omega) h2
      have d2 := tw_d2 m wn ⟨by omega, hr, hr1, hr2⟩
      have t130 := g mq_130 h4
      rw [ez] at h7 h9
      have t134 := g mq_134 h7
      have t135 := g mq_135 h9
      exfalso; omega
    · rw [hn] at h1
      have ez : z1.toNatClampNeg = m := by rw [h1]; exact em
      rw [ez] at h2 h4
      have l6 := slen_r (by omega) h2
      have d2 := tw_d2 m wn ⟨by omega, hr, hr1, hr2⟩
      have t130 := g mq_130 h4
      rw [ez] at h7
      have t134 := g mq_134 h7
      exfalso; omega
    · exact h.elim
  exact key _ (by have := cl_nat (x := ta 10 t) w.1; omega) rfl hr hr1 hr2
