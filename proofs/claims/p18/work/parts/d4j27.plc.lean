/-! THE REFERENCE's checker: what is assigned to (laid by genck.py) -/
section RW2
variable {ta : Nat → Nat → Int32} {k : Nat → Int} {vl : Nat → Int32} {c i : Nat} {cf cf' : Nat → Int32} {ca na : Nat → Nat → Int32} {L : Nms} {p0 p1 : Int32} {a1 : Int}
/-- what is known of the node that is assigned to, unless something is wrong -/
def PlH (k : Nat → Int) (vl : Nat → Int32) (c : Nat) (na : Nat → Nat → Int32) (L : Nms) (p a1 : Int) (i : Nat) : Prop := IsV p a1 ∧ (a1 = 4 ↔ (na 14 i).toInt = 4) ∧ (a1 = 1 → (na 14 i).toInt = 2) ∧ ((na 14 i).toInt = 2 → ∃ t : Nat, ((na 15 i).toInt = (t : Int) ∧ t < c ∧ k t = 16) ∧ ∃ g : Ent, lkp L (vl t) = some g ∧ a1 = (aNam g).1)
/-- the name found is the one that att looked up -/
theorem plc_f (hs : SmN ta k vl c) (hE : EnvR k vl c cf ca L) (H : PlH k vl c na L p1.toInt a1 i) (h2 : (na 14 i).toInt = 2) {z v w : Int32} (hz : z = na 15 i) (hf : R_mp_find ta cf ca z (0 : Int32) v) (hw : w = ca 35 v.toNatClampNeg) : a1 = 1 ↔ w.toInt = 1 := by
  obtain ⟨t, ⟨t1, t2, t3⟩, g, g1, g2⟩ := H.2.2.2 h2
  rcases find_0 hs hE (show z.toInt = (t : Int) by rw [hz]; exact t1) t2 t3 hf with ⟨q1, q2⟩ | ⟨j, e, q1, q2, q3, q4⟩
  · rw [g1] at q2; exact absurd q2 (by simp)
  · rw [g1] at q2
    injection q2 with q2
    rw [cn_of q1] at hw
    rw [hw, g2, q2, ← q3]
    unfold entR aNam
    by_cases w4 : (ca 35 j).toInt = 4
    · rw [if_pos w4, if_pos rfl]
      constructor
      · intro y; exact absurd y (show ¬ ((0 : Int) = 1) by decide)
      · intro y; exfalso; omega
    · rw [if_neg w4]
      by_cases w1 : (ca 35 j).toInt = 1
      · simp [w1]
      · by_cases w2 : (ca 35 j).toInt = 2
        · simp [w2]
        · have w3 : (ca 35 j).toInt = 3 := by omega
          simp [w3]
theorem chp_r (hs : SmN ta k vl c) (hE : EnvR k vl c cf ca L) (hp : p0.toInt = (i : Int)) (H : Uc cf → PlH k vl c na L p1.toInt a1 i) (h : R_mp_checkPlace ta na ca p0 p1 cf cf') : SmK cf cf' ∧ AC cf cf' (if a1 = 1 ∨ a1 = 4 then some () else none) (fun _ => True) := by
  rcases h with (⟨h1, v4, h2, cf9, h3, z32, h4, (⟨h5, z35, h6, (⟨h7, e0⟩ | ⟨h7, (⟨h8, e0⟩ | ⟨h8, z42, h9, v44, h10, z50, h11, (⟨h12, v55, h13, cf60, h14, e0⟩ | ⟨h12, e0⟩)⟩)⟩)⟩ | ⟨h5, z84, h6, (⟨h7, z87, h8, (⟨h9, v92, h10, cf97, h11, e0⟩ | ⟨h9, (⟨h10, v124, h11, cf129, h12, e0⟩ | ⟨h10, z152, h11, v154, h12, z160, h13, (⟨h14, v165, h15, cf170, h16, e0⟩ | ⟨h14, e0⟩)⟩)⟩)⟩ | ⟨h7, (⟨h8, z196, h9, (⟨h10, v201, h11, cf206, h12, e0⟩ | ⟨h10, (⟨h11, v233, h12, cf238, h13, e0⟩ | ⟨h11, z261, h12, v263, h13, z269, h14, (⟨h15, v274, h16, cf279, h17, e0⟩ | ⟨h15, e0⟩)⟩)⟩)⟩ | ⟨h8, z303, h9, (⟨h10, e0⟩ | ⟨h10, (⟨h11, e0⟩ | ⟨h11, z310, h12, v312, h13, z318, h14, (⟨h15, v323, h16, cf328, h17, e0⟩ | ⟨h15, e0⟩)⟩)⟩)⟩)⟩)⟩)⟩ | ⟨h1, (⟨h2, z354, h3, (⟨h4, z357, h5, (⟨h6, e0⟩ | ⟨h6, (⟨h7, e0⟩ | ⟨h7, z364, h8, v366, h9, z372, h10, (⟨h11, v377, h12, cf382, h13, e0⟩ | ⟨h11, e0⟩)⟩)⟩)⟩ | ⟨h4, z406, h5, (⟨h6, z409, h7, (⟨h8, v414, h9, cf419, h10, e0⟩ | ⟨h8, (⟨h9, v446, h10, cf451, h11, e0⟩ | ⟨h9, z474, h10, v476, h11, z482, h12, (⟨h13, v487, h14, cf492, h15, e0⟩ | ⟨h13, e0⟩)⟩)⟩)⟩ | ⟨h6, (⟨h7, z518, h8, (⟨h9, v523, h10, cf528, h11, e0⟩ | ⟨h9, (⟨h10, v555, h11, cf560, h12, e0⟩ | ⟨h10, z583, h11, v585, h12, z591, h13, (⟨h14, v596, h15, cf601, h16, e0⟩ | ⟨h14, e0⟩)⟩)⟩)⟩ | ⟨h7, z625, h8, (⟨h9, e0⟩ | ⟨h9, (⟨h10, e0⟩ | ⟨h10, z632, h11, v634, h12, z640, h13, (⟨h14, v645, h15, cf650, h16, e0⟩ | ⟨h14, e0⟩)⟩)⟩)⟩)⟩)⟩)⟩ | ⟨h2, v675, h3, cf680, h4, z703, h5, (⟨h6, z706, h7, (⟨h8, e0⟩ | ⟨h8, (⟨h9, e0⟩ | ⟨h9, z713, h10, v715, h11, z721, h12, (⟨h13, v726, h14, cf731, h15, e0⟩ | ⟨h13, e0⟩)⟩)⟩)⟩ | ⟨h6, z755, h7, (⟨h8, z758, h9, (⟨h10, v763, h11, cf768, h12, e0⟩ | ⟨h10, (⟨h11, v795, h12, cf800, h13, e0⟩ | ⟨h11, z823, h12, v825, h13, z831, h14, (⟨h15, v836, h16, cf841, h17, e0⟩ | ⟨h15, e0⟩)⟩)⟩)⟩ | ⟨h8, (⟨h9, z867, h10, (⟨h11, v872, h12, cf877, h13, e0⟩ | ⟨h11, (⟨h12, v904, h13, cf909, h14, e0⟩ | ⟨h12, z932, h13, v934, h14, z940, h15, (⟨h16, v945, h17, cf950, h18, e0⟩ | ⟨h16, e0⟩)⟩)⟩)⟩ | ⟨h9, z974, h10, (⟨h11, e0⟩ | ⟨h11, (⟨h12, e0⟩ | ⟨h12, z981, h13, v983, h14, z989, h15, (⟨h16, v994, h17, cf999, h18, e0⟩ | ⟨h16, e0⟩)⟩)⟩)⟩)⟩)⟩)⟩)⟩) | h
  · rw [cn_of hp] at h4
    rw [h4] at h5
    rw [cn_of hp] at h6
    rw [h6] at h7
    rw [e0]
    refine ⟨(bad_r h3 (by decide)).2, fun _ => (bad_r h3 (by decide)).1, fun u => ?_⟩
    obtain ⟨v1, v2, v3, -⟩ := H u
    unfold IsV at v1
    have y : ¬ (a1 = 1 ∨ a1 = 4) := by omega
    rw [if_neg y]
    exact (bad_r h3 (by decide)).1
  · rw [cn_of hp] at h4
    rw [h4] at h5
    rw [cn_of hp] at h6
    rw [h6] at h7
    rw [e0]
    refine ⟨(bad_r h3 (by decide)).2, fun _ => (bad_r h3 (by decide)).1, fun u => ?_⟩
    obtain ⟨v1, v2, v3, -⟩ := H u
    unfold IsV at v1
    have y : ¬ (a1 = 1 ∨ a1 = 4) := by omega
    rw [if_neg y]
    exact (bad_r h3 (by decide)).1
  · rw [cn_of hp] at h4
    rw [h4] at h5
    rw [cn_of hp] at h6
    rw [h6] at h7
    rw [cn_of hp] at h9
    rw [e0]
    refine ⟨((bad_r h3 (by decide)).2).tr (bad_r h14 (by decide)).2, fun _ => (bad_r h14 (by decide)).1, fun u => ?_⟩
    have hw := plc_f hs (hE.sm ((bad_r h3 (by decide)).2 33 (by decide) (by decide))) (H u) h7 h9 h10 h11
    obtain ⟨v1, v2, v3, -⟩ := H u
    unfold IsV at v1
    have y : ¬ (a1 = 1 ∨ a1 = 4) := by omega
    rw [if_neg y]
    exact (bad_r h14 (by decide)).1
  · rw [cn_of hp] at h4
    rw [h4] at h5
    rw [cn_of hp] at h6
    rw [h6] at h7
    rw [cn_of hp] at h9
    rw [e0]
    refine ⟨(bad_r h3 (by decide)).2, fun _ => (bad_r h3 (by decide)).1, fun u => ?_⟩
    have hw := plc_f hs (hE.sm ((bad_r h3 (by decide)).2 33 (by decide) (by decide))) (H u) h7 h9 h10 h11
    obtain ⟨v1, v2, v3, -⟩ := H u
    unfold IsV at v1
    have y : ¬ (a1 = 1 ∨ a1 = 4) := by omega
    rw [if_neg y]
    exact (bad_r h3 (by decide)).1
  · rw [cn_of hp] at h4
    rw [h4] at h5
    rw [cn_of hp] at h6
    rw [h6] at h7
    rw [cn_of hp] at h8
    rw [h8] at h9
    rw [e0]
    refine ⟨((bad_r h3 (by decide)).2).tr (bad_r h11 (by decide)).2, fun _ => (bad_r h11 (by decide)).1, fun u => ?_⟩
    obtain ⟨v1, v2, v3, -⟩ := H u
    unfold IsV at v1
    have y : ¬ (a1 = 1 ∨ a1 = 4) := by omega
    rw [if_neg y]
    exact (bad_r h11 (by decide)).1
  · rw [cn_of hp] at h4
    rw [h4] at h5
    rw [cn_of hp] at h6
    rw [h6] at h7
    rw [cn_of hp] at h8
    rw [h8] at h9
    rw [e0]
    refine ⟨((bad_r h3 (by decide)).2).tr (bad_r h12 (by decide)).2, fun _ => (bad_r h12 (by decide)).1, fun u => ?_⟩
    obtain ⟨v1, v2, v3, -⟩ := H u
    unfold IsV at v1
    have y : ¬ (a1 = 1 ∨ a1 = 4) := by omega
    rw [if_neg y]
    exact (bad_r h12 (by decide)).1
  · rw [cn_of hp] at h4
    rw [h4] at h5
    rw [cn_of hp] at h6
    rw [h6] at h7
    rw [cn_of hp] at h8
    rw [h8] at h9
    rw [cn_of hp] at h11
    rw [e0]
    refine ⟨((bad_r h3 (by decide)).2).tr (bad_r h16 (by decide)).2, fun _ => (bad_r h16 (by decide)).1, fun u => ?_⟩
    have hw := plc_f hs (hE.sm ((bad_r h3 (by decide)).2 33 (by decide) (by decide))) (H u) h9 h11 h12 h13
    obtain ⟨v1, v2, v3, -⟩ := H u
    unfold IsV at v1
    have y : ¬ (a1 = 1 ∨ a1 = 4) := by omega
    rw [if_neg y]
    exact (bad_r h16 (by decide)).1
  · rw [cn_of hp] at h4
    rw [h4] at h5
    rw [cn_of hp] at h6
    rw [h6] at h7
    rw [cn_of hp] at h8
    rw [h8] at h9
    rw [cn_of hp] at h11
    rw [e0]
    refine ⟨(bad_r h3 (by decide)).2, fun _ => (bad_r h3 (by decide)).1, fun u => ?_⟩
    have hw := plc_f hs (hE.sm ((bad_r h3 (by decide)).2 33 (by decide) (by decide))) (H u) h9 h11 h12 h13
    obtain ⟨v1, v2, v3, -⟩ := H u
    unfold IsV at v1
    have y : ¬ (a1 = 1 ∨ a1 = 4) := by omega
    rw [if_neg y]
    exact (bad_r h3 (by decide)).1
  · rw [cn_of hp] at h4
    rw [h4] at h5
    rw [cn_of hp] at h6
    rw [h6] at h7
    rw [cn_of hp] at h9
    rw [h9] at h10
    rw [e0]
    refine ⟨((bad_r h3 (by decide)).2).tr (bad_r h12 (by decide)).2, fun _ => (bad_r h12 (by decide)).1, fun u => ?_⟩
    obtain ⟨v1, v2, v3, -⟩ := H u
    unfold IsV at v1
    have y : ¬ (a1 = 1 ∨ a1 = 4) := by omega
    rw [if_neg y]
    exact (bad_r h12 (by decide)).1
  · rw [cn_of hp] at h4
    rw [h4] at h5
    rw [cn_of hp] at h6
    rw [h6] at h7
    rw [cn_of hp] at h9
    rw [h9] at h10
    rw [e0]
    refine ⟨((bad_r h3 (by decide)).2).tr (bad_r h13 (by decide)).2, fun _ => (bad_r h13 (by decide)).1, fun u => ?_⟩
    obtain ⟨v1, v2, v3, -⟩ := H u
    unfold IsV at v1
    have y : ¬ (a1 = 1 ∨ a1 = 4) := by omega
    rw [if_neg y]
    exact (bad_r h13 (by decide)).1
  · rw [cn_of hp] at h4
    rw [h4] at h5
    rw [cn_of hp] at h6
    rw [h6] at h7
    rw [cn_of hp] at h9
    rw [h9] at h10
    rw [cn_of hp] at h12
    rw [e0]
    refine ⟨((bad_r h3 (by decide)).2).tr (bad_r h17 (by decide)).2, fun _ => (bad_r h17 (by decide)).1, fun u => ?_⟩
    have hw := plc_f hs (hE.sm ((bad_r h3 (by decide)).2 33 (by decide) (by decide))) (H u) h10 h12 h13 h14
    obtain ⟨v1, v2, v3, -⟩ := H u
    unfold IsV at v1
    have y : ¬ (a1 = 1 ∨ a1 = 4) := by omega
    rw [if_neg y]
    exact (bad_r h17 (by decide)).1
  · rw [cn_of hp] at h4
    rw [h4] at h5
    rw [cn_of hp] at h6
    rw [h6] at h7
    rw [cn_of hp] at h9
    rw [h9] at h10
    rw [cn_of hp] at h12
    rw [e0]
    refine ⟨(bad_r h3 (by decide)).2, fun _ => (bad_r h3 (by decide)).1, fun u => ?_⟩
    have hw := plc_f hs (hE.sm ((bad_r h3 (by decide)).2 33 (by decide) (by decide))) (H u) h10 h12 h13 h14
    obtain ⟨v1, v2, v3, -⟩ := H u
    unfold IsV at v1
    have y : ¬ (a1 = 1 ∨ a1 = 4) := by omega
    rw [if_neg y]
    exact (bad_r h3 (by decide)).1
  · rw [cn_of hp] at h4
    rw [h4] at h5
    rw [cn_of hp] at h6
    rw [h6] at h7
    rw [cn_of hp] at h9
    rw [h9] at h10
    rw [e0]
    refine ⟨(bad_r h3 (by decide)).2, fun _ => (bad_r h3 (by decide)).1, fun u => ?_⟩
    obtain ⟨v1, v2, v3, -⟩ := H u
    unfold IsV at v1
    have y : ¬ (a1 = 1 ∨ a1 = 4) := by omega
    rw [if_neg y]
    exact (bad_r h3 (by decide)).1
  · rw [cn_of hp] at h4
    rw [h4] at h5
    rw [cn_of hp] at h6
    rw [h6] at h7
    rw [cn_of hp] at h9
    rw [h9] at h10
    rw [e0]
    refine ⟨(bad_r h3 (by decide)).2, fun _ => (bad_r h3 (by decide)).1, fun u => ?_⟩
    obtain ⟨v1, v2, v3, -⟩ := H u
    unfold IsV at v1
    have y : ¬ (a1 = 1 ∨ a1 = 4) := by omega
    rw [if_neg y]
    exact (bad_r h3 (by decide)).1
  · rw [cn_of hp] at h4
    rw [h4] at h5
    rw [cn_of hp] at h6
    rw [h6] at h7
    rw [cn_of hp] at h9
    rw [h9] at h10
    rw [cn_of hp] at h12
    rw [e0]
    refine ⟨((bad_r h3 (by decide)).2).tr (bad_r h17 (by decide)).2, fun _ => (bad_r h17 (by decide)).1, fun u => ?_⟩
    have hw := plc_f hs (hE.sm ((bad_r h3 (by decide)).2 33 (by decide) (by decide))) (H u) h10 h12 h13 h14
    obtain ⟨v1, v2, v3, -⟩ := H u
    unfold IsV at v1
    have y : ¬ (a1 = 1 ∨ a1 = 4) := by omega
    rw [if_neg y]
    exact (bad_r h17 (by decide)).1
  · rw [cn_of hp] at h4
    rw [h4] at h5
    rw [cn_of hp] at h6
    rw [h6] at h7
    rw [cn_of hp] at h9
    rw [h9] at h10
    rw [cn_of hp] at h12
    rw [e0]
    refine ⟨(bad_r h3 (by decide)).2, fun _ => (bad_r h3 (by decide)).1, fun u => ?_⟩
    have hw := plc_f hs (hE.sm ((bad_r h3 (by decide)).2 33 (by decide) (by decide))) (H u) h10 h12 h13 h14
    obtain ⟨v1, v2, v3, -⟩ := H u
    unfold IsV at v1
    have y : ¬ (a1 = 1 ∨ a1 = 4) := by omega
    rw [if_neg y]
    exact (bad_r h3 (by decide)).1
  · rw [cn_of hp] at h3
    rw [h3] at h4
    rw [cn_of hp] at h5
    rw [h5] at h6
    rw [e0]
    refine ⟨SmK.rf, id, fun u => ?_⟩
    obtain ⟨v1, v2, v3, -⟩ := H u
    unfold IsV at v1
    have y : a1 = 1 ∨ a1 = 4 := by omega
    rw [if_pos y]
    exact ⟨u, trivial⟩
  · rw [cn_of hp] at h3
    rw [h3] at h4
    rw [cn_of hp] at h5
    rw [h5] at h6
    rw [e0]
    refine ⟨SmK.rf, id, fun u => ?_⟩
    obtain ⟨v1, v2, v3, -⟩ := H u
    unfold IsV at v1
    have y : a1 = 1 ∨ a1 = 4 := by omega
    rw [if_pos y]
    exact ⟨u, trivial⟩
  · rw [cn_of hp] at h3
    rw [h3] at h4
    rw [cn_of hp] at h5
    rw [h5] at h6
    rw [cn_of hp] at h8
    rw [e0]
    refine ⟨(bad_r h13 (by decide)).2, fun _ => (bad_r h13 (by decide)).1, fun u => ?_⟩
    have hw := plc_f hs hE (H u) h6 h8 h9 h10
    obtain ⟨v1, v2, v3, -⟩ := H u
    unfold IsV at v1
    have y : ¬ (a1 = 1 ∨ a1 = 4) := by omega
    rw [if_neg y]
    exact (bad_r h13 (by decide)).1
  · rw [cn_of hp] at h3
    rw [h3] at h4
    rw [cn_of hp] at h5
    rw [h5] at h6
    rw [cn_of hp] at h8
    rw [e0]
    refine ⟨SmK.rf, id, fun u => ?_⟩
    have hw := plc_f hs hE (H u) h6 h8 h9 h10
    obtain ⟨v1, v2, v3, -⟩ := H u
    unfold IsV at v1
    have y : a1 = 1 ∨ a1 = 4 := by omega
    rw [if_pos y]
    exact ⟨u, trivial⟩
  · rw [cn_of hp] at h3
    rw [h3] at h4
    rw [cn_of hp] at h5
    rw [h5] at h6
    rw [cn_of hp] at h7
    rw [h7] at h8
    rw [e0]
    refine ⟨(bad_r h10 (by decide)).2, fun _ => (bad_r h10 (by decide)).1, fun u => ?_⟩
    obtain ⟨v1, v2, v3, -⟩ := H u
    unfold IsV at v1
    have y : ¬ (a1 = 1 ∨ a1 = 4) := by omega
    rw [if_neg y]
    exact (bad_r h10 (by decide)).1
  · rw [cn_of hp] at h3
    rw [h3] at h4
    rw [cn_of hp] at h5
    rw [h5] at h6
    rw [cn_of hp] at h7
    rw [h7] at h8
    rw [e0]
    refine ⟨(bad_r h11 (by decide)).2, fun _ => (bad_r h11 (by decide)).1, fun u => ?_⟩
    obtain ⟨v1, v2, v3, -⟩ := H u
    unfold IsV at v1
    have y : ¬ (a1 = 1 ∨ a1 = 4) := by omega
    rw [if_neg y]
    exact (bad_r h11 (by decide)).1
  · rw [cn_of hp] at h3
    rw [h3] at h4
    rw [cn_of hp] at h5
    rw [h5] at h6
    rw [cn_of hp] at h7
    rw [h7] at h8
    rw [cn_of hp] at h10
    rw [e0]
    refine ⟨(bad_r h15 (by decide)).2, fun _ => (bad_r h15 (by decide)).1, fun u => ?_⟩
    have hw := plc_f hs hE (H u) h8 h10 h11 h12
    obtain ⟨v1, v2, v3, -⟩ := H u
    unfold IsV at v1
    have y : ¬ (a1 = 1 ∨ a1 = 4) := by omega
    rw [if_neg y]
    exact (bad_r h15 (by decide)).1
  · rw [cn_of hp] at h3
    rw [h3] at h4
    rw [cn_of hp] at h5
    rw [h5] at h6
    rw [cn_of hp] at h7
    rw [h7] at h8
    rw [cn_of hp] at h10
    rw [e0]
    refine ⟨SmK.rf, id, fun u => ?_⟩
    have hw := plc_f hs hE (H u) h8 h10 h11 h12
    obtain ⟨v1, v2, v3, -⟩ := H u
    unfold IsV at v1
    have y : a1 = 1 ∨ a1 = 4 := by omega
    rw [if_pos y]
    exact ⟨u, trivial⟩
  · rw [cn_of hp] at h3
    rw [h3] at h4
    rw [cn_of hp] at h5
    rw [h5] at h6
    rw [cn_of hp] at h8
    rw [h8] at h9
    rw [e0]
    refine ⟨(bad_r h11 (by decide)).2, fun _ => (bad_r h11 (by decide)).1, fun u => ?_⟩
    obtain ⟨v1, v2, v3, -⟩ := H u
    unfold IsV at v1
    have y : ¬ (a1 = 1 ∨ a1 = 4) := by omega
    rw [if_neg y]
    exact (bad_r h11 (by decide)).1
  · rw [cn_of hp] at h3
    rw [h3] at h4
    rw [cn_of hp] at h5
    rw [h5] at h6
    rw [cn_of hp] at h8
    rw [h8] at h9
    rw [e0]
    refine ⟨(bad_r h12 (by decide)).2, fun _ => (bad_r h12 (by decide)).1, fun u => ?_⟩
    obtain ⟨v1, v2, v3, -⟩ := H u
    unfold IsV at v1
    have y : ¬ (a1 = 1 ∨ a1 = 4) := by omega
    rw [if_neg y]
    exact (bad_r h12 (by decide)).1
  · rw [cn_of hp] at h3
    rw [h3] at h4
    rw [cn_of hp] at h5
    rw [h5] at h6
    rw [cn_of hp] at h8
    rw [h8] at h9
    rw [cn_of hp] at h11
    rw [e0]
    refine ⟨(bad_r h16 (by decide)).2, fun _ => (bad_r h16 (by decide)).1, fun u => ?_⟩
    have hw := plc_f hs hE (H u) h9 h11 h12 h13
    obtain ⟨v1, v2, v3, -⟩ := H u
    unfold IsV at v1
    have y : ¬ (a1 = 1 ∨ a1 = 4) := by omega
    rw [if_neg y]
    exact (bad_r h16 (by decide)).1
  · rw [cn_of hp] at h3
    rw [h3] at h4
    rw [cn_of hp] at h5
    rw [h5] at h6
    rw [cn_of hp] at h8
    rw [h8] at h9
    rw [cn_of hp] at h11
    rw [e0]
    refine ⟨SmK.rf, id, fun u => ?_⟩
    have hw := plc_f hs hE (H u) h9 h11 h12 h13
    obtain ⟨v1, v2, v3, -⟩ := H u
    unfold IsV at v1
    have y : a1 = 1 ∨ a1 = 4 := by omega
    rw [if_pos y]
    exact ⟨u, trivial⟩
  · rw [cn_of hp] at h3
    rw [h3] at h4
    rw [cn_of hp] at h5
    rw [h5] at h6
    rw [cn_of hp] at h8
    rw [h8] at h9
    rw [e0]
    refine ⟨SmK.rf, id, fun u => ?_⟩
    obtain ⟨v1, v2, v3, -⟩ := H u
    unfold IsV at v1
    have y : a1 = 1 ∨ a1 = 4 := by omega
    rw [if_pos y]
    exact ⟨u, trivial⟩
  · rw [cn_of hp] at h3
    rw [h3] at h4
    rw [cn_of hp] at h5
    rw [h5] at h6
    rw [cn_of hp] at h8
    rw [h8] at h9
    rw [e0]
    refine ⟨SmK.rf, id, fun u => ?_⟩
    obtain ⟨v1, v2, v3, -⟩ := H u
    unfold IsV at v1
    have y : a1 = 1 ∨ a1 = 4 := by omega
    rw [if_pos y]
    exact ⟨u, trivial⟩
  · rw [cn_of hp] at h3
    rw [h3] at h4
    rw [cn_of hp] at h5
    rw [h5] at h6
    rw [cn_of hp] at h8
    rw [h8] at h9
    rw [cn_of hp] at h11
    rw [e0]
    refine ⟨(bad_r h16 (by decide)).2, fun _ => (bad_r h16 (by decide)).1, fun u => ?_⟩
    have hw := plc_f hs hE (H u) h9 h11 h12 h13
    obtain ⟨v1, v2, v3, -⟩ := H u
    unfold IsV at v1
    have y : ¬ (a1 = 1 ∨ a1 = 4) := by omega
    rw [if_neg y]
    exact (bad_r h16 (by decide)).1
  · rw [cn_of hp] at h3
    rw [h3] at h4
    rw [cn_of hp] at h5
    rw [h5] at h6
    rw [cn_of hp] at h8
    rw [h8] at h9
    rw [cn_of hp] at h11
    rw [e0]
    refine ⟨SmK.rf, id, fun u => ?_⟩
    have hw := plc_f hs hE (H u) h9 h11 h12 h13
    obtain ⟨v1, v2, v3, -⟩ := H u
    unfold IsV at v1
    have y : a1 = 1 ∨ a1 = 4 := by omega
    rw [if_pos y]
    exact ⟨u, trivial⟩
  · rw [cn_of hp] at h5
    rw [h5] at h6
    rw [cn_of hp] at h7
    rw [h7] at h8
    rw [e0]
    refine ⟨(bad_r h4 (by decide)).2, fun _ => (bad_r h4 (by decide)).1, fun u => ?_⟩
    obtain ⟨v1, v2, v3, -⟩ := H u
    unfold IsV at v1
    have y : ¬ (a1 = 1 ∨ a1 = 4) := by omega
    rw [if_neg y]
    exact (bad_r h4 (by decide)).1
  · rw [cn_of hp] at h5
    rw [h5] at h6
    rw [cn_of hp] at h7
    rw [h7] at h8
    rw [e0]
    refine ⟨(bad_r h4 (by decide)).2, fun _ => (bad_r h4 (by decide)).1, fun u => ?_⟩
    obtain ⟨v1, v2, v3, -⟩ := H u
    unfold IsV at v1
    have y : ¬ (a1 = 1 ∨ a1 = 4) := by omega
    rw [if_neg y]
    exact (bad_r h4 (by decide)).1
  · rw [cn_of hp] at h5
    rw [h5] at h6
    rw [cn_of hp] at h7
    rw [h7] at h8
    rw [cn_of hp] at h10
    rw [e0]
    refine ⟨((bad_r h4 (by decide)).2).tr (bad_r h15 (by decide)).2, fun _ => (bad_r h15 (by decide)).1, fun u => ?_⟩
    have hw := plc_f hs (hE.sm ((bad_r h4 (by decide)).2 33 (by decide) (by decide))) (H u) h8 h10 h11 h12
    obtain ⟨v1, v2, v3, -⟩ := H u
    unfold IsV at v1
    have y : ¬ (a1 = 1 ∨ a1 = 4) := by omega
    rw [if_neg y]
    exact (bad_r h15 (by decide)).1
  · rw [cn_of hp] at h5
    rw [h5] at h6
    rw [cn_of hp] at h7
    rw [h7] at h8
    rw [cn_of hp] at h10
    rw [e0]
    refine ⟨(bad_r h4 (by decide)).2, fun _ => (bad_r h4 (by decide)).1, fun u => ?_⟩
    have hw := plc_f hs (hE.sm ((bad_r h4 (by decide)).2 33 (by decide) (by decide))) (H u) h8 h10 h11 h12
    obtain ⟨v1, v2, v3, -⟩ := H u
    unfold IsV at v1
    have y : ¬ (a1 = 1 ∨ a1 = 4) := by omega
    rw [if_neg y]
    exact (bad_r h4 (by decide)).1
  · rw [cn_of hp] at h5
    rw [h5] at h6
    rw [cn_of hp] at h7
    rw [h7] at h8
    rw [cn_of hp] at h9
    rw [h9] at h10
    rw [e0]
    refine ⟨((bad_r h4 (by decide)).2).tr (bad_r h12 (by decide)).2, fun _ => (bad_r h12 (by decide)).1, fun u => ?_⟩
    obtain ⟨v1, v2, v3, -⟩ := H u
    unfold IsV at v1
    have y : ¬ (a1 = 1 ∨ a1 = 4) := by omega
    rw [if_neg y]
    exact (bad_r h12 (by decide)).1
  · rw [cn_of hp] at h5
    rw [h5] at h6
    rw [cn_of hp] at h7
    rw [h7] at h8
    rw [cn_of hp] at h9
    rw [h9] at h10
    rw [e0]
    refine ⟨((bad_r h4 (by decide)).2).tr (bad_r h13 (by decide)).2, fun _ => (bad_r h13 (by decide)).1, fun u => ?_⟩
    obtain ⟨v1, v2, v3, -⟩ := H u
    unfold IsV at v1
    have y : ¬ (a1 = 1 ∨ a1 = 4) := by omega
    rw [if_neg y]
    exact (bad_r h13 (by decide)).1
  · rw [cn_of hp] at h5
    rw [h5] at h6
    rw [cn_of hp] at h7
    rw [h7] at h8
    rw [cn_of hp] at h9
    rw [h9] at h10
    rw [cn_of hp] at h12
    rw [e0]
    refine ⟨((bad_r h4 (by decide)).2).tr (bad_r h17 (by decide)).2, fun _ => (bad_r h17 (by decide)).1, fun u => ?_⟩
    have hw := plc_f hs (hE.sm ((bad_r h4 (by decide)).2 33 (by decide) (by decide))) (H u) h10 h12 h13 h14
    obtain ⟨v1, v2, v3, -⟩ := H u
    unfold IsV at v1
    have y : ¬ (a1 = 1 ∨ a1 = 4) := by omega
    rw [if_neg y]
    exact (bad_r h17 (by decide)).1
  · rw [cn_of hp] at h5
    rw [h5] at h6
    rw [cn_of hp] at h7
    rw [h7] at h8
    rw [cn_of hp] at h9
    rw [h9] at h10
    rw [cn_of hp] at h12
    rw [e0]
    refine ⟨(bad_r h4 (by decide)).2, fun _ => (bad_r h4 (by decide)).1, fun u => ?_⟩
    have hw := plc_f hs (hE.sm ((bad_r h4 (by decide)).2 33 (by decide) (by decide))) (H u) h10 h12 h13 h14
    obtain ⟨v1, v2, v3, -⟩ := H u
    unfold IsV at v1
    have y : ¬ (a1 = 1 ∨ a1 = 4) := by omega
    rw [if_neg y]
    exact (bad_r h4 (by decide)).1
  · rw [cn_of hp] at h5
    rw [h5] at h6
    rw [cn_of hp] at h7
    rw [h7] at h8
    rw [cn_of hp] at h10
    rw [h10] at h11
    rw [e0]
    refine ⟨((bad_r h4 (by decide)).2).tr (bad_r h13 (by decide)).2, fun _ => (bad_r h13 (by decide)).1, fun u => ?_⟩
    obtain ⟨v1, v2, v3, -⟩ := H u
    unfold IsV at v1
    have y : ¬ (a1 = 1 ∨ a1 = 4) := by omega
    rw [if_neg y]
    exact (bad_r h13 (by decide)).1
  · rw [cn_of hp] at h5
    rw [h5] at h6
    rw [cn_of hp] at h7
    rw [h7] at h8
    rw [cn_of hp] at h10
    rw [h10] at h11
    rw [e0]
    refine ⟨((bad_r h4 (by decide)).2).tr (bad_r h14 (by decide)).2, fun _ => (bad_r h14 (by decide)).1, fun u => ?_⟩
    obtain ⟨v1, v2, v3, -⟩ := H u
    unfold IsV at v1
    have y : ¬ (a1 = 1 ∨ a1 = 4) := by omega
    rw [if_neg y]
    exact (bad_r h14 (by decide)).1
  · rw [cn_of hp] at h5
    rw [h5] at h6
    rw [cn_of hp] at h7
    rw [h7] at h8
    rw [cn_of hp] at h10
    rw [h10] at h11
    rw [cn_of hp] at h13
    rw [e0]
    refine ⟨((bad_r h4 (by decide)).2).tr (bad_r h18 (by decide)).2, fun _ => (bad_r h18 (by decide)).1, fun u => ?_⟩
    have hw := plc_f hs (hE.sm ((bad_r h4 (by decide)).2 33 (by decide) (by decide))) (H u) h11 h13 h14 h15
    obtain ⟨v1, v2, v3, -⟩ := H u
    unfold IsV at v1
    have y : ¬ (a1 = 1 ∨ a1 = 4) := by omega
    rw [if_neg y]
    exact (bad_r h18 (by decide)).1
  · rw [cn_of hp] at h5
    rw [h5] at h6
    rw [cn_of hp] at h7
    rw [h7] at h8
    rw [cn_of hp] at h10
    rw [h10] at h11
    rw [cn_of hp] at h13
    rw [e0]
    refine ⟨(bad_r h4 (by decide)).2, fun _ => (bad_r h4 (by decide)).1, fun u => ?_⟩
    have hw := plc_f hs (hE.sm ((bad_r h4 (by decide)).2 33 (by decide) (by decide))) (H u) h11 h13 h14 h15
    obtain ⟨v1, v2, v3, -⟩ := H u
    unfold IsV at v1
    have y : ¬ (a1 = 1 ∨ a1 = 4) := by omega
    rw [if_neg y]
    exact (bad_r h4 (by decide)).1
  · rw [cn_of hp] at h5
    rw [h5] at h6
    rw [cn_of hp] at h7
    rw [h7] at h8
    rw [cn_of hp] at h10
    rw [h10] at h11
    rw [e0]
    refine ⟨(bad_r h4 (by decide)).2, fun _ => (bad_r h4 (by decide)).1, fun u => ?_⟩
    obtain ⟨v1, v2, v3, -⟩ := H u
    unfold IsV at v1
    have y : ¬ (a1 = 1 ∨ a1 = 4) := by omega
    rw [if_neg y]
    exact (bad_r h4 (by decide)).1
  · rw [cn_of hp] at h5
    rw [h5] at h6
    rw [cn_of hp] at h7
    rw [h7] at h8
    rw [cn_of hp] at h10
    rw [h10] at h11
    rw [e0]
    refine ⟨(bad_r h4 (by decide)).2, fun _ => (bad_r h4 (by decide)).1, fun u => ?_⟩
    obtain ⟨v1, v2, v3, -⟩ := H u
    unfold IsV at v1
    have y : ¬ (a1 = 1 ∨ a1 = 4) := by omega
    rw [if_neg y]
    exact (bad_r h4 (by decide)).1
  · rw [cn_of hp] at h5
    rw [h5] at h6
    rw [cn_of hp] at h7
    rw [h7] at h8
    rw [cn_of hp] at h10
    rw [h10] at h11
    rw [cn_of hp] at h13
    rw [e0]
    refine ⟨((bad_r h4 (by decide)).2).tr (bad_r h18 (by decide)).2, fun _ => (bad_r h18 (by decide)).1, fun u => ?_⟩
    have hw := plc_f hs (hE.sm ((bad_r h4 (by decide)).2 33 (by decide) (by decide))) (H u) h11 h13 h14 h15
    obtain ⟨v1, v2, v3, -⟩ := H u
    unfold IsV at v1
    have y : ¬ (a1 = 1 ∨ a1 = 4) := by omega
    rw [if_neg y]
    exact (bad_r h18 (by decide)).1
  · rw [cn_of hp] at h5
    rw [h5] at h6
    rw [cn_of hp] at h7
    rw [h7] at h8
    rw [cn_of hp] at h10
    rw [h10] at h11
    rw [cn_of hp] at h13
    rw [e0]
    refine ⟨(bad_r h4 (by decide)).2, fun _ => (bad_r h4 (by decide)).1, fun u => ?_⟩
    have hw := plc_f hs (hE.sm ((bad_r h4 (by decide)).2 33 (by decide) (by decide))) (H u) h11 h13 h14 h15
    obtain ⟨v1, v2, v3, -⟩ := H u
    unfold IsV at v1
    have y : ¬ (a1 = 1 ∨ a1 = 4) := by omega
    rw [if_neg y]
    exact (bad_r h4 (by decide)).1
  · exact h.elim
end RW2
