/-! THE REFERENCE's checker: statements whole (laid by gensa.py) -/
section SK
variable {tf : Nat → Int32} {ta na ca ca0 ca1 ca' ma ma' ma1 : Nat → Nat → Int32} {vl M0 : Nat → Int32} {k : Nat → Int} {ql : Nat → Int} {c sc lo hi mid d : Nat} {n38 : Int32} {F : Int32 → Option Fnc} {cf cf' cf1 cf0 cf6 cf7 : Nat → Int32} {L : Nms} {p0 p1 v : Int32} {e a b s : Ast} {tp lp bk : Bool} {x f : Sg → Option Sg} {W W1 W2 : Int → (Nat → Nat → Int32) → Prop} {rt : Int} {RL : T_mp_checkStatement}
theorem sc_r (H : TxH tf ta na ca0 k vl ql c n38 M0 F) (HS : HSz tf ta na ca0 k vl ql c n38 M0 F rt RL) : HSz tf ta na ca0 k vl ql c n38 M0 F rt (R_mp_checkStatement RL) := by
  intro d s p0 lo hi sc L lp bk ma cf ca ma' cf' ca' hR hh hp S hL hw hC h
  cases d with
  | zero => exact hR.elim
  | succ d =>
    obtain ⟨hl, hR⟩ := hR
    rcases hR with hX | hD | ⟨a, a1, a2, a3⟩ | ⟨a1, a2⟩ | ⟨e, s1, m, a1, a2, a3, a4, a5, a6⟩ | ⟨e, s1, s2, m, m2, a1, a2, a3, a4, a5, a6, a7⟩ | ⟨e, s1, m, a1, a2, a3, a4, a5, a6⟩ | ⟨e, s1, m, a1, a2, a3, a4, a5, a6⟩ | ⟨a, b, e, s1, m1, m2, m3, a1, a2, a3, a4, a5, a6, a7⟩ | ⟨e, b, m, a1, a2, a3, a4⟩ | ⟨a1, a2⟩ | ⟨a1, a2⟩ | ⟨a1, a2, a3⟩ | ⟨e, a1, a2, a3⟩
    · have a2 : (na 14 lo).toInt = 22 := by obtain ⟨_, -, q, -⟩ := hX; exact q
      rcases h with ⟨z1, h1, (⟨h2, (⟨h3, e0, e1, e2⟩ | ⟨h3, z6, h4, (⟨h5, z10, h6, cf12, h7, e0, e1, e2⟩ | ⟨h5, (⟨h6, z38, h7, cf40, h8, e0, e1, e2⟩ | ⟨h6, e0, e1, e2⟩)⟩)⟩)⟩ | ⟨h2, ma68, cf69, ca70, h3, e0, e1, e2⟩ | ⟨h2, e0, e1, e2⟩ | ⟨h2, z101, h3, ma104, cf105, h4, e0, e1, e2⟩ | ⟨h2, ma123, cf124, ca125, h3, e0, e1, e2⟩ | ⟨h2, z158, h3, ma161, cf162, v164, h4, z181, h5, ma185, cf186, ca187, h6, z219, h7, (⟨h8, e0, e1, e2⟩ | ⟨h8, z222, h9, ma226, cf227, ca228, h10, e0, e1, e2⟩)⟩ | ⟨h2, z260, h3, ma263, cf264, v266, h4, z283, h5, ma287, cf288, ca289, h6, e0, e1, e2⟩ | ⟨h2, z321, h3, ma325, cf326, ca327, h4, z359, h5, ma362, cf363, v365, h6, e0, e1, e2⟩ | ⟨h2, ma385, cf386, ca387, h3, e0, e1, e2⟩ | ⟨h2, ma421, cf422, ca423, h3, e0, e1, e2⟩ | ⟨h2, (⟨h3, e0, e1, e2⟩ | ⟨h3, z457, h4, (⟨h5, z461, h6, cf463, h7, e0, e1, e2⟩ | ⟨h5, (⟨h6, z489, h7, cf491, h8, e0, e1, e2⟩ | ⟨h6, e0, e1, e2⟩)⟩)⟩)⟩ | ⟨h2, ma518, cf519, ca520, h3, e0, e1, e2⟩)⟩ | h
      all_goals first | exact h.elim | have hk : z1.toInt = (na 14 lo).toInt := (by rw [h1, cn_of hp])
      · exfalso; omega
      · exfalso; omega
      · exfalso; omega
      · exfalso; omega
      · exfalso; omega
      · exfalso; omega
      · rw [cn_of hp] at h3
        rw [e0, e1]
        exact k22_t H HS hh hl hp S hL hw hC hX h3 h4 e2
      · exfalso; omega
      · exfalso; omega
      · exfalso; omega
      · exfalso; omega
      · exfalso; omega
      · exfalso; omega
      · exfalso; omega
      · exfalso; omega
      · exfalso; omega
      · exfalso; omega
      · exfalso; omega
      · exfalso; omega
    · have a2 : (na 14 lo).toInt = 23 := by obtain ⟨_, _, -, q, -⟩ := hD; exact q
      rcases h with ⟨z1, h1, (⟨h2, (⟨h3, e0, e1, e2⟩ | ⟨h3, z6, h4, (⟨h5, z10, h6, cf12, h7, e0, e1, e2⟩ | ⟨h5, (⟨h6, z38, h7, cf40, h8, e0, e1, e2⟩ | ⟨h6, e0, e1, e2⟩)⟩)⟩)⟩ | ⟨h2, ma68, cf69, ca70, h3, e0, e1, e2⟩ | ⟨h2, e0, e1, e2⟩ | ⟨h2, z101, h3, ma104, cf105, h4, e0, e1, e2⟩ | ⟨h2, ma123, cf124, ca125, h3, e0, e1, e2⟩ | ⟨h2, z158, h3, ma161, cf162, v164, h4, z181, h5, ma185, cf186, ca187, h6, z219, h7, (⟨h8, e0, e1, e2⟩ | ⟨h8, z222, h9, ma226, cf227, ca228, h10, e0, e1, e2⟩)⟩ | ⟨h2, z260, h3, ma263, cf264, v266, h4, z283, h5, ma287, cf288, ca289, h6, e0, e1, e2⟩ | ⟨h2, z321, h3, ma325, cf326, ca327, h4, z359, h5, ma362, cf363, v365, h6, e0, e1, e2⟩ | ⟨h2, ma385, cf386, ca387, h3, e0, e1, e2⟩ | ⟨h2, ma421, cf422, ca423, h3, e0, e1, e2⟩ | ⟨h2, (⟨h3, e0, e1, e2⟩ | ⟨h3, z457, h4, (⟨h5, z461, h6, cf463, h7, e0, e1, e2⟩ | ⟨h5, (⟨h6, z489, h7, cf491, h8, e0, e1, e2⟩ | ⟨h6, e0, e1, e2⟩)⟩)⟩)⟩ | ⟨h2, ma518, cf519, ca520, h3, e0, e1, e2⟩)⟩ | h
      all_goals first | exact h.elim | have hk : z1.toInt = (na 14 lo).toInt := (by rw [h1, cn_of hp])
      · exfalso; omega
      · exfalso; omega
      · exfalso; omega
      · exfalso; omega
      · exfalso; omega
      · exfalso; omega
      · exfalso; omega
      · rw [e0, e1, e2]
        exact k23_t H HS hh hl hp S hL hw hC hD h3
      · exfalso; omega
      · exfalso; omega
      · exfalso; omega
      · exfalso; omega
      · exfalso; omega
      · exfalso; omega
      · exfalso; omega
      · exfalso; omega
      · exfalso; omega
      · exfalso; omega
      · exfalso; omega
    · rcases h with ⟨z1, h1, (⟨h2, (⟨h3, e0, e1, e2⟩ | ⟨h3, z6, h4, (⟨h5, z10, h6, cf12, h7, e0, e1, e2⟩ | ⟨h5, (⟨h6, z38, h7, cf40, h8, e0, e1, e2⟩ | ⟨h6, e0, e1, e2⟩)⟩)⟩)⟩ | ⟨h2, ma68, cf69, ca70, h3, e0, e1, e2⟩ | ⟨h2, e0, e1, e2⟩ | ⟨h2, z101, h3, ma104, cf105, h4, e0, e1, e2⟩ | ⟨h2, ma123, cf124, ca125, h3, e0, e1, e2⟩ | ⟨h2, z158, h3, ma161, cf162, v164, h4, z181, h5, ma185, cf186, ca187, h6, z219, h7, (⟨h8, e0, e1, e2⟩ | ⟨h8, z222, h9, ma226, cf227, ca228, h10, e0, e1, e2⟩)⟩ | ⟨h2, z260, h3, ma263, cf264, v266, h4, z283, h5, ma287, cf288, ca289, h6, e0, e1, e2⟩ | ⟨h2, z321, h3, ma325, cf326, ca327, h4, z359, h5, ma362, cf363, v365, h6, e0, e1, e2⟩ | ⟨h2, ma385, cf386, ca387, h3, e0, e1, e2⟩ | ⟨h2, ma421, cf422, ca423, h3, e0, e1, e2⟩ | ⟨h2, (⟨h3, e0, e1, e2⟩ | ⟨h3, z457, h4, (⟨h5, z461, h6, cf463, h7, e0, e1, e2⟩ | ⟨h5, (⟨h6, z489, h7, cf491, h8, e0, e1, e2⟩ | ⟨h6, e0, e1, e2⟩)⟩)⟩)⟩ | ⟨h2, ma518, cf519, ca520, h3, e0, e1, e2⟩)⟩ | h
      all_goals first | exact h.elim | have hk : z1.toInt = (na 14 lo).toInt := (by rw [h1, cn_of hp])
      · exfalso; omega
      · exfalso; omega
      · exfalso; omega
      · exfalso; omega
      · rw [e0, e1, e2]
        exact k20_t H HS hh hl hp S hL hw hC a1 a2 a3 h3
      · exfalso; omega
      · exfalso; omega
      · exfalso; omega
      · exfalso; omega
      · exfalso; omega
      · exfalso; omega
      · exfalso; omega
      · exfalso; omega
      · exfalso; omega
      · exfalso; omega
      · exfalso; omega
      · exfalso; omega
      · exfalso; omega
      · exfalso; omega
    · rcases h with ⟨z1, h1, (⟨h2, (⟨h3, e0, e1, e2⟩ | ⟨h3, z6, h4, (⟨h5, z10, h6, cf12, h7, e0, e1, e2⟩ | ⟨h5, (⟨h6, z38, h7, cf40, h8, e0, e1, e2⟩ | ⟨h6, e0, e1, e2⟩)⟩)⟩)⟩ | ⟨h2, ma68, cf69, ca70, h3, e0, e1, e2⟩ | ⟨h2, e0, e1, e2⟩ | ⟨h2, z101, h3, ma104, cf105, h4, e0, e1, e2⟩ | ⟨h2, ma123, cf124, ca125, h3, e0, e1, e2⟩ | ⟨h2, z158, h3, ma161, cf162, v164, h4, z181, h5, ma185, cf186, ca187, h6, z219, h7, (⟨h8, e0, e1, e2⟩ | ⟨h8, z222, h9, ma226, cf227, ca228, h10, e0, e1, e2⟩)⟩ | ⟨h2, z260, h3, ma263, cf264, v266, h4, z283, h5, ma287, cf288, ca289, h6, e0, e1, e2⟩ | ⟨h2, z321, h3, ma325, cf326, ca327, h4, z359, h5, ma362, cf363, v365, h6, e0, e1, e2⟩ | ⟨h2, ma385, cf386, ca387, h3, e0, e1, e2⟩ | ⟨h2, ma421, cf422, ca423, h3, e0, e1, e2⟩ | ⟨h2, (⟨h3, e0, e1, e2⟩ | ⟨h3, z457, h4, (⟨h5, z461, h6, cf463, h7, e0, e1, e2⟩ | ⟨h5, (⟨h6, z489, h7, cf491, h8, e0, e1, e2⟩ | ⟨h6, e0, e1, e2⟩)⟩)⟩)⟩ | ⟨h2, ma518, cf519, ca520, h3, e0, e1, e2⟩)⟩ | h
      all_goals first | exact h.elim | have hk : z1.toInt = (na 14 lo).toInt := (by rw [h1, cn_of hp])
      · exfalso; omega
      · exfalso; omega
      · exfalso; omega
      · exfalso; omega
      · exfalso; omega
      · rw [e0, e1, e2]
        exact k31_t S hl hp hL hw (Or.inl a2) (fun z _ => by rw [a1]; exact sm_1)
      · exfalso; omega
      · exfalso; omega
      · exfalso; omega
      · exfalso; omega
      · exfalso; omega
      · exfalso; omega
      · exfalso; omega
      · exfalso; omega
      · exfalso; omega
      · exfalso; omega
      · exfalso; omega
      · exfalso; omega
      · exfalso; omega
    · rcases h with ⟨z1, h1, (⟨h2, (⟨h3, e0, e1, e2⟩ | ⟨h3, z6, h4, (⟨h5, z10, h6, cf12, h7, e0, e1, e2⟩ | ⟨h5, (⟨h6, z38, h7, cf40, h8, e0, e1, e2⟩ | ⟨h6, e0, e1, e2⟩)⟩)⟩)⟩ | ⟨h2, ma68, cf69, ca70, h3, e0, e1, e2⟩ | ⟨h2, e0, e1, e2⟩ | ⟨h2, z101, h3, ma104, cf105, h4, e0, e1, e2⟩ | ⟨h2, ma123, cf124, ca125, h3, e0, e1, e2⟩ | ⟨h2, z158, h3, ma161, cf162, v164, h4, z181, h5, ma185, cf186, ca187, h6, z219, h7, (⟨h8, e0, e1, e2⟩ | ⟨h8, z222, h9, ma226, cf227, ca228, h10, e0, e1, e2⟩)⟩ | ⟨h2, z260, h3, ma263, cf264, v266, h4, z283, h5, ma287, cf288, ca289, h6, e0, e1, e2⟩ | ⟨h2, z321, h3, ma325, cf326, ca327, h4, z359, h5, ma362, cf363, v365, h6, e0, e1, e2⟩ | ⟨h2, ma385, cf386, ca387, h3, e0, e1, e2⟩ | ⟨h2, ma421, cf422, ca423, h3, e0, e1, e2⟩ | ⟨h2, (⟨h3, e0, e1, e2⟩ | ⟨h3, z457, h4, (⟨h5, z461, h6, cf463, h7, e0, e1, e2⟩ | ⟨h5, (⟨h6, z489, h7, cf491, h8, e0, e1, e2⟩ | ⟨h6, e0, e1, e2⟩)⟩)⟩)⟩ | ⟨h2, ma518, cf519, ca520, h3, e0, e1, e2⟩)⟩ | h
      all_goals first | exact h.elim | have hk : z1.toInt = (na 14 lo).toInt := (by rw [h1, cn_of hp])
      · exfalso; omega
      · exfalso; omega
      · exfalso; omega
      · exfalso; omega
      · exfalso; omega
      · exfalso; omega
      · exfalso; omega
      · exfalso; omega
      · rw [cn_of hp] at h3 h5 h7
        rw [e0, e1, e2]
        exact k24_t H HS hh hl hp S hL hw hC a1 a2 a3 a4 a5 a6 h3 h4 h5 h6
      · exfalso
        rw [cn_of hp] at h3 h5 h7
        have y := k24_n H HS hh hl hp S hL hw hC a2 a3 a4 a5 h3 h4 h5 h6
        rw [h7, y] at h8
        exact h8 a6
      · exfalso; omega
      · exfalso; omega
      · exfalso; omega
      · exfalso; omega
      · exfalso; omega
      · exfalso; omega
      · exfalso; omega
      · exfalso; omega
      · exfalso; omega
    · rcases h with ⟨z1, h1, (⟨h2, (⟨h3, e0, e1, e2⟩ | ⟨h3, z6, h4, (⟨h5, z10, h6, cf12, h7, e0, e1, e2⟩ | ⟨h5, (⟨h6, z38, h7, cf40, h8, e0, e1, e2⟩ | ⟨h6, e0, e1, e2⟩)⟩)⟩)⟩ | ⟨h2, ma68, cf69, ca70, h3, e0, e1, e2⟩ | ⟨h2, e0, e1, e2⟩ | ⟨h2, z101, h3, ma104, cf105, h4, e0, e1, e2⟩ | ⟨h2, ma123, cf124, ca125, h3, e0, e1, e2⟩ | ⟨h2, z158, h3, ma161, cf162, v164, h4, z181, h5, ma185, cf186, ca187, h6, z219, h7, (⟨h8, e0, e1, e2⟩ | ⟨h8, z222, h9, ma226, cf227, ca228, h10, e0, e1, e2⟩)⟩ | ⟨h2, z260, h3, ma263, cf264, v266, h4, z283, h5, ma287, cf288, ca289, h6, e0, e1, e2⟩ | ⟨h2, z321, h3, ma325, cf326, ca327, h4, z359, h5, ma362, cf363, v365, h6, e0, e1, e2⟩ | ⟨h2, ma385, cf386, ca387, h3, e0, e1, e2⟩ | ⟨h2, ma421, cf422, ca423, h3, e0, e1, e2⟩ | ⟨h2, (⟨h3, e0, e1, e2⟩ | ⟨h3, z457, h4, (⟨h5, z461, h6, cf463, h7, e0, e1, e2⟩ | ⟨h5, (⟨h6, z489, h7, cf491, h8, e0, e1, e2⟩ | ⟨h6, e0, e1, e2⟩)⟩)⟩)⟩ | ⟨h2, ma518, cf519, ca520, h3, e0, e1, e2⟩)⟩ | h
      all_goals first | exact h.elim | have hk : z1.toInt = (na 14 lo).toInt := (by rw [h1, cn_of hp])
      · exfalso; omega
      · exfalso; omega
      · exfalso; omega
      · exfalso; omega
      · exfalso; omega
      · exfalso; omega
      · exfalso; omega
      · exfalso; omega
      · exfalso
        rw [cn_of hp] at h3 h5 h7
        have y := k24_n H HS (by have := rps_lt a7; omega) (by have := oke_le a3; have := rps_lt a5; omega) hp S hL hw hC a2 a3 a4 a5 h3 h4 h5 h6
        rw [h7, y] at h8
        omega
      · rw [cn_of hp] at h3 h5 h7 h9
        rw [e0, e1, e2]
        exact k24b_t H HS hh hl hp S hL hw hC a1 a2 a3 a4 a5 a6 a7 h3 h4 h5 h6 h9 h10
      · exfalso; omega
      · exfalso; omega
      · exfalso; omega
      · exfalso; omega
      · exfalso; omega
      · exfalso; omega
      · exfalso; omega
      · exfalso; omega
      · exfalso; omega
    · rcases h with ⟨z1, h1, (⟨h2, (⟨h3, e0, e1, e2⟩ | ⟨h3, z6, h4, (⟨h5, z10, h6, cf12, h7, e0, e1, e2⟩ | ⟨h5, (⟨h6, z38, h7, cf40, h8, e0, e1, e2⟩ | ⟨h6, e0, e1, e2⟩)⟩)⟩)⟩ | ⟨h2, ma68, cf69, ca70, h3, e0, e1, e2⟩ | ⟨h2, e0, e1, e2⟩ | ⟨h2, z101, h3, ma104, cf105, h4, e0, e1, e2⟩ | ⟨h2, ma123, cf124, ca125, h3, e0, e1, e2⟩ | ⟨h2, z158, h3, ma161, cf162, v164, h4, z181, h5, ma185, cf186, ca187, h6, z219, h7, (⟨h8, e0, e1, e2⟩ | ⟨h8, z222, h9, ma226, cf227, ca228, h10, e0, e1, e2⟩)⟩ | ⟨h2, z260, h3, ma263, cf264, v266, h4, z283, h5, ma287, cf288, ca289, h6, e0, e1, e2⟩ | ⟨h2, z321, h3, ma325, cf326, ca327, h4, z359, h5, ma362, cf363, v365, h6, e0, e1, e2⟩ | ⟨h2, ma385, cf386, ca387, h3, e0, e1, e2⟩ | ⟨h2, ma421, cf422, ca423, h3, e0, e1, e2⟩ | ⟨h2, (⟨h3, e0, e1, e2⟩ | ⟨h3, z457, h4, (⟨h5, z461, h6, cf463, h7, e0, e1, e2⟩ | ⟨h5, (⟨h6, z489, h7, cf491, h8, e0, e1, e2⟩ | ⟨h6, e0, e1, e2⟩)⟩)⟩)⟩ | ⟨h2, ma518, cf519, ca520, h3, e0, e1, e2⟩)⟩ | h
      all_goals first | exact h.elim | have hk : z1.toInt = (na 14 lo).toInt := (by rw [h1, cn_of hp])
      · exfalso; omega
      · exfalso; omega
      · exfalso; omega
      · exfalso; omega
      · exfalso; omega
      · exfalso; omega
      · exfalso; omega
      · exfalso; omega
      · exfalso; omega
      · exfalso; omega
      · rw [cn_of hp] at h3 h5
        rw [e0, e1, e2]
        exact k25_t H HS hh hl hp S hL hw hC a1 a2 a3 a4 a5 a6 h3 h4 h5 h6
      · exfalso; omega
      · exfalso; omega
      · exfalso; omega
      · exfalso; omega
      · exfalso; omega
      · exfalso; omega
      · exfalso; omega
      · exfalso; omega
    · rcases h with ⟨z1, h1, (⟨h2, (⟨h3, e0, e1, e2⟩ | ⟨h3, z6, h4, (⟨h5, z10, h6, cf12, h7, e0, e1, e2⟩ | ⟨h5, (⟨h6, z38, h7, cf40, h8, e0, e1, e2⟩ | ⟨h6, e0, e1, e2⟩)⟩)⟩)⟩ | ⟨h2, ma68, cf69, ca70, h3, e0, e1, e2⟩ | ⟨h2, e0, e1, e2⟩ | ⟨h2, z101, h3, ma104, cf105, h4, e0, e1, e2⟩ | ⟨h2, ma123, cf124, ca125, h3, e0, e1, e2⟩ | ⟨h2, z158, h3, ma161, cf162, v164, h4, z181, h5, ma185, cf186, ca187, h6, z219, h7, (⟨h8, e0, e1, e2⟩ | ⟨h8, z222, h9, ma226, cf227, ca228, h10, e0, e1, e2⟩)⟩ | ⟨h2, z260, h3, ma263, cf264, v266, h4, z283, h5, ma287, cf288, ca289, h6, e0, e1, e2⟩ | ⟨h2, z321, h3, ma325, cf326, ca327, h4, z359, h5, ma362, cf363, v365, h6, e0, e1, e2⟩ | ⟨h2, ma385, cf386, ca387, h3, e0, e1, e2⟩ | ⟨h2, ma421, cf422, ca423, h3, e0, e1, e2⟩ | ⟨h2, (⟨h3, e0, e1, e2⟩ | ⟨h3, z457, h4, (⟨h5, z461, h6, cf463, h7, e0, e1, e2⟩ | ⟨h5, (⟨h6, z489, h7, cf491, h8, e0, e1, e2⟩ | ⟨h6, e0, e1, e2⟩)⟩)⟩)⟩ | ⟨h2, ma518, cf519, ca520, h3, e0, e1, e2⟩)⟩ | h
      all_goals first | exact h.elim | have hk : z1.toInt = (na 14 lo).toInt := (by rw [h1, cn_of hp])
      · exfalso; omega
      · exfalso; omega
      · exfalso; omega
      · exfalso; omega
      · exfalso; omega
      · exfalso; omega
      · exfalso; omega
      · exfalso; omega
      · exfalso; omega
      · exfalso; omega
      · exfalso; omega
      · rw [cn_of hp] at h3 h5
        rw [e0, e1]
        exact k26_t H HS hh hl hp S hL hw hC a1 a2 a3 a4 a5 a6 h3 h4 h5 h6 e2
      · exfalso; omega
      · exfalso; omega
      · exfalso; omega
      · exfalso; omega
      · exfalso; omega
      · exfalso; omega
      · exfalso; omega
    · rcases h with ⟨z1, h1, (⟨h2, (⟨h3, e0, e1, e2⟩ | ⟨h3, z6, h4, (⟨h5, z10, h6, cf12, h7, e0, e1, e2⟩ | ⟨h5, (⟨h6, z38, h7, cf40, h8, e0, e1, e2⟩ | ⟨h6, e0, e1, e2⟩)⟩)⟩)⟩ | ⟨h2, ma68, cf69, ca70, h3, e0, e1, e2⟩ | ⟨h2, e0, e1, e2⟩ | ⟨h2, z101, h3, ma104, cf105, h4, e0, e1, e2⟩ | ⟨h2, ma123, cf124, ca125, h3, e0, e1, e2⟩ | ⟨h2, z158, h3, ma161, cf162, v164, h4, z181, h5, ma185, cf186, ca187, h6, z219, h7, (⟨h8, e0, e1, e2⟩ | ⟨h8, z222, h9, ma226, cf227, ca228, h10, e0, e1, e2⟩)⟩ | ⟨h2, z260, h3, ma263, cf264, v266, h4, z283, h5, ma287, cf288, ca289, h6, e0, e1, e2⟩ | ⟨h2, z321, h3, ma325, cf326, ca327, h4, z359, h5, ma362, cf363, v365, h6, e0, e1, e2⟩ | ⟨h2, ma385, cf386, ca387, h3, e0, e1, e2⟩ | ⟨h2, ma421, cf422, ca423, h3, e0, e1, e2⟩ | ⟨h2, (⟨h3, e0, e1, e2⟩ | ⟨h3, z457, h4, (⟨h5, z461, h6, cf463, h7, e0, e1, e2⟩ | ⟨h5, (⟨h6, z489, h7, cf491, h8, e0, e1, e2⟩ | ⟨h6, e0, e1, e2⟩)⟩)⟩)⟩ | ⟨h2, ma518, cf519, ca520, h3, e0, e1, e2⟩)⟩ | h
      all_goals first | exact h.elim | have hk : z1.toInt = (na 14 lo).toInt := (by rw [h1, cn_of hp])
      · exfalso; omega
      · exfalso; omega
      · exfalso; omega
      · exfalso; omega
      · exfalso; omega
      · exfalso; omega
      · exfalso; omega
      · exfalso; omega
      · exfalso; omega
      · exfalso; omega
      · exfalso; omega
      · exfalso; omega
      · rw [e0, e1, e2]
        exact k27_t H HS hh hl hp S hL hw hC a1 a2 a3 a4 a5 a6 a7 h3
      · exfalso; omega
      · exfalso; omega
      · exfalso; omega
      · exfalso; omega
      · exfalso; omega
      · exfalso; omega
    · rcases h with ⟨z1, h1, (⟨h2, (⟨h3, e0, e1, e2⟩ | ⟨h3, z6, h4, (⟨h5, z10, h6, cf12, h7, e0, e1, e2⟩ | ⟨h5, (⟨h6, z38, h7, cf40, h8, e0, e1, e2⟩ | ⟨h6, e0, e1, e2⟩)⟩)⟩)⟩ | ⟨h2, ma68, cf69, ca70, h3, e0, e1, e2⟩ | ⟨h2, e0, e1, e2⟩ | ⟨h2, z101, h3, ma104, cf105, h4, e0, e1, e2⟩ | ⟨h2, ma123, cf124, ca125, h3, e0, e1, e2⟩ | ⟨h2, z158, h3, ma161, cf162, v164, h4, z181, h5, ma185, cf186, ca187, h6, z219, h7, (⟨h8, e0, e1, e2⟩ | ⟨h8, z222, h9, ma226, cf227, ca228, h10, e0, e1, e2⟩)⟩ | ⟨h2, z260, h3, ma263, cf264, v266, h4, z283, h5, ma287, cf288, ca289, h6, e0, e1, e2⟩ | ⟨h2, z321, h3, ma325, cf326, ca327, h4, z359, h5, ma362, cf363, v365, h6, e0, e1, e2⟩ | ⟨h2, ma385, cf386, ca387, h3, e0, e1, e2⟩ | ⟨h2, ma421, cf422, ca423, h3, e0, e1, e2⟩ | ⟨h2, (⟨h3, e0, e1, e2⟩ | ⟨h3, z457, h4, (⟨h5, z461, h6, cf463, h7, e0, e1, e2⟩ | ⟨h5, (⟨h6, z489, h7, cf491, h8, e0, e1, e2⟩ | ⟨h6, e0, e1, e2⟩)⟩)⟩)⟩ | ⟨h2, ma518, cf519, ca520, h3, e0, e1, e2⟩)⟩ | h
      all_goals first | exact h.elim | have hk : z1.toInt = (na 14 lo).toInt := (by rw [h1, cn_of hp])
      · exfalso; omega
      · exfalso; omega
      · exfalso; omega
      · exfalso; omega
      · exfalso; omega
      · exfalso; omega
      · exfalso; omega
      · exfalso; omega
      · exfalso; omega
      · exfalso; omega
      · exfalso; omega
      · exfalso; omega
      · exfalso; omega
      · rw [e0, e1, e2]
        exact k28_t H HS hh hl hp S hL hw hC a1 a2 a3 a4 h3
      · exfalso; omega
      · exfalso; omega
      · exfalso; omega
      · exfalso; omega
      · exfalso; omega
    · rcases h with ⟨z1, h1, (⟨h2, (⟨h3, e0, e1, e2⟩ | ⟨h3, z6, h4, (⟨h5, z10, h6, cf12, h7, e0, e1, e2⟩ | ⟨h5, (⟨h6, z38, h7, cf40, h8, e0, e1, e2⟩ | ⟨h6, e0, e1, e2⟩)⟩)⟩)⟩ | ⟨h2, ma68, cf69, ca70, h3, e0, e1, e2⟩ | ⟨h2, e0, e1, e2⟩ | ⟨h2, z101, h3, ma104, cf105, h4, e0, e1, e2⟩ | ⟨h2, ma123, cf124, ca125, h3, e0, e1, e2⟩ | ⟨h2, z158, h3, ma161, cf162, v164, h4, z181, h5, ma185, cf186, ca187, h6, z219, h7, (⟨h8, e0, e1, e2⟩ | ⟨h8, z222, h9, ma226, cf227, ca228, h10, e0, e1, e2⟩)⟩ | ⟨h2, z260, h3, ma263, cf264, v266, h4, z283, h5, ma287, cf288, ca289, h6, e0, e1, e2⟩ | ⟨h2, z321, h3, ma325, cf326, ca327, h4, z359, h5, ma362, cf363, v365, h6, e0, e1, e2⟩ | ⟨h2, ma385, cf386, ca387, h3, e0, e1, e2⟩ | ⟨h2, ma421, cf422, ca423, h3, e0, e1, e2⟩ | ⟨h2, (⟨h3, e0, e1, e2⟩ | ⟨h3, z457, h4, (⟨h5, z461, h6, cf463, h7, e0, e1, e2⟩ | ⟨h5, (⟨h6, z489, h7, cf491, h8, e0, e1, e2⟩ | ⟨h6, e0, e1, e2⟩)⟩)⟩)⟩ | ⟨h2, ma518, cf519, ca520, h3, e0, e1, e2⟩)⟩ | h
      all_goals first | exact h.elim | have hk : z1.toInt = (na 14 lo).toInt := (by rw [h1, cn_of hp])
      · exfalso; omega
      · exfalso; omega
      · exfalso; omega
      · exfalso; omega
      · exfalso; omega
      · exfalso; omega
      · exfalso; omega
      · exfalso; omega
      · exfalso; omega
      · exfalso; omega
      · exfalso; omega
      · exfalso; omega
      · exfalso; omega
      · exfalso; omega
      · rw [e0, e1, e2]
        exact k31_t S hl hp hL hw (Or.inr (by omega)) (fun z _ => by rw [a1, sm_12, if_pos (hC.2.2.2.2.mpr (Or.inl h3))])
      · exfalso
        rw [cn_of hp] at h4
        rw [h4] at h5
        exact h5 a2
      · rw [e0, e1, e2]
        exact kbad S (by omega) (by omega) h8 (by decide) (fun z _ => by rw [a1, sm_12, if_neg (fun w => by have := hC.2.2.2.2.mp w; omega)])
      · rw [e0, e1, e2]
        exact k31_t S hl hp hL hw (Or.inr (by omega)) (fun z _ => by rw [a1, sm_12, if_pos (hC.2.2.2.2.mpr (Or.inr (by omega)))])
      · exfalso; omega
    · rcases h with ⟨z1, h1, (⟨h2, (⟨h3, e0, e1, e2⟩ | ⟨h3, z6, h4, (⟨h5, z10, h6, cf12, h7, e0, e1, e2⟩ | ⟨h5, (⟨h6, z38, h7, cf40, h8, e0, e1, e2⟩ | ⟨h6, e0, e1, e2⟩)⟩)⟩)⟩ | ⟨h2, ma68, cf69, ca70, h3, e0, e1, e2⟩ | ⟨h2, e0, e1, e2⟩ | ⟨h2, z101, h3, ma104, cf105, h4, e0, e1, e2⟩ | ⟨h2, ma123, cf124, ca125, h3, e0, e1, e2⟩ | ⟨h2, z158, h3, ma161, cf162, v164, h4, z181, h5, ma185, cf186, ca187, h6, z219, h7, (⟨h8, e0, e1, e2⟩ | ⟨h8, z222, h9, ma226, cf227, ca228, h10, e0, e1, e2⟩)⟩ | ⟨h2, z260, h3, ma263, cf264, v266, h4, z283, h5, ma287, cf288, ca289, h6, e0, e1, e2⟩ | ⟨h2, z321, h3, ma325, cf326, ca327, h4, z359, h5, ma362, cf363, v365, h6, e0, e1, e2⟩ | ⟨h2, ma385, cf386, ca387, h3, e0, e1, e2⟩ | ⟨h2, ma421, cf422, ca423, h3, e0, e1, e2⟩ | ⟨h2, (⟨h3, e0, e1, e2⟩ | ⟨h3, z457, h4, (⟨h5, z461, h6, cf463, h7, e0, e1, e2⟩ | ⟨h5, (⟨h6, z489, h7, cf491, h8, e0, e1, e2⟩ | ⟨h6, e0, e1, e2⟩)⟩)⟩)⟩ | ⟨h2, ma518, cf519, ca520, h3, e0, e1, e2⟩)⟩ | h
      all_goals first | exact h.elim | have hk : z1.toInt = (na 14 lo).toInt := (by rw [h1, cn_of hp])
      · exfalso; omega
      · exfalso; omega
      · exfalso; omega
      · exfalso; omega
      · exfalso; omega
      · exfalso; omega
      · exfalso; omega
      · exfalso; omega
      · exfalso; omega
      · exfalso; omega
      · exfalso; omega
      · exfalso; omega
      · exfalso; omega
      · exfalso; omega
      · rw [e0, e1, e2]
        exact k31_t S hl hp hL hw (Or.inr (by omega)) (fun z _ => by rw [a1, sm_13, if_pos (hC.2.1.2.2.mpr h3)])
      · rw [e0, e1, e2]
        exact kbad S (by omega) (by omega) h7 (by decide) (fun z _ => by rw [a1, sm_13, if_neg (fun w => h3 (hC.2.1.2.2.mp w))])
      · exfalso
        rw [cn_of hp] at h4
        rw [h4] at h5
        omega
      · exfalso
        rw [cn_of hp] at h4
        rw [h4] at h5
        omega
      · exfalso; omega
    · rcases h with ⟨z1, h1, (⟨h2, (⟨h3, e0, e1, e2⟩ | ⟨h3, z6, h4, (⟨h5, z10, h6, cf12, h7, e0, e1, e2⟩ | ⟨h5, (⟨h6, z38, h7, cf40, h8, e0, e1, e2⟩ | ⟨h6, e0, e1, e2⟩)⟩)⟩)⟩ | ⟨h2, ma68, cf69, ca70, h3, e0, e1, e2⟩ | ⟨h2, e0, e1, e2⟩ | ⟨h2, z101, h3, ma104, cf105, h4, e0, e1, e2⟩ | ⟨h2, ma123, cf124, ca125, h3, e0, e1, e2⟩ | ⟨h2, z158, h3, ma161, cf162, v164, h4, z181, h5, ma185, cf186, ca187, h6, z219, h7, (⟨h8, e0, e1, e2⟩ | ⟨h8, z222, h9, ma226, cf227, ca228, h10, e0, e1, e2⟩)⟩ | ⟨h2, z260, h3, ma263, cf264, v266, h4, z283, h5, ma287, cf288, ca289, h6, e0, e1, e2⟩ | ⟨h2, z321, h3, ma325, cf326, ca327, h4, z359, h5, ma362, cf363, v365, h6, e0, e1, e2⟩ | ⟨h2, ma385, cf386, ca387, h3, e0, e1, e2⟩ | ⟨h2, ma421, cf422, ca423, h3, e0, e1, e2⟩ | ⟨h2, (⟨h3, e0, e1, e2⟩ | ⟨h3, z457, h4, (⟨h5, z461, h6, cf463, h7, e0, e1, e2⟩ | ⟨h5, (⟨h6, z489, h7, cf491, h8, e0, e1, e2⟩ | ⟨h6, e0, e1, e2⟩)⟩)⟩)⟩ | ⟨h2, ma518, cf519, ca520, h3, e0, e1, e2⟩)⟩ | h
      all_goals first | exact h.elim | have hk : z1.toInt = (na 14 lo).toInt := (by rw [h1, cn_of hp])
      · exfalso; omega
      · exfalso; omega
      · exfalso; omega
      · exfalso; omega
      · exfalso; omega
      · exfalso; omega
      · exfalso; omega
      · exfalso; omega
      · exfalso; omega
      · exfalso; omega
      · exfalso; omega
      · exfalso; omega
      · exfalso; omega
      · exfalso; omega
      · exfalso; omega
      · exfalso; omega
      · exfalso; omega
      · exfalso; omega
      · rw [e0, e1, e2]
        exact k33_t H HS hh hl hp S hL hw hC a2 (Or.inl ⟨a1, a3⟩) h3
    · rcases h with ⟨z1, h1, (⟨h2, (⟨h3, e0, e1, e2⟩ | ⟨h3, z6, h4, (⟨h5, z10, h6, cf12, h7, e0, e1, e2⟩ | ⟨h5, (⟨h6, z38, h7, cf40, h8, e0, e1, e2⟩ | ⟨h6, e0, e1, e2⟩)⟩)⟩)⟩ | ⟨h2, ma68, cf69, ca70, h3, e0, e1, e2⟩ | ⟨h2, e0, e1, e2⟩ | ⟨h2, z101, h3, ma104, cf105, h4, e0, e1, e2⟩ | ⟨h2, ma123, cf124, ca125, h3, e0, e1, e2⟩ | ⟨h2, z158, h3, ma161, cf162, v164, h4, z181, h5, ma185, cf186, ca187, h6, z219, h7, (⟨h8, e0, e1, e2⟩ | ⟨h8, z222, h9, ma226, cf227, ca228, h10, e0, e1, e2⟩)⟩ | ⟨h2, z260, h3, ma263, cf264, v266, h4, z283, h5, ma287, cf288, ca289, h6, e0, e1, e2⟩ | ⟨h2, z321, h3, ma325, cf326, ca327, h4, z359, h5, ma362, cf363, v365, h6, e0, e1, e2⟩ | ⟨h2, ma385, cf386, ca387, h3, e0, e1, e2⟩ | ⟨h2, ma421, cf422, ca423, h3, e0, e1, e2⟩ | ⟨h2, (⟨h3, e0, e1, e2⟩ | ⟨h3, z457, h4, (⟨h5, z461, h6, cf463, h7, e0, e1, e2⟩ | ⟨h5, (⟨h6, z489, h7, cf491, h8, e0, e1, e2⟩ | ⟨h6, e0, e1, e2⟩)⟩)⟩)⟩ | ⟨h2, ma518, cf519, ca520, h3, e0, e1, e2⟩)⟩ | h
      all_goals first | exact h.elim | have hk : z1.toInt = (na 14 lo).toInt := (by rw [h1, cn_of hp])
      · exfalso; omega
      · exfalso; omega
      · exfalso; omega
      · exfalso; omega
      · exfalso; omega
      · exfalso; omega
      · exfalso; omega
      · exfalso; omega
      · exfalso; omega
      · exfalso; omega
      · exfalso; omega
      · exfalso; omega
      · exfalso; omega
      · exfalso; omega
      · exfalso; omega
      · exfalso; omega
      · exfalso; omega
      · exfalso; omega
      · rw [e0, e1, e2]
        exact k33_t H HS hh hl hp S hL hw hC a2 (Or.inr ⟨e, a1, a3⟩) h3
theorem sc_all (H : TxH tf ta na ca0 k vl ql c n38 M0 F) : ∀ n : Nat, HSz tf ta na ca0 k vl ql c n38 M0 F rt (RL_mp_checkStatement n)
  | 0 => fun _ _ _ _ _ _ _ _ _ _ _ _ _ _ _ _ _ _ _ _ _ _ h => False.elim h
  | n + 1 => sc_r H (sc_all H n)
end SK
