/-! THE REFERENCE: a new node, prefixes, assignments, ranks -/
/-- node N was made: s its kind, t its token -/
def MkNr (na ma na' ma' : Nat → Nat → Int32) (N : Nat) (s t : Int) : Prop := (NdI na' N s t ∧ (na' 17 N).toInt = -1 ∧ (na' 21 N).toInt = -1 ∧ (na' 23 N).toInt = 1 ∧ (ma' 18 N).toInt = -1 ∧ (ma' 19 N).toInt = -1 ∧ (ma' 20 N).toInt = -1 ∧ (ma' 22 N).toInt = -1) ∧ ∀ f i : Nat, ¬ i = N → na' f i = na f i ∧ ma' f i = ma f i
theorem upd_s' {f : Nat → Int32} {n : Nat} {x : Int32} : upd f n x n = x := pk_us
theorem vau_o {f : Nat → Nat → Int32} {m n g i : Nat} {x : Int32} (h : ¬ i = n) : va_up f m (upd (f m) n x) g i = f g i := by
  by_cases q : g = m
  · subst q; rw [va_up_s, pk_un h]
  · rw [va_up_n q]
theorem vau_s {f : Nat → Nat → Int32} {m n : Nat} {x : Int32} : va_up f m (upd (f m) n x) m n = x := by rw [va_up_s, pk_us]
theorem vau_n {f : Nat → Nat → Int32} {m n g i : Nat} {x : Int32} (h : g ≠ m) : va_up f m (upd (f m) n x) g i = f g i := by rw [va_up_n h]
theorem make_r {p0 p1 v : Int32} {pf pf' : Nat → Int32} {na ma na' ma' : Nat → Nat → Int32} {N : Nat} {s t : Int} (hN : (pf 13).toInt = (N : Int)) (hb : N ≤ 1000000) (hs : (vp_nar .byte p0.toInt8.toInt32).toInt = s) (ht : p1.toInt = t) (h : R_mp_make p0 p1 pf na ma pf' na' ma' v) : v.toInt = (N : Int) ∧ (pf' 13).toInt = (N : Int) + 1 ∧ (∀ i : Nat, i ≠ 13 → pf' i = pf i) ∧ MkNr na ma na' ma' N s t := by
  have hn := cn_of hN
  rcases h with ⟨z1, h1, z3, h2, z4, h3, e0, e1, e2, ev⟩ | h
  · rw [hn] at e1 e2
    have z1' := ti_add h2 hN (show (1 : Int32).toInt = 1 from rfl) (by omega) (by omega)
    have z2' := ti_sub h3 z1' (show (1 : Int32).toInt = 1 from rfl) (by omega) (by omega)
    subst h1
    rw [e0, ev]
    refine ⟨by omega, by rw [pk_us]; exact z1', fun i hi => pk_un hi, ⟨⟨?_, ?_⟩, ?_, ?_, ?_, ?_, ?_, ?_, ?_⟩, fun f i hi => ⟨?_, ?_⟩⟩
    · rw [e1, vau_n (by decide), vau_n (by decide), vau_n (by decide), vau_n (by decide), vau_n (by decide), vau_s]; exact hs
    · rw [e1, vau_n (by decide), vau_n (by decide), vau_n (by decide), vau_n (by decide), vau_s]; exact ht
    · rw [e1, vau_n (by decide), vau_n (by decide), vau_s] <;> rfl
    · rw [e1, vau_n (by decide), vau_s] <;> rfl
    · rw [e1, vau_s] <;> rfl
    · rw [e2, vau_n (by decide), vau_n (by decide), vau_n (by decide), vau_s] <;> rfl
    · rw [e2, vau_n (by decide), vau_n (by decide), vau_s] <;> rfl
    · rw [e2, vau_n (by decide), vau_s] <;> rfl
    · rw [e2, vau_s] <;> rfl
    · rw [e1, vau_o hi, vau_o hi, vau_o hi, vau_o hi, vau_o hi, vau_o hi]
    · rw [e2, vau_o hi, vau_o hi, vau_o hi, vau_o hi]
  · exact h.elim
theorem MkNr.ag {na ma na' ma' : Nat → Nat → Int32} {N lo hi : Nat} {s t : Int} {r : Int} (h : MkNr na ma na' ma' N s t) (h1 : hi ≤ N ∨ N < lo) : AgF na ma na' ma' lo hi r := fun i a b => by
  have k := fun f => h.2 f i (by omega)
  exact ⟨(k 14).1, (k 15).1, (k 17).1, (k 18).2, (k 19).2, (k 22).2, (k 23).1, fun _ => ⟨(k 21).1, (k 20).2⟩⟩
theorem stands_r {pf : Nat → Int32} {na : Nat → Nat → Int32} {c t i : Nat} {o d : Int} {p0 xt : Int32} (hc : RCur pf c t o) (hp : p0.toInt = (i : Int)) (hd : (na 23 i).toInt = d) (hb : 0 ≤ d ∧ d ≤ 1000000) (h : R_mp_stands pf na p0 xt) : (o + d < 60 ∧ xt = 0) ∨ (¬ o + d < 60 ∧ xt = 1) := by
  have hn := cn_of hp
  have h2' := hc.2.1
  have h5' := hc.2.2.2.2
  rcases h with ⟨z1, h1, z3, h2, (⟨h3, (⟨h4, ex⟩ | ⟨h4, ex⟩)⟩ | ⟨h3, (⟨h4, ex⟩ | ⟨h4, ex⟩)⟩)⟩ | h
  · rw [hn] at h1
    have z := ti_add h2 h2' (show z1.toInt = d by rw [h1]; exact hd) (by omega) (by omega)
    exact Or.inr ⟨by omega, ex⟩
  · exact absurd rfl h4
  · exact absurd h4 (by decide)
  · rw [hn] at h1
    have z := ti_add h2 h2' (show z1.toInt = d by rw [h1]; exact hd) (by omega) (by omega)
    exact Or.inl ⟨by omega, ex⟩
  · exact h.elim
theorem deeper_r {a b v : Int32} (h : R_mp_deeper a b v) : v.toInt = max a.toInt b.toInt := by
  rcases h with (⟨h1, ev⟩ | ⟨h1, ev⟩) | h
  · rw [ev]; omega
  · rw [ev]; omega
  · exact h.elim
section RC
variable {ta : Nat → Nat → Int32} {c t : Nat} {pf : Nat → Int32} {o : Int} {v : Int32}
theorem isPrefix_r (hT : RTk ta c) (hc : RCur pf c t o) (h : R_mp_isPrefix ta pf v) : (v.toInt = 0 ∨ v.toInt = 1) ∧ (v.toInt = 1 ↔ isPre (rkd ta t)) := by
  have q1 := fun {x : Int32} (y : R_mp_is 1 (lby "-") ta pf x) => is_r hT hc (by decide) mq_45 (by decide) y
  have q2 := fun {x : Int32} (y : R_mp_is 1 (lby "+") ta pf x) => is_r hT hc (by decide) mq_43 (by decide) y
  have q3 := fun {x : Int32} (y : R_mp_is 1 (lby "!") ta pf x) => is_r hT hc (by decide) mq_33 (by decide) y
  have q4 := fun {x : Int32} (y : R_mp_is 1 (lby "~") ta pf x) => is_r hT hc (by decide) mq_126 (by decide) y
  have q5 := fun {x : Int32} (y : R_mp_is 2 (lby "++") ta pf x) => is_r hT hc (by decide) mq_138 (by decide) y
  have q6 := fun {x : Int32} (y : R_mp_is 2 (lby "--") ta pf x) => is_r hT hc (by decide) mq_139 (by decide) y
  have i1 : (1 : Int32).toInt = 1 := rfl
  have i0 : (0 : Int32).toInt = 0 := rfl
  unfold isPre
  rcases h with ⟨v5, h1, (⟨h2, ev⟩ | ⟨h2, v15, h3, (⟨h4, ev⟩ | ⟨h4, v25, h5, (⟨h6, ev⟩ | ⟨h6, v35, h7, (⟨h8, ev⟩ | ⟨h8, v45, h9, (⟨h10, ev⟩ | ⟨h10, v55, h11, (⟨h12, ev⟩ | ⟨h12, ev⟩)⟩)⟩)⟩)⟩)⟩)⟩ | h
  · have w1 := q1 h1; rw [ev]; omega
  · have w1 := q1 h1; have w2 := q2 h3; rw [ev]; omega
  · have w1 := q1 h1; have w2 := q2 h3; have w3 := q3 h5; rw [ev]; omega
  · have w1 := q1 h1; have w2 := q2 h3; have w3 := q3 h5; have w4 := q4 h7; rw [ev]; omega
  · have w1 := q1 h1; have w2 := q2 h3; have w3 := q3 h5; have w4 := q4 h7; have w5 := q5 h9; rw [ev]; omega
  · have w1 := q1 h1; have w2 := q2 h3; have w3 := q3 h5; have w4 := q4 h7; have w5 := q5 h9; have w6 := q6 h11; rw [ev]; omega
  · have w1 := q1 h1; have w2 := q2 h3; have w3 := q3 h5; have w4 := q4 h7; have w5 := q5 h9; have w6 := q6 h11; rw [ev]; omega
  · exact h.elim
theorem mkC_as : ∀ w : Nat, w < 43 → (w < 10 ∨ mkC w = 256 ↔ 256 ≤ mkC w) := by decide
theorem isAssigning_r (hT : RTk ta c) (hc : RCur pf c t o) (h : R_mp_isAssigning ta pf v) : (v.toInt = 0 ∨ v.toInt = 1) ∧ (v.toInt = 1 ↔ 256 ≤ rkd ta t) := by
  have hn := cn_of hc.1
  obtain ⟨k1, k2, -⟩ := rkd_b hT hc.2.2.1
  have i1 : (1 : Int32).toInt = 1 := rfl
  have i0 : (0 : Int32).toInt = 0 := rfl
  have q1 := fun {x : Int32} (y : R_mp_is 1 (lby "=") ta pf x) => is_r hT hc (by decide) mq_256 (by decide) y
  have go : (ta 9 t).toInt = 5 → ((ta 10 t).toInt < 10 ∨ rkd ta t = 256 ↔ 256 ≤ rkd ta t) := fun y => by
    have w := (hT t hc.2.2.1).2.1 y
    have wn := cl_nat (x := ta 10 t) w.1
    have g := mkC_as (ta 10 t).toNatClampNeg (by omega)
    have e := k2 y
    omega
  rcases h with ⟨z1, h1, (⟨h2, z4, h3, (⟨h4, ev⟩ | ⟨h4, v11, h5, (⟨h6, ev⟩ | ⟨h6, ev⟩)⟩)⟩ | ⟨h2, ev⟩)⟩ | h
  · rw [hn] at h1 h3
    rw [h1] at h2
    rw [h3] at h4
    have g := go h2
    rw [ev]; omega
  · rw [hn] at h1 h3
    rw [h1] at h2
    rw [h3] at h4
    have g := go h2
    have w := q1 h5
    rw [ev]; omega
  · rw [hn] at h1 h3
    rw [h1] at h2
    rw [h3] at h4
    have g := go h2
    have w := q1 h5
    rw [ev]; omega
  · rw [hn] at h1
    rw [h1] at h2
    rw [ev]; omega
  · exact h.elim
/-- a token of one letter, a plus, is the mark + -/
def RPl (ta : Nat → Nat → Int32) (c : Nat) : Prop := ∀ i : Nat, i < c → ((ta 8 i).toInt = 1 ∧ (ta 4 (ta 7 i).toNatClampNeg).toInt = 43 ↔ rkd ta i = 43)
theorem isNothing_r {p0 : Int32} (hP : RPl ta c) (hp : p0.toInt = (t : Int)) (htc : t < c) (h : R_mp_isNothing ta p0 v) : (v.toInt = 0 ∨ v.toInt = 1) ∧ (v.toInt = 1 ↔ rkd ta t = 43) := by
  have hn := cn_of hp
  have k := hP t htc
  have i1 : (1 : Int32).toInt = 1 := rfl
  have i0 : (0 : Int32).toInt = 0 := rfl
  rcases h with ⟨z1, h1, (⟨h2, ev⟩ | ⟨h2, z4, h3, z5, h4, (⟨h5, ev⟩ | ⟨h5, ev⟩)⟩)⟩ | h
  · rw [hn] at h1
    rw [h1] at h2
    rw [ev]; omega
  · rw [hn] at h1 h3
    rw [h1] at h2
    rw [h4, h3] at h5
    rw [ev]; omega
  · rw [hn] at h1 h3
    rw [h1] at h2
    rw [h4, h3] at h5
    rw [ev]; omega
  · exact h.elim
end RC
theorem slen_r {sn : Nat} {v : Int32} (hs : sn ≤ 1000) (h : R_String_length sn v) : v.toInt = (sn : Int) := by
  rcases h with ⟨v2, h1, z6, h2, ev⟩ | h
  · rcases h1 with h1 | h1
    · rw [h1] at h2
      have e : (nI sn) >>> ((0 : Int32) &&& 31) = nI sn := by
        simp
      rw [ev, h2, e]; exact nI_i hs
    · exact h1.elim
  · exact h.elim
def chF (x : Int32) : Int32 := ((x &&& (255 : Int32)).toUInt32 % 65536).toInt32
theorem chat_r {sb : Nat → Int32} {v : Int32} (h : R_String_charAt sb 0 v) : v = chF (sb 0) := by
  rcases h with ⟨v2, h1, h2, v8, h3, ev⟩ | h
  · rcases h3 with ⟨z3, g1, z4, g2, z5, g3, ew⟩ | h3
    · rw [ev, ew, g3, g2, g1]; rfl
    · exact h3.elim
  · exact h.elim
theorem rk_1 : ∀ w : Nat, w < 43 → mlen w = 1 → rkO (mkC w) = (if (chF (mby w 0)).toInt = 124 then 3 else if (chF (mby w 0)).toInt = 94 then 4 else if (chF (mby w 0)).toInt = 38 then 5 else if (chF (mby w 0)).toInt = 60 then 7 else if (chF (mby w 0)).toInt = 62 then 7 else if (chF (mby w 0)).toInt = 43 then 9 else if (chF (mby w 0)).toInt = 45 then 9 else if (chF (mby w 0)).toInt = 42 then 10 else if (chF (mby w 0)).toInt = 47 then 10 else if (chF (mby w 0)).toInt = 37 then 10 else 0) := by decide
theorem rk_2 : ∀ w : Nat, w < 43 → mlen w = 2 → rkO (mkC w) = (if mkC w = 137 then 1 else if mkC w = 136 then 2 else if mkC w = 130 then 6 else if mkC w = 131 then 6 else if mkC w = 132 then 7 else if mkC w = 133 then 7 else if mkC w = 134 then 8 else if mkC w = 135 then 8 else 0) := by decide
theorem rk_3 : ∀ w : Nat, w < 43 → ¬ mlen w = 1 → ¬ mlen w = 2 → rkO (mkC w) = 0 := by decide
theorem rkO_lo {v : Int} (h : v < 33) : rkO v = 0 := by
  unfold rkO
  repeat' (split; · omega)
  rfl
theorem rnk_r {ta : Nat → Nat → Int32} {c t : Nat} {p0 v : Int32} (hT : RTk ta c) (hp : p0.toInt = (t : Int)) (htc : t < c) (h : R_mp_rank ta p0 v) : v.toInt = rkO (rkd ta t) := by
  have hn := cn_of hp
  obtain ⟨k1, k2, -⟩ := rkd_b hT htc
  obtain ⟨z1, h1, h⟩ | h := h
  · rw [hn] at h1
    rcases h with ⟨h2, z4, h3, v9, h4, h⟩ | ⟨h2, ev⟩
    · rw [hn] at h3
      rw [h1] at h2
      have w := (hT t htc).2.1 h2
      have wn : z4.toNatClampNeg < 43 := by rw [h3]; have := cl_nat (x := ta 10 t) w.1; omega
      rw [k2 h2, ← h3]
      generalize z4.toNatClampNeg = m at *
      have mb := mlen_b m wn
      have l9 := slen_r (by omega) h4
      rcases h with ⟨h5, v15, h6, h⟩ | ⟨h5, h⟩
      · have l15 := slen_r (by omega) h6
        rcases h with ⟨h7, v21, h8, h⟩ | ⟨h7, ev⟩
        · have c1 := chat_r h8
          rw [c1] at h
          clear h8 c1
          rw [rk_1 m wn (by omega)]
          generalize (chF (mby m 0)).toInt = y at *
          rcases h with (⟨h9, (⟨h10, (⟨h11, (⟨h12, ev⟩ | ⟨h12, (⟨h13, (⟨h14, ev⟩ | ⟨h14, (⟨h15, (⟨h16, ev⟩ | ⟨h16, (⟨h17, ev⟩ | ⟨h17, (⟨h18, ev⟩ | ⟨h18, ev⟩)⟩)⟩)⟩ | ⟨h15, ev⟩)⟩)⟩ | ⟨h13, ev⟩)⟩)⟩ | ⟨h11, ev⟩)⟩ | ⟨h10, ev⟩)⟩ | ⟨h9, ev⟩)
          all_goals (rw [ev]; simp [*]; done)
        · rw [rk_3 m wn (by omega) (by omega), ev]; rfl
      · rw [rk_2 m wn (by omega)]
        have g := fun {x : Int32} {sb : Nat → Int32} {q : Int} (mq : ∀ w : Nat, w < 43 → mEq w 2 sb = decide (mkC w = q)) (y : R_sg_equals (mlen m) (mby m) 2 sb x) => show (x.toInt = 0 ∨ x.toInt = 1) ∧ (x.toInt = 1 ↔ mkC m = q) from by
          obtain ⟨r1, r2⟩ := sge_r (by omega) (by decide) y
          refine ⟨r1, r2.trans (mEq_iff.symm.trans ?_)⟩
          rw [mq m wn]; exact decide_eq_true_iff
        generalize mkC m = y at *
        rcases h with ⟨v48, h6, h⟩
        have w1 := g mq_137 h6
        rcases h with ⟨h7, v57, h8, h⟩ | ⟨h7, ev⟩
        · have w2 := g mq_136 h8
          rcases h with ⟨h9, v66, h10, h⟩ | ⟨h9, ev⟩
          · have w3 := g mq_130 h10
            rcases h with ⟨h11, ev⟩ | ⟨h11, v75, h12, h⟩
            · rw [ev, if_neg (by omega), if_neg (by omega), if_pos (by omega)]; rfl
            · have w4 := g mq_131 h12
              rcases h with ⟨h13, v84, h14, h⟩ | ⟨h13, ev⟩
              · have w5 := g mq_132 h14
                rcases h with ⟨h15, ev⟩ | ⟨h15, v93, h16, h⟩
                · rw [ev, if_neg (by omega), if_neg (by omega), if_neg (by omega), if_neg (by omega), if_pos (by omega)]; rfl
                · have w6 := g mq_133 h16
                  rcases h with ⟨h17, v102, h18, h⟩ | ⟨h17, ev⟩
                  · have w7 := g mq_134 h18
                    rcases h with ⟨h19, ev⟩ | ⟨h19, v111, h20, h⟩
                    · rw [ev, if_neg (by omega), if_neg (by omega), if_neg (by omega), if_neg (by omega), if_neg (by omega), if_neg (by omega), if_pos (by omega)]; rfl
                    · have w8 := g mq_135 h20
                      rcases h with ⟨h21, ev⟩ | ⟨h21, ev⟩
                      · rw [ev, if_neg (by omega), if_neg (by omega), if_neg (by omega), if_neg (by omega), if_neg (by omega), if_neg (by omega), if_neg (by omega), if_neg (by omega)]; rfl
                      · rw [ev, if_neg (by omega), if_neg (by omega), if_neg (by omega), if_neg (by omega), if_neg (by omega), if_neg (by omega), if_neg (by omega), if_pos (by omega)]; rfl
                  · rw [ev, if_neg (by omega), if_neg (by omega), if_neg (by omega), if_neg (by omega), if_neg (by omega), if_pos (by omega)]; rfl
              · rw [ev, if_neg (by omega), if_neg (by omega), if_neg (by omega), if_pos (by omega)]; rfl
          · rw [ev, if_neg (by omega), if_pos (by omega)]; rfl
        · rw [ev, if_pos (by omega)]; rfl
    · rw [h1] at h2
      rw [rkO_lo (by omega), ev]; rfl
  · exact h.elim
