/-! THE REFERENCE's tokens: all of a text -/
/-- what the reference keeps of token j, which begins at p -/
def TkA (b : Nat → Int) (n : Nat) (ta : Nat → Nat → Int32) (j p : Nat) : Prop := (ta 7 j).toInt = (p : Int) ∧ p ≤ n ∧ ((lxK KWL b n p = 19 ∧ (ta 9 j).toInt = 6 ∧ (ta 8 j).toInt = 0) ∨ (lxK KWL b n p = 0 ∧ (ta 9 j).toInt = 7 ∧ (ta 8 j).toInt = 0) ∨ (¬ lxK KWL b n p = 19 ∧ ¬ lxK KWL b n p = 0 ∧ (p < lxE b n p ∧ lxE b n p ≤ n) ∧ (ta 8 j).toInt = (lxE b n p : Int) - (p : Int) ∧ (((ta 9 j).toInt = 1 ∧ isL (b p) = true ∧ lxK KWL b n p = 16) ∨ ((ta 9 j).toInt = 2 ∧ isL (b p) = true ∧ (0 ≤ (ta 10 j).toInt ∧ (ta 10 j).toInt < 15) ∧ lxK KWL b n p = (ta 10 j).toInt + 1) ∨ ((ta 9 j).toInt = 3 ∧ lxK KWL b n p = 17 ∧ ((isD (b p) = true ∧ ta 10 j = nVl (nSm b n p)) ∨ (b p = 39 ∧ (ta 10 j).toInt = qV b (p + 1) 39))) ∨ ((ta 9 j).toInt = 4 ∧ lxK KWL b n p = 18 ∧ b p = 34 ∧ (ta 10 j).toInt = ((sC b n (p + 1)).1 : Int)) ∨ ((ta 9 j).toInt = 5 ∧ ∃ k : Nat, k < 43 ∧ (ta 10 j).toInt = (k : Int) ∧ lxK KWL b n p = mkC k ∧ lxE b n p = p + mlen k ∧ mtM b p k))))
theorem TkA.kp {b : Nat → Int} {n : Nat} {ta ta' : Nat → Nat → Int32} {j p : Nat} (h : TkA b n ta j p) (e : ∀ f : Nat, 7 ≤ f → f ≤ 10 → ta' f j = ta f j) : TkA b n ta' j p := by
  unfold TkA at h ⊢
  rw [e 7 (by decide) (by decide), e 8 (by decide) (by decide), e 9 (by decide) (by decide), e 10 (by decide) (by decide)]
  exact h
/-- the tokens of a text, as the reference has them -/
def LxR (b : Nat → Int) (n : Nat) (tf : Nat → Int32) (ta : Nat → Nat → Int32) (c : Nat) : Prop := (tf 6).toInt = (c : Int) ∧ 1 ≤ c ∧ c ≤ n + 1 ∧ (∀ i : Nat, i < c → TkA b n ta i (posN b n i)) ∧ (∀ i : Nat, i + 1 < c → ¬ lxK KWL b n (posN b n i) = 0 ∧ ¬ lxK KWL b n (posN b n i) = 19) ∧ (lxK KWL b n (posN b n (c - 1)) = 0 ∨ lxK KWL b n (posN b n (c - 1)) = 19)
section TG
variable {tf tf' : Nat → Int32} {ta ta' : Nat → Nat → Int32} {b : Nat → Int} {n : Nat}
theorem RTx.mv {tf1 : Nat → Int32} {ta1 : Nat → Nat → Int32} (hT : RTx tf ta b n) (h5 : tf1 5 = tf 5) (h4 : ∀ j : Nat, ta1 4 j = ta 4 j) : RTx tf1 ta1 b n := ⟨by rw [h5]; exact hT.1, hT.2.1, hT.2.2.1, fun i hi => by rw [h4 i]; exact hT.2.2.2 i hi⟩
theorem rts_13 : ∀ (d m i : Nat) (x1 x2 : Int32) (tf : Nat → Int32) (ta : Nat → Nat → Int32), E_mp_readTokens tf' ta' m 13 [x1, x2] [] [] [] [] tf ta → RTx tf ta b n → ¬ x2.toInt = 0 → x1.toInt = ((posN b n i : Nat) : Int) → posN b n i ≤ n → i ≤ posN b n i → n < posN b n i + d → (tf 6).toInt = (i : Int) → (∀ j : Nat, j < i → TkA b n ta j (posN b n j) ∧ ¬ lxK KWL b n (posN b n j) = 0 ∧ ¬ lxK KWL b n (posN b n j) = 19) → RTx tf' ta' b n ∧ (∀ j : Nat, ¬ j = 6 → tf' j = tf j) ∧ (∀ f j : Nat, f < 7 ∨ 10 < f → ta' f j = ta f j) ∧ ∃ c : Nat, LxR b n tf' ta' c := by
  intro d
  induction d with
  | zero => intro m i x1 x2 tf ta h hT h2 hx hp hip hd; exfalso; omega
  | succ d ih =>
    intro m i x1 x2 tf ta h hT h2' hx hp hip hd k6 hA
    have t2 := hT.2.1
    rcases iv_mp_readTokens_13 h with ⟨m', (⟨h1, (⟨h2, e0, e1⟩ | ⟨h2, tf7, ta8, h3, e0, e1⟩)⟩ | ⟨h1, (⟨h2, (⟨h3, e0, e1⟩ | ⟨h3, tf21, ta22, h4, e0, e1⟩)⟩ | ⟨h2, tf31, ta32, v34, h3, (⟨h4, z44, h5, z45, h6, z46, h7, v48, h8, hQ⟩ | ⟨h4, tf54, ta55, h5, hQ⟩)⟩)⟩)⟩
    · exact absurd h1 h2'
    · exact absurd h1 h2'
    · exact absurd h3 h1
    · -- the end
      have t1 := hT.1
      have pn : posN b n i = n := by omega
      have L := ld_r (p := n) (l := 0) t1 k6 (by omega) rfl (show (vp_nar .byte (7 : Int32).toInt8.toInt32).toInt = 7 from rfl) h4
      have bn : b n = -1 := hT.2.2.1 n (Nat.le_refl _)
      have k0 : lxK KWL b n (posN b n i) = 0 := by
        rw [pn]
        unfold lxK
        have n1 : isL (b n) = false := by rw [bn]; decide
        have n2 : isD (b n) = false := by rw [bn]; decide
        rw [if_neg (by rw [n1]; decide), if_neg (by rw [n2]; decide), if_neg (by omega), if_neg (by omega), if_pos (by omega)]
      rw [e0, e1]
      refine ⟨L.tx hT, L.2.1, fun f j q => L.2.2.2 f j (Or.inr q), i + 1, L.1, by omega, by omega, fun j hj => ?_, fun j hj => (hA j (by omega)).2, Or.inl (by rw [Nat.add_sub_cancel]; exact k0)⟩
      rcases Nat.eq_or_lt_of_le (Nat.le_of_lt_succ hj) with q | q
      · rw [q]
        exact ⟨by rw [L.2.2.1.1, pn], hp, Or.inr (Or.inl ⟨k0, L.2.2.1.2.2.1, L.2.2.1.2.1⟩)⟩
      · exact (hA j q).1.kp (fun f _ _ => L.2.2.2 f j (Or.inl (by omega)))
    · -- a token
      have t1 := hT.1
      have T := rt_r hT hx k6 (by omega) (by omega) h3
      obtain ⟨T1, T2, T3⟩ := T
      rcases T3 with ⟨v0, -⟩ | ⟨v1, k19, k0, c6, le, s, w, ⟨w7, w8, w9, w10⟩, con⟩
      · exact absurd v0 h4
      · have hT1 : RTx tf31 ta32 b n := hT.mv (T1 5 (by decide)) (fun j => T2 4 j (Or.inr (Or.inl (by decide))))
        rw [cn_of k6] at h5 h6
        rw [h5, h6] at h7
        have z7 := ti_add h7 w7 w8 (by omega) (by omega)
        have sk := skip_q hT1 (p := lxE b n (posN b n i)) (by omega) (by omega) h8
        have ep : posN b n (i + 1) = skp b n (n + 1) (lxE b n (posN b n i)) := rfl
        obtain ⟨g1, g2, g3, g4⟩ := ih m' (i + 1) v48 v34 tf31 ta32 hQ hT1 (by omega) (by rw [ep]; exact sk.1) (by rw [ep]; omega) (by rw [ep]; omega) (by rw [ep]; omega) (by rw [c6]; omega) (fun j hj => by
          rcases Nat.eq_or_lt_of_le (Nat.le_of_lt_succ hj) with q | q
          · rw [q]
            refine ⟨⟨w7, hp, Or.inr (Or.inr ⟨k19, k0, le, w8, ?_⟩)⟩, k0, k19⟩
            rw [w9, w10]
            exact con
          · exact ⟨(hA j q).1.kp (fun f _ _ => T2 f j (Or.inl (by omega))), (hA j q).2⟩)
        exact ⟨g1, fun j hj => (g2 j hj).trans (T1 j hj), fun f j q => (g3 f j q).trans (T2 f j (Or.inr q)), g4⟩
    · -- a fault
      have t1 := hT.1
      have T := rt_r hT hx k6 (by omega) (by omega) h3
      obtain ⟨T1, T2, T3⟩ := T
      rcases T3 with ⟨v0, k19⟩ | ⟨v1, -⟩
      · have hu : (upd tf31 6 (tf 6)) 6 = tf 6 := pk_us
        have L := ld_r (tf := upd tf31 6 (tf 6)) (p := posN b n i) (l := 0) hx (by rw [hu]; exact k6) (by omega) rfl (show (vp_nar .byte (6 : Int32).toInt8.toInt32).toInt = 6 from rfl) h5
        have hT2 : RTx tf54 ta55 b n := hT.mv ((L.2.1 5 (by decide)).trans ((pk_un (by decide)).trans (T1 5 (by decide)))) (fun j => (L.2.2.2 4 j (Or.inr (Or.inl (by decide)))).trans (T2 4 j (Or.inr (Or.inl (by decide)))))
        have fin : tf' = tf54 ∧ ta' = ta55 := by
          rcases iv_mp_readTokens_13 hQ with ⟨m2, (⟨g1, (⟨g2, e0, e1⟩ | ⟨g2, tf7, ta8, g3, e0, e1⟩)⟩ | ⟨g1, (⟨g2, (⟨g3, e0, e1⟩ | ⟨g3, tf21, ta22, g4, e0, e1⟩)⟩ | ⟨g2, tf31, ta32, v34, g3, (⟨g4, z44, g5, z45, g6, z46, g7, v48, g8, hQ2⟩ | ⟨g4, tf54, ta55, g5, hQ2⟩)⟩)⟩)⟩
          · exact ⟨e0, e1⟩
          · exact absurd g1 g2
          all_goals exact absurd v0 g1
        rw [fin.1, fin.2]
        refine ⟨hT2, fun j hj => (L.2.1 j hj).trans ((pk_un hj).trans (T1 j hj)), fun f j q => (L.2.2.2 f j (Or.inr q)).trans (T2 f j (Or.inr q)), i + 1, L.1, by omega, by omega, fun j hj => ?_, fun j hj => (hA j (by omega)).2, Or.inr (by rw [Nat.add_sub_cancel]; exact k19)⟩
        rcases Nat.eq_or_lt_of_le (Nat.le_of_lt_succ hj) with q | q
        · rw [q]
          exact ⟨L.2.2.1.1, hp, Or.inl ⟨k19, L.2.2.1.2.2.1, L.2.2.1.2.1⟩⟩
        · exact (hA j q).1.kp (fun f _ _ => (L.2.2.2 f j (Or.inl (by omega))).trans (T2 f j (Or.inl (by omega))))
      · exfalso; omega
theorem rts_r (hT : RTx tf ta b n) (h : R_mp_readTokens tf ta tf' ta') : RTx tf' ta' b n ∧ (∀ j : Nat, ¬ j = 6 → tf' j = tf j) ∧ (∀ f j : Nat, f < 7 ∨ 10 < f → ta' f j = ta f j) ∧ ∃ c : Nat, LxR b n tf' ta' c := by
  obtain ⟨m, h⟩ := h
  obtain ⟨m', v63, h1, hQ⟩ := iv_mp_readTokens_0 h
  have hT0 : RTx (upd tf 6 0) ta b n := hT.mv (pk_un (by decide)) (fun _ => rfl)
  have sk := skip_q hT0 (p := 0) rfl (Nat.zero_le _) h1
  obtain ⟨g1, g2, g3, g4⟩ := rts_13 (n + 1) m' 0 v63 (1 : Int32) (upd tf 6 0) ta hQ hT0 (by decide) sk.1 sk.2.2 (Nat.zero_le _) (by omega) (by rw [pk_us]; rfl) (fun j hj => absurd hj (Nat.not_lt_zero _))
  exact ⟨g1, fun j hj => (g2 j hj).trans (pk_un hj), g3, g4⟩
end TG
