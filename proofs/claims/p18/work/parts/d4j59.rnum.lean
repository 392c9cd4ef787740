/-! THE REFERENCE's tokens: numbers, strings -/
section TC
variable {tf tf' tf0 : Nat → Int32} {ta ta' ta0 : Nat → Nat → Int32} {b : Nat → Int} {n p i : Nat} {p0 v : Int32}
/-- a token was laid at i: where it begins, its length, its sort, what it is -/
def LdT (tf : Nat → Int32) (ta : Nat → Nat → Int32) (i p : Nat) (l s : Int) (w : Int32) (tf' : Nat → Int32) (ta' : Nat → Nat → Int32) : Prop := (tf' 6).toInt = (i : Int) + 1 ∧ (∀ j : Nat, ¬ j = 6 → tf' j = tf j) ∧ ((ta' 7 i).toInt = (p : Int) ∧ (ta' 8 i).toInt = l ∧ (ta' 9 i).toInt = s ∧ ta' 10 i = w) ∧ ∀ f j : Nat, (¬ j = i ∨ f < 7 ∨ 10 < f) → ta' f j = ta f j
theorem ld_r {p1 p2 p3 : Int32} {l s : Int} (hp : p0.toInt = (p : Int)) (hi : (tf 6).toInt = (i : Int)) (hi2 : i ≤ 100000) (hl : p1.toInt = l) (hs : (vp_nar .byte p2.toInt8.toInt32).toInt = s) (h : R_mp_token p0 p1 p2 p3 tf ta tf' ta') : LdT tf ta i p l s p3 tf' ta' := by
  obtain ⟨g1, g2, ⟨g3, g4, g5, g6⟩, g7⟩ := tok_k hi hi2 hs h
  exact ⟨g1, g2, ⟨by rw [g3]; exact hp, by rw [g4]; exact hl, g5, g6⟩, g7⟩
theorem LdT.tx {l s : Int} {w : Int32} (h : LdT tf ta i p l s w tf' ta') (hT : RTx tf ta b n) : RTx tf' ta' b n := by
  obtain ⟨t1, t2, t3, t4⟩ := hT
  exact ⟨by rw [h.2.1 5 (by decide)]; exact t1, t2, t3, fun j hj => by rw [h.2.2.2 4 j (Or.inr (Or.inl (by decide)))]; exact t4 j hj⟩
/-! strings -/
theorem sC_b (hE : ∀ i : Nat, n ≤ i → b i = -1) : ∀ (d i : Nat), i ≤ n → i ≤ (sC b d i).2 ∧ ((sC b d i).1 : Int) ≤ ((sC b d i).2 : Int) - (i : Int) ∧ (sC b d i).2 ≤ n + 1 := by
  intro d
  induction d with
  | zero =>
    intro i hi
    have e : sC b 0 i = (0, i) := rfl
    rw [e]
    exact ⟨Nat.le_refl _, by show ((0 : Nat) : Int) ≤ (i : Int) - (i : Int); omega, by show i ≤ n + 1; omega⟩
  | succ d ih =>
    intro i hi
    have e : sC b (d + 1) i = if 0 ≤ qV b i 34 then ((sC b d (i + qW b i)).1 + 1, (sC b d (i + qW b i)).2) else (0, i) := rfl
    rw [e]
    by_cases q : 0 ≤ qV b i 34
    · rw [if_pos q]
      have hlt : i < n := by
        by_cases w : i < n
        · exact w
        · exfalso
          have b0 := hE i (by omega)
          unfold qV at q
          rw [if_neg (by omega), if_neg (by omega)] at q
          omega
      have hw : (qW b i = 1) ∨ (qW b i = 2 ∧ i + 1 < n) := by
        unfold qW
        by_cases w : b i = 92
        · rw [if_pos w]
          refine Or.inr ⟨rfl, ?_⟩
          by_cases w2 : i + 1 < n
          · exact w2
          · exfalso
            have b0 := hE (i + 1) (by omega)
            unfold qV at q
            rw [if_pos w, if_neg (by omega), if_neg (by omega), if_neg (by omega)] at q
            omega
        · rw [if_neg w]; exact Or.inl rfl
      obtain ⟨g1, g2, g3⟩ := ih (i + qW b i) (by omega)
      refine ⟨?_, ?_, g3⟩
      · show i ≤ (sC b d (i + qW b i)).2
        omega
      · show (((sC b d (i + qW b i)).1 + 1 : Nat) : Int) ≤ ((sC b d (i + qW b i)).2 : Int) - (i : Int)
        omega
    · rw [if_neg q]
      exact ⟨Nat.le_refl _, by show ((0 : Nat) : Int) ≤ _; omega, by show i ≤ n + 1; omega⟩
theorem str_15 (hT : RTx tf0 ta0 b n) (hp : p0.toInt = (p : Int)) (hi : (tf0 6).toInt = (i : Int)) (hi2 : i ≤ 100000) (hpn : p < n) : ∀ (d m a j : Nat) (x2 x3 x4 : Int32), E_mp_readString p0 tf' ta' v tf0 ta0 m 15 [x2, x3, x4] [] [] [] [] tf0 ta0 → x2.toInt = (a : Int) → x3.toInt = (j : Int) → p < a → a ≤ n → n < a + d → j ≤ a → ((x4.toInt < 0 ∧ qV b a 34 < 0) ∨ (0 ≤ qV b a 34 ∧ ((¬ x4.toInt < 0 ∧ x4.toInt < 1000 ∧ qW b a = 1) ∨ (1000 ≤ x4.toInt ∧ qW b a = 2)))) → ∃ w : Int32, w.toInt = (((sC b d a).1 + j : Nat) : Int) ∧ LdT tf0 ta0 i p (((sC b d a).2 : Int) + 1 - (p : Int)) 4 w tf' ta' ∧ ((v.toInt = 1 ∧ b (sC b d a).2 = 34 ∧ (sC b d a).1 + j ≤ 200) ∨ (v.toInt = 0 ∧ ¬ (b (sC b d a).2 = 34 ∧ (sC b d a).1 + j ≤ 200))) := by
  have t2 := hT.2.1
  intro d
  induction d with
  | zero => intro m a j x2 x3 x4 h h1 h2 hpa ha hd; exfalso; omega
  | succ d ih =>
    intro m a j x2 x3 x4 h hx2 hx3 hpa ha hd hj hq
    have e : sC b (d + 1) a = if 0 ≤ qV b a 34 then ((sC b d (a + qW b a)).1 + 1, (sC b d (a + qW b a)).2) else (0, a) := rfl
    have fin : ∀ {z3 z4 v16 : Int32} {tf7 : Nat → Int32} {ta8 : Nat → Nat → Int32}, x4.toInt < 0 → z3 = x2 + (1 : Int32) → z4 = z3 - p0 → R_mp_token p0 z4 (4 : Int32) x3 tf0 ta0 tf7 ta8 → R_mp_byteAt tf7 ta8 x2 v16 → sC b (d + 1) a = (0, a) ∧ LdT tf0 ta0 i p ((a : Int) + 1 - (p : Int)) 4 x3 tf7 ta8 ∧ BtR v16.toInt (b a) := by
      intro z3 z4 v16 tf7 ta8 hx hz3 hz4 ht hb
      have qn : qV b a 34 < 0 := by
        rcases hq with ⟨-, w⟩ | ⟨-, w⟩
        · exact w
        · exfalso; omega
      have y3 := ti_add hz3 hx2 (show (1 : Int32).toInt = 1 from rfl) (by omega) (by omega)
      have y4 := ti_sub hz4 y3 hp (by omega) (by omega)
      have L := ld_r hp hi hi2 y4 (show (vp_nar .byte (4 : Int32).toInt8.toInt32).toInt = 4 from rfl) ht
      exact ⟨by rw [e, if_neg (by omega)], L, byt_r (L.tx hT) hx2 hb⟩
    have nxt : ∀ {m' : Nat} {y2 y3 y4 : Int32}, 0 ≤ qV b a 34 → y2.toInt = ((a + qW b a : Nat) : Int) → y3 = x3 + 1 → R_mp_character tf0 ta0 y2 (34 : Int32) y4 → E_mp_readString p0 tf' ta' v tf0 ta0 m' 15 [y2, y3, y4] [] [] [] [] tf0 ta0 → ∃ w : Int32, w.toInt = (((sC b (d + 1) a).1 + j : Nat) : Int) ∧ LdT tf0 ta0 i p (((sC b (d + 1) a).2 : Int) + 1 - (p : Int)) 4 w tf' ta' ∧ ((v.toInt = 1 ∧ b (sC b (d + 1) a).2 = 34 ∧ (sC b (d + 1) a).1 + j ≤ 200) ∨ (v.toInt = 0 ∧ ¬ (b (sC b (d + 1) a).2 = 34 ∧ (sC b (d + 1) a).1 + j ≤ 200))) := by
      intro m' y2 y3 y4 hq0 hy2 hy3 hch hE
      have hlt : a < n := by
        by_cases w : a < n
        · exact w
        · exfalso
          have b0 := hT.2.2.1 a (by omega)
          unfold qV at hq0
          rw [if_neg (by omega), if_neg (by omega)] at hq0
          omega
      have hle : a + qW b a ≤ n := by
        unfold qW
        by_cases w : b a = 92
        · rw [if_pos w]
          have l2 : a + 1 < n := by
            by_cases w2 : a + 1 < n
            · exact w2
            · exfalso
              have b1 := hT.2.2.1 (a + 1) (by omega)
              unfold qV at hq0
              rw [if_pos w, b1] at hq0
              exact absurd hq0 (by decide)
          omega
        · rw [if_neg w]; omega
      have hw : qW b a = 1 ∨ qW b a = 2 := by
        unfold qW
        by_cases w : b a = 92
        · rw [if_pos w]; exact Or.inr rfl
        · rw [if_neg w]; exact Or.inl rfl
      have z3 := ti_add hy3 hx3 (show (1 : Int32).toInt = 1 from rfl) (by omega) (by omega)
      have ch := chr_r hT hy2 (by omega) rfl (Or.inl rfl) hch
      rw [show ((34 : Int32)).toInt = 34 from rfl] at ch
      obtain ⟨w, g1, g2, g3⟩ := ih m' (a + qW b a) (j + 1) y2 y3 y4 hE hy2 (by omega) (by omega) (by omega) (by omega) (by omega) (by
        rcases ch with ⟨c1, c2⟩ | ⟨c1, c2, c3⟩
        · exact Or.inl ⟨c1, c2⟩
        · refine Or.inr ⟨c1, ?_⟩
          rcases c3 with ⟨c3, c4⟩ | ⟨c3, c4⟩
          · exact Or.inl ⟨by omega, by omega, c4⟩
          · exact Or.inr ⟨by omega, c4⟩)
      rw [e, if_pos hq0]
      have ea : (sC b d (a + qW b a)).1 + 1 + j = (sC b d (a + qW b a)).1 + (j + 1) := by omega
      exact ⟨w, by rw [ea]; exact g1, g2, by rw [ea]; exact g3⟩
    rcases iv_mp_readString_15 h with ⟨m', (⟨h1, z3, h2, z4, h3, tf7, ta8, h4, v16, h5, (⟨h6, e0, e1, ev⟩ | ⟨h6, (⟨h7, e0, e1, ev⟩ | ⟨h7, e0, e1, ev⟩)⟩)⟩ | ⟨h1, (⟨h2, z26, h3, z27, h4, v29, h5, hQ⟩ | ⟨h2, z35, h3, z36, h4, v38, h5, hQ⟩)⟩)⟩
    · obtain ⟨f1, f2, f3⟩ := fin h1 h2 h3 h4 h5
      unfold BtR at f3
      rw [e0, e1, ev, f1]
      exact ⟨x3, by rw [hx3]; show (j : Int) = ((0 + j : Nat) : Int); rw [Nat.zero_add], f2, Or.inr ⟨rfl, fun w => h6 (by have w1 : b a = 34 := w.1; omega)⟩⟩
    · obtain ⟨f1, f2, f3⟩ := fin h1 h2 h3 h4 h5
      rw [e0, e1, ev, f1]
      exact ⟨x3, by rw [hx3]; show (j : Int) = ((0 + j : Nat) : Int); rw [Nat.zero_add], f2, Or.inr ⟨rfl, fun w => by have w2 : 0 + j ≤ 200 := w.2; omega⟩⟩
    · obtain ⟨f1, f2, f3⟩ := fin h1 h2 h3 h4 h5
      unfold BtR at f3
      rw [e0, e1, ev, f1]
      exact ⟨x3, by rw [hx3]; show (j : Int) = ((0 + j : Nat) : Int); rw [Nat.zero_add], f2, Or.inl ⟨rfl, (show b a = 34 by omega), (show 0 + j ≤ 200 by omega)⟩⟩
    · have y := ti_add h3 hx2 (show (2 : Int32).toInt = 2 from rfl) (by omega) (by omega)
      rcases hq with ⟨q1, -⟩ | ⟨q1, q2⟩
      · exact absurd q1 h1
      · exact nxt q1 (by omega) h4 h5 hQ
    · have y := ti_add h3 hx2 (show (1 : Int32).toInt = 1 from rfl) (by omega) (by omega)
      rcases hq with ⟨q1, -⟩ | ⟨q1, q2⟩
      · exact absurd q1 h1
      · exact nxt q1 (by omega) h4 h5 hQ
theorem str_r (hT : RTx tf ta b n) (hp : p0.toInt = (p : Int)) (hi : (tf 6).toInt = (i : Int)) (hi2 : i ≤ 100000) (hpn : p < n) (h : R_mp_readString p0 tf ta tf' ta' v) : ∃ w : Int32, w.toInt = (((sC b n (p + 1)).1 : Nat) : Int) ∧ LdT tf ta i p (((sC b n (p + 1)).2 : Int) + 1 - (p : Int)) 4 w tf' ta' ∧ ((v.toInt = 1 ∧ b (sC b n (p + 1)).2 = 34 ∧ (sC b n (p + 1)).1 ≤ 200) ∨ (v.toInt = 0 ∧ ¬ (b (sC b n (p + 1)).2 = 34 ∧ (sC b n (p + 1)).1 ≤ 200))) := by
  obtain ⟨m, h⟩ := h
  obtain ⟨m', z44, h1, v46, h2, hQ⟩ := iv_mp_readString_0 h
  have t2 := hT.2.1
  have y := ti_add h1 hp (show (1 : Int32).toInt = 1 from rfl) (by omega) (by omega)
  have ch := chr_r hT (p := p + 1) (by omega) (by omega) rfl (Or.inl rfl) h2
  rw [show ((34 : Int32)).toInt = 34 from rfl] at ch
  have r := str_15 hT hp hi hi2 hpn n m' (p + 1) 0 z44 (0 : Int32) v46 hQ (by omega) rfl (Nat.lt_succ_self _) (by omega) (by omega) (Nat.zero_le _) (by
    rcases ch with ⟨c1, c2⟩ | ⟨c1, c2, c3⟩
    · exact Or.inl ⟨c1, c2⟩
    · refine Or.inr ⟨c1, ?_⟩
      rcases c3 with ⟨c3, c4⟩ | ⟨c3, c4⟩
      · exact Or.inl ⟨by omega, by omega, c4⟩
      · exact Or.inr ⟨by omega, c4⟩)
  exact r
end TC
