/-! THE REFERENCE's tokens: one, all -/
section TF1
variable {tf tf' tf0 : Nat → Int32} {ta ta' ta0 : Nat → Nat → Int32} {b : Nat → Int} {n p i : Nat} {p0 v : Int32}
theorem wd_15 (hT : RTx tf0 ta0 b n) (hp : p0.toInt = (p : Int)) : ∀ (d m j : Nat) (x2 x3 : Int32), E_mp_readToken p0 tf' ta' v tf0 ta0 m 15 [x2, x3] [] [] [] [] tf0 ta0 → x3.toInt = (j : Int) → p + j + d = n → ∃ (m' : Nat) (y : Int32), E_mp_readToken p0 tf' ta' v tf0 ta0 m' 47 [y] [] [] [] [] tf0 ta0 ∧ y.toInt = ((nmE b d (p + j) - p : Nat) : Int) := by
  have t2 := hT.2.1
  intro d
  induction d with
  | zero =>
    intro m j x2 x3 h hx hj
    have be : b (p + j) = -1 := hT.2.2.1 _ (by omega)
    rcases iv_mp_readToken_15 h with ⟨m', z63, h1, v65, h2, v70, h3, (⟨h4, z77, h5, hQ⟩ | ⟨h4, z78, h5, v80, h6, v85, h7, (⟨h8, hQ⟩ | ⟨h8, z92, h9, hQ⟩)⟩)⟩
    all_goals
      have z1 := ti_add h1 hp hx (by omega) (by omega)
      have b1 := byt_r hT (p := p + j) (by omega) h2
    · exfalso
      rcases rlet_r b1 h3 with ⟨w, -⟩ | ⟨-, w⟩
      · exact h4 w
      · rw [be] at w; exact absurd w (by decide)
    · exact ⟨m', x3, hQ, by rw [hx]; show (j : Int) = ((p + j - p : Nat) : Int); omega⟩
    · exfalso
      have z2 := ti_add h5 hp hx (by omega) (by omega)
      have b2 := byt_r hT (p := p + j) (by omega) h6
      rcases rdig_r b2 h7 with ⟨w, -⟩ | ⟨-, w⟩
      · exact h8 w
      · rw [be] at w; exact absurd w (by decide)
  | succ d ih =>
    intro m j x2 x3 h hx hj
    have el : nmE b (d + 1) (p + j) = if isL (b (p + j)) = true ∨ isD (b (p + j)) = true then nmE b d (p + j + 1) else p + j := rfl
    rw [el]
    have e1 : p + j + 1 = p + (j + 1) := by omega
    rcases iv_mp_readToken_15 h with ⟨m', z63, h1, v65, h2, v70, h3, (⟨h4, z77, h5, hQ⟩ | ⟨h4, z78, h5, v80, h6, v85, h7, (⟨h8, hQ⟩ | ⟨h8, z92, h9, hQ⟩)⟩)⟩
    all_goals
      have z1 := ti_add h1 hp hx (by omega) (by omega)
      have b1 := byt_r hT (p := p + j) (by omega) h2
    · rcases rlet_r b1 h3 with ⟨w, -⟩ | ⟨-, w⟩
      · exact absurd w h4
      · have y := ti_add h5 hx (show (1 : Int32).toInt = 1 from rfl) (by omega) (by omega)
        rw [if_pos (Or.inl w), e1]
        exact ih m' (j + 1) x2 z77 hQ (by omega) (by omega)
    · have z2 := ti_add h5 hp hx (by omega) (by omega)
      have b2 := byt_r hT (p := p + j) (by omega) h6
      rw [if_neg (by
        rintro (w | w)
        · rcases rlet_r b1 h3 with ⟨-, y⟩ | ⟨y, -⟩
          · rw [y] at w; exact absurd w (by decide)
          · omega
        · rcases rdig_r b2 h7 with ⟨-, y⟩ | ⟨y, -⟩
          · rw [y] at w; exact absurd w (by decide)
          · omega)]
      exact ⟨m', x3, hQ, by rw [hx]; omega⟩
    · have z2 := ti_add h5 hp hx (by omega) (by omega)
      have b2 := byt_r hT (p := p + j) (by omega) h6
      rcases rdig_r b2 h7 with ⟨w, -⟩ | ⟨-, w⟩
      · exact absurd w h8
      · have y := ti_add h9 hx (show (1 : Int32).toInt = 1 from rfl) (by omega) (by omega)
        rw [if_pos (Or.inr w), e1]
        exact ih m' (j + 1) x2 z92 hQ (by omega) (by omega)
/-- what is read at p, as token i -/
def TkQ (b : Nat → Int) (n : Nat) (tf : Nat → Int32) (ta : Nat → Nat → Int32) (i p : Nat) (tf' : Nat → Int32) (ta' : Nat → Nat → Int32) (v : Int32) : Prop := (∀ j : Nat, ¬ j = 6 → tf' j = tf j) ∧ (∀ f j : Nat, (¬ j = i ∨ f < 7 ∨ 10 < f) → ta' f j = ta f j) ∧ ((v.toInt = 0 ∧ lxK KWL b n p = 19) ∨ (v.toInt = 1 ∧ ¬ lxK KWL b n p = 19 ∧ ¬ lxK KWL b n p = 0 ∧ (tf' 6).toInt = (i : Int) + 1 ∧ (p < lxE b n p ∧ lxE b n p ≤ n) ∧ ∃ (s : Int) (w : Int32), ((ta' 7 i).toInt = (p : Int) ∧ (ta' 8 i).toInt = (lxE b n p : Int) - (p : Int) ∧ (ta' 9 i).toInt = s ∧ ta' 10 i = w) ∧ ((s = 1 ∧ isL (b p) = true ∧ lxK KWL b n p = 16) ∨ (s = 2 ∧ isL (b p) = true ∧ (0 ≤ w.toInt ∧ w.toInt < 15) ∧ lxK KWL b n p = w.toInt + 1) ∨ (s = 3 ∧ lxK KWL b n p = 17 ∧ ((isD (b p) = true ∧ w = nVl (nSm b n p)) ∨ (b p = 39 ∧ w.toInt = qV b (p + 1) 39))) ∨ (s = 4 ∧ lxK KWL b n p = 18 ∧ b p = 34 ∧ w.toInt = ((sC b n (p + 1)).1 : Int)) ∨ (s = 5 ∧ ∃ k : Nat, k < 43 ∧ w.toInt = (k : Int) ∧ lxK KWL b n p = mkC k ∧ lxE b n p = p + mlen k ∧ mtM b p k))))
theorem i_dk {x z : Int32} (e : z = x / (1000 : Int32)) (h : 0 ≤ x.toInt) : z.toInt = x.toInt / 1000 := by
  subst e
  rw [Int32.toInt_div_of_ne_right _ _ (by decide)]
  rw [show (1000 : Int32).toInt = 1000 from rfl, Int.tdiv_eq_ediv_of_nonneg h]
/-- a character in quotes -/
theorem chr_t {z1 vc zl zv z6 xw z7 vb : Int32} {tf7 : Nat → Int32} {ta8 : Nat → Nat → Int32} {wd : Nat} (hT : RTx tf ta b n) (hp : p0.toInt = (p : Int)) (hi : (tf 6).toInt = (i : Int)) (hi2 : i ≤ 100000) (hpn : p < n) (n1 : isL (b p) = false) (n2 : isD (b p) = false) (q39 : b p = 39) (h1 : z1 = p0 + (1 : Int32)) (h2 : R_mp_character tf ta z1 (39 : Int32) vc) (h0 : 0 ≤ vc.toInt) (ht : R_mp_token p0 zl (3 : Int32) zv tf ta tf7 ta8) (hl : zl.toInt = ((wd + 2 : Nat) : Int)) (hv : zv = vc - vc / (1000 : Int32) * (1000 : Int32)) (hw : (vc.toInt < 1000 ∧ wd = 1) ∨ (1000 ≤ vc.toInt ∧ wd = 2)) (h6 : z6 = p0 + (1 : Int32)) (h7 : z7 = z6 + xw) (hxw : xw.toInt = ((wd : Nat) : Int)) (hb : R_mp_byteAt tf7 ta8 z7 vb) (ho : (¬ vb.toInt = 39 ∧ v = 0) ∨ (vb.toInt = 39 ∧ v = 1)) (e0 : tf' = tf7) (e1 : ta' = ta8) : TkQ b n tf ta i p tf' ta' v := by
  have t2 := hT.2.1
  have y1 := ti_add h1 hp (show (1 : Int32).toInt = 1 from rfl) (by omega) (by omega)
  have ch := chr_r hT (p := p + 1) (by omega) (by omega) rfl (Or.inr rfl) h2
  rw [show ((39 : Int32)).toInt = 39 from rfl] at ch
  have L := ld_r hp hi hi2 hl (show (vp_nar .byte (3 : Int32).toInt8.toInt32).toInt = 3 from rfl) ht
  have y6 := ti_add h6 hp (show (1 : Int32).toInt = 1 from rfl) (by omega) (by omega)
  have y7 := ti_add h7 y6 hxw (by omega) (by omega)
  have bb := byt_r (L.tx hT) (p := p + 1 + wd) (by omega) hb
  unfold BtR at bb
  have cc : 0 ≤ qV b (p + 1) 39 ∧ qW b (p + 1) = wd ∧ zv.toInt = qV b (p + 1) 39 := by
    have dk := i_dk (x := vc) rfl h0
    rcases ch with ⟨c1, -⟩ | ⟨c1, c2, c3⟩
    · exfalso; omega
    · rcases hw with ⟨w1, w2⟩ | ⟨w1, w2⟩
      · have d0 : vc / (1000 : Int32) = 0 := Int32.toInt_inj.mp (by rw [dk]; show _ = (0 : Int); omega)
        rw [d0] at hv
        have y := ti_sub hv rfl (show ((0 : Int32) * (1000 : Int32)).toInt = 0 from rfl) (by omega) (by omega)
        rcases c3 with ⟨c3, c4⟩ | ⟨c3, c4⟩
        · exact ⟨c1, by omega, by omega⟩
        · exfalso; omega
      · have d1 : vc / (1000 : Int32) = 1 := Int32.toInt_inj.mp (by rw [dk]; show _ = (1 : Int); omega)
        rw [d1] at hv
        have y := ti_sub hv rfl (show ((1 : Int32) * (1000 : Int32)).toInt = 1000 from rfl) (by omega) (by omega)
        rcases c3 with ⟨c3, c4⟩ | ⟨c3, c4⟩
        · exfalso; omega
        · exact ⟨c1, by omega, by omega⟩
  obtain ⟨c1, c2, c3⟩ := cc
  have eK : lxK KWL b n p = if 0 ≤ qV b (p + 1) 39 ∧ b (p + 1 + qW b (p + 1)) = 39 then 17 else 19 := by unfold lxK; rw [if_neg (by rw [n1]; decide), if_neg (by rw [n2]; decide), if_pos q39]
  have eE : lxE b n p = p + 2 + qW b (p + 1) := by unfold lxE; rw [if_neg (by rw [n1]; decide), if_neg (by rw [n2]; decide), if_pos q39]
  rw [c2] at eK eE
  rw [e0, e1]
  refine ⟨L.2.1, L.2.2.2, ?_⟩
  rcases ho with ⟨o1, o2⟩ | ⟨o1, o2⟩
  · exact Or.inl ⟨by rw [o2]; rfl, by rw [eK, if_neg (fun w => o1 (by have := w.2; omega))]⟩
  · have b39 : b (p + 1 + wd) = 39 := by omega
    have l := hT.lt (p := p + 1 + wd) (by omega)
    have e17 : lxK KWL b n p = 17 := by rw [eK, if_pos ⟨c1, b39⟩]
    exact Or.inr ⟨by rw [o2]; rfl, by omega, by omega, L.1, by rw [eE]; omega, 3, zv, ⟨L.2.2.1.1, by rw [L.2.2.1.2.1, eE]; omega, L.2.2.1.2.2.1, L.2.2.1.2.2.2⟩, Or.inr (Or.inr (Or.inl ⟨rfl, e17, Or.inr ⟨q39, c3⟩⟩))⟩
theorem mkC_n {k : Nat} (h : k < 43) : 20 ≤ mkC k := by
  have all : ∀ k : Nat, k < 43 → 20 ≤ mkC k := by decide
  exact all k h
theorem rt_r (hT : RTx tf ta b n) (hp : p0.toInt = (p : Int)) (hi : (tf 6).toInt = (i : Int)) (hi2 : i ≤ 100000) (hpn : p < n) (h : R_mp_readToken p0 tf ta tf' ta' v) : TkQ b n tf ta i p tf' ta' v := by
  have t2 := hT.2.1
  have b0p := (hT.2.2.2 p hpn).1
  obtain ⟨m, h⟩ := h
  have wds : ∀ {m : Nat} {x2 : Int32}, isL (b p) = true → E_mp_readToken p0 tf' ta' v tf ta m 15 [x2, (0 : Int32)] [] [] [] [] tf ta → TkQ b n tf ta i p tf' ta' v := by
    intro m x2 hL hE
    obtain ⟨m', y, g1, g2⟩ := wd_15 hT hp (n - p) m 0 x2 (0 : Int32) hE rfl (by omega)
    rw [Nat.add_zero] at g2
    have nb := nmE_b (b := b) (n - p) p
    have gt : p < nmE b (n - p) p := by
      have e : n - p = (n - p - 1) + 1 := by omega
      rw [e]
      show p < (if isL (b p) = true ∨ isD (b p) = true then nmE b (n - p - 1) (p + 1) else p)
      rw [if_pos (Or.inl hL)]
      have := nmE_b (b := b) (n - p - 1) (p + 1)
      omega
    have eE : lxE b n p = nmE b (n - p) p := by unfold lxE; rw [if_pos hL]
    have eK : lxK KWL b n p = if nmE b (n - p) p - p ≤ 24 then kwK KWL (wdL b p (nmE b (n - p) p)) else 19 := by unfold lxK; rw [if_pos hL]
    have out : ∀ {s : Int} {w : Int32}, LdT tf ta i p ((nmE b (n - p) p - p : Nat) : Int) s w tf' ta' → ((s = 1 ∧ w.toInt = -1 ∧ kwK KWL (wdL b p (nmE b (n - p) p)) = 16) ∨ (s = 2 ∧ (0 ≤ w.toInt ∧ w.toInt < 15) ∧ kwK KWL (wdL b p (nmE b (n - p) p)) = w.toInt + 1)) → ((24 : Int) < y.toInt ∧ v = 0) ∨ (¬ (24 : Int) < y.toInt ∧ v = 1) → TkQ b n tf ta i p tf' ta' v := by
      intro s w L hk hv
      refine ⟨L.2.1, L.2.2.2, ?_⟩
      rcases hv with ⟨v1, v2⟩ | ⟨v1, v2⟩
      · exact Or.inl ⟨by rw [v2]; rfl, by rw [eK, if_neg (by omega)]⟩
      · have e16 : lxK KWL b n p = kwK KWL (wdL b p (nmE b (n - p) p)) := by rw [eK, if_pos (by omega)]
        refine Or.inr ⟨by rw [v2]; rfl, ?_, ?_, L.1, by rw [eE]; omega, s, w, ⟨L.2.2.1.1, by rw [L.2.2.1.2.1, eE]; omega, L.2.2.1.2.2.1, L.2.2.1.2.2.2⟩, ?_⟩
        · rw [e16]; rcases hk with ⟨-, -, q⟩ | ⟨-, q1, q⟩ <;> omega
        · rw [e16]; rcases hk with ⟨-, -, q⟩ | ⟨-, q1, q⟩ <;> omega
        · rw [e16]
          rcases hk with ⟨q1, -, q⟩ | ⟨q1, q2, q⟩
          · exact Or.inl ⟨q1, hL, q⟩
          · exact Or.inr (Or.inl ⟨q1, hL, q2, q⟩)
    rcases iv_mp_readToken_47 g1 with ⟨m2, v32, h1, (⟨h2, tf41, ta42, h3, (⟨h4, e0, e1, ev⟩ | ⟨h4, e0, e1, ev⟩)⟩ | ⟨h2, tf53, ta54, h3, (⟨h4, e0, e1, ev⟩ | ⟨h4, e0, e1, ev⟩)⟩)⟩
    all_goals
      have kw := kw_r hT hp (by omega) (e := nmE b (n - p) p) g2 h1
    · rcases kw with ⟨k1, k2⟩ | ⟨j, k1, k2, -⟩
      · rw [← e0, ← e1] at h3
        exact out (ld_r hp hi hi2 g2 (show (vp_nar .byte (1 : Int32).toInt8.toInt32).toInt = 1 from rfl) h3) (Or.inl ⟨rfl, k1, k2⟩) (Or.inl ⟨h4, ev⟩)
      · exfalso; omega
    · rcases kw with ⟨k1, k2⟩ | ⟨j, k1, k2, -⟩
      · rw [← e0, ← e1] at h3
        exact out (ld_r hp hi hi2 g2 (show (vp_nar .byte (1 : Int32).toInt8.toInt32).toInt = 1 from rfl) h3) (Or.inl ⟨rfl, k1, k2⟩) (Or.inr ⟨h4, ev⟩)
      · exfalso; omega
    · rcases kw with ⟨k1, -⟩ | ⟨j, k1, k2, k3⟩
      · exfalso; omega
      · rw [← e0, ← e1] at h3
        exact out (ld_r hp hi hi2 g2 (show (vp_nar .byte (2 : Int32).toInt8.toInt32).toInt = 2 from rfl) h3) (Or.inr ⟨rfl, by omega, by omega⟩) (Or.inl ⟨h4, ev⟩)
    · rcases kw with ⟨k1, -⟩ | ⟨j, k1, k2, k3⟩
      · exfalso; omega
      · rw [← e0, ← e1] at h3
        exact out (ld_r hp hi hi2 g2 (show (vp_nar .byte (2 : Int32).toInt8.toInt32).toInt = 2 from rfl) h3) (Or.inr ⟨rfl, by omega, by omega⟩) (Or.inr ⟨h4, ev⟩)
  have mrk : ∀ {m : Nat}, isL (b p) = false → isD (b p) = false → ¬ b p = 39 → ¬ b p = 34 → ¬ (b p = 47 ∧ b (p + 1) = 42) → E_mp_readToken p0 tf' ta' v tf ta m 212 [(0 : Int32)] [] [] [] [] tf ta → TkQ b n tf ta i p tf' ta' v := by
    intro m n1 n2 n3 n4 n5 hE
    have eK : lxK KWL b n p = if mkO b p = true then mkK b p else 19 := by unfold lxK; rw [if_neg (by rw [n1]; decide), if_neg (by rw [n2]; decide), if_neg n3, if_neg n4, if_neg (by omega)]
    have eE : lxE b n p = mkE b p := by unfold lxE; rw [if_neg (by rw [n1]; decide), if_neg (by rw [n2]; decide), if_neg n3, if_neg n4, if_neg (by omega)]
    rcases mk_212 hT hp hi hi2 hpn 43 m 0 (0 : Int32) hE rfl rfl (fun q hq => absurd hq (Nat.not_lt_zero _)) with ⟨g1, g2, g3, g4⟩ | ⟨g1, g2, k, w, g3, g4, g5, g6, g7, g8⟩
    · rw [g2, g3]
      refine ⟨fun _ _ => rfl, fun _ _ _ => rfl, Or.inl ⟨g1, ?_⟩⟩
      rw [eK]
      have : mkO b p = false := by unfold mkO; rw [g4]; rfl
      rw [this, if_neg (by decide)]
    · have ok : mkO b p = true := by
        unfold mkO
        rw [g2, decide_eq_false n5]
        rfl
      have e16 : lxK KWL b n p = mkC k := by rw [eK, if_pos ok, g5]
      have mc := mkC_n g3
      have ml : 1 ≤ mlen k ∧ p + mlen k ≤ n := by
        have all : ∀ k : Nat, k < 43 → 1 ≤ mlen k ∧ 0 ≤ (mby k (mlen k - 1)).toInt := by decide
        have a := all k g3
        refine ⟨a.1, ?_⟩
        have q := g8 (mlen k - 1) (by omega)
        have l := hT.lt (p := p + (mlen k - 1)) (by omega)
        omega
      refine ⟨g7.2.1, g7.2.2.2, Or.inr ⟨g1, by omega, by omega, g7.1, by rw [eE, g6]; omega, 5, w, ⟨g7.2.2.1.1, by rw [g7.2.2.1.2.1, eE, g6]; omega, g7.2.2.1.2.2.1, g7.2.2.1.2.2.2⟩, Or.inr (Or.inr (Or.inr (Or.inr ⟨rfl, k, g3, g4, e16, by rw [eE, g6], g8⟩)))⟩⟩
  rcases iv_mp_readToken_0 h with ⟨m', v94, h1, v99, h2, (⟨h3, v107, h4, (⟨h5, (⟨h6, (⟨h7, (⟨h8, hQ⟩ | ⟨h8, z120, h9, v122, h10, (⟨h11, hQ⟩ | ⟨h11, e0, e1, ev⟩)⟩)⟩ | ⟨h7, tf130, ta131, v133, h8, e0, e1, ev⟩)⟩ | ⟨h6, z141, h7, v143, h8, (⟨h9, (⟨h10, z153, h11, z154, h12, tf157, ta158, h13, z166, h14, z167, h15, v169, h16, (⟨h17, e0, e1, ev⟩ | ⟨h17, e0, e1, ev⟩)⟩ | ⟨h10, z175, h11, z176, h12, tf179, ta180, h13, z188, h14, z189, h15, v191, h16, (⟨h17, e0, e1, ev⟩ | ⟨h17, e0, e1, ev⟩)⟩)⟩ | ⟨h9, z197, h10, z198, h11, tf201, ta202, h12, e0, e1, ev⟩)⟩)⟩ | ⟨h5, tf212, ta213, v215, h6, e0, e1, ev⟩)⟩ | ⟨h3, hQ⟩)⟩
  all_goals
    have bb := byt_r hT hp h1
    have le := rlet_r bb h2
  all_goals try have dd := rdig_r bb h4
  all_goals unfold BtR at bb
  · exact mrk (by rcases le with ⟨-, y⟩ | ⟨y, -⟩; exact y; omega) (by rcases dd with ⟨-, y⟩ | ⟨y, -⟩; exact y; omega) (by omega) (by omega) (by omega) hQ
  · have y := ti_add h9 hp (show (1 : Int32).toInt = 1 from rfl) (by omega) (by omega)
    have b1 := byt_r hT (p := p + 1) (by omega) h10
    unfold BtR at b1
    exact mrk (by rcases le with ⟨-, y⟩ | ⟨y, -⟩; exact y; omega) (by rcases dd with ⟨-, y⟩ | ⟨y, -⟩; exact y; omega) (by omega) (by omega) (by omega) hQ
  · have y := ti_add h9 hp (show (1 : Int32).toInt = 1 from rfl) (by omega) (by omega)
    have b1 := byt_r hT (p := p + 1) (by omega) h10
    unfold BtR at b1
    have n1 : isL (b p) = false := by rcases le with ⟨-, y⟩ | ⟨y, -⟩; exact y; omega
    have n2 : isD (b p) = false := by rcases dd with ⟨-, y⟩ | ⟨y, -⟩; exact y; omega
    rw [e0, e1]
    refine ⟨fun _ _ => rfl, fun _ _ _ => rfl, Or.inl ⟨by rw [ev]; rfl, ?_⟩⟩
    unfold lxK
    rw [if_neg (by rw [n1]; decide), if_neg (by rw [n2]; decide), if_neg (by omega), if_neg (by omega), if_neg (by omega)]
    have : mkO b p = false := by
      unfold mkO
      rw [decide_eq_true (show b p = 47 ∧ b (p + 1) = 42 by omega)]
      simp
    rw [this, if_neg (by decide)]
  · -- a string
    have n1 : isL (b p) = false := by rcases le with ⟨-, y⟩ | ⟨y, -⟩; exact y; omega
    have n2 : isD (b p) = false := by rcases dd with ⟨-, y⟩ | ⟨y, -⟩; exact y; omega
    have q34 : b p = 34 := by omega
    obtain ⟨w, g1, g2, g3⟩ := str_r hT hp hi hi2 hpn h8
    have eK : lxK KWL b n p = if (sC b n (p + 1)).1 ≤ 200 ∧ b (sC b n (p + 1)).2 = 34 then 18 else 19 := by unfold lxK; rw [if_neg (by rw [n1]; decide), if_neg (by rw [n2]; decide), if_neg (by omega), if_pos q34]
    have eE : lxE b n p = (sC b n (p + 1)).2 + 1 := by unfold lxE; rw [if_neg (by rw [n1]; decide), if_neg (by rw [n2]; decide), if_neg (by omega), if_pos q34]
    have sb := sC_b hT.2.2.1 n (p + 1) (by omega)
    rw [e0, e1, ev]
    refine ⟨g2.2.1, g2.2.2.2, ?_⟩
    rcases g3 with ⟨v1, v2, v3⟩ | ⟨v1, v2⟩
    · have e18 : lxK KWL b n p = 18 := by rw [eK, if_pos ⟨v3, v2⟩]
      have l := hT.lt (p := (sC b n (p + 1)).2) (by omega)
      exact Or.inr ⟨v1, by omega, by omega, g2.1, by rw [eE]; omega, 4, w, ⟨g2.2.2.1.1, by rw [g2.2.2.1.2.1, eE]; omega, g2.2.2.1.2.2.1, g2.2.2.1.2.2.2⟩, Or.inr (Or.inr (Or.inr (Or.inl ⟨rfl, e18, q34, g1⟩)))⟩
    · exact Or.inl ⟨v1, by rw [eK, if_neg (fun q => v2 ⟨q.2, q.1⟩)]⟩
  -- characters
  all_goals try (have q39 : b p = 39 := by omega)
  · have n1 : isL (b p) = false := by rcases le with ⟨-, y⟩ | ⟨y, -⟩; exact y; omega
    have n2 : isD (b p) = false := by rcases dd with ⟨-, y⟩ | ⟨y, -⟩; exact y; omega
    exact chr_t hT hp hi hi2 hpn n1 n2 q39 h7 h8 h9 h13 (by rw [h11]; rfl) h12 (Or.inr ⟨h10, rfl⟩) h14 h15 rfl h16 (Or.inl ⟨h17, ev⟩) e0 e1
  · have n1 : isL (b p) = false := by rcases le with ⟨-, y⟩ | ⟨y, -⟩; exact y; omega
    have n2 : isD (b p) = false := by rcases dd with ⟨-, y⟩ | ⟨y, -⟩; exact y; omega
    exact chr_t hT hp hi hi2 hpn n1 n2 q39 h7 h8 h9 h13 (by rw [h11]; rfl) h12 (Or.inr ⟨h10, rfl⟩) h14 h15 rfl h16 (Or.inr ⟨h17, ev⟩) e0 e1
  · have n1 : isL (b p) = false := by rcases le with ⟨-, y⟩ | ⟨y, -⟩; exact y; omega
    have n2 : isD (b p) = false := by rcases dd with ⟨-, y⟩ | ⟨y, -⟩; exact y; omega
    exact chr_t hT hp hi hi2 hpn n1 n2 q39 h7 h8 h9 h13 (by rw [h11]; rfl) h12 (Or.inl ⟨by omega, rfl⟩) h14 h15 rfl h16 (Or.inl ⟨h17, ev⟩) e0 e1
  · have n1 : isL (b p) = false := by rcases le with ⟨-, y⟩ | ⟨y, -⟩; exact y; omega
    have n2 : isD (b p) = false := by rcases dd with ⟨-, y⟩ | ⟨y, -⟩; exact y; omega
    exact chr_t hT hp hi hi2 hpn n1 n2 q39 h7 h8 h9 h13 (by rw [h11]; rfl) h12 (Or.inl ⟨by omega, rfl⟩) h14 h15 rfl h16 (Or.inr ⟨h17, ev⟩) e0 e1
  · have n1 : isL (b p) = false := by rcases le with ⟨-, y⟩ | ⟨y, -⟩; exact y; omega
    have n2 : isD (b p) = false := by rcases dd with ⟨-, y⟩ | ⟨y, -⟩; exact y; omega
    have y := ti_add h7 hp (show (1 : Int32).toInt = 1 from rfl) (by omega) (by omega)
    have ch := chr_r hT (p := p + 1) (by omega) (by omega) rfl (Or.inr rfl) h8
    rw [show ((39 : Int32)).toInt = 39 from rfl] at ch
    have L := ld_r (l := 2) hp hi hi2 (by rw [h10]; rfl) (show (vp_nar .byte (3 : Int32).toInt8.toInt32).toInt = 3 from rfl) h12
    rw [e0, e1]
    refine ⟨L.2.1, L.2.2.2, Or.inl ⟨by rw [ev]; rfl, ?_⟩⟩
    unfold lxK
    rw [if_neg (by rw [n1]; decide), if_neg (by rw [n2]; decide), if_pos q39, if_neg (fun w => by
      rcases ch with ⟨c1, c2⟩ | ⟨c1, c2, c3⟩
      · have := w.1; omega
      · omega)]
  · -- a number
    have n1 : isL (b p) = false := by rcases le with ⟨-, y⟩ | ⟨y, -⟩; exact y; omega
    have n2 : isD (b p) = true := by rcases dd with ⟨y, -⟩ | ⟨-, y⟩; omega; exact y
    obtain ⟨w, g1, g2, g3, g4⟩ := num_rr hT hp hi hi2 hpn n2 h6
    have eK : lxK KWL b n p = if nOk b n p = true then 17 else 19 := by unfold lxK; rw [if_neg (by rw [n1]; decide), if_pos n2]
    have eE : lxE b n p = nFr b p + nCt b n p := by unfold lxE; rw [if_neg (by rw [n1]; decide), if_pos n2]
    rw [e0, e1, ev]
    refine ⟨g1.2.1, g1.2.2.2, ?_⟩
    rcases g4 with ⟨v1, v2, v3⟩ | ⟨v1, v2⟩
    · have e17 : lxK KWL b n p = 17 := by rw [eK, if_pos v2]
      exact Or.inr ⟨v1, by omega, by omega, g1.1, by rw [eE]; omega, 3, w, ⟨g1.2.2.1.1, by rw [g1.2.2.1.2.1, eE], g1.2.2.1.2.2.1, g1.2.2.1.2.2.2⟩, Or.inr (Or.inr (Or.inl ⟨rfl, e17, Or.inl ⟨n2, v3⟩⟩))⟩
    · exact Or.inl ⟨v1, by rw [eK, v2, if_neg (by decide)]⟩
  · exact wds (by rcases le with ⟨y, -⟩ | ⟨-, y⟩; exact absurd y h3; exact y) hQ
end TF1
