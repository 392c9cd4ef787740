/-! WORDS: names and keys -/
def nmE (b : Nat → Int) : Nat → Nat → Nat
  | 0, i => i
  | d + 1, i => if isL (b i) = true ∨ isD (b i) = true then nmE b d (i + 1) else i
def wdL (b : Nat → Int) (p e : Nat) : List Int := (List.range (e - p)).map (fun j => b (p + j))
theorem wdL_len {b : Nat → Int} {p e : Nat} : (wdL b p e).length = e - p := by
  unfold wdL
  rw [List.length_map, List.length_range]
theorem wdL_at {b : Nat → Int} {p e j : Nat} {x : Int} (h : (wdL b p e)[j]? = some x) : j < e - p ∧ x = b (p + j) := by
  unfold wdL at h
  rw [List.getElem?_map] at h
  cases hr : (List.range (e - p))[j]? with
  | none => rw [hr] at h; exact absurd h (by simp)
  | some k =>
    rw [hr] at h
    have h1 := (List.getElem?_eq_some_iff.mp hr).1
    have h2 := (List.getElem?_eq_some_iff.mp hr).2
    rw [List.length_range] at h1
    rw [List.getElem_range] at h2
    subst h2
    exact ⟨h1, (Option.some.inj h).symm⟩
theorem nmE_b {b : Nat → Int} : ∀ (d i : Nat), i ≤ nmE b d i ∧ nmE b d i ≤ i + d
  | 0, i => ⟨Nat.le_refl _, Nat.le_refl _⟩
  | d + 1, i => by
    have un : nmE b (d + 1) i = if isL (b i) = true ∨ isD (b i) = true then nmE b d (i + 1) else i := by first | rfl | simp [nmE]
    rw [un]
    by_cases h : isL (b i) = true ∨ isD (b i) = true
    · rw [if_pos h]
      have := nmE_b (b := b) d (i + 1)
      omega
    · rw [if_neg h]; omega
theorem narC : ∀ k : Fin 256, vp_nar .char (Int32.ofNat k.val) = Int32.ofNat k.val := by decide +kernel
theorem narc {x z : Int32} (h0 : 0 ≤ x.toInt) (h1 : x.toInt ≤ 255) (hz : z = (x.toUInt32 % 65536).toInt32) : vp_nar .char z = x := by
  rw [nar16 h0 h1] at hz
  subst hz
  have hlt : z.toInt.toNat < 256 := by omega
  have e : Int32.ofNat z.toInt.toNat = z := by
    apply Int32.toInt_inj.mp
    rw [Int32.toInt_ofNat_of_lt (by omega)]
    omega
  have := narC ⟨z.toInt.toNat, hlt⟩
  rw [e] at this
  exact this
section TA
variable {tb : Nat → Int32} {n : Nat} {f' : Nat → Int32} {a' : Nat → Nat → Int32} {v : Int32}
/-- what a word does: O: the letters of all names so far; p: where it begins; e: where it ends -/
def WdR (tb : Nat → Int32) (n : Nat) (f : Nat → Int32) (a : Nat → Nat → Int32) (f' : Nat → Int32) (a' : Nat → Nat → Int32) (v : Int32) (NL : List (List Int)) (p e : Nat) : Prop :=
  (∀ j : Nat, ¬ j = 8 → ¬ j = 9 → ¬ j = 11 → f' j = f j) ∧ (∀ j : Nat, ¬ j = 3 → ¬ j = 4 → a' j = a j) ∧ ((e - p ≤ 24 ∧ NmT f' a' (nAdd (wdL (bt tb n) p e) NL) ∧ (f' 8).toInt = (e : Int) ∧ (f' 9).toInt = ((fIx (wdL (bt tb n) p e) NL : Nat) : Int) ∧ v.toInt = (if fIx (wdL (bt tb n) p e) NL < 15 then ((fIx (wdL (bt tb n) p e) NL + 1 : Nat) : Int) else 16)) ∨ (¬ e - p ≤ 24 ∧ v = 19 ∧ NmT f' a' NL))
theorem nam_94 {f : Nat → Int32} {a a0 : Nat → Nat → Int32} {NL : List (List Int)} {p e : Nat} {x1 x2 : Int32} {k : Nat} (hT : NmT f a NL) (hO : offs NL ≤ 133 + p) (hL : NL.length ≤ 26 + p) (hb : n ≤ 2048) (hpn : p < n) (hpe : p ≤ e ∧ e ≤ n) (h1' : x1.toInt = ((offs NL : Nat) : Int)) (h2' : x2.toInt = ((e - p : Nat) : Int)) (hp : (f 8).toInt = (e : Int)) (hlt : ∀ j : Nat, j < e - p → (a 3 (offs NL + j)).toInt = bt tb n (p + j)) (ha : ∀ j : Nat, ¬ j = 3 → a j = a0 j) (h : E_t2_name tb f' a' v k 94 [x1, x2] [] [] [] [] f a) : WdR tb n f a0 f' a' v NL p e := by
  rcases iv_t2_name_94 h with ⟨k, (⟨h1, f5, a6, v8, h2, (⟨h3, e0, e1, ev⟩ | ⟨h3, z18, h4, e0, e1, ev⟩)⟩ | ⟨h1, e0, e1, ev⟩)⟩
  · have i1 := in_ok (w := wdL (bt tb n) p e) hT h1' (by rw [wdL_len]; exact h2') (fun j x hj => by
      obtain ⟨y1, y2⟩ := wdL_at hj
      rw [y2]; exact hlt j y1) (by rw [wdL_len]; omega) (by omega) h2
    obtain ⟨r1, r2, r3, r4⟩ := i1
    rw [e0, e1, ev]
    refine ⟨fun j j1 j2 j3 => by rw [pk_un j2]; exact r3 j j3, fun j j1 j2 => (r4 j j2).trans (ha j j1), Or.inl ⟨by omega, ?_, ?_, ?_, ?_⟩⟩
    · exact ⟨by rw [pk_un (by decide)]; exact r2.1, r2.2⟩
    · rw [pk_un (by decide), r3 8 (by decide)]; exact hp
    · rw [pk_us]; exact r1
    · rw [if_neg (by omega)]; rfl
  · have i1 := in_ok (w := wdL (bt tb n) p e) hT h1' (by rw [wdL_len]; exact h2') (fun j x hj => by
      obtain ⟨y1, y2⟩ := wdL_at hj
      rw [y2]; exact hlt j y1) (by rw [wdL_len]; omega) (by omega) h2
    obtain ⟨r1, r2, r3, r4⟩ := i1
    have z := ti_add h4 r1 (show (1 : Int32).toInt = 1 from rfl) (by omega) (by omega)
    rw [e0, e1, ev]
    refine ⟨fun j j1 j2 j3 => by rw [pk_un j2]; exact r3 j j3, fun j j1 j2 => (r4 j j2).trans (ha j j1), Or.inl ⟨by omega, ?_, ?_, ?_, ?_⟩⟩
    · exact ⟨by rw [pk_un (by decide)]; exact r2.1, r2.2⟩
    · rw [pk_un (by decide), r3 8 (by decide)]; exact hp
    · rw [pk_us]; exact r1
    · rw [if_pos (by omega)]; omega
  · rw [e0, e1]
    exact ⟨fun _ _ _ _ => rfl, fun j j1 _ => ha j j1, Or.inr ⟨by omega, ev, hT⟩⟩
theorem nam_23 {NL : List (List Int)} {p : Nat} {x1 : Int32} {a0 : Nat → Nat → Int32} (hO : offs NL ≤ 133 + p) (hL : NL.length ≤ 26 + p) (hb : n ≤ 2048) (hpn : p < n) (h1' : x1.toInt = ((offs NL : Nat) : Int)) :
    ∀ (d s k : Nat) (x2 x3 : Int32) (f : Nat → Int32) (a : Nat → Nat → Int32), E_t2_name tb f' a' v k 23 [x1, x2, x3] [] [] [] [] f a → (f 7).toInt = (n : Int) → (f 8).toInt = ((p + s : Nat) : Int) → x2.toInt = (s : Int) → x3.toInt = bt tb n (p + s) → p + s + d = n → NmT f a NL → (∀ j : Nat, j < s → (a 3 (offs NL + j)).toInt = bt tb n (p + j)) → (∀ j : Nat, ¬ j = 3 → a j = a0 j) → WdR tb n f a0 f' a' v NL p (nmE (bt tb n) d (p + s)) := by
  intro d
  induction d with
  | zero =>
    intro s k x2 x3 f a h hn hp h2' h3' hd hT hlt ha
    show WdR tb n f a0 f' a' v NL p (p + s)
    rcases iv_t2_name_23 h with ⟨k, (⟨g1, hE⟩ | ⟨g1, v22, g2, (⟨g3, z28, g4, (⟨g5, z31, g6, z33, g7, v35, g8, hE⟩ | ⟨g5, z41, g6, z42, g7, z43, g8, z45, g9, v47, g10, hE⟩)⟩ | ⟨g3, v54, g4, (⟨g5, hE⟩ | ⟨g5, z60, g6, (⟨g7, z63, g8, z65, g9, v67, g10, hE⟩ | ⟨g7, z73, g8, z74, g9, z75, g10, z77, g11, v79, g12, hE⟩)⟩)⟩)⟩)⟩
    · exact nam_94 hT hO hL hb hpn (by omega) h1' (by rw [h2']; omega) hp (fun j hj => hlt j (by omega)) ha hE
    all_goals (exfalso; omega)
  | succ d ih =>
    intro s k x2 x3 f a h hn hp h2' h3' hd hT hlt ha
    have un : nmE (bt tb n) (d + 1) (p + s) = if isL (bt tb n (p + s)) = true ∨ isD (bt tb n (p + s)) = true then nmE (bt tb n) d (p + s + 1) else p + s := by first | rfl | simp [nmE]
    rw [un]
    have rg := bt_rng (tb := tb) (n := n) (i := p + s) (by omega)
    have oT : ∀ {i j : Nat} {w : List Int} {x : Int}, NL[i]? = some w → w[j]? = some x → offs (NL.take i) + j < offs NL := by
      intro i j w x hi hj
      have h1 := offs_take hi
      have h2 := offs_le (NL := NL) (i := i + 1)
      have h3 := (List.getElem?_eq_some_iff.mp hj).1
      omega
    have go : ∀ {k : Nat} {y z w q c : Int32}, (isL (bt tb n (p + s)) = true ∨ isD (bt tb n (p + s)) = true) → y = x1 + x2 → c = (x3.toUInt32 % 65536).toInt32 → z = x2 + 1 → q = f 8 + 1 → R_t2_byteAt tb (upd f 8 q) q w → E_t2_name tb f' a' v k 23 [x1, z, w] [] [] [] [] (upd f 8 q) (va_up a 3 (upd (a 3) y.toNatClampNeg (vp_nar .char c))) → WdR tb n f a0 f' a' v NL p (if isL (bt tb n (p + s)) = true ∨ isD (bt tb n (p + s)) = true then nmE (bt tb n) d (p + s + 1) else p + s) := by
      intro k y z w q c hyes hy hc hz hq hw hE
      rw [if_pos hyes]
      have hy' := ti_add hy h1' h2' (by omega) (by omega)
      have hz' := ti_add hz h2' (show (1 : Int32).toInt = 1 from rfl) (by omega) (by omega)
      have hq' := ti_add hq hp (show (1 : Int32).toInt = 1 from rfl) (by omega) (by omega)
      have hk : y.toNatClampNeg = offs NL + s := cn_of (by omega)
      have hcc := narc (by omega) (by omega) hc
      have u7 : (upd f 8 q 7).toInt = (n : Int) := by rw [pk_un (by decide)]; exact hn
      have hw' := byte_r (p := p + (s + 1)) u7 hb (by omega) hw
      rw [hk, hcc] at hE
      have T2 : NmT (upd f 8 q) (va_up a 3 (upd (a 3) (offs NL + s) x3)) NL := by
        refine ⟨by rw [pk_un (by decide)]; exact hT.1, fun i u hu => ?_⟩
        obtain ⟨t1, t2⟩ := hT.2 i u hu
        refine ⟨by rw [va_up_n (by decide)]; exact t1, fun j x hj => ?_⟩
        have := oT hu hj
        rw [va_up_s, pk_un (by omega)]
        exact t2 j x hj
      have i1 := ih (s + 1) k z w (upd f 8 q) (va_up a 3 (upd (a 3) (offs NL + s) x3)) hE u7 (by rw [pk_us]; omega) (by omega) hw' (by omega) T2 (fun j hj => by
        rcases Nat.eq_or_lt_of_le (Nat.le_of_lt_succ hj) with r | r
        · subst r; rw [va_up_s, pk_us]; exact h3'
        · rw [va_up_s, pk_un (by omega)]; exact hlt j r) (fun j hj => by rw [va_up_n hj]; exact ha j hj)
      rw [show p + (s + 1) = p + s + 1 by omega] at i1
      obtain ⟨r1, r2, r3⟩ := i1
      exact ⟨fun j j1 j2 j3 => (r1 j j1 j2 j3).trans (pk_un j1), r2, r3⟩
    have el : ∀ {w : Int32}, R_t2_isLetter x3 w → (¬ w.toInt = 0 ↔ isL (bt tb n (p + s)) = true) := by
      intro w hw
      have e := letter_r hw
      rw [h3'] at e
      cases hk : isL (bt tb n (p + s)) with
      | true => rw [hk] at e; simp at e; simp [e]
      | false => rw [hk] at e; simp at e; simp [e]
    have edg : ∀ {w : Int32}, R_t2_isDigit x3 w → (¬ w.toInt = 0 ↔ isD (bt tb n (p + s)) = true) := by
      intro w hw
      have e := digit_r hw
      rw [h3'] at e
      cases hk : isD (bt tb n (p + s)) with
      | true => rw [hk] at e; simp at e; simp [e]
      | false => rw [hk] at e; simp at e; simp [e]
    rcases iv_t2_name_23 h with ⟨k, (⟨g1, hE⟩ | ⟨g1, v22, g2, (⟨g3, z28, g4, (⟨g5, z31, g6, z33, g7, v35, g8, hE⟩ | ⟨g5, z41, g6, z42, g7, z43, g8, z45, g9, v47, g10, hE⟩)⟩ | ⟨g3, v54, g4, (⟨g5, hE⟩ | ⟨g5, z60, g6, (⟨g7, z63, g8, z65, g9, v67, g10, hE⟩ | ⟨g7, z73, g8, z74, g9, z75, g10, z77, g11, v79, g12, hE⟩)⟩)⟩)⟩)⟩
    · exfalso; omega
    · exfalso
      have hy' := ti_add g4 h1' h2' (by omega) (by omega)
      omega
    · exact go (Or.inl ((el g2).mp g3)) g6 g7 g8 g9 g10 hE
    · have n1 : ¬ isL (bt tb n (p + s)) = true := fun z => (el g2).mpr z g3
      have n2 : ¬ isD (bt tb n (p + s)) = true := fun z => (edg g4).mpr z g5
      rw [if_neg (fun z => z.elim n1 n2)]
      exact nam_94 hT hO hL hb hpn (by omega) h1' (by rw [h2']; omega) hp (fun j hj => hlt j (by omega)) ha hE
    · exfalso
      have hy' := ti_add g6 h1' h2' (by omega) (by omega)
      omega
    · exact go (Or.inr ((edg g4).mp g5)) g8 g9 g10 g11 g12 hE
theorem lnam_ok {f : Nat → Int32} {a : Nat → Nat → Int32} {NL : List (List Int)} {p : Nat} (hO : offs NL ≤ 133 + p) (hL : 1 ≤ NL.length ∧ NL.length ≤ 26 + p) (hb : n ≤ 2048) (hpn : p < n) (hn : (f 7).toInt = (n : Int)) (hp : (f 8).toInt = (p : Int)) (hT : NmT f a NL) (h : R_t2_name tb f a f' a' v) : WdR tb n f a f' a' v NL p (nmE (bt tb n) (n - p) p) := by
  obtain ⟨k, h⟩ := h
  obtain ⟨k, z86, h1, z87, h2, v89, h3, hE⟩ := iv_t2_name_0 h
  have z1 := ti_sub h1 hT.1 (show (1 : Int32).toInt = 1 from rfl) (by omega) (by omega)
  have hk : z86.toNatClampNeg = NL.length - 1 := cn_of (by omega)
  have hg : NL[NL.length - 1]? = some NL[NL.length - 1] := List.getElem?_eq_getElem (by omega)
  have e4 := (hT.2 _ _ hg).1
  rw [show NL.length - 1 + 1 = NL.length by omega, List.take_length] at e4
  have e3 := byte_r hn hb hp h3
  exact nam_23 hO hL.2 hb hpn (by rw [h2, hk]; exact e4) (n - p) 0 k _ _ f a hE hn hp (by rfl) e3 (by omega) hT (fun j hj => absurd hj (Nat.not_lt_zero _)) (fun _ _ => rfl)
end TA
