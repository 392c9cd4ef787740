/-! THE REFERENCE's tokens: words -/
theorem rg_eq {m m' : Nat} {f g : Nat → Int} : (List.range m).map f = (List.range m').map g ↔ m = m' ∧ ∀ q : Nat, q < m → f q = g q := by
  constructor
  · intro h
    have hl : m = m' := by
      have e := congrArg List.length h
      rw [List.length_map, List.length_map, List.length_range, List.length_range] at e
      exact e
    refine ⟨hl, fun q hq => ?_⟩
    have e := congrArg (fun l => l[q]?) h
    have e1 : ((List.range m).map f)[q]? = some (f q) := by rw [List.getElem?_map, List.getElem?_range hq]; rfl
    have e2 : ((List.range m').map g)[q]? = some (g q) := by rw [List.getElem?_map, List.getElem?_range (by omega)]; rfl
    have e' : ((List.range m).map f)[q]? = ((List.range m').map g)[q]? := e
    rw [e1, e2] at e'
    injection e'
  · rintro ⟨rfl, h⟩
    exact List.map_congr_left (fun q hq => h q (List.mem_range.mp hq))
/-- the keys of the reference, as rows of letters -/
def kwW (j : Nat) : List Int := (List.range (klen j)).map (fun q => (kby j q).toInt)
def KWL : List (List Int) := (List.range 15).map kwW
theorem kwl_len : KWL.length = 15 := by unfold KWL; rw [List.length_map, List.length_range]
theorem kwl_at {j : Nat} (h : j < 15) : KWL[j]? = some (kwW j) := by unfold KWL; rw [List.getElem?_map, List.getElem?_range h]; rfl
theorem kwl_b {j : Nat} (h : j < 15) : klen j ≤ 8 ∧ ∀ q : Nat, q < klen j → 0 ≤ (kby j q).toInt ∧ (kby j q).toInt < 128 := by
  have all : ∀ j : Nat, j < 15 → klen j ≤ 8 ∧ ∀ q : Nat, q < 8 → 0 ≤ (kby j q).toInt ∧ (kby j q).toInt < 128 := by decide
  exact ⟨(all j h).1, fun q hq => (all j h).2 q (by have := (all j h).1; omega)⟩
section TB1
variable {tf : Nat → Int32} {ta : Nat → Nat → Int32} {b : Nat → Int} {n p : Nat} {p0 p1 v : Int32} {sn : Nat} {sb : Nat → Int32}
theorem and255 {x : Int32} (h0 : 0 ≤ x.toInt) (h1 : x.toInt ≤ 255) : x &&& (255 : Int32) = x := by
  have hx : x.toBitVec.toNat < 256 := by
    have e : x.toInt = x.toBitVec.toInt := rfl
    have lt := x.toBitVec.isLt
    rw [BitVec.toInt_eq_toNat_cond] at e
    split at e <;> omega
  apply Int32.toBitVec_inj.mp
  apply BitVec.eq_of_toNat_eq
  show (x.toBitVec &&& (255 : Int32).toBitVec).toNat = x.toBitVec.toNat
  rw [BitVec.toNat_and, show (255 : Int32).toBitVec.toNat = 2 ^ 8 - 1 from rfl, Nat.and_two_pow_sub_one_eq_mod]
  exact Nat.mod_eq_of_lt hx
theorem sca_r {j : Nat} (hj : p0.toInt = (j : Int)) (hb : 0 ≤ (sb j).toInt ∧ (sb j).toInt < 128) (h : R_String_charAt sb p0 v) : v.toInt = (sb j).toInt := by
  rcases h with ⟨v2, -, -, v8, h, ev⟩ | h
  · rcases h with ⟨z3, h3, z4, h4, z5, h5, ev8⟩ | h
    · rw [cn_of hj] at h3
      rw [ev, ev8, h5, h4, h3]
      rw [and255 hb.1 (by omega), nar16 hb.1 (by omega)]
    · exact h.elim
  · exact h.elim
/-- whether a word stands at p -/
theorem stS_5 (hT : RTx tf ta b n) (hp : p0.toInt = (p : Int)) (hpn : p ≤ 100000) (hsn : sn ≤ 1000) (hsb : ∀ j : Nat, j < sn → 0 ≤ (sb j).toInt ∧ (sb j).toInt < 128) : ∀ (d m i : Nat) (x3 x4 : Int32), E_mp_standsS sn sb tf ta p0 v m 5 [x3, x4] [] [] [] [] () → x4.toInt = (i : Int) → i + d = sn → (x3.toInt = 0 → v.toInt = 0) ∧ (x3.toInt = 1 → (v.toInt = 0 ∨ v.toInt = 1) ∧ (v.toInt = 1 ↔ ∀ j : Nat, i ≤ j → j < sn → b (p + j) = (sb j).toInt)) := by
  intro d
  induction d with
  | zero =>
    intro m i x3 x4 h hx hi
    rcases iv_mp_standsS_5 h with ⟨m', v2, h1, (⟨h2, ev⟩ | ⟨h2, (⟨h3, ev⟩ | ⟨h3, z9, h4, v11, h5, v16, h6, (⟨h7, z21, h8, hQ⟩ | ⟨h7, z22, h8, hQ⟩)⟩)⟩)⟩
    all_goals have s1 := slen_r hsn h1
    · rw [ev]
      exact ⟨id, fun q => ⟨Or.inr q, fun _ j j1 j2 => by exfalso; omega, fun _ => q⟩⟩
    all_goals (exfalso; omega)
  | succ d ih =>
    intro m i x3 x4 h hx hi
    rcases iv_mp_standsS_5 h with ⟨m', v2, h1, (⟨h2, ev⟩ | ⟨h2, (⟨h3, ev⟩ | ⟨h3, z9, h4, v11, h5, v16, h6, (⟨h7, z21, h8, hQ⟩ | ⟨h7, z22, h8, hQ⟩)⟩)⟩)⟩
    all_goals have s1 := slen_r hsn h1
    · exfalso; omega
    · rw [ev]
      exact ⟨id, fun q => by exfalso; omega⟩
    all_goals
      have z1 := ti_add h4 hp hx (by omega) (by omega)
      have b1 := byt_r hT (p := p + i) (by omega) h5
      unfold BtR at b1
      have hs := hsb i (by omega)
      have c1 := sca_r hx hs h6
      have z2 := ti_add h8 hx (show (1 : Int32).toInt = 1 from rfl) (by omega) (by omega)
    · obtain ⟨g1, -⟩ := ih m' (i + 1) (0 : Int32) z21 hQ (by omega) (by omega)
      have v0 := g1 rfl
      refine ⟨fun _ => v0, fun _ => ⟨Or.inl v0, fun q => by exfalso; omega, fun q => ?_⟩⟩
      have := q i (Nat.le_refl _) (by omega)
      exfalso; omega
    · obtain ⟨-, g2⟩ := ih m' (i + 1) (1 : Int32) z22 hQ (by omega) (by omega)
      obtain ⟨g3, g4⟩ := g2 rfl
      refine ⟨fun q => absurd q h3, fun _ => ⟨g3, ?_⟩⟩
      rw [g4]
      constructor
      · intro q j j1 j2
        by_cases w : j = i
        · rw [w]; omega
        · exact q j (by omega) j2
      · intro q j j1 j2
        exact q j (by omega) j2
theorem stS_r (hT : RTx tf ta b n) (hp : p0.toInt = (p : Int)) (hpn : p ≤ 100000) (hsn : sn ≤ 1000) (hsb : ∀ j : Nat, j < sn → 0 ≤ (sb j).toInt ∧ (sb j).toInt < 128) (h : R_mp_standsS sn sb tf ta p0 v) : (v.toInt = 0 ∨ v.toInt = 1) ∧ (v.toInt = 1 ↔ ∀ j : Nat, j < sn → b (p + j) = (sb j).toInt) := by
  obtain ⟨m, h⟩ := h
  obtain ⟨m', h⟩ := iv_mp_standsS_0 h
  obtain ⟨g1, g2⟩ := (stS_5 hT hp hpn hsn hsb sn m' 0 (1 : Int32) (0 : Int32) h rfl (Nat.zero_add _)).2 rfl
  exact ⟨g1, g2.trans ⟨fun q j hj => q j (Nat.zero_le _) hj, fun q j _ hj => q j hj⟩⟩
/-- the key that stands at p, e - p letters long -/
theorem kw_2 (hT : RTx tf ta b n) (hp : p0.toInt = (p : Int)) (hpn : p ≤ 100000) {e : Nat} (hp1 : p1.toInt = ((e - p : Nat) : Int)) : ∀ (d m i : Nat) (x3 : Int32), E_mp_keyword tf ta p0 p1 v m 2 [x3] [] [] [] [] () → x3.toInt = (i : Int) → i + d = 15 → (∀ j : Nat, j < i → ¬ kwW j = wdL b p e) → (v.toInt = -1 ∧ ∀ j : Nat, j < 15 → ¬ kwW j = wdL b p e) ∨ ∃ j : Nat, j < 15 ∧ v.toInt = (j : Int) ∧ kwW j = wdL b p e ∧ ∀ i : Nat, i < j → ¬ kwW i = wdL b p e := by
  intro d
  induction d with
  | zero =>
    intro m i x3 h hx hi hno
    rcases iv_mp_keyword_2 h with ⟨m', (⟨h1, ev⟩ | ⟨h1, v7, h2, (⟨h3, z12, h4, hQ⟩ | ⟨h3, v17, h4, (⟨h5, z23, h6, hQ⟩ | ⟨h5, ev⟩)⟩)⟩)⟩
    · exact Or.inl ⟨by rw [ev]; rfl, fun j hj => hno j (by omega)⟩
    all_goals (exfalso; omega)
  | succ d ih =>
    intro m i x3 h hx hi hno
    have xi : x3.toNatClampNeg = i := cn_of hx
    have kb := kwl_b (j := i) (by omega)
    have nx : ∀ {m' : Nat} {z : Int32}, z = x3 + 1 → E_mp_keyword tf ta p0 p1 v m' 2 [z] [] [] [] [] () → ¬ kwW i = wdL b p e → (v.toInt = -1 ∧ ∀ j : Nat, j < 15 → ¬ kwW j = wdL b p e) ∨ ∃ j : Nat, j < 15 ∧ v.toInt = (j : Int) ∧ kwW j = wdL b p e ∧ ∀ i : Nat, i < j → ¬ kwW i = wdL b p e := by
      intro m' z hz hE hn
      have z1 := ti_add hz hx (show (1 : Int32).toInt = 1 from rfl) (by omega) (by omega)
      exact ih m' (i + 1) z hE (by omega) (by omega) (fun j hj => by
        by_cases w : j = i
        · rw [w]; exact hn
        · exact hno j (by omega))
    have ke : kwW i = wdL b p e ↔ klen i = e - p ∧ ∀ q : Nat, q < klen i → b (p + q) = (kby i q).toInt := by
      unfold kwW wdL
      rw [rg_eq]
      exact ⟨fun q => ⟨q.1, fun j hj => (q.2 j hj).symm⟩, fun q => ⟨q.1, fun j hj => (q.2 j hj).symm⟩⟩
    rcases iv_mp_keyword_2 h with ⟨m', (⟨h1, ev⟩ | ⟨h1, v7, h2, (⟨h3, z12, h4, hQ⟩ | ⟨h3, v17, h4, (⟨h5, z23, h6, hQ⟩ | ⟨h5, ev⟩)⟩)⟩)⟩
    · exfalso; omega
    · rw [xi] at h2
      have s1 := slen_r (by omega) h2
      exact nx h4 hQ (fun w => by have := (ke.mp w).1; omega)
    · rw [xi] at h2 h4
      have s1 := slen_r (by omega) h2
      have s2 := stS_r hT hp hpn (by omega) kb.2 h4
      exact nx h6 hQ (fun w => by have := s2.2.mpr (ke.mp w).2; omega)
    · rw [xi] at h2 h4
      have s1 := slen_r (by omega) h2
      have s2 := stS_r hT hp hpn (by omega) kb.2 h4
      exact Or.inr ⟨i, by omega, by rw [ev]; exact hx, ke.mpr ⟨by omega, s2.2.mp (by omega)⟩, hno⟩
theorem kw_r (hT : RTx tf ta b n) (hp : p0.toInt = (p : Int)) (hpn : p ≤ 100000) {e : Nat} (hp1 : p1.toInt = ((e - p : Nat) : Int)) (h : R_mp_keyword tf ta p0 p1 v) : (v.toInt = -1 ∧ kwK KWL (wdL b p e) = 16) ∨ (∃ j : Nat, j < 15 ∧ v.toInt = (j : Int) ∧ kwK KWL (wdL b p e) = (j : Int) + 1) := by
  obtain ⟨m, h⟩ := h
  obtain ⟨m', h⟩ := iv_mp_keyword_0 h
  rcases kw_2 hT hp hpn hp1 15 m' 0 (0 : Int32) h rfl rfl (fun j hj => absurd hj (Nat.not_lt_zero _)) with ⟨g1, g2⟩ | ⟨j, g1, g2, g3, g4⟩
  · refine Or.inl ⟨g1, ?_⟩
    unfold kwK
    have e := fIx_no (w := wdL b p e) (NL := KWL) (fun j x hj hx => by
      have hj' := (List.getElem?_eq_some_iff.mp hj).1
      rw [kwl_len] at hj'
      rw [kwl_at hj'] at hj
      injection hj with hj
      exact g2 j hj' (hj.trans hx))
    rw [e, if_neg (Nat.lt_irrefl _)]
  · refine Or.inr ⟨j, g1, g2, ?_⟩
    unfold kwK
    have e := fIx_at (w := wdL b p e) (NL := KWL) (i := j) (by rw [kwl_at g1, g3]) (fun i x hi hx hw => by
      rw [kwl_at (by omega)] at hx
      injection hx with hx
      exact g4 i hi (hx.trans hw))
    rw [e, kwl_len, if_pos g1]
    omega
end TB1
