/-! THE REFERENCE's tokens: what the parser and the checker want of them -/
section TH
variable {tf : Nat → Int32} {ta : Nat → Nat → Int32} {b : Nat → Int} {n c i : Nat} {vl : Nat → Int32} {p0 p1 v : Int32}
theorem lx_rkd (h : LxR b n tf ta c) (hi : i < c) : rkd ta i = lxK KWL b n (posN b n i) := by
  obtain ⟨-, -, -, A, -⟩ := h
  obtain ⟨-, -, A⟩ := A i hi
  rcases A with ⟨k, s, -⟩ | ⟨k, s, -⟩ | ⟨-, -, -, -, ⟨s, -, k⟩ | ⟨s, -, -, k⟩ | ⟨s, k, -⟩ | ⟨s, k, -⟩ | ⟨s, q, q1, q2, k, -⟩⟩
  · rw [k]; simp [rkd, s]
  · rw [k]; simp [rkd, s]
  · rw [k]; simp [rkd, s]
  · rw [k]; simp [rkd, s]
  · rw [k]; simp [rkd, s]
  · rw [k]; simp [rkd, s]
  · rw [k]
    have e : (ta 10 i).toNatClampNeg = q := cn_of q2
    simp [rkd, s, e]
theorem lx_rtk (h : LxR b n tf ta c) : RTk ta c := by
  intro i hi
  obtain ⟨-, c1, -, A, B, C⟩ := h
  obtain ⟨-, -, A⟩ := A i hi
  have las : i + 1 = c → lxK KWL b n (posN b n i) = 0 ∨ lxK KWL b n (posN b n i) = 19 := fun q => by
    have e : c - 1 = i := by omega
    rw [e] at C
    exact C
  have nl : (lxK KWL b n (posN b n i) = 0 ∨ lxK KWL b n (posN b n i) = 19) → i + 1 = c := fun q => by
    by_cases w : i + 1 < c
    · have := B i w
      exfalso; omega
    · omega
  rcases A with ⟨k, s, -⟩ | ⟨k, s, -⟩ | ⟨k1, k2, -, -, A⟩
  · exact ⟨by omega, fun q => by exfalso; omega, fun q => by exfalso; omega, fun _ => by omega, fun _ => nl (Or.inr k)⟩
  · exact ⟨by omega, fun q => by exfalso; omega, fun q => by exfalso; omega, fun _ => by omega, fun _ => nl (Or.inl k)⟩
  · have no : ¬ i + 1 = c := fun q => by
      rcases las q with w | w
      · exact k2 w
      · exact k1 w
    rcases A with ⟨s, -⟩ | ⟨s, -, w, -⟩ | ⟨s, -⟩ | ⟨s, -⟩ | ⟨s, q, q1, q2, -⟩
    · exact ⟨by omega, fun q => by exfalso; omega, fun q => by exfalso; omega, fun q => absurd q no, fun q => by exfalso; omega⟩
    · exact ⟨by omega, fun q => by exfalso; omega, fun _ => w, fun q => absurd q no, fun q => by exfalso; omega⟩
    · exact ⟨by omega, fun q => by exfalso; omega, fun q => by exfalso; omega, fun q => absurd q no, fun q => by exfalso; omega⟩
    · exact ⟨by omega, fun q => by exfalso; omega, fun q => by exfalso; omega, fun q => absurd q no, fun q => by exfalso; omega⟩
    · exact ⟨by omega, fun _ => by omega, fun q => by exfalso; omega, fun q => absurd q no, fun q => by exfalso; omega⟩
theorem mk_43 {k : Nat} (h : k < 43) : (mlen k = 1 ∧ (mby k 0).toInt = 43 ↔ mkC k = 43) ∧ 1 ≤ mlen k := by
  have all : ∀ k : Nat, k < 43 → (mlen k = 1 ∧ (mby k 0).toInt = 43 ↔ mkC k = 43) ∧ 1 ≤ mlen k := by decide
  exact all k h
theorem mk_pre {k : Nat} (h : k < 43) : (mkC k = 45 ∨ mkC k = 43 ∨ mkC k = 33 ∨ mkC k = 126 ∨ mkC k = 138 ∨ mkC k = 139) → (mlen k = 2 ↔ (mkC k = 138 ∨ mkC k = 139)) ∧ (¬ (mkC k = 138 ∨ mkC k = 139) → (mby k 0).toInt = mkC k) := by
  have all : ∀ k : Nat, k < 43 → (mkC k = 45 ∨ mkC k = 43 ∨ mkC k = 33 ∨ mkC k = 126 ∨ mkC k = 138 ∨ mkC k = 139) → (mlen k = 2 ↔ (mkC k = 138 ∨ mkC k = 139)) ∧ (¬ (mkC k = 138 ∨ mkC k = 139) → (mby k 0).toInt = mkC k) := by decide
  exact all k h
theorem isL_b {x : Int} (h : isL x = true) : 65 ≤ x ∧ x ≤ 122 := by
  have := of_decide_eq_true h
  omega
theorem isD_b {x : Int} (h : isD x = true) : 48 ≤ x ∧ x ≤ 57 := of_decide_eq_true h
theorem lx_rpl (hT : RTx tf ta b n) (h : LxR b n tf ta c) : RPl ta c := by
  intro i hi
  rw [lx_rkd h hi]
  obtain ⟨-, c1, -, A, B, C⟩ := h
  obtain ⟨a7, an, A⟩ := A i hi
  rw [cn_of a7]
  have by4 : posN b n i < n → BtR (ta 4 (posN b n i)).toInt (b (posN b n i)) := fun q => (hT.2.2.2 _ q).2
  unfold BtR at by4
  rcases A with ⟨k, s, z⟩ | ⟨k, s, z⟩ | ⟨k1, k2, l, z, A⟩
  · rw [k]; exact ⟨fun q => by exfalso; omega, fun q => by exfalso; omega⟩
  · rw [k]; exact ⟨fun q => by exfalso; omega, fun q => by exfalso; omega⟩
  · have b4 := by4 (by omega)
    rcases A with ⟨s, w, k⟩ | ⟨s, w, w2, k⟩ | ⟨s, k, w⟩ | ⟨s, k, w, -⟩ | ⟨s, q, q1, q2, k, q4, q5⟩
    · have := isL_b w
      rw [k]; exact ⟨fun q => by exfalso; omega, fun q => by exfalso; omega⟩
    · have := isL_b w
      rw [k]; exact ⟨fun q => by exfalso; omega, fun q => by exfalso; omega⟩
    · have bb : b (posN b n i) ≤ 57 ∧ 39 ≤ b (posN b n i) ∧ ¬ b (posN b n i) = 43 := by
        rcases w with ⟨w, -⟩ | ⟨w, -⟩
        · have := isD_b w; omega
        · omega
      rw [k]; exact ⟨fun q => by exfalso; omega, fun q => by exfalso; omega⟩
    · rw [k]; exact ⟨fun q => by exfalso; omega, fun q => by exfalso; omega⟩
    · have m := mk_43 q1
      have f0 : b (posN b n i) = (mby q 0).toInt := q5 0 (by omega)
      have mb := (mbl q1).2 0 (by omega)
      rw [k, ← m.1]
      constructor
      · intro w; exact ⟨by omega, by omega⟩
      · intro w; exact ⟨by omega, by omega⟩
theorem lx_prl (hT : RTx tf ta b n) (h : LxR b n tf ta c) : PrL ta (fun i => lxK KWL b n (posN b n i)) c := by
  intro i hi hp
  have hp' : lxK KWL b n (posN b n i) = 45 ∨ lxK KWL b n (posN b n i) = 43 ∨ lxK KWL b n (posN b n i) = 33 ∨ lxK KWL b n (posN b n i) = 126 ∨ lxK KWL b n (posN b n i) = 138 ∨ lxK KWL b n (posN b n i) = 139 := hp
  show ((ta 8 i).toInt = 2 ↔ (lxK KWL b n (posN b n i) = 138 ∨ lxK KWL b n (posN b n i) = 139)) ∧ (¬ (lxK KWL b n (posN b n i) = 138 ∨ lxK KWL b n (posN b n i) = 139) → (ta 4 (ta 7 i).toNatClampNeg).toInt = lxK KWL b n (posN b n i))
  obtain ⟨-, c1, -, A, B, C⟩ := h
  obtain ⟨a7, an, A⟩ := A i hi
  rw [cn_of a7]
  rcases A with ⟨k, s, z⟩ | ⟨k, s, z⟩ | ⟨k1, k2, l, z, A⟩
  · exfalso; omega
  · exfalso; omega
  · have b4 := (hT.2.2.2 (posN b n i) (by omega)).2
    unfold BtR at b4
    rcases A with ⟨s, w, k⟩ | ⟨s, w, w2, k⟩ | ⟨s, k, w⟩ | ⟨s, k, w, -⟩ | ⟨s, q, q1, q2, k, q4, q5⟩
    · exfalso; omega
    · exfalso; omega
    · exfalso; omega
    · exfalso; omega
    · rw [k] at hp' ⊢
      have m := mk_pre q1 hp'
      have m2 := (mk_43 q1).2
      have f0 : b (posN b n i) = (mby q 0).toInt := q5 0 (by omega)
      have mb := (mbl q1).2 0 (by omega)
      refine ⟨?_, fun w => ?_⟩
      · rw [← m.1]
        constructor
        · intro w; omega
        · intro w; omega
      · have := m.2 w
        omega
/-! names are the same -/
theorem nmE_ch : ∀ (d j q : Nat), j ≤ q → q < nmE b d j → isL (b q) = true ∨ isD (b q) = true := by
  intro d
  induction d with
  | zero => intro j q h1 h2; exfalso; have h2' : q < j := h2; omega
  | succ d ih =>
    intro j q h1 h2
    have e : nmE b (d + 1) j = if isL (b j) = true ∨ isD (b j) = true then nmE b d (j + 1) else j := rfl
    rw [e] at h2
    by_cases w : isL (b j) = true ∨ isD (b j) = true
    · rw [if_pos w] at h2
      by_cases y : q = j
      · rw [y]; exact w
      · exact ih (j + 1) q (by omega) h2
    · rw [if_neg w] at h2
      exfalso; omega
theorem same_24 {s l ps pt : Nat} (hp : p0.toInt = (s : Int)) (hl : (ta 8 s).toInt = (l : Int)) {t : Nat} (hq : p1.toInt = (t : Int)) (k7 : (ta 7 s).toInt = (ps : Int)) (k7' : (ta 7 t).toInt = (pt : Int)) (hb : ps + l ≤ 3000) (hb' : pt + l ≤ 3000) : ∀ (d m j : Nat) (x3 x4 : Int32), E_mp_sameName ta p0 p1 v m 24 [x3, x4] [] [] [] [] () → x4.toInt = (j : Int) → j + d = l → (x3.toInt = 0 → v.toInt = 0) ∧ (x3.toInt = 1 → (v.toInt = 0 ∨ v.toInt = 1) ∧ (v.toInt = 1 ↔ ∀ q : Nat, j ≤ q → q < l → (ta 4 (ps + q)).toInt = (ta 4 (pt + q)).toInt)) := by
  intro d
  induction d with
  | zero =>
    intro m j x3 x4 h hx hj
    rcases iv_mp_sameName_24 h with ⟨m', z1, h1, (⟨h2, ev⟩ | ⟨h2, (⟨h3, ev⟩ | ⟨h3, z6, h4, z7, h5, z8, h6, z9, h7, z10, h8, z11, h9, (⟨h10, z14, h11, hQ⟩ | ⟨h10, z15, h11, hQ⟩)⟩)⟩)⟩
    all_goals rw [cn_of hp] at h1
    all_goals rw [h1] at h2
    · rw [ev]
      exact ⟨id, fun w => ⟨Or.inr w, fun _ q q1 q2 => by exfalso; omega, fun _ => w⟩⟩
    all_goals (exfalso; omega)
  | succ d ih =>
    intro m j x3 x4 h hx hj
    rcases iv_mp_sameName_24 h with ⟨m', z1, h1, (⟨h2, ev⟩ | ⟨h2, (⟨h3, ev⟩ | ⟨h3, z6, h4, z7, h5, z8, h6, z9, h7, z10, h8, z11, h9, (⟨h10, z14, h11, hQ⟩ | ⟨h10, z15, h11, hQ⟩)⟩)⟩)⟩
    all_goals rw [cn_of hp] at h1
    all_goals rw [h1] at h2
    · exfalso; omega
    · rw [ev]
      exact ⟨id, fun w => by exfalso; omega⟩
    all_goals
      rw [cn_of hp] at h4
      rw [cn_of hq] at h7
      rw [h4] at h5
      rw [h7] at h8
      have y1 := ti_add h5 k7 hx (by omega) (by omega)
      have y2 := ti_add h8 k7' hx (by omega) (by omega)
      have n1 : z7.toNatClampNeg = ps + j := cn_of (by omega)
      have n2 : z10.toNatClampNeg = pt + j := cn_of (by omega)
      rw [n1] at h6
      rw [n2] at h9
      rw [h6, h9] at h10
      have z1 := ti_add h11 hx (show (1 : Int32).toInt = 1 from rfl) (by omega) (by omega)
    · obtain ⟨g1, -⟩ := ih m' (j + 1) (0 : Int32) z14 hQ (by omega) (by omega)
      have v0 := g1 rfl
      refine ⟨fun _ => v0, fun _ => ⟨Or.inl v0, fun q => by exfalso; omega, fun q => ?_⟩⟩
      exact absurd (q j (Nat.le_refl _) (by omega)) h10
    · obtain ⟨-, g2⟩ := ih m' (j + 1) (1 : Int32) z15 hQ (by omega) (by omega)
      obtain ⟨g3, g4⟩ := g2 rfl
      refine ⟨fun q => absurd q h3, fun _ => ⟨g3, ?_⟩⟩
      rw [g4]
      constructor
      · intro q k q1 q2
        by_cases w : k = j
        · rw [w]; exact h10
        · exact q k (by omega) q2
      · intro q k q1 q2
        exact q k (by omega) q2
/-- a name's word -/
def wdI (b : Nat → Int) (n i : Nat) : List Int := wdL b (posN b n i) (lxE b n (posN b n i))
theorem lx_nm (h : LxR b n tf ta c) (hi : i < c) (k16 : lxK KWL b n (posN b n i) = 16) : (ta 7 i).toInt = (posN b n i : Int) ∧ (ta 8 i).toInt = (lxE b n (posN b n i) : Int) - (posN b n i : Int) ∧ (posN b n i < lxE b n (posN b n i) ∧ lxE b n (posN b n i) ≤ n) ∧ ∀ q : Nat, posN b n i ≤ q → q < lxE b n (posN b n i) → 0 ≤ b q ∧ b q < 128 := by
  obtain ⟨-, c1, -, A, B, C⟩ := h
  obtain ⟨a7, an, A⟩ := A i hi
  rcases A with ⟨k, s, z⟩ | ⟨k, s, z⟩ | ⟨k1, k2, l, z, A⟩
  · exfalso; omega
  · exfalso; omega
  · rcases A with ⟨s, w, k⟩ | ⟨s, w, w2, k⟩ | ⟨s, k, w⟩ | ⟨s, k, w, -⟩ | ⟨s, q, q1, q2, k, q4, q5⟩
    · have eE : lxE b n (posN b n i) = nmE b (n - posN b n i) (posN b n i) := by unfold lxE; rw [if_pos w]
      refine ⟨a7, z, l, fun q q1 q2 => ?_⟩
      rw [eE] at q2
      rcases nmE_ch _ _ q q1 q2 with y | y
      · have := isL_b y; omega
      · have := isD_b y; omega
    · exfalso; omega
    · exfalso; omega
    · exfalso; omega
    · exfalso; have := mkC_n q1; omega
theorem lx_smn (hT : RTx tf ta b n) (h : LxR b n tf ta c) (hW : ∀ s t : Nat, s < c → t < c → lxK KWL b n (posN b n s) = 16 → lxK KWL b n (posN b n t) = 16 → (vl s = vl t ↔ wdI b n s = wdI b n t)) : SmN ta (fun i => lxK KWL b n (posN b n i)) vl c := by
  intro s t p q v hs ht ks kt hp hq hR
  have t2 := hT.2.1
  have ks' : lxK KWL b n (posN b n s) = 16 := ks
  have kt' : lxK KWL b n (posN b n t) = 16 := kt
  obtain ⟨a1, a2, a3, a4⟩ := lx_nm h hs ks'
  obtain ⟨b1, b2, b3, b4⟩ := lx_nm h ht kt'
  rw [hW s t hs ht ks' kt']
  unfold wdI wdL
  rw [rg_eq]
  obtain ⟨m, hR⟩ := hR
  have run := fun {m' : Nat} {x3 : Int32} (hE : E_mp_sameName ta p q v m' 24 [x3, (0 : Int32)] [] [] [] [] ()) (hl : lxE b n (posN b n s) - posN b n s = lxE b n (posN b n t) - posN b n t) => same_24 (s := s) (t := t) (l := lxE b n (posN b n s) - posN b n s) (ps := posN b n s) (pt := posN b n t) hp (by omega) hq a1 b1 (by omega) (by omega) (lxE b n (posN b n s) - posN b n s) m' 0 x3 (0 : Int32) hE rfl (Nat.zero_add _)
  rcases iv_mp_sameName_0 hR with ⟨m', z16, h1, z17, h2, (⟨h3, hQ⟩ | ⟨h3, hQ⟩)⟩
  all_goals
    rw [cn_of hp] at h1
    rw [cn_of hq] at h2
    rw [h1, h2] at h3
  · have v0 : v.toInt = 0 := by
      rcases iv_mp_sameName_24 hQ with ⟨m2, z1, g1, (⟨g2, ev⟩ | ⟨g2, (⟨g3, ev⟩ | ⟨g3, z6, h4, z7, h5, z8, h6, z9, h7, z10, h8, z11, h9, (⟨h10, z14, h11, hQ2⟩ | ⟨h10, z15, h11, hQ2⟩)⟩)⟩)⟩
      · rw [ev]; rfl
      · rw [ev]; rfl
      · exact absurd rfl g3
      · exact absurd rfl g3
    exact ⟨Or.inl v0, fun w => by exfalso; omega, fun w => by exfalso; have := w.1; omega⟩
  · obtain ⟨g1, g2⟩ := (run hQ (by omega)).2 rfl
    refine ⟨g1, g2.trans ⟨fun w => ⟨by omega, fun q hq => ?_⟩, fun w k _ hk => ?_⟩⟩
    · have y := w q (Nat.zero_le _) hq
      have c1 := a4 (posN b n s + q) (by omega) (by omega)
      have c2 := b4 (posN b n t + q) (by omega) (by omega)
      have d1 := (hT.2.2.2 (posN b n s + q) (by omega)).2
      have d2 := (hT.2.2.2 (posN b n t + q) (by omega)).2
      unfold BtR at d1 d2
      omega
    · have y := w.2 k hk
      have c1 := a4 (posN b n s + k) (by omega) (by omega)
      have c2 := b4 (posN b n t + k) (by omega) (by omega)
      have d1 := (hT.2.2.2 (posN b n s + k) (by omega)).2
      have d2 := (hT.2.2.2 (posN b n t + k) (by omega)).2
      unfold BtR at d1 d2
      omega
end TH
