/-! THE REFERENCE: a text is accepted just where it has a meaning -/
section TM
variable {tf pf sb bb : Nat → Int32} {ta na ca ma wa : Nat → Nat → Int32} {cf ef xf : Nat → Int32} {ea xa : Nat → Nat → Int32} {tf' pf' cf' ef' xf' : Nat → Int32} {ta' na' ma' wa' ca' ea' xa' : Nat → Nat → Int32} {b : Nat → Int} {n c : Nat} {vl : Nat → Int32} {ql : Nat → Int} {k : Nat → Int} {n38 v p1 : Int32} {LF : List FnE}
theorem fno_le {a : Ast} : (fnO vl a).length ≤ 1 := by
  unfold fnO
  repeat' split
  all_goals first | exact Nat.le_refl _ | exact Nat.zero_le _
theorem its_le : ∀ (n t : Nat) (r : Ast × Nat), pItems k n t = some r → (fnsO vl r.1).length ≤ n := by
  intro n
  induction n with
  | zero => intro t r h; exact absurd h (by simp [pItems])
  | succ n ih =>
    intro t r h
    by_cases q : k t = 0
    · rw [pIs_e q] at h
      injection h with h
      rw [← h]
      exact Nat.zero_le _
    · rw [pIs_s q] at h
      rcases opt_c (pItem k t 0) with y | ⟨s, y⟩
      · rw [y] at h; exact absurd h (by simp [gThen])
      · rw [y] at h
        have h' : gMap (fun r => Term.add s.1 r) (pItems k n s.2) = some r := h
        rcases opt_c (pItems k n s.2) with w | ⟨s2, w⟩
        · rw [w] at h'; exact absurd h' (by simp [gMap])
        · rw [w] at h'
          have h2 : some (Term.add s.1 s2.1, s2.2) = some r := h'
          injection h2 with h2
          rw [← h2]
          show (fnsO vl (.add s.1 s2.1)).length ≤ n + 1
          rw [fns_a, List.length_append]
          have := ih s.2 s2 w
          have := fno_le (vl := vl) (a := s.1)
          omega
theorem fnd_mg {i : Nat} {e : FnE} (hM : MgO na (ma 22) (ma' 22)) (h : FnD k vl c na ma i e) : FnD k vl c na ma' i e := by
  obtain ⟨a1, t, ty, m, ps, a2, a3, a4, a5, a6⟩ := h
  refine ⟨a1, t, ty, m, ps, a2, a3, ?_, ?_, a6⟩
  · rw [hM i (by omega)]; exact a4
  · refine row_kp2 ps _ _ _ a5 (fun j _ _ => rfl) (fun s l h _ _ _ q => ?_)
    obtain ⟨b1, b2, ty', t', b3, b4, b5⟩ := q
    exact ⟨b1, b2, ty', t', b3, ⟨by rw [hM l (by omega)]; exact b4.1, b4.2⟩, b5⟩
theorem FnLr.mg (hM : MgO na (ma 22) (ma' 22)) (h : FnLr k vl c na ma ca n38 LF) : FnLr k vl c na ma' ca n38 LF := ⟨h.1, h.2.1, fun j e he => by
  obtain ⟨i, i1, i2⟩ := h.2.2 j e he
  exact ⟨i, i1, fnd_mg hM i2⟩⟩
/-- what the words of a text are to its names' numbers -/
def NmV (b : Nat → Int) (n c : Nat) (vl : Nat → Int32) : Prop := (∀ s t : Nat, s < c → t < c → lxK KWL b n (posN b n s) = 16 → lxK KWL b n (posN b n t) = 16 → (vl s = vl t ↔ wdI b n s = wdI b n t)) ∧ OwN b n c vl ∧ ∀ t : Nat, t < c → lxK KWL b n (posN b n t) = 16 → (vl t = 25 ↔ wdI b n t = mnW)
/-- what the figures and strings of a text are -/
def NuV (b : Nat → Int) (n c : Nat) (vl : Nat → Int32) (ql : Nat → Int) : Prop := (∀ t : Nat, t < c → lxK KWL b n (posN b n t) = 17 → (isD (b (posN b n t)) = true ∧ vl t = nVl (nSm b n (posN b n t))) ∨ (b (posN b n t) = 39 ∧ (vl t).toInt = qV b (posN b n t + 1) 39)) ∧ ∀ t : Nat, t < c → lxK KWL b n (posN b n t) = 18 → ql t = ((sC b n (posN b n t + 1)).1 : Int)
theorem lx_vln (h : LxR b n tf ta c) (hV : NuV b n c vl ql) : VlN ta (fun i => lxK KWL b n (posN b n i)) vl c := by
  intro t ht h17
  have h17' : lxK KWL b n (posN b n t) = 17 := h17
  obtain ⟨-, -, h1 | h1 | ⟨-, -, -, -, h1 | h1 | h1 | h1 | h1⟩⟩ := h.2.2.2.1 t ht
  · exfalso; omega
  · exfalso; omega
  · exfalso; omega
  · exfalso; obtain ⟨-, -, a1, a2⟩ := h1; omega
  · obtain ⟨-, -, g⟩ := h1
    rcases hV.1 t ht h17' with ⟨w1, w2⟩ | ⟨w1, w2⟩
    · rcases g with ⟨g1, g2⟩ | ⟨g1, g2⟩
      · rw [g2, w2]
      · rw [g1] at w1; exact absurd w1 (by decide)
    · rcases g with ⟨g1, g2⟩ | ⟨g1, g2⟩
      · rw [w1] at g1; exact absurd g1 (by decide)
      · exact Int32.toInt_inj.mp (by rw [g2, w2])
  · exfalso; omega
  · obtain ⟨-, k', k1, -, k2, -⟩ := h1
    have := mkC_b k' k1
    exfalso; omega
theorem lx_ql (hT : RTx tf ta b n) (h : LxR b n tf ta c) (hV : NuV b n c vl ql) : ∀ u : Nat, u < c → lxK KWL b n (posN b n u) = 18 → (ta 10 u).toInt = ql u ∧ 0 ≤ ql u ∧ ql u ≤ 100000 := by
  intro t ht h18
  have e := hV.2 t ht h18
  obtain ⟨-, hp, h1 | h1 | ⟨-, -, -, -, h1 | h1 | h1 | h1 | h1⟩⟩ := h.2.2.2.1 t ht
  · exfalso; omega
  · exfalso; omega
  · exfalso; omega
  · exfalso; obtain ⟨-, -, a1, a2⟩ := h1; omega
  · exfalso; omega
  · obtain ⟨-, -, h34, g⟩ := h1
    have hpn : posN b n t < n := by
      by_cases w : posN b n t < n
      · exact w
      · have := hT.2.2.1 (posN b n t) (by omega); exfalso; omega
    have bd := sC_b hT.2.2.1 n (posN b n t + 1) (by omega)
    have := hT.2.1
    refine ⟨by rw [g, e], by omega, by omega⟩
  · obtain ⟨-, k', k1, -, k2, -⟩ := h1
    have := mkC_b k' k1
    exfalso; omega
/-- how many tokens -/
def LxC0 (b : Nat → Int) (n c : Nat) : Prop := 1 ≤ c ∧ (∀ i : Nat, i + 1 < c → ¬ lxK KWL b n (posN b n i) = 0 ∧ ¬ lxK KWL b n (posN b n i) = 19) ∧ (lxK KWL b n (posN b n (c - 1)) = 0 ∨ lxK KWL b n (posN b n (c - 1)) = 19)
theorem lxc0 (h : LxR b n tf ta c) : LxC0 b n c := ⟨h.2.1, h.2.2.2.2.1, h.2.2.2.2.2⟩
theorem lxc_u {d : Nat} (h : LxC0 b n c) (h' : LxC0 b n d) : c = d := by
  obtain ⟨a1, a2, a3⟩ := h
  obtain ⟨b1, b2, b3⟩ := h'
  by_cases q : c < d
  · have := b2 (c - 1) (by omega); exfalso; omega
  · by_cases q2 : d < c
    · have := a2 (d - 1) (by omega); exfalso; omega
    · omega
/-- kinds that are the same in the text -/
theorem smn_k {k' : Nat → Int} (hk : ∀ i : Nat, i < c → k' i = k i) (h : SmN ta k vl c) : SmN ta k' vl c := fun s t p q v h1 h2 h3 h4 h5 h6 h7 => h s t p q v h1 h2 (by rw [← hk s h1]; exact h3) (by rw [← hk t h2]; exact h4) h5 h6 h7
theorem funr_k {k' : Nat → Int} {M : Nat → Int32} {F : Int32 → Option Fnc} (hk : ∀ i : Nat, i < c → k' i = k i) (h : FunR tf ta na ca k vl c n38 M F) : FunR tf ta na ca k' vl c n38 M F := fun t z own h1 h2 h3 h4 => h t z own h1 (by rw [← hk t h1]; exact h2) h3 h4
theorem fung_k {k' : Nat → Int} {F : Int32 → Option Fnc} (hk : ∀ i : Nat, i < c → k' i = k i) (h : FunG ta na ca k vl c n38 F) : FunG ta na ca k' vl c n38 F := fun t z fn cf h1 h2 h3 h4 h5 h6 => h t z fn cf h1 (by rw [← hk t h1]; exact h2) h3 h4 h5 h6
theorem prl_k {k' : Nat → Int} (hk : ∀ i : Nat, i < c → k' i = k i) (h : PrL ta k c) : PrL ta k' c := fun t h1 h2 => by
  rw [hk t h1] at h2 ⊢
  exact h t h1 h2
theorem vln_k {k' : Nat → Int} (hk : ∀ i : Nat, i < c → k' i = k i) (h : VlN ta k vl c) : VlN ta k' vl c := fun t h1 h2 => h t h1 (by rw [← hk t h1]; exact h2)
theorem dpr_k {k' : Nat → Int} {LX : List FnE} {nF : Nat} (hk : ∀ i : Nat, i < c → k' i = k i) (h : DpR tf ta na ca vl c k n38 LX nF) : DpR tf ta na ca vl c k' n38 LX nF := fun f i t ca1 z own h1 h2 h3 h4 h5 h6 h7 h8 h9 => h f i t ca1 z own h1 h2 h3 h4 h5 (by rw [← hk t h5]; exact h6) h7 h8 h9
theorem fnd_k {k' : Nat → Int} {i : Nat} {e : FnE} (hk : ∀ i : Nat, i < c → k' i = k i) (h : FnD k vl c na ma i e) : FnD k' vl c na ma i e := by
  obtain ⟨a1, t, ty, m, ps, a2, a3, a4, a5, a6⟩ := h
  refine ⟨a1, t, ty, m, ps, ⟨a2.1, a2.2.1, by rw [hk t a2.2.1]; exact a2.2.2⟩, a3, a4, ?_, a6⟩
  refine row_kp2 ps _ _ _ a5 (fun j _ _ => rfl) (fun s l h _ _ _ q => ?_)
  obtain ⟨b1, b2, ty', t', b3, b4, b5⟩ := q
  exact ⟨b1, b2, ty', t', ⟨b3.1, b3.2.1, by rw [hk t' b3.2.1]; exact b3.2.2⟩, b4, b5⟩
/-- a text, read -/
theorem acc_r (hT : RTx tf ta b n) (hN : ∀ c : Nat, LxR b n tf' ta' c → (∀ i : Nat, i < c → k i = lxK KWL b n (posN b n i)) ∧ NmV b n c vl ∧ NuV b n c vl ql) (hsb : ∀ j : Nat, j < 4 → mnW[j]? = some (sb j).toInt) (htk : R_mp_readTokens tf ta tf' ta') (h11 : (pf 11).toInt = 0) (h12 : (pf 12).toInt = 0) (h13 : (pf 13).toInt = 0) (h26 : (pf 26).toInt = 0) (h24 : (pf 24).toInt = -1) (h25 : (pf 25).toInt = -1) (hcf : (cf 30).toInt = 0) :
    (R_mp_whole ta' pf na ma wa pf' na' ma' wa' 1 → ¬ accT GV k vl ql) ∧ ∀ (ma2 : Nat → Nat → Int32) (D : Nat), R_mp_whole ta' pf na ma wa pf' na' ma' wa' 0 → R_mp_checkText sb D tf' ta' pf' na' ma' cf ca ma2 cf' ca' → (Uc cf' ↔ accT GV k vl ql) := by
  obtain ⟨hT', -, -, c, hx⟩ := rts_r hT htk
  obtain ⟨hK, ⟨hW, hO, hMn⟩, hV⟩ := hN c hx
  have hK1 : ∀ i : Nat, i < c → k i = (fun i => lxK KWL b n (posN b n i)) i := hK
  have hK2 : ∀ i : Nat, i < c → (fun i => lxK KWL b n (posN b n i)) i = k i := fun i hi => (hK i hi).symm
  have hRT := lx_rtk hx
  have hk : ∀ i : Nat, i < c → rkd ta' i = k i := fun i hi => (lx_rkd hx hi).trans (hK i hi).symm
  have hPl := lx_rpl hT' hx
  have hs := lx_smn hT' hx hW
  have hc : RCur pf c 0 0 := ⟨h11, h12, by have := hx.2.1; omega, by have := hx.2.2.1; have := hT.2.1; omega, Int.le_refl _, by omega⟩
  have hWt : RW pf 0 := ⟨by omega, by omega⟩
  constructor
  · intro h ⟨tree, t2, s, g1, _⟩
    have w := who_okr hRT hk hPl hc hWt h13 h24 h25 h
    rw [g1] at w
    exact absurd w.1 (by decide)
  · intro ma2 D h hck
    have w := who_okr hRT hk hPl hc hWt h13 h24 h25 h
    rcases opt_c (pItems k 2050 0) with y | ⟨r, y⟩
    · rw [y] at w
      have w' : (0 : Int32) = 1 := w
      exact absurd w' (by decide)
    · rw [y] at w
      obtain ⟨-, N, hNb, hR⟩ := w
      have len := its_le (vl := vl) 2050 0 r y
      have Q := ckt_r (vl := vl) (ql := ql) (LX := GV ++ fnsO vl r.1) (tree := r.1) (N := N) (k := k) (c := c) (fun ca0 n38 hF h38 => by
        have hL : FnLr (fun i => lxK KWL b n (posN b n i)) vl c na' ma' ca0 n38 (fnsO vl r.1) := ⟨h38, by omega, fun j e he => by
          obtain ⟨i, i1, i2⟩ := fn_at (vl := vl) r.1 _ _ _ 0 hR hF j e he
          rw [Nat.zero_add] at i1
          exact ⟨i, i1, fnd_k hK2 i2⟩⟩
        refine ⟨⟨hRT, hk, smn_k hK1 hs, funr_k hK1 (funR_t hT' hx hs hO hL), fung_k hK1 (funG_t hs hL), prl_k hK1 (lx_prl hT' hx), vln_k hK1 (lx_vln hx hV), fun u hu h18 => lx_ql hT' hx hV u hu (by rw [← hK u hu]; exact h18)⟩, dpr_k hK1 (dpR_t hT' hx hs hO hL), fun ma1 ca1 cf1 v e39 hM e38 hh nd => ?_⟩
        exact hm_r hT' hx hsb hMn ((hL.mg hM).cav e39) e38 hh nd) hR (by omega) hcf hck
      rw [Q]
      constructor
      · intro ⟨z, z1, z2⟩
        exact ⟨r.1, r.2, z, y, z1, z2⟩
      · intro ⟨tree, t2, s, g1, g2, g3⟩
        have g1' : some r = some (tree, t2) := y.symm.trans g1
        injection g1' with g1'
        have e1 : r.1 = tree := by rw [g1']
        rw [e1]
        exact ⟨s, g2, g3⟩
end TM
