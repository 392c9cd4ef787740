theorem oz_b2ea072c50 {a0 a1 a2 : Int} (h0 : a0 = a1 + 1) (h1 : a1 = a2 + 1) (h2 : 0 ≤ a2) : 0 ≤ a0 := by omega
theorem oz_127e7dbe39 {a0 a1 a3 a4 : Int} {n2 : Nat} (h0 : a0 - a3 < ((n2 + 1 : Nat) : Int)) (h1 : a1 = a4 + 1) (h2 : a4 = a3 + 1) : a0 - a1 < (n2 : Int) := by omega
theorem oz_d8b32f9bc5 {a0 a1 a2 a3 a4 : Int} (h0 : a3 = a1) (h1 : a4 = a2) (h2 : a0 = a3 - a4) : a0 = a1 - a2 := by omega
theorem oz_a313481e97 {a0 a1 a2 a3 a4 : Int} (h0 : a0 = a1 - a2) (h1 : a1 = a3) (h2 : a2 = a4) (h3 : a4 ≤ (a3)) : 0 ≤ a0 := by omega
theorem oz_7b8f0e0e4f {a0 a1 a2 a3 a4 : Int} (h0 : a3 = a1) (h1 : a4 = a2) (h2 : a0 = a3 + a4) : a0 = a1 + a2 := by omega
theorem oz_92f62afadf {a0 a1 a2 a3 a4 : Int} (h0 : a0 = a1 - a2) (h1 : a3 ≤ a1) (h2 : a2 = a4) (h3 : a3 = a4) : 0 ≤ a0 := by omega
theorem oz_7c751caab0 {a0 a1 a2 a3 : Int} (h0 : a1 = a0 + a2) (h1 : a2 = a3) (h2 : 0 ≤ a3) : a0 ≤ a1 := by omega
theorem m10_61n : Cond.fieldLinkNest "HomeSystemModel$Process" 215 "HomeSystemModel$Program" "entry" "[I" "HomeSystemModel" ∈ tables_1 := by unfold tables_1; exact List.mem_append_right _ (List.mem_append_right _ (List.mem_append_right _ (List.mem_append_right _ (List.mem_append_right _ (List.mem_append_right _ (List.mem_append_right _ (List.mem_append_right _ (List.mem_append_right _ (List.mem_append_left _ (List.mem_of_getElem? (i := 61) rfl))))))))))
theorem m10_4n : Cond.fieldLinkNest "HomeSystemModel$Process" 209 "HomeSystemModel$Program" "kidB" "[I" "HomeSystemModel" ∈ tables_1 := by unfold tables_1; exact List.mem_append_right _ (List.mem_append_right _ (List.mem_append_right _ (List.mem_append_right _ (List.mem_append_right _ (List.mem_append_right _ (List.mem_append_right _ (List.mem_append_right _ (List.mem_append_right _ (List.mem_append_left _ (List.mem_of_getElem? (i := 4) rfl))))))))))
theorem m10_8n : Cond.fieldLinkNest "HomeSystemModel$Process" 212 "HomeSystemModel$Program" "nexts" "[I" "HomeSystemModel" ∈ tables_1 := by unfold tables_1; exact List.mem_append_right _ (List.mem_append_right _ (List.mem_append_right _ (List.mem_append_right _ (List.mem_append_right _ (List.mem_append_right _ (List.mem_append_right _ (List.mem_append_right _ (List.mem_append_right _ (List.mem_append_left _ (List.mem_of_getElem? (i := 8) rfl))))))))))
theorem m10_63n : Cond.fieldLinkNest "HomeSystemModel$Process" 200 "HomeSystemModel$Program" "parameters" "[I" "HomeSystemModel" ∈ tables_1 := by unfold tables_1; exact List.mem_append_right _ (List.mem_append_right _ (List.mem_append_right _ (List.mem_append_right _ (List.mem_append_right _ (List.mem_append_right _ (List.mem_append_right _ (List.mem_append_right _ (List.mem_append_right _ (List.mem_append_left _ (List.mem_of_getElem? (i := 63) rfl))))))))))
theorem m10_2n : Cond.fieldLinkNest "HomeSystemModel$Process" 203 "HomeSystemModel$Program" "kidA" "[I" "HomeSystemModel" ∈ tables_1 := by unfold tables_1; exact List.mem_append_right _ (List.mem_append_right _ (List.mem_append_right _ (List.mem_append_right _ (List.mem_append_right _ (List.mem_append_right _ (List.mem_append_right _ (List.mem_append_right _ (List.mem_append_right _ (List.mem_append_left _ (List.mem_of_getElem? (i := 2) rfl))))))))))
theorem m14_165 : Cond.methodLink "HomeSystemModel$Process" 169 ⟨"HomeSystemModel$Process", "takesWork", "()Z"⟩ ∈ AL := AL_14 (List.mem_of_getElem? (i := 165) rfl) rfl
theorem m14_102 : Cond.code ⟨"HomeSystemModel$Process", "takesWork", "()Z"⟩ prog_15_method_19_code 1 (Option.some FieldType.boolean) ∈ AL := AL_14 (List.mem_of_getElem? (i := 102) rfl) rfl
theorem m14_101 : Cond.selects "HomeSystemModel$Process" ⟨"HomeSystemModel$Process", "takesWork", "()Z"⟩ ⟨"HomeSystemModel$Process", "takesWork", "()Z"⟩ ∈ AL := AL_14 (List.mem_of_getElem? (i := 101) rfl) rfl
theorem m14_100 : Cond.instanceMethod ⟨"HomeSystemModel$Process", "takesWork", "()Z"⟩ ∈ AL := AL_14 (List.mem_of_getElem? (i := 100) rfl) rfl
theorem m10_53n : Cond.fieldLinkNest "HomeSystemModel$Process" 197 "HomeSystemModel$Program" "frameCells" "[I" "HomeSystemModel" ∈ tables_1 := by unfold tables_1; exact List.mem_append_right _ (List.mem_append_right _ (List.mem_append_right _ (List.mem_append_right _ (List.mem_append_right _ (List.mem_append_right _ (List.mem_append_right _ (List.mem_append_right _ (List.mem_append_right _ (List.mem_append_left _ (List.mem_of_getElem? (i := 53) rfl))))))))))
/-! A CALL's parameters -/
/-- parameters from p on, their numbers from n on: where each is stored, what is given of an array may be written -/
def PaQ (X : Cx) (ca na ma : Nat → Nat → Int32) (nu : Nat → Int32) (P : Int → Prop) (g N : Int) : Nat → Int → Int32 → Prop
  | 0, n, p => p.toInt < 0 ∧ n ≤ N
  | k + 1, n, p => (0 ≤ p.toInt ∧ p.toInt < 2100) ∧ (X.ys g ≤ (ma 18 p.toNatClampNeg).toInt ∧ (ma 18 p.toNatClampNeg).toInt < X.ye g) ∧ n + 1 ≤ N ∧ (((ca 49 (ma 18 p.toNatClampNeg).toNatClampNeg).toInt ≤ 1 ∧ PaQ X ca na ma nu P g N k (n + 1) (na 21 p.toNatClampNeg)) ∨ (4 ≤ (ca 49 (ma 18 p.toNatClampNeg).toNatClampNeg).toInt ∧ n + 2 ≤ N ∧ HdV P (nu n.toNat).toInt (nu (n + 1).toNat).toInt ∧ PaQ X ca na ma nu P g N k (n + 2) (na 21 p.toNatClampNeg)))
def PaX (X : Cx) (ca na ma : Nat → Nat → Int32) (nu : Nat → Int32) (P : Int → Prop) (g N n : Int) (p : Int32) : Prop := ∃ k, PaQ X ca na ma nu P g N k n p
def ClQ (qa qa' : Nat → Nat → Int32) (m p base top g : Int) : Prop := ((qa' 15 m.toNat).toInt = p + 1 ∧ (qa' 16 m.toNat).toInt = base ∧ (qa' 17 m.toNat).toInt = top ∧ (qa' 18 m.toNat).toInt = g) ∧ (∀ k : Nat, 15 ≤ k → k ≤ 18 → ∀ i : Nat, i < m.toNat → qa' k i = qa k i) ∧ qa' 9 = qa 9 ∧ ∀ i : Nat, (i : Int) < top → qa' 8 i = qa 8 i
def ZeC (ce : Nat → Int32) (a b : Int) : Prop := ∀ i : Nat, a ≤ (i : Int) → (i : Int) < b → ce i = 0
section CQ
variable {X : Cx} {K : KP} {ca na ma ma0 mb ta qa qa' q1 q2 q3 q4 : Nat → Nat → Int32} {c en pa nu : Nat → Int32} {tc nf steps st0 m p found base top st wk f nb n n' N g b lo m1 : Int} {S T : List Nat} {v : Nat} {P : Int → Prop} {p0 z k y : Int32}
theorem PaX.to {z' : Int32} (h : PaX X ca na ma nu P g N n z) (e : n = n') (e2 : z' = z) : PaX X ca na ma nu P g N n' z' := by subst e; subst e2; exact h
theorem PaX.le (h : PaX X ca na ma nu P g N n z) : n ≤ N := by
  obtain ⟨k, h⟩ := h
  cases k with
  | zero => exact h.2
  | succ k => have := h.2.2.1; omega
theorem PaX.go (h : PaX X ca na ma nu P g N n z) (h0 : 0 ≤ z.toInt) : z.toInt < 2100 ∧ (X.ys g ≤ (ma 18 z.toNatClampNeg).toInt ∧ (ma 18 z.toNatClampNeg).toInt < X.ye g) ∧ n + 1 ≤ N ∧ (((ca 49 (ma 18 z.toNatClampNeg).toNatClampNeg).toInt ≤ 1 ∧ PaX X ca na ma nu P g N (n + 1) (na 21 z.toNatClampNeg)) ∨ (4 ≤ (ca 49 (ma 18 z.toNatClampNeg).toNatClampNeg).toInt ∧ n + 2 ≤ N ∧ HdV P (nu n.toNat).toInt (nu (n + 1).toNat).toInt ∧ PaX X ca na ma nu P g N (n + 2) (na 21 z.toNatClampNeg))) := by
  obtain ⟨k, h⟩ := h
  cases k with
  | zero => exact absurd h.1 (by omega)
  | succ k =>
    obtain ⟨h1, h2, h3, h4⟩ := h
    refine ⟨h1.2, h2, h3, ?_⟩
    rcases h4 with ⟨a, q⟩ | ⟨a, b, d, q⟩
    · exact Or.inl ⟨a, k, q⟩
    · exact Or.inr ⟨a, b, d, k, q⟩
theorem aslots_le {L : Nat → Int} {j : Nat} : ∀ {M : Nat}, j ≤ M → ((aslots L j).length : Int) ≤ (aslots L M).length
  | 0, h => by rw [show j = 0 by omega]; exact Int.le_refl _
  | M + 1, h => by
    by_cases e : j = M + 1
    · subst e; exact Int.le_refl _
    · have := aslots_le (L := L) (j := j) (M := M) (by omega)
      have l := aslots_len (L := L) (k := M)
      split at l <;> omega
theorem paq_mk {L : Nat → Int} {M : Nat} {ye ys : Int} (hye : ye = X.ye g) (hys : ys = X.ys g) (hkc : ∀ x : Nat, ma 18 x = mb 18 x) (hk : k.toInt < 0) (hh : ∀ i : Nat, i < M → L i ≠ 105 → HdV P (nu (b + ((aslots L i).length : Int)).toNat).toInt (nu (b + ((aslots L i).length : Int) + 1).toNat).toInt) (l1 : L M = 32) (l2 : ∀ i : Nat, i < M → L i ≠ 32) : ∀ {m : Nat} {z : Int32} {j : Nat}, SgV na (PrP ca ye ys na mb lo m1) m z k → PrW na z → (∀ i : Nat, L (j + i) = tkf na ma0 i z) → j ≤ M → PaQ X ca na ma nu P g (b + ((aslots L M).length : Int)) m (b + ((aslots L j).length : Int)) z
  | 0, z, j, h, _, hl, hj => by
    replace h : z = k := h
    subst h
    have := aslots_le (L := L) hj
    exact ⟨hk, by omega⟩
  | m + 1, z, j, h, hw, hl, hj => by
    obtain ⟨⟨h0, ⟨-, r2, r3⟩⟩, h1⟩ := h
    obtain ⟨w1, w2, w3⟩ := hw.go h0 rfl
    have l0 := hl 0
    rw [Nat.add_zero, tkf_0 h0] at l0
    have hj' : j < M := by
      by_cases e : j = M
      · rw [e, l1] at l0; split at l0
        · omega
        · split at l0 <;> omega
      · omega
    have hl' : ∀ i : Nat, L (j + 1 + i) = tkf na ma0 i (na 21 z.toNatClampNeg) := fun i => by
      rw [show j + 1 + i = j + (i + 1) by omega, hl (i + 1), tkf_s h0 rfl]
    have q := paq_mk hye hys hkc hk hh l1 l2 h1 w3 hl' (by omega)
    have le := aslots_le (L := L) (j := j + 1) (M := M) (by omega)
    have ln := aslots_len (L := L) (k := j)
    have e18 := hkc z.toNatClampNeg
    rcases r3 with ⟨a1, a2⟩ | ⟨a1, a2, a3⟩
    · rw [if_pos a1] at l0
      rw [if_pos l0] at ln
      refine ⟨⟨h0, w1⟩, ⟨?_, ?_⟩, by omega, Or.inl ⟨?_, ?_⟩⟩
      · rw [e18, ← hys]; exact r2
      · rw [e18, ← hye]; exact a2.1.1.2
      · rw [e18]; exact a2.2.2
      · rw [show b + ((aslots L j).length : Int) + 1 = b + ((aslots L (j + 1)).length : Int) by omega]; exact q
    · have ne : L j ≠ 105 := by
        rw [l0, if_neg (by omega)]; split <;> omega
      rw [if_neg ne] at ln
      refine ⟨⟨h0, w1⟩, ⟨?_, ?_⟩, by omega, Or.inr ⟨?_, by omega, hh j hj' ne, ?_⟩⟩
      · rw [e18, ← hys]; exact r2
      · rw [e18, ← hye]; exact a2.1.1.2
      · rw [e18]; exact a3
      · rw [show b + ((aslots L j).length : Int) + 2 = b + ((aslots L (j + 1)).length : Int) by omega]; exact q
/-- all that a call wants to know -/
theorem MdI.prm (h : MdI X K ca na ma c en pa qa tc nf steps st0 m p found base top st wk f S v P nb) (hfp : FnP na ca nf) (ho : (0 ≤ p0.toInt ∧ p0.toInt < nf) ∧ ∃ T, ArC X (100 + p0.toInt) S T ∧ (f < 0 ∨ K (p.toNat + 1) f (0 :: T) v)) : ∃ T, (StV (qa 9) P T (found - (pa p0.toNatClampNeg).toInt) nb ∧ (T.length : Int) ≤ X.tall f ∧ (f < 0 ∨ K (p.toNat + 1) f (0 :: T) v)) ∧ (0 ≤ (pa p0.toNatClampNeg).toInt ∧ (pa p0.toNatClampNeg).toInt ≤ found) ∧ PaX X ca na ma (qa 9) P p0.toInt found (found - (pa p0.toNatClampNeg).toInt) (na 17 (ca 39 p0.toNatClampNeg).toNatClampNeg) ∧ (0 ≤ (ca 56 p0.toNatClampNeg).toInt ∧ (ca 56 p0.toNatClampNeg).toInt + 16 ≤ 4 * (ca 40 p0.toNatClampNeg).toInt ∧ 4 ≤ (ca 40 p0.toNatClampNeg).toInt ∧ top + 4 * st ≤ 34816) := by
  have nm := h.num
  obtain ⟨⟨ta, ma0, mb, d, ns, hy, h2, ht, hk, he, hp, hn⟩, fr, sv, lc, q⟩ := h
  obtain ⟨hg, T, ⟨M, hS, l1, l2⟩, hr⟩ := ho
  have cg := cl_nat hg.1
  have rg := fr.rng hy h2.1 hn.1
  have y := hy p0.toNatClampNeg (by omega)
  have yf := y.fr
  obtain ⟨M', e1, k1, k2⟩ := hp.1 p0.toNatClampNeg (by omega)
  rw [cg] at e1 k1 k2
  have eM : M' = M := by
    by_cases a : M' < M
    · exact absurd k1 (l2 M' a)
    · by_cases b : M < M'
      · exact absurd l1 (k2 M b)
      · omega
  subst eM
  subst hS
  obtain ⟨s1, s2⟩ := sv.args
  have ls := s1.len
  refine ⟨T, ⟨by rw [e1]; exact s1, ?_, hr⟩, by omega, ?_, ?_⟩
  · have := lc.1
    rw [List.length_append] at this
    omega
  · obtain ⟨V, vl, vh, lo, m1, tall, -, -, -, q4, q5, q6, q7, k, hk0, mm, hsg⟩ := y
    have ee : ∀ i : Nat, X.L (100 + p0.toInt) (0 + i) = tkf na ma0 i (na 17 (ca 39 p0.toNatClampNeg).toNatClampNeg) := fun i => by
      rw [hp.2.1, Nat.zero_add]
      unfold tkl
      rw [if_neg (by omega), show (100 + p0.toInt - 100).toNat = p0.toNatClampNeg by omega]
    have r := paq_mk (X := X) (g := p0.toInt) (ma := ma) (mb := mb) (nu := qa 9) (P := P) (b := found - (pa p0.toNatClampNeg).toInt) (by rw [cg]) (by rw [cg]) (fun x => hp.2.2 18 x (Or.inl (by decide))) hk0 (by rw [e1]; exact s2) k1 k2 (j := 0) hsg (hfp _ (by omega)) ee (by omega)
    have z : ((aslots (X.L (100 + p0.toInt)) 0).length : Int) = 0 := rfl
    rw [z] at r
    rw [show found - (pa p0.toNatClampNeg).toInt + 0 = found - (pa p0.toNatClampNeg).toInt by omega, show found - (pa p0.toNatClampNeg).toInt + ((aslots (X.L (100 + p0.toInt)) M').length : Int) = found by omega] at r
    exact ⟨mm, r⟩
  · obtain ⟨V, vl, vh, lo, m1, tall, -, -, -, q4, q5, q6, q7, -⟩ := y
    omega
/-- a symbol of the callee -/
theorem MdI.py (h : MdI X K ca na ma c en pa qa tc nf steps st0 m p found base top st wk f S v P nb) (hg : 0 ≤ p0.toInt ∧ p0.toInt < nf) (h1 : X.ys p0.toInt ≤ y.toInt) (h2 : y.toInt < X.ye p0.toInt) : (0 ≤ y.toInt ∧ y.toInt < 1100) ∧ (∀ b, clo ca b y = b + (ca 51 y.toNatClampNeg).toInt) ∧ 0 ≤ (ca 51 y.toNatClampNeg).toInt ∧ (4 ≤ (ca 49 y.toNatClampNeg).toInt → (ca 51 y.toNatClampNeg).toInt + 2 ≤ (ca 56 p0.toNatClampNeg).toInt) ∧ ((ca 49 y.toNatClampNeg).toInt ≤ 1 → (ca 51 y.toNatClampNeg).toInt + 1 ≤ (ca 56 p0.toNatClampNeg).toInt) := by
  obtain ⟨⟨ta, ma0, mb, d, ns, hy, h2', ht, hk, he, hp, hn⟩, fr, sv, lc, q⟩ := h
  have cg := cl_nat hg.1
  have yf := (hy p0.toNatClampNeg (by omega)).fr
  rw [cg] at yf
  have cy := cl_nat (x := y) (by first | exact oz_016f458179 cy | omega)
  have sy := yf.1 y.toNatClampNeg (by omega) (by omega)
  refine ⟨by omega, fun b => ?_, sy.1.2.1, fun w => ?_, fun w => ?_⟩
  · unfold clo; rw [if_pos sy.1.1]
  · have : wdt ca y.toNatClampNeg = 2 := by unfold wdt; rw [if_pos w]
    have := sy.2.1; omega
  · have : wdt ca y.toNatClampNeg = 1 := by unfold wdt; rw [if_neg (by omega)]; exact sy.1.2.2.2.2 w
    have := sy.2.1; omega
theorem MdI.syr (h : MdI X K ca na ma c en pa qa tc nf steps st0 m p found base top st wk f S v P nb) (hg : 0 ≤ p0.toInt ∧ p0.toInt < nf) : SyR ca (X.ys p0.toInt) (X.ye p0.toInt) (ca 56 p0.toInt.toNat).toInt 0 := by
  obtain ⟨⟨ta, ma0, mb, d, ns, hy, -⟩, -⟩ := h
  have cg := cl_nat hg.1
  have yf := (hy p0.toNatClampNeg (by omega)).fr
  rw [cg] at yf
  exact yf.1
theorem clq_mk {x1 x2 x3 x4 : Int32} (u1 : NuU qa q1 15 m x1) (u2 : NuU q1 q2 16 m x2) (u3 : NuU q2 q3 17 m x3) (u4 : NuU q3 q4 18 m x4) (h0 : 0 ≤ m) (e1 : x1.toInt = p + 1) (e2 : x2.toInt = base) (e3 : x3.toInt = top) (e4 : x4.toInt = g) : ClQ qa q4 m p base top g := by
  refine ⟨⟨?_, ?_, ?_, ?_⟩, fun k k1 k2 i hi => ?_, ?_, fun i _ => ?_⟩
  · rw [u4.1 15 (by decide), u3.1 15 (by decide), u2.1 15 (by decide), u1.2.2]; exact e1
  · rw [u4.1 16 (by decide), u3.1 16 (by decide), u2.2.2]; exact e2
  · rw [u4.1 17 (by decide), u3.2.2]; exact e3
  · rw [u4.2.2]; exact e4
  · have a1 : q1 k i = qa k i := by
      by_cases e : k = 15
      · subst e; exact u1.2.1 i (by omega)
      · rw [u1.1 k e]
    have a2 : q2 k i = q1 k i := by
      by_cases e : k = 16
      · subst e; exact u2.2.1 i (by omega)
      · rw [u2.1 k e]
    have a3 : q3 k i = q2 k i := by
      by_cases e : k = 17
      · subst e; exact u3.2.1 i (by omega)
      · rw [u3.1 k e]
    have a4 : q4 k i = q3 k i := by
      by_cases e : k = 18
      · subst e; exact u4.2.1 i (by omega)
      · rw [u4.1 k e]
    rw [a4, a3, a2, a1]
  · rw [u4.1 9 (by decide), u3.1 9 (by decide), u2.1 9 (by decide), u1.1 9 (by decide)]
  · rw [u4.1 8 (by decide), u3.1 8 (by decide), u2.1 8 (by decide), u1.1 8 (by decide)]
theorem ClQ.w {i x : Int32} (h : ClQ qa q1 m p base top g) (u : q2 = va_up q1 8 (upd (q1 8) i.toNatClampNeg x)) (h0 : 0 ≤ i.toInt) (ht : top ≤ i.toInt) : ClQ qa q2 m p base top g := by
  have c := cl_nat h0
  subst u
  obtain ⟨a, b, d, e⟩ := h
  refine ⟨?_, fun k k1 k2 i hi => ?_, ?_, fun j hj => ?_⟩
  · rw [va_up_n (by decide), va_up_n (by decide), va_up_n (by decide), va_up_n (by decide)]; exact a
  · rw [va_up_n (by omega)]; exact b k k1 k2 i hi
  · rw [va_up_n (by decide)]; exact d
  · rw [va_up_s, pk_un (by omega)]; exact e j hj
theorem zec_0 {ce : Nat → Int32} {a b : Int} (h : b ≤ a) : ZeC ce a b := fun i i1 i2 => by omega
theorem ZeC.w {i x : Int32} {a b b' : Int} (h : ZeC (q1 8) a b) (u : q2 = va_up q1 8 (upd (q1 8) i.toNatClampNeg x)) (hx : x = 0) (h0 : 0 ≤ i.toInt) (e : i.toInt = b) (e' : b' = b + 1) : ZeC (q2 8) a b' := fun j j1 j2 => by
  have c := cl_nat h0
  subst u
  rw [va_up_s]
  by_cases q : j = i.toNatClampNeg
  · subst q; rw [pk_us]; exact hx
  · rw [pk_un q]; exact h j j1 (by omega)
theorem GvH.w1 {i x : Int32} (h : GvH X ca (q1 8) P base p0.toInt) (hb : 0 ≤ base) (sr : SyR ca (X.ys p0.toInt) (X.ye p0.toInt) (ca 56 p0.toInt.toNat).toInt 0) (y1 : X.ys p0.toInt ≤ y.toInt) (y2 : y.toInt < X.ye p0.toInt) (y0 : 0 ≤ y.toInt) (hk : (ca 49 y.toNatClampNeg).toInt ≤ 1) (u : q2 = va_up q1 8 (upd (q1 8) i.toNatClampNeg x)) (h0 : 0 ≤ i.toInt) (e : i.toInt = base + (ca 51 y.toNatClampNeg).toInt) : GvH X ca (q2 8) P base p0.toInt := by
  have c := cl_nat h0
  have cy := cl_nat y0
  refine h.nv hb sr (y := y.toNatClampNeg) (by omega) (by omega) hk (fun j hj => ?_)
  subst u
  rw [va_up_s, pk_un (by omega)]
theorem GvH.w2 {i x i' x' : Int32} (h : GvH X ca (q1 8) P base p0.toInt) (hb : 0 ≤ base) (sr : SyR ca (X.ys p0.toInt) (X.ye p0.toInt) (ca 56 p0.toInt.toNat).toInt 0) (y1 : X.ys p0.toInt ≤ y.toInt) (y2 : y.toInt < X.ye p0.toInt) (y0 : 0 ≤ y.toInt) (hk : 4 ≤ (ca 49 y.toNatClampNeg).toInt) (u : q2 = va_up q1 8 (upd (q1 8) i.toNatClampNeg x)) (u' : q3 = va_up q2 8 (upd (q2 8) i'.toNatClampNeg x')) (h0 : 0 ≤ i.toInt) (e : i.toInt = base + (ca 51 y.toNatClampNeg).toInt) (h0' : 0 ≤ i'.toInt) (e' : i'.toInt = base + (ca 51 y.toNatClampNeg).toInt + 1) (hd : HdV P x.toInt x'.toInt) : GvH X ca (q3 8) P base p0.toInt := by
  have c := cl_nat h0
  have c' := cl_nat h0'
  have cy := cl_nat y0
  subst u; subst u'
  refine h.ar hb sr (y := y.toNatClampNeg) (by omega) (by omega) hk (fun j hj hj' => ?_) ?_
  · rw [va_up_s, pk_un (by omega), va_up_s, pk_un (by omega)]
  · rw [va_up_s, pk_un (show (base + (ca 51 y.toNatClampNeg).toInt).toNat ≠ i'.toNatClampNeg by omega), va_up_s, show (base + (ca 51 y.toNatClampNeg).toInt).toNat = i.toNatClampNeg by omega, pk_us, show (base + (ca 51 y.toNatClampNeg).toInt + 1).toNat = i'.toNatClampNeg by omega, pk_us]
    exact hd
theorem hdv_at {x1 x2 n1 n2 : Int32} (hd : HdV P (nu n.toNat).toInt (nu (n + 1).toNat).toInt) (e1 : x1 = q1 9 n1.toNatClampNeg) (c1 : q1 9 = nu) (en1 : n1.toInt = n) (e2 : x2 = q2 9 n2.toNatClampNeg) (c2 : q2 9 = nu) (en2 : n2.toInt = n + 1) (h0 : 0 ≤ n) : HdV P x1.toInt x2.toInt := by
  have d1 := cl_nat (x := n1) (by first | exact oz_f3ebed1ad0 en1 h0 | omega)
  have d2 := cl_nat (x := n2) (by first | exact oz_ae613611c0 en2 h0 | omega)
  rw [e1, e2, c1, c2, show n1.toNatClampNeg = n.toNat by omega, show n2.toNatClampNeg = (n + 1).toNat by omega]
  exact hd
theorem MdI.cal (h : MdI X K ca na ma c en pa qa tc nf steps st0 m p found base top st wk f S v P nb) (hg : 0 ≤ p0.toInt ∧ p0.toInt < nf) (hT : StV (qa 9) P T (found - (pa p0.toNatClampNeg).toInt) nb ∧ (T.length : Int) ≤ X.tall f ∧ (f < 0 ∨ K (p.toNat + 1) f (0 :: T) v)) (h1 : 1 ≤ wk) (h2 : 0 ≤ st - (ca 40 p0.toNatClampNeg).toInt) (cq : ClQ qa qa' m p base top p0.toInt) (gh : GvH X ca (qa' 8) P top p0.toInt) : RuZ X K ca qa' tc nf st0 (m + 1) (en p0.toNatClampNeg).toInt (found - (pa p0.toNatClampNeg).toInt) top (top + (ca 56 p0.toNatClampNeg).toInt) (st - (ca 40 p0.toNatClampNeg).toInt) (wk - 1) (rkN wk m v p) :=
  h.call (g := p0.toInt) hg hT.1 hT.2.1 hT.2.2 rfl rfl rfl rfl rfl h1 h2 rfl cq.1.1 cq.1.2.1 cq.1.2.2.1 cq.1.2.2.2 cq.2.1 cq.2.2.1 cq.2.2.2 gh
end CQ
abbrev b_Mpr_call : ByteArray := prog_15_method_20_code
def y_Mpr_call : MethodName := ⟨"HomeSystemModel$Process", "call", "(I)V"⟩
theorem d_Mpr_call_0 : decode b_Mpr_call 0 = .ok (.aload_n 0, 1) := by decide +kernel
theorem d_Mpr_call_1 : decode b_Mpr_call 1 = .ok (.invokevirtual 169, 3) := by decide +kernel
theorem d_Mpr_call_4 : decode b_Mpr_call 4 = .ok (.ifCond .ne 4, 3) := by decide +kernel
theorem d_Mpr_call_7 : decode b_Mpr_call 7 = .ok (.return_, 1) := by decide +kernel
theorem d_Mpr_call_8 : decode b_Mpr_call 8 = .ok (.aload_n 0, 1) := by decide +kernel
theorem d_Mpr_call_9 : decode b_Mpr_call 9 = .ok (.getfield 91, 3) := by decide +kernel
theorem d_Mpr_call_12 : decode b_Mpr_call 12 = .ok (.aload_n 0, 1) := by decide +kernel
theorem d_Mpr_call_13 : decode b_Mpr_call 13 = .ok (.getfield 52, 3) := by decide +kernel
theorem d_Mpr_call_16 : decode b_Mpr_call 16 = .ok (.getfield 194, 3) := by decide +kernel
theorem d_Mpr_call_19 : decode b_Mpr_call 19 = .ok (.iload_n 1, 1) := by decide +kernel
theorem d_Mpr_call_20 : decode b_Mpr_call 20 = .ok (.iaload, 1) := by decide +kernel
theorem d_Mpr_call_21 : decode b_Mpr_call 21 = .ok (.if_icmp .ge 10, 3) := by decide +kernel
theorem d_Mpr_call_24 : decode b_Mpr_call 24 = .ok (.aload_n 0, 1) := by decide +kernel
theorem d_Mpr_call_25 : decode b_Mpr_call 25 = .ok (.iconst 4, 1) := by decide +kernel
theorem d_Mpr_call_26 : decode b_Mpr_call 26 = .ok (.iconst 0, 1) := by decide +kernel
theorem d_Mpr_call_27 : decode b_Mpr_call 27 = .ok (.invokevirtual 134, 3) := by decide +kernel
theorem d_Mpr_call_30 : decode b_Mpr_call 30 = .ok (.return_, 1) := by decide +kernel
theorem d_Mpr_call_31 : decode b_Mpr_call 31 = .ok (.aload_n 0, 1) := by decide +kernel
theorem d_Mpr_call_32 : decode b_Mpr_call 32 = .ok (.aload_n 0, 1) := by decide +kernel
theorem d_Mpr_call_33 : decode b_Mpr_call 33 = .ok (.getfield 91, 3) := by decide +kernel
theorem d_Mpr_call_36 : decode b_Mpr_call 36 = .ok (.aload_n 0, 1) := by decide +kernel
theorem d_Mpr_call_37 : decode b_Mpr_call 37 = .ok (.getfield 52, 3) := by decide +kernel
theorem d_Mpr_call_40 : decode b_Mpr_call 40 = .ok (.getfield 194, 3) := by decide +kernel
theorem d_Mpr_call_43 : decode b_Mpr_call 43 = .ok (.iload_n 1, 1) := by decide +kernel
theorem d_Mpr_call_44 : decode b_Mpr_call 44 = .ok (.iaload, 1) := by decide +kernel
theorem d_Mpr_call_45 : decode b_Mpr_call 45 = .ok (.isub, 1) := by decide +kernel
theorem d_Mpr_call_46 : decode b_Mpr_call 46 = .ok (.putfield 91, 3) := by decide +kernel
theorem d_Mpr_call_49 : decode b_Mpr_call 49 = .ok (.aload_n 0, 1) := by decide +kernel
theorem d_Mpr_call_50 : decode b_Mpr_call 50 = .ok (.getfield 20, 3) := by decide +kernel
theorem d_Mpr_call_53 : decode b_Mpr_call 53 = .ok (.aload_n 0, 1) := by decide +kernel
theorem d_Mpr_call_54 : decode b_Mpr_call 54 = .ok (.getfield 77, 3) := by decide +kernel
theorem d_Mpr_call_57 : decode b_Mpr_call 57 = .ok (.aload_n 0, 1) := by decide +kernel
theorem d_Mpr_call_58 : decode b_Mpr_call 58 = .ok (.getfield 95, 3) := by decide +kernel
theorem d_Mpr_call_61 : decode b_Mpr_call 61 = .ok (.iastore, 1) := by decide +kernel
theorem d_Mpr_call_62 : decode b_Mpr_call 62 = .ok (.aload_n 0, 1) := by decide +kernel
theorem d_Mpr_call_63 : decode b_Mpr_call 63 = .ok (.getfield 23, 3) := by decide +kernel
theorem d_Mpr_call_66 : decode b_Mpr_call 66 = .ok (.aload_n 0, 1) := by decide +kernel
theorem d_Mpr_call_67 : decode b_Mpr_call 67 = .ok (.getfield 77, 3) := by decide +kernel
theorem d_Mpr_call_70 : decode b_Mpr_call 70 = .ok (.aload_n 0, 1) := by decide +kernel
theorem d_Mpr_call_71 : decode b_Mpr_call 71 = .ok (.getfield 80, 3) := by decide +kernel
theorem d_Mpr_call_74 : decode b_Mpr_call 74 = .ok (.iastore, 1) := by decide +kernel
theorem d_Mpr_call_75 : decode b_Mpr_call 75 = .ok (.aload_n 0, 1) := by decide +kernel
theorem d_Mpr_call_76 : decode b_Mpr_call 76 = .ok (.getfield 26, 3) := by decide +kernel
theorem d_Mpr_call_79 : decode b_Mpr_call 79 = .ok (.aload_n 0, 1) := by decide +kernel
theorem d_Mpr_call_80 : decode b_Mpr_call 80 = .ok (.getfield 77, 3) := by decide +kernel
theorem d_Mpr_call_83 : decode b_Mpr_call 83 = .ok (.aload_n 0, 1) := by decide +kernel
theorem d_Mpr_call_84 : decode b_Mpr_call 84 = .ok (.getfield 102, 3) := by decide +kernel
theorem d_Mpr_call_87 : decode b_Mpr_call 87 = .ok (.iastore, 1) := by decide +kernel
theorem d_Mpr_call_88 : decode b_Mpr_call 88 = .ok (.aload_n 0, 1) := by decide +kernel
theorem d_Mpr_call_89 : decode b_Mpr_call 89 = .ok (.getfield 29, 3) := by decide +kernel
theorem d_Mpr_call_92 : decode b_Mpr_call 92 = .ok (.aload_n 0, 1) := by decide +kernel
theorem d_Mpr_call_93 : decode b_Mpr_call 93 = .ok (.getfield 77, 3) := by decide +kernel
theorem d_Mpr_call_96 : decode b_Mpr_call 96 = .ok (.iload_n 1, 1) := by decide +kernel
theorem d_Mpr_call_97 : decode b_Mpr_call 97 = .ok (.iastore, 1) := by decide +kernel
theorem d_Mpr_call_98 : decode b_Mpr_call 98 = .ok (.aload_n 0, 1) := by decide +kernel
theorem d_Mpr_call_99 : decode b_Mpr_call 99 = .ok (.dup, 1) := by decide +kernel
theorem d_Mpr_call_100 : decode b_Mpr_call 100 = .ok (.getfield 77, 3) := by decide +kernel
theorem d_Mpr_call_103 : decode b_Mpr_call 103 = .ok (.iconst 1, 1) := by decide +kernel
theorem d_Mpr_call_104 : decode b_Mpr_call 104 = .ok (.iadd, 1) := by decide +kernel
theorem d_Mpr_call_105 : decode b_Mpr_call 105 = .ok (.putfield 77, 3) := by decide +kernel
theorem d_Mpr_call_108 : decode b_Mpr_call 108 = .ok (.aload_n 0, 1) := by decide +kernel
theorem d_Mpr_call_109 : decode b_Mpr_call 109 = .ok (.aload_n 0, 1) := by decide +kernel
theorem d_Mpr_call_110 : decode b_Mpr_call 110 = .ok (.getfield 102, 3) := by decide +kernel
theorem d_Mpr_call_113 : decode b_Mpr_call 113 = .ok (.putfield 80, 3) := by decide +kernel
theorem d_Mpr_call_116 : decode b_Mpr_call 116 = .ok (.aload_n 0, 1) := by decide +kernel
theorem d_Mpr_call_117 : decode b_Mpr_call 117 = .ok (.aload_n 0, 1) := by decide +kernel
theorem d_Mpr_call_118 : decode b_Mpr_call 118 = .ok (.getfield 102, 3) := by decide +kernel
theorem d_Mpr_call_121 : decode b_Mpr_call 121 = .ok (.aload_n 0, 1) := by decide +kernel
theorem d_Mpr_call_122 : decode b_Mpr_call 122 = .ok (.getfield 52, 3) := by decide +kernel
theorem d_Mpr_call_125 : decode b_Mpr_call 125 = .ok (.getfield 197, 3) := by decide +kernel
theorem d_Mpr_call_128 : decode b_Mpr_call 128 = .ok (.iload_n 1, 1) := by decide +kernel
theorem d_Mpr_call_129 : decode b_Mpr_call 129 = .ok (.iaload, 1) := by decide +kernel
theorem d_Mpr_call_130 : decode b_Mpr_call 130 = .ok (.iadd, 1) := by decide +kernel
theorem d_Mpr_call_131 : decode b_Mpr_call 131 = .ok (.putfield 102, 3) := by decide +kernel
theorem d_Mpr_call_134 : decode b_Mpr_call 134 = .ok (.aload_n 0, 1) := by decide +kernel
theorem d_Mpr_call_135 : decode b_Mpr_call 135 = .ok (.getfield 80, 3) := by decide +kernel
theorem d_Mpr_call_138 : decode b_Mpr_call 138 = .ok (.istore_n 2, 1) := by decide +kernel
theorem d_Mpr_call_139 : decode b_Mpr_call 139 = .ok (.iload_n 2, 1) := by decide +kernel
theorem d_Mpr_call_140 : decode b_Mpr_call 140 = .ok (.aload_n 0, 1) := by decide +kernel
theorem d_Mpr_call_141 : decode b_Mpr_call 141 = .ok (.getfield 102, 3) := by decide +kernel
theorem d_Mpr_call_144 : decode b_Mpr_call 144 = .ok (.if_icmp .ge 16, 3) := by decide +kernel
theorem d_Mpr_call_147 : decode b_Mpr_call 147 = .ok (.aload_n 0, 1) := by decide +kernel
theorem d_Mpr_call_148 : decode b_Mpr_call 148 = .ok (.getfield 10, 3) := by decide +kernel
theorem d_Mpr_call_151 : decode b_Mpr_call 151 = .ok (.iload_n 2, 1) := by decide +kernel
theorem d_Mpr_call_152 : decode b_Mpr_call 152 = .ok (.iconst 0, 1) := by decide +kernel
theorem d_Mpr_call_153 : decode b_Mpr_call 153 = .ok (.iastore, 1) := by decide +kernel
theorem d_Mpr_call_154 : decode b_Mpr_call 154 = .ok (.iinc 2 1, 3) := by decide +kernel
theorem d_Mpr_call_157 : decode b_Mpr_call 157 = .ok (.goto (-18), 3) := by decide +kernel
theorem d_Mpr_call_160 : decode b_Mpr_call 160 = .ok (.aload_n 0, 1) := by decide +kernel
theorem d_Mpr_call_161 : decode b_Mpr_call 161 = .ok (.aload_n 0, 1) := by decide +kernel
theorem d_Mpr_call_162 : decode b_Mpr_call 162 = .ok (.getfield 74, 3) := by decide +kernel
theorem d_Mpr_call_165 : decode b_Mpr_call 165 = .ok (.aload_n 0, 1) := by decide +kernel
theorem d_Mpr_call_166 : decode b_Mpr_call 166 = .ok (.getfield 52, 3) := by decide +kernel
theorem d_Mpr_call_169 : decode b_Mpr_call 169 = .ok (.getfield 200, 3) := by decide +kernel
theorem d_Mpr_call_172 : decode b_Mpr_call 172 = .ok (.iload_n 1, 1) := by decide +kernel
theorem d_Mpr_call_173 : decode b_Mpr_call 173 = .ok (.iaload, 1) := by decide +kernel
theorem d_Mpr_call_174 : decode b_Mpr_call 174 = .ok (.isub, 1) := by decide +kernel
theorem d_Mpr_call_175 : decode b_Mpr_call 175 = .ok (.putfield 74, 3) := by decide +kernel
theorem d_Mpr_call_178 : decode b_Mpr_call 178 = .ok (.aload_n 0, 1) := by decide +kernel
theorem d_Mpr_call_179 : decode b_Mpr_call 179 = .ok (.getfield 74, 3) := by decide +kernel
theorem d_Mpr_call_182 : decode b_Mpr_call 182 = .ok (.istore_n 2, 1) := by decide +kernel
theorem d_Mpr_call_183 : decode b_Mpr_call 183 = .ok (.aload_n 0, 1) := by decide +kernel
theorem d_Mpr_call_184 : decode b_Mpr_call 184 = .ok (.getfield 52, 3) := by decide +kernel
theorem d_Mpr_call_187 : decode b_Mpr_call 187 = .ok (.getfield 203, 3) := by decide +kernel
theorem d_Mpr_call_190 : decode b_Mpr_call 190 = .ok (.aload_n 0, 1) := by decide +kernel
theorem d_Mpr_call_191 : decode b_Mpr_call 191 = .ok (.getfield 52, 3) := by decide +kernel
theorem d_Mpr_call_194 : decode b_Mpr_call 194 = .ok (.getfield 206, 3) := by decide +kernel
theorem d_Mpr_call_197 : decode b_Mpr_call 197 = .ok (.iload_n 1, 1) := by decide +kernel
theorem d_Mpr_call_198 : decode b_Mpr_call 198 = .ok (.iaload, 1) := by decide +kernel
theorem d_Mpr_call_199 : decode b_Mpr_call 199 = .ok (.iaload, 1) := by decide +kernel
theorem d_Mpr_call_200 : decode b_Mpr_call 200 = .ok (.istore_n 3, 1) := by decide +kernel
theorem d_Mpr_call_201 : decode b_Mpr_call 201 = .ok (.iload_n 3, 1) := by decide +kernel
theorem d_Mpr_call_202 : decode b_Mpr_call 202 = .ok (.ifCond .lt 104, 3) := by decide +kernel
theorem d_Mpr_call_205 : decode b_Mpr_call 205 = .ok (.aload_n 0, 1) := by decide +kernel
theorem d_Mpr_call_206 : decode b_Mpr_call 206 = .ok (.getfield 52, 3) := by decide +kernel
theorem d_Mpr_call_209 : decode b_Mpr_call 209 = .ok (.getfield 209, 3) := by decide +kernel
theorem d_Mpr_call_212 : decode b_Mpr_call 212 = .ok (.iload_n 3, 1) := by decide +kernel
theorem d_Mpr_call_213 : decode b_Mpr_call 213 = .ok (.iaload, 1) := by decide +kernel
theorem d_Mpr_call_214 : decode b_Mpr_call 214 = .ok (.istore 4, 2) := by decide +kernel
theorem d_Mpr_call_216 : decode b_Mpr_call 216 = .ok (.aload_n 0, 1) := by decide +kernel
theorem d_Mpr_call_217 : decode b_Mpr_call 217 = .ok (.getfield 10, 3) := by decide +kernel
theorem d_Mpr_call_220 : decode b_Mpr_call 220 = .ok (.aload_n 0, 1) := by decide +kernel
theorem d_Mpr_call_221 : decode b_Mpr_call 221 = .ok (.iload 4, 2) := by decide +kernel
theorem d_Mpr_call_223 : decode b_Mpr_call 223 = .ok (.invokevirtual 124, 3) := by decide +kernel
theorem d_Mpr_call_226 : decode b_Mpr_call 226 = .ok (.aload_n 0, 1) := by decide +kernel
theorem d_Mpr_call_227 : decode b_Mpr_call 227 = .ok (.iload 4, 2) := by decide +kernel
theorem d_Mpr_call_229 : decode b_Mpr_call 229 = .ok (.invokevirtual 120, 3) := by decide +kernel
theorem d_Mpr_call_232 : decode b_Mpr_call 232 = .ok (.ifCond .eq 12, 3) := by decide +kernel
theorem d_Mpr_call_235 : decode b_Mpr_call 235 = .ok (.aload_n 0, 1) := by decide +kernel
theorem d_Mpr_call_236 : decode b_Mpr_call 236 = .ok (.getfield 17, 3) := by decide +kernel
theorem d_Mpr_call_239 : decode b_Mpr_call 239 = .ok (.iload_n 2, 1) := by decide +kernel
theorem d_Mpr_call_240 : decode b_Mpr_call 240 = .ok (.iaload, 1) := by decide +kernel
theorem d_Mpr_call_241 : decode b_Mpr_call 241 = .ok (.goto 15, 3) := by decide +kernel
theorem d_Mpr_call_244 : decode b_Mpr_call 244 = .ok (.aload_n 0, 1) := by decide +kernel
theorem d_Mpr_call_245 : decode b_Mpr_call 245 = .ok (.iload 4, 2) := by decide +kernel
theorem d_Mpr_call_247 : decode b_Mpr_call 247 = .ok (.aload_n 0, 1) := by decide +kernel
theorem d_Mpr_call_248 : decode b_Mpr_call 248 = .ok (.getfield 17, 3) := by decide +kernel
theorem d_Mpr_call_251 : decode b_Mpr_call 251 = .ok (.iload_n 2, 1) := by decide +kernel
theorem d_Mpr_call_252 : decode b_Mpr_call 252 = .ok (.iaload, 1) := by decide +kernel
theorem d_Mpr_call_253 : decode b_Mpr_call 253 = .ok (.invokevirtual 145, 3) := by decide +kernel
theorem d_Mpr_call_256 : decode b_Mpr_call 256 = .ok (.iastore, 1) := by decide +kernel
theorem d_Mpr_call_257 : decode b_Mpr_call 257 = .ok (.aload_n 0, 1) := by decide +kernel
theorem d_Mpr_call_258 : decode b_Mpr_call 258 = .ok (.iload 4, 2) := by decide +kernel
theorem d_Mpr_call_260 : decode b_Mpr_call 260 = .ok (.invokevirtual 120, 3) := by decide +kernel
theorem d_Mpr_call_263 : decode b_Mpr_call 263 = .ok (.ifCond .eq 27, 3) := by decide +kernel
theorem d_Mpr_call_266 : decode b_Mpr_call 266 = .ok (.aload_n 0, 1) := by decide +kernel
theorem d_Mpr_call_267 : decode b_Mpr_call 267 = .ok (.getfield 10, 3) := by decide +kernel
theorem d_Mpr_call_270 : decode b_Mpr_call 270 = .ok (.aload_n 0, 1) := by decide +kernel
theorem d_Mpr_call_271 : decode b_Mpr_call 271 = .ok (.iload 4, 2) := by decide +kernel
theorem d_Mpr_call_273 : decode b_Mpr_call 273 = .ok (.invokevirtual 124, 3) := by decide +kernel
theorem d_Mpr_call_276 : decode b_Mpr_call 276 = .ok (.iconst 1, 1) := by decide +kernel
theorem d_Mpr_call_277 : decode b_Mpr_call 277 = .ok (.iadd, 1) := by decide +kernel
theorem d_Mpr_call_278 : decode b_Mpr_call 278 = .ok (.aload_n 0, 1) := by decide +kernel
theorem d_Mpr_call_279 : decode b_Mpr_call 279 = .ok (.getfield 17, 3) := by decide +kernel
theorem d_Mpr_call_282 : decode b_Mpr_call 282 = .ok (.iload_n 2, 1) := by decide +kernel
theorem d_Mpr_call_283 : decode b_Mpr_call 283 = .ok (.iconst 1, 1) := by decide +kernel
theorem d_Mpr_call_284 : decode b_Mpr_call 284 = .ok (.iadd, 1) := by decide +kernel
theorem d_Mpr_call_285 : decode b_Mpr_call 285 = .ok (.iaload, 1) := by decide +kernel
theorem d_Mpr_call_286 : decode b_Mpr_call 286 = .ok (.iastore, 1) := by decide +kernel
theorem d_Mpr_call_287 : decode b_Mpr_call 287 = .ok (.iinc 2 1, 3) := by decide +kernel
theorem d_Mpr_call_290 : decode b_Mpr_call 290 = .ok (.iinc 2 1, 3) := by decide +kernel
theorem d_Mpr_call_293 : decode b_Mpr_call 293 = .ok (.aload_n 0, 1) := by decide +kernel
theorem d_Mpr_call_294 : decode b_Mpr_call 294 = .ok (.getfield 52, 3) := by decide +kernel
theorem d_Mpr_call_297 : decode b_Mpr_call 297 = .ok (.getfield 212, 3) := by decide +kernel
theorem d_Mpr_call_300 : decode b_Mpr_call 300 = .ok (.iload_n 3, 1) := by decide +kernel
theorem d_Mpr_call_301 : decode b_Mpr_call 301 = .ok (.iaload, 1) := by decide +kernel
theorem d_Mpr_call_302 : decode b_Mpr_call 302 = .ok (.istore_n 3, 1) := by decide +kernel
theorem d_Mpr_call_303 : decode b_Mpr_call 303 = .ok (.goto (-102), 3) := by decide +kernel
theorem d_Mpr_call_306 : decode b_Mpr_call 306 = .ok (.aload_n 0, 1) := by decide +kernel
theorem d_Mpr_call_307 : decode b_Mpr_call 307 = .ok (.aload_n 0, 1) := by decide +kernel
theorem d_Mpr_call_308 : decode b_Mpr_call 308 = .ok (.getfield 52, 3) := by decide +kernel
theorem d_Mpr_call_311 : decode b_Mpr_call 311 = .ok (.getfield 215, 3) := by decide +kernel
theorem d_Mpr_call_314 : decode b_Mpr_call 314 = .ok (.iload_n 1, 1) := by decide +kernel
theorem d_Mpr_call_315 : decode b_Mpr_call 315 = .ok (.iaload, 1) := by decide +kernel
theorem d_Mpr_call_316 : decode b_Mpr_call 316 = .ok (.putfield 95, 3) := by decide +kernel
theorem d_Mpr_call_319 : decode b_Mpr_call 319 = .ok (.return_, 1) := by decide +kernel
theorem q_Mpr_call : px_y y_Mpr_call 1 := by unfold px_y; decide +kernel
set_option maxHeartbeats 4000000 in
set_option maxRecDepth 100000 in
theorem c_mr_call (l : Launch) (D : va_G) (cs : Nat → ClassId) (X9 : Cx) (K9 : KP) (st9 : Int) (f9 : Int) (S9 : List Nat) (v8 : Nat) (P9 : Int → Prop) (nb9 : Int) (q : Nat) (qr : Nat → Nat) (qg : Nat → Nat → Option Nat) (qf : Nat → Int32) (qa : Nat → Nat → Int32) (h : Nat) (r : Nat → Nat) (g : Nat → Nat → Option Nat) (tf : Nat → Int32) (ta : Nat → Nat → Int32) (pf : Nat → Int32) (na : Nat → Nat → Int32) (ma : Nat → Nat → Int32) (wa : Nat → Nat → Int32) (cf : Nat → Int32) (ca : Nat → Nat → Int32) (ef : Nat → Int32) (ea : Nat → Nat → Int32) (xf : Nat → Int32) (xa : Nat → Nat → Int32) (p0 : Int32)  (g0 : (qf 2).toInt = -2) (hmd : MdI X9 K9 ca na ma (ea 61) (ea 62) (ea 63) qa (cf 55).toInt (cf 38).toInt (ef 60).toInt st9 (qf 14).toInt ((qf 11).toInt - 1) (qf 10).toInt (qf 12).toInt (qf 13).toInt (qf 5).toInt (qf 4).toInt f9 S9 v8 P9 nb9) (hft : FnT (tf 6).toInt na ca (cf 38).toInt) (hfp : FnP na ca (cf 38).toInt) (ho15 : (0 ≤ p0.toInt ∧ p0.toInt < (cf 38).toInt) ∧ ∃ T, ArC X9 (100 + p0.toInt) S9 T ∧ (f9 < 0 ∨ K9 (((qf 11).toInt - 1).toNat + 1) f9 (0 :: T) v8)) : MetV l y_Mpr_call b_Mpr_call 5 D cs 3 120 (0) (0) [.ref q, .int p0] [wd_Mpr cs q qr (fun k => if k = 0 then (some h) else none) qf qa qg, wdP cs h r g tf ta pf na ma wa cf ca ef ea xf xa] (oX (fun A U H => (oP A g U H) ∧ (oLW A U H)) [wd_Mpr cs q qr (fun k => if k = 0 then (some h) else none) qf qa qg, wdP cs h r g tf ta pf na ma wa cf ca ef ea xf xa]) (fun ps => ∃ (qf' : Nat → Int32) (qa' : Nat → Nat → Int32), (ps = [wd_Mpr cs q qr (fun k => if k = 0 then (some h) else none) qf' qa' qg, wdP cs h r g tf ta pf na ma wa cf ca ef ea xf xa]) ∧ ((qf' 1).toInt = (qf 1).toInt) ∧ ((qf' 6).toInt = (qf 6).toInt) ∧ ((qf' 7).toInt = (qf 7).toInt) ∧ ((qf' 21).toInt = (qf 21).toInt) ∧ ((qf' 23).toInt = (qf 23).toInt) ∧ ((qf' 24).toInt = (qf 24).toInt) ∧ (RzO (qf' 2).toInt (RuZ X9 K9 ca qa' (cf 55).toInt (cf 38).toInt st9 (qf' 14).toInt (qf' 11).toInt (qf' 10).toInt (qf' 12).toInt (qf' 13).toInt (qf' 5).toInt (qf' 4).toInt (rkN (qf 4).toInt (qf 14).toInt (v8 : Int) ((qf 11).toInt - 1))))) := by
  refine px_enter (by decide) (Nat.le_of_ble_eq_true rfl) ?_
  intro p e s m below meth c A ls hAe S hr hlk hnm hA hT hX hw hl
  replace hl : lv_has ls 5 [(0, .ref q), (1, .int p0)] := hl
  have lp0 := Int32.le_toInt p0
  have up0 := Int32.toInt_lt p0
  have cst0 : (0 : Int32).toInt = 0 := rfl
  have cst1 : (1 : Int32).toInt = 1 := rfl
  have cst4 : (4 : Int32).toInt = 4 := rfl
  have hX : (fun A U H => (oP A g U H) ∧ (oLW A U H)) A s s.heap := by rw [hAe]; exact hX
  obtain ⟨hP, hSh⟩ := hX
  have hZ := hP.1
  have hF0 := hP.2.1
  have hnm := hmd.num
  have hst := hmd.2.2.1
  have hlc := hmd.2.2.2.1
  have hq9 := hmd.2.2.2.2
  obtain ⟨T9, hT9, hpa, hpx0, hfr9⟩ := hmd.prm hfp ho15
  have hsr := hmd.syr ho15.1
  have J201 : ∀ (n_201 : Nat) (qf_201 : Nat → Int32) (qa_201 : Nat → Nat → Int32) (x201_2 x201_3 : Int32) (H : Heap) (locs : List Loc) (ls : Array Slot), ((qf_201 1).toInt = (qf 1).toInt) → ((qf_201 2).toInt = (qf 2).toInt) → ((qf_201 6).toInt = (qf 6).toInt) → ((qf_201 7).toInt = (qf 7).toInt) → ((qf_201 11).toInt = (qf 11).toInt) → ((qf_201 21).toInt = (qf 21).toInt) → ((qf_201 23).toInt = (qf 23).toInt) → ((qf_201 24).toInt = (qf 24).toInt) → ((qf_201 14).toInt = (qf 14).toInt + 1) → ((qf_201 12).toInt = (qf 13).toInt) → ((qf_201 13).toInt = (qf 13).toInt + (ca 56 p0.toNatClampNeg).toInt) → ((qf_201 5).toInt = (qf 5).toInt - (ca 40 p0.toNatClampNeg).toInt) → (0 ≤ (qf_201 5).toInt) → ((qf_201 4).toInt = (qf 4).toInt - 1) → (1 ≤ (qf 4).toInt) → (ClQ qa qa_201 (qf 14).toInt ((qf 11).toInt - 1) (qf 12).toInt (qf 13).toInt p0.toInt) → ((qf_201 10).toInt = (qf 10).toInt - (ea 63 p0.toNatClampNeg).toInt) → (0 ≤ x201_2.toInt) → (GvH X9 ca (qa_201 8) P9 (qf 13).toInt p0.toInt) → (PaX X9 ca na ma (qa 9) P9 p0.toInt (qf 10).toInt x201_2.toInt x201_3) → (qf 10).toInt - x201_2.toInt < (n_201 : Int) → pw D A s.heap H locs [wd_Mpr cs q qr (fun k => if k = 0 then (some h) else none) qf_201 qa_201 qg, wdP cs h r g tf ta pf na ma wa cf ca ef ea xf xa] → lv_has ls 5 [(0, .ref q), (1, .int p0), (2, .int x201_2), (3, .int x201_3)] → W p l e { frames := 3, cells := 0, slots := 0, locals := 120 } s m [.ref q, .int p0].toArray below meth c H locs 0 0 (MQ below (va_Qv (fun ps => ∃ (qf' : Nat → Int32) (qa' : Nat → Nat → Int32), (ps = [wd_Mpr cs q qr (fun k => if k = 0 then (some h) else none) qf' qa' qg, wdP cs h r g tf ta pf na ma wa cf ca ef ea xf xa]) ∧ ((qf' 1).toInt = (qf 1).toInt) ∧ ((qf' 6).toInt = (qf 6).toInt) ∧ ((qf' 7).toInt = (qf 7).toInt) ∧ ((qf' 21).toInt = (qf 21).toInt) ∧ ((qf' 23).toInt = (qf 23).toInt) ∧ ((qf' 24).toInt = (qf 24).toInt) ∧ (RzO (qf' 2).toInt (RuZ X9 K9 ca qa' (cf 55).toInt (cf 38).toInt st9 (qf' 14).toInt (qf' 11).toInt (qf' 10).toInt (qf' 12).toInt (qf' 13).toInt (qf' 5).toInt (qf' 4).toInt (rkN (qf 4).toInt (qf 14).toInt (v8 : Int) ((qf 11).toInt - 1))))) (pc_B D (va_A ([wd_Mpr cs q qr (fun k => if k = 0 then (some h) else none) qf qa qg, wdP cs h r g tf ta pf na ma wa cf ca ef ea xf xa] : List va_W).flatten s.heap.size)) (va_A ([wd_Mpr cs q qr (fun k => if k = 0 then (some h) else none) qf qa qg, wdP cs h r g tf ta pf na ma wa cf ca ef ea xf xa] : List va_W).flatten s.heap.size)) [.ref q, .int p0].toArray s 0 0 A) (F0 m 201 ls []) := by
    intro  n_201
    induction n_201 with
    | zero =>
      intro qf_201 qa_201 x201_2 x201_3 H locs ls k201_0 k201_1 k201_2 k201_3 k201_4 k201_5 k201_6 k201_7 k201_8 k201_9 k201_10 k201_11 k201_12 k201_13 k201_14 k201_15 k201_16 k201_17 k201_18 k201_19 hm hw hl
      have lx201_2 := Int32.le_toInt x201_2
      have ux201_2 := Int32.toInt_lt x201_2
      have lx201_3 := Int32.le_toInt x201_3
      have ux201_3 := Int32.toInt_lt x201_3
      have hcq := k201_15
      have hgv := k201_18
      have hpx := k201_19
      have hpxl := hpx.le
      exact absurd hm (by omega)
    | succ n_201 ih201 =>
      intro qf_201 qa_201 x201_2 x201_3 H locs ls k201_0 k201_1 k201_2 k201_3 k201_4 k201_5 k201_6 k201_7 k201_8 k201_9 k201_10 k201_11 k201_12 k201_13 k201_14 k201_15 k201_16 k201_17 k201_18 k201_19 hm hw hl
      have lx201_2 := Int32.le_toInt x201_2
      have ux201_2 := Int32.toInt_lt x201_2
      have lx201_3 := Int32.le_toInt x201_3
      have ux201_3 := Int32.toInt_lt x201_3
      have hcq := k201_15
      have hgv := k201_18
      have hpx := k201_19
      have hpxl := hpx.le
      refine lv_iload_n S.x S.b d_Mpr_call_201 rfl (lv_at hl 3 rfl) ?_
      refine lv_if_lt (tgt := 306) S.x S.b d_Mpr_call_202 (by decide) (fun c1 => ?_) (fun c1 => ?_)
      · have nc1 : x201_3.toInt < (0 : Int) := (i_lt (x := x201_3) (y := 0)).mp c1
        refine lv_aload_n S.x S.b d_Mpr_call_306 rfl (lv_at hl 0 rfl) ?_
        refine lv_aload_n S.x S.b d_Mpr_call_307 rfl (lv_at hl 0 rfl) ?_
        refine px_get S k_Mpr hT hw 0 0 0 (v := .ref h) rfl rfl rfl (by decide) m10_221 d_Mpr_call_308 ?_
        refine px_getN S k_Mpg hT hw 1 0 62 (v := .ref (r 62)) rfl rfl rfl (by decide) m10_61n d_Mpr_call_311 ?_
        refine lv_iload_n S.x S.b d_Mpr_call_314 rfl (lv_at hl 1 rfl) ?_
        refine px_iald S hT hw 1 35 (n := 260) (f := (ea 62)) rfl gp_62 (x := p0) (vp_in_iff.mpr (by constructor <;> omega)) d_Mpr_call_315 ?_
        refine lv_topi (fun z2 ez2 => ?_)
        have lz2 := Int32.le_toInt z2
        have uz2 := Int32.toInt_lt z2
        have rz2 : z2.toInt = (ea 62 p0.toNatClampNeg).toInt := by rw [ez2]
        refine px_put S k_Mpr hT hw 0 0 11 rfl rfl (by decide) m11_2 rfl rfl rfl (Nat.le_of_ble_eq_true rfl) d_Mpr_call_316 (w' := wd_Mpr cs q qr (fun k => if k = 0 then (some h) else none) (upd qf_201 11 z2) qa_201 qg) (ps' := [wd_Mpr cs q qr (fun k => if k = 0 then (some h) else none) (upd qf_201 11 z2) qa_201 qg, wdP cs h r g tf ta pf na ma wa cf ca ef ea xf xa]) rfl rfl (fun H locs hw => ?_)
        exact px_vret S hr hlk hAe hw (Nat.le_of_ble_eq_true rfl) (Nat.le_of_ble_eq_true rfl) (⟨(upd qf_201 11 z2), qa_201, rfl, (show (qf_201 1).toInt = (qf 1).toInt from by first | exact k201_0 | omega), (show (qf_201 6).toInt = (qf 6).toInt from by first | exact k201_2 | omega), (show (qf_201 7).toInt = (qf 7).toInt from by first | exact k201_3 | omega), (show (qf_201 21).toInt = (qf 21).toInt from by first | exact k201_5 | omega), (show (qf_201 23).toInt = (qf 23).toInt from by first | exact k201_6 | omega), (show (qf_201 24).toInt = (qf 24).toInt from by first | exact k201_7 | omega), (show RzO (qf_201 2).toInt (RuZ X9 K9 ca qa_201 (cf 55).toInt (cf 38).toInt st9 (qf_201 14).toInt z2.toInt (qf_201 10).toInt (qf_201 12).toInt (qf_201 13).toInt (qf_201 5).toInt (qf_201 4).toInt (rkN (qf 4).toInt (qf 14).toInt (v8 : Int) ((qf 11).toInt - 1))) from (fun q9 => RuZ.tq (MdI.cal hmd ho15.1 hT9 (by omega) (by omega) hcq hgv) (by omega) (by omega) (by omega) (by omega) (by omega) (by omega) (by omega)))⟩) d_Mpr_call_319
      · have nc1 : ¬ x201_3.toInt < (0 : Int) := mt (i_lt (x := x201_3) (y := 0)).mpr c1
        refine lv_aload_n S.x S.b d_Mpr_call_205 rfl (lv_at hl 0 rfl) ?_
        obtain ⟨hp1, hp2, hp3, hp4⟩ := hpx.go (by omega)
        refine px_get S k_Mpr hT hw 0 0 0 (v := .ref h) rfl rfl rfl (by decide) m10_221 d_Mpr_call_206 ?_
        refine px_getN S k_Mpg hT hw 1 0 18 (v := .ref (r 18)) rfl rfl rfl (by decide) m10_4n d_Mpr_call_209 ?_
        refine lv_iload_n S.x S.b d_Mpr_call_212 rfl (lv_at hl 3 rfl) ?_
        refine px_iald S hT hw 1 14 (n := 2100) (f := (ma 18)) rfl gp_18 (x := x201_3) (vp_in_iff.mpr (by first | exact oz_f6d6d3f4c3 nc1 hp1 | (constructor <;> omega))) d_Mpr_call_213 ?_
        refine lv_topi (fun z3 ez3 => ?_)
        have lz3 := Int32.le_toInt z3
        have uz3 := Int32.toInt_lt z3
        refine lv_istore (lv' := [(4, .int z3), (0, .ref q), (1, .int p0), (2, .int x201_2), (3, .int x201_3)]) S.x S.b d_Mpr_call_214 hl (by decide) rfl (fun ls hl => ?_)
        rw [← ez3] at hp2 hp4; obtain ⟨hy1, hy2, hy3, hy4, hy5⟩ := hmd.py ho15.1 hp2.1 hp2.2; have hyc := hy2 (qf_201 12).toInt
        refine lv_aload_n S.x S.b d_Mpr_call_216 rfl (lv_at hl 1 rfl) ?_
        refine px_get S k_Mpr hT hw 0 0 8 (v := .ref (qr 8)) rfl rfl rfl (by decide) m10_236 d_Mpr_call_217 ?_
        refine lv_aload_n S.x S.b d_Mpr_call_220 rfl (lv_at hl 1 rfl) ?_
        refine lv_iload S.x S.b d_Mpr_call_221 (lv_at hl 0 rfl) ?_
        refine px_calli (pr := []) (px_runV (As := [.int z3]) (rest := [.ref (qr 8)]) S (c_mr_cellOf l D cs (0 : Int) q qr qg qf_201 qa_201 h r g tf ta pf na ma wa cf ca ef ea xf xa z3  (show 0 ≤ z3.toInt from by first | with_reducible rfl | with_reducible assumption | omega) (show z3.toInt < 1100 from by first | with_reducible rfl | with_reducible assumption | omega) (show 0 ≤ clo ca (qf_201 12).toInt z3 from by first | with_reducible rfl | with_reducible assumption | omega) (show clo ca (qf_201 12).toInt z3 ≤ 36990 from by first | with_reducible rfl | with_reducible assumption | omega) _) hT (pr := []) (pcs := [wd_Mpr cs q qr (fun k => if k = 0 then (some h) else none) qf_201 qa_201 qg, wdP cs h r g tf ta pf na ma wa cf ca ef ea xf xa]) hw (oX_call (P := (fun A U H => (oP A g U H))) (pr := []) oG_P hw hA hP) (px_recv hT hw 0 0 rfl rfl rfl) m14_119 m14_116 m14_118 ms_16_11 m1_22 q_Mpr_cellOf ⟨Nat.le_of_ble_eq_true rfl, Nat.le_of_ble_eq_true rfl⟩ hl.1 rfl (Nat.le_of_ble_eq_true rfl) d_Mpr_call_223 ⟨Nat.le_of_ble_eq_true rfl, Nat.le_of_ble_eq_true rfl⟩) hw hA (fun v5 p4 H locs hp4 hw => ?_)
        obtain ⟨rfl, e6⟩ := hp4
        replace e6 : v5.toInt = clo ca (qf_201 12).toInt z3 := e6
        replace hw : pw D A s.heap H locs [wd_Mpr cs q qr (fun k => if k = 0 then (some h) else none) qf_201 qa_201 qg, wdP cs h r g tf ta pf na ma wa cf ca ef ea xf xa] := hw
        have lv5 := Int32.le_toInt v5
        have uv5 := Int32.toInt_lt v5
        refine lv_aload_n S.x S.b d_Mpr_call_226 rfl (lv_at hl 1 rfl) ?_
        refine lv_iload S.x S.b d_Mpr_call_227 (lv_at hl 0 rfl) ?_
        refine px_calli (pr := []) (px_runV (As := [.int z3]) (rest := [.int v5, .ref (qr 8)]) S (c_mr_isGiven l D cs (0 : Int) q qr qg qf_201 qa_201 h r g tf ta pf na ma wa cf ca ef ea xf xa z3  (show 0 ≤ z3.toInt from by first | with_reducible rfl | with_reducible assumption | omega) (show z3.toInt < 1100 from by first | with_reducible rfl | with_reducible assumption | omega) _) hT (pr := []) (pcs := [wd_Mpr cs q qr (fun k => if k = 0 then (some h) else none) qf_201 qa_201 qg, wdP cs h r g tf ta pf na ma wa cf ca ef ea xf xa]) hw (oX_call (P := (fun A U H => (oP A g U H))) (pr := []) oG_P hw hA hP) (px_recv hT hw 0 0 rfl rfl rfl) m14_139 m14_136 m14_138 ms_16_15 m1_22 q_Mpr_isGiven ⟨Nat.le_of_ble_eq_true rfl, Nat.le_of_ble_eq_true rfl⟩ hl.1 rfl (Nat.le_of_ble_eq_true rfl) d_Mpr_call_229 ⟨Nat.le_of_ble_eq_true rfl, Nat.le_of_ble_eq_true rfl⟩) hw hA (fun v8 p7 H locs hp7 hw => ?_)
        obtain ⟨rfl, e9, e10, e11, e12⟩ := hp7
        replace e9 : 0 ≤ v8.toInt := e9
        replace e10 : v8.toInt ≤ 1 := e10
        replace e11 : v8.toInt = 1 → 4 ≤ (ca 49 z3.toNatClampNeg).toInt := e11
        replace e12 : v8.toInt = 0 → (ca 49 z3.toNatClampNeg).toInt < 4 := e12
        replace hw : pw D A s.heap H locs [wd_Mpr cs q qr (fun k => if k = 0 then (some h) else none) qf_201 qa_201 qg, wdP cs h r g tf ta pf na ma wa cf ca ef ea xf xa] := hw
        have lv8 := Int32.le_toInt v8
        have uv8 := Int32.toInt_lt v8
        refine lv_if_eq (tgt := 244) S.x S.b d_Mpr_call_232 (by decide) (fun c13 => ?_) (fun c13 => ?_)
        · have nc13 : v8.toInt = (0 : Int) := (i_eq (x := v8) (y := 0)).mp c13
          refine lv_aload_n S.x S.b d_Mpr_call_244 rfl (lv_at hl 1 rfl) ?_
          have hpB := hp4.elim id (fun q8 => absurd q8.1 (by omega))
          refine lv_iload S.x S.b d_Mpr_call_245 (lv_at hl 0 rfl) ?_
          refine lv_aload_n S.x S.b d_Mpr_call_247 rfl (lv_at hl 1 rfl) ?_
          refine px_get S k_Mpr hT hw 0 0 9 (v := .ref (qr 9)) rfl rfl rfl (by decide) m10_238 d_Mpr_call_248 ?_
          refine lv_iload_n S.x S.b d_Mpr_call_251 rfl (lv_at hl 3 rfl) ?_
          refine px_iald S hT hw 0 2 (n := 62500) (f := (qa_201 9)) rfl (ga_Mpr_9 _ _ _ _ _ _ _) (x := x201_2) (vp_in_iff.mpr (by constructor <;> omega)) d_Mpr_call_252 ?_
          refine lv_topi (fun z14 ez14 => ?_)
          have lz14 := Int32.le_toInt z14
          have uz14 := Int32.toInt_lt z14
          refine px_calli (pr := []) (px_runV (As := [.int z3, .int z14]) (rest := [.int v5, .ref (qr 8)]) S (c_mr_stored l D cs (0 : Int) q qr qg qf_201 qa_201 h r g tf ta pf na ma wa cf ca ef ea xf xa z3 z14  (show 0 ≤ z3.toInt from by first | with_reducible rfl | with_reducible assumption | omega) (show z3.toInt < 1100 from by first | with_reducible rfl | with_reducible assumption | omega) _) hT (pr := []) (pcs := [wd_Mpr cs q qr (fun k => if k = 0 then (some h) else none) qf_201 qa_201 qg, wdP cs h r g tf ta pf na ma wa cf ca ef ea xf xa]) hw (oX_call (P := (fun A U H => (oP A g U H))) (pr := []) oG_P hw hA hP) (px_recv hT hw 0 0 rfl rfl rfl) m14_127 m14_124 m14_126 ms_16_12 m1_22 q_Mpr_stored ⟨Nat.le_of_ble_eq_true rfl, Nat.le_of_ble_eq_true rfl⟩ hl.1 rfl (Nat.le_of_ble_eq_true rfl) d_Mpr_call_253 ⟨Nat.le_of_ble_eq_true rfl, Nat.le_of_ble_eq_true rfl⟩) hw hA (fun v16 p15 H locs hp15 hw => ?_)
          subst hp15
          replace hw : pw D A s.heap H locs [wd_Mpr cs q qr (fun k => if k = 0 then (some h) else none) qf_201 qa_201 qg, wdP cs h r g tf ta pf na ma wa cf ca ef ea xf xa] := hw
          have lv16 := Int32.le_toInt v16
          have uv16 := Int32.toInt_lt v16
          refine px_iast S hT hw 0 1 (n := 37000) (f := (qa_201 8)) (x := v5) (y := v16) rfl (ga_Mpr_8 _ _ _ _ _ _ _) (vp_in_iff.mpr (by constructor <;> omega)) d_Mpr_call_256 (w' := wd_Mpr cs q qr (fun k => if k = 0 then (some h) else none) qf_201 (va_up qa_201 8 (upd (qa_201 8) v5.toNatClampNeg v16)) qg) (ps' := [wd_Mpr cs q qr (fun k => if k = 0 then (some h) else none) qf_201 (va_up qa_201 8 (upd (qa_201 8) v5.toNatClampNeg v16)) qg, wdP cs h r g tf ta pf na ma wa cf ca ef ea xf xa]) (sa_Mpr_8 _ _ _ _ _ _ _ _) rfl (fun H locs hw => ?_)
          obtain ⟨qa17, hu_qa17⟩ : ∃ y : Nat → Nat → Int32, y = va_up qa_201 8 (upd (qa_201 8) v5.toNatClampNeg v16) := ⟨_, rfl⟩; have hw : pw D A s.heap _ _ [wd_Mpr cs q qr (fun k => if k = 0 then (some h) else none) qf_201 qa17 qg, wdP cs h r g tf ta pf na ma wa cf ca ef ea xf xa] := (by rw [hu_qa17]; exact hw); have hcq := hcq.w hu_qa17 (by omega) (by omega); have hgv := hgv.w1 (y := z3) (by omega) hsr (by omega) (by omega) (by omega) hpB.1 hu_qa17 (by omega) (by omega)
          refine lv_aload_n S.x S.b d_Mpr_call_257 rfl (lv_at hl 1 rfl) ?_
          refine lv_iload S.x S.b d_Mpr_call_258 (lv_at hl 0 rfl) ?_
          refine px_calli (pr := []) (px_runV (As := [.int z3]) (rest := []) S (c_mr_isGiven l D cs (0 : Int) q qr qg qf_201 qa17 h r g tf ta pf na ma wa cf ca ef ea xf xa z3  (show 0 ≤ z3.toInt from by first | with_reducible rfl | with_reducible assumption | omega) (show z3.toInt < 1100 from by first | with_reducible rfl | with_reducible assumption | omega) _) hT (pr := []) (pcs := [wd_Mpr cs q qr (fun k => if k = 0 then (some h) else none) qf_201 qa17 qg, wdP cs h r g tf ta pf na ma wa cf ca ef ea xf xa]) hw (oX_call (P := (fun A U H => (oP A g U H))) (pr := []) oG_P hw hA hP) (px_recv hT hw 0 0 rfl rfl rfl) m14_139 m14_136 m14_138 ms_16_15 m1_22 q_Mpr_isGiven ⟨Nat.le_of_ble_eq_true rfl, Nat.le_of_ble_eq_true rfl⟩ hl.1 rfl (Nat.le_of_ble_eq_true rfl) d_Mpr_call_260 ⟨Nat.le_of_ble_eq_true rfl, Nat.le_of_ble_eq_true rfl⟩) hw hA (fun v19 p18 H locs hp18 hw => ?_)
          obtain ⟨rfl, e20, e21, e22, e23⟩ := hp18
          replace e20 : 0 ≤ v19.toInt := e20
          replace e21 : v19.toInt ≤ 1 := e21
          replace e22 : v19.toInt = 1 → 4 ≤ (ca 49 z3.toNatClampNeg).toInt := e22
          replace e23 : v19.toInt = 0 → (ca 49 z3.toNatClampNeg).toInt < 4 := e23
          replace hw : pw D A s.heap H locs [wd_Mpr cs q qr (fun k => if k = 0 then (some h) else none) qf_201 qa17 qg, wdP cs h r g tf ta pf na ma wa cf ca ef ea xf xa] := hw
          have lv19 := Int32.le_toInt v19
          have uv19 := Int32.toInt_lt v19
          refine lv_if_eq (tgt := 290) S.x S.b d_Mpr_call_263 (by decide) (fun c24 => ?_) (fun c24 => ?_)
          · have nc24 : v19.toInt = (0 : Int) := (i_eq (x := v19) (y := 0)).mp c24
            obtain ⟨z25, ez25⟩ : ∃ y : Int32, y = x201_2 + 1 := ⟨_, rfl⟩
            have tz25 : z25.toInt = (x201_2.toInt + 1 + 2147483648) % 4294967296 - 2147483648 := by rw [ez25]; exact i_add x201_2 1
            have lz25 := Int32.le_toInt z25
            have uz25 := Int32.toInt_lt z25
            try replace tz25 : z25.toInt = x201_2.toInt + 1 := by omega
            refine lv_iinc (v := z25) (lv' := [(2, .int z25), (4, .int z3), (0, .ref q), (1, .int p0), (3, .int x201_3)]) S.x S.b d_Mpr_call_290 hl (k := 3) rfl (by rw [ez25]; rfl) (by decide) rfl (fun ls hl => ?_)
            refine lv_aload_n S.x S.b d_Mpr_call_293 rfl (lv_at hl 2 rfl) ?_
            refine px_get S k_Mpr hT hw 0 0 0 (v := .ref h) rfl rfl rfl (by decide) m10_221 d_Mpr_call_294 ?_
            refine px_getN S k_Mpg hT hw 1 0 21 (v := .ref (r 21)) rfl rfl rfl (by decide) m10_8n d_Mpr_call_297 ?_
            refine lv_iload_n S.x S.b d_Mpr_call_300 rfl (lv_at hl 4 rfl) ?_
            refine px_iald S hT hw 1 17 (n := 2100) (f := (na 21)) rfl gp_21 (x := x201_3) (vp_in_iff.mpr (by first | exact oz_f6d6d3f4c3 nc1 hp1 | (constructor <;> omega))) d_Mpr_call_301 ?_
            refine lv_topi (fun z26 ez26 => ?_)
            have lz26 := Int32.le_toInt z26
            have uz26 := Int32.toInt_lt z26
            refine lv_istore_n (lv' := [(3, .int z26), (2, .int z25), (4, .int z3), (0, .ref q), (1, .int p0)]) S.x S.b d_Mpr_call_302 rfl hl (by decide) rfl (fun ls hl => ?_)
            refine lv_goto (tgt := 201) S.x S.b d_Mpr_call_303 (by decide) ?_
            exact ih201 qf_201 qa17 z25 z26 _ _ ls (show (qf_201 1).toInt = (qf 1).toInt from by first | exact k201_0 | omega) (show (qf_201 2).toInt = (qf 2).toInt from by first | exact k201_1 | omega) (show (qf_201 6).toInt = (qf 6).toInt from by first | exact k201_2 | omega) (show (qf_201 7).toInt = (qf 7).toInt from by first | exact k201_3 | omega) (show (qf_201 11).toInt = (qf 11).toInt from by first | exact k201_4 | omega) (show (qf_201 21).toInt = (qf 21).toInt from by first | exact k201_5 | omega) (show (qf_201 23).toInt = (qf 23).toInt from by first | exact k201_6 | omega) (show (qf_201 24).toInt = (qf 24).toInt from by first | exact k201_7 | omega) (show (qf_201 14).toInt = (qf 14).toInt + 1 from by first | exact k201_8 | omega) (show (qf_201 12).toInt = (qf 13).toInt from by first | exact k201_9 | omega) (show (qf_201 13).toInt = (qf 13).toInt + (ca 56 p0.toNatClampNeg).toInt from by first | exact k201_10 | omega) (show (qf_201 5).toInt = (qf 5).toInt - (ca 40 p0.toNatClampNeg).toInt from by first | exact k201_11 | omega) (show 0 ≤ (qf_201 5).toInt from by first | exact k201_12 | omega) (show (qf_201 4).toInt = (qf 4).toInt - 1 from by first | exact k201_13 | omega) (show 1 ≤ (qf 4).toInt from by first | exact k201_14 | omega) (show ClQ qa qa17 (qf 14).toInt ((qf 11).toInt - 1) (qf 12).toInt (qf 13).toInt p0.toInt from hcq) (show (qf_201 10).toInt = (qf 10).toInt - (ea 63 p0.toNatClampNeg).toInt from by first | exact k201_16 | omega) (show 0 ≤ z25.toInt from by first | exact oz_ae613611c0 tz25 k201_17 | omega) (show GvH X9 ca (qa17 8) P9 (qf 13).toInt p0.toInt from hgv) (show PaX X9 ca na ma (qa 9) P9 p0.toInt (qf 10).toInt z25.toInt z26 from (hpB.2.to (by omega) ez26)) (show (qf 10).toInt - z25.toInt < (n_201 : Int) from by first | exact oz_654393c63a hm tz25 | omega) hw (lv_sub hl [3, 4, 1, 0] rfl)
          · have nc24 : ¬ v19.toInt = (0 : Int) := mt (i_eq (x := v19) (y := 0)).mpr c24
            exfalso
            omega
        · have nc13 : ¬ v8.toInt = (0 : Int) := mt (i_eq (x := v8) (y := 0)).mpr c13
          refine lv_aload_n S.x S.b d_Mpr_call_235 rfl (lv_at hl 1 rfl) ?_
          have hpB := hp4.elim (fun q8 => absurd q8.1 (by omega)) id
          refine px_get S k_Mpr hT hw 0 0 9 (v := .ref (qr 9)) rfl rfl rfl (by decide) m10_238 d_Mpr_call_236 ?_
          refine lv_iload_n S.x S.b d_Mpr_call_239 rfl (lv_at hl 3 rfl) ?_
          refine px_iald S hT hw 0 2 (n := 62500) (f := (qa_201 9)) rfl (ga_Mpr_9 _ _ _ _ _ _ _) (x := x201_2) (vp_in_iff.mpr (by constructor <;> omega)) d_Mpr_call_240 ?_
          refine lv_topi (fun z27 ez27 => ?_)
          have lz27 := Int32.le_toInt z27
          have uz27 := Int32.toInt_lt z27
          refine lv_goto (tgt := 256) S.x S.b d_Mpr_call_241 (by decide) ?_
          refine px_iast S hT hw 0 1 (n := 37000) (f := (qa_201 8)) (x := v5) (y := z27) rfl (ga_Mpr_8 _ _ _ _ _ _ _) (vp_in_iff.mpr (by constructor <;> omega)) d_Mpr_call_256 (w' := wd_Mpr cs q qr (fun k => if k = 0 then (some h) else none) qf_201 (va_up qa_201 8 (upd (qa_201 8) v5.toNatClampNeg z27)) qg) (ps' := [wd_Mpr cs q qr (fun k => if k = 0 then (some h) else none) qf_201 (va_up qa_201 8 (upd (qa_201 8) v5.toNatClampNeg z27)) qg, wdP cs h r g tf ta pf na ma wa cf ca ef ea xf xa]) (sa_Mpr_8 _ _ _ _ _ _ _ _) rfl (fun H locs hw => ?_)
          obtain ⟨qa28, hu_qa28⟩ : ∃ y : Nat → Nat → Int32, y = va_up qa_201 8 (upd (qa_201 8) v5.toNatClampNeg z27) := ⟨_, rfl⟩; have hw : pw D A s.heap _ _ [wd_Mpr cs q qr (fun k => if k = 0 then (some h) else none) qf_201 qa28 qg, wdP cs h r g tf ta pf na ma wa cf ca ef ea xf xa] := (by rw [hu_qa28]; exact hw); have hcq1 := hcq; have hcq := hcq.w hu_qa28 (by omega) (by omega)
          refine lv_aload_n S.x S.b d_Mpr_call_257 rfl (lv_at hl 1 rfl) ?_
          refine lv_iload S.x S.b d_Mpr_call_258 (lv_at hl 0 rfl) ?_
          refine px_calli (pr := []) (px_runV (As := [.int z3]) (rest := []) S (c_mr_isGiven l D cs (0 : Int) q qr qg qf_201 qa28 h r g tf ta pf na ma wa cf ca ef ea xf xa z3  (show 0 ≤ z3.toInt from by first | with_reducible rfl | with_reducible assumption | omega) (show z3.toInt < 1100 from by first | with_reducible rfl | with_reducible assumption | omega) _) hT (pr := []) (pcs := [wd_Mpr cs q qr (fun k => if k = 0 then (some h) else none) qf_201 qa28 qg, wdP cs h r g tf ta pf na ma wa cf ca ef ea xf xa]) hw (oX_call (P := (fun A U H => (oP A g U H))) (pr := []) oG_P hw hA hP) (px_recv hT hw 0 0 rfl rfl rfl) m14_139 m14_136 m14_138 ms_16_15 m1_22 q_Mpr_isGiven ⟨Nat.le_of_ble_eq_true rfl, Nat.le_of_ble_eq_true rfl⟩ hl.1 rfl (Nat.le_of_ble_eq_true rfl) d_Mpr_call_260 ⟨Nat.le_of_ble_eq_true rfl, Nat.le_of_ble_eq_true rfl⟩) hw hA (fun v30 p29 H locs hp29 hw => ?_)
          obtain ⟨rfl, e31, e32, e33, e34⟩ := hp29
          replace e31 : 0 ≤ v30.toInt := e31
          replace e32 : v30.toInt ≤ 1 := e32
          replace e33 : v30.toInt = 1 → 4 ≤ (ca 49 z3.toNatClampNeg).toInt := e33
          replace e34 : v30.toInt = 0 → (ca 49 z3.toNatClampNeg).toInt < 4 := e34
          replace hw : pw D A s.heap H locs [wd_Mpr cs q qr (fun k => if k = 0 then (some h) else none) qf_201 qa28 qg, wdP cs h r g tf ta pf na ma wa cf ca ef ea xf xa] := hw
          have lv30 := Int32.le_toInt v30
          have uv30 := Int32.toInt_lt v30
          refine lv_if_eq (tgt := 290) S.x S.b d_Mpr_call_263 (by decide) (fun c35 => ?_) (fun c35 => ?_)
          · have nc35 : v30.toInt = (0 : Int) := (i_eq (x := v30) (y := 0)).mp c35
            exfalso
            omega
          · have nc35 : ¬ v30.toInt = (0 : Int) := mt (i_eq (x := v30) (y := 0)).mpr c35
            refine lv_aload_n S.x S.b d_Mpr_call_266 rfl (lv_at hl 1 rfl) ?_
            refine px_get S k_Mpr hT hw 0 0 8 (v := .ref (qr 8)) rfl rfl rfl (by decide) m10_236 d_Mpr_call_267 ?_
            refine lv_aload_n S.x S.b d_Mpr_call_270 rfl (lv_at hl 1 rfl) ?_
            refine lv_iload S.x S.b d_Mpr_call_271 (lv_at hl 0 rfl) ?_
            refine px_calli (pr := []) (px_runV (As := [.int z3]) (rest := [.ref (qr 8)]) S (c_mr_cellOf l D cs (0 : Int) q qr qg qf_201 qa28 h r g tf ta pf na ma wa cf ca ef ea xf xa z3  (show 0 ≤ z3.toInt from by first | with_reducible rfl | with_reducible assumption | omega) (show z3.toInt < 1100 from by first | with_reducible rfl | with_reducible assumption | omega) (show 0 ≤ clo ca (qf_201 12).toInt z3 from by first | with_reducible rfl | with_reducible assumption | omega) (show clo ca (qf_201 12).toInt z3 ≤ 36990 from by first | with_reducible rfl | with_reducible assumption | omega) _) hT (pr := []) (pcs := [wd_Mpr cs q qr (fun k => if k = 0 then (some h) else none) qf_201 qa28 qg, wdP cs h r g tf ta pf na ma wa cf ca ef ea xf xa]) hw (oX_call (P := (fun A U H => (oP A g U H))) (pr := []) oG_P hw hA hP) (px_recv hT hw 0 0 rfl rfl rfl) m14_119 m14_116 m14_118 ms_16_11 m1_22 q_Mpr_cellOf ⟨Nat.le_of_ble_eq_true rfl, Nat.le_of_ble_eq_true rfl⟩ hl.1 rfl (Nat.le_of_ble_eq_true rfl) d_Mpr_call_273 ⟨Nat.le_of_ble_eq_true rfl, Nat.le_of_ble_eq_true rfl⟩) hw hA (fun v37 p36 H locs hp36 hw => ?_)
            obtain ⟨rfl, e38⟩ := hp36
            replace e38 : v37.toInt = clo ca (qf_201 12).toInt z3 := e38
            replace hw : pw D A s.heap H locs [wd_Mpr cs q qr (fun k => if k = 0 then (some h) else none) qf_201 qa28 qg, wdP cs h r g tf ta pf na ma wa cf ca ef ea xf xa] := hw
            have lv37 := Int32.le_toInt v37
            have uv37 := Int32.toInt_lt v37
            refine lv_iconst (v := 1) S.x S.b d_Mpr_call_276 (by decide) ?_
            refine lv_iadd S.x S.b d_Mpr_call_277 ?_
            refine lv_topi (fun z39 ez39 => ?_)
            have tz39 : z39.toInt = (v37.toInt + (1 : Int) + 2147483648) % 4294967296 - 2147483648 := by rw [ez39]; exact i_add v37 1
            have lz39 := Int32.le_toInt z39
            have uz39 := Int32.toInt_lt z39
            try replace tz39 : z39.toInt = v37.toInt + (1 : Int) := by omega
            refine lv_aload_n S.x S.b d_Mpr_call_278 rfl (lv_at hl 1 rfl) ?_
            refine px_get S k_Mpr hT hw 0 0 9 (v := .ref (qr 9)) rfl rfl rfl (by decide) m10_238 d_Mpr_call_279 ?_
            refine lv_iload_n S.x S.b d_Mpr_call_282 rfl (lv_at hl 3 rfl) ?_
            refine lv_iconst (v := 1) S.x S.b d_Mpr_call_283 (by decide) ?_
            refine lv_iadd S.x S.b d_Mpr_call_284 ?_
            refine lv_topi (fun z40 ez40 => ?_)
            have tz40 : z40.toInt = (x201_2.toInt + (1 : Int) + 2147483648) % 4294967296 - 2147483648 := by rw [ez40]; exact i_add x201_2 1
            have lz40 := Int32.le_toInt z40
            have uz40 := Int32.toInt_lt z40
            try replace tz40 : z40.toInt = x201_2.toInt + (1 : Int) := by omega
            refine px_iald S hT hw 0 2 (n := 62500) (f := (qa28 9)) rfl (ga_Mpr_9 _ _ _ _ _ _ _) (x := z40) (vp_in_iff.mpr (by constructor <;> omega)) d_Mpr_call_285 ?_
            refine lv_topi (fun z41 ez41 => ?_)
            have lz41 := Int32.le_toInt z41
            have uz41 := Int32.toInt_lt z41
            refine px_iast S hT hw 0 1 (n := 37000) (f := (qa28 8)) (x := z39) (y := z41) rfl (ga_Mpr_8 _ _ _ _ _ _ _) (vp_in_iff.mpr (by constructor <;> omega)) d_Mpr_call_286 (w' := wd_Mpr cs q qr (fun k => if k = 0 then (some h) else none) qf_201 (va_up qa28 8 (upd (qa28 8) z39.toNatClampNeg z41)) qg) (ps' := [wd_Mpr cs q qr (fun k => if k = 0 then (some h) else none) qf_201 (va_up qa28 8 (upd (qa28 8) z39.toNatClampNeg z41)) qg, wdP cs h r g tf ta pf na ma wa cf ca ef ea xf xa]) (sa_Mpr_8 _ _ _ _ _ _ _ _) rfl (fun H locs hw => ?_)
            obtain ⟨qa42, hu_qa42⟩ : ∃ y : Nat → Nat → Int32, y = va_up qa28 8 (upd (qa28 8) z39.toNatClampNeg z41) := ⟨_, rfl⟩; have hw : pw D A s.heap _ _ [wd_Mpr cs q qr (fun k => if k = 0 then (some h) else none) qf_201 qa42 qg, wdP cs h r g tf ta pf na ma wa cf ca ef ea xf xa] := (by rw [hu_qa42]; exact hw); have hd9 := hdv_at hpB.2.2.1 ez27 hcq1.2.2.1 (by omega) ez41 hcq.2.2.1 (by omega) (by omega); have hcq := hcq.w hu_qa42 (by omega) (by omega); have hgv := hgv.w2 (y := z3) (by omega) hsr (by omega) (by omega) (by omega) hpB.1 hu_qa28 hu_qa42 (by omega) (by omega) (by omega) (by omega) hd9
            obtain ⟨z43, ez43⟩ : ∃ y : Int32, y = x201_2 + 1 := ⟨_, rfl⟩
            have tz43 : z43.toInt = (x201_2.toInt + 1 + 2147483648) % 4294967296 - 2147483648 := by rw [ez43]; exact i_add x201_2 1
            have lz43 := Int32.le_toInt z43
            have uz43 := Int32.toInt_lt z43
            try replace tz43 : z43.toInt = x201_2.toInt + 1 := by omega
            refine lv_iinc (v := z43) (lv' := [(2, .int z43), (4, .int z3), (0, .ref q), (1, .int p0), (3, .int x201_3)]) S.x S.b d_Mpr_call_287 hl (k := 3) rfl (by rw [ez43]; rfl) (by decide) rfl (fun ls hl => ?_)
            obtain ⟨z44, ez44⟩ : ∃ y : Int32, y = z43 + 1 := ⟨_, rfl⟩
            have tz44 : z44.toInt = (z43.toInt + 1 + 2147483648) % 4294967296 - 2147483648 := by rw [ez44]; exact i_add z43 1
            have lz44 := Int32.le_toInt z44
            have uz44 := Int32.toInt_lt z44
            try replace tz44 : z44.toInt = z43.toInt + 1 := by omega
            refine lv_iinc (v := z44) (lv' := [(2, .int z44), (4, .int z3), (0, .ref q), (1, .int p0), (3, .int x201_3)]) S.x S.b d_Mpr_call_290 hl (k := 0) rfl (by rw [ez44]; rfl) (by decide) rfl (fun ls hl => ?_)
            refine lv_aload_n S.x S.b d_Mpr_call_293 rfl (lv_at hl 2 rfl) ?_
            refine px_get S k_Mpr hT hw 0 0 0 (v := .ref h) rfl rfl rfl (by decide) m10_221 d_Mpr_call_294 ?_
            refine px_getN S k_Mpg hT hw 1 0 21 (v := .ref (r 21)) rfl rfl rfl (by decide) m10_8n d_Mpr_call_297 ?_
            refine lv_iload_n S.x S.b d_Mpr_call_300 rfl (lv_at hl 4 rfl) ?_
            refine px_iald S hT hw 1 17 (n := 2100) (f := (na 21)) rfl gp_21 (x := x201_3) (vp_in_iff.mpr (by first | exact oz_f6d6d3f4c3 nc1 hp1 | (constructor <;> omega))) d_Mpr_call_301 ?_
            refine lv_topi (fun z45 ez45 => ?_)
            have lz45 := Int32.le_toInt z45
            have uz45 := Int32.toInt_lt z45
            refine lv_istore_n (lv' := [(3, .int z45), (2, .int z44), (4, .int z3), (0, .ref q), (1, .int p0)]) S.x S.b d_Mpr_call_302 rfl hl (by decide) rfl (fun ls hl => ?_)
            refine lv_goto (tgt := 201) S.x S.b d_Mpr_call_303 (by decide) ?_
            exact ih201 qf_201 qa42 z44 z45 _ _ ls (show (qf_201 1).toInt = (qf 1).toInt from by first | exact k201_0 | omega) (show (qf_201 2).toInt = (qf 2).toInt from by first | exact k201_1 | omega) (show (qf_201 6).toInt = (qf 6).toInt from by first | exact k201_2 | omega) (show (qf_201 7).toInt = (qf 7).toInt from by first | exact k201_3 | omega) (show (qf_201 11).toInt = (qf 11).toInt from by first | exact k201_4 | omega) (show (qf_201 21).toInt = (qf 21).toInt from by first | exact k201_5 | omega) (show (qf_201 23).toInt = (qf 23).toInt from by first | exact k201_6 | omega) (show (qf_201 24).toInt = (qf 24).toInt from by first | exact k201_7 | omega) (show (qf_201 14).toInt = (qf 14).toInt + 1 from by first | exact k201_8 | omega) (show (qf_201 12).toInt = (qf 13).toInt from by first | exact k201_9 | omega) (show (qf_201 13).toInt = (qf 13).toInt + (ca 56 p0.toNatClampNeg).toInt from by first | exact k201_10 | omega) (show (qf_201 5).toInt = (qf 5).toInt - (ca 40 p0.toNatClampNeg).toInt from by first | exact k201_11 | omega) (show 0 ≤ (qf_201 5).toInt from by first | exact k201_12 | omega) (show (qf_201 4).toInt = (qf 4).toInt - 1 from by first | exact k201_13 | omega) (show 1 ≤ (qf 4).toInt from by first | exact k201_14 | omega) (show ClQ qa qa42 (qf 14).toInt ((qf 11).toInt - 1) (qf 12).toInt (qf 13).toInt p0.toInt from hcq) (show (qf_201 10).toInt = (qf 10).toInt - (ea 63 p0.toNatClampNeg).toInt from by first | exact k201_16 | omega) (show 0 ≤ z44.toInt from by first | exact oz_b2ea072c50 tz44 tz43 k201_17 | omega) (show GvH X9 ca (qa42 8) P9 (qf 13).toInt p0.toInt from hgv) (show PaX X9 ca na ma (qa 9) P9 p0.toInt (qf 10).toInt z44.toInt z45 from (hpB.2.2.2.to (by omega) ez45)) (show (qf 10).toInt - z44.toInt < (n_201 : Int) from by first | exact oz_127e7dbe39 hm tz44 tz43 | omega) hw (lv_sub hl [3, 4, 1, 0] rfl)
  have J139 : ∀ (n_139 : Nat) (qf_139 : Nat → Int32) (qa_139 : Nat → Nat → Int32) (x139_2 : Int32) (H : Heap) (locs : List Loc) (ls : Array Slot), ((qf_139 1).toInt = (qf 1).toInt) → ((qf_139 2).toInt = (qf 2).toInt) → ((qf_139 6).toInt = (qf 6).toInt) → ((qf_139 7).toInt = (qf 7).toInt) → ((qf_139 11).toInt = (qf 11).toInt) → ((qf_139 21).toInt = (qf 21).toInt) → ((qf_139 23).toInt = (qf 23).toInt) → ((qf_139 24).toInt = (qf 24).toInt) → ((qf_139 14).toInt = (qf 14).toInt + 1) → ((qf_139 12).toInt = (qf 13).toInt) → ((qf_139 13).toInt = (qf 13).toInt + (ca 56 p0.toNatClampNeg).toInt) → ((qf_139 5).toInt = (qf 5).toInt - (ca 40 p0.toNatClampNeg).toInt) → (0 ≤ (qf_139 5).toInt) → ((qf_139 4).toInt = (qf 4).toInt - 1) → (1 ≤ (qf 4).toInt) → (ClQ qa qa_139 (qf 14).toInt ((qf 11).toInt - 1) (qf 12).toInt (qf 13).toInt p0.toInt) → ((qf_139 10).toInt = (qf 10).toInt) → ((qf 13).toInt ≤ x139_2.toInt) → (x139_2.toInt ≤ (qf_139 13).toInt) → (ZeC (qa_139 8) (qf 13).toInt x139_2.toInt) → (qf_139 13).toInt - x139_2.toInt < (n_139 : Int) → pw D A s.heap H locs [wd_Mpr cs q qr (fun k => if k = 0 then (some h) else none) qf_139 qa_139 qg, wdP cs h r g tf ta pf na ma wa cf ca ef ea xf xa] → lv_has ls 5 [(0, .ref q), (1, .int p0), (2, .int x139_2)] → W p l e { frames := 3, cells := 0, slots := 0, locals := 120 } s m [.ref q, .int p0].toArray below meth c H locs 0 0 (MQ below (va_Qv (fun ps => ∃ (qf' : Nat → Int32) (qa' : Nat → Nat → Int32), (ps = [wd_Mpr cs q qr (fun k => if k = 0 then (some h) else none) qf' qa' qg, wdP cs h r g tf ta pf na ma wa cf ca ef ea xf xa]) ∧ ((qf' 1).toInt = (qf 1).toInt) ∧ ((qf' 6).toInt = (qf 6).toInt) ∧ ((qf' 7).toInt = (qf 7).toInt) ∧ ((qf' 21).toInt = (qf 21).toInt) ∧ ((qf' 23).toInt = (qf 23).toInt) ∧ ((qf' 24).toInt = (qf 24).toInt) ∧ (RzO (qf' 2).toInt (RuZ X9 K9 ca qa' (cf 55).toInt (cf 38).toInt st9 (qf' 14).toInt (qf' 11).toInt (qf' 10).toInt (qf' 12).toInt (qf' 13).toInt (qf' 5).toInt (qf' 4).toInt (rkN (qf 4).toInt (qf 14).toInt (v8 : Int) ((qf 11).toInt - 1))))) (pc_B D (va_A ([wd_Mpr cs q qr (fun k => if k = 0 then (some h) else none) qf qa qg, wdP cs h r g tf ta pf na ma wa cf ca ef ea xf xa] : List va_W).flatten s.heap.size)) (va_A ([wd_Mpr cs q qr (fun k => if k = 0 then (some h) else none) qf qa qg, wdP cs h r g tf ta pf na ma wa cf ca ef ea xf xa] : List va_W).flatten s.heap.size)) [.ref q, .int p0].toArray s 0 0 A) (F0 m 139 ls []) := by
    intro  n_139
    induction n_139 with
    | zero =>
      intro qf_139 qa_139 x139_2 H locs ls k139_0 k139_1 k139_2 k139_3 k139_4 k139_5 k139_6 k139_7 k139_8 k139_9 k139_10 k139_11 k139_12 k139_13 k139_14 k139_15 k139_16 k139_17 k139_18 k139_19 hm hw hl
      have lx139_2 := Int32.le_toInt x139_2
      have ux139_2 := Int32.toInt_lt x139_2
      have hcq := k139_15
      have hze := k139_19
      exact absurd hm (by omega)
    | succ n_139 ih139 =>
      intro qf_139 qa_139 x139_2 H locs ls k139_0 k139_1 k139_2 k139_3 k139_4 k139_5 k139_6 k139_7 k139_8 k139_9 k139_10 k139_11 k139_12 k139_13 k139_14 k139_15 k139_16 k139_17 k139_18 k139_19 hm hw hl
      have lx139_2 := Int32.le_toInt x139_2
      have ux139_2 := Int32.toInt_lt x139_2
      have hcq := k139_15
      have hze := k139_19
      refine lv_iload_n S.x S.b d_Mpr_call_139 rfl (lv_at hl 2 rfl) ?_
      refine lv_aload_n S.x S.b d_Mpr_call_140 rfl (lv_at hl 0 rfl) ?_
      refine px_get S k_Mpr hT hw 0 0 13 (v := .int (qf_139 13)) rfl rfl rfl (by decide) m11_5 d_Mpr_call_141 ?_
      refine lv_icmp_ge (tgt := 160) S.x S.b d_Mpr_call_144 (by decide) (fun c46 => ?_) (fun c46 => ?_)
      · have nc46 : (qf_139 13).toInt ≤ x139_2.toInt := (i_le (x := (qf_139 13)) (y := x139_2)).mp c46
        refine lv_aload_n S.x S.b d_Mpr_call_160 rfl (lv_at hl 0 rfl) ?_
        refine lv_aload_n S.x S.b d_Mpr_call_161 rfl (lv_at hl 0 rfl) ?_
        refine px_get S k_Mpr hT hw 0 0 10 (v := .int (qf_139 10)) rfl rfl rfl (by decide) m11_0 d_Mpr_call_162 ?_
        refine lv_aload_n S.x S.b d_Mpr_call_165 rfl (lv_at hl 0 rfl) ?_
        refine px_get S k_Mpr hT hw 0 0 0 (v := .ref h) rfl rfl rfl (by decide) m10_221 d_Mpr_call_166 ?_
        refine px_getN S k_Mpg hT hw 1 0 63 (v := .ref (r 63)) rfl rfl rfl (by decide) m10_63n d_Mpr_call_169 ?_
        refine lv_iload_n S.x S.b d_Mpr_call_172 rfl (lv_at hl 1 rfl) ?_
        refine px_iald S hT hw 1 36 (n := 260) (f := (ea 63)) rfl gp_63 (x := p0) (vp_in_iff.mpr (by constructor <;> omega)) d_Mpr_call_173 ?_
        refine lv_topi (fun z47 ez47 => ?_)
        have lz47 := Int32.le_toInt z47
        have uz47 := Int32.toInt_lt z47
        have rz47 : z47.toInt = (ea 63 p0.toNatClampNeg).toInt := by rw [ez47]
        refine lv_isub S.x S.b d_Mpr_call_174 ?_
        have lr48 := Int32.le_toInt (qf_139 10)
        have ur48 := Int32.toInt_lt (qf_139 10)
        refine lv_topi (fun z49 ez49 => ?_)
        have tz49 : z49.toInt = ((qf_139 10).toInt - z47.toInt + 2147483648) % 4294967296 - 2147483648 := by rw [ez49]; exact i_sub (qf_139 10) z47
        have lz49 := Int32.le_toInt z49
        have uz49 := Int32.toInt_lt z49
        try replace tz49 : z49.toInt = (qf_139 10).toInt - z47.toInt := by omega
        refine px_put S k_Mpr hT hw 0 0 10 rfl rfl (by decide) m11_0 rfl rfl rfl (Nat.le_of_ble_eq_true rfl) d_Mpr_call_175 (w' := wd_Mpr cs q qr (fun k => if k = 0 then (some h) else none) (upd qf_139 10 z49) qa_139 qg) (ps' := [wd_Mpr cs q qr (fun k => if k = 0 then (some h) else none) (upd qf_139 10 z49) qa_139 qg, wdP cs h r g tf ta pf na ma wa cf ca ef ea xf xa]) rfl rfl (fun H locs hw => ?_)
        refine lv_aload_n S.x S.b d_Mpr_call_178 rfl (lv_at hl 0 rfl) ?_
        refine px_get S k_Mpr hT hw 0 0 10 (v := .int z49) rfl rfl rfl (by decide) m11_0 d_Mpr_call_179 ?_
        refine lv_istore_n (lv' := [(2, .int z49), (0, .ref q), (1, .int p0)]) S.x S.b d_Mpr_call_182 rfl hl (by decide) rfl (fun ls hl => ?_)
        refine lv_aload_n S.x S.b d_Mpr_call_183 rfl (lv_at hl 1 rfl) ?_
        refine px_get S k_Mpr hT hw 0 0 0 (v := .ref h) rfl rfl rfl (by decide) m10_221 d_Mpr_call_184 ?_
        refine px_getN S k_Mpg hT hw 1 0 17 (v := .ref (r 17)) rfl rfl rfl (by decide) m10_2n d_Mpr_call_187 ?_
        refine lv_aload_n S.x S.b d_Mpr_call_190 rfl (lv_at hl 1 rfl) ?_
        refine px_get S k_Mpr hT hw 0 0 0 (v := .ref h) rfl rfl rfl (by decide) m10_221 d_Mpr_call_191 ?_
        refine px_getN S k_Mpg hT hw 1 0 39 (v := .ref (r 39)) rfl rfl rfl (by decide) m10_29n d_Mpr_call_194 ?_
        refine lv_iload_n S.x S.b d_Mpr_call_197 rfl (lv_at hl 2 rfl) ?_
        refine px_iald S hT hw 1 26 (n := 260) (f := (ca 39)) rfl gp_39 (x := p0) (vp_in_iff.mpr (by constructor <;> omega)) d_Mpr_call_198 ?_
        refine lv_topi (fun z50 ez50 => ?_)
        have lz50 := Int32.le_toInt z50
        have uz50 := Int32.toInt_lt z50
        have rz50 : z50.toInt = (ca 39 p0.toNatClampNeg).toInt := by rw [ez50]
        have hf39 := FnT.at hft (by omega) (by omega) ez50
        refine px_iald S hT hw 1 13 (n := 2100) (f := (na 17)) rfl gp_17 (x := z50) (vp_in_iff.mpr (by constructor <;> omega)) d_Mpr_call_199 ?_
        refine lv_topi (fun z51 ez51 => ?_)
        have lz51 := Int32.le_toInt z51
        have uz51 := Int32.toInt_lt z51
        refine lv_istore_n (lv' := [(3, .int z51), (2, .int z49), (0, .ref q), (1, .int p0)]) S.x S.b d_Mpr_call_200 rfl hl (by decide) rfl (fun ls hl => ?_)
        exact J201 (((qf 10).toInt - z49.toInt).toNat + 1) (upd qf_139 10 z49) qa_139 z49 z51 _ _ ls (show (qf_139 1).toInt = (qf 1).toInt from by first | exact k139_0 | omega) (show (qf_139 2).toInt = (qf 2).toInt from by first | exact k139_1 | omega) (show (qf_139 6).toInt = (qf 6).toInt from by first | exact k139_2 | omega) (show (qf_139 7).toInt = (qf 7).toInt from by first | exact k139_3 | omega) (show (qf_139 11).toInt = (qf 11).toInt from by first | exact k139_4 | omega) (show (qf_139 21).toInt = (qf 21).toInt from by first | exact k139_5 | omega) (show (qf_139 23).toInt = (qf 23).toInt from by first | exact k139_6 | omega) (show (qf_139 24).toInt = (qf 24).toInt from by first | exact k139_7 | omega) (show (qf_139 14).toInt = (qf 14).toInt + 1 from by first | exact k139_8 | omega) (show (qf_139 12).toInt = (qf 13).toInt from by first | exact k139_9 | omega) (show (qf_139 13).toInt = (qf 13).toInt + (ca 56 p0.toNatClampNeg).toInt from by first | exact k139_10 | omega) (show (qf_139 5).toInt = (qf 5).toInt - (ca 40 p0.toNatClampNeg).toInt from by first | exact k139_11 | omega) (show 0 ≤ (qf_139 5).toInt from by first | exact k139_12 | omega) (show (qf_139 4).toInt = (qf 4).toInt - 1 from by first | exact k139_13 | omega) (show 1 ≤ (qf 4).toInt from by first | exact k139_14 | omega) (show ClQ qa qa_139 (qf 14).toInt ((qf 11).toInt - 1) (qf 12).toInt (qf 13).toInt p0.toInt from hcq) (show z49.toInt = (qf 10).toInt - (ea 63 p0.toNatClampNeg).toInt from by first | exact oz_d8b32f9bc5 k139_16 rz47 tz49 | omega) (show 0 ≤ z49.toInt from by first | exact oz_a313481e97 tz49 k139_16 rz47 hpa.2 | omega) (show GvH X9 ca (qa_139 8) P9 (qf 13).toInt p0.toInt from (gvh_0 (fun i9 a9 b9 => hze i9 a9 (by have b8 : (i9 : Int) < (qf 13).toInt + (ca 56 p0.toNatClampNeg).toInt := b9; omega)) (by omega) hsr)) (show PaX X9 ca na ma (qa 9) P9 p0.toInt (qf 10).toInt z49.toInt z51 from (hpx0.to (by omega) (by rw [ez51, ez50]))) (show (qf 10).toInt - z49.toInt < (((((qf 10).toInt - z49.toInt).toNat + 1 : Nat) : Int) : Int) from by first | exact oz_natlt | omega) hw (lv_sub hl [2, 3, 1, 0] rfl)
      · have nc46 : ¬ (qf_139 13).toInt ≤ x139_2.toInt := mt (i_le (x := (qf_139 13)) (y := x139_2)).mpr c46
        refine lv_aload_n S.x S.b d_Mpr_call_147 rfl (lv_at hl 0 rfl) ?_
        refine px_get S k_Mpr hT hw 0 0 8 (v := .ref (qr 8)) rfl rfl rfl (by decide) m10_236 d_Mpr_call_148 ?_
        refine lv_iload_n S.x S.b d_Mpr_call_151 rfl (lv_at hl 2 rfl) ?_
        refine lv_iconst (v := 0) S.x S.b d_Mpr_call_152 (by decide) ?_
        refine px_iast S hT hw 0 1 (n := 37000) (f := (qa_139 8)) (x := x139_2) (y := 0) rfl (ga_Mpr_8 _ _ _ _ _ _ _) (vp_in_iff.mpr (by constructor <;> omega)) d_Mpr_call_153 (w' := wd_Mpr cs q qr (fun k => if k = 0 then (some h) else none) qf_139 (va_up qa_139 8 (upd (qa_139 8) x139_2.toNatClampNeg 0)) qg) (ps' := [wd_Mpr cs q qr (fun k => if k = 0 then (some h) else none) qf_139 (va_up qa_139 8 (upd (qa_139 8) x139_2.toNatClampNeg 0)) qg, wdP cs h r g tf ta pf na ma wa cf ca ef ea xf xa]) (sa_Mpr_8 _ _ _ _ _ _ _ _) rfl (fun H locs hw => ?_)
        obtain ⟨qa52, hu_qa52⟩ : ∃ y : Nat → Nat → Int32, y = va_up qa_139 8 (upd (qa_139 8) x139_2.toNatClampNeg 0) := ⟨_, rfl⟩; have hw : pw D A s.heap _ _ [wd_Mpr cs q qr (fun k => if k = 0 then (some h) else none) qf_139 qa52 qg, wdP cs h r g tf ta pf na ma wa cf ca ef ea xf xa] := (by rw [hu_qa52]; exact hw); have hcq := hcq.w hu_qa52 (by omega) (by omega); have hze := hze.w hu_qa52 rfl (by omega) rfl rfl
        obtain ⟨z53, ez53⟩ : ∃ y : Int32, y = x139_2 + 1 := ⟨_, rfl⟩
        have tz53 : z53.toInt = (x139_2.toInt + 1 + 2147483648) % 4294967296 - 2147483648 := by rw [ez53]; exact i_add x139_2 1
        have lz53 := Int32.le_toInt z53
        have uz53 := Int32.toInt_lt z53
        try replace tz53 : z53.toInt = x139_2.toInt + 1 := by omega
        refine lv_iinc (v := z53) (lv' := [(2, .int z53), (0, .ref q), (1, .int p0)]) S.x S.b d_Mpr_call_154 hl (k := 2) rfl (by rw [ez53]; rfl) (by decide) rfl (fun ls hl => ?_)
        refine lv_goto (tgt := 139) S.x S.b d_Mpr_call_157 (by decide) ?_
        exact ih139 qf_139 qa52 z53 _ _ ls (show (qf_139 1).toInt = (qf 1).toInt from by first | exact k139_0 | omega) (show (qf_139 2).toInt = (qf 2).toInt from by first | exact k139_1 | omega) (show (qf_139 6).toInt = (qf 6).toInt from by first | exact k139_2 | omega) (show (qf_139 7).toInt = (qf 7).toInt from by first | exact k139_3 | omega) (show (qf_139 11).toInt = (qf 11).toInt from by first | exact k139_4 | omega) (show (qf_139 21).toInt = (qf 21).toInt from by first | exact k139_5 | omega) (show (qf_139 23).toInt = (qf 23).toInt from by first | exact k139_6 | omega) (show (qf_139 24).toInt = (qf 24).toInt from by first | exact k139_7 | omega) (show (qf_139 14).toInt = (qf 14).toInt + 1 from by first | exact k139_8 | omega) (show (qf_139 12).toInt = (qf 13).toInt from by first | exact k139_9 | omega) (show (qf_139 13).toInt = (qf 13).toInt + (ca 56 p0.toNatClampNeg).toInt from by first | exact k139_10 | omega) (show (qf_139 5).toInt = (qf 5).toInt - (ca 40 p0.toNatClampNeg).toInt from by first | exact k139_11 | omega) (show 0 ≤ (qf_139 5).toInt from by first | exact k139_12 | omega) (show (qf_139 4).toInt = (qf 4).toInt - 1 from by first | exact k139_13 | omega) (show 1 ≤ (qf 4).toInt from by first | exact k139_14 | omega) (show ClQ qa qa52 (qf 14).toInt ((qf 11).toInt - 1) (qf 12).toInt (qf 13).toInt p0.toInt from hcq) (show (qf_139 10).toInt = (qf 10).toInt from by first | exact k139_16 | omega) (show (qf 13).toInt ≤ z53.toInt from by first | exact oz_887c409de9 k139_17 tz53 | omega) (show z53.toInt ≤ (qf_139 13).toInt from by first | exact oz_b1314744c8 nc46 tz53 | omega) (show ZeC (qa52 8) (qf 13).toInt z53.toInt from (fun i9 a9 b9 => hze i9 a9 (by omega))) (show (qf_139 13).toInt - z53.toInt < (n_139 : Int) from by first | exact oz_654393c63a hm tz53 | omega) hw (lv_sub hl [1, 2, 0] rfl)
  refine lv_aload_n S.x S.b d_Mpr_call_0 rfl (lv_at hl 0 rfl) ?_
  refine px_calli (pr := []) (px_runV (As := []) (rest := []) S (c_mr_takesWork l D cs (0 : Int) q qr qg qa qf h r g tf ta pf na ma wa cf ca ef ea xf xa   (show 0 ≤ (qf 4).toInt from by first | exact hq9.2.1 | omega) _) hT (pr := []) (pcs := [wd_Mpr cs q qr (fun k => if k = 0 then (some h) else none) qf qa qg, wdP cs h r g tf ta pf na ma wa cf ca ef ea xf xa]) hw (oX_call (P := (fun A U H => (oP A g U H))) (pr := []) oG_P hw hA hP) (px_recv hT hw 0 0 rfl rfl rfl) m14_102 m14_165 m14_100 m14_101 m1_22 q_Mpr_takesWork ⟨Nat.le_of_ble_eq_true rfl, Nat.le_of_ble_eq_true rfl⟩ hl.1 rfl (Nat.le_of_ble_eq_true rfl) d_Mpr_call_1 ⟨Nat.le_of_ble_eq_true rfl, Nat.le_of_ble_eq_true rfl⟩) hw hA (fun v57 p56 H locs hp56 hw => ?_)
  obtain ⟨qf55, rfl, e58, e59, e60, e61, e62, e63, e64, e65, e66, e67, e68, e69, e70, e71, e72, e73, e74, e75, e76⟩ := hp56
  replace e58 : 0 ≤ v57.toInt := e58
  replace e59 : v57.toInt ≤ 1 := e59
  replace e60 : v57.toInt = 1 → (qf55 4).toInt = (qf 4).toInt - 1 := e60
  replace e61 : v57.toInt = 1 → (qf55 2).toInt = (qf 2).toInt := e61
  replace e62 : v57.toInt = 1 → 1 ≤ (qf 4).toInt := e62
  replace e63 : v57.toInt = 0 → (qf55 2).toInt = 5 := e63
  replace e64 : v57.toInt = 0 → (qf55 4).toInt = (qf 4).toInt := e64
  replace e65 : (qf55 1).toInt = (qf 1).toInt := e65
  replace e66 : (qf55 5).toInt = (qf 5).toInt := e66
  replace e67 : (qf55 6).toInt = (qf 6).toInt := e67
  replace e68 : (qf55 7).toInt = (qf 7).toInt := e68
  replace e69 : (qf55 10).toInt = (qf 10).toInt := e69
  replace e70 : (qf55 11).toInt = (qf 11).toInt := e70
  replace e71 : (qf55 12).toInt = (qf 12).toInt := e71
  replace e72 : (qf55 13).toInt = (qf 13).toInt := e72
  replace e73 : (qf55 14).toInt = (qf 14).toInt := e73
  replace e74 : (qf55 21).toInt = (qf 21).toInt := e74
  replace e75 : (qf55 23).toInt = (qf 23).toInt := e75
  replace e76 : (qf55 24).toInt = (qf 24).toInt := e76
  replace hw : pw D A s.heap H locs [wd_Mpr cs q qr (fun k => if k = 0 then (some h) else none) qf55 qa qg, wdP cs h r g tf ta pf na ma wa cf ca ef ea xf xa] := hw
  have lv57 := Int32.le_toInt v57
  have uv57 := Int32.toInt_lt v57
  refine lv_if_ne (tgt := 8) S.x S.b d_Mpr_call_4 (by decide) (fun c77 => ?_) (fun c77 => ?_)
  · have nc77 : ¬ v57.toInt = (0 : Int) := mt (i_eq (x := v57) (y := 0)).mpr c77
    refine lv_aload_n S.x S.b d_Mpr_call_8 rfl (lv_at hl 0 rfl) ?_
    refine px_get S k_Mpr hT hw 0 0 5 (v := .int (qf55 5)) rfl rfl rfl (by decide) m10_231 d_Mpr_call_9 ?_
    refine lv_aload_n S.x S.b d_Mpr_call_12 rfl (lv_at hl 0 rfl) ?_
    refine px_get S k_Mpr hT hw 0 0 0 (v := .ref h) rfl rfl rfl (by decide) m10_221 d_Mpr_call_13 ?_
    refine px_getN S k_Mpg hT hw 1 0 40 (v := .ref (r 40)) rfl rfl rfl (by decide) m10_31n d_Mpr_call_16 ?_
    refine lv_iload_n S.x S.b d_Mpr_call_19 rfl (lv_at hl 1 rfl) ?_
    refine px_iald S hT hw 1 27 (n := 260) (f := (ca 40)) rfl gp_40 (x := p0) (vp_in_iff.mpr (by constructor <;> omega)) d_Mpr_call_20 ?_
    refine lv_topi (fun z78 ez78 => ?_)
    have lz78 := Int32.le_toInt z78
    have uz78 := Int32.toInt_lt z78
    have rz78 : z78.toInt = (ca 40 p0.toNatClampNeg).toInt := by rw [ez78]
    refine lv_icmp_ge (tgt := 31) S.x S.b d_Mpr_call_21 (by decide) (fun c79 => ?_) (fun c79 => ?_)
    · have nc79 : z78.toInt ≤ (qf55 5).toInt := (i_le (x := z78) (y := (qf55 5))).mp c79
      refine lv_aload_n S.x S.b d_Mpr_call_31 rfl (lv_at hl 0 rfl) ?_
      refine lv_aload_n S.x S.b d_Mpr_call_32 rfl (lv_at hl 0 rfl) ?_
      refine px_get S k_Mpr hT hw 0 0 5 (v := .int (qf55 5)) rfl rfl rfl (by decide) m10_231 d_Mpr_call_33 ?_
      refine lv_aload_n S.x S.b d_Mpr_call_36 rfl (lv_at hl 0 rfl) ?_
      refine px_get S k_Mpr hT hw 0 0 0 (v := .ref h) rfl rfl rfl (by decide) m10_221 d_Mpr_call_37 ?_
      refine px_getN S k_Mpg hT hw 1 0 40 (v := .ref (r 40)) rfl rfl rfl (by decide) m10_31n d_Mpr_call_40 ?_
      refine lv_iload_n S.x S.b d_Mpr_call_43 rfl (lv_at hl 1 rfl) ?_
      refine px_iald S hT hw 1 27 (n := 260) (f := (ca 40)) rfl gp_40 (x := p0) (vp_in_iff.mpr (by constructor <;> omega)) d_Mpr_call_44 ?_
      refine lv_topi (fun z80 ez80 => ?_)
      have lz80 := Int32.le_toInt z80
      have uz80 := Int32.toInt_lt z80
      have rz80 : z80.toInt = (ca 40 p0.toNatClampNeg).toInt := by rw [ez80]
      refine lv_isub S.x S.b d_Mpr_call_45 ?_
      have lr81 := Int32.le_toInt (qf55 5)
      have ur81 := Int32.toInt_lt (qf55 5)
      refine lv_topi (fun z82 ez82 => ?_)
      have tz82 : z82.toInt = ((qf55 5).toInt - z80.toInt + 2147483648) % 4294967296 - 2147483648 := by rw [ez82]; exact i_sub (qf55 5) z80
      have lz82 := Int32.le_toInt z82
      have uz82 := Int32.toInt_lt z82
      try replace tz82 : z82.toInt = (qf55 5).toInt - z80.toInt := by omega
      refine px_put S k_Mpr hT hw 0 0 5 rfl rfl (by decide) m10_231 rfl rfl rfl (Nat.le_of_ble_eq_true rfl) d_Mpr_call_46 (w' := wd_Mpr cs q qr (fun k => if k = 0 then (some h) else none) (upd qf55 5 z82) qa qg) (ps' := [wd_Mpr cs q qr (fun k => if k = 0 then (some h) else none) (upd qf55 5 z82) qa qg, wdP cs h r g tf ta pf na ma wa cf ca ef ea xf xa]) rfl rfl (fun H locs hw => ?_)
      refine lv_aload_n S.x S.b d_Mpr_call_49 rfl (lv_at hl 0 rfl) ?_
      refine px_get S k_Mpr hT hw 0 0 15 (v := .ref (qr 15)) rfl rfl rfl (by decide) m11_7 d_Mpr_call_50 ?_
      refine lv_aload_n S.x S.b d_Mpr_call_53 rfl (lv_at hl 0 rfl) ?_
      refine px_get S k_Mpr hT hw 0 0 14 (v := .int (qf55 14)) rfl rfl rfl (by decide) m11_6 d_Mpr_call_54 ?_
      refine lv_aload_n S.x S.b d_Mpr_call_57 rfl (lv_at hl 0 rfl) ?_
      refine px_get S k_Mpr hT hw 0 0 11 (v := .int (qf55 11)) rfl rfl rfl (by decide) m11_2 d_Mpr_call_58 ?_
      refine px_iast S hT hw 0 3 (n := 132) (f := (qa 15)) (x := (qf55 14)) (y := (qf55 11)) rfl (ga_Mpr_15 _ _ _ _ _ _ _) (vp_in_iff.mpr (by constructor <;> omega)) d_Mpr_call_61 (w' := wd_Mpr cs q qr (fun k => if k = 0 then (some h) else none) (upd qf55 5 z82) (va_up qa 15 (upd (qa 15) (qf55 14).toNatClampNeg (qf55 11))) qg) (ps' := [wd_Mpr cs q qr (fun k => if k = 0 then (some h) else none) (upd qf55 5 z82) (va_up qa 15 (upd (qa 15) (qf55 14).toNatClampNeg (qf55 11))) qg, wdP cs h r g tf ta pf na ma wa cf ca ef ea xf xa]) (sa_Mpr_15 _ _ _ _ _ _ _ _) rfl (fun H locs hw => ?_)
      obtain ⟨qa83, hu_qa83⟩ : ∃ y : Nat → Nat → Int32, y = va_up qa 15 (upd (qa 15) (qf55 14).toNatClampNeg (qf55 11)) := ⟨_, rfl⟩; have hw : pw D A s.heap _ _ [wd_Mpr cs q qr (fun k => if k = 0 then (some h) else none) (upd qf55 5 z82) qa83 qg, wdP cs h r g tf ta pf na ma wa cf ca ef ea xf xa] := (by rw [hu_qa83]; exact hw); have hn15 := nuu_mk (n := (qf 14).toInt) hu_qa83 (by omega) (by omega)
      refine lv_aload_n S.x S.b d_Mpr_call_62 rfl (lv_at hl 0 rfl) ?_
      refine px_get S k_Mpr hT hw 0 0 16 (v := .ref (qr 16)) rfl rfl rfl (by decide) m11_8 d_Mpr_call_63 ?_
      refine lv_aload_n S.x S.b d_Mpr_call_66 rfl (lv_at hl 0 rfl) ?_
      refine px_get S k_Mpr hT hw 0 0 14 (v := .int (qf55 14)) rfl rfl rfl (by decide) m11_6 d_Mpr_call_67 ?_
      refine lv_aload_n S.x S.b d_Mpr_call_70 rfl (lv_at hl 0 rfl) ?_
      refine px_get S k_Mpr hT hw 0 0 12 (v := .int (qf55 12)) rfl rfl rfl (by decide) m11_4 d_Mpr_call_71 ?_
      refine px_iast S hT hw 0 4 (n := 132) (f := (qa83 16)) (x := (qf55 14)) (y := (qf55 12)) rfl (ga_Mpr_16 _ _ _ _ _ _ _) (vp_in_iff.mpr (by constructor <;> omega)) d_Mpr_call_74 (w' := wd_Mpr cs q qr (fun k => if k = 0 then (some h) else none) (upd qf55 5 z82) (va_up qa83 16 (upd (qa83 16) (qf55 14).toNatClampNeg (qf55 12))) qg) (ps' := [wd_Mpr cs q qr (fun k => if k = 0 then (some h) else none) (upd qf55 5 z82) (va_up qa83 16 (upd (qa83 16) (qf55 14).toNatClampNeg (qf55 12))) qg, wdP cs h r g tf ta pf na ma wa cf ca ef ea xf xa]) (sa_Mpr_16 _ _ _ _ _ _ _ _) rfl (fun H locs hw => ?_)
      obtain ⟨qa84, hu_qa84⟩ : ∃ y : Nat → Nat → Int32, y = va_up qa83 16 (upd (qa83 16) (qf55 14).toNatClampNeg (qf55 12)) := ⟨_, rfl⟩; have hw : pw D A s.heap _ _ [wd_Mpr cs q qr (fun k => if k = 0 then (some h) else none) (upd qf55 5 z82) qa84 qg, wdP cs h r g tf ta pf na ma wa cf ca ef ea xf xa] := (by rw [hu_qa84]; exact hw); have hn16 := nuu_mk (n := (qf 14).toInt) hu_qa84 (by omega) (by omega)
      refine lv_aload_n S.x S.b d_Mpr_call_75 rfl (lv_at hl 0 rfl) ?_
      refine px_get S k_Mpr hT hw 0 0 17 (v := .ref (qr 17)) rfl rfl rfl (by decide) m11_9 d_Mpr_call_76 ?_
      refine lv_aload_n S.x S.b d_Mpr_call_79 rfl (lv_at hl 0 rfl) ?_
      refine px_get S k_Mpr hT hw 0 0 14 (v := .int (qf55 14)) rfl rfl rfl (by decide) m11_6 d_Mpr_call_80 ?_
      refine lv_aload_n S.x S.b d_Mpr_call_83 rfl (lv_at hl 0 rfl) ?_
      refine px_get S k_Mpr hT hw 0 0 13 (v := .int (qf55 13)) rfl rfl rfl (by decide) m11_5 d_Mpr_call_84 ?_
      refine px_iast S hT hw 0 5 (n := 132) (f := (qa84 17)) (x := (qf55 14)) (y := (qf55 13)) rfl (ga_Mpr_17 _ _ _ _ _ _ _) (vp_in_iff.mpr (by constructor <;> omega)) d_Mpr_call_87 (w' := wd_Mpr cs q qr (fun k => if k = 0 then (some h) else none) (upd qf55 5 z82) (va_up qa84 17 (upd (qa84 17) (qf55 14).toNatClampNeg (qf55 13))) qg) (ps' := [wd_Mpr cs q qr (fun k => if k = 0 then (some h) else none) (upd qf55 5 z82) (va_up qa84 17 (upd (qa84 17) (qf55 14).toNatClampNeg (qf55 13))) qg, wdP cs h r g tf ta pf na ma wa cf ca ef ea xf xa]) (sa_Mpr_17 _ _ _ _ _ _ _ _) rfl (fun H locs hw => ?_)
      obtain ⟨qa85, hu_qa85⟩ : ∃ y : Nat → Nat → Int32, y = va_up qa84 17 (upd (qa84 17) (qf55 14).toNatClampNeg (qf55 13)) := ⟨_, rfl⟩; have hw : pw D A s.heap _ _ [wd_Mpr cs q qr (fun k => if k = 0 then (some h) else none) (upd qf55 5 z82) qa85 qg, wdP cs h r g tf ta pf na ma wa cf ca ef ea xf xa] := (by rw [hu_qa85]; exact hw); have hn17 := nuu_mk (n := (qf 14).toInt) hu_qa85 (by omega) (by omega)
      refine lv_aload_n S.x S.b d_Mpr_call_88 rfl (lv_at hl 0 rfl) ?_
      refine px_get S k_Mpr hT hw 0 0 18 (v := .ref (qr 18)) rfl rfl rfl (by decide) m11_10 d_Mpr_call_89 ?_
      refine lv_aload_n S.x S.b d_Mpr_call_92 rfl (lv_at hl 0 rfl) ?_
      refine px_get S k_Mpr hT hw 0 0 14 (v := .int (qf55 14)) rfl rfl rfl (by decide) m11_6 d_Mpr_call_93 ?_
      refine lv_iload_n S.x S.b d_Mpr_call_96 rfl (lv_at hl 1 rfl) ?_
      refine px_iast S hT hw 0 6 (n := 132) (f := (qa85 18)) (x := (qf55 14)) (y := p0) rfl (ga_Mpr_18 _ _ _ _ _ _ _) (vp_in_iff.mpr (by constructor <;> omega)) d_Mpr_call_97 (w' := wd_Mpr cs q qr (fun k => if k = 0 then (some h) else none) (upd qf55 5 z82) (va_up qa85 18 (upd (qa85 18) (qf55 14).toNatClampNeg p0)) qg) (ps' := [wd_Mpr cs q qr (fun k => if k = 0 then (some h) else none) (upd qf55 5 z82) (va_up qa85 18 (upd (qa85 18) (qf55 14).toNatClampNeg p0)) qg, wdP cs h r g tf ta pf na ma wa cf ca ef ea xf xa]) (sa_Mpr_18 _ _ _ _ _ _ _ _) rfl (fun H locs hw => ?_)
      obtain ⟨qa86, hu_qa86⟩ : ∃ y : Nat → Nat → Int32, y = va_up qa85 18 (upd (qa85 18) (qf55 14).toNatClampNeg p0) := ⟨_, rfl⟩; have hw : pw D A s.heap _ _ [wd_Mpr cs q qr (fun k => if k = 0 then (some h) else none) (upd qf55 5 z82) qa86 qg, wdP cs h r g tf ta pf na ma wa cf ca ef ea xf xa] := (by rw [hu_qa86]; exact hw); have hn18 := nuu_mk (n := (qf 14).toInt) hu_qa86 (by omega) (by omega); have hcq : ClQ qa qa86 (qf 14).toInt ((qf 11).toInt - 1) (qf 12).toInt (qf 13).toInt p0.toInt := clq_mk hn15 hn16 hn17 hn18 (by omega) (by omega) (by omega) (by omega) (by omega)
      refine lv_aload_n S.x S.b d_Mpr_call_98 rfl (lv_at hl 0 rfl) ?_
      refine lv_dup S.x S.b d_Mpr_call_99 rfl ?_
      refine px_get S k_Mpr hT hw 0 0 14 (v := .int (qf55 14)) rfl rfl rfl (by decide) m11_6 d_Mpr_call_100 ?_
      refine lv_iconst (v := 1) S.x S.b d_Mpr_call_103 (by decide) ?_
      refine lv_iadd S.x S.b d_Mpr_call_104 ?_
      have lr87 := Int32.le_toInt (qf55 14)
      have ur87 := Int32.toInt_lt (qf55 14)
      refine lv_topi (fun z88 ez88 => ?_)
      have tz88 : z88.toInt = ((qf55 14).toInt + (1 : Int) + 2147483648) % 4294967296 - 2147483648 := by rw [ez88]; exact i_add (qf55 14) 1
      have lz88 := Int32.le_toInt z88
      have uz88 := Int32.toInt_lt z88
      try replace tz88 : z88.toInt = (qf55 14).toInt + (1 : Int) := by omega
      refine px_put S k_Mpr hT hw 0 0 14 rfl rfl (by decide) m11_6 rfl rfl rfl (Nat.le_of_ble_eq_true rfl) d_Mpr_call_105 (w' := wd_Mpr cs q qr (fun k => if k = 0 then (some h) else none) (upd (upd qf55 5 z82) 14 z88) qa86 qg) (ps' := [wd_Mpr cs q qr (fun k => if k = 0 then (some h) else none) (upd (upd qf55 5 z82) 14 z88) qa86 qg, wdP cs h r g tf ta pf na ma wa cf ca ef ea xf xa]) rfl rfl (fun H locs hw => ?_)
      refine lv_aload_n S.x S.b d_Mpr_call_108 rfl (lv_at hl 0 rfl) ?_
      refine lv_aload_n S.x S.b d_Mpr_call_109 rfl (lv_at hl 0 rfl) ?_
      refine px_get S k_Mpr hT hw 0 0 13 (v := .int (qf55 13)) rfl rfl rfl (by decide) m11_5 d_Mpr_call_110 ?_
      refine px_put S k_Mpr hT hw 0 0 12 rfl rfl (by decide) m11_4 rfl rfl rfl (Nat.le_of_ble_eq_true rfl) d_Mpr_call_113 (w' := wd_Mpr cs q qr (fun k => if k = 0 then (some h) else none) (upd (upd (upd qf55 5 z82) 12 (qf55 13)) 14 z88) qa86 qg) (ps' := [wd_Mpr cs q qr (fun k => if k = 0 then (some h) else none) (upd (upd (upd qf55 5 z82) 12 (qf55 13)) 14 z88) qa86 qg, wdP cs h r g tf ta pf na ma wa cf ca ef ea xf xa]) rfl rfl (fun H locs hw => ?_)
      refine lv_aload_n S.x S.b d_Mpr_call_116 rfl (lv_at hl 0 rfl) ?_
      refine lv_aload_n S.x S.b d_Mpr_call_117 rfl (lv_at hl 0 rfl) ?_
      refine px_get S k_Mpr hT hw 0 0 13 (v := .int (qf55 13)) rfl rfl rfl (by decide) m11_5 d_Mpr_call_118 ?_
      refine lv_aload_n S.x S.b d_Mpr_call_121 rfl (lv_at hl 0 rfl) ?_
      refine px_get S k_Mpr hT hw 0 0 0 (v := .ref h) rfl rfl rfl (by decide) m10_221 d_Mpr_call_122 ?_
      refine px_getN S k_Mpg hT hw 1 0 56 (v := .ref (r 56)) rfl rfl rfl (by decide) m10_53n d_Mpr_call_125 ?_
      refine lv_iload_n S.x S.b d_Mpr_call_128 rfl (lv_at hl 1 rfl) ?_
      refine px_iald S hT hw 1 33 (n := 260) (f := (ca 56)) rfl gp_56 (x := p0) (vp_in_iff.mpr (by constructor <;> omega)) d_Mpr_call_129 ?_
      refine lv_topi (fun z89 ez89 => ?_)
      have lz89 := Int32.le_toInt z89
      have uz89 := Int32.toInt_lt z89
      have rz89 : z89.toInt = (ca 56 p0.toNatClampNeg).toInt := by rw [ez89]
      refine lv_iadd S.x S.b d_Mpr_call_130 ?_
      have lr90 := Int32.le_toInt (qf55 13)
      have ur90 := Int32.toInt_lt (qf55 13)
      refine lv_topi (fun z91 ez91 => ?_)
      have tz91 : z91.toInt = ((qf55 13).toInt + z89.toInt + 2147483648) % 4294967296 - 2147483648 := by rw [ez91]; exact i_add (qf55 13) z89
      have lz91 := Int32.le_toInt z91
      have uz91 := Int32.toInt_lt z91
      try replace tz91 : z91.toInt = (qf55 13).toInt + z89.toInt := by omega
      refine px_put S k_Mpr hT hw 0 0 13 rfl rfl (by decide) m11_5 rfl rfl rfl (Nat.le_of_ble_eq_true rfl) d_Mpr_call_131 (w' := wd_Mpr cs q qr (fun k => if k = 0 then (some h) else none) (upd (upd (upd (upd qf55 5 z82) 12 (qf55 13)) 13 z91) 14 z88) qa86 qg) (ps' := [wd_Mpr cs q qr (fun k => if k = 0 then (some h) else none) (upd (upd (upd (upd qf55 5 z82) 12 (qf55 13)) 13 z91) 14 z88) qa86 qg, wdP cs h r g tf ta pf na ma wa cf ca ef ea xf xa]) rfl rfl (fun H locs hw => ?_)
      refine lv_aload_n S.x S.b d_Mpr_call_134 rfl (lv_at hl 0 rfl) ?_
      refine px_get S k_Mpr hT hw 0 0 12 (v := .int (qf55 13)) rfl rfl rfl (by decide) m11_4 d_Mpr_call_135 ?_
      refine lv_istore_n (lv' := [(2, .int (qf55 13)), (0, .ref q), (1, .int p0)]) S.x S.b d_Mpr_call_138 rfl hl (by decide) rfl (fun ls hl => ?_)
      exact J139 ((z91.toInt - (qf55 13).toInt).toNat + 1) (upd (upd (upd (upd qf55 5 z82) 12 (qf55 13)) 13 z91) 14 z88) qa86 (qf55 13) _ _ ls (show (qf55 1).toInt = (qf 1).toInt from by first | exact e65 | omega) (show (qf55 2).toInt = (qf 2).toInt from by first | with_reducible rfl | with_reducible assumption | omega) (show (qf55 6).toInt = (qf 6).toInt from by first | exact e67 | omega) (show (qf55 7).toInt = (qf 7).toInt from by first | exact e68 | omega) (show (qf55 11).toInt = (qf 11).toInt from by first | exact e70 | omega) (show (qf55 21).toInt = (qf 21).toInt from by first | exact e74 | omega) (show (qf55 23).toInt = (qf 23).toInt from by first | exact e75 | omega) (show (qf55 24).toInt = (qf 24).toInt from by first | exact e76 | omega) (show z88.toInt = (qf 14).toInt + 1 from by first | exact oz_39da5b546a e73 tz88 | omega) (show (qf55 13).toInt = (qf 13).toInt from by first | exact e72 | omega) (show z91.toInt = (qf 13).toInt + (ca 56 p0.toNatClampNeg).toInt from by first | exact oz_7b8f0e0e4f e72 rz89 tz91 | omega) (show z82.toInt = (qf 5).toInt - (ca 40 p0.toNatClampNeg).toInt from by first | exact oz_d8b32f9bc5 e66 rz80 tz82 | omega) (show 0 ≤ z82.toInt from by first | exact oz_92f62afadf tz82 nc79 rz80 rz78 | omega) (show (qf55 4).toInt = (qf 4).toInt - 1 from by first | with_reducible rfl | with_reducible assumption | omega) (show 1 ≤ (qf 4).toInt from by first | with_reducible rfl | with_reducible assumption | omega) (show ClQ qa qa86 (qf 14).toInt ((qf 11).toInt - 1) (qf 12).toInt (qf 13).toInt p0.toInt from hcq) (show (qf55 10).toInt = (qf 10).toInt from by first | exact e69 | omega) (show (qf 13).toInt ≤ (qf55 13).toInt from by first | exact oz_f9b42d1b56 e72 | omega) (show (qf55 13).toInt ≤ z91.toInt from by first | exact oz_7c751caab0 tz91 rz89 hfr9.1 | omega) (show ZeC (qa86 8) (qf 13).toInt (qf55 13).toInt from (zec_0 (by omega))) (show z91.toInt - (qf55 13).toInt < ((((z91.toInt - (qf55 13).toInt).toNat + 1 : Nat) : Int) : Int) from by first | exact oz_natlt | omega) hw (lv_sub hl [1, 2, 0] rfl)
    · have nc79 : ¬ z78.toInt ≤ (qf55 5).toInt := mt (i_le (x := z78) (y := (qf55 5))).mpr c79
      refine lv_aload_n S.x S.b d_Mpr_call_24 rfl (lv_at hl 0 rfl) ?_
      refine lv_iconst (v := 4) S.x S.b d_Mpr_call_25 (by decide) ?_
      refine lv_iconst (v := 0) S.x S.b d_Mpr_call_26 (by decide) ?_
      refine px_callv (pr := []) (px_runV (As := [.int 4, .int 0]) (rest := []) S (c_mr_end l D cs (0 : Int) q qr qg qa qf55 h r g tf ta pf na ma wa cf ca ef ea xf xa 4 0   _) hT (pr := []) (pcs := [wd_Mpr cs q qr (fun k => if k = 0 then (some h) else none) qf55 qa qg, wdP cs h r g tf ta pf na ma wa cf ca ef ea xf xa]) hw (oX_call (P := (fun A U H => (oP A g U H))) (pr := []) oG_P hw hA hP) (px_recv hT hw 0 0 rfl rfl rfl) m13_177 m13_174 m13_175 m13_176 m1_22 q_Mpr_end ⟨Nat.le_of_ble_eq_true rfl, Nat.le_of_ble_eq_true rfl⟩ hl.1 rfl (Nat.le_of_ble_eq_true rfl) d_Mpr_call_27 ⟨Nat.le_of_ble_eq_true rfl, Nat.le_of_ble_eq_true rfl⟩) hw hA (fun p94 H locs hp94 hw => ?_)
      obtain ⟨qf93, rfl, e96, e97, e98, e99, e100, e101, e102, e103, e104, e105, e106, e107, e108, e109, e110⟩ := hp94
      replace e96 : (qf93 2).toInt = (4 : Int) := e96
      replace e97 : (qf93 3).toInt = (0 : Int) := e97
      replace e98 : (qf93 1).toInt = (qf55 1).toInt := e98
      replace e99 : (qf93 4).toInt = (qf55 4).toInt := e99
      replace e100 : (qf93 5).toInt = (qf55 5).toInt := e100
      replace e101 : (qf93 6).toInt = (qf55 6).toInt := e101
      replace e102 : (qf93 7).toInt = (qf55 7).toInt := e102
      replace e103 : (qf93 10).toInt = (qf55 10).toInt := e103
      replace e104 : (qf93 11).toInt = (qf55 11).toInt := e104
      replace e105 : (qf93 12).toInt = (qf55 12).toInt := e105
      replace e106 : (qf93 13).toInt = (qf55 13).toInt := e106
      replace e107 : (qf93 14).toInt = (qf55 14).toInt := e107
      replace e108 : (qf93 21).toInt = (qf55 21).toInt := e108
      replace e109 : (qf93 23).toInt = (qf55 23).toInt := e109
      replace e110 : (qf93 24).toInt = (qf55 24).toInt := e110
      replace hw : pw D A s.heap H locs [wd_Mpr cs q qr (fun k => if k = 0 then (some h) else none) qf93 qa qg, wdP cs h r g tf ta pf na ma wa cf ca ef ea xf xa] := hw
      exact px_vret S hr hlk hAe hw (Nat.le_of_ble_eq_true rfl) (Nat.le_of_ble_eq_true rfl) (⟨qf93, qa, rfl, (show (qf93 1).toInt = (qf 1).toInt from by first | exact oz_1687f4cc65 e65 e98 | omega), (show (qf93 6).toInt = (qf 6).toInt from by first | exact oz_1687f4cc65 e67 e101 | omega), (show (qf93 7).toInt = (qf 7).toInt from by first | exact oz_1687f4cc65 e68 e102 | omega), (show (qf93 21).toInt = (qf 21).toInt from by first | exact oz_1687f4cc65 e74 e108 | omega), (show (qf93 23).toInt = (qf 23).toInt from by first | exact oz_1687f4cc65 e75 e109 | omega), (show (qf93 24).toInt = (qf 24).toInt from by first | exact oz_1687f4cc65 e76 e110 | omega), (show RzO (qf93 2).toInt (RuZ X9 K9 ca qa (cf 55).toInt (cf 38).toInt st9 (qf93 14).toInt (qf93 11).toInt (qf93 10).toInt (qf93 12).toInt (qf93 13).toInt (qf93 5).toInt (qf93 4).toInt (rkN (qf 4).toInt (qf 14).toInt (v8 : Int) ((qf 11).toInt - 1))) from (fun q9 => absurd q9 (by omega)))⟩) d_Mpr_call_30
  · have nc77 : v57.toInt = (0 : Int) := (i_eq (x := v57) (y := 0)).mp c77
    exact px_vret S hr hlk hAe hw (Nat.le_of_ble_eq_true rfl) (Nat.le_of_ble_eq_true rfl) (⟨qf55, qa, rfl, (show (qf55 1).toInt = (qf 1).toInt from by first | exact e65 | omega), (show (qf55 6).toInt = (qf 6).toInt from by first | exact e67 | omega), (show (qf55 7).toInt = (qf 7).toInt from by first | exact e68 | omega), (show (qf55 21).toInt = (qf 21).toInt from by first | exact e74 | omega), (show (qf55 23).toInt = (qf 23).toInt from by first | exact e75 | omega), (show (qf55 24).toInt = (qf 24).toInt from by first | exact e76 | omega), (show RzO (qf55 2).toInt (RuZ X9 K9 ca qa (cf 55).toInt (cf 38).toInt st9 (qf55 14).toInt (qf55 11).toInt (qf55 10).toInt (qf55 12).toInt (qf55 13).toInt (qf55 5).toInt (qf55 4).toInt (rkN (qf 4).toInt (qf 14).toInt (v8 : Int) ((qf 11).toInt - 1))) from (fun q9 => absurd q9 (by omega)))⟩) d_Mpr_call_7
