/-! TOKENS of a text, by its letters alone; KW: the keys -/
def kwK (KW : List (List Int)) (w : List Int) : Int := if fIx w KW < KW.length then ((fIx w KW + 1 : Nat) : Int) else 16
def lxK (KW : List (List Int)) (b : Nat → Int) (n p : Nat) : Int :=
  if isL (b p) = true then (if nmE b (n - p) p - p ≤ 24 then kwK KW (wdL b p (nmE b (n - p) p)) else 19)
  else if isD (b p) = true then (if nOk b n p = true then 17 else 19)
  else if b p = 39 then (if 0 ≤ qV b (p + 1) 39 ∧ b (p + 1 + qW b (p + 1)) = 39 then 17 else 19)
  else if b p = 34 then (if (sC b n (p + 1)).1 ≤ 200 ∧ b (sC b n (p + 1)).2 = 34 then 18 else 19)
  else if b p < 0 then 0 else (if mkO b p = true then mkK b p else 19)
def lxE (b : Nat → Int) (n p : Nat) : Nat :=
  if isL (b p) = true then nmE b (n - p) p
  else if isD (b p) = true then nFr b p + nCt b n p
  else if b p = 39 then p + 2 + qW b (p + 1)
  else if b p = 34 then (sC b n (p + 1)).2 + 1
  else if b p < 0 then p else mkE b p
/-- what the class keeps of token i, which begins at p -/
def TkF (KW : List (List Int)) (b : Nat → Int) (n : Nat) (a : Nat → Nat → Int32) (NL : List (List Int)) (Q i p : Nat) : Prop :=
  (a 0 i).toInt = lxK KW b n p ∧ (isL (b p) = true → ¬ lxK KW b n p = 19 → (a 2 i).toInt = ((fIx (wdL b p (nmE b (n - p) p)) NL : Nat) : Int) ∧ fIx (wdL b p (nmE b (n - p) p)) NL < NL.length) ∧ (isD (b p) = true → ¬ lxK KW b n p = 19 → a 2 i = nVl (nSm b n p)) ∧ (b p = 39 → ¬ lxK KW b n p = 19 → (a 2 i).toInt = qV b (p + 1) 39) ∧ (b p = 34 → ¬ lxK KW b n p = 19 → ∃ q : Nat, q < Q ∧ (a 2 i).toInt = (q : Int) ∧ (a 5 q).toInt = (((sC b n (p + 1)).1 : Nat) : Int))
theorem TkF.mv {KW : List (List Int)} {b : Nat → Int} {n : Nat} {a a' : Nat → Nat → Int32} {NL B : List (List Int)} {Q Q' i p : Nat} (h : TkF KW b n a NL Q i p) (h0 : a' 0 i = a 0 i) (h2 : a' 2 i = a 2 i) (hq : Q ≤ Q') (h5 : ∀ j : Nat, j < Q → a' 5 j = a 5 j) : TkF KW b n a' (NL ++ B) Q' i p := by
  obtain ⟨t1, t2, t3, t4, t5⟩ := h
  refine ⟨by rw [h0]; exact t1, fun q r => ?_, fun q r => by rw [h2]; exact t3 q r, fun q r => by rw [h2]; exact t4 q r, fun q r => ?_⟩
  · obtain ⟨y1, y2⟩ := t2 q r
    rw [h2, fIx_ap y2, List.length_append]
    exact ⟨y1, by omega⟩
  · obtain ⟨k, y1, y2, y3⟩ := t5 q r
    exact ⟨k, by omega, by rw [h2]; exact y2, by rw [h5 k y1]; exact y3⟩
theorem fIx_out {w : List Int} {A B : List (List Int)} (h : ¬ fIx w A < A.length) : A.length ≤ fIx w (A ++ B) := by
  induction A with
  | nil => exact Nat.zero_le _
  | cons x r ih =>
    have e : fIx w (x :: r ++ B) = if x = w then 0 else fIx w (r ++ B) + 1 := rfl
    have e' : fIx w (x :: r) = if x = w then 0 else fIx w r + 1 := rfl
    rw [e'] at h
    rw [e]
    by_cases q : x = w
    · rw [if_pos q] at h; exact absurd (Nat.succ_pos _) h
    · rw [if_neg q] at h ⊢
      have := ih (by simpa using h)
      show r.length + 1 ≤ _
      omega
theorem kw_eq {KW R : List (List Int)} {w : List Int} (h : KW.length = 15) : (if fIx w (KW ++ R) < 15 then ((fIx w (KW ++ R) + 1 : Nat) : Int) else 16) = kwK KW w := by
  unfold kwK
  by_cases q : fIx w KW < KW.length
  · rw [if_pos q, fIx_ap q, if_pos (by omega)]
  · have := fIx_out (B := R) q
    rw [if_neg q, if_neg (by omega)]
theorem mkA_b {b : Nat → Int} {p : Nat} : mkA b p = 0 ∨ (134 ≤ mkA b p ∧ mkA b p ≤ 139) := by
  unfold mkA
  split
  · unfold dblK
    repeat' split
    all_goals omega
  · exact Or.inl rfl
theorem weqK_b {k : Int} : weqK k = 0 ∨ 130 ≤ weqK k := by
  unfold weqK
  repeat' split
  all_goals omega
theorem mkK_b {tb : Nat → Int32} {n p : Nat} (hp : p < n) (h : mkO (bt tb n) p = true) : ¬ mkK (bt tb n) p = 0 ∧ ¬ mkK (bt tb n) p = 19 := by
  have hm : isMk (bt tb n p) = true := by
    unfold mkO at h
    cases hk : isMk (bt tb n p) with
    | true => rfl
    | false => rw [hk] at h; exact absurd h (by simp)
  unfold isMk at hm
  have hm' := of_decide_eq_true hm
  have a1 := mkA_b (b := bt tb n) (p := p)
  unfold mkK
  by_cases q : 0 < mkW (bt tb n) p
  · rw [if_pos q]
    have e : mkW (bt tb n) p = 0 ∨ 130 ≤ mkW (bt tb n) p := by
      unfold mkW
      split
      · exact weqK_b
      · exact Or.inl rfl
    omega
  · rw [if_neg q]
    unfold mk1
    split
    · omega
    · split
      · decide
      · omega
theorem mkE_b {tb : Nat → Int32} {n p : Nat} (hp : p < n) : p < mkE (bt tb n) p ∧ mkE (bt tb n) p ≤ n := by
  have lt : ∀ {i : Nat} {w : Int}, bt tb n i = w → 0 ≤ w → i < n := by
    intro i w e hw
    rcases Nat.lt_or_ge i n with q | q
    · exact q
    · rw [bt_end q] at e; omega
  have s1 : mkS (bt tb n) p = 1 ∨ (mkS (bt tb n) p = 2 ∧ p + 1 < n) := by
    unfold mkS
    by_cases q : 0 < mkA (bt tb n) p
    · rw [if_pos q]
      refine Or.inr ⟨rfl, ?_⟩
      unfold mkA at q
      by_cases r : bt tb n (p + 1) = bt tb n p
      · exact lt r (bt_rng hp).1
      · rw [if_neg r] at q; omega
    · rw [if_neg q]; exact Or.inl rfl
  unfold mkE
  by_cases q : 0 < mkW (bt tb n) p
  · rw [if_pos q]
    unfold mkW at q
    by_cases r : bt tb n (p + mkS (bt tb n) p) = 61
    · have := lt r (by omega)
      omega
    · rw [if_neg r] at q; omega
  · rw [if_neg q]; omega
theorem dgN_b {b : Nat → Int} {hx : Bool} : ∀ (d i : Nat), dgN b hx d i ≤ d
  | 0, _ => Nat.le_refl _
  | d + 1, i => by
    have un : dgN b hx (d + 1) i = if 0 ≤ dgV hx (b i) then dgN b hx d (i + 1) + 1 else 0 := by first | rfl | simp [dgN]
    rw [un]
    split
    · have := dgN_b (b := b) (hx := hx) d (i + 1)
      omega
    · omega
theorem nEnd_b {tb : Nat → Int32} {n p : Nat} (hp : p < n) (h : nOk (bt tb n) n p = true) : p < nFr (bt tb n) p + nCt (bt tb n) n p ∧ nFr (bt tb n) p + nCt (bt tb n) n p ≤ n := by
  unfold nOk at h
  have h' := of_decide_eq_true h
  have h1 := h'.1
  have h2 : nCt (bt tb n) n p ≤ n - nFr (bt tb n) p := dgN_b _ _
  have h3 : p ≤ nFr (bt tb n) p := by
    unfold nFr
    split <;> omega
  omega
section TB
variable {tb : Nat → Int32} {n sn : Nat} {sb : Nat → Int32} {f' : Nat → Int32} {a' : Nat → Nat → Int32} {v : Int32} {KW : List (List Int)}
/-- what a token's reader has done: it stands behind it, or it is one that can't stand, or the end -/
def TkR (KW : List (List Int)) (tb : Nat → Int32) (n : Nat) (f : Nat → Int32) (a : Nat → Nat → Int32) (f' : Nat → Int32) (a' : Nat → Nat → Int32) (v : Int32) (NL : List (List Int)) (Q c p : Nat) : Prop :=
  ∃ (B : List (List Int)) (Q' : Nat), NmT f' a' (NL ++ B) ∧ f' 7 = f 7 ∧ f' 15 = f 15 ∧ (f' 10).toInt = ((c + 1 : Nat) : Int) ∧ (f' 12).toInt = (Q' : Int) ∧ Q ≤ Q' ∧ TkF KW (bt tb n) n a' (NL ++ B) Q' c p ∧ (∀ i : Nat, ¬ i = c → a' 0 i = a 0 i ∧ a' 2 i = a 2 i) ∧ (∀ j : Nat, j < Q → a' 5 j = a 5 j) ∧ (v.toInt = 0 ∨ v.toInt = 1) ∧ (v.toInt = 0 ↔ (lxK KW (bt tb n) n p = 0 ∨ lxK KW (bt tb n) n p = 19)) ∧ (v.toInt = 1 → (f' 8).toInt = ((lxE (bt tb n) n p : Nat) : Int) ∧ p < lxE (bt tb n) n p ∧ lxE (bt tb n) n p ≤ n ∧ Q' ≤ lxE (bt tb n) n p ∧ offs (NL ++ B) ≤ 133 + lxE (bt tb n) n p ∧ (NL ++ B).length ≤ 26 + lxE (bt tb n) n p)
/-- the token is laid down -/
theorem tok_89 {f f0 : Nat → Int32} {a a0 : Nat → Nat → Int32} {NL B : List (List Int)} {Q Q' c p k : Nat} {x1 x3 : Int32} (h : E_t2_token sn sb tb f' a' v k 89 [x1, x3] [] [] [] [] f a) (hc : (f 10).toInt = (c : Int)) (hc2 : c ≤ 2048) (f7 : f 7 = f0 7) (f15 : f 15 = f0 15) (hQ : (f 12).toInt = (Q' : Int)) (hQQ : Q ≤ Q') (hT : NmT f a (NL ++ B)) (ha : ∀ i : Nat, a 0 i = a0 0 i ∧ a 2 i = a0 2 i) (h5 : ∀ j : Nat, j < Q → a 5 j = a0 5 j) (hk : x3.toInt = lxK KW (bt tb n) n p)
    (hv : (isL (bt tb n p) = true → ¬ lxK KW (bt tb n) n p = 19 → (f 9).toInt = ((fIx (wdL (bt tb n) p (nmE (bt tb n) (n - p) p)) (NL ++ B) : Nat) : Int) ∧ fIx (wdL (bt tb n) p (nmE (bt tb n) (n - p) p)) (NL ++ B) < (NL ++ B).length) ∧ (isD (bt tb n p) = true → ¬ lxK KW (bt tb n) n p = 19 → f 9 = nVl (nSm (bt tb n) n p)) ∧ (bt tb n p = 39 → ¬ lxK KW (bt tb n) n p = 19 → (f 9).toInt = qV (bt tb n) (p + 1) 39) ∧ (bt tb n p = 34 → ¬ lxK KW (bt tb n) n p = 19 → ∃ q : Nat, q < Q' ∧ (f 9).toInt = (q : Int) ∧ (a 5 q).toInt = (((sC (bt tb n) n (p + 1)).1 : Nat) : Int)))
    (he : ¬ lxK KW (bt tb n) n p = 0 → ¬ lxK KW (bt tb n) n p = 19 → (f 8).toInt = ((lxE (bt tb n) n p : Nat) : Int) ∧ p < lxE (bt tb n) n p ∧ lxE (bt tb n) n p ≤ n ∧ Q' ≤ lxE (bt tb n) n p ∧ offs (NL ++ B) ≤ 133 + lxE (bt tb n) n p ∧ (NL ++ B).length ≤ 26 + lxE (bt tb n) n p) : TkR KW tb n f0 a0 f' a' v NL Q c p := by
  have hcn : (f 10).toNatClampNeg = c := cn_of hc
  have all : ∀ {z : Int32}, z = f 10 + 1 → f' = upd f 10 z → a' = va_up (va_up (va_up a 0 (upd (a 0) (f 10).toNatClampNeg x3)) 1 (upd ((va_up a 0 (upd (a 0) (f 10).toNatClampNeg x3)) 1) (f 10).toNatClampNeg x1)) 2 (upd ((va_up (va_up a 0 (upd (a 0) (f 10).toNatClampNeg x3)) 1 (upd ((va_up a 0 (upd (a 0) (f 10).toNatClampNeg x3)) 1) (f 10).toNatClampNeg x1)) 2) (f 10).toNatClampNeg (f 9)) → ((v = 0 ∧ (lxK KW (bt tb n) n p = 0 ∨ lxK KW (bt tb n) n p = 19)) ∨ (v = 1 ∧ ¬ (lxK KW (bt tb n) n p = 0 ∨ lxK KW (bt tb n) n p = 19))) → TkR KW tb n f0 a0 f' a' v NL Q c p := by
    intro z hz ef ea hvv
    have z1 := ti_add hz hc (show (1 : Int32).toInt = 1 from rfl) (by omega) (by omega)
    rw [hcn] at ea
    have a0c : a' 0 = upd (a 0) c x3 := by rw [ea, va_up_n (by decide), va_up_n (by decide), va_up_s]
    have a2c : a' 2 = upd (a 2) c (f 9) := by rw [ea, va_up_s, va_up_n (by decide), va_up_n (by decide)]
    have aj : ∀ j : Nat, 3 ≤ j → a' j = a j := fun j hj => by rw [ea, va_up_n (by omega), va_up_n (by omega), va_up_n (by omega)]
    have fj : ∀ j : Nat, ¬ j = 10 → f' j = f j := fun j hj => by rw [ef, pk_un hj]
    refine ⟨B, Q', ?_, (fj 7 (by decide)).trans f7, (fj 15 (by decide)).trans f15, ?_, ?_, hQQ, ?_, fun i hi => ?_, fun j hj => ?_, ?_, ?_, fun q => ?_⟩
    · refine ⟨by rw [fj 11 (by decide)]; exact hT.1, fun i w hw => ?_⟩
      rw [aj 4 (by decide), aj 3 (by decide)]
      exact hT.2 i w hw
    · rw [ef, pk_us]; omega
    · rw [fj 12 (by decide)]; exact hQ
    · obtain ⟨v1, v2, v3, v4⟩ := hv
      refine ⟨by rw [a0c, pk_us]; exact hk, ?_, ?_, ?_, ?_⟩
      · rw [a2c, pk_us]; exact v1
      · rw [a2c, pk_us]; exact v2
      · rw [a2c, pk_us]; exact v3
      · rw [a2c, pk_us, aj 5 (by decide)]; exact v4
    · rw [a0c, a2c, pk_un hi, pk_un hi]; exact ha i
    · rw [aj 5 (by decide)]; exact h5 j hj
    · rcases hvv with ⟨y, -⟩ | ⟨y, -⟩
      · rw [y]; exact Or.inl rfl
      · rw [y]; exact Or.inr rfl
    · rcases hvv with ⟨y, y2⟩ | ⟨y, y2⟩
      · rw [y]; exact ⟨fun _ => y2, fun _ => rfl⟩
      · rw [y]; exact ⟨fun z => absurd z (by decide), fun z => absurd z y2⟩
    · rcases hvv with ⟨y, y2⟩ | ⟨y, y2⟩
      · rw [y] at q; exact absurd q (by decide)
      · rw [fj 8 (by decide)]
        exact he (fun z => y2 (Or.inl z)) (fun z => y2 (Or.inr z))
  rcases iv_t2_token_89 h with ⟨k, h1, z4, h2, (⟨h3, e0, e1, ev⟩ | ⟨h3, (⟨h4, e0, e1, ev⟩ | ⟨h4, e0, e1, ev⟩)⟩)⟩
  · exact all h2 e0 e1 (Or.inl ⟨ev, by omega⟩)
  · exact all h2 e0 e1 (Or.inl ⟨ev, by omega⟩)
  · exact all h2 e0 e1 (Or.inr ⟨ev, by omega⟩)
theorem tok_ok (hKW : KW.length = 15) (hM : ∀ z w : Int32, R_String_indexOf1 sn sb z w → 0 ≤ z.toInt → z.toInt ≤ 255 → (w.toInt < 0 ↔ isMk z.toInt = false)) (hb : n ≤ 2048) {f : Nat → Int32} {a : Nat → Nat → Int32} {NL R : List (List Int)} {Q c p : Nat} (hNL : NL = KW ++ R) (hO : offs NL ≤ 133 + p) (hL : NL.length ≤ 26 + p) (hn : (f 7).toInt = (n : Int)) (hp : (f 8).toInt = (p : Int)) (hpn : p ≤ n) (hc : (f 10).toInt = (c : Int)) (hc2 : c ≤ 2048) (hQ : (f 12).toInt = (Q : Int)) (hQp : Q ≤ p) (hT : NmT f a NL) (h : R_t2_token sn sb tb f a f' a' v) : TkR KW tb n f a f' a' v NL Q c p := by
  obtain ⟨k, h⟩ := h
  have u9 : ∀ {j : Nat}, ¬ j = 9 → upd f 9 0 j = f j := fun hj => pk_un hj
  have n7 : (upd f 9 0 7).toInt = (n : Int) := by rw [u9 (by decide)]; exact hn
  have n8 : (upd f 9 0 8).toInt = (p : Int) := by rw [u9 (by decide)]; exact hp
  have n12 : (upd f 9 0 12).toInt = (Q : Int) := by rw [u9 (by decide)]; exact hQ
  have nT : NmT (upd f 9 0) a NL := ⟨by rw [u9 (by decide)]; exact hT.1, hT.2⟩
  have LB : NL ++ [] = NL := List.append_nil _
  have lt : ¬ bt tb n p < 0 → p < n := by
    intro q
    rcases Nat.lt_or_ge p n with y | y
    · exact y
    · exact absurd (by rw [bt_end y]; decide) q
  have el : ∀ {x w : Int32}, R_t2_byteAt tb f (f 8) x → R_t2_isLetter x w → (¬ w.toInt = 0 ↔ isL (bt tb n p) = true) := by
    intro x w hx hw
    have e := letter_r hw
    rw [byte_r hn hb hp hx] at e
    cases hk : isL (bt tb n p) with
    | true => rw [hk] at e; simp at e; simp [e]
    | false => rw [hk] at e; simp at e; simp [e]
  have edg : ∀ {x w : Int32}, R_t2_byteAt tb f (f 8) x → R_t2_isDigit x w → (¬ w.toInt = 0 ↔ isD (bt tb n p) = true) := by
    intro x w hx hw
    have e := digit_r hw
    rw [byte_r hn hb hp hx] at e
    cases hk : isD (bt tb n p) with
    | true => rw [hk] at e; simp at e; simp [e]
    | false => rw [hk] at e; simp at e; simp [e]
  have LD : isL (bt tb n p) = true → ¬ bt tb n p = 39 ∧ ¬ bt tb n p = 34 ∧ ¬ isD (bt tb n p) = true ∧ ¬ bt tb n p < 0 := by
    intro q
    unfold isL at q
    have q' := of_decide_eq_true q
    unfold isD
    simp only [decide_eq_true_eq]
    omega
  have DD : isD (bt tb n p) = true → ¬ bt tb n p = 39 ∧ ¬ bt tb n p = 34 ∧ ¬ bt tb n p < 0 := by
    intro q
    unfold isD at q
    have q' := of_decide_eq_true q
    omega
  rcases iv_t2_token_0 h with ⟨k, v10, h1, v17, h2, (⟨h3, v24, h4, (⟨h5, (⟨h6, (⟨h7, (⟨h8, hE⟩ | ⟨h8, f38, a39, v41, h9, hE⟩)⟩ | ⟨h7, f51, a52, v54, h8, hE⟩)⟩ | ⟨h6, f64, a65, v67, h7, hE⟩)⟩ | ⟨h5, f77, a78, v80, h6, hE⟩)⟩ | ⟨h3, f90, a91, v93, h4, hE⟩)⟩
  · -- the end
    have e1 := byte_r hn hb hp h1
    have nl : ¬ isL (bt tb n p) = true := fun q => (el h1 h2).mpr q h3
    have nd : ¬ isD (bt tb n p) = true := fun q => (edg h1 h4).mpr q h5
    have ek : lxK KW (bt tb n) n p = 0 := by unfold lxK; rw [if_neg nl, if_neg nd, if_neg (by omega), if_neg (by omega), if_pos (by omega)]
    refine tok_89 (B := []) (Q' := Q) hE (by rw [u9 (by decide)]; exact hc) hc2 (u9 (by decide)) (u9 (by decide)) n12 (Nat.le_refl _) (by rw [LB]; exact nT) (fun _ => ⟨rfl, rfl⟩) (fun _ _ => rfl) (by rw [ek]; rfl) ⟨fun q => absurd q nl, fun q => absurd q nd, fun q => absurd q (by omega), fun q => absurd q (by omega)⟩ (fun q => absurd ek q)
  · -- a mark
    have e1 := byte_r hn hb hp h1
    have nl : ¬ isL (bt tb n p) = true := fun q => (el h1 h2).mpr q h3
    have nd : ¬ isD (bt tb n p) = true := fun q => (edg h1 h4).mpr q h5
    have hlt := lt (by omega)
    have ek : lxK KW (bt tb n) n p = if mkO (bt tb n) p = true then mkK (bt tb n) p else 19 := by unfold lxK; rw [if_neg nl, if_neg nd, if_neg (by omega), if_neg (by omega), if_neg (by omega)]
    have ee : lxE (bt tb n) n p = mkE (bt tb n) p := by unfold lxE; rw [if_neg nl, if_neg nd, if_neg (by omega), if_neg (by omega), if_neg (by omega)]
    have mb := mkE_b (tb := tb) hlt
    obtain ⟨m1, m2⟩ := mark_ok hM hb n7 n8 hlt e1 h9
    rcases m2 with ⟨g1, g2, z, g3, g4⟩ | ⟨g1, g2, g3⟩
    · rw [if_pos g1] at ek
      have fz : ∀ {j : Nat}, ¬ j = 8 → ¬ j = 9 → f38 j = f j := fun ha hb' => by rw [g3, pk_un ha, u9 hb']
      refine tok_89 (B := []) (Q' := Q) hE (by rw [fz (by decide) (by decide)]; exact hc) hc2 (fz (by decide) (by decide)) (fz (by decide) (by decide)) (by rw [fz (by decide) (by decide)]; exact hQ) (Nat.le_refl _) ?_ (fun _ => by rw [m1]; exact ⟨rfl, rfl⟩) (fun _ _ => by rw [m1]) (by rw [ek]; exact g2) ⟨fun q => absurd q nl, fun q => absurd q nd, fun q => absurd q (by omega), fun q => absurd q (by omega)⟩ (fun _ _ => ⟨by rw [g3, pk_us, ee]; exact g4, by omega, by omega, by omega, by rw [LB]; omega, by rw [LB]; omega⟩)
      rw [LB, m1]
      exact ⟨by rw [fz (by decide) (by decide)]; exact hT.1, hT.2⟩
    · rw [g1, if_neg (by decide)] at ek
      have fz : ∀ {j : Nat}, ¬ j = 9 → f38 j = f j := fun hb' => by rw [g3, u9 hb']
      refine tok_89 (B := []) (Q' := Q) hE (by rw [fz (by decide)]; exact hc) hc2 (fz (by decide)) (fz (by decide)) (by rw [fz (by decide)]; exact hQ) (Nat.le_refl _) ?_ (fun _ => by rw [m1]; exact ⟨rfl, rfl⟩) (fun _ _ => by rw [m1]) (by rw [ek, g2]; rfl) ⟨fun q => absurd q nl, fun q => absurd q nd, fun q => absurd q (by omega), fun q => absurd q (by omega)⟩ (fun _ q => absurd ek q)
      rw [LB, m1]
      exact ⟨by rw [fz (by decide)]; exact hT.1, hT.2⟩
  · -- a string
    have e1 := byte_r hn hb hp h1
    have nl : ¬ isL (bt tb n p) = true := fun q => (el h1 h2).mpr q h3
    have nd : ¬ isD (bt tb n p) = true := fun q => (edg h1 h4).mpr q h5
    have hlt := lt (by omega)
    have ek : lxK KW (bt tb n) n p = if (sC (bt tb n) n (p + 1)).1 ≤ 200 ∧ bt tb n (sC (bt tb n) n (p + 1)).2 = 34 then 18 else 19 := by unfold lxK; rw [if_neg nl, if_neg nd, if_neg (by omega), if_pos (by omega)]
    have ee : lxE (bt tb n) n p = (sC (bt tb n) n (p + 1)).2 + 1 := by unfold lxE; rw [if_neg nl, if_neg nd, if_neg (by omega), if_pos (by omega)]
    rcases lstr_ok hb n7 n8 hlt n12 hQp h8 with ⟨g1, g2, g3, g4, g5, g6, g7, g8, g9, g10, g11⟩ | ⟨g1, g2, g3, g4, g5⟩
    · rw [Nat.zero_add] at g1 g5 g6
      rw [if_pos g1] at ek
      have fz : ∀ {j : Nat}, ¬ j = 8 → ¬ j = 9 → ¬ j = 12 → f51 j = f j := fun h8' h9' h12 => by rw [g7 _ h8' h9' h12, u9 h9']
      refine tok_89 (B := []) (Q' := Q + (sC (bt tb n) n (p + 1)).1 + 1) hE (by rw [fz (by decide) (by decide) (by decide)]; exact hc) hc2 (fz (by decide) (by decide) (by decide)) (fz (by decide) (by decide) (by decide)) g5 (by omega) ?_ (fun _ => by rw [g8 0 (by decide), g8 2 (by decide)]; exact ⟨rfl, rfl⟩) (fun j hj => g9 j hj) (by rw [ek, g2]; rfl) ⟨fun q => absurd q nl, fun q => absurd q nd, fun q => absurd q (by omega), fun _ _ => ⟨Q, by omega, by rw [g4]; exact n12, g6⟩⟩ (fun _ _ => ⟨by rw [ee]; exact g3, by omega, by omega, by omega, by rw [LB]; omega, by rw [LB]; omega⟩)
      rw [LB]
      exact ⟨by rw [fz (by decide) (by decide) (by decide)]; exact hT.1, fun i w hw => by rw [g8 4 (by decide), g8 3 (by decide)]; exact hT.2 i w hw⟩
    · rw [Nat.zero_add] at g1
      rw [if_neg g1] at ek
      have fz : ∀ {j : Nat}, ¬ j = 9 → f51 j = f j := fun h9' => by rw [g3, u9 h9']
      refine tok_89 (B := []) (Q' := Q) hE (by rw [fz (by decide)]; exact hc) hc2 (fz (by decide)) (fz (by decide)) (by rw [fz (by decide)]; exact hQ) (Nat.le_refl _) ?_ (fun _ => by rw [g4 0 (by decide), g4 2 (by decide)]; exact ⟨rfl, rfl⟩) (fun j hj => g5 j hj) (by rw [ek, g2]; rfl) ⟨fun q => absurd q nl, fun q => absurd q nd, fun q => absurd q (by omega), fun _ q => absurd ek q⟩ (fun _ q => absurd ek q)
      rw [LB]
      exact ⟨by rw [fz (by decide)]; exact hT.1, fun i w hw => by rw [g4 4 (by decide), g4 3 (by decide)]; exact hT.2 i w hw⟩
  · -- a character
    have e1 := byte_r hn hb hp h1
    have nl : ¬ isL (bt tb n p) = true := fun q => (el h1 h2).mpr q h3
    have nd : ¬ isD (bt tb n p) = true := fun q => (edg h1 h4).mpr q h5
    have hlt := lt (by omega)
    have ek : lxK KW (bt tb n) n p = if 0 ≤ qV (bt tb n) (p + 1) 39 ∧ bt tb n (p + 1 + qW (bt tb n) (p + 1)) = 39 then 17 else 19 := by unfold lxK; rw [if_neg nl, if_neg nd, if_pos (by omega)]
    have ee : lxE (bt tb n) n p = p + 2 + qW (bt tb n) (p + 1) := by unfold lxE; rw [if_neg nl, if_neg nd, if_pos (by omega)]
    obtain ⟨m1, m3, m2⟩ := chr_ok hb n7 n8 hlt h7
    rcases m2 with ⟨g1, g2, g3, g4⟩ | ⟨g1, g2⟩
    · rw [if_pos g1] at ek
      have fz : ∀ {j : Nat}, ¬ j = 8 → ¬ j = 9 → f64 j = f j := fun h8' h9' => by rw [m3 _ h8' h9', u9 h9']
      have wi := qV_in (tb := tb) (n := n) (i := p + 1) (q := 39) g1.1
      have lt2 : p + 1 + qW (bt tb n) (p + 1) < n := by
        rcases Nat.lt_or_ge (p + 1 + qW (bt tb n) (p + 1)) n with y | y
        · exact y
        · have := g1.2; rw [bt_end y] at this; omega
      refine tok_89 (B := []) (Q' := Q) hE (by rw [fz (by decide) (by decide)]; exact hc) hc2 (fz (by decide) (by decide)) (fz (by decide) (by decide)) (by rw [fz (by decide) (by decide)]; exact hQ) (Nat.le_refl _) ?_ (fun _ => by rw [m1]; exact ⟨rfl, rfl⟩) (fun _ _ => by rw [m1]) (by rw [ek, g2]; rfl) ⟨fun q => absurd q nl, fun q => absurd q nd, fun _ _ => g4, fun q => absurd q (by omega)⟩ (fun _ _ => ⟨by rw [ee]; exact g3, by omega, by omega, by omega, by rw [LB]; omega, by rw [LB]; omega⟩)
      rw [LB, m1]
      exact ⟨by rw [fz (by decide) (by decide)]; exact hT.1, hT.2⟩
    · rw [if_neg g1] at ek
      have fz : ∀ {j : Nat}, ¬ j = 8 → ¬ j = 9 → f64 j = f j := fun h8' h9' => by rw [m3 _ h8' h9', u9 h9']
      refine tok_89 (B := []) (Q' := Q) hE (by rw [fz (by decide) (by decide)]; exact hc) hc2 (fz (by decide) (by decide)) (fz (by decide) (by decide)) (by rw [fz (by decide) (by decide)]; exact hQ) (Nat.le_refl _) ?_ (fun _ => by rw [m1]; exact ⟨rfl, rfl⟩) (fun _ _ => by rw [m1]) (by rw [ek, g2]; rfl) ⟨fun q => absurd q nl, fun q => absurd q nd, fun _ q => absurd ek q, fun q => absurd q (by omega)⟩ (fun _ q => absurd ek q)
      rw [LB, m1]
      exact ⟨by rw [fz (by decide) (by decide)]; exact hT.1, hT.2⟩
  · -- a number
    have e1 := byte_r hn hb hp h1
    have nl : ¬ isL (bt tb n p) = true := fun q => (el h1 h2).mpr q h3
    have yd : isD (bt tb n p) = true := (edg h1 h4).mp h5
    obtain ⟨d1, d2, d3⟩ := DD yd
    have hlt := lt d3
    have ek : lxK KW (bt tb n) n p = if nOk (bt tb n) n p = true then 17 else 19 := by unfold lxK; rw [if_neg nl, if_pos yd]
    have ee : lxE (bt tb n) n p = nFr (bt tb n) p + nCt (bt tb n) n p := by unfold lxE; rw [if_neg nl, if_pos yd]
    obtain ⟨m1, m3, m2⟩ := num_ok hb n7 n8 hlt h6
    have fz : ∀ {j : Nat}, ¬ j = 8 → ¬ j = 9 → f77 j = f j := fun h8' h9' => by rw [m3 _ h8' h9', u9 h9']
    have mT : NmT f77 a78 (NL ++ []) := by
      rw [LB, m1]
      exact ⟨by rw [fz (by decide) (by decide)]; exact hT.1, hT.2⟩
    rcases m2 with ⟨g1, g2, g3, g4⟩ | ⟨g1, g2⟩
    · rw [if_pos g1] at ek
      have eb := nEnd_b (tb := tb) hlt g1
      refine tok_89 (B := []) (Q' := Q) hE (by rw [fz (by decide) (by decide)]; exact hc) hc2 (fz (by decide) (by decide)) (fz (by decide) (by decide)) (by rw [fz (by decide) (by decide)]; exact hQ) (Nat.le_refl _) mT (fun _ => by rw [m1]; exact ⟨rfl, rfl⟩) (fun _ _ => by rw [m1]) (by rw [ek, g2]; rfl) ⟨fun q => absurd q nl, fun _ _ => g4, fun q => absurd q d1, fun q => absurd q d2⟩ (fun _ _ => ⟨by rw [ee]; exact g3, by omega, by omega, by omega, by rw [LB]; omega, by rw [LB]; omega⟩)
    · rw [g1, if_neg (by decide)] at ek
      refine tok_89 (B := []) (Q' := Q) hE (by rw [fz (by decide) (by decide)]; exact hc) hc2 (fz (by decide) (by decide)) (fz (by decide) (by decide)) (by rw [fz (by decide) (by decide)]; exact hQ) (Nat.le_refl _) mT (fun _ => by rw [m1]; exact ⟨rfl, rfl⟩) (fun _ _ => by rw [m1]) (by rw [ek, g2]; rfl) ⟨fun q => absurd q nl, fun _ q => absurd ek q, fun q => absurd q d1, fun q => absurd q d2⟩ (fun _ q => absurd ek q)
  · -- a word
    have e1 := byte_r hn hb hp h1
    have yl : isL (bt tb n p) = true := (el h1 h2).mp h3
    obtain ⟨d1, d2, d4, d3⟩ := LD yl
    have hlt := lt d3
    have lnl : 1 ≤ NL.length := by rw [hNL, List.length_append]; omega
    obtain ⟨m1, m2, m3⟩ := lnam_ok (tb := tb) hO ⟨lnl, hL⟩ hb hlt n7 n8 nT h4
    have fz : ∀ {j : Nat}, ¬ j = 8 → ¬ j = 9 → ¬ j = 11 → f90 j = f j := fun h8' h9' h11 => by rw [m1 _ h8' h9' h11, u9 h9']
    have eb := nmE_b (b := bt tb n) (n - p) p
    have ee : lxE (bt tb n) n p = nmE (bt tb n) (n - p) p := by unfold lxE; rw [if_pos yl]
    have ek : lxK KW (bt tb n) n p = if nmE (bt tb n) (n - p) p - p ≤ 24 then kwK KW (wdL (bt tb n) p (nmE (bt tb n) (n - p) p)) else 19 := by unfold lxK; rw [if_pos yl]
    have pe : p < nmE (bt tb n) (n - p) p := by
      have un : nmE (bt tb n) (n - p - 1 + 1) p = if isL (bt tb n p) = true ∨ isD (bt tb n p) = true then nmE (bt tb n) (n - p - 1) (p + 1) else p := by first | rfl | simp [nmE]
      rw [show n - p - 1 + 1 = n - p by omega, if_pos (Or.inl yl)] at un
      have := nmE_b (b := bt tb n) (n - p - 1) (p + 1)
      omega
    rcases m3 with ⟨g1, g2, g3, g4, g5⟩ | ⟨g1, g2, g3⟩
    · rw [if_pos g1] at ek
      obtain ⟨i1, i2, B, i3⟩ := nAdd_ix (w := wdL (bt tb n) p (nmE (bt tb n) (n - p) p)) (NL := NL)
      have k5 : v93.toInt = lxK KW (bt tb n) n p := by
        rw [g5, ek, hNL]
        exact kw_eq hKW
      have wl : (wdL (bt tb n) p (nmE (bt tb n) (n - p) p)).length = nmE (bt tb n) (n - p) p - p := wdL_len
      have ob : offs (NL ++ B) ≤ offs NL + (nmE (bt tb n) (n - p) p - p) ∧ (NL ++ B).length ≤ NL.length + 1 := by
        rw [← i3]
        unfold nAdd
        split
        · omega
        · rw [offs_ap, List.length_append]
          show offs NL + ((wdL (bt tb n) p (nmE (bt tb n) (n - p) p)).length + 0) ≤ _ ∧ NL.length + 1 ≤ _
          omega
      rw [i3] at g2 i1 i2
      refine tok_89 (B := B) (Q' := Q) hE (by rw [fz (by decide) (by decide) (by decide)]; exact hc) hc2 (fz (by decide) (by decide) (by decide)) (fz (by decide) (by decide) (by decide)) (by rw [fz (by decide) (by decide) (by decide)]; exact hQ) (Nat.le_refl _) g2 (fun _ => by rw [m2 0 (by decide) (by decide), m2 2 (by decide) (by decide)]; exact ⟨rfl, rfl⟩) (fun _ _ => by rw [m2 5 (by decide) (by decide)]) k5 ⟨fun _ _ => ⟨by rw [i1]; exact g4, i2⟩, fun q => absurd q d4, fun q => absurd q d1, fun q => absurd q d2⟩ (fun _ _ => ⟨by rw [ee]; exact g3, by omega, by omega, by omega, by omega, by omega⟩)
    · rw [if_neg g1] at ek
      exact tok_89 (B := []) (Q' := Q) hE (by rw [fz (by decide) (by decide) (by decide)]; exact hc) hc2 (fz (by decide) (by decide) (by decide)) (fz (by decide) (by decide) (by decide)) (by rw [fz (by decide) (by decide) (by decide)]; exact hQ) (Nat.le_refl _) (by rw [LB]; exact g3) (fun _ => by rw [m2 0 (by decide) (by decide), m2 2 (by decide) (by decide)]; exact ⟨rfl, rfl⟩) (fun _ _ => by rw [m2 5 (by decide) (by decide)]) (by rw [ek, g2]; rfl) ⟨fun _ q => absurd ek q, fun q => absurd q d4, fun q => absurd q d1, fun q => absurd q d2⟩ (fun _ q => absurd ek q)
/-- where the tokens begin -/
def posN (b : Nat → Int) (n : Nat) : Nat → Nat
  | 0 => skp b n (n + 1) 0
  | i + 1 => skp b n (n + 1) (lxE b n (posN b n i))
/-- what the class has of a text: c tokens -/
def LxC (KW : List (List Int)) (b : Nat → Int) (n : Nat) (f : Nat → Int32) (a : Nat → Nat → Int32) (c : Nat) (NL : List (List Int)) (Q : Nat) : Prop :=
  (f 10).toInt = (c : Int) ∧ 1 ≤ c ∧ c ≤ n + 1 ∧ (∀ i : Nat, i < c → TkF KW b n a NL Q i (posN b n i)) ∧ (∀ i : Nat, i + 1 < c → ¬ lxK KW b n (posN b n i) = 0 ∧ ¬ lxK KW b n (posN b n i) = 19) ∧ (lxK KW b n (posN b n (c - 1)) = 0 ∨ lxK KW b n (posN b n (c - 1)) = 19) ∧ NmT f a NL
theorem scan_41 (hKW : KW.length = 15) (hM : ∀ z w : Int32, R_String_indexOf1 sn sb z w → 0 ≤ z.toInt → z.toInt ≤ 255 → (w.toInt < 0 ↔ isMk z.toInt = false)) (hb : n ≤ 2048) {p0 : Int32} :
    ∀ (d c k : Nat) (x3 x4 : Int32) (f : Nat → Int32) (a : Nat → Nat → Int32) (p Q : Nat) (NL R : List (List Int)), E_t2_scan sn sb tb p0 f' a' k 41 [x3, x4] [] [] [] [] f a → x3.toInt = 1 → x4.toInt = (c : Int) → (f 7).toInt = (n : Int) → (f 8).toInt = (p : Int) → p ≤ n → (f 10).toInt = (c : Int) → c ≤ p → (f 12).toInt = (Q : Int) → Q ≤ p → NmT f a NL → NL = KW ++ R → offs NL ≤ 133 + p → NL.length ≤ 26 + p → n + 1 ≤ c + d → skp (bt tb n) n (n + 1) p = posN (bt tb n) n c → (∀ i : Nat, i < c → TkF KW (bt tb n) n a NL Q i (posN (bt tb n) n i) ∧ ¬ lxK KW (bt tb n) n (posN (bt tb n) n i) = 0 ∧ ¬ lxK KW (bt tb n) n (posN (bt tb n) n i) = 19) →
      f' 15 = f 15 ∧ ∃ (c' : Nat) (R' : List (List Int)) (Q' : Nat), LxC KW (bt tb n) n f' a' c' (KW ++ (R ++ R')) Q' ∧ ∀ i : Nat, i < c' → bt tb n (posN (bt tb n) n i) = 34 → ¬ lxK KW (bt tb n) n (posN (bt tb n) n i) = 19 → (a' 2 i).toInt < 2048 := by
  intro d
  induction d with
  | zero =>
    intro c k x3 x4 f a p Q NL R h hx3 hx4 hn hp hpn hc hcp hQ hQp hT hNL hO hL hd hs hF
    exfalso; omega
  | succ d ih =>
    intro c k x3 x4 f a p Q NL R h hx3 hx4 hn hp hpn hc hcp hQ hQp hT hNL hO hL hd hs hF
    rcases iv_t2_scan_41 h with ⟨k, (⟨h1, e0, e1⟩ | ⟨h1, (⟨h2, e0, e1⟩ | ⟨h2, f7, a8, h3, f20, a21, v23, h4, z33, h5, hE⟩)⟩)⟩
    · exfalso; omega
    · exfalso; omega
    · obtain ⟨⟨z, s1, s2⟩, s3⟩ := skip_ok hb h3 hn hp hpn
      rw [hs] at s2
      have sb2 := skp_b (tb := tb) (n + 1) p hpn
      rw [hs] at sb2
      have fj : ∀ {j : Nat}, ¬ j = 8 → f7 j = f j := fun hj => by rw [s1, pk_un hj]
      have t1 := tok_ok (f := f7) (p := posN (bt tb n) n c) (NL := NL) (R := R) (Q := Q) (c := c) (a := a) hKW hM hb hNL (by omega) (by omega) (by rw [fj (by decide)]; exact hn) (by rw [s1, pk_us]; exact s2) sb2.2 (by rw [fj (by decide)]; exact hc) (by omega) (by rw [fj (by decide)]; exact hQ) (by omega) ⟨by rw [fj (by decide)]; exact hT.1, hT.2⟩ (by rw [← s3]; exact h4)
      obtain ⟨B, Q', r1, r2, r3, r4, r5, r6, r7, r8, r9, r10, r11, r12⟩ := t1
      have z5 := ti_add h5 hx4 (show (1 : Int32).toInt = 1 from rfl) (by omega) (by omega)
      have f15 : f20 15 = f 15 := by rw [r3, fj (by decide)]
      have eNL : NL ++ B = KW ++ (R ++ B) := by rw [hNL, List.append_assoc]
      have old : ∀ i : Nat, i < c → TkF KW (bt tb n) n a21 (NL ++ B) Q' i (posN (bt tb n) n i) := fun i hi => (hF i hi).1.mv (r8 i (by omega)).1 (r8 i (by omega)).2 r6 r9
      rcases r10 with v0 | v1
      · have kk := r11.mp v0
        have fin : f' = f20 → a' = a21 → f' 15 = f 15 ∧ ∃ (c' : Nat) (R' : List (List Int)) (Q' : Nat), LxC KW (bt tb n) n f' a' c' (KW ++ (R ++ R')) Q' ∧ ∀ i : Nat, i < c' → bt tb n (posN (bt tb n) n i) = 34 → ¬ lxK KW (bt tb n) n (posN (bt tb n) n i) = 19 → (a' 2 i).toInt < 2048 := by
          intro e0 e1
          rw [e0, e1]
          refine ⟨f15, c + 1, B, Q', ⟨r4, by omega, by omega, fun i hi => ?_, fun i hi => (hF i (by omega)).2, by rw [Nat.add_sub_cancel]; exact kk, by rw [← eNL]; exact r1⟩, fun i hi h34 h19 => ?_⟩
          · rw [← eNL]
            rcases Nat.eq_or_lt_of_le (Nat.le_of_lt_succ hi) with q | q
            · rw [q]; exact r7
            · exact old i q
          · rcases Nat.eq_or_lt_of_le (Nat.le_of_lt_succ hi) with q | q
            · rw [q] at h34 h19
              rcases kk with y | y
              · exfalso
                unfold lxK at y
                rw [h34, if_neg (by decide), if_neg (by decide), if_neg (by decide), if_pos rfl] at y
                split at y
                · exact absurd y (by decide)
                · exact absurd y (by decide)
              · exact absurd y h19
            · obtain ⟨q', y1, y2, -⟩ := (hF i q).1.2.2.2.2 h34 h19
              rw [(r8 i (by omega)).2, y2]
              omega
        rcases iv_t2_scan_41 hE with ⟨k, (⟨g1, e0, e1⟩ | ⟨g1, (⟨g2, e0, e1⟩ | ⟨g2, f7, a8, g3, f20, a21, v23, g4, z33, g5, hE⟩)⟩)⟩
        · exact fin e0 e1
        · exact fin e0 e1
        · exact absurd v0 g2
      · obtain ⟨w1, w2, w3, w4, w5, w6⟩ := r12 v1
        have kk : ¬ (lxK KW (bt tb n) n (posN (bt tb n) n c) = 0 ∨ lxK KW (bt tb n) n (posN (bt tb n) n c) = 19) := fun q => by have := r11.mpr q; omega
        have i1 := ih (c + 1) k v23 z33 f20 a21 (lxE (bt tb n) n (posN (bt tb n) n c)) Q' (NL ++ B) (R ++ B) hE v1 (by omega) (by rw [r2, fj (by decide)]; exact hn) w1 w3 r4 (by omega) r5 w4 r1 eNL w5 w6 (by omega) rfl (fun i hi => by
          rcases Nat.eq_or_lt_of_le (Nat.le_of_lt_succ hi) with q | q
          · rw [q]; exact ⟨r7, fun z => kk (Or.inl z), fun z => kk (Or.inr z)⟩
          · exact ⟨old i q, (hF i q).2⟩)
        obtain ⟨i0, c2, R2, Q2, i2, i3⟩ := i1
        exact ⟨i0.trans f15, c2, B ++ R2, Q2, by rw [← List.append_assoc R B R2]; exact i2, i3⟩
theorem scan_ok (hKW : KW.length = 15) (hM : ∀ z w : Int32, R_String_indexOf1 sn sb z w → 0 ≤ z.toInt → z.toInt ≤ 255 → (w.toInt < 0 ↔ isMk z.toInt = false)) (hb : n ≤ 2048) {f : Nat → Int32} {a : Nat → Nat → Int32} {R : List (List Int)} {p0 : Int32} (hp0 : p0.toInt = (n : Int)) (hT : NmT (upd f 11 26) a (KW ++ R)) (hO : offs (KW ++ R) ≤ 133) (hL : (KW ++ R).length ≤ 26) (h : R_t2_scan sn sb tb p0 f a f' a') : (f' 15).toInt = 0 ∧ ∃ (c : Nat) (R' : List (List Int)) (Q : Nat), LxC KW (bt tb n) n f' a' c (KW ++ (R ++ R')) Q ∧ ∀ i : Nat, i < c → bt tb n (posN (bt tb n) n i) = 34 → ¬ lxK KW (bt tb n) n (posN (bt tb n) n i) = 19 → (a' 2 i).toInt < 2048 := by
  obtain ⟨k, h⟩ := h
  obtain ⟨k, hE⟩ := iv_t2_scan_0 h
  have g : ∀ {F : Nat → Int32}, F = upd (upd (upd (upd (upd (upd f 7 p0) 8 0) 10 0) 11 26) 12 0) 15 0 → F 7 = p0 ∧ F 8 = 0 ∧ F 10 = 0 ∧ F 11 = 26 ∧ F 12 = 0 ∧ F 15 = 0 := by
    intro F e
    rw [e]
    refine ⟨?_, ?_, ?_, ?_, ?_, ?_⟩ <;> simp [upd]
  obtain ⟨g7, g8, g10, g11, g12, g15⟩ := g rfl
  have t1 := hT.1
  rw [pk_us] at t1
  obtain ⟨r1, r2⟩ := scan_41 hKW hM hb (n + 1) 0 k _ _ _ a 0 0 (KW ++ R) R hE (by rfl) (by rfl) (by rw [g7]; exact hp0) (by rw [g8]; rfl) (Nat.zero_le _) (by rw [g10]; rfl) (Nat.le_refl _) (by rw [g12]; rfl) (Nat.le_refl _) ⟨by rw [g11]; exact t1, hT.2⟩ rfl (by omega) (by omega) (by omega) rfl (fun i hi => absurd hi (Nat.not_lt_zero _))
  exact ⟨by rw [r1, g15]; rfl, r2⟩
end TB
