theorem oz_17d76f6b61 {a2 a3 : Int} {n0 n1 : Nat} (h0 : (n0 : Int) = a2 + 1) (h1 : (n1 : Int) = a3) (h2 : a3 = a2 + 1) : n0 = n1 := by omega
/-! CHAINS of jumps that wait: a ghost colours them: 0 none, 1 breaks, 2 continues -/
def ColOk (cn : Nat) (cd : Nat → Int32) (z : Int32) (col : Nat → Nat) : Prop := ∀ i : Nat, col i ≠ 0 → i % 4 = 0 ∧ (i : Int) + 4 ≤ z.toInt ∧ ((cd (i + 1)).toInt < 0 ∨ (cd (i + 1)).toInt = (cn : Int) ∨ ∃ k : Nat, (k : Int) = (cd (i + 1)).toInt ∧ k < i ∧ col k = col i)
def Chp (cn : Nat) (col : Nat → Nat) (c : Nat) (p : Int32) : Prop := p.toInt < 0 ∨ p.toInt = (cn : Int) ∨ ∃ k : Nat, (k : Int) = p.toInt ∧ col k = c
def C0 (col : Nat → Nat) (p : Int32) : Prop := ∀ k : Nat, (k : Int) = p.toInt → col k = 0
def Agr (z : Int32) (col col' : Nat → Nat) : Prop := ∀ k : Nat, (k : Int) < z.toInt → col' k = col k
def LowC (c : Nat) (z : Int32) (col : Nat → Nat) : Prop := ∀ k : Nat, col k = c → z.toInt ≤ (k : Int)
def Amc (col : Nat → Nat) (c : Nat) (cd cd' : Nat → Int32) : Prop := CodeOk cd' ∧ ∀ i : Nat, (∀ k : Nat, i = k + 1 → col k ≠ c) → cd' i = cd i
/-- the colour c is taken off -/
def rc (c : Nat) (col : Nat → Nat) : Nat → Nat := fun k => if col k = c then 0 else col k
/-- no colour -/
def c00 : Nat → Nat := fun _ => 0
theorem colOk_0 {cn : Nat} {cd : Nat → Int32} {z : Int32} : ColOk cn cd z c00 := fun _ h => absurd rfl h
theorem lowC_0 {c : Nat} {z : Int32} (h : c ≠ 0) : LowC c z c00 := fun _ e => absurd e.symm h
theorem chp_m {cn c : Nat} {col : Nat → Nat} {p : Int32} (h : p.toInt < 0) : Chp cn col c p := Or.inl h
theorem agr_rf {z : Int32} {col : Nat → Nat} : Agr z col col := fun _ _ => rfl
theorem Agr.tr {z z1 : Int32} {a b c : Nat → Nat} (h : Agr z a b) (k : Agr z1 b c) (hz : z.toInt ≤ z1.toInt) : Agr z a c := fun i hi => (k i (by omega)).trans (h i hi)
theorem LowC.tr {c : Nat} {z z1 : Int32} {col col' : Nat → Nat} (h : LowC c z col) (k : Agr z1 col col') (hz : z.toInt ≤ z1.toInt) : LowC c z col' := fun i hi => by
  by_cases hl : (i : Int) < z1.toInt
  · exact h i ((k i hl).symm.trans hi)
  · omega
theorem lowC_rc {c d : Nat} {z : Int32} {col : Nat → Nat} (h : LowC c z col) (hc : c ≠ 0) : LowC c z (rc d col) := fun i hi => by
  unfold rc at hi
  by_cases e : col i = d
  · rw [if_pos e] at hi; exact absurd hi.symm hc
  · rw [if_neg e] at hi; exact h i hi
theorem ColOk.kp {cn : Nat} {cd cd' : Nat → Int32} {z z' : Int32} {col : Nat → Nat} (h : ColOk cn cd z col) (k : Prel cn z cd z' cd') : ColOk cn cd' z' col := fun i hi => by
  obtain ⟨h1, h2, h3⟩ := h i hi
  have e := k.2.2 (i + 1) (by omega)
  rw [e]
  exact ⟨h1, by have := k.2.1; omega, h3⟩
theorem ColOk.fresh {cn : Nat} {cd : Nat → Int32} {z p : Int32} {col : Nat → Nat} (h : ColOk cn cd z col) (hp : z.toInt ≤ p.toInt) : C0 col p := fun k hk => by
  by_cases e : col k = 0
  · exact e
  · have := (h k e).2.1
    omega
theorem C0.tr {cn : Nat} {cd cd' : Nat → Int32} {z z' p : Int32} {col col' : Nat → Nat} (h : C0 col p) (ha : Agr z col col') (hc : ColOk cn cd' z' col') (hz : z'.toInt ≤ (cn : Int)) (hz0 : 0 ≤ z.toInt) (hw : Wt cn cd z p) : C0 col' p := fun k hk => by
  by_cases hl : (k : Int) < z.toInt
  · rw [ha k hl]; exact h k hk
  · rcases hw with hw | hw | hw
    · omega
    · exact hc.fresh (p := p) (by omega) k hk
    · omega
theorem c0_rc {c : Nat} {p : Int32} {col : Nat → Nat} (h : C0 col p) : C0 (rc c col) p := fun k hk => by
  unfold rc
  rw [h k hk]
  by_cases e : (0 : Nat) = c
  · rw [if_pos e]
  · rw [if_neg e]
theorem ColOk.am {cn : Nat} {cd cd' : Nat → Int32} {z p : Int32} {col : Nat → Nat} (h : ColOk cn cd z col) (k : Am cn p cd cd') (hp : C0 col p) : ColOk cn cd' z col := fun i hi => by
  have e := k.2 (i + 1) (by
    by_cases q : (i : Int) = p.toInt
    · exact absurd (hp i q) hi
    · exact Or.inl (by omega))
  rw [e]
  exact h i hi
theorem Amc.ne {col : Nat → Nat} {c : Nat} {cd cd' : Nat → Int32} (h : Amc col c cd cd') {i : Nat} (hi : col i ≠ c) : cd' (i + 1) = cd (i + 1) := h.2 (i + 1) (fun k e => by
  have : k = i := by omega
  rw [this]
  exact hi)
theorem ColOk.amc {cn c : Nat} {cd cd' : Nat → Int32} {z : Int32} {col : Nat → Nat} (h : ColOk cn cd z col) (k : Amc col c cd cd') : ColOk cn cd' z (rc c col) := fun i hi => by
  unfold rc at hi
  by_cases e : col i = c
  · rw [if_pos e] at hi; exact absurd rfl hi
  · rw [if_neg e] at hi
    obtain ⟨h1, h2, h3⟩ := h i hi
    rw [k.ne e]
    refine ⟨h1, h2, ?_⟩
    rcases h3 with h3 | h3 | ⟨j, j1, j2, j3⟩
    · exact Or.inl h3
    · exact Or.inr (Or.inl h3)
    · refine Or.inr (Or.inr ⟨j, j1, j2, ?_⟩)
      unfold rc
      rw [if_neg (by rw [j3]; exact e), if_neg e]
      exact j3
theorem chp_rc {cn c d : Nat} {col : Nat → Nat} {p : Int32} (h : Chp cn col c p) (hd : c ≠ d) : Chp cn (rc d col) c p := by
  rcases h with h | h | ⟨k, h1, h2⟩
  · exact Or.inl h
  · exact Or.inr (Or.inl h)
  · refine Or.inr (Or.inr ⟨k, h1, ?_⟩)
    unfold rc
    rw [if_neg (by rw [h2]; exact hd)]
    exact h2
theorem Prel.amc {cn c : Nat} {z z' : Int32} {cd cd1 cd2 : Nat → Int32} {col : Nat → Nat} (h : Prel cn z cd z' cd1) (k : Amc col c cd1 cd2) (hl : LowC c z col) : Prel cn z cd z' cd2 :=
  ⟨⟨h.1.1, k.1⟩, h.2.1, fun i hi => (k.2 i (fun j e q => by have := hl j q; omega)).trans (h.2.2 i hi)⟩
theorem Wt.amc {cn c : Nat} {z p : Int32} {cd cd' : Nat → Int32} {col : Nat → Nat} (h : Wt cn cd z p) (k : Amc col c cd cd') (h0 : C0 col p) (hc : c ≠ 0) : Wt cn cd' z p := by
  rcases h with h | h | ⟨h1, h2, h3, h4⟩
  · exact Or.inl h
  · exact Or.inr (Or.inl h)
  · refine Or.inr (Or.inr ⟨h1, h2, h3, fun i hi => ?_⟩)
    rw [k.2 i (fun j e => by rw [h0 j (by omega)]; exact fun q => hc q.symm)]
    exact h4 i hi
/-- a new link of the chain c, at the size -/
theorem ColOk.add {cn c : Nat} {cd' : Nat → Int32} {z z' p : Int32} {col : Nat → Nat} (hc : c ≠ 0) (hz0 : 0 ≤ z.toInt) (h4 : z.toInt % 4 = 0) (h : ColOk cn cd' z' col) (hf : C0 col z) (hp : Chp cn col c p) (hpz : p.toInt < z.toInt ∨ p.toInt = (cn : Int)) (hz : z'.toInt = z.toInt + 4) (hl : ∀ i : Nat, (i : Int) = z.toInt + 1 → cd' i = p) : ColOk cn cd' z' (va_up col z.toNatClampNeg c) ∧ Chp cn (va_up col z.toNatClampNeg c) c z ∧ Agr z col (va_up col z.toNatClampNeg c) ∧ ∀ d, d ≠ 0 → d ≠ c → ∀ q, Chp cn col d q → Chp cn (va_up col z.toNatClampNeg c) d q := by
  have hcl := cl_nat (x := z) hz0
  refine ⟨fun i hi => ?_, Or.inr (Or.inr ⟨z.toNatClampNeg, hcl, va_up_s⟩), fun k hk => va_up_n (by omega), fun d hd hdc q hq => ?_⟩
  · by_cases e : i = z.toNatClampNeg
    · subst e
      rw [va_up_s]
      refine ⟨by omega, by omega, ?_⟩
      rw [hl _ (by omega)]
      rcases hp with hp | hp | ⟨k, k1, k2⟩
      · exact Or.inl hp
      · exact Or.inr (Or.inl hp)
      · rcases hpz with hpz | hpz
        · exact Or.inr (Or.inr ⟨k, k1, by omega, by rw [va_up_n (by omega)]; exact k2⟩)
        · exact Or.inr (Or.inl hpz)
    · rw [va_up_n e] at hi ⊢
      obtain ⟨h1, h2, h3⟩ := h i hi
      refine ⟨h1, h2, ?_⟩
      rcases h3 with h3 | h3 | ⟨j, j1, j2, j3⟩
      · exact Or.inl h3
      · exact Or.inr (Or.inl h3)
      · refine Or.inr (Or.inr ⟨j, j1, j2, ?_⟩)
        by_cases ej : j = z.toNatClampNeg
        · have := hf j (by omega)
          rw [j3] at this
          exact absurd this hi
        · rw [va_up_n ej]; exact j3
  · rcases hq with hq | hq | ⟨k, k1, k2⟩
    · exact Or.inl hq
    · exact Or.inr (Or.inl hq)
    · refine Or.inr (Or.inr ⟨k, k1, ?_⟩)
      by_cases ek : k = z.toNatClampNeg
      · have := hf k (by omega)
        rw [this] at k2
        exact absurd k2.symm hd
      · rw [va_up_n ek]; exact k2
/-- behind a loop: what was there before it, and of the chain of continues what a switch has added -/
def mixc (z : Int32) (two : Bool) (col colE : Nat → Nat) : Nat → Nat := fun k => if (k : Int) < z.toInt then col k else if two = true ∧ colE k = 2 then 2 else 0
theorem agr_mix {z : Int32} {two : Bool} {col colE : Nat → Nat} : Agr z col (mixc z two col colE) := fun k hk => by unfold mixc; rw [if_pos hk]
theorem ColOk.mix {cn : Nat} {cd cd' : Nat → Int32} {z z' : Int32} {two : Bool} {col colE : Nat → Nat} (h0 : ColOk cn cd z col) (hr : Prel cn z cd z' cd') (hE : ColOk cn cd' z' colE) (h2 : two = true → ∀ k : Nat, (k : Int) < z.toInt → colE k = 2 → col k = 2) : ColOk cn cd' z' (mixc z two col colE) := fun i hi => by
  unfold mixc at hi ⊢
  by_cases hl : (i : Int) < z.toInt
  · rw [if_pos hl] at hi
    obtain ⟨a1, a2, a3⟩ := h0.kp hr i hi
    rw [if_pos hl]
    refine ⟨a1, a2, ?_⟩
    rcases a3 with a3 | a3 | ⟨j, j1, j2, j3⟩
    · exact Or.inl a3
    · exact Or.inr (Or.inl a3)
    · exact Or.inr (Or.inr ⟨j, j1, j2, by rw [if_pos (by omega)]; exact j3⟩)
  · rw [if_neg hl] at hi
    by_cases ht : two = true ∧ colE i = 2
    · have hne : colE i ≠ 0 := by rw [ht.2]; decide
      obtain ⟨a1, a2, a3⟩ := hE i hne
      rw [if_neg hl, if_pos ht]
      refine ⟨a1, a2, ?_⟩
      rcases a3 with a3 | a3 | ⟨j, j1, j2, j3⟩
      · exact Or.inl a3
      · exact Or.inr (Or.inl a3)
      · refine Or.inr (Or.inr ⟨j, j1, j2, ?_⟩)
        rw [ht.2] at j3
        by_cases hj : (j : Int) < z.toInt
        · rw [if_pos hj]; exact h2 ht.1 j hj j3
        · rw [if_neg hj, if_pos ⟨ht.1, j3⟩]
    · rw [if_neg ht] at hi; exact absurd rfl hi
theorem Chp.mix {cn c : Nat} {cd : Nat → Int32} {z : Int32} {two : Bool} {col colE : Nat → Nat} {p : Int32} (h : Chp cn col c p) (hc : c ≠ 0) (h0 : ColOk cn cd z col) : Chp cn (mixc z two col colE) c p := by
  rcases h with h | h | ⟨k, h1, h2⟩
  · exact Or.inl h
  · exact Or.inr (Or.inl h)
  · refine Or.inr (Or.inr ⟨k, h1, ?_⟩)
    have := (h0 k (by rw [h2]; exact hc)).2.1
    unfold mixc
    rw [if_pos (by omega)]
    exact h2
theorem Chp.mix2 {cn : Nat} {z : Int32} {col colE : Nat → Nat} {p : Int32} (h : Chp cn colE 2 p) (h2 : ∀ k : Nat, (k : Int) < z.toInt → colE k = 2 → col k = 2) : Chp cn (mixc z true col colE) 2 p := by
  rcases h with h | h | ⟨k, h1, h3⟩
  · exact Or.inl h
  · exact Or.inr (Or.inl h)
  · refine Or.inr (Or.inr ⟨k, h1, ?_⟩)
    unfold mixc
    by_cases hk : (k : Int) < z.toInt
    · rw [if_pos hk]; exact h2 k hk h3
    · rw [if_neg hk, if_pos ⟨rfl, h3⟩]
/-- while a chain is aimed: what lies further down is as it was -/
def AmS (cn : Nat) (col : Nat → Nat) (c : Nat) (cd cd' : Nat → Int32) (p : Int32) : Prop := Amc col c cd cd' ∧ (p.toInt < (cn : Int) → ∀ k : Nat, (k : Int) ≤ p.toInt → cd' (k + 1) = cd (k + 1))
theorem ams_0 {cn c : Nat} {col : Nat → Nat} {cd : Nat → Int32} {p : Int32} (h : CodeOk cd) : AmS cn col c cd cd p := ⟨⟨h, fun _ _ => rfl⟩, fun _ _ _ => rfl⟩
theorem ams_step {cn c : Nat} {col : Nat → Nat} {cd cd1 : Nat → Int32} {z p x t q : Int32} (hc : c ≠ 0) (ha : AmS cn col c cd cd1 p) (hcol : ColOk cn cd z col) (hp : Chp cn col c p) (h0 : 0 ≤ p.toInt) (h1 : p.toInt < (cn : Int)) (hx : x.toInt = p.toInt + 1) (ht : 0 ≤ t.toInt ∧ t.toInt % 4 = 0 ∧ t.toInt ≤ 100000) (hq : q = cd1 x.toNatClampNeg) : AmS cn col c cd (upd cd1 x.toNatClampNeg t) q ∧ Chp cn col c q := by
  have hxn := cl_nat (x := x) (by first | exact oz_ae613611c0 hx h0 | omega)
  have hpn : ∃ k : Nat, (k : Int) = p.toInt ∧ col k = c := by
    rcases hp with hp | hp | hp
    · omega
    · omega
    · exact hp
  obtain ⟨k, k1, k2⟩ := hpn
  obtain ⟨a1, a2, a3⟩ := hcol k (by rw [k2]; exact hc)
  have hxk : x.toNatClampNeg = k + 1 := by omega
  rw [hxk] at hq ⊢
  have hqe : q = cd (k + 1) := hq.trans (ha.2 h1 k (by omega))
  have hup : Am cn p cd1 (upd cd1 x.toNatClampNeg t) := am_up ha.1.1 h0 (by omega) hx ht
  rw [hxk] at hup
  have une : ∀ i : Nat, i ≠ k + 1 → upd cd1 (k + 1) t i = cd1 i := fun i hi => hup.2 i (Or.inl (by omega))
  refine ⟨⟨⟨hup.1, fun i hi => ?_⟩, fun hqc j hj => ?_⟩, ?_⟩
  · have hne : i ≠ k + 1 := fun e => hi k e k2
    rw [une i hne]
    exact ha.1.2 i hi
  · have hjk : j < k := by
      rw [← hqe] at a3
      rcases a3 with a3 | a3 | ⟨n, n1, n2, n3⟩
      · omega
      · omega
      · omega
    rw [une (j + 1) (by omega)]
    exact ha.2 h1 j (by omega)
  · rw [hqe]
    rcases a3 with a3 | a3 | ⟨n, n1, n2, n3⟩
    · exact Or.inl a3
    · exact Or.inr (Or.inl a3)
    · exact Or.inr (Or.inr ⟨n, n1, n3.trans k2⟩)
theorem em4_at1 {cd : Nat → Int32} {z p0 p1 p2 p3 : Int32} (h0 : 0 ≤ z.toInt) (hz : z.toInt ≤ 100000) {i : Nat} (hi : (i : Int) = z.toInt + 1) : em4 cd z p0 p1 p2 p3 i = p1 := by
  have c1 : (1 : Int32).toInt = 1 := rfl
  have c2 : (2 : Int32).toInt = 2 := rfl
  have c3 : (3 : Int32).toInt = 3 := rfl
  have e1 : (z + 1).toInt = z.toInt + 1 := by have := i_add z 1; omega
  have e2 : (z + 2).toInt = z.toInt + 2 := by have := i_add z 2; omega
  have e3 : (z + 3).toInt = z.toInt + 3 := by have := i_add z 3; omega
  have n1 := cl_nat (x := z + 1) (by omega)
  have n2 := cl_nat (x := z + 2) (by omega)
  have n3 := cl_nat (x := z + 3) (by omega)
  unfold em4
  have e : i = (z + 1).toNatClampNeg := by first | exact oz_17d76f6b61 hi n1 e1 | omega
  rw [pk_un (by omega), pk_un (by omega), e, pk_us]
theorem chain_add {cn c d : Nat} {cd cd' : Nat → Int32} {z z' p q : Int32} {col : Nat → Nat} (h : ColOk cn cd z col) (hp : Chp cn col c p) (hq : Chp cn col d q) (hem : Prel cn z cd z' cd') (hsz : (z'.toInt = z.toInt + 4 ∧ z.toInt + 4 ≤ (cn : Int)) ∨ (z'.toInt = z.toInt ∧ z.toInt = (cn : Int))) (hec : z'.toInt = z.toInt + 4 → ∀ i : Nat, (i : Int) = z.toInt + 1 → cd' i = p) (hc : c ≠ 0) (hd : d ≠ 0) (hdc : d ≠ c) (hz0 : 0 ≤ z.toInt) (h4 : z.toInt % 4 = 0) : ∃ col', ColOk cn cd' z' col' ∧ Chp cn col' c z ∧ Chp cn col' d q ∧ Agr z col col' := by
  rcases hsz with ⟨h1, h2⟩ | ⟨h1, h2⟩
  · have hf : C0 col z := h.fresh (Int.le_refl _)
    have hpz : p.toInt < z.toInt ∨ p.toInt = (cn : Int) := by
      rcases hp with hp | hp | ⟨k, k1, k2⟩
      · exact Or.inl (by omega)
      · exact Or.inr hp
      · have := (h k (by rw [k2]; exact hc)).2.1
        exact Or.inl (by omega)
    obtain ⟨a1, a2, a3, a4⟩ := ColOk.add hc hz0 h4 (h.kp hem) hf hp hpz h1 (hec h1)
    exact ⟨_, a1, a2, a4 d hd hdc q hq, a3⟩
  · exact ⟨col, h.kp hem, Or.inr (Or.inl h2), hq, agr_rf⟩
theorem agr_rc {c : Nat} {z : Int32} {a col : Nat → Nat} (h : Agr z a col) (hl : LowC c z col) : Agr z a (rc c col) := fun k hk => by
  unfold rc
  by_cases e : col k = c
  · have := hl k e
    omega
  · rw [if_neg e]; exact h k hk
theorem ColOk.rcd {cn c : Nat} {cd : Nat → Int32} {z : Int32} {col : Nat → Nat} (h : ColOk cn cd z col) (hk : CodeOk cd) : ColOk cn cd z (rc c col) := h.amc ⟨hk, fun _ _ => rfl⟩
theorem lowC_rcs {c : Nat} {z : Int32} {col : Nat → Nat} (hc : c ≠ 0) : LowC c z (rc c col) := fun k hk => by
  unfold rc at hk
  by_cases e : col k = c
  · rw [if_pos e] at hk; exact absurd hk.symm hc
  · rw [if_neg e] at hk; exact absurd hk e
theorem mix_h2 {z : Int32} {col colE : Nat → Nat} (h : Agr z (rc 1 col) colE) : ∀ k : Nat, (k : Int) < z.toInt → colE k = 2 → col k = 2 := fun k hk e => by
  have q := (h k hk).symm.trans e
  unfold rc at q
  by_cases e1 : col k = 1
  · rw [if_pos e1] at q; exact absurd q (by decide)
  · rw [if_neg e1] at q; exact q
theorem chp_le {cn c : Nat} {cd : Nat → Int32} {z p : Int32} {col : Nat → Nat} (h : Chp cn col c p) (hc : c ≠ 0) (k : ColOk cn cd z col) (hz : z.toInt ≤ (cn : Int)) : p.toInt ≤ (cn : Int) := by
  rcases h with h | h | ⟨j, j1, j2⟩
  · omega
  · omega
  · have := (k j (by rw [j2]; exact hc)).2.1
    omega
