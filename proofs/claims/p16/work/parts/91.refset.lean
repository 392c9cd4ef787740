theorem m10_16 : Cond.fieldLink "HomeSystemModel$Program" 240 "HomeSystemModel$Program" "waitToken" "[I" ∈ AL := AL_10 (List.mem_of_getElem? (i := 16) rfl) rfl
theorem m10_14 : Cond.fieldLink "HomeSystemModel$Program" 415 "HomeSystemModel$Program" "waiting" "I" ∈ AL := AL_10 (List.mem_of_getElem? (i := 14) rfl) rfl
theorem m10_17 : Cond.fieldLink "HomeSystemModel$Program" 243 "HomeSystemModel$Program" "waitNode" "[I" ∈ AL := AL_10 (List.mem_of_getElem? (i := 17) rfl) rfl
theorem m10_15 : Cond.fieldLink "HomeSystemModel$Program" 237 "HomeSystemModel$Program" "waitRank" "[I" ∈ AL := AL_10 (List.mem_of_getElem? (i := 15) rfl) rfl
theorem mkd_of {ta : Nat → Nat → Int32} {c : Int} {ma : Nat → Nat → Int32} {n : Nat} {t : Int32} (e : ma 20 n = t) (h0 : 0 ≤ t.toInt) (h1 : t.toInt < c) (hs : so ta t = 5) : MkD ta c ma n := by
  unfold MkD; rw [e]; exact ⟨h0, h1, hs⟩
/-! THE WAITING ONES: from bs on, k of them, each with its nodes, its place, its weight -/
def TopW (wa : Nat → Nat → Int32) (i : Nat) (a rk tk : Int32) : Prop := wa 29 i = a ∧ wa 27 i = rk ∧ wa 28 i = tk
theorem top_eq {wa : Nat → Nat → Int32} {i j : Nat} {a rk tk : Int32} (h : TopW wa i a rk tk) (e : i = j) : TopW wa j a rk tk := e ▸ h
def WS (ta : Nat → Nat → Int32) (c : Int) (na ma wa : Nat → Nat → Int32) (bs ob : Int) : Nat → Int → Int → Int → Prop
  | 0 => fun lo mid W => lo ≤ mid ∧ 0 ≤ W
  | k + 1 => fun lo mid W => ∃ (m W1 W2 X : Int) (a rk tk : Int32), WS ta c na ma wa bs ob k lo m W1 ∧ TopW wa (bs + (k : Int)).toNat a rk tk ∧ ExR ta c na ma a m mid W2 (ob + (k : Int)) ∧ dp na a + ob + (k : Int) < 60 ∧ (1 ≤ rk.toInt ∧ rk.toInt ≤ 10) ∧ (0 ≤ tk.toInt ∧ tk.toInt < c ∧ so ta tk = 5) ∧ ((rk.toInt < 3 → 4 ≤ X) ∧ 0 ≤ X ∧ W1 + W2 + 1 + X ≤ W)
section WSS
variable {ta : Nat → Nat → Int32} {c : Int} {na ma na' ma' wa wa' : Nat → Nat → Int32} {bs ob : Int}
theorem ExR.wpos {v : Int32} {lo hi W o : Int} (h : ExR ta c na ma v lo hi W o) : 0 ≤ W := by
  obtain ⟨⟨l, hh, d, w, -, -, -, -, a5, -⟩, -⟩ := h
  omega
theorem WS.rng : ∀ {k : Nat} {lo mid W : Int}, WS ta c na ma wa bs ob k lo mid W → lo ≤ mid ∧ 0 ≤ W
  | 0, _, _, _, h => h
  | k + 1, lo, mid, W, h => by
    obtain ⟨m, W1, W2, X, a, rk, tk, g1, g2, g3, g4, g5, g6, g7⟩ := h
    have r := WS.rng g1
    have n := g3.num
    have w := g3.wpos
    omega
theorem WS.kp : ∀ {k : Nat} {lo mid W b : Int}, WS ta c na ma wa bs ob k lo mid W → FrB b na ma na' ma' → mid ≤ b → 0 ≤ lo → WS ta c na' ma' wa bs ob k lo mid W
  | 0, _, _, _, _, h, _, _, _ => h
  | k + 1, lo, mid, W, b, h, f, hb, h0 => by
    obtain ⟨m, W1, W2, X, a, rk, tk, g1, g2, g3, g4, g5, g6, g7⟩ := h
    have r := g1.rng
    have n := g3.num
    have e := dp_fb (x := a) f (by omega) (by omega)
    exact ⟨m, W1, W2, X, a, rk, tk, WS.kp g1 f (by omega) h0, g2, g3.kp (f.le hb) (by omega), by omega, g5, g6, g7⟩
theorem WS.kw : ∀ {k : Nat} {lo mid W b : Int}, WS ta c na ma wa bs ob k lo mid W → FrW b wa wa' → bs + (k : Int) ≤ b → 0 ≤ bs → WS ta c na ma wa' bs ob k lo mid W
  | 0, _, _, _, _, h, _, _, _ => h
  | k + 1, lo, mid, W, b, h, f, hb, h0 => by
    obtain ⟨m, W1, W2, X, a, rk, tk, g1, g2, g3, g4, g5, g6, g7⟩ := h
    refine ⟨m, W1, W2, X, a, rk, tk, WS.kw g1 f (by omega) h0, ?_, g3, g4, g5, g6, g7⟩
    have e : ∀ j, wa' j (bs + (k : Int)).toNat = wa j (bs + (k : Int)).toNat := fun j => f j _ (by omega)
    unfold TopW
    rw [e, e, e]
    exact g2
theorem WS.le {k : Nat} {lo mid mid' W W' : Int} (h : WS ta c na ma wa bs ob k lo mid W) (h1 : mid ≤ mid') (h2 : W ≤ W') : WS ta c na ma wa bs ob k lo mid' W' := by
  cases k with
  | zero => exact ⟨by have := h.1; omega, by have := h.2; omega⟩
  | succ k =>
    obtain ⟨m, W1, W2, X, a, rk, tk, g1, g2, g3, g4, g5, g6, g7⟩ := h
    exact ⟨m, W1, W2, X, a, rk, tk, g1, g2, g3.le (Int.le_refl _) h1 (Int.le_refl _) (Int.le_refl _), g4, g5, g6, ⟨g7.1, g7.2.1, by have := g7.2.2; omega⟩⟩
theorem ws_eq {k k' : Nat} {lo mid W : Int} (h : WS ta c na ma wa bs ob k lo mid W) (e : k = k') : WS ta c na ma wa bs ob k' lo mid W := e ▸ h
theorem WS.top {k lo mid W : Int} (h : WS ta c na ma wa bs ob k.toNat lo mid W) (hk : 1 ≤ k) : ∃ (m W1 W2 X : Int) (a rk tk : Int32), WS ta c na ma wa bs ob (k - 1).toNat lo m W1 ∧ TopW wa (bs + k - 1).toNat a rk tk ∧ ExR ta c na ma a m mid W2 (ob + k - 1) ∧ dp na a + ob + k - 1 < 60 ∧ (1 ≤ rk.toInt ∧ rk.toInt ≤ 10) ∧ (0 ≤ tk.toInt ∧ tk.toInt < c ∧ so ta tk = 5) ∧ ((rk.toInt < 3 → 4 ≤ X) ∧ 0 ≤ X ∧ W1 + W2 + 1 + X ≤ W) ∧ lo ≤ m ∧ 0 ≤ W1 := by
  obtain ⟨q, hq⟩ : ∃ q : Nat, k.toNat = q + 1 := ⟨k.toNat - 1, by omega⟩
  rw [hq] at h
  obtain ⟨m, W1, W2, X, a, rk, tk, g1, g2, g3, g4, g5, g6, g7⟩ := h
  have r := g1.rng
  exact ⟨m, W1, W2, X, a, rk, tk, ws_eq g1 (by omega), top_eq g2 (by omega), g3.le (Int.le_refl _) (Int.le_refl _) (Int.le_refl _) (by omega), by omega, g5, g6, g7, r.1, r.2⟩
theorem ws_push {k lo mid hi W Wn X : Int} {n rk tk i : Int32} (h : WS ta c na ma wa bs ob k.toNat lo mid W) (hx : ExR ta c na ma n mid hi Wn (ob + k)) (hk : 0 ≤ k) (hb : 0 ≤ bs) (hi0 : i.toInt = bs + k) (hd : dp na n + ob + k < 60) (hr : 1 ≤ rk.toInt ∧ rk.toInt ≤ 10) (ht : 0 ≤ tk.toInt ∧ tk.toInt < c ∧ so ta tk = 5) (hX : (rk.toInt < 3 → 4 ≤ X) ∧ 0 ≤ X)
    {wa1 wa2 wa3 : Nat → Nat → Int32} (e1 : wa1 = va_up wa 27 (upd (wa 27) i.toNatClampNeg rk)) (e2 : wa2 = va_up wa1 28 (upd (wa1 28) i.toNatClampNeg tk)) (e3 : wa3 = va_up wa2 29 (upd (wa2 29) i.toNatClampNeg n)) : WS ta c na ma wa3 bs ob (k + 1).toNat lo hi (W + Wn + 1 + X) ∧ FrW (bs + k) wa wa3 := by
  have hc := cl_nat (x := i) (by omega)
  have fw : FrW (bs + k) wa wa3 := fun j x hx => by
    subst e1; subst e2; subst e3
    rw [up_far (by omega), up_far (by omega), up_far (by omega)]
  refine ⟨ws_eq (k := k.toNat + 1) ⟨mid, W, Wn, X, n, rk, tk, h.kw fw (by omega) hb, ?_, hx.le (Int.le_refl _) (Int.le_refl _) (Int.le_refl _) (by omega), by omega, hr, ht, ⟨hX.1, hX.2, by omega⟩⟩ (by omega), fw⟩
  have e : (bs + (k.toNat : Int)).toNat = i.toNatClampNeg := by omega
  subst e1; subst e2; subst e3
  rw [e]
  refine ⟨?_, ?_, ?_⟩
  · rw [va_up_s, pk_us]
  · rw [va_up_n (by decide), va_up_n (by decide), va_up_s, pk_us]
  · rw [va_up_n (by decide), va_up_s, pk_us]
/-- the waiting ones, and the one at hand -/
def BinV (ta : Nat → Nat → Int32) (c : Int) (na ma wa : Nat → Nat → Int32) (bs ob k : Int) (n : Int32) (lo hi W : Int) : Prop := ∃ mid W1 W2 : Int, WS ta c na ma wa bs ob k.toNat lo mid W1 ∧ ExR ta c na ma n mid hi W2 (ob + k) ∧ W1 + W2 ≤ W
theorem BinV.fin {k lo hi W : Int} {n : Int32} (h : BinV ta c na ma wa bs ob k n lo hi W) (hk : k = 0) : ExR ta c na ma n lo hi W ob := by
  obtain ⟨mid, W1, W2, h1, h2, h3⟩ := h
  have r := h1.rng
  exact h2.le r.1 (Int.le_refl _) (by omega) (by omega)
end WSS
/-! SETTLING: what a chain tells of its last one -/
section ST9
variable {ta : Nat → Nat → Int32} {c : Int} {na ma : Nat → Nat → Int32}
theorem Lq.lastP {P : Nat → Nat → Nat → Nat → Prop} : ∀ {m : Nat} {k : Int} {lo hi w : Nat} {last : Int}, Lq na P m k lo hi w last → ∃ a l h v : Nat, last = (a : Int) ∧ P a l h v ∧ lo ≤ l ∧ h ≤ hi
  | 0, _, _, _, _, _, h => h.elim
  | m + 1, k, lo, hi, w, last, h => by
    obtain ⟨a, mid, wa, h1, h2, h3, h4, h5⟩ := h
    rcases h5 with ⟨g1, g2, g3⟩ | ⟨wr, g1, g2⟩
    · exact ⟨a, lo, mid, wa, g2, h4, Nat.le_refl _, h3⟩
    · obtain ⟨a', l, hh, v, e1, e2, e3, e4⟩ := Lq.lastP g1
      exact ⟨a', l, hh, v, e1, e2, by omega, e4⟩
/-- every node has a token -/
theorem ExV.tok {v : Int32} {lo hi W Dm : Int} (h : ExV ta c na ma v lo hi W Dm) : 0 ≤ (na 15 v.toNatClampNeg).toInt ∧ (na 15 v.toNatClampNeg).toInt < c := by
  obtain ⟨l, hh, d, w, a1, a2, a3, a4, a5, a6⟩ := h
  cases d with
  | zero => exact a4.elim
  | succ d =>
    obtain ⟨r, h1⟩ := a4
    rcases h1 with ⟨-, g, -⟩ | ⟨-, g, -⟩ | ⟨-, g, -⟩ | ⟨-, g, -⟩ | ⟨-, g, -⟩ | ⟨-, g, -⟩ | ⟨-, g, -⟩ | ⟨-, g, -⟩ <;> exact ⟨g.1, g.2.1⟩
/-- a chain's last one lies in its interval, and is not the chain itself -/
theorem exv_b {n b : Int32} {lo hi W Dm : Int} (h : ExV ta c na ma n lo hi W Dm) (h7 : (na 14 n.toNatClampNeg).toInt = 7) (hb : b = ma 18 n.toNatClampNeg) : 0 ≤ b.toInt ∧ lo ≤ b.toInt ∧ b.toInt < hi ∧ b.toInt ≠ n.toInt := by
  obtain ⟨l, hh, d, w, a1, a2, a3, a4, a5, a6⟩ := h
  have hc := cl_nat a3
  cases d with
  | zero => exact a4.elim
  | succ d =>
    obtain ⟨r, h1⟩ := a4
    rcases h1 with ⟨g0, -⟩ | ⟨g0, -⟩ | ⟨g0, -⟩ | ⟨g0, -⟩ | ⟨g0, -⟩ | ⟨g0, g1, a, mid, wa, m, wr, g2, g3, g4, g5, g6⟩ | ⟨g0, -⟩ | ⟨g0, -⟩
    · exact absurd g0 (by omega)
    · exact absurd g0 (by omega)
    · exact absurd g0 (by omega)
    · exact absurd g0 (by omega)
    · exact absurd g0 (by omega)
    · obtain ⟨x, lx, hx, vx, e1, ⟨l', v', k1, k2, k3, k4, k5⟩, e3, e4⟩ := g5.lastP
      have r1 := k3.rng
      have r2 := g4.rng
      rw [← hb] at e1
      omega
    · exact absurd g0 (by omega)
    · exact absurd g0 (by omega)
/-- what is written over itself -/
theorem va_same {f : Nat → Nat → Int32} {k i : Nat} {v : Int32} (h : v = f k i) : va_up f k (upd (f k) i v) = f := by
  funext j x
  by_cases e : j = k
  · subst e
    rw [va_up_s]
    by_cases e2 : x = i
    · subst e2; rw [pk_us]; exact h
    · rw [pk_un e2]
  · rw [va_up_n e]
end ST9
abbrev b_Mpg_settle : ByteArray := prog_16_method_36_code
def y_Mpg_settle : MethodName := ⟨"HomeSystemModel$Program", "settle", "(I)I"⟩
theorem d_Mpg_settle_0 : decode b_Mpg_settle 0 = .ok (.aload_n 0, 1) := by decide +kernel
theorem d_Mpg_settle_1 : decode b_Mpg_settle 1 = .ok (.dup, 1) := by decide +kernel
theorem d_Mpg_settle_2 : decode b_Mpg_settle 2 = .ok (.getfield 415, 3) := by decide +kernel
theorem d_Mpg_settle_5 : decode b_Mpg_settle 5 = .ok (.iconst 1, 1) := by decide +kernel
theorem d_Mpg_settle_6 : decode b_Mpg_settle 6 = .ok (.isub, 1) := by decide +kernel
theorem d_Mpg_settle_7 : decode b_Mpg_settle 7 = .ok (.putfield 415, 3) := by decide +kernel
theorem d_Mpg_settle_10 : decode b_Mpg_settle 10 = .ok (.aload_n 0, 1) := by decide +kernel
theorem d_Mpg_settle_11 : decode b_Mpg_settle 11 = .ok (.dup, 1) := by decide +kernel
theorem d_Mpg_settle_12 : decode b_Mpg_settle 12 = .ok (.getfield 380, 3) := by decide +kernel
theorem d_Mpg_settle_15 : decode b_Mpg_settle 15 = .ok (.iconst 1, 1) := by decide +kernel
theorem d_Mpg_settle_16 : decode b_Mpg_settle 16 = .ok (.isub, 1) := by decide +kernel
theorem d_Mpg_settle_17 : decode b_Mpg_settle 17 = .ok (.putfield 380, 3) := by decide +kernel
theorem d_Mpg_settle_20 : decode b_Mpg_settle 20 = .ok (.aload_n 0, 1) := by decide +kernel
theorem d_Mpg_settle_21 : decode b_Mpg_settle 21 = .ok (.getfield 243, 3) := by decide +kernel
theorem d_Mpg_settle_24 : decode b_Mpg_settle 24 = .ok (.aload_n 0, 1) := by decide +kernel
theorem d_Mpg_settle_25 : decode b_Mpg_settle 25 = .ok (.getfield 415, 3) := by decide +kernel
theorem d_Mpg_settle_28 : decode b_Mpg_settle 28 = .ok (.iaload, 1) := by decide +kernel
theorem d_Mpg_settle_29 : decode b_Mpg_settle 29 = .ok (.istore_n 2, 1) := by decide +kernel
theorem d_Mpg_settle_30 : decode b_Mpg_settle 30 = .ok (.aload_n 0, 1) := by decide +kernel
theorem d_Mpg_settle_31 : decode b_Mpg_settle 31 = .ok (.getfield 237, 3) := by decide +kernel
theorem d_Mpg_settle_34 : decode b_Mpg_settle 34 = .ok (.aload_n 0, 1) := by decide +kernel
theorem d_Mpg_settle_35 : decode b_Mpg_settle 35 = .ok (.getfield 415, 3) := by decide +kernel
theorem d_Mpg_settle_38 : decode b_Mpg_settle 38 = .ok (.iaload, 1) := by decide +kernel
theorem d_Mpg_settle_39 : decode b_Mpg_settle 39 = .ok (.istore_n 3, 1) := by decide +kernel
theorem d_Mpg_settle_40 : decode b_Mpg_settle 40 = .ok (.iload_n 2, 1) := by decide +kernel
theorem d_Mpg_settle_41 : decode b_Mpg_settle 41 = .ok (.istore 4, 2) := by decide +kernel
theorem d_Mpg_settle_43 : decode b_Mpg_settle 43 = .ok (.aload_n 0, 1) := by decide +kernel
theorem d_Mpg_settle_44 : decode b_Mpg_settle 44 = .ok (.getfield 207, 3) := by decide +kernel
theorem d_Mpg_settle_47 : decode b_Mpg_settle 47 = .ok (.iload 4, 2) := by decide +kernel
theorem d_Mpg_settle_49 : decode b_Mpg_settle 49 = .ok (.baload, 1) := by decide +kernel
theorem d_Mpg_settle_50 : decode b_Mpg_settle 50 = .ok (.iconst 5, 1) := by decide +kernel
theorem d_Mpg_settle_51 : decode b_Mpg_settle 51 = .ok (.if_icmp .ne 29, 3) := by decide +kernel
theorem d_Mpg_settle_54 : decode b_Mpg_settle 54 = .ok (.aload_n 0, 1) := by decide +kernel
theorem d_Mpg_settle_55 : decode b_Mpg_settle 55 = .ok (.aload_n 0, 1) := by decide +kernel
theorem d_Mpg_settle_56 : decode b_Mpg_settle 56 = .ok (.getfield 210, 3) := by decide +kernel
theorem d_Mpg_settle_59 : decode b_Mpg_settle 59 = .ok (.iload 4, 2) := by decide +kernel
theorem d_Mpg_settle_61 : decode b_Mpg_settle 61 = .ok (.iaload, 1) := by decide +kernel
theorem d_Mpg_settle_62 : decode b_Mpg_settle 62 = .ok (.invokevirtual 418, 3) := by decide +kernel
theorem d_Mpg_settle_65 : decode b_Mpg_settle 65 = .ok (.ifCond .eq 15, 3) := by decide +kernel
theorem d_Mpg_settle_68 : decode b_Mpg_settle 68 = .ok (.aload_n 0, 1) := by decide +kernel
theorem d_Mpg_settle_69 : decode b_Mpg_settle 69 = .ok (.getfield 216, 3) := by decide +kernel
theorem d_Mpg_settle_72 : decode b_Mpg_settle 72 = .ok (.iload 4, 2) := by decide +kernel
theorem d_Mpg_settle_74 : decode b_Mpg_settle 74 = .ok (.iaload, 1) := by decide +kernel
theorem d_Mpg_settle_75 : decode b_Mpg_settle 75 = .ok (.istore 4, 2) := by decide +kernel
theorem d_Mpg_settle_77 : decode b_Mpg_settle 77 = .ok (.goto (-34), 3) := by decide +kernel
theorem d_Mpg_settle_80 : decode b_Mpg_settle 80 = .ok (.aload_n 0, 1) := by decide +kernel
theorem d_Mpg_settle_81 : decode b_Mpg_settle 81 = .ok (.getfield 213, 3) := by decide +kernel
theorem d_Mpg_settle_84 : decode b_Mpg_settle 84 = .ok (.iload 4, 2) := by decide +kernel
theorem d_Mpg_settle_86 : decode b_Mpg_settle 86 = .ok (.aload_n 0, 1) := by decide +kernel
theorem d_Mpg_settle_87 : decode b_Mpg_settle 87 = .ok (.getfield 207, 3) := by decide +kernel
theorem d_Mpg_settle_90 : decode b_Mpg_settle 90 = .ok (.iload 4, 2) := by decide +kernel
theorem d_Mpg_settle_92 : decode b_Mpg_settle 92 = .ok (.baload, 1) := by decide +kernel
theorem d_Mpg_settle_93 : decode b_Mpg_settle 93 = .ok (.bipush 7, 2) := by decide +kernel
theorem d_Mpg_settle_95 : decode b_Mpg_settle 95 = .ok (.if_icmp .ne 23, 3) := by decide +kernel
theorem d_Mpg_settle_98 : decode b_Mpg_settle 98 = .ok (.aload_n 0, 1) := by decide +kernel
theorem d_Mpg_settle_99 : decode b_Mpg_settle 99 = .ok (.getfield 231, 3) := by decide +kernel
theorem d_Mpg_settle_102 : decode b_Mpg_settle 102 = .ok (.iload 4, 2) := by decide +kernel
theorem d_Mpg_settle_104 : decode b_Mpg_settle 104 = .ok (.iaload, 1) := by decide +kernel
theorem d_Mpg_settle_105 : decode b_Mpg_settle 105 = .ok (.iload_n 3, 1) := by decide +kernel
theorem d_Mpg_settle_106 : decode b_Mpg_settle 106 = .ok (.if_icmp .ne 12, 3) := by decide +kernel
theorem d_Mpg_settle_109 : decode b_Mpg_settle 109 = .ok (.aload_n 0, 1) := by decide +kernel
theorem d_Mpg_settle_110 : decode b_Mpg_settle 110 = .ok (.getfield 213, 3) := by decide +kernel
theorem d_Mpg_settle_113 : decode b_Mpg_settle 113 = .ok (.iload_n 2, 1) := by decide +kernel
theorem d_Mpg_settle_114 : decode b_Mpg_settle 114 = .ok (.iaload, 1) := by decide +kernel
theorem d_Mpg_settle_115 : decode b_Mpg_settle 115 = .ok (.goto 10, 3) := by decide +kernel
theorem d_Mpg_settle_118 : decode b_Mpg_settle 118 = .ok (.aload_n 0, 1) := by decide +kernel
theorem d_Mpg_settle_119 : decode b_Mpg_settle 119 = .ok (.getfield 213, 3) := by decide +kernel
theorem d_Mpg_settle_122 : decode b_Mpg_settle 122 = .ok (.iload 4, 2) := by decide +kernel
theorem d_Mpg_settle_124 : decode b_Mpg_settle 124 = .ok (.iaload, 1) := by decide +kernel
theorem d_Mpg_settle_125 : decode b_Mpg_settle 125 = .ok (.iastore, 1) := by decide +kernel
theorem d_Mpg_settle_126 : decode b_Mpg_settle 126 = .ok (.aload_n 0, 1) := by decide +kernel
theorem d_Mpg_settle_127 : decode b_Mpg_settle 127 = .ok (.getfield 207, 3) := by decide +kernel
theorem d_Mpg_settle_130 : decode b_Mpg_settle 130 = .ok (.iload 4, 2) := by decide +kernel
theorem d_Mpg_settle_132 : decode b_Mpg_settle 132 = .ok (.baload, 1) := by decide +kernel
theorem d_Mpg_settle_133 : decode b_Mpg_settle 133 = .ok (.bipush 7, 2) := by decide +kernel
theorem d_Mpg_settle_135 : decode b_Mpg_settle 135 = .ok (.if_icmp .ne 14, 3) := by decide +kernel
theorem d_Mpg_settle_138 : decode b_Mpg_settle 138 = .ok (.aload_n 0, 1) := by decide +kernel
theorem d_Mpg_settle_139 : decode b_Mpg_settle 139 = .ok (.getfield 231, 3) := by decide +kernel
theorem d_Mpg_settle_142 : decode b_Mpg_settle 142 = .ok (.iload 4, 2) := by decide +kernel
theorem d_Mpg_settle_144 : decode b_Mpg_settle 144 = .ok (.iaload, 1) := by decide +kernel
theorem d_Mpg_settle_145 : decode b_Mpg_settle 145 = .ok (.iload_n 3, 1) := by decide +kernel
theorem d_Mpg_settle_146 : decode b_Mpg_settle 146 = .ok (.if_icmp .eq 72, 3) := by decide +kernel
theorem d_Mpg_settle_149 : decode b_Mpg_settle 149 = .ok (.aload_n 0, 1) := by decide +kernel
theorem d_Mpg_settle_150 : decode b_Mpg_settle 150 = .ok (.bipush 7, 2) := by decide +kernel
theorem d_Mpg_settle_152 : decode b_Mpg_settle 152 = .ok (.aload_n 0, 1) := by decide +kernel
theorem d_Mpg_settle_153 : decode b_Mpg_settle 153 = .ok (.getfield 240, 3) := by decide +kernel
theorem d_Mpg_settle_156 : decode b_Mpg_settle 156 = .ok (.aload_n 0, 1) := by decide +kernel
theorem d_Mpg_settle_157 : decode b_Mpg_settle 157 = .ok (.getfield 415, 3) := by decide +kernel
theorem d_Mpg_settle_160 : decode b_Mpg_settle 160 = .ok (.iaload, 1) := by decide +kernel
theorem d_Mpg_settle_161 : decode b_Mpg_settle 161 = .ok (.invokevirtual 406, 3) := by decide +kernel
theorem d_Mpg_settle_164 : decode b_Mpg_settle 164 = .ok (.istore 4, 2) := by decide +kernel
theorem d_Mpg_settle_166 : decode b_Mpg_settle 166 = .ok (.aload_n 0, 1) := by decide +kernel
theorem d_Mpg_settle_167 : decode b_Mpg_settle 167 = .ok (.getfield 213, 3) := by decide +kernel
theorem d_Mpg_settle_170 : decode b_Mpg_settle 170 = .ok (.iload 4, 2) := by decide +kernel
theorem d_Mpg_settle_172 : decode b_Mpg_settle 172 = .ok (.aload_n 0, 1) := by decide +kernel
theorem d_Mpg_settle_173 : decode b_Mpg_settle 173 = .ok (.getfield 213, 3) := by decide +kernel
theorem d_Mpg_settle_176 : decode b_Mpg_settle 176 = .ok (.iload_n 2, 1) := by decide +kernel
theorem d_Mpg_settle_177 : decode b_Mpg_settle 177 = .ok (.iaload, 1) := by decide +kernel
theorem d_Mpg_settle_178 : decode b_Mpg_settle 178 = .ok (.iastore, 1) := by decide +kernel
theorem d_Mpg_settle_179 : decode b_Mpg_settle 179 = .ok (.aload_n 0, 1) := by decide +kernel
theorem d_Mpg_settle_180 : decode b_Mpg_settle 180 = .ok (.getfield 231, 3) := by decide +kernel
theorem d_Mpg_settle_183 : decode b_Mpg_settle 183 = .ok (.iload 4, 2) := by decide +kernel
theorem d_Mpg_settle_185 : decode b_Mpg_settle 185 = .ok (.iload_n 3, 1) := by decide +kernel
theorem d_Mpg_settle_186 : decode b_Mpg_settle 186 = .ok (.iastore, 1) := by decide +kernel
theorem d_Mpg_settle_187 : decode b_Mpg_settle 187 = .ok (.aload_n 0, 1) := by decide +kernel
theorem d_Mpg_settle_188 : decode b_Mpg_settle 188 = .ok (.getfield 216, 3) := by decide +kernel
theorem d_Mpg_settle_191 : decode b_Mpg_settle 191 = .ok (.iload 4, 2) := by decide +kernel
theorem d_Mpg_settle_193 : decode b_Mpg_settle 193 = .ok (.iload_n 2, 1) := by decide +kernel
theorem d_Mpg_settle_194 : decode b_Mpg_settle 194 = .ok (.iastore, 1) := by decide +kernel
theorem d_Mpg_settle_195 : decode b_Mpg_settle 195 = .ok (.aload_n 0, 1) := by decide +kernel
theorem d_Mpg_settle_196 : decode b_Mpg_settle 196 = .ok (.getfield 219, 3) := by decide +kernel
theorem d_Mpg_settle_199 : decode b_Mpg_settle 199 = .ok (.iload 4, 2) := by decide +kernel
theorem d_Mpg_settle_201 : decode b_Mpg_settle 201 = .ok (.iload_n 2, 1) := by decide +kernel
theorem d_Mpg_settle_202 : decode b_Mpg_settle 202 = .ok (.iastore, 1) := by decide +kernel
theorem d_Mpg_settle_203 : decode b_Mpg_settle 203 = .ok (.aload_n 0, 1) := by decide +kernel
theorem d_Mpg_settle_204 : decode b_Mpg_settle 204 = .ok (.getfield 234, 3) := by decide +kernel
theorem d_Mpg_settle_207 : decode b_Mpg_settle 207 = .ok (.iload 4, 2) := by decide +kernel
theorem d_Mpg_settle_209 : decode b_Mpg_settle 209 = .ok (.iconst 1, 1) := by decide +kernel
theorem d_Mpg_settle_210 : decode b_Mpg_settle 210 = .ok (.aload_n 0, 1) := by decide +kernel
theorem d_Mpg_settle_211 : decode b_Mpg_settle 211 = .ok (.getfield 234, 3) := by decide +kernel
theorem d_Mpg_settle_214 : decode b_Mpg_settle 214 = .ok (.iload_n 2, 1) := by decide +kernel
theorem d_Mpg_settle_215 : decode b_Mpg_settle 215 = .ok (.iaload, 1) := by decide +kernel
theorem d_Mpg_settle_216 : decode b_Mpg_settle 216 = .ok (.iadd, 1) := by decide +kernel
theorem d_Mpg_settle_217 : decode b_Mpg_settle 217 = .ok (.iastore, 1) := by decide +kernel
theorem d_Mpg_settle_218 : decode b_Mpg_settle 218 = .ok (.aload_n 0, 1) := by decide +kernel
theorem d_Mpg_settle_219 : decode b_Mpg_settle 219 = .ok (.getfield 234, 3) := by decide +kernel
theorem d_Mpg_settle_222 : decode b_Mpg_settle 222 = .ok (.iload 4, 2) := by decide +kernel
theorem d_Mpg_settle_224 : decode b_Mpg_settle 224 = .ok (.aload_n 0, 1) := by decide +kernel
theorem d_Mpg_settle_225 : decode b_Mpg_settle 225 = .ok (.getfield 234, 3) := by decide +kernel
theorem d_Mpg_settle_228 : decode b_Mpg_settle 228 = .ok (.iload 4, 2) := by decide +kernel
theorem d_Mpg_settle_230 : decode b_Mpg_settle 230 = .ok (.iaload, 1) := by decide +kernel
theorem d_Mpg_settle_231 : decode b_Mpg_settle 231 = .ok (.iconst 1, 1) := by decide +kernel
theorem d_Mpg_settle_232 : decode b_Mpg_settle 232 = .ok (.aload_n 0, 1) := by decide +kernel
theorem d_Mpg_settle_233 : decode b_Mpg_settle 233 = .ok (.getfield 234, 3) := by decide +kernel
theorem d_Mpg_settle_236 : decode b_Mpg_settle 236 = .ok (.iload_n 1, 1) := by decide +kernel
theorem d_Mpg_settle_237 : decode b_Mpg_settle 237 = .ok (.iaload, 1) := by decide +kernel
theorem d_Mpg_settle_238 : decode b_Mpg_settle 238 = .ok (.iadd, 1) := by decide +kernel
theorem d_Mpg_settle_239 : decode b_Mpg_settle 239 = .ok (.invokestatic 409, 3) := by decide +kernel
theorem d_Mpg_settle_242 : decode b_Mpg_settle 242 = .ok (.iastore, 1) := by decide +kernel
theorem d_Mpg_settle_243 : decode b_Mpg_settle 243 = .ok (.aload_n 0, 1) := by decide +kernel
theorem d_Mpg_settle_244 : decode b_Mpg_settle 244 = .ok (.getfield 228, 3) := by decide +kernel
theorem d_Mpg_settle_247 : decode b_Mpg_settle 247 = .ok (.aload_n 0, 1) := by decide +kernel
theorem d_Mpg_settle_248 : decode b_Mpg_settle 248 = .ok (.getfield 219, 3) := by decide +kernel
theorem d_Mpg_settle_251 : decode b_Mpg_settle 251 = .ok (.iload 4, 2) := by decide +kernel
theorem d_Mpg_settle_253 : decode b_Mpg_settle 253 = .ok (.iaload, 1) := by decide +kernel
theorem d_Mpg_settle_254 : decode b_Mpg_settle 254 = .ok (.iload_n 1, 1) := by decide +kernel
theorem d_Mpg_settle_255 : decode b_Mpg_settle 255 = .ok (.iastore, 1) := by decide +kernel
theorem d_Mpg_settle_256 : decode b_Mpg_settle 256 = .ok (.aload_n 0, 1) := by decide +kernel
theorem d_Mpg_settle_257 : decode b_Mpg_settle 257 = .ok (.getfield 219, 3) := by decide +kernel
theorem d_Mpg_settle_260 : decode b_Mpg_settle 260 = .ok (.iload 4, 2) := by decide +kernel
theorem d_Mpg_settle_262 : decode b_Mpg_settle 262 = .ok (.iload_n 1, 1) := by decide +kernel
theorem d_Mpg_settle_263 : decode b_Mpg_settle 263 = .ok (.iastore, 1) := by decide +kernel
theorem d_Mpg_settle_264 : decode b_Mpg_settle 264 = .ok (.aload_n 0, 1) := by decide +kernel
theorem d_Mpg_settle_265 : decode b_Mpg_settle 265 = .ok (.getfield 225, 3) := by decide +kernel
theorem d_Mpg_settle_268 : decode b_Mpg_settle 268 = .ok (.iload_n 1, 1) := by decide +kernel
theorem d_Mpg_settle_269 : decode b_Mpg_settle 269 = .ok (.aload_n 0, 1) := by decide +kernel
theorem d_Mpg_settle_270 : decode b_Mpg_settle 270 = .ok (.getfield 240, 3) := by decide +kernel
theorem d_Mpg_settle_273 : decode b_Mpg_settle 273 = .ok (.aload_n 0, 1) := by decide +kernel
theorem d_Mpg_settle_274 : decode b_Mpg_settle 274 = .ok (.getfield 415, 3) := by decide +kernel
theorem d_Mpg_settle_277 : decode b_Mpg_settle 277 = .ok (.iaload, 1) := by decide +kernel
theorem d_Mpg_settle_278 : decode b_Mpg_settle 278 = .ok (.iastore, 1) := by decide +kernel
theorem d_Mpg_settle_279 : decode b_Mpg_settle 279 = .ok (.iload 4, 2) := by decide +kernel
theorem d_Mpg_settle_281 : decode b_Mpg_settle 281 = .ok (.ireturn, 1) := by decide +kernel
theorem q_Mpg_settle : px_y y_Mpg_settle 1 := by unfold px_y; decide +kernel
set_option maxHeartbeats 4000000 in
set_option maxRecDepth 100000 in
theorem c_mp_settle (l : Launch) (D : va_G) (cs : Nat → ClassId) (h : Nat) (r : Nat → Nat) (g : Nat → Nat → Option Nat) (tf : Nat → Int32) (ta : Nat → Nat → Int32) (wa : Nat → Nat → Int32) (cf : Nat → Int32) (ca : Nat → Nat → Int32) (ef : Nat → Int32) (ea : Nat → Nat → Int32) (xf : Nat → Int32) (xa : Nat → Nat → Int32) (pf : Nat → Int32) (na : Nat → Nat → Int32) (ma : Nat → Nat → Int32) (p0 : Int32) (a rk tk : Int32) (lo m2 Wl Wr X : Int) (g0 : (tf 6).toInt ≤ 2049) (g1 : 1 ≤ (pf 26).toInt) (g2 : (pf 26).toInt ≤ 260) (g3 : 1 ≤ (pf 12).toInt) (g4 : (pf 12).toInt ≤ 60) (g5 : 0 ≤ (pf 13).toInt) (g6 : (pf 13).toInt < 2100) (g7 : 0 ≤ lo) (g8 : 1 ≤ rk.toInt) (g9 : rk.toInt ≤ 10) (g10 : 0 ≤ tk.toInt) (g11 : tk.toInt < (tf 6).toInt) (g12 : so ta tk = 5) (g13 : dp na a + (pf 12).toInt - 1 < 60) (g14 : 0 ≤ X) (htk : TkI tf ta) (hX1 : rk.toInt < 3 → 4 ≤ X) (hTop : TopW wa ((pf 26).toInt - 1).toNat a rk tk) (hXA : ExR ta (tf 6).toInt na ma a lo m2 Wl ((pf 12).toInt - 1)) (hXR : ExR ta (tf 6).toInt na ma p0 m2 (pf 13).toInt Wr (pf 12).toInt) : MetI l y_Mpg_settle b_Mpg_settle 5 (.int) D cs 1 60 (0) (0) [.ref h, .int p0] [wdP cs h r g tf ta pf na ma wa cf ca ef ea xf xa] (fun _ => True) (fun v ps => ∃ (pf' : Nat → Int32) (na' : Nat → Nat → Int32) (ma' : Nat → Nat → Int32), (ps = [wdP cs h r g tf ta pf' na' ma' wa cf ca ef ea xf xa]) ∧ ((pf' 26).toInt = (pf 26).toInt - 1) ∧ ((pf' 12).toInt = (pf 12).toInt - 1) ∧ ((pf 13).toInt ≤ (pf' 13).toInt) ∧ ((pf' 13).toInt ≤ (pf 13).toInt + 1) ∧ ((pf' 11).toInt = (pf 11).toInt) ∧ ((pf' 24).toInt = (pf 24).toInt) ∧ ((pf' 25).toInt = (pf 25).toInt) ∧ (FrB lo na ma na' ma') ∧ (ExR ta (tf 6).toInt na' ma' v lo (pf' 13).toInt (Wl + Wr + 1 + X) ((pf 12).toInt - 1))) := by
  refine px_enter (by decide) (Nat.le_of_ble_eq_true rfl) ?_
  intro p e s m below meth c A ls hAe S hr hlk hnm hA hT hX hw hl
  have hl : lv_has ls 5 [(0, .ref h), (1, .int p0)] := hl
  have lp0 := Int32.le_toInt p0
  have up0 := Int32.toInt_lt p0
  have cst1 : (1 : Int32).toInt = 1 := rfl
  have cst5 : (5 : Int32).toInt = 5 := rfl
  have cst7 : (7 : Int32).toInt = 7 := rfl
  have hfb : FrB lo na ma na ma := FrB.rf
  have hn_a := hXA.num
  have hn_r := hXR.num
  have hwA := hXA.wpos
  have hwR := hXR.wpos
  have hu := hXA.1
  have hA21 := hXA.2.2.2.1
  have hA20 := hXA.2.2.2.2
  have J43 : ∀ (n_43 : Nat) (pf_43 : Nat → Int32) (x43_4 : Int32) (H : Heap) (locs : List Loc) (ls : Array Slot), ((pf_43 26).toInt = (pf 26).toInt - 1) → ((pf_43 12).toInt = (pf 12).toInt - 1) → ((pf_43 11).toInt = (pf 11).toInt) → ((pf_43 13).toInt = (pf 13).toInt) → ((pf_43 24).toInt = (pf 24).toInt) → ((pf_43 25).toInt = (pf 25).toInt) → (ExV ta (tf 6).toInt na ma x43_4 lo m2 Wl (dp na a + 61 - ((pf 12).toInt - 1))) → (dp na x43_4 = dp na a) → ((na 21 x43_4.toNatClampNeg).toInt < 0) → ((ma 20 x43_4.toNatClampNeg).toInt < 0) → x43_4.toInt < (n_43 : Int) → pw D A s.heap H locs [wdP cs h r g tf ta pf_43 na ma wa cf ca ef ea xf xa] → lv_has ls 5 [(0, .ref h), (1, .int p0), (2, .int a), (3, .int rk), (4, .int x43_4)] → W p l e { frames := 1, cells := 0, slots := 0, locals := 60 } s m [.ref h, .int p0].toArray below meth c H locs 0 0 (MQ below (va_Qi (fun v ps => ∃ (pf' : Nat → Int32) (na' : Nat → Nat → Int32) (ma' : Nat → Nat → Int32), (ps = [wdP cs h r g tf ta pf' na' ma' wa cf ca ef ea xf xa]) ∧ ((pf' 26).toInt = (pf 26).toInt - 1) ∧ ((pf' 12).toInt = (pf 12).toInt - 1) ∧ ((pf 13).toInt ≤ (pf' 13).toInt) ∧ ((pf' 13).toInt ≤ (pf 13).toInt + 1) ∧ ((pf' 11).toInt = (pf 11).toInt) ∧ ((pf' 24).toInt = (pf 24).toInt) ∧ ((pf' 25).toInt = (pf 25).toInt) ∧ (FrB lo na ma na' ma') ∧ (ExR ta (tf 6).toInt na' ma' v lo (pf' 13).toInt (Wl + Wr + 1 + X) ((pf 12).toInt - 1))) (pc_B D (va_A ([wdP cs h r g tf ta pf na ma wa cf ca ef ea xf xa] : List va_W).flatten s.heap.size)) (va_A ([wdP cs h r g tf ta pf na ma wa cf ca ef ea xf xa] : List va_W).flatten s.heap.size)) [.ref h, .int p0].toArray s 0 0 A) (F0 m 43 ls []) := by
    intro  n_43
    induction n_43 with
    | zero =>
      intro pf_43 x43_4 H locs ls k43_0 k43_1 k43_2 k43_3 k43_4 k43_5 k43_6 k43_7 k43_8 k43_9 hm hw hl
      have lx43_4 := Int32.le_toInt x43_4
      have ux43_4 := Int32.toInt_lt x43_4
      have hu := k43_6
      have hur := hu.rng
      exact absurd hm (by omega)
    | succ n_43 ih43 =>
      intro pf_43 x43_4 H locs ls k43_0 k43_1 k43_2 k43_3 k43_4 k43_5 k43_6 k43_7 k43_8 k43_9 hm hw hl
      have lx43_4 := Int32.le_toInt x43_4
      have ux43_4 := Int32.toInt_lt x43_4
      have hu := k43_6
      have hur := hu.rng
      refine lv_aload_n S.x S.b d_Mpg_settle_43 rfl (lv_at hl 0 rfl) ?_
      refine px_get S k_Mpg hT hw 0 0 14 (v := .ref (r 14)) rfl rfl rfl (by decide) m9_238 d_Mpg_settle_44 ?_
      refine lv_iload S.x S.b d_Mpg_settle_47 (lv_at hl 4 rfl) ?_
      refine px_bald S hT hw 0 10 (n := 2100) (f := (na 14)) rfl gp_14 (x := x43_4) (vp_in_iff.mpr (by constructor <;> omega)) d_Mpg_settle_49 ?_
      refine lv_topi (fun z1 ez1 => ?_)
      have lz1 := Int32.le_toInt z1
      have uz1 := Int32.toInt_lt z1
      refine lv_iconst (v := 5) S.x S.b d_Mpg_settle_50 (by decide) ?_
      refine lv_icmp_ne (tgt := 80) S.x S.b d_Mpg_settle_51 (by decide) (fun c2 => ?_) (fun c2 => ?_)
      · have nc2 : ¬ z1.toInt = (5 : Int) := mt (i_eq (x := z1) (y := 5)).mpr c2
        refine lv_aload_n S.x S.b d_Mpg_settle_80 rfl (lv_at hl 0 rfl) ?_
        refine px_get S k_Mpg hT hw 0 0 16 (v := .ref (r 16)) rfl rfl rfl (by decide) m10_0 d_Mpg_settle_81 ?_
        refine lv_iload S.x S.b d_Mpg_settle_84 (lv_at hl 4 rfl) ?_
        refine lv_aload_n S.x S.b d_Mpg_settle_86 rfl (lv_at hl 0 rfl) ?_
        refine px_get S k_Mpg hT hw 0 0 14 (v := .ref (r 14)) rfl rfl rfl (by decide) m9_238 d_Mpg_settle_87 ?_
        refine lv_iload S.x S.b d_Mpg_settle_90 (lv_at hl 4 rfl) ?_
        refine px_bald S hT hw 0 10 (n := 2100) (f := (na 14)) rfl gp_14 (x := x43_4) (vp_in_iff.mpr (by constructor <;> omega)) d_Mpg_settle_92 ?_
        refine lv_topi (fun z3 ez3 => ?_)
        have lz3 := Int32.le_toInt z3
        have uz3 := Int32.toInt_lt z3
        refine lv_bipush (v := 7) S.x S.b d_Mpg_settle_93 (by decide) ?_
        refine lv_icmp_ne (tgt := 118) S.x S.b d_Mpg_settle_95 (by decide) (fun c4 => ?_) (fun c4 => ?_)
        · have nc4 : ¬ z3.toInt = (7 : Int) := mt (i_eq (x := z3) (y := 7)).mpr c4
          refine lv_aload_n S.x S.b d_Mpg_settle_118 rfl (lv_at hl 0 rfl) ?_
          refine px_get S k_Mpg hT hw 0 0 16 (v := .ref (r 16)) rfl rfl rfl (by decide) m10_0 d_Mpg_settle_119 ?_
          refine lv_iload S.x S.b d_Mpg_settle_122 (lv_at hl 4 rfl) ?_
          refine px_iald S hT hw 0 12 (n := 2100) (f := (na 16)) rfl gp_16 (x := x43_4) (vp_in_iff.mpr (by constructor <;> omega)) d_Mpg_settle_124 ?_
          refine lv_topi (fun z5 ez5 => ?_)
          have lz5 := Int32.le_toInt z5
          have uz5 := Int32.toInt_lt z5
          refine px_iast S hT hw 0 12 (n := 2100) (f := (na 16)) (x := x43_4) (y := z5) rfl gp_16 (vp_in_iff.mpr (by constructor <;> omega)) d_Mpg_settle_125 (w' := wdP cs h r g tf ta pf_43 (va_up na 16 (upd (na 16) x43_4.toNatClampNeg z5)) ma wa cf ca ef ea xf xa) (ps' := [wdP cs h r g tf ta pf_43 (va_up na 16 (upd (na 16) x43_4.toNatClampNeg z5)) ma wa cf ca ef ea xf xa]) sp_16 rfl (fun H locs hw => ?_)
          have hw : pw D A s.heap _ _ [wdP cs h r g tf ta pf_43 na ma wa cf ca ef ea xf xa] := (by have q9 := hw; rw [va_same ez5] at q9; exact q9)
          refine lv_aload_n S.x S.b d_Mpg_settle_126 rfl (lv_at hl 0 rfl) ?_
          refine px_get S k_Mpg hT hw 0 0 14 (v := .ref (r 14)) rfl rfl rfl (by decide) m9_238 d_Mpg_settle_127 ?_
          refine lv_iload S.x S.b d_Mpg_settle_130 (lv_at hl 4 rfl) ?_
          refine px_bald S hT hw 0 10 (n := 2100) (f := (na 14)) rfl gp_14 (x := x43_4) (vp_in_iff.mpr (by constructor <;> omega)) d_Mpg_settle_132 ?_
          refine lv_topi (fun z6 ez6 => ?_)
          have lz6 := Int32.le_toInt z6
          have uz6 := Int32.toInt_lt z6
          have hk2 : z6.toInt = z3.toInt := (by rw [ez6, ez3])
          refine lv_bipush (v := 7) S.x S.b d_Mpg_settle_133 (by decide) ?_
          refine lv_icmp_ne (tgt := 149) S.x S.b d_Mpg_settle_135 (by decide) (fun c7 => ?_) (fun c7 => ?_)
          · have nc7 : ¬ z6.toInt = (7 : Int) := mt (i_eq (x := z6) (y := 7)).mpr c7
            refine lv_aload_n S.x S.b d_Mpg_settle_149 rfl (lv_at hl 0 rfl) ?_
            refine lv_bipush (v := 7) S.x S.b d_Mpg_settle_150 (by decide) ?_
            refine lv_aload_n S.x S.b d_Mpg_settle_152 rfl (lv_at hl 0 rfl) ?_
            refine px_get S k_Mpg hT hw 0 0 28 (v := .ref (r 28)) rfl rfl rfl (by decide) m10_16 d_Mpg_settle_153 ?_
            refine lv_aload_n S.x S.b d_Mpg_settle_156 rfl (lv_at hl 0 rfl) ?_
            refine px_get S k_Mpg hT hw 0 0 26 (v := .int (pf_43 26)) rfl rfl rfl (by decide) m10_14 d_Mpg_settle_157 ?_
            refine px_iald S hT hw 0 21 (n := 700) (f := (wa 28)) rfl gp_28 (x := (pf_43 26)) (vp_in_iff.mpr (by constructor <;> omega)) d_Mpg_settle_160 ?_
            refine lv_topi (fun z8 ez8 => ?_)
            have lz8 := Int32.le_toInt z8
            have uz8 := Int32.toInt_lt z8
            have hwi : (pf_43 26).toNatClampNeg = ((pf 26).toInt - 1).toNat := (by have hq9 := cl_nat (x := (pf_43 26)) (by omega); omega); have hsz8 : tk = z8 := (by rw [ez8, hwi]; exact hTop.2.2.symm); subst hsz8
            refine px_calli (pr := []) (px_runV (As := [.int 7, .int tk]) (rest := []) S (c_mp_make l D cs h r g tf ta wa cf ca ef ea xf xa pf_43 na ma 7 tk  (show 0 ≤ (pf_43 13).toInt from by omega) (show (pf_43 13).toInt < 2100 from by omega) _) hT (pr := []) (pcs := [wdP cs h r g tf ta pf_43 na ma wa cf ca ef ea xf xa]) hw px_X.tt (px_recv hT hw 0 0 rfl rfl rfl) m11_209 m11_206 m11_208 ms_8_12 m1_21 q_Mpg_make ⟨Nat.le_of_ble_eq_true rfl, Nat.le_of_ble_eq_true rfl⟩ hl.1 rfl (Nat.le_of_ble_eq_true rfl) d_Mpg_settle_161 ⟨Nat.le_of_ble_eq_true rfl, Nat.le_of_ble_eq_true rfl⟩) hw hA (fun v16 p15 H locs hp15 hw => ?_)
            obtain ⟨pf12, na13, ma14, rfl, e17, e18, e19, e20, e21, e22, e23, e24⟩ := hp15
            have e17 : v16.toInt = (pf_43 13).toInt := e17
            have e18 : (pf12 13).toInt = (pf_43 13).toInt + 1 := e18
            have e19 : (pf12 11).toInt = (pf_43 11).toInt := e19
            have e20 : (pf12 12).toInt = (pf_43 12).toInt := e20
            have e21 : (pf12 24).toInt = (pf_43 24).toInt := e21
            have e22 : (pf12 25).toInt = (pf_43 25).toInt := e22
            have e23 : (pf12 26).toInt = (pf_43 26).toInt := e23
            have e24 : MkN na ma na13 ma14 v16 (7 : Int32) tk := e24
            obtain ⟨qb251, qb252, qb253, qb254⟩ := tk_eq (ta := ta) (x := (pf12 11)) (y := (pf_43 11)) (by omega)
            have hmk_v16 := e24
            have hfm_v16 := MkN.frb (b := v16.toInt) hmk_v16 (by omega) (by omega)
            have hXA := hXA.kp (FrB.le hfm_v16 (by omega)) (by omega)
            have hn_hXA := hXA.num
            have hdq_a := dp_fb (x := a) hfm_v16 (by omega) (by omega)
            have hXR := hXR.kp (FrB.le hfm_v16 (by omega)) (by omega)
            have hn_hXR := hXR.num
            have hdq_p0 := dp_fb (x := p0) hfm_v16 (by omega) (by omega)
            have hfb := hfb.tr hfm_v16 (by omega)
            have hnk_v16 := hmk_v16.nk (by decide) (by decide) (by omega)
            have hdn_v16 := dp_nk hmk_v16
            have hw : pw D A s.heap H locs [wdP cs h r g tf ta pf12 na13 ma14 wa cf ca ef ea xf xa] := hw
            have lv16 := Int32.le_toInt v16
            have uv16 := Int32.toInt_lt v16
            refine lv_istore (lv' := [(4, .int v16), (0, .ref h), (1, .int p0), (2, .int a), (3, .int rk)]) S.x S.b d_Mpg_settle_164 hl (by decide) rfl (fun ls hl => ?_)
            refine lv_aload_n S.x S.b d_Mpg_settle_166 rfl (lv_at hl 1 rfl) ?_
            refine px_get S k_Mpg hT hw 0 0 16 (v := .ref (r 16)) rfl rfl rfl (by decide) m10_0 d_Mpg_settle_167 ?_
            refine lv_iload S.x S.b d_Mpg_settle_170 (lv_at hl 0 rfl) ?_
            refine lv_aload_n S.x S.b d_Mpg_settle_172 rfl (lv_at hl 1 rfl) ?_
            refine px_get S k_Mpg hT hw 0 0 16 (v := .ref (r 16)) rfl rfl rfl (by decide) m10_0 d_Mpg_settle_173 ?_
            refine lv_iload_n S.x S.b d_Mpg_settle_176 rfl (lv_at hl 3 rfl) ?_
            refine px_iald S hT hw 0 12 (n := 2100) (f := (na13 16)) rfl gp_16 (x := a) (vp_in_iff.mpr (by constructor <;> omega)) d_Mpg_settle_177 ?_
            refine lv_topi (fun z26 ez26 => ?_)
            have lz26 := Int32.le_toInt z26
            have uz26 := Int32.toInt_lt z26
            refine px_iast S hT hw 0 12 (n := 2100) (f := (na13 16)) (x := v16) (y := z26) rfl gp_16 (vp_in_iff.mpr (by constructor <;> omega)) d_Mpg_settle_178 (w' := wdP cs h r g tf ta pf12 (va_up na13 16 (upd (na13 16) v16.toNatClampNeg z26)) ma14 wa cf ca ef ea xf xa) (ps' := [wdP cs h r g tf ta pf12 (va_up na13 16 (upd (na13 16) v16.toNatClampNeg z26)) ma14 wa cf ca ef ea xf xa]) sp_16 rfl (fun H locs hw => ?_)
            refine lv_aload_n S.x S.b d_Mpg_settle_179 rfl (lv_at hl 1 rfl) ?_
            refine px_get S k_Mpg hT hw 0 0 22 (v := .ref (r 22)) rfl rfl rfl (by decide) m10_9 d_Mpg_settle_180 ?_
            refine lv_iload S.x S.b d_Mpg_settle_183 (lv_at hl 0 rfl) ?_
            refine lv_iload_n S.x S.b d_Mpg_settle_185 rfl (lv_at hl 4 rfl) ?_
            refine px_iast S hT hw 0 18 (n := 2100) (f := (ma14 22)) (x := v16) (y := rk) rfl gp_22 (vp_in_iff.mpr (by constructor <;> omega)) d_Mpg_settle_186 (w' := wdP cs h r g tf ta pf12 (va_up na13 16 (upd (na13 16) v16.toNatClampNeg z26)) (va_up ma14 22 (upd (ma14 22) v16.toNatClampNeg rk)) wa cf ca ef ea xf xa) (ps' := [wdP cs h r g tf ta pf12 (va_up na13 16 (upd (na13 16) v16.toNatClampNeg z26)) (va_up ma14 22 (upd (ma14 22) v16.toNatClampNeg rk)) wa cf ca ef ea xf xa]) sp_22 rfl (fun H locs hw => ?_)
            refine lv_aload_n S.x S.b d_Mpg_settle_187 rfl (lv_at hl 1 rfl) ?_
            refine px_get S k_Mpg hT hw 0 0 17 (v := .ref (r 17)) rfl rfl rfl (by decide) m10_1 d_Mpg_settle_188 ?_
            refine lv_iload S.x S.b d_Mpg_settle_191 (lv_at hl 0 rfl) ?_
            refine lv_iload_n S.x S.b d_Mpg_settle_193 rfl (lv_at hl 3 rfl) ?_
            refine px_iast S hT hw 0 13 (n := 2100) (f := ((va_up na13 16 (upd (na13 16) v16.toNatClampNeg z26)) 17)) (x := v16) (y := a) rfl gp_17 (vp_in_iff.mpr (by constructor <;> omega)) d_Mpg_settle_194 (w' := wdP cs h r g tf ta pf12 (va_up (va_up na13 16 (upd (na13 16) v16.toNatClampNeg z26)) 17 (upd ((va_up na13 16 (upd (na13 16) v16.toNatClampNeg z26)) 17) v16.toNatClampNeg a)) (va_up ma14 22 (upd (ma14 22) v16.toNatClampNeg rk)) wa cf ca ef ea xf xa) (ps' := [wdP cs h r g tf ta pf12 (va_up (va_up na13 16 (upd (na13 16) v16.toNatClampNeg z26)) 17 (upd ((va_up na13 16 (upd (na13 16) v16.toNatClampNeg z26)) 17) v16.toNatClampNeg a)) (va_up ma14 22 (upd (ma14 22) v16.toNatClampNeg rk)) wa cf ca ef ea xf xa]) sp_17 rfl (fun H locs hw => ?_)
            refine lv_aload_n S.x S.b d_Mpg_settle_195 rfl (lv_at hl 1 rfl) ?_
            refine px_get S k_Mpg hT hw 0 0 18 (v := .ref (r 18)) rfl rfl rfl (by decide) m10_3 d_Mpg_settle_196 ?_
            refine lv_iload S.x S.b d_Mpg_settle_199 (lv_at hl 0 rfl) ?_
            refine lv_iload_n S.x S.b d_Mpg_settle_201 rfl (lv_at hl 3 rfl) ?_
            refine px_iast S hT hw 0 14 (n := 2100) (f := ((va_up ma14 22 (upd (ma14 22) v16.toNatClampNeg rk)) 18)) (x := v16) (y := a) rfl gp_18 (vp_in_iff.mpr (by constructor <;> omega)) d_Mpg_settle_202 (w' := wdP cs h r g tf ta pf12 (va_up (va_up na13 16 (upd (na13 16) v16.toNatClampNeg z26)) 17 (upd ((va_up na13 16 (upd (na13 16) v16.toNatClampNeg z26)) 17) v16.toNatClampNeg a)) (va_up (va_up ma14 22 (upd (ma14 22) v16.toNatClampNeg rk)) 18 (upd ((va_up ma14 22 (upd (ma14 22) v16.toNatClampNeg rk)) 18) v16.toNatClampNeg a)) wa cf ca ef ea xf xa) (ps' := [wdP cs h r g tf ta pf12 (va_up (va_up na13 16 (upd (na13 16) v16.toNatClampNeg z26)) 17 (upd ((va_up na13 16 (upd (na13 16) v16.toNatClampNeg z26)) 17) v16.toNatClampNeg a)) (va_up (va_up ma14 22 (upd (ma14 22) v16.toNatClampNeg rk)) 18 (upd ((va_up ma14 22 (upd (ma14 22) v16.toNatClampNeg rk)) 18) v16.toNatClampNeg a)) wa cf ca ef ea xf xa]) sp_18 rfl (fun H locs hw => ?_)
            refine lv_aload_n S.x S.b d_Mpg_settle_203 rfl (lv_at hl 1 rfl) ?_
            refine px_get S k_Mpg hT hw 0 0 23 (v := .ref (r 23)) rfl rfl rfl (by decide) m10_11 d_Mpg_settle_204 ?_
            refine lv_iload S.x S.b d_Mpg_settle_207 (lv_at hl 0 rfl) ?_
            refine lv_iconst (v := 1) S.x S.b d_Mpg_settle_209 (by decide) ?_
            refine lv_aload_n S.x S.b d_Mpg_settle_210 rfl (lv_at hl 1 rfl) ?_
            refine px_get S k_Mpg hT hw 0 0 23 (v := .ref (r 23)) rfl rfl rfl (by decide) m10_11 d_Mpg_settle_211 ?_
            refine lv_iload_n S.x S.b d_Mpg_settle_214 rfl (lv_at hl 3 rfl) ?_
            refine px_iald S hT hw 0 19 (n := 2100) (f := ((va_up (va_up na13 16 (upd (na13 16) v16.toNatClampNeg z26)) 17 (upd ((va_up na13 16 (upd (na13 16) v16.toNatClampNeg z26)) 17) v16.toNatClampNeg a)) 23)) rfl gp_23 (x := a) (vp_in_iff.mpr (by constructor <;> omega)) d_Mpg_settle_215 ?_
            refine lv_topi (fun z27 ez27 => ?_)
            have lz27 := Int32.le_toInt z27
            have uz27 := Int32.toInt_lt z27
            have rz27 : z27.toInt = dp na13 a := by have q9 : z27.toInt = dp (va_up (va_up na13 16 (upd (na13 16) v16.toNatClampNeg z26)) 17 (upd ((va_up na13 16 (upd (na13 16) v16.toNatClampNeg z26)) 17) v16.toNatClampNeg a)) a := (by rw [ez27]; rfl); rw [dp_un (by decide), dp_un (by decide)] at q9; exact q9
            refine lv_iadd S.x S.b d_Mpg_settle_216 ?_
            refine lv_topi (fun z28 ez28 => ?_)
            have tz28 : z28.toInt = ((1 : Int) + z27.toInt + 2147483648) % 4294967296 - 2147483648 := by rw [ez28]; exact i_add 1 z27
            have lz28 := Int32.le_toInt z28
            have uz28 := Int32.toInt_lt z28
            try replace tz28 : z28.toInt = (1 : Int) + z27.toInt := by omega
            refine px_iast S hT hw 0 19 (n := 2100) (f := ((va_up (va_up na13 16 (upd (na13 16) v16.toNatClampNeg z26)) 17 (upd ((va_up na13 16 (upd (na13 16) v16.toNatClampNeg z26)) 17) v16.toNatClampNeg a)) 23)) (x := v16) (y := z28) rfl gp_23 (vp_in_iff.mpr (by constructor <;> omega)) d_Mpg_settle_217 (w' := wdP cs h r g tf ta pf12 (va_up (va_up (va_up na13 16 (upd (na13 16) v16.toNatClampNeg z26)) 17 (upd ((va_up na13 16 (upd (na13 16) v16.toNatClampNeg z26)) 17) v16.toNatClampNeg a)) 23 (upd ((va_up (va_up na13 16 (upd (na13 16) v16.toNatClampNeg z26)) 17 (upd ((va_up na13 16 (upd (na13 16) v16.toNatClampNeg z26)) 17) v16.toNatClampNeg a)) 23) v16.toNatClampNeg z28)) (va_up (va_up ma14 22 (upd (ma14 22) v16.toNatClampNeg rk)) 18 (upd ((va_up ma14 22 (upd (ma14 22) v16.toNatClampNeg rk)) 18) v16.toNatClampNeg a)) wa cf ca ef ea xf xa) (ps' := [wdP cs h r g tf ta pf12 (va_up (va_up (va_up na13 16 (upd (na13 16) v16.toNatClampNeg z26)) 17 (upd ((va_up na13 16 (upd (na13 16) v16.toNatClampNeg z26)) 17) v16.toNatClampNeg a)) 23 (upd ((va_up (va_up na13 16 (upd (na13 16) v16.toNatClampNeg z26)) 17 (upd ((va_up na13 16 (upd (na13 16) v16.toNatClampNeg z26)) 17) v16.toNatClampNeg a)) 23) v16.toNatClampNeg z28)) (va_up (va_up ma14 22 (upd (ma14 22) v16.toNatClampNeg rk)) 18 (upd ((va_up ma14 22 (upd (ma14 22) v16.toNatClampNeg rk)) 18) v16.toNatClampNeg a)) wa cf ca ef ea xf xa]) sp_23 rfl (fun H locs hw => ?_)
            refine lv_aload_n S.x S.b d_Mpg_settle_218 rfl (lv_at hl 1 rfl) ?_
            refine px_get S k_Mpg hT hw 0 0 23 (v := .ref (r 23)) rfl rfl rfl (by decide) m10_11 d_Mpg_settle_219 ?_
            refine lv_iload S.x S.b d_Mpg_settle_222 (lv_at hl 0 rfl) ?_
            refine lv_aload_n S.x S.b d_Mpg_settle_224 rfl (lv_at hl 1 rfl) ?_
            refine px_get S k_Mpg hT hw 0 0 23 (v := .ref (r 23)) rfl rfl rfl (by decide) m10_11 d_Mpg_settle_225 ?_
            refine lv_iload S.x S.b d_Mpg_settle_228 (lv_at hl 0 rfl) ?_
            refine px_iald S hT hw 0 19 (n := 2100) (f := ((va_up (va_up (va_up na13 16 (upd (na13 16) v16.toNatClampNeg z26)) 17 (upd ((va_up na13 16 (upd (na13 16) v16.toNatClampNeg z26)) 17) v16.toNatClampNeg a)) 23 (upd ((va_up (va_up na13 16 (upd (na13 16) v16.toNatClampNeg z26)) 17 (upd ((va_up na13 16 (upd (na13 16) v16.toNatClampNeg z26)) 17) v16.toNatClampNeg a)) 23) v16.toNatClampNeg z28)) 23)) rfl gp_23 (x := v16) (vp_in_iff.mpr (by constructor <;> omega)) d_Mpg_settle_230 ?_
            refine lv_topi (fun z29 ez29 => ?_)
            have lz29 := Int32.le_toInt z29
            have uz29 := Int32.toInt_lt z29
            have rz29 : z29.toInt = z28.toInt := by have q9 : z29.toInt = dp (va_up (va_up (va_up na13 16 (upd (na13 16) v16.toNatClampNeg z26)) 17 (upd ((va_up na13 16 (upd (na13 16) v16.toNatClampNeg z26)) 17) v16.toNatClampNeg a)) 23 (upd ((va_up (va_up na13 16 (upd (na13 16) v16.toNatClampNeg z26)) 17 (upd ((va_up na13 16 (upd (na13 16) v16.toNatClampNeg z26)) 17) v16.toNatClampNeg a)) 23) v16.toNatClampNeg z28)) v16 := (by rw [ez29]; rfl); rw [dp_us] at q9; exact q9
            refine lv_iconst (v := 1) S.x S.b d_Mpg_settle_231 (by decide) ?_
            refine lv_aload_n S.x S.b d_Mpg_settle_232 rfl (lv_at hl 1 rfl) ?_
            refine px_get S k_Mpg hT hw 0 0 23 (v := .ref (r 23)) rfl rfl rfl (by decide) m10_11 d_Mpg_settle_233 ?_
            refine lv_iload_n S.x S.b d_Mpg_settle_236 rfl (lv_at hl 2 rfl) ?_
            refine px_iald S hT hw 0 19 (n := 2100) (f := ((va_up (va_up (va_up na13 16 (upd (na13 16) v16.toNatClampNeg z26)) 17 (upd ((va_up na13 16 (upd (na13 16) v16.toNatClampNeg z26)) 17) v16.toNatClampNeg a)) 23 (upd ((va_up (va_up na13 16 (upd (na13 16) v16.toNatClampNeg z26)) 17 (upd ((va_up na13 16 (upd (na13 16) v16.toNatClampNeg z26)) 17) v16.toNatClampNeg a)) 23) v16.toNatClampNeg z28)) 23)) rfl gp_23 (x := p0) (vp_in_iff.mpr (by constructor <;> omega)) d_Mpg_settle_237 ?_
            refine lv_topi (fun z30 ez30 => ?_)
            have lz30 := Int32.le_toInt z30
            have uz30 := Int32.toInt_lt z30
            have rz30 : z30.toInt = dp na13 p0 := by have q9 : z30.toInt = dp (va_up (va_up (va_up na13 16 (upd (na13 16) v16.toNatClampNeg z26)) 17 (upd ((va_up na13 16 (upd (na13 16) v16.toNatClampNeg z26)) 17) v16.toNatClampNeg a)) 23 (upd ((va_up (va_up na13 16 (upd (na13 16) v16.toNatClampNeg z26)) 17 (upd ((va_up na13 16 (upd (na13 16) v16.toNatClampNeg z26)) 17) v16.toNatClampNeg a)) 23) v16.toNatClampNeg z28)) p0 := (by rw [ez30]; rfl); rw [dp_uf (by omega) (by omega) (by omega), dp_un (by decide), dp_un (by decide)] at q9; exact q9
            refine lv_iadd S.x S.b d_Mpg_settle_238 ?_
            refine lv_topi (fun z31 ez31 => ?_)
            have tz31 : z31.toInt = ((1 : Int) + z30.toInt + 2147483648) % 4294967296 - 2147483648 := by rw [ez31]; exact i_add 1 z30
            have lz31 := Int32.le_toInt z31
            have uz31 := Int32.toInt_lt z31
            try replace tz31 : z31.toInt = (1 : Int) + z30.toInt := by omega
            refine px_calli (pr := [wdP cs h r g tf ta pf12 (va_up (va_up (va_up na13 16 (upd (na13 16) v16.toNatClampNeg z26)) 17 (upd ((va_up na13 16 (upd (na13 16) v16.toNatClampNeg z26)) 17) v16.toNatClampNeg a)) 23 (upd ((va_up (va_up na13 16 (upd (na13 16) v16.toNatClampNeg z26)) 17 (upd ((va_up na13 16 (upd (na13 16) v16.toNatClampNeg z26)) 17) v16.toNatClampNeg a)) 23) v16.toNatClampNeg z28)) (va_up (va_up ma14 22 (upd (ma14 22) v16.toNatClampNeg rk)) 18 (upd ((va_up ma14 22 (upd (ma14 22) v16.toNatClampNeg rk)) 18) v16.toNatClampNeg a)) wa cf ca ef ea xf xa]) (px_runS (As := [.int z29, .int z31]) (rest := [.int v16, .ref (r 23)]) S (c_mp_deeper l D cs  z29 z31   _) hT (pr := [wdP cs h r g tf ta pf12 (va_up (va_up (va_up na13 16 (upd (na13 16) v16.toNatClampNeg z26)) 17 (upd ((va_up na13 16 (upd (na13 16) v16.toNatClampNeg z26)) 17) v16.toNatClampNeg a)) 23 (upd ((va_up (va_up na13 16 (upd (na13 16) v16.toNatClampNeg z26)) 17 (upd ((va_up na13 16 (upd (na13 16) v16.toNatClampNeg z26)) 17) v16.toNatClampNeg a)) 23) v16.toNatClampNeg z28)) (va_up (va_up ma14 22 (upd (ma14 22) v16.toNatClampNeg rk)) 18 (upd ((va_up ma14 22 (upd (ma14 22) v16.toNatClampNeg rk)) 18) v16.toNatClampNeg a)) wa cf ca ef ea xf xa]) (pcs := []) hw px_X.tt m12_49 m12_47 m12_48 m1_21 q_Mpg_deeper ⟨Nat.le_of_ble_eq_true rfl, Nat.le_of_ble_eq_true rfl⟩ hl.1 rfl (Nat.le_of_ble_eq_true rfl) d_Mpg_settle_239 ⟨Nat.le_of_ble_eq_true rfl, Nat.le_of_ble_eq_true rfl⟩) hw hA (fun v33 p32 H locs hp32 hw => ?_)
            obtain ⟨rfl, e34, e35, e36⟩ := hp32
            have e34 : z29.toInt ≤ v33.toInt := e34
            have e35 : z31.toInt ≤ v33.toInt := e35
            have e36 : v33.toInt = z29.toInt ∨ v33.toInt = z31.toInt := e36
            have hw : pw D A s.heap H locs [wdP cs h r g tf ta pf12 (va_up (va_up (va_up na13 16 (upd (na13 16) v16.toNatClampNeg z26)) 17 (upd ((va_up na13 16 (upd (na13 16) v16.toNatClampNeg z26)) 17) v16.toNatClampNeg a)) 23 (upd ((va_up (va_up na13 16 (upd (na13 16) v16.toNatClampNeg z26)) 17 (upd ((va_up na13 16 (upd (na13 16) v16.toNatClampNeg z26)) 17) v16.toNatClampNeg a)) 23) v16.toNatClampNeg z28)) (va_up (va_up ma14 22 (upd (ma14 22) v16.toNatClampNeg rk)) 18 (upd ((va_up ma14 22 (upd (ma14 22) v16.toNatClampNeg rk)) 18) v16.toNatClampNeg a)) wa cf ca ef ea xf xa] := hw
            have lv33 := Int32.le_toInt v33
            have uv33 := Int32.toInt_lt v33
            refine px_iast S hT hw 0 19 (n := 2100) (f := ((va_up (va_up (va_up na13 16 (upd (na13 16) v16.toNatClampNeg z26)) 17 (upd ((va_up na13 16 (upd (na13 16) v16.toNatClampNeg z26)) 17) v16.toNatClampNeg a)) 23 (upd ((va_up (va_up na13 16 (upd (na13 16) v16.toNatClampNeg z26)) 17 (upd ((va_up na13 16 (upd (na13 16) v16.toNatClampNeg z26)) 17) v16.toNatClampNeg a)) 23) v16.toNatClampNeg z28)) 23)) (x := v16) (y := v33) rfl gp_23 (vp_in_iff.mpr (by constructor <;> omega)) d_Mpg_settle_242 (w' := wdP cs h r g tf ta pf12 (va_up (va_up (va_up (va_up na13 16 (upd (na13 16) v16.toNatClampNeg z26)) 17 (upd ((va_up na13 16 (upd (na13 16) v16.toNatClampNeg z26)) 17) v16.toNatClampNeg a)) 23 (upd ((va_up (va_up na13 16 (upd (na13 16) v16.toNatClampNeg z26)) 17 (upd ((va_up na13 16 (upd (na13 16) v16.toNatClampNeg z26)) 17) v16.toNatClampNeg a)) 23) v16.toNatClampNeg z28)) 23 (upd ((va_up (va_up (va_up na13 16 (upd (na13 16) v16.toNatClampNeg z26)) 17 (upd ((va_up na13 16 (upd (na13 16) v16.toNatClampNeg z26)) 17) v16.toNatClampNeg a)) 23 (upd ((va_up (va_up na13 16 (upd (na13 16) v16.toNatClampNeg z26)) 17 (upd ((va_up na13 16 (upd (na13 16) v16.toNatClampNeg z26)) 17) v16.toNatClampNeg a)) 23) v16.toNatClampNeg z28)) 23) v16.toNatClampNeg v33)) (va_up (va_up ma14 22 (upd (ma14 22) v16.toNatClampNeg rk)) 18 (upd ((va_up ma14 22 (upd (ma14 22) v16.toNatClampNeg rk)) 18) v16.toNatClampNeg a)) wa cf ca ef ea xf xa) (ps' := [wdP cs h r g tf ta pf12 (va_up (va_up (va_up (va_up na13 16 (upd (na13 16) v16.toNatClampNeg z26)) 17 (upd ((va_up na13 16 (upd (na13 16) v16.toNatClampNeg z26)) 17) v16.toNatClampNeg a)) 23 (upd ((va_up (va_up na13 16 (upd (na13 16) v16.toNatClampNeg z26)) 17 (upd ((va_up na13 16 (upd (na13 16) v16.toNatClampNeg z26)) 17) v16.toNatClampNeg a)) 23) v16.toNatClampNeg z28)) 23 (upd ((va_up (va_up (va_up na13 16 (upd (na13 16) v16.toNatClampNeg z26)) 17 (upd ((va_up na13 16 (upd (na13 16) v16.toNatClampNeg z26)) 17) v16.toNatClampNeg a)) 23 (upd ((va_up (va_up na13 16 (upd (na13 16) v16.toNatClampNeg z26)) 17 (upd ((va_up na13 16 (upd (na13 16) v16.toNatClampNeg z26)) 17) v16.toNatClampNeg a)) 23) v16.toNatClampNeg z28)) 23) v16.toNatClampNeg v33)) (va_up (va_up ma14 22 (upd (ma14 22) v16.toNatClampNeg rk)) 18 (upd ((va_up ma14 22 (upd (ma14 22) v16.toNatClampNeg rk)) 18) v16.toNatClampNeg a)) wa cf ca ef ea xf xa]) sp_23 rfl (fun H locs hw => ?_)
            refine lv_aload_n S.x S.b d_Mpg_settle_243 rfl (lv_at hl 1 rfl) ?_
            refine px_get S k_Mpg hT hw 0 0 21 (v := .ref (r 21)) rfl rfl rfl (by decide) m10_7 d_Mpg_settle_244 ?_
            refine lv_aload_n S.x S.b d_Mpg_settle_247 rfl (lv_at hl 1 rfl) ?_
            refine px_get S k_Mpg hT hw 0 0 18 (v := .ref (r 18)) rfl rfl rfl (by decide) m10_3 d_Mpg_settle_248 ?_
            refine lv_iload S.x S.b d_Mpg_settle_251 (lv_at hl 0 rfl) ?_
            refine px_iald S hT hw 0 14 (n := 2100) (f := ((va_up (va_up ma14 22 (upd (ma14 22) v16.toNatClampNeg rk)) 18 (upd ((va_up ma14 22 (upd (ma14 22) v16.toNatClampNeg rk)) 18) v16.toNatClampNeg a)) 18)) rfl gp_18 (x := v16) (vp_in_iff.mpr (by constructor <;> omega)) d_Mpg_settle_253 ?_
            refine lv_topi (fun z37 ez37 => ?_)
            have lz37 := Int32.le_toInt z37
            have uz37 := Int32.toInt_lt z37
            have hsz37 : a = z37 := (by rw [ez37, va_up_s, pk_us]); subst hsz37
            refine lv_iload_n S.x S.b d_Mpg_settle_254 rfl (lv_at hl 2 rfl) ?_
            refine px_iast S hT hw 0 17 (n := 2100) (f := ((va_up (va_up (va_up (va_up na13 16 (upd (na13 16) v16.toNatClampNeg z26)) 17 (upd ((va_up na13 16 (upd (na13 16) v16.toNatClampNeg z26)) 17) v16.toNatClampNeg a)) 23 (upd ((va_up (va_up na13 16 (upd (na13 16) v16.toNatClampNeg z26)) 17 (upd ((va_up na13 16 (upd (na13 16) v16.toNatClampNeg z26)) 17) v16.toNatClampNeg a)) 23) v16.toNatClampNeg z28)) 23 (upd ((va_up (va_up (va_up na13 16 (upd (na13 16) v16.toNatClampNeg z26)) 17 (upd ((va_up na13 16 (upd (na13 16) v16.toNatClampNeg z26)) 17) v16.toNatClampNeg a)) 23 (upd ((va_up (va_up na13 16 (upd (na13 16) v16.toNatClampNeg z26)) 17 (upd ((va_up na13 16 (upd (na13 16) v16.toNatClampNeg z26)) 17) v16.toNatClampNeg a)) 23) v16.toNatClampNeg z28)) 23) v16.toNatClampNeg v33)) 21)) (x := a) (y := p0) rfl gp_21 (vp_in_iff.mpr (by constructor <;> omega)) d_Mpg_settle_255 (w' := wdP cs h r g tf ta pf12 (va_up (va_up (va_up (va_up (va_up na13 16 (upd (na13 16) v16.toNatClampNeg z26)) 17 (upd ((va_up na13 16 (upd (na13 16) v16.toNatClampNeg z26)) 17) v16.toNatClampNeg a)) 23 (upd ((va_up (va_up na13 16 (upd (na13 16) v16.toNatClampNeg z26)) 17 (upd ((va_up na13 16 (upd (na13 16) v16.toNatClampNeg z26)) 17) v16.toNatClampNeg a)) 23) v16.toNatClampNeg z28)) 23 (upd ((va_up (va_up (va_up na13 16 (upd (na13 16) v16.toNatClampNeg z26)) 17 (upd ((va_up na13 16 (upd (na13 16) v16.toNatClampNeg z26)) 17) v16.toNatClampNeg a)) 23 (upd ((va_up (va_up na13 16 (upd (na13 16) v16.toNatClampNeg z26)) 17 (upd ((va_up na13 16 (upd (na13 16) v16.toNatClampNeg z26)) 17) v16.toNatClampNeg a)) 23) v16.toNatClampNeg z28)) 23) v16.toNatClampNeg v33)) 21 (upd ((va_up (va_up (va_up (va_up na13 16 (upd (na13 16) v16.toNatClampNeg z26)) 17 (upd ((va_up na13 16 (upd (na13 16) v16.toNatClampNeg z26)) 17) v16.toNatClampNeg a)) 23 (upd ((va_up (va_up na13 16 (upd (na13 16) v16.toNatClampNeg z26)) 17 (upd ((va_up na13 16 (upd (na13 16) v16.toNatClampNeg z26)) 17) v16.toNatClampNeg a)) 23) v16.toNatClampNeg z28)) 23 (upd ((va_up (va_up (va_up na13 16 (upd (na13 16) v16.toNatClampNeg z26)) 17 (upd ((va_up na13 16 (upd (na13 16) v16.toNatClampNeg z26)) 17) v16.toNatClampNeg a)) 23 (upd ((va_up (va_up na13 16 (upd (na13 16) v16.toNatClampNeg z26)) 17 (upd ((va_up na13 16 (upd (na13 16) v16.toNatClampNeg z26)) 17) v16.toNatClampNeg a)) 23) v16.toNatClampNeg z28)) 23) v16.toNatClampNeg v33)) 21) a.toNatClampNeg p0)) (va_up (va_up ma14 22 (upd (ma14 22) v16.toNatClampNeg rk)) 18 (upd ((va_up ma14 22 (upd (ma14 22) v16.toNatClampNeg rk)) 18) v16.toNatClampNeg a)) wa cf ca ef ea xf xa) (ps' := [wdP cs h r g tf ta pf12 (va_up (va_up (va_up (va_up (va_up na13 16 (upd (na13 16) v16.toNatClampNeg z26)) 17 (upd ((va_up na13 16 (upd (na13 16) v16.toNatClampNeg z26)) 17) v16.toNatClampNeg a)) 23 (upd ((va_up (va_up na13 16 (upd (na13 16) v16.toNatClampNeg z26)) 17 (upd ((va_up na13 16 (upd (na13 16) v16.toNatClampNeg z26)) 17) v16.toNatClampNeg a)) 23) v16.toNatClampNeg z28)) 23 (upd ((va_up (va_up (va_up na13 16 (upd (na13 16) v16.toNatClampNeg z26)) 17 (upd ((va_up na13 16 (upd (na13 16) v16.toNatClampNeg z26)) 17) v16.toNatClampNeg a)) 23 (upd ((va_up (va_up na13 16 (upd (na13 16) v16.toNatClampNeg z26)) 17 (upd ((va_up na13 16 (upd (na13 16) v16.toNatClampNeg z26)) 17) v16.toNatClampNeg a)) 23) v16.toNatClampNeg z28)) 23) v16.toNatClampNeg v33)) 21 (upd ((va_up (va_up (va_up (va_up na13 16 (upd (na13 16) v16.toNatClampNeg z26)) 17 (upd ((va_up na13 16 (upd (na13 16) v16.toNatClampNeg z26)) 17) v16.toNatClampNeg a)) 23 (upd ((va_up (va_up na13 16 (upd (na13 16) v16.toNatClampNeg z26)) 17 (upd ((va_up na13 16 (upd (na13 16) v16.toNatClampNeg z26)) 17) v16.toNatClampNeg a)) 23) v16.toNatClampNeg z28)) 23 (upd ((va_up (va_up (va_up na13 16 (upd (na13 16) v16.toNatClampNeg z26)) 17 (upd ((va_up na13 16 (upd (na13 16) v16.toNatClampNeg z26)) 17) v16.toNatClampNeg a)) 23 (upd ((va_up (va_up na13 16 (upd (na13 16) v16.toNatClampNeg z26)) 17 (upd ((va_up na13 16 (upd (na13 16) v16.toNatClampNeg z26)) 17) v16.toNatClampNeg a)) 23) v16.toNatClampNeg z28)) 23) v16.toNatClampNeg v33)) 21) a.toNatClampNeg p0)) (va_up (va_up ma14 22 (upd (ma14 22) v16.toNatClampNeg rk)) 18 (upd ((va_up ma14 22 (upd (ma14 22) v16.toNatClampNeg rk)) 18) v16.toNatClampNeg a)) wa cf ca ef ea xf xa]) sp_21 rfl (fun H locs hw => ?_)
            refine lv_aload_n S.x S.b d_Mpg_settle_256 rfl (lv_at hl 1 rfl) ?_
            refine px_get S k_Mpg hT hw 0 0 18 (v := .ref (r 18)) rfl rfl rfl (by decide) m10_3 d_Mpg_settle_257 ?_
            refine lv_iload S.x S.b d_Mpg_settle_260 (lv_at hl 0 rfl) ?_
            refine lv_iload_n S.x S.b d_Mpg_settle_262 rfl (lv_at hl 2 rfl) ?_
            refine px_iast S hT hw 0 14 (n := 2100) (f := ((va_up (va_up ma14 22 (upd (ma14 22) v16.toNatClampNeg rk)) 18 (upd ((va_up ma14 22 (upd (ma14 22) v16.toNatClampNeg rk)) 18) v16.toNatClampNeg a)) 18)) (x := v16) (y := p0) rfl gp_18 (vp_in_iff.mpr (by constructor <;> omega)) d_Mpg_settle_263 (w' := wdP cs h r g tf ta pf12 (va_up (va_up (va_up (va_up (va_up na13 16 (upd (na13 16) v16.toNatClampNeg z26)) 17 (upd ((va_up na13 16 (upd (na13 16) v16.toNatClampNeg z26)) 17) v16.toNatClampNeg a)) 23 (upd ((va_up (va_up na13 16 (upd (na13 16) v16.toNatClampNeg z26)) 17 (upd ((va_up na13 16 (upd (na13 16) v16.toNatClampNeg z26)) 17) v16.toNatClampNeg a)) 23) v16.toNatClampNeg z28)) 23 (upd ((va_up (va_up (va_up na13 16 (upd (na13 16) v16.toNatClampNeg z26)) 17 (upd ((va_up na13 16 (upd (na13 16) v16.toNatClampNeg z26)) 17) v16.toNatClampNeg a)) 23 (upd ((va_up (va_up na13 16 (upd (na13 16) v16.toNatClampNeg z26)) 17 (upd ((va_up na13 16 (upd (na13 16) v16.toNatClampNeg z26)) 17) v16.toNatClampNeg a)) 23) v16.toNatClampNeg z28)) 23) v16.toNatClampNeg v33)) 21 (upd ((va_up (va_up (va_up (va_up na13 16 (upd (na13 16) v16.toNatClampNeg z26)) 17 (upd ((va_up na13 16 (upd (na13 16) v16.toNatClampNeg z26)) 17) v16.toNatClampNeg a)) 23 (upd ((va_up (va_up na13 16 (upd (na13 16) v16.toNatClampNeg z26)) 17 (upd ((va_up na13 16 (upd (na13 16) v16.toNatClampNeg z26)) 17) v16.toNatClampNeg a)) 23) v16.toNatClampNeg z28)) 23 (upd ((va_up (va_up (va_up na13 16 (upd (na13 16) v16.toNatClampNeg z26)) 17 (upd ((va_up na13 16 (upd (na13 16) v16.toNatClampNeg z26)) 17) v16.toNatClampNeg a)) 23 (upd ((va_up (va_up na13 16 (upd (na13 16) v16.toNatClampNeg z26)) 17 (upd ((va_up na13 16 (upd (na13 16) v16.toNatClampNeg z26)) 17) v16.toNatClampNeg a)) 23) v16.toNatClampNeg z28)) 23) v16.toNatClampNeg v33)) 21) a.toNatClampNeg p0)) (va_up (va_up (va_up ma14 22 (upd (ma14 22) v16.toNatClampNeg rk)) 18 (upd ((va_up ma14 22 (upd (ma14 22) v16.toNatClampNeg rk)) 18) v16.toNatClampNeg a)) 18 (upd ((va_up (va_up ma14 22 (upd (ma14 22) v16.toNatClampNeg rk)) 18 (upd ((va_up ma14 22 (upd (ma14 22) v16.toNatClampNeg rk)) 18) v16.toNatClampNeg a)) 18) v16.toNatClampNeg p0)) wa cf ca ef ea xf xa) (ps' := [wdP cs h r g tf ta pf12 (va_up (va_up (va_up (va_up (va_up na13 16 (upd (na13 16) v16.toNatClampNeg z26)) 17 (upd ((va_up na13 16 (upd (na13 16) v16.toNatClampNeg z26)) 17) v16.toNatClampNeg a)) 23 (upd ((va_up (va_up na13 16 (upd (na13 16) v16.toNatClampNeg z26)) 17 (upd ((va_up na13 16 (upd (na13 16) v16.toNatClampNeg z26)) 17) v16.toNatClampNeg a)) 23) v16.toNatClampNeg z28)) 23 (upd ((va_up (va_up (va_up na13 16 (upd (na13 16) v16.toNatClampNeg z26)) 17 (upd ((va_up na13 16 (upd (na13 16) v16.toNatClampNeg z26)) 17) v16.toNatClampNeg a)) 23 (upd ((va_up (va_up na13 16 (upd (na13 16) v16.toNatClampNeg z26)) 17 (upd ((va_up na13 16 (upd (na13 16) v16.toNatClampNeg z26)) 17) v16.toNatClampNeg a)) 23) v16.toNatClampNeg z28)) 23) v16.toNatClampNeg v33)) 21 (upd ((va_up (va_up (va_up (va_up na13 16 (upd (na13 16) v16.toNatClampNeg z26)) 17 (upd ((va_up na13 16 (upd (na13 16) v16.toNatClampNeg z26)) 17) v16.toNatClampNeg a)) 23 (upd ((va_up (va_up na13 16 (upd (na13 16) v16.toNatClampNeg z26)) 17 (upd ((va_up na13 16 (upd (na13 16) v16.toNatClampNeg z26)) 17) v16.toNatClampNeg a)) 23) v16.toNatClampNeg z28)) 23 (upd ((va_up (va_up (va_up na13 16 (upd (na13 16) v16.toNatClampNeg z26)) 17 (upd ((va_up na13 16 (upd (na13 16) v16.toNatClampNeg z26)) 17) v16.toNatClampNeg a)) 23 (upd ((va_up (va_up na13 16 (upd (na13 16) v16.toNatClampNeg z26)) 17 (upd ((va_up na13 16 (upd (na13 16) v16.toNatClampNeg z26)) 17) v16.toNatClampNeg a)) 23) v16.toNatClampNeg z28)) 23) v16.toNatClampNeg v33)) 21) a.toNatClampNeg p0)) (va_up (va_up (va_up ma14 22 (upd (ma14 22) v16.toNatClampNeg rk)) 18 (upd ((va_up ma14 22 (upd (ma14 22) v16.toNatClampNeg rk)) 18) v16.toNatClampNeg a)) 18 (upd ((va_up (va_up ma14 22 (upd (ma14 22) v16.toNatClampNeg rk)) 18 (upd ((va_up ma14 22 (upd (ma14 22) v16.toNatClampNeg rk)) 18) v16.toNatClampNeg a)) 18) v16.toNatClampNeg p0)) wa cf ca ef ea xf xa]) sp_18 rfl (fun H locs hw => ?_)
            refine lv_aload_n S.x S.b d_Mpg_settle_264 rfl (lv_at hl 1 rfl) ?_
            refine px_get S k_Mpg hT hw 0 0 20 (v := .ref (r 20)) rfl rfl rfl (by decide) m10_6 d_Mpg_settle_265 ?_
            refine lv_iload_n S.x S.b d_Mpg_settle_268 rfl (lv_at hl 2 rfl) ?_
            refine lv_aload_n S.x S.b d_Mpg_settle_269 rfl (lv_at hl 1 rfl) ?_
            refine px_get S k_Mpg hT hw 0 0 28 (v := .ref (r 28)) rfl rfl rfl (by decide) m10_16 d_Mpg_settle_270 ?_
            refine lv_aload_n S.x S.b d_Mpg_settle_273 rfl (lv_at hl 1 rfl) ?_
            refine px_get S k_Mpg hT hw 0 0 26 (v := .int (pf12 26)) rfl rfl rfl (by decide) m10_14 d_Mpg_settle_274 ?_
            refine px_iald S hT hw 0 21 (n := 700) (f := (wa 28)) rfl gp_28 (x := (pf12 26)) (vp_in_iff.mpr (by constructor <;> omega)) d_Mpg_settle_277 ?_
            refine lv_topi (fun z38 ez38 => ?_)
            have lz38 := Int32.le_toInt z38
            have uz38 := Int32.toInt_lt z38
            have hwi : (pf12 26).toNatClampNeg = ((pf 26).toInt - 1).toNat := (by have hq9 := cl_nat (x := (pf12 26)) (by omega); omega); have hsz38 : tk = z38 := (by rw [ez38, hwi]; exact hTop.2.2.symm); subst hsz38
            refine px_iast S hT hw 0 16 (n := 2100) (f := ((va_up (va_up (va_up ma14 22 (upd (ma14 22) v16.toNatClampNeg rk)) 18 (upd ((va_up ma14 22 (upd (ma14 22) v16.toNatClampNeg rk)) 18) v16.toNatClampNeg a)) 18 (upd ((va_up (va_up ma14 22 (upd (ma14 22) v16.toNatClampNeg rk)) 18 (upd ((va_up ma14 22 (upd (ma14 22) v16.toNatClampNeg rk)) 18) v16.toNatClampNeg a)) 18) v16.toNatClampNeg p0)) 20)) (x := p0) (y := tk) rfl gp_20 (vp_in_iff.mpr (by constructor <;> omega)) d_Mpg_settle_278 (w' := wdP cs h r g tf ta pf12 (va_up (va_up (va_up (va_up (va_up na13 16 (upd (na13 16) v16.toNatClampNeg z26)) 17 (upd ((va_up na13 16 (upd (na13 16) v16.toNatClampNeg z26)) 17) v16.toNatClampNeg a)) 23 (upd ((va_up (va_up na13 16 (upd (na13 16) v16.toNatClampNeg z26)) 17 (upd ((va_up na13 16 (upd (na13 16) v16.toNatClampNeg z26)) 17) v16.toNatClampNeg a)) 23) v16.toNatClampNeg z28)) 23 (upd ((va_up (va_up (va_up na13 16 (upd (na13 16) v16.toNatClampNeg z26)) 17 (upd ((va_up na13 16 (upd (na13 16) v16.toNatClampNeg z26)) 17) v16.toNatClampNeg a)) 23 (upd ((va_up (va_up na13 16 (upd (na13 16) v16.toNatClampNeg z26)) 17 (upd ((va_up na13 16 (upd (na13 16) v16.toNatClampNeg z26)) 17) v16.toNatClampNeg a)) 23) v16.toNatClampNeg z28)) 23) v16.toNatClampNeg v33)) 21 (upd ((va_up (va_up (va_up (va_up na13 16 (upd (na13 16) v16.toNatClampNeg z26)) 17 (upd ((va_up na13 16 (upd (na13 16) v16.toNatClampNeg z26)) 17) v16.toNatClampNeg a)) 23 (upd ((va_up (va_up na13 16 (upd (na13 16) v16.toNatClampNeg z26)) 17 (upd ((va_up na13 16 (upd (na13 16) v16.toNatClampNeg z26)) 17) v16.toNatClampNeg a)) 23) v16.toNatClampNeg z28)) 23 (upd ((va_up (va_up (va_up na13 16 (upd (na13 16) v16.toNatClampNeg z26)) 17 (upd ((va_up na13 16 (upd (na13 16) v16.toNatClampNeg z26)) 17) v16.toNatClampNeg a)) 23 (upd ((va_up (va_up na13 16 (upd (na13 16) v16.toNatClampNeg z26)) 17 (upd ((va_up na13 16 (upd (na13 16) v16.toNatClampNeg z26)) 17) v16.toNatClampNeg a)) 23) v16.toNatClampNeg z28)) 23) v16.toNatClampNeg v33)) 21) a.toNatClampNeg p0)) (va_up (va_up (va_up (va_up ma14 22 (upd (ma14 22) v16.toNatClampNeg rk)) 18 (upd ((va_up ma14 22 (upd (ma14 22) v16.toNatClampNeg rk)) 18) v16.toNatClampNeg a)) 18 (upd ((va_up (va_up ma14 22 (upd (ma14 22) v16.toNatClampNeg rk)) 18 (upd ((va_up ma14 22 (upd (ma14 22) v16.toNatClampNeg rk)) 18) v16.toNatClampNeg a)) 18) v16.toNatClampNeg p0)) 20 (upd ((va_up (va_up (va_up ma14 22 (upd (ma14 22) v16.toNatClampNeg rk)) 18 (upd ((va_up ma14 22 (upd (ma14 22) v16.toNatClampNeg rk)) 18) v16.toNatClampNeg a)) 18 (upd ((va_up (va_up ma14 22 (upd (ma14 22) v16.toNatClampNeg rk)) 18 (upd ((va_up ma14 22 (upd (ma14 22) v16.toNatClampNeg rk)) 18) v16.toNatClampNeg a)) 18) v16.toNatClampNeg p0)) 20) p0.toNatClampNeg tk)) wa cf ca ef ea xf xa) (ps' := [wdP cs h r g tf ta pf12 (va_up (va_up (va_up (va_up (va_up na13 16 (upd (na13 16) v16.toNatClampNeg z26)) 17 (upd ((va_up na13 16 (upd (na13 16) v16.toNatClampNeg z26)) 17) v16.toNatClampNeg a)) 23 (upd ((va_up (va_up na13 16 (upd (na13 16) v16.toNatClampNeg z26)) 17 (upd ((va_up na13 16 (upd (na13 16) v16.toNatClampNeg z26)) 17) v16.toNatClampNeg a)) 23) v16.toNatClampNeg z28)) 23 (upd ((va_up (va_up (va_up na13 16 (upd (na13 16) v16.toNatClampNeg z26)) 17 (upd ((va_up na13 16 (upd (na13 16) v16.toNatClampNeg z26)) 17) v16.toNatClampNeg a)) 23 (upd ((va_up (va_up na13 16 (upd (na13 16) v16.toNatClampNeg z26)) 17 (upd ((va_up na13 16 (upd (na13 16) v16.toNatClampNeg z26)) 17) v16.toNatClampNeg a)) 23) v16.toNatClampNeg z28)) 23) v16.toNatClampNeg v33)) 21 (upd ((va_up (va_up (va_up (va_up na13 16 (upd (na13 16) v16.toNatClampNeg z26)) 17 (upd ((va_up na13 16 (upd (na13 16) v16.toNatClampNeg z26)) 17) v16.toNatClampNeg a)) 23 (upd ((va_up (va_up na13 16 (upd (na13 16) v16.toNatClampNeg z26)) 17 (upd ((va_up na13 16 (upd (na13 16) v16.toNatClampNeg z26)) 17) v16.toNatClampNeg a)) 23) v16.toNatClampNeg z28)) 23 (upd ((va_up (va_up (va_up na13 16 (upd (na13 16) v16.toNatClampNeg z26)) 17 (upd ((va_up na13 16 (upd (na13 16) v16.toNatClampNeg z26)) 17) v16.toNatClampNeg a)) 23 (upd ((va_up (va_up na13 16 (upd (na13 16) v16.toNatClampNeg z26)) 17 (upd ((va_up na13 16 (upd (na13 16) v16.toNatClampNeg z26)) 17) v16.toNatClampNeg a)) 23) v16.toNatClampNeg z28)) 23) v16.toNatClampNeg v33)) 21) a.toNatClampNeg p0)) (va_up (va_up (va_up (va_up ma14 22 (upd (ma14 22) v16.toNatClampNeg rk)) 18 (upd ((va_up ma14 22 (upd (ma14 22) v16.toNatClampNeg rk)) 18) v16.toNatClampNeg a)) 18 (upd ((va_up (va_up ma14 22 (upd (ma14 22) v16.toNatClampNeg rk)) 18 (upd ((va_up ma14 22 (upd (ma14 22) v16.toNatClampNeg rk)) 18) v16.toNatClampNeg a)) 18) v16.toNatClampNeg p0)) 20 (upd ((va_up (va_up (va_up ma14 22 (upd (ma14 22) v16.toNatClampNeg rk)) 18 (upd ((va_up ma14 22 (upd (ma14 22) v16.toNatClampNeg rk)) 18) v16.toNatClampNeg a)) 18 (upd ((va_up (va_up ma14 22 (upd (ma14 22) v16.toNatClampNeg rk)) 18 (upd ((va_up ma14 22 (upd (ma14 22) v16.toNatClampNeg rk)) 18) v16.toNatClampNeg a)) 18) v16.toNatClampNeg p0)) 20) p0.toNatClampNeg tk)) wa cf ca ef ea xf xa]) sp_20 rfl (fun H locs hw => ?_)
            refine lv_iload S.x S.b d_Mpg_settle_279 (lv_at hl 0 rfl) ?_
            exact px_iret (v := v16) S hr rfl hlk hAe hw (Nat.le_of_ble_eq_true rfl) (Nat.le_of_ble_eq_true rfl) (⟨pf12, (va_up (va_up (va_up (va_up (va_up na13 16 (upd (na13 16) v16.toNatClampNeg z26)) 17 (upd ((va_up na13 16 (upd (na13 16) v16.toNatClampNeg z26)) 17) v16.toNatClampNeg a)) 23 (upd ((va_up (va_up na13 16 (upd (na13 16) v16.toNatClampNeg z26)) 17 (upd ((va_up na13 16 (upd (na13 16) v16.toNatClampNeg z26)) 17) v16.toNatClampNeg a)) 23) v16.toNatClampNeg z28)) 23 (upd ((va_up (va_up (va_up na13 16 (upd (na13 16) v16.toNatClampNeg z26)) 17 (upd ((va_up na13 16 (upd (na13 16) v16.toNatClampNeg z26)) 17) v16.toNatClampNeg a)) 23 (upd ((va_up (va_up na13 16 (upd (na13 16) v16.toNatClampNeg z26)) 17 (upd ((va_up na13 16 (upd (na13 16) v16.toNatClampNeg z26)) 17) v16.toNatClampNeg a)) 23) v16.toNatClampNeg z28)) 23) v16.toNatClampNeg v33)) 21 (upd ((va_up (va_up (va_up (va_up na13 16 (upd (na13 16) v16.toNatClampNeg z26)) 17 (upd ((va_up na13 16 (upd (na13 16) v16.toNatClampNeg z26)) 17) v16.toNatClampNeg a)) 23 (upd ((va_up (va_up na13 16 (upd (na13 16) v16.toNatClampNeg z26)) 17 (upd ((va_up na13 16 (upd (na13 16) v16.toNatClampNeg z26)) 17) v16.toNatClampNeg a)) 23) v16.toNatClampNeg z28)) 23 (upd ((va_up (va_up (va_up na13 16 (upd (na13 16) v16.toNatClampNeg z26)) 17 (upd ((va_up na13 16 (upd (na13 16) v16.toNatClampNeg z26)) 17) v16.toNatClampNeg a)) 23 (upd ((va_up (va_up na13 16 (upd (na13 16) v16.toNatClampNeg z26)) 17 (upd ((va_up na13 16 (upd (na13 16) v16.toNatClampNeg z26)) 17) v16.toNatClampNeg a)) 23) v16.toNatClampNeg z28)) 23) v16.toNatClampNeg v33)) 21) a.toNatClampNeg p0)), (va_up (va_up (va_up (va_up ma14 22 (upd (ma14 22) v16.toNatClampNeg rk)) 18 (upd ((va_up ma14 22 (upd (ma14 22) v16.toNatClampNeg rk)) 18) v16.toNatClampNeg a)) 18 (upd ((va_up (va_up ma14 22 (upd (ma14 22) v16.toNatClampNeg rk)) 18 (upd ((va_up ma14 22 (upd (ma14 22) v16.toNatClampNeg rk)) 18) v16.toNatClampNeg a)) 18) v16.toNatClampNeg p0)) 20 (upd ((va_up (va_up (va_up ma14 22 (upd (ma14 22) v16.toNatClampNeg rk)) 18 (upd ((va_up ma14 22 (upd (ma14 22) v16.toNatClampNeg rk)) 18) v16.toNatClampNeg a)) 18 (upd ((va_up (va_up ma14 22 (upd (ma14 22) v16.toNatClampNeg rk)) 18 (upd ((va_up ma14 22 (upd (ma14 22) v16.toNatClampNeg rk)) 18) v16.toNatClampNeg a)) 18) v16.toNatClampNeg p0)) 20) p0.toNatClampNeg tk)), rfl, (show (pf12 26).toInt = (pf 26).toInt - 1 from by omega), (show (pf12 12).toInt = (pf 12).toInt - 1 from by omega), (show (pf 13).toInt ≤ (pf12 13).toInt from by omega), (show (pf12 13).toInt ≤ (pf 13).toInt + 1 from by omega), (show (pf12 11).toInt = (pf 11).toInt from by omega), (show (pf12 24).toInt = (pf 24).toInt from by omega), (show (pf12 25).toInt = (pf 25).toInt from by omega), (show FrB lo na ma (va_up (va_up (va_up (va_up (va_up na13 16 (upd (na13 16) v16.toNatClampNeg z26)) 17 (upd ((va_up na13 16 (upd (na13 16) v16.toNatClampNeg z26)) 17) v16.toNatClampNeg a)) 23 (upd ((va_up (va_up na13 16 (upd (na13 16) v16.toNatClampNeg z26)) 17 (upd ((va_up na13 16 (upd (na13 16) v16.toNatClampNeg z26)) 17) v16.toNatClampNeg a)) 23) v16.toNatClampNeg z28)) 23 (upd ((va_up (va_up (va_up na13 16 (upd (na13 16) v16.toNatClampNeg z26)) 17 (upd ((va_up na13 16 (upd (na13 16) v16.toNatClampNeg z26)) 17) v16.toNatClampNeg a)) 23 (upd ((va_up (va_up na13 16 (upd (na13 16) v16.toNatClampNeg z26)) 17 (upd ((va_up na13 16 (upd (na13 16) v16.toNatClampNeg z26)) 17) v16.toNatClampNeg a)) 23) v16.toNatClampNeg z28)) 23) v16.toNatClampNeg v33)) 21 (upd ((va_up (va_up (va_up (va_up na13 16 (upd (na13 16) v16.toNatClampNeg z26)) 17 (upd ((va_up na13 16 (upd (na13 16) v16.toNatClampNeg z26)) 17) v16.toNatClampNeg a)) 23 (upd ((va_up (va_up na13 16 (upd (na13 16) v16.toNatClampNeg z26)) 17 (upd ((va_up na13 16 (upd (na13 16) v16.toNatClampNeg z26)) 17) v16.toNatClampNeg a)) 23) v16.toNatClampNeg z28)) 23 (upd ((va_up (va_up (va_up na13 16 (upd (na13 16) v16.toNatClampNeg z26)) 17 (upd ((va_up na13 16 (upd (na13 16) v16.toNatClampNeg z26)) 17) v16.toNatClampNeg a)) 23 (upd ((va_up (va_up na13 16 (upd (na13 16) v16.toNatClampNeg z26)) 17 (upd ((va_up na13 16 (upd (na13 16) v16.toNatClampNeg z26)) 17) v16.toNatClampNeg a)) 23) v16.toNatClampNeg z28)) 23) v16.toNatClampNeg v33)) 21) a.toNatClampNeg p0)) (va_up (va_up (va_up (va_up ma14 22 (upd (ma14 22) v16.toNatClampNeg rk)) 18 (upd ((va_up ma14 22 (upd (ma14 22) v16.toNatClampNeg rk)) 18) v16.toNatClampNeg a)) 18 (upd ((va_up (va_up ma14 22 (upd (ma14 22) v16.toNatClampNeg rk)) 18 (upd ((va_up ma14 22 (upd (ma14 22) v16.toNatClampNeg rk)) 18) v16.toNatClampNeg a)) 18) v16.toNatClampNeg p0)) 20 (upd ((va_up (va_up (va_up ma14 22 (upd (ma14 22) v16.toNatClampNeg rk)) 18 (upd ((va_up ma14 22 (upd (ma14 22) v16.toNatClampNeg rk)) 18) v16.toNatClampNeg a)) 18 (upd ((va_up (va_up ma14 22 (upd (ma14 22) v16.toNatClampNeg rk)) 18 (upd ((va_up ma14 22 (upd (ma14 22) v16.toNatClampNeg rk)) 18) v16.toNatClampNeg a)) 18) v16.toNatClampNeg p0)) 20) p0.toNatClampNeg tk)) from (FrB.um (FrB.um (FrB.un (FrB.un (FrB.un (FrB.um (FrB.un (FrB.um (FrB.un hfb (by omega) (by omega)) (by omega) (by omega)) (by omega) (by omega)) (by omega) (by omega)) (by omega) (by omega)) (by omega) (by omega)) (by omega) (by omega)) (by omega) (by omega)) (by omega) (by omega))), (show ExR ta (tf 6).toInt (va_up (va_up (va_up (va_up (va_up na13 16 (upd (na13 16) v16.toNatClampNeg z26)) 17 (upd ((va_up na13 16 (upd (na13 16) v16.toNatClampNeg z26)) 17) v16.toNatClampNeg a)) 23 (upd ((va_up (va_up na13 16 (upd (na13 16) v16.toNatClampNeg z26)) 17 (upd ((va_up na13 16 (upd (na13 16) v16.toNatClampNeg z26)) 17) v16.toNatClampNeg a)) 23) v16.toNatClampNeg z28)) 23 (upd ((va_up (va_up (va_up na13 16 (upd (na13 16) v16.toNatClampNeg z26)) 17 (upd ((va_up na13 16 (upd (na13 16) v16.toNatClampNeg z26)) 17) v16.toNatClampNeg a)) 23 (upd ((va_up (va_up na13 16 (upd (na13 16) v16.toNatClampNeg z26)) 17 (upd ((va_up na13 16 (upd (na13 16) v16.toNatClampNeg z26)) 17) v16.toNatClampNeg a)) 23) v16.toNatClampNeg z28)) 23) v16.toNatClampNeg v33)) 21 (upd ((va_up (va_up (va_up (va_up na13 16 (upd (na13 16) v16.toNatClampNeg z26)) 17 (upd ((va_up na13 16 (upd (na13 16) v16.toNatClampNeg z26)) 17) v16.toNatClampNeg a)) 23 (upd ((va_up (va_up na13 16 (upd (na13 16) v16.toNatClampNeg z26)) 17 (upd ((va_up na13 16 (upd (na13 16) v16.toNatClampNeg z26)) 17) v16.toNatClampNeg a)) 23) v16.toNatClampNeg z28)) 23 (upd ((va_up (va_up (va_up na13 16 (upd (na13 16) v16.toNatClampNeg z26)) 17 (upd ((va_up na13 16 (upd (na13 16) v16.toNatClampNeg z26)) 17) v16.toNatClampNeg a)) 23 (upd ((va_up (va_up na13 16 (upd (na13 16) v16.toNatClampNeg z26)) 17 (upd ((va_up na13 16 (upd (na13 16) v16.toNatClampNeg z26)) 17) v16.toNatClampNeg a)) 23) v16.toNatClampNeg z28)) 23) v16.toNatClampNeg v33)) 21) a.toNatClampNeg p0)) (va_up (va_up (va_up (va_up ma14 22 (upd (ma14 22) v16.toNatClampNeg rk)) 18 (upd ((va_up ma14 22 (upd (ma14 22) v16.toNatClampNeg rk)) 18) v16.toNatClampNeg a)) 18 (upd ((va_up (va_up ma14 22 (upd (ma14 22) v16.toNatClampNeg rk)) 18 (upd ((va_up ma14 22 (upd (ma14 22) v16.toNatClampNeg rk)) 18) v16.toNatClampNeg a)) 18) v16.toNatClampNeg p0)) 20 (upd ((va_up (va_up (va_up ma14 22 (upd (ma14 22) v16.toNatClampNeg rk)) 18 (upd ((va_up ma14 22 (upd (ma14 22) v16.toNatClampNeg rk)) 18) v16.toNatClampNeg a)) 18 (upd ((va_up (va_up ma14 22 (upd (ma14 22) v16.toNatClampNeg rk)) 18 (upd ((va_up ma14 22 (upd (ma14 22) v16.toNatClampNeg rk)) 18) v16.toNatClampNeg a)) 18) v16.toNatClampNeg p0)) 20) p0.toNatClampNeg tk)) v16 lo (pf12 13).toInt (Wl + Wr + 1 + X) ((pf 12).toInt - 1) from ⟨ExV.le (exv_chain (Dm := v33.toInt + 61 - (pf 12).toInt) (X := X) (hXA.1.le (Int.le_refl _) (Int.le_refl _) (Int.le_refl _) (by omega)) (hXR.1.le (Int.le_refl _) (Int.le_refl _) (Int.le_refl _) (by omega)) (Int.le_refl _) (by omega) (by omega) (fun x g1 g2 g3 => ⟨fun j => by rw [up_far g2, up_far g1, up_far g1, up_far g1, up_far g1], fun j => by rw [up_far g3, up_far g1, up_far g1, up_far g1]⟩) ⟨fun j hj => by rw [va_up_n hj, up_far (nat_ne (by omega) (by omega) (by omega)), up_far (nat_ne (by omega) (by omega) (by omega)), up_far (nat_ne (by omega) (by omega) (by omega)), up_far (nat_ne (by omega) (by omega) (by omega))], fun j => by rw [up_far (nat_ne (by omega) (by omega) (by omega)), up_far (nat_ne (by omega) (by omega) (by omega)), up_far (nat_ne (by omega) (by omega) (by omega)), up_far (nat_ne (by omega) (by omega) (by omega))]⟩ ⟨fun j => by rw [up_far (nat_ne (by omega) (by omega) (by omega)), up_far (nat_ne (by omega) (by omega) (by omega)), up_far (nat_ne (by omega) (by omega) (by omega)), up_far (nat_ne (by omega) (by omega) (by omega)), up_far (nat_ne (by omega) (by omega) (by omega))], fun j hj => by rw [va_up_n hj, up_far (nat_ne (by omega) (by omega) (by omega)), up_far (nat_ne (by omega) (by omega) (by omega)), up_far (nat_ne (by omega) (by omega) (by omega))]⟩ (by rw [va_up_n (by decide), va_up_n (by decide), va_up_n (by decide), va_up_n (by decide), va_up_n (by decide), hnk_v16.1]; rfl) (ndt_of (by rw [va_up_n (by decide), va_up_n (by decide), va_up_n (by decide), va_up_n (by decide), va_up_n (by decide), hnk_v16.2.1]) (by omega) (by omega) (by omega)) (by rw [va_up_n (by decide), va_up_n (by decide), va_up_n (by decide), va_up_s, pk_us]) (by rw [va_up_n (by decide), va_up_s, pk_us]) (by rw [va_up_s, pk_us]) hXR.2.2.2.1 (mkd_of (by rw [va_up_s, pk_us]) (by omega) (by omega) (by omega)) (by rw [va_up_n (by decide), va_up_n (by decide), va_up_n (by decide), va_up_s, pk_us]; split <;> omega)) (Int.le_refl _) (by omega) (by omega) (by rw [dp_un (by decide), dp_us]; omega), (by rw [dp_un (by decide), dp_us]; omega), (by rw [dp_un (by decide), dp_us]; omega), ⟨(by rw [va_up_s, pk_un (nat_ne (by omega) (by omega) (by omega)), va_up_n (by decide), va_up_n (by decide), va_up_n (by decide), va_up_n (by decide), hnk_v16.2.2.1]; decide), (by rw [va_up_s, pk_un (nat_ne (by omega) (by omega) (by omega)), va_up_n (by decide), va_up_n (by decide), va_up_n (by decide), hnk_v16.2.2.2.2]; decide)⟩⟩)⟩) d_Mpg_settle_281
          · have nc7 : z6.toInt = (7 : Int) := (i_eq (x := z6) (y := 7)).mp c7
            exfalso
            omega
        · have nc4 : z3.toInt = (7 : Int) := (i_eq (x := z3) (y := 7)).mp c4
          refine lv_aload_n S.x S.b d_Mpg_settle_98 rfl (lv_at hl 0 rfl) ?_
          refine px_get S k_Mpg hT hw 0 0 22 (v := .ref (r 22)) rfl rfl rfl (by decide) m10_9 d_Mpg_settle_99 ?_
          refine lv_iload S.x S.b d_Mpg_settle_102 (lv_at hl 4 rfl) ?_
          refine px_iald S hT hw 0 18 (n := 2100) (f := (ma 22)) rfl gp_22 (x := x43_4) (vp_in_iff.mpr (by constructor <;> omega)) d_Mpg_settle_104 ?_
          refine lv_topi (fun z39 ez39 => ?_)
          have lz39 := Int32.le_toInt z39
          have uz39 := Int32.toInt_lt z39
          refine lv_iload_n S.x S.b d_Mpg_settle_105 rfl (lv_at hl 3 rfl) ?_
          refine lv_icmp_ne (tgt := 118) S.x S.b d_Mpg_settle_106 (by decide) (fun c40 => ?_) (fun c40 => ?_)
          · have nc40 : ¬ z39.toInt = rk.toInt := mt (i_eq (x := z39) (y := rk)).mpr c40
            refine lv_aload_n S.x S.b d_Mpg_settle_118 rfl (lv_at hl 0 rfl) ?_
            refine px_get S k_Mpg hT hw 0 0 16 (v := .ref (r 16)) rfl rfl rfl (by decide) m10_0 d_Mpg_settle_119 ?_
            refine lv_iload S.x S.b d_Mpg_settle_122 (lv_at hl 4 rfl) ?_
            refine px_iald S hT hw 0 12 (n := 2100) (f := (na 16)) rfl gp_16 (x := x43_4) (vp_in_iff.mpr (by constructor <;> omega)) d_Mpg_settle_124 ?_
            refine lv_topi (fun z41 ez41 => ?_)
            have lz41 := Int32.le_toInt z41
            have uz41 := Int32.toInt_lt z41
            refine px_iast S hT hw 0 12 (n := 2100) (f := (na 16)) (x := x43_4) (y := z41) rfl gp_16 (vp_in_iff.mpr (by constructor <;> omega)) d_Mpg_settle_125 (w' := wdP cs h r g tf ta pf_43 (va_up na 16 (upd (na 16) x43_4.toNatClampNeg z41)) ma wa cf ca ef ea xf xa) (ps' := [wdP cs h r g tf ta pf_43 (va_up na 16 (upd (na 16) x43_4.toNatClampNeg z41)) ma wa cf ca ef ea xf xa]) sp_16 rfl (fun H locs hw => ?_)
            have hw : pw D A s.heap _ _ [wdP cs h r g tf ta pf_43 na ma wa cf ca ef ea xf xa] := (by have q9 := hw; rw [va_same ez41] at q9; exact q9)
            refine lv_aload_n S.x S.b d_Mpg_settle_126 rfl (lv_at hl 0 rfl) ?_
            refine px_get S k_Mpg hT hw 0 0 14 (v := .ref (r 14)) rfl rfl rfl (by decide) m9_238 d_Mpg_settle_127 ?_
            refine lv_iload S.x S.b d_Mpg_settle_130 (lv_at hl 4 rfl) ?_
            refine px_bald S hT hw 0 10 (n := 2100) (f := (na 14)) rfl gp_14 (x := x43_4) (vp_in_iff.mpr (by constructor <;> omega)) d_Mpg_settle_132 ?_
            refine lv_topi (fun z42 ez42 => ?_)
            have lz42 := Int32.le_toInt z42
            have uz42 := Int32.toInt_lt z42
            have hk2 : z42.toInt = z3.toInt := (by rw [ez42, ez3])
            refine lv_bipush (v := 7) S.x S.b d_Mpg_settle_133 (by decide) ?_
            refine lv_icmp_ne (tgt := 149) S.x S.b d_Mpg_settle_135 (by decide) (fun c43 => ?_) (fun c43 => ?_)
            · have nc43 : ¬ z42.toInt = (7 : Int) := mt (i_eq (x := z42) (y := 7)).mpr c43
              exfalso
              omega
            · have nc43 : z42.toInt = (7 : Int) := (i_eq (x := z42) (y := 7)).mp c43
              refine lv_aload_n S.x S.b d_Mpg_settle_138 rfl (lv_at hl 0 rfl) ?_
              refine px_get S k_Mpg hT hw 0 0 22 (v := .ref (r 22)) rfl rfl rfl (by decide) m10_9 d_Mpg_settle_139 ?_
              refine lv_iload S.x S.b d_Mpg_settle_142 (lv_at hl 4 rfl) ?_
              refine px_iald S hT hw 0 18 (n := 2100) (f := (ma 22)) rfl gp_22 (x := x43_4) (vp_in_iff.mpr (by constructor <;> omega)) d_Mpg_settle_144 ?_
              refine lv_topi (fun z44 ez44 => ?_)
              have lz44 := Int32.le_toInt z44
              have uz44 := Int32.toInt_lt z44
              have ho2 : z44.toInt = z39.toInt := (by rw [ez44, ez39])
              refine lv_iload_n S.x S.b d_Mpg_settle_145 rfl (lv_at hl 3 rfl) ?_
              refine lv_icmp_eq (tgt := 218) S.x S.b d_Mpg_settle_146 (by decide) (fun c45 => ?_) (fun c45 => ?_)
              · have nc45 : z44.toInt = rk.toInt := (i_eq (x := z44) (y := rk)).mp c45
                exfalso
                omega
              · have nc45 : ¬ z44.toInt = rk.toInt := mt (i_eq (x := z44) (y := rk)).mpr c45
                refine lv_aload_n S.x S.b d_Mpg_settle_149 rfl (lv_at hl 0 rfl) ?_
                refine lv_bipush (v := 7) S.x S.b d_Mpg_settle_150 (by decide) ?_
                refine lv_aload_n S.x S.b d_Mpg_settle_152 rfl (lv_at hl 0 rfl) ?_
                refine px_get S k_Mpg hT hw 0 0 28 (v := .ref (r 28)) rfl rfl rfl (by decide) m10_16 d_Mpg_settle_153 ?_
                refine lv_aload_n S.x S.b d_Mpg_settle_156 rfl (lv_at hl 0 rfl) ?_
                refine px_get S k_Mpg hT hw 0 0 26 (v := .int (pf_43 26)) rfl rfl rfl (by decide) m10_14 d_Mpg_settle_157 ?_
                refine px_iald S hT hw 0 21 (n := 700) (f := (wa 28)) rfl gp_28 (x := (pf_43 26)) (vp_in_iff.mpr (by constructor <;> omega)) d_Mpg_settle_160 ?_
                refine lv_topi (fun z46 ez46 => ?_)
                have lz46 := Int32.le_toInt z46
                have uz46 := Int32.toInt_lt z46
                have hwi : (pf_43 26).toNatClampNeg = ((pf 26).toInt - 1).toNat := (by have hq9 := cl_nat (x := (pf_43 26)) (by omega); omega); have hsz46 : tk = z46 := (by rw [ez46, hwi]; exact hTop.2.2.symm); subst hsz46
                refine px_calli (pr := []) (px_runV (As := [.int 7, .int tk]) (rest := []) S (c_mp_make l D cs h r g tf ta wa cf ca ef ea xf xa pf_43 na ma 7 tk  (show 0 ≤ (pf_43 13).toInt from by omega) (show (pf_43 13).toInt < 2100 from by omega) _) hT (pr := []) (pcs := [wdP cs h r g tf ta pf_43 na ma wa cf ca ef ea xf xa]) hw px_X.tt (px_recv hT hw 0 0 rfl rfl rfl) m11_209 m11_206 m11_208 ms_8_12 m1_21 q_Mpg_make ⟨Nat.le_of_ble_eq_true rfl, Nat.le_of_ble_eq_true rfl⟩ hl.1 rfl (Nat.le_of_ble_eq_true rfl) d_Mpg_settle_161 ⟨Nat.le_of_ble_eq_true rfl, Nat.le_of_ble_eq_true rfl⟩) hw hA (fun v54 p53 H locs hp53 hw => ?_)
                obtain ⟨pf50, na51, ma52, rfl, e55, e56, e57, e58, e59, e60, e61, e62⟩ := hp53
                have e55 : v54.toInt = (pf_43 13).toInt := e55
                have e56 : (pf50 13).toInt = (pf_43 13).toInt + 1 := e56
                have e57 : (pf50 11).toInt = (pf_43 11).toInt := e57
                have e58 : (pf50 12).toInt = (pf_43 12).toInt := e58
                have e59 : (pf50 24).toInt = (pf_43 24).toInt := e59
                have e60 : (pf50 25).toInt = (pf_43 25).toInt := e60
                have e61 : (pf50 26).toInt = (pf_43 26).toInt := e61
                have e62 : MkN na ma na51 ma52 v54 (7 : Int32) tk := e62
                obtain ⟨qb631, qb632, qb633, qb634⟩ := tk_eq (ta := ta) (x := (pf50 11)) (y := (pf_43 11)) (by omega)
                have hmk_v54 := e62
                have hfm_v54 := MkN.frb (b := v54.toInt) hmk_v54 (by omega) (by omega)
                have hXA := hXA.kp (FrB.le hfm_v54 (by omega)) (by omega)
                have hn_hXA := hXA.num
                have hdq_a := dp_fb (x := a) hfm_v54 (by omega) (by omega)
                have hXR := hXR.kp (FrB.le hfm_v54 (by omega)) (by omega)
                have hn_hXR := hXR.num
                have hdq_p0 := dp_fb (x := p0) hfm_v54 (by omega) (by omega)
                have hfb := hfb.tr hfm_v54 (by omega)
                have hnk_v54 := hmk_v54.nk (by decide) (by decide) (by omega)
                have hdn_v54 := dp_nk hmk_v54
                have hw : pw D A s.heap H locs [wdP cs h r g tf ta pf50 na51 ma52 wa cf ca ef ea xf xa] := hw
                have lv54 := Int32.le_toInt v54
                have uv54 := Int32.toInt_lt v54
                refine lv_istore (lv' := [(4, .int v54), (0, .ref h), (1, .int p0), (2, .int a), (3, .int rk)]) S.x S.b d_Mpg_settle_164 hl (by decide) rfl (fun ls hl => ?_)
                refine lv_aload_n S.x S.b d_Mpg_settle_166 rfl (lv_at hl 1 rfl) ?_
                refine px_get S k_Mpg hT hw 0 0 16 (v := .ref (r 16)) rfl rfl rfl (by decide) m10_0 d_Mpg_settle_167 ?_
                refine lv_iload S.x S.b d_Mpg_settle_170 (lv_at hl 0 rfl) ?_
                refine lv_aload_n S.x S.b d_Mpg_settle_172 rfl (lv_at hl 1 rfl) ?_
                refine px_get S k_Mpg hT hw 0 0 16 (v := .ref (r 16)) rfl rfl rfl (by decide) m10_0 d_Mpg_settle_173 ?_
                refine lv_iload_n S.x S.b d_Mpg_settle_176 rfl (lv_at hl 3 rfl) ?_
                refine px_iald S hT hw 0 12 (n := 2100) (f := (na51 16)) rfl gp_16 (x := a) (vp_in_iff.mpr (by constructor <;> omega)) d_Mpg_settle_177 ?_
                refine lv_topi (fun z64 ez64 => ?_)
                have lz64 := Int32.le_toInt z64
                have uz64 := Int32.toInt_lt z64
                refine px_iast S hT hw 0 12 (n := 2100) (f := (na51 16)) (x := v54) (y := z64) rfl gp_16 (vp_in_iff.mpr (by constructor <;> omega)) d_Mpg_settle_178 (w' := wdP cs h r g tf ta pf50 (va_up na51 16 (upd (na51 16) v54.toNatClampNeg z64)) ma52 wa cf ca ef ea xf xa) (ps' := [wdP cs h r g tf ta pf50 (va_up na51 16 (upd (na51 16) v54.toNatClampNeg z64)) ma52 wa cf ca ef ea xf xa]) sp_16 rfl (fun H locs hw => ?_)
                refine lv_aload_n S.x S.b d_Mpg_settle_179 rfl (lv_at hl 1 rfl) ?_
                refine px_get S k_Mpg hT hw 0 0 22 (v := .ref (r 22)) rfl rfl rfl (by decide) m10_9 d_Mpg_settle_180 ?_
                refine lv_iload S.x S.b d_Mpg_settle_183 (lv_at hl 0 rfl) ?_
                refine lv_iload_n S.x S.b d_Mpg_settle_185 rfl (lv_at hl 4 rfl) ?_
                refine px_iast S hT hw 0 18 (n := 2100) (f := (ma52 22)) (x := v54) (y := rk) rfl gp_22 (vp_in_iff.mpr (by constructor <;> omega)) d_Mpg_settle_186 (w' := wdP cs h r g tf ta pf50 (va_up na51 16 (upd (na51 16) v54.toNatClampNeg z64)) (va_up ma52 22 (upd (ma52 22) v54.toNatClampNeg rk)) wa cf ca ef ea xf xa) (ps' := [wdP cs h r g tf ta pf50 (va_up na51 16 (upd (na51 16) v54.toNatClampNeg z64)) (va_up ma52 22 (upd (ma52 22) v54.toNatClampNeg rk)) wa cf ca ef ea xf xa]) sp_22 rfl (fun H locs hw => ?_)
                refine lv_aload_n S.x S.b d_Mpg_settle_187 rfl (lv_at hl 1 rfl) ?_
                refine px_get S k_Mpg hT hw 0 0 17 (v := .ref (r 17)) rfl rfl rfl (by decide) m10_1 d_Mpg_settle_188 ?_
                refine lv_iload S.x S.b d_Mpg_settle_191 (lv_at hl 0 rfl) ?_
                refine lv_iload_n S.x S.b d_Mpg_settle_193 rfl (lv_at hl 3 rfl) ?_
                refine px_iast S hT hw 0 13 (n := 2100) (f := ((va_up na51 16 (upd (na51 16) v54.toNatClampNeg z64)) 17)) (x := v54) (y := a) rfl gp_17 (vp_in_iff.mpr (by constructor <;> omega)) d_Mpg_settle_194 (w' := wdP cs h r g tf ta pf50 (va_up (va_up na51 16 (upd (na51 16) v54.toNatClampNeg z64)) 17 (upd ((va_up na51 16 (upd (na51 16) v54.toNatClampNeg z64)) 17) v54.toNatClampNeg a)) (va_up ma52 22 (upd (ma52 22) v54.toNatClampNeg rk)) wa cf ca ef ea xf xa) (ps' := [wdP cs h r g tf ta pf50 (va_up (va_up na51 16 (upd (na51 16) v54.toNatClampNeg z64)) 17 (upd ((va_up na51 16 (upd (na51 16) v54.toNatClampNeg z64)) 17) v54.toNatClampNeg a)) (va_up ma52 22 (upd (ma52 22) v54.toNatClampNeg rk)) wa cf ca ef ea xf xa]) sp_17 rfl (fun H locs hw => ?_)
                refine lv_aload_n S.x S.b d_Mpg_settle_195 rfl (lv_at hl 1 rfl) ?_
                refine px_get S k_Mpg hT hw 0 0 18 (v := .ref (r 18)) rfl rfl rfl (by decide) m10_3 d_Mpg_settle_196 ?_
                refine lv_iload S.x S.b d_Mpg_settle_199 (lv_at hl 0 rfl) ?_
                refine lv_iload_n S.x S.b d_Mpg_settle_201 rfl (lv_at hl 3 rfl) ?_
                refine px_iast S hT hw 0 14 (n := 2100) (f := ((va_up ma52 22 (upd (ma52 22) v54.toNatClampNeg rk)) 18)) (x := v54) (y := a) rfl gp_18 (vp_in_iff.mpr (by constructor <;> omega)) d_Mpg_settle_202 (w' := wdP cs h r g tf ta pf50 (va_up (va_up na51 16 (upd (na51 16) v54.toNatClampNeg z64)) 17 (upd ((va_up na51 16 (upd (na51 16) v54.toNatClampNeg z64)) 17) v54.toNatClampNeg a)) (va_up (va_up ma52 22 (upd (ma52 22) v54.toNatClampNeg rk)) 18 (upd ((va_up ma52 22 (upd (ma52 22) v54.toNatClampNeg rk)) 18) v54.toNatClampNeg a)) wa cf ca ef ea xf xa) (ps' := [wdP cs h r g tf ta pf50 (va_up (va_up na51 16 (upd (na51 16) v54.toNatClampNeg z64)) 17 (upd ((va_up na51 16 (upd (na51 16) v54.toNatClampNeg z64)) 17) v54.toNatClampNeg a)) (va_up (va_up ma52 22 (upd (ma52 22) v54.toNatClampNeg rk)) 18 (upd ((va_up ma52 22 (upd (ma52 22) v54.toNatClampNeg rk)) 18) v54.toNatClampNeg a)) wa cf ca ef ea xf xa]) sp_18 rfl (fun H locs hw => ?_)
                refine lv_aload_n S.x S.b d_Mpg_settle_203 rfl (lv_at hl 1 rfl) ?_
                refine px_get S k_Mpg hT hw 0 0 23 (v := .ref (r 23)) rfl rfl rfl (by decide) m10_11 d_Mpg_settle_204 ?_
                refine lv_iload S.x S.b d_Mpg_settle_207 (lv_at hl 0 rfl) ?_
                refine lv_iconst (v := 1) S.x S.b d_Mpg_settle_209 (by decide) ?_
                refine lv_aload_n S.x S.b d_Mpg_settle_210 rfl (lv_at hl 1 rfl) ?_
                refine px_get S k_Mpg hT hw 0 0 23 (v := .ref (r 23)) rfl rfl rfl (by decide) m10_11 d_Mpg_settle_211 ?_
                refine lv_iload_n S.x S.b d_Mpg_settle_214 rfl (lv_at hl 3 rfl) ?_
                refine px_iald S hT hw 0 19 (n := 2100) (f := ((va_up (va_up na51 16 (upd (na51 16) v54.toNatClampNeg z64)) 17 (upd ((va_up na51 16 (upd (na51 16) v54.toNatClampNeg z64)) 17) v54.toNatClampNeg a)) 23)) rfl gp_23 (x := a) (vp_in_iff.mpr (by constructor <;> omega)) d_Mpg_settle_215 ?_
                refine lv_topi (fun z65 ez65 => ?_)
                have lz65 := Int32.le_toInt z65
                have uz65 := Int32.toInt_lt z65
                have rz65 : z65.toInt = dp na51 a := by have q9 : z65.toInt = dp (va_up (va_up na51 16 (upd (na51 16) v54.toNatClampNeg z64)) 17 (upd ((va_up na51 16 (upd (na51 16) v54.toNatClampNeg z64)) 17) v54.toNatClampNeg a)) a := (by rw [ez65]; rfl); rw [dp_un (by decide), dp_un (by decide)] at q9; exact q9
                refine lv_iadd S.x S.b d_Mpg_settle_216 ?_
                refine lv_topi (fun z66 ez66 => ?_)
                have tz66 : z66.toInt = ((1 : Int) + z65.toInt + 2147483648) % 4294967296 - 2147483648 := by rw [ez66]; exact i_add 1 z65
                have lz66 := Int32.le_toInt z66
                have uz66 := Int32.toInt_lt z66
                try replace tz66 : z66.toInt = (1 : Int) + z65.toInt := by omega
                refine px_iast S hT hw 0 19 (n := 2100) (f := ((va_up (va_up na51 16 (upd (na51 16) v54.toNatClampNeg z64)) 17 (upd ((va_up na51 16 (upd (na51 16) v54.toNatClampNeg z64)) 17) v54.toNatClampNeg a)) 23)) (x := v54) (y := z66) rfl gp_23 (vp_in_iff.mpr (by constructor <;> omega)) d_Mpg_settle_217 (w' := wdP cs h r g tf ta pf50 (va_up (va_up (va_up na51 16 (upd (na51 16) v54.toNatClampNeg z64)) 17 (upd ((va_up na51 16 (upd (na51 16) v54.toNatClampNeg z64)) 17) v54.toNatClampNeg a)) 23 (upd ((va_up (va_up na51 16 (upd (na51 16) v54.toNatClampNeg z64)) 17 (upd ((va_up na51 16 (upd (na51 16) v54.toNatClampNeg z64)) 17) v54.toNatClampNeg a)) 23) v54.toNatClampNeg z66)) (va_up (va_up ma52 22 (upd (ma52 22) v54.toNatClampNeg rk)) 18 (upd ((va_up ma52 22 (upd (ma52 22) v54.toNatClampNeg rk)) 18) v54.toNatClampNeg a)) wa cf ca ef ea xf xa) (ps' := [wdP cs h r g tf ta pf50 (va_up (va_up (va_up na51 16 (upd (na51 16) v54.toNatClampNeg z64)) 17 (upd ((va_up na51 16 (upd (na51 16) v54.toNatClampNeg z64)) 17) v54.toNatClampNeg a)) 23 (upd ((va_up (va_up na51 16 (upd (na51 16) v54.toNatClampNeg z64)) 17 (upd ((va_up na51 16 (upd (na51 16) v54.toNatClampNeg z64)) 17) v54.toNatClampNeg a)) 23) v54.toNatClampNeg z66)) (va_up (va_up ma52 22 (upd (ma52 22) v54.toNatClampNeg rk)) 18 (upd ((va_up ma52 22 (upd (ma52 22) v54.toNatClampNeg rk)) 18) v54.toNatClampNeg a)) wa cf ca ef ea xf xa]) sp_23 rfl (fun H locs hw => ?_)
                refine lv_aload_n S.x S.b d_Mpg_settle_218 rfl (lv_at hl 1 rfl) ?_
                refine px_get S k_Mpg hT hw 0 0 23 (v := .ref (r 23)) rfl rfl rfl (by decide) m10_11 d_Mpg_settle_219 ?_
                refine lv_iload S.x S.b d_Mpg_settle_222 (lv_at hl 0 rfl) ?_
                refine lv_aload_n S.x S.b d_Mpg_settle_224 rfl (lv_at hl 1 rfl) ?_
                refine px_get S k_Mpg hT hw 0 0 23 (v := .ref (r 23)) rfl rfl rfl (by decide) m10_11 d_Mpg_settle_225 ?_
                refine lv_iload S.x S.b d_Mpg_settle_228 (lv_at hl 0 rfl) ?_
                refine px_iald S hT hw 0 19 (n := 2100) (f := ((va_up (va_up (va_up na51 16 (upd (na51 16) v54.toNatClampNeg z64)) 17 (upd ((va_up na51 16 (upd (na51 16) v54.toNatClampNeg z64)) 17) v54.toNatClampNeg a)) 23 (upd ((va_up (va_up na51 16 (upd (na51 16) v54.toNatClampNeg z64)) 17 (upd ((va_up na51 16 (upd (na51 16) v54.toNatClampNeg z64)) 17) v54.toNatClampNeg a)) 23) v54.toNatClampNeg z66)) 23)) rfl gp_23 (x := v54) (vp_in_iff.mpr (by constructor <;> omega)) d_Mpg_settle_230 ?_
                refine lv_topi (fun z67 ez67 => ?_)
                have lz67 := Int32.le_toInt z67
                have uz67 := Int32.toInt_lt z67
                have rz67 : z67.toInt = z66.toInt := by have q9 : z67.toInt = dp (va_up (va_up (va_up na51 16 (upd (na51 16) v54.toNatClampNeg z64)) 17 (upd ((va_up na51 16 (upd (na51 16) v54.toNatClampNeg z64)) 17) v54.toNatClampNeg a)) 23 (upd ((va_up (va_up na51 16 (upd (na51 16) v54.toNatClampNeg z64)) 17 (upd ((va_up na51 16 (upd (na51 16) v54.toNatClampNeg z64)) 17) v54.toNatClampNeg a)) 23) v54.toNatClampNeg z66)) v54 := (by rw [ez67]; rfl); rw [dp_us] at q9; exact q9
                refine lv_iconst (v := 1) S.x S.b d_Mpg_settle_231 (by decide) ?_
                refine lv_aload_n S.x S.b d_Mpg_settle_232 rfl (lv_at hl 1 rfl) ?_
                refine px_get S k_Mpg hT hw 0 0 23 (v := .ref (r 23)) rfl rfl rfl (by decide) m10_11 d_Mpg_settle_233 ?_
                refine lv_iload_n S.x S.b d_Mpg_settle_236 rfl (lv_at hl 2 rfl) ?_
                refine px_iald S hT hw 0 19 (n := 2100) (f := ((va_up (va_up (va_up na51 16 (upd (na51 16) v54.toNatClampNeg z64)) 17 (upd ((va_up na51 16 (upd (na51 16) v54.toNatClampNeg z64)) 17) v54.toNatClampNeg a)) 23 (upd ((va_up (va_up na51 16 (upd (na51 16) v54.toNatClampNeg z64)) 17 (upd ((va_up na51 16 (upd (na51 16) v54.toNatClampNeg z64)) 17) v54.toNatClampNeg a)) 23) v54.toNatClampNeg z66)) 23)) rfl gp_23 (x := p0) (vp_in_iff.mpr (by constructor <;> omega)) d_Mpg_settle_237 ?_
                refine lv_topi (fun z68 ez68 => ?_)
                have lz68 := Int32.le_toInt z68
                have uz68 := Int32.toInt_lt z68
                have rz68 : z68.toInt = dp na51 p0 := by have q9 : z68.toInt = dp (va_up (va_up (va_up na51 16 (upd (na51 16) v54.toNatClampNeg z64)) 17 (upd ((va_up na51 16 (upd (na51 16) v54.toNatClampNeg z64)) 17) v54.toNatClampNeg a)) 23 (upd ((va_up (va_up na51 16 (upd (na51 16) v54.toNatClampNeg z64)) 17 (upd ((va_up na51 16 (upd (na51 16) v54.toNatClampNeg z64)) 17) v54.toNatClampNeg a)) 23) v54.toNatClampNeg z66)) p0 := (by rw [ez68]; rfl); rw [dp_uf (by omega) (by omega) (by omega), dp_un (by decide), dp_un (by decide)] at q9; exact q9
                refine lv_iadd S.x S.b d_Mpg_settle_238 ?_
                refine lv_topi (fun z69 ez69 => ?_)
                have tz69 : z69.toInt = ((1 : Int) + z68.toInt + 2147483648) % 4294967296 - 2147483648 := by rw [ez69]; exact i_add 1 z68
                have lz69 := Int32.le_toInt z69
                have uz69 := Int32.toInt_lt z69
                try replace tz69 : z69.toInt = (1 : Int) + z68.toInt := by omega
                refine px_calli (pr := [wdP cs h r g tf ta pf50 (va_up (va_up (va_up na51 16 (upd (na51 16) v54.toNatClampNeg z64)) 17 (upd ((va_up na51 16 (upd (na51 16) v54.toNatClampNeg z64)) 17) v54.toNatClampNeg a)) 23 (upd ((va_up (va_up na51 16 (upd (na51 16) v54.toNatClampNeg z64)) 17 (upd ((va_up na51 16 (upd (na51 16) v54.toNatClampNeg z64)) 17) v54.toNatClampNeg a)) 23) v54.toNatClampNeg z66)) (va_up (va_up ma52 22 (upd (ma52 22) v54.toNatClampNeg rk)) 18 (upd ((va_up ma52 22 (upd (ma52 22) v54.toNatClampNeg rk)) 18) v54.toNatClampNeg a)) wa cf ca ef ea xf xa]) (px_runS (As := [.int z67, .int z69]) (rest := [.int v54, .ref (r 23)]) S (c_mp_deeper l D cs  z67 z69   _) hT (pr := [wdP cs h r g tf ta pf50 (va_up (va_up (va_up na51 16 (upd (na51 16) v54.toNatClampNeg z64)) 17 (upd ((va_up na51 16 (upd (na51 16) v54.toNatClampNeg z64)) 17) v54.toNatClampNeg a)) 23 (upd ((va_up (va_up na51 16 (upd (na51 16) v54.toNatClampNeg z64)) 17 (upd ((va_up na51 16 (upd (na51 16) v54.toNatClampNeg z64)) 17) v54.toNatClampNeg a)) 23) v54.toNatClampNeg z66)) (va_up (va_up ma52 22 (upd (ma52 22) v54.toNatClampNeg rk)) 18 (upd ((va_up ma52 22 (upd (ma52 22) v54.toNatClampNeg rk)) 18) v54.toNatClampNeg a)) wa cf ca ef ea xf xa]) (pcs := []) hw px_X.tt m12_49 m12_47 m12_48 m1_21 q_Mpg_deeper ⟨Nat.le_of_ble_eq_true rfl, Nat.le_of_ble_eq_true rfl⟩ hl.1 rfl (Nat.le_of_ble_eq_true rfl) d_Mpg_settle_239 ⟨Nat.le_of_ble_eq_true rfl, Nat.le_of_ble_eq_true rfl⟩) hw hA (fun v71 p70 H locs hp70 hw => ?_)
                obtain ⟨rfl, e72, e73, e74⟩ := hp70
                have e72 : z67.toInt ≤ v71.toInt := e72
                have e73 : z69.toInt ≤ v71.toInt := e73
                have e74 : v71.toInt = z67.toInt ∨ v71.toInt = z69.toInt := e74
                have hw : pw D A s.heap H locs [wdP cs h r g tf ta pf50 (va_up (va_up (va_up na51 16 (upd (na51 16) v54.toNatClampNeg z64)) 17 (upd ((va_up na51 16 (upd (na51 16) v54.toNatClampNeg z64)) 17) v54.toNatClampNeg a)) 23 (upd ((va_up (va_up na51 16 (upd (na51 16) v54.toNatClampNeg z64)) 17 (upd ((va_up na51 16 (upd (na51 16) v54.toNatClampNeg z64)) 17) v54.toNatClampNeg a)) 23) v54.toNatClampNeg z66)) (va_up (va_up ma52 22 (upd (ma52 22) v54.toNatClampNeg rk)) 18 (upd ((va_up ma52 22 (upd (ma52 22) v54.toNatClampNeg rk)) 18) v54.toNatClampNeg a)) wa cf ca ef ea xf xa] := hw
                have lv71 := Int32.le_toInt v71
                have uv71 := Int32.toInt_lt v71
                refine px_iast S hT hw 0 19 (n := 2100) (f := ((va_up (va_up (va_up na51 16 (upd (na51 16) v54.toNatClampNeg z64)) 17 (upd ((va_up na51 16 (upd (na51 16) v54.toNatClampNeg z64)) 17) v54.toNatClampNeg a)) 23 (upd ((va_up (va_up na51 16 (upd (na51 16) v54.toNatClampNeg z64)) 17 (upd ((va_up na51 16 (upd (na51 16) v54.toNatClampNeg z64)) 17) v54.toNatClampNeg a)) 23) v54.toNatClampNeg z66)) 23)) (x := v54) (y := v71) rfl gp_23 (vp_in_iff.mpr (by constructor <;> omega)) d_Mpg_settle_242 (w' := wdP cs h r g tf ta pf50 (va_up (va_up (va_up (va_up na51 16 (upd (na51 16) v54.toNatClampNeg z64)) 17 (upd ((va_up na51 16 (upd (na51 16) v54.toNatClampNeg z64)) 17) v54.toNatClampNeg a)) 23 (upd ((va_up (va_up na51 16 (upd (na51 16) v54.toNatClampNeg z64)) 17 (upd ((va_up na51 16 (upd (na51 16) v54.toNatClampNeg z64)) 17) v54.toNatClampNeg a)) 23) v54.toNatClampNeg z66)) 23 (upd ((va_up (va_up (va_up na51 16 (upd (na51 16) v54.toNatClampNeg z64)) 17 (upd ((va_up na51 16 (upd (na51 16) v54.toNatClampNeg z64)) 17) v54.toNatClampNeg a)) 23 (upd ((va_up (va_up na51 16 (upd (na51 16) v54.toNatClampNeg z64)) 17 (upd ((va_up na51 16 (upd (na51 16) v54.toNatClampNeg z64)) 17) v54.toNatClampNeg a)) 23) v54.toNatClampNeg z66)) 23) v54.toNatClampNeg v71)) (va_up (va_up ma52 22 (upd (ma52 22) v54.toNatClampNeg rk)) 18 (upd ((va_up ma52 22 (upd (ma52 22) v54.toNatClampNeg rk)) 18) v54.toNatClampNeg a)) wa cf ca ef ea xf xa) (ps' := [wdP cs h r g tf ta pf50 (va_up (va_up (va_up (va_up na51 16 (upd (na51 16) v54.toNatClampNeg z64)) 17 (upd ((va_up na51 16 (upd (na51 16) v54.toNatClampNeg z64)) 17) v54.toNatClampNeg a)) 23 (upd ((va_up (va_up na51 16 (upd (na51 16) v54.toNatClampNeg z64)) 17 (upd ((va_up na51 16 (upd (na51 16) v54.toNatClampNeg z64)) 17) v54.toNatClampNeg a)) 23) v54.toNatClampNeg z66)) 23 (upd ((va_up (va_up (va_up na51 16 (upd (na51 16) v54.toNatClampNeg z64)) 17 (upd ((va_up na51 16 (upd (na51 16) v54.toNatClampNeg z64)) 17) v54.toNatClampNeg a)) 23 (upd ((va_up (va_up na51 16 (upd (na51 16) v54.toNatClampNeg z64)) 17 (upd ((va_up na51 16 (upd (na51 16) v54.toNatClampNeg z64)) 17) v54.toNatClampNeg a)) 23) v54.toNatClampNeg z66)) 23) v54.toNatClampNeg v71)) (va_up (va_up ma52 22 (upd (ma52 22) v54.toNatClampNeg rk)) 18 (upd ((va_up ma52 22 (upd (ma52 22) v54.toNatClampNeg rk)) 18) v54.toNatClampNeg a)) wa cf ca ef ea xf xa]) sp_23 rfl (fun H locs hw => ?_)
                refine lv_aload_n S.x S.b d_Mpg_settle_243 rfl (lv_at hl 1 rfl) ?_
                refine px_get S k_Mpg hT hw 0 0 21 (v := .ref (r 21)) rfl rfl rfl (by decide) m10_7 d_Mpg_settle_244 ?_
                refine lv_aload_n S.x S.b d_Mpg_settle_247 rfl (lv_at hl 1 rfl) ?_
                refine px_get S k_Mpg hT hw 0 0 18 (v := .ref (r 18)) rfl rfl rfl (by decide) m10_3 d_Mpg_settle_248 ?_
                refine lv_iload S.x S.b d_Mpg_settle_251 (lv_at hl 0 rfl) ?_
                refine px_iald S hT hw 0 14 (n := 2100) (f := ((va_up (va_up ma52 22 (upd (ma52 22) v54.toNatClampNeg rk)) 18 (upd ((va_up ma52 22 (upd (ma52 22) v54.toNatClampNeg rk)) 18) v54.toNatClampNeg a)) 18)) rfl gp_18 (x := v54) (vp_in_iff.mpr (by constructor <;> omega)) d_Mpg_settle_253 ?_
                refine lv_topi (fun z75 ez75 => ?_)
                have lz75 := Int32.le_toInt z75
                have uz75 := Int32.toInt_lt z75
                have hsz75 : a = z75 := (by rw [ez75, va_up_s, pk_us]); subst hsz75
                refine lv_iload_n S.x S.b d_Mpg_settle_254 rfl (lv_at hl 2 rfl) ?_
                refine px_iast S hT hw 0 17 (n := 2100) (f := ((va_up (va_up (va_up (va_up na51 16 (upd (na51 16) v54.toNatClampNeg z64)) 17 (upd ((va_up na51 16 (upd (na51 16) v54.toNatClampNeg z64)) 17) v54.toNatClampNeg a)) 23 (upd ((va_up (va_up na51 16 (upd (na51 16) v54.toNatClampNeg z64)) 17 (upd ((va_up na51 16 (upd (na51 16) v54.toNatClampNeg z64)) 17) v54.toNatClampNeg a)) 23) v54.toNatClampNeg z66)) 23 (upd ((va_up (va_up (va_up na51 16 (upd (na51 16) v54.toNatClampNeg z64)) 17 (upd ((va_up na51 16 (upd (na51 16) v54.toNatClampNeg z64)) 17) v54.toNatClampNeg a)) 23 (upd ((va_up (va_up na51 16 (upd (na51 16) v54.toNatClampNeg z64)) 17 (upd ((va_up na51 16 (upd (na51 16) v54.toNatClampNeg z64)) 17) v54.toNatClampNeg a)) 23) v54.toNatClampNeg z66)) 23) v54.toNatClampNeg v71)) 21)) (x := a) (y := p0) rfl gp_21 (vp_in_iff.mpr (by constructor <;> omega)) d_Mpg_settle_255 (w' := wdP cs h r g tf ta pf50 (va_up (va_up (va_up (va_up (va_up na51 16 (upd (na51 16) v54.toNatClampNeg z64)) 17 (upd ((va_up na51 16 (upd (na51 16) v54.toNatClampNeg z64)) 17) v54.toNatClampNeg a)) 23 (upd ((va_up (va_up na51 16 (upd (na51 16) v54.toNatClampNeg z64)) 17 (upd ((va_up na51 16 (upd (na51 16) v54.toNatClampNeg z64)) 17) v54.toNatClampNeg a)) 23) v54.toNatClampNeg z66)) 23 (upd ((va_up (va_up (va_up na51 16 (upd (na51 16) v54.toNatClampNeg z64)) 17 (upd ((va_up na51 16 (upd (na51 16) v54.toNatClampNeg z64)) 17) v54.toNatClampNeg a)) 23 (upd ((va_up (va_up na51 16 (upd (na51 16) v54.toNatClampNeg z64)) 17 (upd ((va_up na51 16 (upd (na51 16) v54.toNatClampNeg z64)) 17) v54.toNatClampNeg a)) 23) v54.toNatClampNeg z66)) 23) v54.toNatClampNeg v71)) 21 (upd ((va_up (va_up (va_up (va_up na51 16 (upd (na51 16) v54.toNatClampNeg z64)) 17 (upd ((va_up na51 16 (upd (na51 16) v54.toNatClampNeg z64)) 17) v54.toNatClampNeg a)) 23 (upd ((va_up (va_up na51 16 (upd (na51 16) v54.toNatClampNeg z64)) 17 (upd ((va_up na51 16 (upd (na51 16) v54.toNatClampNeg z64)) 17) v54.toNatClampNeg a)) 23) v54.toNatClampNeg z66)) 23 (upd ((va_up (va_up (va_up na51 16 (upd (na51 16) v54.toNatClampNeg z64)) 17 (upd ((va_up na51 16 (upd (na51 16) v54.toNatClampNeg z64)) 17) v54.toNatClampNeg a)) 23 (upd ((va_up (va_up na51 16 (upd (na51 16) v54.toNatClampNeg z64)) 17 (upd ((va_up na51 16 (upd (na51 16) v54.toNatClampNeg z64)) 17) v54.toNatClampNeg a)) 23) v54.toNatClampNeg z66)) 23) v54.toNatClampNeg v71)) 21) a.toNatClampNeg p0)) (va_up (va_up ma52 22 (upd (ma52 22) v54.toNatClampNeg rk)) 18 (upd ((va_up ma52 22 (upd (ma52 22) v54.toNatClampNeg rk)) 18) v54.toNatClampNeg a)) wa cf ca ef ea xf xa) (ps' := [wdP cs h r g tf ta pf50 (va_up (va_up (va_up (va_up (va_up na51 16 (upd (na51 16) v54.toNatClampNeg z64)) 17 (upd ((va_up na51 16 (upd (na51 16) v54.toNatClampNeg z64)) 17) v54.toNatClampNeg a)) 23 (upd ((va_up (va_up na51 16 (upd (na51 16) v54.toNatClampNeg z64)) 17 (upd ((va_up na51 16 (upd (na51 16) v54.toNatClampNeg z64)) 17) v54.toNatClampNeg a)) 23) v54.toNatClampNeg z66)) 23 (upd ((va_up (va_up (va_up na51 16 (upd (na51 16) v54.toNatClampNeg z64)) 17 (upd ((va_up na51 16 (upd (na51 16) v54.toNatClampNeg z64)) 17) v54.toNatClampNeg a)) 23 (upd ((va_up (va_up na51 16 (upd (na51 16) v54.toNatClampNeg z64)) 17 (upd ((va_up na51 16 (upd (na51 16) v54.toNatClampNeg z64)) 17) v54.toNatClampNeg a)) 23) v54.toNatClampNeg z66)) 23) v54.toNatClampNeg v71)) 21 (upd ((va_up (va_up (va_up (va_up na51 16 (upd (na51 16) v54.toNatClampNeg z64)) 17 (upd ((va_up na51 16 (upd (na51 16) v54.toNatClampNeg z64)) 17) v54.toNatClampNeg a)) 23 (upd ((va_up (va_up na51 16 (upd (na51 16) v54.toNatClampNeg z64)) 17 (upd ((va_up na51 16 (upd (na51 16) v54.toNatClampNeg z64)) 17) v54.toNatClampNeg a)) 23) v54.toNatClampNeg z66)) 23 (upd ((va_up (va_up (va_up na51 16 (upd (na51 16) v54.toNatClampNeg z64)) 17 (upd ((va_up na51 16 (upd (na51 16) v54.toNatClampNeg z64)) 17) v54.toNatClampNeg a)) 23 (upd ((va_up (va_up na51 16 (upd (na51 16) v54.toNatClampNeg z64)) 17 (upd ((va_up na51 16 (upd (na51 16) v54.toNatClampNeg z64)) 17) v54.toNatClampNeg a)) 23) v54.toNatClampNeg z66)) 23) v54.toNatClampNeg v71)) 21) a.toNatClampNeg p0)) (va_up (va_up ma52 22 (upd (ma52 22) v54.toNatClampNeg rk)) 18 (upd ((va_up ma52 22 (upd (ma52 22) v54.toNatClampNeg rk)) 18) v54.toNatClampNeg a)) wa cf ca ef ea xf xa]) sp_21 rfl (fun H locs hw => ?_)
                refine lv_aload_n S.x S.b d_Mpg_settle_256 rfl (lv_at hl 1 rfl) ?_
                refine px_get S k_Mpg hT hw 0 0 18 (v := .ref (r 18)) rfl rfl rfl (by decide) m10_3 d_Mpg_settle_257 ?_
                refine lv_iload S.x S.b d_Mpg_settle_260 (lv_at hl 0 rfl) ?_
                refine lv_iload_n S.x S.b d_Mpg_settle_262 rfl (lv_at hl 2 rfl) ?_
                refine px_iast S hT hw 0 14 (n := 2100) (f := ((va_up (va_up ma52 22 (upd (ma52 22) v54.toNatClampNeg rk)) 18 (upd ((va_up ma52 22 (upd (ma52 22) v54.toNatClampNeg rk)) 18) v54.toNatClampNeg a)) 18)) (x := v54) (y := p0) rfl gp_18 (vp_in_iff.mpr (by constructor <;> omega)) d_Mpg_settle_263 (w' := wdP cs h r g tf ta pf50 (va_up (va_up (va_up (va_up (va_up na51 16 (upd (na51 16) v54.toNatClampNeg z64)) 17 (upd ((va_up na51 16 (upd (na51 16) v54.toNatClampNeg z64)) 17) v54.toNatClampNeg a)) 23 (upd ((va_up (va_up na51 16 (upd (na51 16) v54.toNatClampNeg z64)) 17 (upd ((va_up na51 16 (upd (na51 16) v54.toNatClampNeg z64)) 17) v54.toNatClampNeg a)) 23) v54.toNatClampNeg z66)) 23 (upd ((va_up (va_up (va_up na51 16 (upd (na51 16) v54.toNatClampNeg z64)) 17 (upd ((va_up na51 16 (upd (na51 16) v54.toNatClampNeg z64)) 17) v54.toNatClampNeg a)) 23 (upd ((va_up (va_up na51 16 (upd (na51 16) v54.toNatClampNeg z64)) 17 (upd ((va_up na51 16 (upd (na51 16) v54.toNatClampNeg z64)) 17) v54.toNatClampNeg a)) 23) v54.toNatClampNeg z66)) 23) v54.toNatClampNeg v71)) 21 (upd ((va_up (va_up (va_up (va_up na51 16 (upd (na51 16) v54.toNatClampNeg z64)) 17 (upd ((va_up na51 16 (upd (na51 16) v54.toNatClampNeg z64)) 17) v54.toNatClampNeg a)) 23 (upd ((va_up (va_up na51 16 (upd (na51 16) v54.toNatClampNeg z64)) 17 (upd ((va_up na51 16 (upd (na51 16) v54.toNatClampNeg z64)) 17) v54.toNatClampNeg a)) 23) v54.toNatClampNeg z66)) 23 (upd ((va_up (va_up (va_up na51 16 (upd (na51 16) v54.toNatClampNeg z64)) 17 (upd ((va_up na51 16 (upd (na51 16) v54.toNatClampNeg z64)) 17) v54.toNatClampNeg a)) 23 (upd ((va_up (va_up na51 16 (upd (na51 16) v54.toNatClampNeg z64)) 17 (upd ((va_up na51 16 (upd (na51 16) v54.toNatClampNeg z64)) 17) v54.toNatClampNeg a)) 23) v54.toNatClampNeg z66)) 23) v54.toNatClampNeg v71)) 21) a.toNatClampNeg p0)) (va_up (va_up (va_up ma52 22 (upd (ma52 22) v54.toNatClampNeg rk)) 18 (upd ((va_up ma52 22 (upd (ma52 22) v54.toNatClampNeg rk)) 18) v54.toNatClampNeg a)) 18 (upd ((va_up (va_up ma52 22 (upd (ma52 22) v54.toNatClampNeg rk)) 18 (upd ((va_up ma52 22 (upd (ma52 22) v54.toNatClampNeg rk)) 18) v54.toNatClampNeg a)) 18) v54.toNatClampNeg p0)) wa cf ca ef ea xf xa) (ps' := [wdP cs h r g tf ta pf50 (va_up (va_up (va_up (va_up (va_up na51 16 (upd (na51 16) v54.toNatClampNeg z64)) 17 (upd ((va_up na51 16 (upd (na51 16) v54.toNatClampNeg z64)) 17) v54.toNatClampNeg a)) 23 (upd ((va_up (va_up na51 16 (upd (na51 16) v54.toNatClampNeg z64)) 17 (upd ((va_up na51 16 (upd (na51 16) v54.toNatClampNeg z64)) 17) v54.toNatClampNeg a)) 23) v54.toNatClampNeg z66)) 23 (upd ((va_up (va_up (va_up na51 16 (upd (na51 16) v54.toNatClampNeg z64)) 17 (upd ((va_up na51 16 (upd (na51 16) v54.toNatClampNeg z64)) 17) v54.toNatClampNeg a)) 23 (upd ((va_up (va_up na51 16 (upd (na51 16) v54.toNatClampNeg z64)) 17 (upd ((va_up na51 16 (upd (na51 16) v54.toNatClampNeg z64)) 17) v54.toNatClampNeg a)) 23) v54.toNatClampNeg z66)) 23) v54.toNatClampNeg v71)) 21 (upd ((va_up (va_up (va_up (va_up na51 16 (upd (na51 16) v54.toNatClampNeg z64)) 17 (upd ((va_up na51 16 (upd (na51 16) v54.toNatClampNeg z64)) 17) v54.toNatClampNeg a)) 23 (upd ((va_up (va_up na51 16 (upd (na51 16) v54.toNatClampNeg z64)) 17 (upd ((va_up na51 16 (upd (na51 16) v54.toNatClampNeg z64)) 17) v54.toNatClampNeg a)) 23) v54.toNatClampNeg z66)) 23 (upd ((va_up (va_up (va_up na51 16 (upd (na51 16) v54.toNatClampNeg z64)) 17 (upd ((va_up na51 16 (upd (na51 16) v54.toNatClampNeg z64)) 17) v54.toNatClampNeg a)) 23 (upd ((va_up (va_up na51 16 (upd (na51 16) v54.toNatClampNeg z64)) 17 (upd ((va_up na51 16 (upd (na51 16) v54.toNatClampNeg z64)) 17) v54.toNatClampNeg a)) 23) v54.toNatClampNeg z66)) 23) v54.toNatClampNeg v71)) 21) a.toNatClampNeg p0)) (va_up (va_up (va_up ma52 22 (upd (ma52 22) v54.toNatClampNeg rk)) 18 (upd ((va_up ma52 22 (upd (ma52 22) v54.toNatClampNeg rk)) 18) v54.toNatClampNeg a)) 18 (upd ((va_up (va_up ma52 22 (upd (ma52 22) v54.toNatClampNeg rk)) 18 (upd ((va_up ma52 22 (upd (ma52 22) v54.toNatClampNeg rk)) 18) v54.toNatClampNeg a)) 18) v54.toNatClampNeg p0)) wa cf ca ef ea xf xa]) sp_18 rfl (fun H locs hw => ?_)
                refine lv_aload_n S.x S.b d_Mpg_settle_264 rfl (lv_at hl 1 rfl) ?_
                refine px_get S k_Mpg hT hw 0 0 20 (v := .ref (r 20)) rfl rfl rfl (by decide) m10_6 d_Mpg_settle_265 ?_
                refine lv_iload_n S.x S.b d_Mpg_settle_268 rfl (lv_at hl 2 rfl) ?_
                refine lv_aload_n S.x S.b d_Mpg_settle_269 rfl (lv_at hl 1 rfl) ?_
                refine px_get S k_Mpg hT hw 0 0 28 (v := .ref (r 28)) rfl rfl rfl (by decide) m10_16 d_Mpg_settle_270 ?_
                refine lv_aload_n S.x S.b d_Mpg_settle_273 rfl (lv_at hl 1 rfl) ?_
                refine px_get S k_Mpg hT hw 0 0 26 (v := .int (pf50 26)) rfl rfl rfl (by decide) m10_14 d_Mpg_settle_274 ?_
                refine px_iald S hT hw 0 21 (n := 700) (f := (wa 28)) rfl gp_28 (x := (pf50 26)) (vp_in_iff.mpr (by constructor <;> omega)) d_Mpg_settle_277 ?_
                refine lv_topi (fun z76 ez76 => ?_)
                have lz76 := Int32.le_toInt z76
                have uz76 := Int32.toInt_lt z76
                have hwi : (pf50 26).toNatClampNeg = ((pf 26).toInt - 1).toNat := (by have hq9 := cl_nat (x := (pf50 26)) (by omega); omega); have hsz76 : tk = z76 := (by rw [ez76, hwi]; exact hTop.2.2.symm); subst hsz76
                refine px_iast S hT hw 0 16 (n := 2100) (f := ((va_up (va_up (va_up ma52 22 (upd (ma52 22) v54.toNatClampNeg rk)) 18 (upd ((va_up ma52 22 (upd (ma52 22) v54.toNatClampNeg rk)) 18) v54.toNatClampNeg a)) 18 (upd ((va_up (va_up ma52 22 (upd (ma52 22) v54.toNatClampNeg rk)) 18 (upd ((va_up ma52 22 (upd (ma52 22) v54.toNatClampNeg rk)) 18) v54.toNatClampNeg a)) 18) v54.toNatClampNeg p0)) 20)) (x := p0) (y := tk) rfl gp_20 (vp_in_iff.mpr (by constructor <;> omega)) d_Mpg_settle_278 (w' := wdP cs h r g tf ta pf50 (va_up (va_up (va_up (va_up (va_up na51 16 (upd (na51 16) v54.toNatClampNeg z64)) 17 (upd ((va_up na51 16 (upd (na51 16) v54.toNatClampNeg z64)) 17) v54.toNatClampNeg a)) 23 (upd ((va_up (va_up na51 16 (upd (na51 16) v54.toNatClampNeg z64)) 17 (upd ((va_up na51 16 (upd (na51 16) v54.toNatClampNeg z64)) 17) v54.toNatClampNeg a)) 23) v54.toNatClampNeg z66)) 23 (upd ((va_up (va_up (va_up na51 16 (upd (na51 16) v54.toNatClampNeg z64)) 17 (upd ((va_up na51 16 (upd (na51 16) v54.toNatClampNeg z64)) 17) v54.toNatClampNeg a)) 23 (upd ((va_up (va_up na51 16 (upd (na51 16) v54.toNatClampNeg z64)) 17 (upd ((va_up na51 16 (upd (na51 16) v54.toNatClampNeg z64)) 17) v54.toNatClampNeg a)) 23) v54.toNatClampNeg z66)) 23) v54.toNatClampNeg v71)) 21 (upd ((va_up (va_up (va_up (va_up na51 16 (upd (na51 16) v54.toNatClampNeg z64)) 17 (upd ((va_up na51 16 (upd (na51 16) v54.toNatClampNeg z64)) 17) v54.toNatClampNeg a)) 23 (upd ((va_up (va_up na51 16 (upd (na51 16) v54.toNatClampNeg z64)) 17 (upd ((va_up na51 16 (upd (na51 16) v54.toNatClampNeg z64)) 17) v54.toNatClampNeg a)) 23) v54.toNatClampNeg z66)) 23 (upd ((va_up (va_up (va_up na51 16 (upd (na51 16) v54.toNatClampNeg z64)) 17 (upd ((va_up na51 16 (upd (na51 16) v54.toNatClampNeg z64)) 17) v54.toNatClampNeg a)) 23 (upd ((va_up (va_up na51 16 (upd (na51 16) v54.toNatClampNeg z64)) 17 (upd ((va_up na51 16 (upd (na51 16) v54.toNatClampNeg z64)) 17) v54.toNatClampNeg a)) 23) v54.toNatClampNeg z66)) 23) v54.toNatClampNeg v71)) 21) a.toNatClampNeg p0)) (va_up (va_up (va_up (va_up ma52 22 (upd (ma52 22) v54.toNatClampNeg rk)) 18 (upd ((va_up ma52 22 (upd (ma52 22) v54.toNatClampNeg rk)) 18) v54.toNatClampNeg a)) 18 (upd ((va_up (va_up ma52 22 (upd (ma52 22) v54.toNatClampNeg rk)) 18 (upd ((va_up ma52 22 (upd (ma52 22) v54.toNatClampNeg rk)) 18) v54.toNatClampNeg a)) 18) v54.toNatClampNeg p0)) 20 (upd ((va_up (va_up (va_up ma52 22 (upd (ma52 22) v54.toNatClampNeg rk)) 18 (upd ((va_up ma52 22 (upd (ma52 22) v54.toNatClampNeg rk)) 18) v54.toNatClampNeg a)) 18 (upd ((va_up (va_up ma52 22 (upd (ma52 22) v54.toNatClampNeg rk)) 18 (upd ((va_up ma52 22 (upd (ma52 22) v54.toNatClampNeg rk)) 18) v54.toNatClampNeg a)) 18) v54.toNatClampNeg p0)) 20) p0.toNatClampNeg tk)) wa cf ca ef ea xf xa) (ps' := [wdP cs h r g tf ta pf50 (va_up (va_up (va_up (va_up (va_up na51 16 (upd (na51 16) v54.toNatClampNeg z64)) 17 (upd ((va_up na51 16 (upd (na51 16) v54.toNatClampNeg z64)) 17) v54.toNatClampNeg a)) 23 (upd ((va_up (va_up na51 16 (upd (na51 16) v54.toNatClampNeg z64)) 17 (upd ((va_up na51 16 (upd (na51 16) v54.toNatClampNeg z64)) 17) v54.toNatClampNeg a)) 23) v54.toNatClampNeg z66)) 23 (upd ((va_up (va_up (va_up na51 16 (upd (na51 16) v54.toNatClampNeg z64)) 17 (upd ((va_up na51 16 (upd (na51 16) v54.toNatClampNeg z64)) 17) v54.toNatClampNeg a)) 23 (upd ((va_up (va_up na51 16 (upd (na51 16) v54.toNatClampNeg z64)) 17 (upd ((va_up na51 16 (upd (na51 16) v54.toNatClampNeg z64)) 17) v54.toNatClampNeg a)) 23) v54.toNatClampNeg z66)) 23) v54.toNatClampNeg v71)) 21 (upd ((va_up (va_up (va_up (va_up na51 16 (upd (na51 16) v54.toNatClampNeg z64)) 17 (upd ((va_up na51 16 (upd (na51 16) v54.toNatClampNeg z64)) 17) v54.toNatClampNeg a)) 23 (upd ((va_up (va_up na51 16 (upd (na51 16) v54.toNatClampNeg z64)) 17 (upd ((va_up na51 16 (upd (na51 16) v54.toNatClampNeg z64)) 17) v54.toNatClampNeg a)) 23) v54.toNatClampNeg z66)) 23 (upd ((va_up (va_up (va_up na51 16 (upd (na51 16) v54.toNatClampNeg z64)) 17 (upd ((va_up na51 16 (upd (na51 16) v54.toNatClampNeg z64)) 17) v54.toNatClampNeg a)) 23 (upd ((va_up (va_up na51 16 (upd (na51 16) v54.toNatClampNeg z64)) 17 (upd ((va_up na51 16 (upd (na51 16) v54.toNatClampNeg z64)) 17) v54.toNatClampNeg a)) 23) v54.toNatClampNeg z66)) 23) v54.toNatClampNeg v71)) 21) a.toNatClampNeg p0)) (va_up (va_up (va_up (va_up ma52 22 (upd (ma52 22) v54.toNatClampNeg rk)) 18 (upd ((va_up ma52 22 (upd (ma52 22) v54.toNatClampNeg rk)) 18) v54.toNatClampNeg a)) 18 (upd ((va_up (va_up ma52 22 (upd (ma52 22) v54.toNatClampNeg rk)) 18 (upd ((va_up ma52 22 (upd (ma52 22) v54.toNatClampNeg rk)) 18) v54.toNatClampNeg a)) 18) v54.toNatClampNeg p0)) 20 (upd ((va_up (va_up (va_up ma52 22 (upd (ma52 22) v54.toNatClampNeg rk)) 18 (upd ((va_up ma52 22 (upd (ma52 22) v54.toNatClampNeg rk)) 18) v54.toNatClampNeg a)) 18 (upd ((va_up (va_up ma52 22 (upd (ma52 22) v54.toNatClampNeg rk)) 18 (upd ((va_up ma52 22 (upd (ma52 22) v54.toNatClampNeg rk)) 18) v54.toNatClampNeg a)) 18) v54.toNatClampNeg p0)) 20) p0.toNatClampNeg tk)) wa cf ca ef ea xf xa]) sp_20 rfl (fun H locs hw => ?_)
                refine lv_iload S.x S.b d_Mpg_settle_279 (lv_at hl 0 rfl) ?_
                exact px_iret (v := v54) S hr rfl hlk hAe hw (Nat.le_of_ble_eq_true rfl) (Nat.le_of_ble_eq_true rfl) (⟨pf50, (va_up (va_up (va_up (va_up (va_up na51 16 (upd (na51 16) v54.toNatClampNeg z64)) 17 (upd ((va_up na51 16 (upd (na51 16) v54.toNatClampNeg z64)) 17) v54.toNatClampNeg a)) 23 (upd ((va_up (va_up na51 16 (upd (na51 16) v54.toNatClampNeg z64)) 17 (upd ((va_up na51 16 (upd (na51 16) v54.toNatClampNeg z64)) 17) v54.toNatClampNeg a)) 23) v54.toNatClampNeg z66)) 23 (upd ((va_up (va_up (va_up na51 16 (upd (na51 16) v54.toNatClampNeg z64)) 17 (upd ((va_up na51 16 (upd (na51 16) v54.toNatClampNeg z64)) 17) v54.toNatClampNeg a)) 23 (upd ((va_up (va_up na51 16 (upd (na51 16) v54.toNatClampNeg z64)) 17 (upd ((va_up na51 16 (upd (na51 16) v54.toNatClampNeg z64)) 17) v54.toNatClampNeg a)) 23) v54.toNatClampNeg z66)) 23) v54.toNatClampNeg v71)) 21 (upd ((va_up (va_up (va_up (va_up na51 16 (upd (na51 16) v54.toNatClampNeg z64)) 17 (upd ((va_up na51 16 (upd (na51 16) v54.toNatClampNeg z64)) 17) v54.toNatClampNeg a)) 23 (upd ((va_up (va_up na51 16 (upd (na51 16) v54.toNatClampNeg z64)) 17 (upd ((va_up na51 16 (upd (na51 16) v54.toNatClampNeg z64)) 17) v54.toNatClampNeg a)) 23) v54.toNatClampNeg z66)) 23 (upd ((va_up (va_up (va_up na51 16 (upd (na51 16) v54.toNatClampNeg z64)) 17 (upd ((va_up na51 16 (upd (na51 16) v54.toNatClampNeg z64)) 17) v54.toNatClampNeg a)) 23 (upd ((va_up (va_up na51 16 (upd (na51 16) v54.toNatClampNeg z64)) 17 (upd ((va_up na51 16 (upd (na51 16) v54.toNatClampNeg z64)) 17) v54.toNatClampNeg a)) 23) v54.toNatClampNeg z66)) 23) v54.toNatClampNeg v71)) 21) a.toNatClampNeg p0)), (va_up (va_up (va_up (va_up ma52 22 (upd (ma52 22) v54.toNatClampNeg rk)) 18 (upd ((va_up ma52 22 (upd (ma52 22) v54.toNatClampNeg rk)) 18) v54.toNatClampNeg a)) 18 (upd ((va_up (va_up ma52 22 (upd (ma52 22) v54.toNatClampNeg rk)) 18 (upd ((va_up ma52 22 (upd (ma52 22) v54.toNatClampNeg rk)) 18) v54.toNatClampNeg a)) 18) v54.toNatClampNeg p0)) 20 (upd ((va_up (va_up (va_up ma52 22 (upd (ma52 22) v54.toNatClampNeg rk)) 18 (upd ((va_up ma52 22 (upd (ma52 22) v54.toNatClampNeg rk)) 18) v54.toNatClampNeg a)) 18 (upd ((va_up (va_up ma52 22 (upd (ma52 22) v54.toNatClampNeg rk)) 18 (upd ((va_up ma52 22 (upd (ma52 22) v54.toNatClampNeg rk)) 18) v54.toNatClampNeg a)) 18) v54.toNatClampNeg p0)) 20) p0.toNatClampNeg tk)), rfl, (show (pf50 26).toInt = (pf 26).toInt - 1 from by omega), (show (pf50 12).toInt = (pf 12).toInt - 1 from by omega), (show (pf 13).toInt ≤ (pf50 13).toInt from by omega), (show (pf50 13).toInt ≤ (pf 13).toInt + 1 from by omega), (show (pf50 11).toInt = (pf 11).toInt from by omega), (show (pf50 24).toInt = (pf 24).toInt from by omega), (show (pf50 25).toInt = (pf 25).toInt from by omega), (show FrB lo na ma (va_up (va_up (va_up (va_up (va_up na51 16 (upd (na51 16) v54.toNatClampNeg z64)) 17 (upd ((va_up na51 16 (upd (na51 16) v54.toNatClampNeg z64)) 17) v54.toNatClampNeg a)) 23 (upd ((va_up (va_up na51 16 (upd (na51 16) v54.toNatClampNeg z64)) 17 (upd ((va_up na51 16 (upd (na51 16) v54.toNatClampNeg z64)) 17) v54.toNatClampNeg a)) 23) v54.toNatClampNeg z66)) 23 (upd ((va_up (va_up (va_up na51 16 (upd (na51 16) v54.toNatClampNeg z64)) 17 (upd ((va_up na51 16 (upd (na51 16) v54.toNatClampNeg z64)) 17) v54.toNatClampNeg a)) 23 (upd ((va_up (va_up na51 16 (upd (na51 16) v54.toNatClampNeg z64)) 17 (upd ((va_up na51 16 (upd (na51 16) v54.toNatClampNeg z64)) 17) v54.toNatClampNeg a)) 23) v54.toNatClampNeg z66)) 23) v54.toNatClampNeg v71)) 21 (upd ((va_up (va_up (va_up (va_up na51 16 (upd (na51 16) v54.toNatClampNeg z64)) 17 (upd ((va_up na51 16 (upd (na51 16) v54.toNatClampNeg z64)) 17) v54.toNatClampNeg a)) 23 (upd ((va_up (va_up na51 16 (upd (na51 16) v54.toNatClampNeg z64)) 17 (upd ((va_up na51 16 (upd (na51 16) v54.toNatClampNeg z64)) 17) v54.toNatClampNeg a)) 23) v54.toNatClampNeg z66)) 23 (upd ((va_up (va_up (va_up na51 16 (upd (na51 16) v54.toNatClampNeg z64)) 17 (upd ((va_up na51 16 (upd (na51 16) v54.toNatClampNeg z64)) 17) v54.toNatClampNeg a)) 23 (upd ((va_up (va_up na51 16 (upd (na51 16) v54.toNatClampNeg z64)) 17 (upd ((va_up na51 16 (upd (na51 16) v54.toNatClampNeg z64)) 17) v54.toNatClampNeg a)) 23) v54.toNatClampNeg z66)) 23) v54.toNatClampNeg v71)) 21) a.toNatClampNeg p0)) (va_up (va_up (va_up (va_up ma52 22 (upd (ma52 22) v54.toNatClampNeg rk)) 18 (upd ((va_up ma52 22 (upd (ma52 22) v54.toNatClampNeg rk)) 18) v54.toNatClampNeg a)) 18 (upd ((va_up (va_up ma52 22 (upd (ma52 22) v54.toNatClampNeg rk)) 18 (upd ((va_up ma52 22 (upd (ma52 22) v54.toNatClampNeg rk)) 18) v54.toNatClampNeg a)) 18) v54.toNatClampNeg p0)) 20 (upd ((va_up (va_up (va_up ma52 22 (upd (ma52 22) v54.toNatClampNeg rk)) 18 (upd ((va_up ma52 22 (upd (ma52 22) v54.toNatClampNeg rk)) 18) v54.toNatClampNeg a)) 18 (upd ((va_up (va_up ma52 22 (upd (ma52 22) v54.toNatClampNeg rk)) 18 (upd ((va_up ma52 22 (upd (ma52 22) v54.toNatClampNeg rk)) 18) v54.toNatClampNeg a)) 18) v54.toNatClampNeg p0)) 20) p0.toNatClampNeg tk)) from (FrB.um (FrB.um (FrB.un (FrB.un (FrB.un (FrB.um (FrB.un (FrB.um (FrB.un hfb (by omega) (by omega)) (by omega) (by omega)) (by omega) (by omega)) (by omega) (by omega)) (by omega) (by omega)) (by omega) (by omega)) (by omega) (by omega)) (by omega) (by omega)) (by omega) (by omega))), (show ExR ta (tf 6).toInt (va_up (va_up (va_up (va_up (va_up na51 16 (upd (na51 16) v54.toNatClampNeg z64)) 17 (upd ((va_up na51 16 (upd (na51 16) v54.toNatClampNeg z64)) 17) v54.toNatClampNeg a)) 23 (upd ((va_up (va_up na51 16 (upd (na51 16) v54.toNatClampNeg z64)) 17 (upd ((va_up na51 16 (upd (na51 16) v54.toNatClampNeg z64)) 17) v54.toNatClampNeg a)) 23) v54.toNatClampNeg z66)) 23 (upd ((va_up (va_up (va_up na51 16 (upd (na51 16) v54.toNatClampNeg z64)) 17 (upd ((va_up na51 16 (upd (na51 16) v54.toNatClampNeg z64)) 17) v54.toNatClampNeg a)) 23 (upd ((va_up (va_up na51 16 (upd (na51 16) v54.toNatClampNeg z64)) 17 (upd ((va_up na51 16 (upd (na51 16) v54.toNatClampNeg z64)) 17) v54.toNatClampNeg a)) 23) v54.toNatClampNeg z66)) 23) v54.toNatClampNeg v71)) 21 (upd ((va_up (va_up (va_up (va_up na51 16 (upd (na51 16) v54.toNatClampNeg z64)) 17 (upd ((va_up na51 16 (upd (na51 16) v54.toNatClampNeg z64)) 17) v54.toNatClampNeg a)) 23 (upd ((va_up (va_up na51 16 (upd (na51 16) v54.toNatClampNeg z64)) 17 (upd ((va_up na51 16 (upd (na51 16) v54.toNatClampNeg z64)) 17) v54.toNatClampNeg a)) 23) v54.toNatClampNeg z66)) 23 (upd ((va_up (va_up (va_up na51 16 (upd (na51 16) v54.toNatClampNeg z64)) 17 (upd ((va_up na51 16 (upd (na51 16) v54.toNatClampNeg z64)) 17) v54.toNatClampNeg a)) 23 (upd ((va_up (va_up na51 16 (upd (na51 16) v54.toNatClampNeg z64)) 17 (upd ((va_up na51 16 (upd (na51 16) v54.toNatClampNeg z64)) 17) v54.toNatClampNeg a)) 23) v54.toNatClampNeg z66)) 23) v54.toNatClampNeg v71)) 21) a.toNatClampNeg p0)) (va_up (va_up (va_up (va_up ma52 22 (upd (ma52 22) v54.toNatClampNeg rk)) 18 (upd ((va_up ma52 22 (upd (ma52 22) v54.toNatClampNeg rk)) 18) v54.toNatClampNeg a)) 18 (upd ((va_up (va_up ma52 22 (upd (ma52 22) v54.toNatClampNeg rk)) 18 (upd ((va_up ma52 22 (upd (ma52 22) v54.toNatClampNeg rk)) 18) v54.toNatClampNeg a)) 18) v54.toNatClampNeg p0)) 20 (upd ((va_up (va_up (va_up ma52 22 (upd (ma52 22) v54.toNatClampNeg rk)) 18 (upd ((va_up ma52 22 (upd (ma52 22) v54.toNatClampNeg rk)) 18) v54.toNatClampNeg a)) 18 (upd ((va_up (va_up ma52 22 (upd (ma52 22) v54.toNatClampNeg rk)) 18 (upd ((va_up ma52 22 (upd (ma52 22) v54.toNatClampNeg rk)) 18) v54.toNatClampNeg a)) 18) v54.toNatClampNeg p0)) 20) p0.toNatClampNeg tk)) v54 lo (pf50 13).toInt (Wl + Wr + 1 + X) ((pf 12).toInt - 1) from ⟨ExV.le (exv_chain (Dm := v71.toInt + 61 - (pf 12).toInt) (X := X) (hXA.1.le (Int.le_refl _) (Int.le_refl _) (Int.le_refl _) (by omega)) (hXR.1.le (Int.le_refl _) (Int.le_refl _) (Int.le_refl _) (by omega)) (Int.le_refl _) (by omega) (by omega) (fun x g1 g2 g3 => ⟨fun j => by rw [up_far g2, up_far g1, up_far g1, up_far g1, up_far g1], fun j => by rw [up_far g3, up_far g1, up_far g1, up_far g1]⟩) ⟨fun j hj => by rw [va_up_n hj, up_far (nat_ne (by omega) (by omega) (by omega)), up_far (nat_ne (by omega) (by omega) (by omega)), up_far (nat_ne (by omega) (by omega) (by omega)), up_far (nat_ne (by omega) (by omega) (by omega))], fun j => by rw [up_far (nat_ne (by omega) (by omega) (by omega)), up_far (nat_ne (by omega) (by omega) (by omega)), up_far (nat_ne (by omega) (by omega) (by omega)), up_far (nat_ne (by omega) (by omega) (by omega))]⟩ ⟨fun j => by rw [up_far (nat_ne (by omega) (by omega) (by omega)), up_far (nat_ne (by omega) (by omega) (by omega)), up_far (nat_ne (by omega) (by omega) (by omega)), up_far (nat_ne (by omega) (by omega) (by omega)), up_far (nat_ne (by omega) (by omega) (by omega))], fun j hj => by rw [va_up_n hj, up_far (nat_ne (by omega) (by omega) (by omega)), up_far (nat_ne (by omega) (by omega) (by omega)), up_far (nat_ne (by omega) (by omega) (by omega))]⟩ (by rw [va_up_n (by decide), va_up_n (by decide), va_up_n (by decide), va_up_n (by decide), va_up_n (by decide), hnk_v54.1]; rfl) (ndt_of (by rw [va_up_n (by decide), va_up_n (by decide), va_up_n (by decide), va_up_n (by decide), va_up_n (by decide), hnk_v54.2.1]) (by omega) (by omega) (by omega)) (by rw [va_up_n (by decide), va_up_n (by decide), va_up_n (by decide), va_up_s, pk_us]) (by rw [va_up_n (by decide), va_up_s, pk_us]) (by rw [va_up_s, pk_us]) hXR.2.2.2.1 (mkd_of (by rw [va_up_s, pk_us]) (by omega) (by omega) (by omega)) (by rw [va_up_n (by decide), va_up_n (by decide), va_up_n (by decide), va_up_s, pk_us]; split <;> omega)) (Int.le_refl _) (by omega) (by omega) (by rw [dp_un (by decide), dp_us]; omega), (by rw [dp_un (by decide), dp_us]; omega), (by rw [dp_un (by decide), dp_us]; omega), ⟨(by rw [va_up_s, pk_un (nat_ne (by omega) (by omega) (by omega)), va_up_n (by decide), va_up_n (by decide), va_up_n (by decide), va_up_n (by decide), hnk_v54.2.2.1]; decide), (by rw [va_up_s, pk_un (nat_ne (by omega) (by omega) (by omega)), va_up_n (by decide), va_up_n (by decide), va_up_n (by decide), hnk_v54.2.2.2.2]; decide)⟩⟩)⟩) d_Mpg_settle_281
          · have nc40 : z39.toInt = rk.toInt := (i_eq (x := z39) (y := rk)).mp c40
            refine lv_aload_n S.x S.b d_Mpg_settle_109 rfl (lv_at hl 0 rfl) ?_
            refine px_get S k_Mpg hT hw 0 0 16 (v := .ref (r 16)) rfl rfl rfl (by decide) m10_0 d_Mpg_settle_110 ?_
            refine lv_iload_n S.x S.b d_Mpg_settle_113 rfl (lv_at hl 2 rfl) ?_
            refine px_iald S hT hw 0 12 (n := 2100) (f := (na 16)) rfl gp_16 (x := a) (vp_in_iff.mpr (by constructor <;> omega)) d_Mpg_settle_114 ?_
            refine lv_topi (fun z77 ez77 => ?_)
            have lz77 := Int32.le_toInt z77
            have uz77 := Int32.toInt_lt z77
            refine lv_goto (tgt := 125) S.x S.b d_Mpg_settle_115 (by decide) ?_
            refine px_iast S hT hw 0 12 (n := 2100) (f := (na 16)) (x := x43_4) (y := z77) rfl gp_16 (vp_in_iff.mpr (by constructor <;> omega)) d_Mpg_settle_125 (w' := wdP cs h r g tf ta pf_43 (va_up na 16 (upd (na 16) x43_4.toNatClampNeg z77)) ma wa cf ca ef ea xf xa) (ps' := [wdP cs h r g tf ta pf_43 (va_up na 16 (upd (na 16) x43_4.toNatClampNeg z77)) ma wa cf ca ef ea xf xa]) sp_16 rfl (fun H locs hw => ?_)
            refine lv_aload_n S.x S.b d_Mpg_settle_126 rfl (lv_at hl 0 rfl) ?_
            refine px_get S k_Mpg hT hw 0 0 14 (v := .ref (r 14)) rfl rfl rfl (by decide) m9_238 d_Mpg_settle_127 ?_
            refine lv_iload S.x S.b d_Mpg_settle_130 (lv_at hl 4 rfl) ?_
            refine px_bald S hT hw 0 10 (n := 2100) (f := ((va_up na 16 (upd (na 16) x43_4.toNatClampNeg z77)) 14)) rfl gp_14 (x := x43_4) (vp_in_iff.mpr (by constructor <;> omega)) d_Mpg_settle_132 ?_
            refine lv_topi (fun z78 ez78 => ?_)
            have lz78 := Int32.le_toInt z78
            have uz78 := Int32.toInt_lt z78
            have hk2 : z78.toInt = z3.toInt := (by rw [ez78, va_up_n (by decide), ez3])
            refine lv_bipush (v := 7) S.x S.b d_Mpg_settle_133 (by decide) ?_
            refine lv_icmp_ne (tgt := 149) S.x S.b d_Mpg_settle_135 (by decide) (fun c79 => ?_) (fun c79 => ?_)
            · have nc79 : ¬ z78.toInt = (7 : Int) := mt (i_eq (x := z78) (y := 7)).mpr c79
              exfalso
              omega
            · have nc79 : z78.toInt = (7 : Int) := (i_eq (x := z78) (y := 7)).mp c79
              refine lv_aload_n S.x S.b d_Mpg_settle_138 rfl (lv_at hl 0 rfl) ?_
              refine px_get S k_Mpg hT hw 0 0 22 (v := .ref (r 22)) rfl rfl rfl (by decide) m10_9 d_Mpg_settle_139 ?_
              refine lv_iload S.x S.b d_Mpg_settle_142 (lv_at hl 4 rfl) ?_
              refine px_iald S hT hw 0 18 (n := 2100) (f := (ma 22)) rfl gp_22 (x := x43_4) (vp_in_iff.mpr (by constructor <;> omega)) d_Mpg_settle_144 ?_
              refine lv_topi (fun z80 ez80 => ?_)
              have lz80 := Int32.le_toInt z80
              have uz80 := Int32.toInt_lt z80
              have ho2 : z80.toInt = z39.toInt := (by rw [ez80, ez39])
              refine lv_iload_n S.x S.b d_Mpg_settle_145 rfl (lv_at hl 3 rfl) ?_
              refine lv_icmp_eq (tgt := 218) S.x S.b d_Mpg_settle_146 (by decide) (fun c81 => ?_) (fun c81 => ?_)
              · have nc81 : z80.toInt = rk.toInt := (i_eq (x := z80) (y := rk)).mp c81
                refine lv_aload_n S.x S.b d_Mpg_settle_218 rfl (lv_at hl 0 rfl) ?_
                refine px_get S k_Mpg hT hw 0 0 23 (v := .ref (r 23)) rfl rfl rfl (by decide) m10_11 d_Mpg_settle_219 ?_
                refine lv_iload S.x S.b d_Mpg_settle_222 (lv_at hl 4 rfl) ?_
                refine lv_aload_n S.x S.b d_Mpg_settle_224 rfl (lv_at hl 0 rfl) ?_
                refine px_get S k_Mpg hT hw 0 0 23 (v := .ref (r 23)) rfl rfl rfl (by decide) m10_11 d_Mpg_settle_225 ?_
                refine lv_iload S.x S.b d_Mpg_settle_228 (lv_at hl 4 rfl) ?_
                refine px_iald S hT hw 0 19 (n := 2100) (f := ((va_up na 16 (upd (na 16) x43_4.toNatClampNeg z77)) 23)) rfl gp_23 (x := x43_4) (vp_in_iff.mpr (by constructor <;> omega)) d_Mpg_settle_230 ?_
                refine lv_topi (fun z82 ez82 => ?_)
                have lz82 := Int32.le_toInt z82
                have uz82 := Int32.toInt_lt z82
                have rz82 : z82.toInt = dp na x43_4 := by have q9 : z82.toInt = dp (va_up na 16 (upd (na 16) x43_4.toNatClampNeg z77)) x43_4 := (by rw [ez82]; rfl); rw [dp_un (by decide)] at q9; exact q9
                refine lv_iconst (v := 1) S.x S.b d_Mpg_settle_231 (by decide) ?_
                refine lv_aload_n S.x S.b d_Mpg_settle_232 rfl (lv_at hl 0 rfl) ?_
                refine px_get S k_Mpg hT hw 0 0 23 (v := .ref (r 23)) rfl rfl rfl (by decide) m10_11 d_Mpg_settle_233 ?_
                refine lv_iload_n S.x S.b d_Mpg_settle_236 rfl (lv_at hl 1 rfl) ?_
                refine px_iald S hT hw 0 19 (n := 2100) (f := ((va_up na 16 (upd (na 16) x43_4.toNatClampNeg z77)) 23)) rfl gp_23 (x := p0) (vp_in_iff.mpr (by constructor <;> omega)) d_Mpg_settle_237 ?_
                refine lv_topi (fun z83 ez83 => ?_)
                have lz83 := Int32.le_toInt z83
                have uz83 := Int32.toInt_lt z83
                have rz83 : z83.toInt = dp na p0 := by have q9 : z83.toInt = dp (va_up na 16 (upd (na 16) x43_4.toNatClampNeg z77)) p0 := (by rw [ez83]; rfl); rw [dp_un (by decide)] at q9; exact q9
                refine lv_iadd S.x S.b d_Mpg_settle_238 ?_
                refine lv_topi (fun z84 ez84 => ?_)
                have tz84 : z84.toInt = ((1 : Int) + z83.toInt + 2147483648) % 4294967296 - 2147483648 := by rw [ez84]; exact i_add 1 z83
                have lz84 := Int32.le_toInt z84
                have uz84 := Int32.toInt_lt z84
                try replace tz84 : z84.toInt = (1 : Int) + z83.toInt := by omega
                refine px_calli (pr := [wdP cs h r g tf ta pf_43 (va_up na 16 (upd (na 16) x43_4.toNatClampNeg z77)) ma wa cf ca ef ea xf xa]) (px_runS (As := [.int z82, .int z84]) (rest := [.int x43_4, .ref (r 23)]) S (c_mp_deeper l D cs  z82 z84   _) hT (pr := [wdP cs h r g tf ta pf_43 (va_up na 16 (upd (na 16) x43_4.toNatClampNeg z77)) ma wa cf ca ef ea xf xa]) (pcs := []) hw px_X.tt m12_49 m12_47 m12_48 m1_21 q_Mpg_deeper ⟨Nat.le_of_ble_eq_true rfl, Nat.le_of_ble_eq_true rfl⟩ hl.1 rfl (Nat.le_of_ble_eq_true rfl) d_Mpg_settle_239 ⟨Nat.le_of_ble_eq_true rfl, Nat.le_of_ble_eq_true rfl⟩) hw hA (fun v86 p85 H locs hp85 hw => ?_)
                obtain ⟨rfl, e87, e88, e89⟩ := hp85
                have e87 : z82.toInt ≤ v86.toInt := e87
                have e88 : z84.toInt ≤ v86.toInt := e88
                have e89 : v86.toInt = z82.toInt ∨ v86.toInt = z84.toInt := e89
                have hw : pw D A s.heap H locs [wdP cs h r g tf ta pf_43 (va_up na 16 (upd (na 16) x43_4.toNatClampNeg z77)) ma wa cf ca ef ea xf xa] := hw
                have lv86 := Int32.le_toInt v86
                have uv86 := Int32.toInt_lt v86
                refine px_iast S hT hw 0 19 (n := 2100) (f := ((va_up na 16 (upd (na 16) x43_4.toNatClampNeg z77)) 23)) (x := x43_4) (y := v86) rfl gp_23 (vp_in_iff.mpr (by constructor <;> omega)) d_Mpg_settle_242 (w' := wdP cs h r g tf ta pf_43 (va_up (va_up na 16 (upd (na 16) x43_4.toNatClampNeg z77)) 23 (upd ((va_up na 16 (upd (na 16) x43_4.toNatClampNeg z77)) 23) x43_4.toNatClampNeg v86)) ma wa cf ca ef ea xf xa) (ps' := [wdP cs h r g tf ta pf_43 (va_up (va_up na 16 (upd (na 16) x43_4.toNatClampNeg z77)) 23 (upd ((va_up na 16 (upd (na 16) x43_4.toNatClampNeg z77)) 23) x43_4.toNatClampNeg v86)) ma wa cf ca ef ea xf xa]) sp_23 rfl (fun H locs hw => ?_)
                refine lv_aload_n S.x S.b d_Mpg_settle_243 rfl (lv_at hl 0 rfl) ?_
                refine px_get S k_Mpg hT hw 0 0 21 (v := .ref (r 21)) rfl rfl rfl (by decide) m10_7 d_Mpg_settle_244 ?_
                refine lv_aload_n S.x S.b d_Mpg_settle_247 rfl (lv_at hl 0 rfl) ?_
                refine px_get S k_Mpg hT hw 0 0 18 (v := .ref (r 18)) rfl rfl rfl (by decide) m10_3 d_Mpg_settle_248 ?_
                refine lv_iload S.x S.b d_Mpg_settle_251 (lv_at hl 4 rfl) ?_
                refine px_iald S hT hw 0 14 (n := 2100) (f := (ma 18)) rfl gp_18 (x := x43_4) (vp_in_iff.mpr (by constructor <;> omega)) d_Mpg_settle_253 ?_
                refine lv_topi (fun z90 ez90 => ?_)
                have lz90 := Int32.le_toInt z90
                have uz90 := Int32.toInt_lt z90
                obtain ⟨hb0, hb1, hb2, hb3⟩ := exv_b hu (by rw [← ez3]; omega) ez90
                refine lv_iload_n S.x S.b d_Mpg_settle_254 rfl (lv_at hl 1 rfl) ?_
                refine px_iast S hT hw 0 17 (n := 2100) (f := ((va_up (va_up na 16 (upd (na 16) x43_4.toNatClampNeg z77)) 23 (upd ((va_up na 16 (upd (na 16) x43_4.toNatClampNeg z77)) 23) x43_4.toNatClampNeg v86)) 21)) (x := z90) (y := p0) rfl gp_21 (vp_in_iff.mpr (by constructor <;> omega)) d_Mpg_settle_255 (w' := wdP cs h r g tf ta pf_43 (va_up (va_up (va_up na 16 (upd (na 16) x43_4.toNatClampNeg z77)) 23 (upd ((va_up na 16 (upd (na 16) x43_4.toNatClampNeg z77)) 23) x43_4.toNatClampNeg v86)) 21 (upd ((va_up (va_up na 16 (upd (na 16) x43_4.toNatClampNeg z77)) 23 (upd ((va_up na 16 (upd (na 16) x43_4.toNatClampNeg z77)) 23) x43_4.toNatClampNeg v86)) 21) z90.toNatClampNeg p0)) ma wa cf ca ef ea xf xa) (ps' := [wdP cs h r g tf ta pf_43 (va_up (va_up (va_up na 16 (upd (na 16) x43_4.toNatClampNeg z77)) 23 (upd ((va_up na 16 (upd (na 16) x43_4.toNatClampNeg z77)) 23) x43_4.toNatClampNeg v86)) 21 (upd ((va_up (va_up na 16 (upd (na 16) x43_4.toNatClampNeg z77)) 23 (upd ((va_up na 16 (upd (na 16) x43_4.toNatClampNeg z77)) 23) x43_4.toNatClampNeg v86)) 21) z90.toNatClampNeg p0)) ma wa cf ca ef ea xf xa]) sp_21 rfl (fun H locs hw => ?_)
                refine lv_aload_n S.x S.b d_Mpg_settle_256 rfl (lv_at hl 0 rfl) ?_
                refine px_get S k_Mpg hT hw 0 0 18 (v := .ref (r 18)) rfl rfl rfl (by decide) m10_3 d_Mpg_settle_257 ?_
                refine lv_iload S.x S.b d_Mpg_settle_260 (lv_at hl 4 rfl) ?_
                refine lv_iload_n S.x S.b d_Mpg_settle_262 rfl (lv_at hl 1 rfl) ?_
                refine px_iast S hT hw 0 14 (n := 2100) (f := (ma 18)) (x := x43_4) (y := p0) rfl gp_18 (vp_in_iff.mpr (by constructor <;> omega)) d_Mpg_settle_263 (w' := wdP cs h r g tf ta pf_43 (va_up (va_up (va_up na 16 (upd (na 16) x43_4.toNatClampNeg z77)) 23 (upd ((va_up na 16 (upd (na 16) x43_4.toNatClampNeg z77)) 23) x43_4.toNatClampNeg v86)) 21 (upd ((va_up (va_up na 16 (upd (na 16) x43_4.toNatClampNeg z77)) 23 (upd ((va_up na 16 (upd (na 16) x43_4.toNatClampNeg z77)) 23) x43_4.toNatClampNeg v86)) 21) z90.toNatClampNeg p0)) (va_up ma 18 (upd (ma 18) x43_4.toNatClampNeg p0)) wa cf ca ef ea xf xa) (ps' := [wdP cs h r g tf ta pf_43 (va_up (va_up (va_up na 16 (upd (na 16) x43_4.toNatClampNeg z77)) 23 (upd ((va_up na 16 (upd (na 16) x43_4.toNatClampNeg z77)) 23) x43_4.toNatClampNeg v86)) 21 (upd ((va_up (va_up na 16 (upd (na 16) x43_4.toNatClampNeg z77)) 23 (upd ((va_up na 16 (upd (na 16) x43_4.toNatClampNeg z77)) 23) x43_4.toNatClampNeg v86)) 21) z90.toNatClampNeg p0)) (va_up ma 18 (upd (ma 18) x43_4.toNatClampNeg p0)) wa cf ca ef ea xf xa]) sp_18 rfl (fun H locs hw => ?_)
                refine lv_aload_n S.x S.b d_Mpg_settle_264 rfl (lv_at hl 0 rfl) ?_
                refine px_get S k_Mpg hT hw 0 0 20 (v := .ref (r 20)) rfl rfl rfl (by decide) m10_6 d_Mpg_settle_265 ?_
                refine lv_iload_n S.x S.b d_Mpg_settle_268 rfl (lv_at hl 1 rfl) ?_
                refine lv_aload_n S.x S.b d_Mpg_settle_269 rfl (lv_at hl 0 rfl) ?_
                refine px_get S k_Mpg hT hw 0 0 28 (v := .ref (r 28)) rfl rfl rfl (by decide) m10_16 d_Mpg_settle_270 ?_
                refine lv_aload_n S.x S.b d_Mpg_settle_273 rfl (lv_at hl 0 rfl) ?_
                refine px_get S k_Mpg hT hw 0 0 26 (v := .int (pf_43 26)) rfl rfl rfl (by decide) m10_14 d_Mpg_settle_274 ?_
                refine px_iald S hT hw 0 21 (n := 700) (f := (wa 28)) rfl gp_28 (x := (pf_43 26)) (vp_in_iff.mpr (by constructor <;> omega)) d_Mpg_settle_277 ?_
                refine lv_topi (fun z91 ez91 => ?_)
                have lz91 := Int32.le_toInt z91
                have uz91 := Int32.toInt_lt z91
                have hwi : (pf_43 26).toNatClampNeg = ((pf 26).toInt - 1).toNat := (by have hq9 := cl_nat (x := (pf_43 26)) (by omega); omega); have hsz91 : tk = z91 := (by rw [ez91, hwi]; exact hTop.2.2.symm); subst hsz91
                refine px_iast S hT hw 0 16 (n := 2100) (f := ((va_up ma 18 (upd (ma 18) x43_4.toNatClampNeg p0)) 20)) (x := p0) (y := tk) rfl gp_20 (vp_in_iff.mpr (by constructor <;> omega)) d_Mpg_settle_278 (w' := wdP cs h r g tf ta pf_43 (va_up (va_up (va_up na 16 (upd (na 16) x43_4.toNatClampNeg z77)) 23 (upd ((va_up na 16 (upd (na 16) x43_4.toNatClampNeg z77)) 23) x43_4.toNatClampNeg v86)) 21 (upd ((va_up (va_up na 16 (upd (na 16) x43_4.toNatClampNeg z77)) 23 (upd ((va_up na 16 (upd (na 16) x43_4.toNatClampNeg z77)) 23) x43_4.toNatClampNeg v86)) 21) z90.toNatClampNeg p0)) (va_up (va_up ma 18 (upd (ma 18) x43_4.toNatClampNeg p0)) 20 (upd ((va_up ma 18 (upd (ma 18) x43_4.toNatClampNeg p0)) 20) p0.toNatClampNeg tk)) wa cf ca ef ea xf xa) (ps' := [wdP cs h r g tf ta pf_43 (va_up (va_up (va_up na 16 (upd (na 16) x43_4.toNatClampNeg z77)) 23 (upd ((va_up na 16 (upd (na 16) x43_4.toNatClampNeg z77)) 23) x43_4.toNatClampNeg v86)) 21 (upd ((va_up (va_up na 16 (upd (na 16) x43_4.toNatClampNeg z77)) 23 (upd ((va_up na 16 (upd (na 16) x43_4.toNatClampNeg z77)) 23) x43_4.toNatClampNeg v86)) 21) z90.toNatClampNeg p0)) (va_up (va_up ma 18 (upd (ma 18) x43_4.toNatClampNeg p0)) 20 (upd ((va_up ma 18 (upd (ma 18) x43_4.toNatClampNeg p0)) 20) p0.toNatClampNeg tk)) wa cf ca ef ea xf xa]) sp_20 rfl (fun H locs hw => ?_)
                refine lv_iload S.x S.b d_Mpg_settle_279 (lv_at hl 4 rfl) ?_
                exact px_iret (v := x43_4) S hr rfl hlk hAe hw (Nat.le_of_ble_eq_true rfl) (Nat.le_of_ble_eq_true rfl) (⟨pf_43, (va_up (va_up (va_up na 16 (upd (na 16) x43_4.toNatClampNeg z77)) 23 (upd ((va_up na 16 (upd (na 16) x43_4.toNatClampNeg z77)) 23) x43_4.toNatClampNeg v86)) 21 (upd ((va_up (va_up na 16 (upd (na 16) x43_4.toNatClampNeg z77)) 23 (upd ((va_up na 16 (upd (na 16) x43_4.toNatClampNeg z77)) 23) x43_4.toNatClampNeg v86)) 21) z90.toNatClampNeg p0)), (va_up (va_up ma 18 (upd (ma 18) x43_4.toNatClampNeg p0)) 20 (upd ((va_up ma 18 (upd (ma 18) x43_4.toNatClampNeg p0)) 20) p0.toNatClampNeg tk)), rfl, (show (pf_43 26).toInt = (pf 26).toInt - 1 from by omega), (show (pf_43 12).toInt = (pf 12).toInt - 1 from by omega), (show (pf 13).toInt ≤ (pf_43 13).toInt from by omega), (show (pf_43 13).toInt ≤ (pf 13).toInt + 1 from by omega), (show (pf_43 11).toInt = (pf 11).toInt from by omega), (show (pf_43 24).toInt = (pf 24).toInt from by omega), (show (pf_43 25).toInt = (pf 25).toInt from by omega), (show FrB lo na ma (va_up (va_up (va_up na 16 (upd (na 16) x43_4.toNatClampNeg z77)) 23 (upd ((va_up na 16 (upd (na 16) x43_4.toNatClampNeg z77)) 23) x43_4.toNatClampNeg v86)) 21 (upd ((va_up (va_up na 16 (upd (na 16) x43_4.toNatClampNeg z77)) 23 (upd ((va_up na 16 (upd (na 16) x43_4.toNatClampNeg z77)) 23) x43_4.toNatClampNeg v86)) 21) z90.toNatClampNeg p0)) (va_up (va_up ma 18 (upd (ma 18) x43_4.toNatClampNeg p0)) 20 (upd ((va_up ma 18 (upd (ma 18) x43_4.toNatClampNeg p0)) 20) p0.toNatClampNeg tk)) from (FrB.um (FrB.um (FrB.un (FrB.un (FrB.un hfb (by omega) (by omega)) (by omega) (by omega)) (by omega) (by omega)) (by omega) (by omega)) (by omega) (by omega))), (show ExR ta (tf 6).toInt (va_up (va_up (va_up na 16 (upd (na 16) x43_4.toNatClampNeg z77)) 23 (upd ((va_up na 16 (upd (na 16) x43_4.toNatClampNeg z77)) 23) x43_4.toNatClampNeg v86)) 21 (upd ((va_up (va_up na 16 (upd (na 16) x43_4.toNatClampNeg z77)) 23 (upd ((va_up na 16 (upd (na 16) x43_4.toNatClampNeg z77)) 23) x43_4.toNatClampNeg v86)) 21) z90.toNatClampNeg p0)) (va_up (va_up ma 18 (upd (ma 18) x43_4.toNatClampNeg p0)) 20 (upd ((va_up ma 18 (upd (ma 18) x43_4.toNatClampNeg p0)) 20) p0.toNatClampNeg tk)) x43_4 lo (pf_43 13).toInt (Wl + Wr + 1 + X) ((pf 12).toInt - 1) from ⟨ExV.le (exv_more (Dm := v86.toInt + 61 - (pf 12).toInt) (hu.le (Int.le_refl _) (Int.le_refl _) (Int.le_refl _) (by omega)) (by rw [← ez3]; omega) (hXR.1.le (Int.le_refl _) (Int.le_refl _) (Int.le_refl _) (by omega)) (Int.le_refl _) (by omega) ez90 (fun x g1 g2 g3 => ⟨fun j => by rw [up_far g2, up_far g1, up_far g1], fun j => by rw [up_far g3, up_far g1]⟩) ⟨fun j hj => by rw [va_up_n hj, up_far (nat_ne (by omega) (by omega) (by omega)), up_far (nat_ne (by omega) (by omega) (by omega))], fun j => by rw [up_far (nat_ne (by omega) (by omega) (by omega)), up_far (nat_ne (by omega) (by omega) (by omega))]⟩ ⟨fun j => by rw [up_far (nat_ne (by omega) (by omega) (by omega)), up_far (nat_ne (by omega) (by omega) (by omega)), up_far (nat_ne (by omega) (by omega) (by omega))], fun j hj => by rw [va_up_n hj, up_far (nat_ne (by omega) (by omega) (by omega))]⟩ ⟨(by rw [va_up_n (by decide), va_up_n (by decide), va_up_n (by decide)]), (by rw [va_up_n (by decide), va_up_n (by decide), va_up_n (by decide)]), (by rw [va_up_n (by decide), va_up_n (by decide), va_up_n (by decide)]), (by rw [va_up_n (by decide), va_up_n (by decide)])⟩ (by rw [va_up_n (by decide), va_up_s, pk_us]) (by rw [va_up_s, pk_us]) hXR.2.2.2.1 (mkd_of (by rw [va_up_s, pk_us]) (by omega) (by omega) (by omega))) (Int.le_refl _) (by omega) (by omega) (by rw [dp_un (by decide), dp_us]; omega), (by rw [dp_un (by decide), dp_us]; omega), (by rw [dp_un (by decide), dp_us]; omega), ⟨(by rw [va_up_s, pk_un (nat_ne (by omega) (by omega) (by omega)), va_up_n (by decide), va_up_n (by decide)]; omega), (by rw [va_up_s, pk_un (nat_ne (by omega) (by omega) (by omega)), va_up_n (by decide)]; omega)⟩⟩)⟩) d_Mpg_settle_281
              · have nc81 : ¬ z80.toInt = rk.toInt := mt (i_eq (x := z80) (y := rk)).mpr c81
                exfalso
                omega
      · have nc2 : z1.toInt = (5 : Int) := (i_eq (x := z1) (y := 5)).mp c2
        refine lv_aload_n S.x S.b d_Mpg_settle_54 rfl (lv_at hl 0 rfl) ?_
        refine lv_aload_n S.x S.b d_Mpg_settle_55 rfl (lv_at hl 0 rfl) ?_
        refine px_get S k_Mpg hT hw 0 0 15 (v := .ref (r 15)) rfl rfl rfl (by decide) m9_239 d_Mpg_settle_56 ?_
        refine lv_iload S.x S.b d_Mpg_settle_59 (lv_at hl 4 rfl) ?_
        refine px_iald S hT hw 0 11 (n := 2100) (f := (na 15)) rfl gp_15 (x := x43_4) (vp_in_iff.mpr (by constructor <;> omega)) d_Mpg_settle_61 ?_
        refine lv_topi (fun z92 ez92 => ?_)
        have lz92 := Int32.le_toInt z92
        have uz92 := Int32.toInt_lt z92
        have htk9 := hu.tok; rw [← ez92] at htk9
        refine px_calli (pr := []) (px_runV (As := [.int z92]) (rest := []) S (c_mp_isNothing l D cs h r g tf ta pf_43 na ma wa cf ca ef ea xf xa z92  (show 0 ≤ z92.toInt from by omega) (show z92.toInt < (tf 6).toInt from by omega) (show (tf 6).toInt ≤ 2049 from by omega) htk _) hT (pr := []) (pcs := [wdP cs h r g tf ta pf_43 na ma wa cf ca ef ea xf xa]) hw px_X.tt (px_recv hT hw 0 0 rfl rfl rfl) m12_65 m12_62 m12_64 ms_10_1 m1_21 q_Mpg_isNothing ⟨Nat.le_of_ble_eq_true rfl, Nat.le_of_ble_eq_true rfl⟩ hl.1 rfl (Nat.le_of_ble_eq_true rfl) d_Mpg_settle_62 ⟨Nat.le_of_ble_eq_true rfl, Nat.le_of_ble_eq_true rfl⟩) hw hA (fun v94 p93 H locs hp93 hw => ?_)
        obtain ⟨rfl, e95, e96⟩ := hp93
        have e95 := z_rng e95
        have e96 : PlV ta z92 v94.toInt := e96
        have hplv := e96
        have hw : pw D A s.heap H locs [wdP cs h r g tf ta pf_43 na ma wa cf ca ef ea xf xa] := hw
        have lv94 := Int32.le_toInt v94
        have uv94 := Int32.toInt_lt v94
        refine lv_if_eq (tgt := 80) S.x S.b d_Mpg_settle_65 (by decide) (fun c97 => ?_) (fun c97 => ?_)
        · have nc97 : v94.toInt = (0 : Int) := (i_eq (x := v94) (y := 0)).mp c97
          refine lv_aload_n S.x S.b d_Mpg_settle_80 rfl (lv_at hl 0 rfl) ?_
          refine px_get S k_Mpg hT hw 0 0 16 (v := .ref (r 16)) rfl rfl rfl (by decide) m10_0 d_Mpg_settle_81 ?_
          refine lv_iload S.x S.b d_Mpg_settle_84 (lv_at hl 4 rfl) ?_
          refine lv_aload_n S.x S.b d_Mpg_settle_86 rfl (lv_at hl 0 rfl) ?_
          refine px_get S k_Mpg hT hw 0 0 14 (v := .ref (r 14)) rfl rfl rfl (by decide) m9_238 d_Mpg_settle_87 ?_
          refine lv_iload S.x S.b d_Mpg_settle_90 (lv_at hl 4 rfl) ?_
          refine px_bald S hT hw 0 10 (n := 2100) (f := (na 14)) rfl gp_14 (x := x43_4) (vp_in_iff.mpr (by constructor <;> omega)) d_Mpg_settle_92 ?_
          refine lv_topi (fun z98 ez98 => ?_)
          have lz98 := Int32.le_toInt z98
          have uz98 := Int32.toInt_lt z98
          refine lv_bipush (v := 7) S.x S.b d_Mpg_settle_93 (by decide) ?_
          refine lv_icmp_ne (tgt := 118) S.x S.b d_Mpg_settle_95 (by decide) (fun c99 => ?_) (fun c99 => ?_)
          · have nc99 : ¬ z98.toInt = (7 : Int) := mt (i_eq (x := z98) (y := 7)).mpr c99
            refine lv_aload_n S.x S.b d_Mpg_settle_118 rfl (lv_at hl 0 rfl) ?_
            refine px_get S k_Mpg hT hw 0 0 16 (v := .ref (r 16)) rfl rfl rfl (by decide) m10_0 d_Mpg_settle_119 ?_
            refine lv_iload S.x S.b d_Mpg_settle_122 (lv_at hl 4 rfl) ?_
            refine px_iald S hT hw 0 12 (n := 2100) (f := (na 16)) rfl gp_16 (x := x43_4) (vp_in_iff.mpr (by constructor <;> omega)) d_Mpg_settle_124 ?_
            refine lv_topi (fun z100 ez100 => ?_)
            have lz100 := Int32.le_toInt z100
            have uz100 := Int32.toInt_lt z100
            refine px_iast S hT hw 0 12 (n := 2100) (f := (na 16)) (x := x43_4) (y := z100) rfl gp_16 (vp_in_iff.mpr (by constructor <;> omega)) d_Mpg_settle_125 (w' := wdP cs h r g tf ta pf_43 (va_up na 16 (upd (na 16) x43_4.toNatClampNeg z100)) ma wa cf ca ef ea xf xa) (ps' := [wdP cs h r g tf ta pf_43 (va_up na 16 (upd (na 16) x43_4.toNatClampNeg z100)) ma wa cf ca ef ea xf xa]) sp_16 rfl (fun H locs hw => ?_)
            have hw : pw D A s.heap _ _ [wdP cs h r g tf ta pf_43 na ma wa cf ca ef ea xf xa] := (by have q9 := hw; rw [va_same ez100] at q9; exact q9)
            refine lv_aload_n S.x S.b d_Mpg_settle_126 rfl (lv_at hl 0 rfl) ?_
            refine px_get S k_Mpg hT hw 0 0 14 (v := .ref (r 14)) rfl rfl rfl (by decide) m9_238 d_Mpg_settle_127 ?_
            refine lv_iload S.x S.b d_Mpg_settle_130 (lv_at hl 4 rfl) ?_
            refine px_bald S hT hw 0 10 (n := 2100) (f := (na 14)) rfl gp_14 (x := x43_4) (vp_in_iff.mpr (by constructor <;> omega)) d_Mpg_settle_132 ?_
            refine lv_topi (fun z101 ez101 => ?_)
            have lz101 := Int32.le_toInt z101
            have uz101 := Int32.toInt_lt z101
            have hk2 : z101.toInt = z98.toInt := (by rw [ez101, ez98])
            refine lv_bipush (v := 7) S.x S.b d_Mpg_settle_133 (by decide) ?_
            refine lv_icmp_ne (tgt := 149) S.x S.b d_Mpg_settle_135 (by decide) (fun c102 => ?_) (fun c102 => ?_)
            · have nc102 : ¬ z101.toInt = (7 : Int) := mt (i_eq (x := z101) (y := 7)).mpr c102
              refine lv_aload_n S.x S.b d_Mpg_settle_149 rfl (lv_at hl 0 rfl) ?_
              refine lv_bipush (v := 7) S.x S.b d_Mpg_settle_150 (by decide) ?_
              refine lv_aload_n S.x S.b d_Mpg_settle_152 rfl (lv_at hl 0 rfl) ?_
              refine px_get S k_Mpg hT hw 0 0 28 (v := .ref (r 28)) rfl rfl rfl (by decide) m10_16 d_Mpg_settle_153 ?_
              refine lv_aload_n S.x S.b d_Mpg_settle_156 rfl (lv_at hl 0 rfl) ?_
              refine px_get S k_Mpg hT hw 0 0 26 (v := .int (pf_43 26)) rfl rfl rfl (by decide) m10_14 d_Mpg_settle_157 ?_
              refine px_iald S hT hw 0 21 (n := 700) (f := (wa 28)) rfl gp_28 (x := (pf_43 26)) (vp_in_iff.mpr (by constructor <;> omega)) d_Mpg_settle_160 ?_
              refine lv_topi (fun z103 ez103 => ?_)
              have lz103 := Int32.le_toInt z103
              have uz103 := Int32.toInt_lt z103
              have hwi : (pf_43 26).toNatClampNeg = ((pf 26).toInt - 1).toNat := (by have hq9 := cl_nat (x := (pf_43 26)) (by omega); omega); have hsz103 : tk = z103 := (by rw [ez103, hwi]; exact hTop.2.2.symm); subst hsz103
              refine px_calli (pr := []) (px_runV (As := [.int 7, .int tk]) (rest := []) S (c_mp_make l D cs h r g tf ta wa cf ca ef ea xf xa pf_43 na ma 7 tk  (show 0 ≤ (pf_43 13).toInt from by omega) (show (pf_43 13).toInt < 2100 from by omega) _) hT (pr := []) (pcs := [wdP cs h r g tf ta pf_43 na ma wa cf ca ef ea xf xa]) hw px_X.tt (px_recv hT hw 0 0 rfl rfl rfl) m11_209 m11_206 m11_208 ms_8_12 m1_21 q_Mpg_make ⟨Nat.le_of_ble_eq_true rfl, Nat.le_of_ble_eq_true rfl⟩ hl.1 rfl (Nat.le_of_ble_eq_true rfl) d_Mpg_settle_161 ⟨Nat.le_of_ble_eq_true rfl, Nat.le_of_ble_eq_true rfl⟩) hw hA (fun v111 p110 H locs hp110 hw => ?_)
              obtain ⟨pf107, na108, ma109, rfl, e112, e113, e114, e115, e116, e117, e118, e119⟩ := hp110
              have e112 : v111.toInt = (pf_43 13).toInt := e112
              have e113 : (pf107 13).toInt = (pf_43 13).toInt + 1 := e113
              have e114 : (pf107 11).toInt = (pf_43 11).toInt := e114
              have e115 : (pf107 12).toInt = (pf_43 12).toInt := e115
              have e116 : (pf107 24).toInt = (pf_43 24).toInt := e116
              have e117 : (pf107 25).toInt = (pf_43 25).toInt := e117
              have e118 : (pf107 26).toInt = (pf_43 26).toInt := e118
              have e119 : MkN na ma na108 ma109 v111 (7 : Int32) tk := e119
              obtain ⟨qb1201, qb1202, qb1203, qb1204⟩ := tk_eq (ta := ta) (x := (pf107 11)) (y := (pf_43 11)) (by omega)
              have hmk_v111 := e119
              have hfm_v111 := MkN.frb (b := v111.toInt) hmk_v111 (by omega) (by omega)
              have hXA := hXA.kp (FrB.le hfm_v111 (by omega)) (by omega)
              have hn_hXA := hXA.num
              have hdq_a := dp_fb (x := a) hfm_v111 (by omega) (by omega)
              have hXR := hXR.kp (FrB.le hfm_v111 (by omega)) (by omega)
              have hn_hXR := hXR.num
              have hdq_p0 := dp_fb (x := p0) hfm_v111 (by omega) (by omega)
              have hfb := hfb.tr hfm_v111 (by omega)
              have hnk_v111 := hmk_v111.nk (by decide) (by decide) (by omega)
              have hdn_v111 := dp_nk hmk_v111
              have hw : pw D A s.heap H locs [wdP cs h r g tf ta pf107 na108 ma109 wa cf ca ef ea xf xa] := hw
              have lv111 := Int32.le_toInt v111
              have uv111 := Int32.toInt_lt v111
              refine lv_istore (lv' := [(4, .int v111), (0, .ref h), (1, .int p0), (2, .int a), (3, .int rk)]) S.x S.b d_Mpg_settle_164 hl (by decide) rfl (fun ls hl => ?_)
              refine lv_aload_n S.x S.b d_Mpg_settle_166 rfl (lv_at hl 1 rfl) ?_
              refine px_get S k_Mpg hT hw 0 0 16 (v := .ref (r 16)) rfl rfl rfl (by decide) m10_0 d_Mpg_settle_167 ?_
              refine lv_iload S.x S.b d_Mpg_settle_170 (lv_at hl 0 rfl) ?_
              refine lv_aload_n S.x S.b d_Mpg_settle_172 rfl (lv_at hl 1 rfl) ?_
              refine px_get S k_Mpg hT hw 0 0 16 (v := .ref (r 16)) rfl rfl rfl (by decide) m10_0 d_Mpg_settle_173 ?_
              refine lv_iload_n S.x S.b d_Mpg_settle_176 rfl (lv_at hl 3 rfl) ?_
              refine px_iald S hT hw 0 12 (n := 2100) (f := (na108 16)) rfl gp_16 (x := a) (vp_in_iff.mpr (by constructor <;> omega)) d_Mpg_settle_177 ?_
              refine lv_topi (fun z121 ez121 => ?_)
              have lz121 := Int32.le_toInt z121
              have uz121 := Int32.toInt_lt z121
              refine px_iast S hT hw 0 12 (n := 2100) (f := (na108 16)) (x := v111) (y := z121) rfl gp_16 (vp_in_iff.mpr (by constructor <;> omega)) d_Mpg_settle_178 (w' := wdP cs h r g tf ta pf107 (va_up na108 16 (upd (na108 16) v111.toNatClampNeg z121)) ma109 wa cf ca ef ea xf xa) (ps' := [wdP cs h r g tf ta pf107 (va_up na108 16 (upd (na108 16) v111.toNatClampNeg z121)) ma109 wa cf ca ef ea xf xa]) sp_16 rfl (fun H locs hw => ?_)
              refine lv_aload_n S.x S.b d_Mpg_settle_179 rfl (lv_at hl 1 rfl) ?_
              refine px_get S k_Mpg hT hw 0 0 22 (v := .ref (r 22)) rfl rfl rfl (by decide) m10_9 d_Mpg_settle_180 ?_
              refine lv_iload S.x S.b d_Mpg_settle_183 (lv_at hl 0 rfl) ?_
              refine lv_iload_n S.x S.b d_Mpg_settle_185 rfl (lv_at hl 4 rfl) ?_
              refine px_iast S hT hw 0 18 (n := 2100) (f := (ma109 22)) (x := v111) (y := rk) rfl gp_22 (vp_in_iff.mpr (by constructor <;> omega)) d_Mpg_settle_186 (w' := wdP cs h r g tf ta pf107 (va_up na108 16 (upd (na108 16) v111.toNatClampNeg z121)) (va_up ma109 22 (upd (ma109 22) v111.toNatClampNeg rk)) wa cf ca ef ea xf xa) (ps' := [wdP cs h r g tf ta pf107 (va_up na108 16 (upd (na108 16) v111.toNatClampNeg z121)) (va_up ma109 22 (upd (ma109 22) v111.toNatClampNeg rk)) wa cf ca ef ea xf xa]) sp_22 rfl (fun H locs hw => ?_)
              refine lv_aload_n S.x S.b d_Mpg_settle_187 rfl (lv_at hl 1 rfl) ?_
              refine px_get S k_Mpg hT hw 0 0 17 (v := .ref (r 17)) rfl rfl rfl (by decide) m10_1 d_Mpg_settle_188 ?_
              refine lv_iload S.x S.b d_Mpg_settle_191 (lv_at hl 0 rfl) ?_
              refine lv_iload_n S.x S.b d_Mpg_settle_193 rfl (lv_at hl 3 rfl) ?_
              refine px_iast S hT hw 0 13 (n := 2100) (f := ((va_up na108 16 (upd (na108 16) v111.toNatClampNeg z121)) 17)) (x := v111) (y := a) rfl gp_17 (vp_in_iff.mpr (by constructor <;> omega)) d_Mpg_settle_194 (w' := wdP cs h r g tf ta pf107 (va_up (va_up na108 16 (upd (na108 16) v111.toNatClampNeg z121)) 17 (upd ((va_up na108 16 (upd (na108 16) v111.toNatClampNeg z121)) 17) v111.toNatClampNeg a)) (va_up ma109 22 (upd (ma109 22) v111.toNatClampNeg rk)) wa cf ca ef ea xf xa) (ps' := [wdP cs h r g tf ta pf107 (va_up (va_up na108 16 (upd (na108 16) v111.toNatClampNeg z121)) 17 (upd ((va_up na108 16 (upd (na108 16) v111.toNatClampNeg z121)) 17) v111.toNatClampNeg a)) (va_up ma109 22 (upd (ma109 22) v111.toNatClampNeg rk)) wa cf ca ef ea xf xa]) sp_17 rfl (fun H locs hw => ?_)
              refine lv_aload_n S.x S.b d_Mpg_settle_195 rfl (lv_at hl 1 rfl) ?_
              refine px_get S k_Mpg hT hw 0 0 18 (v := .ref (r 18)) rfl rfl rfl (by decide) m10_3 d_Mpg_settle_196 ?_
              refine lv_iload S.x S.b d_Mpg_settle_199 (lv_at hl 0 rfl) ?_
              refine lv_iload_n S.x S.b d_Mpg_settle_201 rfl (lv_at hl 3 rfl) ?_
              refine px_iast S hT hw 0 14 (n := 2100) (f := ((va_up ma109 22 (upd (ma109 22) v111.toNatClampNeg rk)) 18)) (x := v111) (y := a) rfl gp_18 (vp_in_iff.mpr (by constructor <;> omega)) d_Mpg_settle_202 (w' := wdP cs h r g tf ta pf107 (va_up (va_up na108 16 (upd (na108 16) v111.toNatClampNeg z121)) 17 (upd ((va_up na108 16 (upd (na108 16) v111.toNatClampNeg z121)) 17) v111.toNatClampNeg a)) (va_up (va_up ma109 22 (upd (ma109 22) v111.toNatClampNeg rk)) 18 (upd ((va_up ma109 22 (upd (ma109 22) v111.toNatClampNeg rk)) 18) v111.toNatClampNeg a)) wa cf ca ef ea xf xa) (ps' := [wdP cs h r g tf ta pf107 (va_up (va_up na108 16 (upd (na108 16) v111.toNatClampNeg z121)) 17 (upd ((va_up na108 16 (upd (na108 16) v111.toNatClampNeg z121)) 17) v111.toNatClampNeg a)) (va_up (va_up ma109 22 (upd (ma109 22) v111.toNatClampNeg rk)) 18 (upd ((va_up ma109 22 (upd (ma109 22) v111.toNatClampNeg rk)) 18) v111.toNatClampNeg a)) wa cf ca ef ea xf xa]) sp_18 rfl (fun H locs hw => ?_)
              refine lv_aload_n S.x S.b d_Mpg_settle_203 rfl (lv_at hl 1 rfl) ?_
              refine px_get S k_Mpg hT hw 0 0 23 (v := .ref (r 23)) rfl rfl rfl (by decide) m10_11 d_Mpg_settle_204 ?_
              refine lv_iload S.x S.b d_Mpg_settle_207 (lv_at hl 0 rfl) ?_
              refine lv_iconst (v := 1) S.x S.b d_Mpg_settle_209 (by decide) ?_
              refine lv_aload_n S.x S.b d_Mpg_settle_210 rfl (lv_at hl 1 rfl) ?_
              refine px_get S k_Mpg hT hw 0 0 23 (v := .ref (r 23)) rfl rfl rfl (by decide) m10_11 d_Mpg_settle_211 ?_
              refine lv_iload_n S.x S.b d_Mpg_settle_214 rfl (lv_at hl 3 rfl) ?_
              refine px_iald S hT hw 0 19 (n := 2100) (f := ((va_up (va_up na108 16 (upd (na108 16) v111.toNatClampNeg z121)) 17 (upd ((va_up na108 16 (upd (na108 16) v111.toNatClampNeg z121)) 17) v111.toNatClampNeg a)) 23)) rfl gp_23 (x := a) (vp_in_iff.mpr (by constructor <;> omega)) d_Mpg_settle_215 ?_
              refine lv_topi (fun z122 ez122 => ?_)
              have lz122 := Int32.le_toInt z122
              have uz122 := Int32.toInt_lt z122
              have rz122 : z122.toInt = dp na108 a := by have q9 : z122.toInt = dp (va_up (va_up na108 16 (upd (na108 16) v111.toNatClampNeg z121)) 17 (upd ((va_up na108 16 (upd (na108 16) v111.toNatClampNeg z121)) 17) v111.toNatClampNeg a)) a := (by rw [ez122]; rfl); rw [dp_un (by decide), dp_un (by decide)] at q9; exact q9
              refine lv_iadd S.x S.b d_Mpg_settle_216 ?_
              refine lv_topi (fun z123 ez123 => ?_)
              have tz123 : z123.toInt = ((1 : Int) + z122.toInt + 2147483648) % 4294967296 - 2147483648 := by rw [ez123]; exact i_add 1 z122
              have lz123 := Int32.le_toInt z123
              have uz123 := Int32.toInt_lt z123
              try replace tz123 : z123.toInt = (1 : Int) + z122.toInt := by omega
              refine px_iast S hT hw 0 19 (n := 2100) (f := ((va_up (va_up na108 16 (upd (na108 16) v111.toNatClampNeg z121)) 17 (upd ((va_up na108 16 (upd (na108 16) v111.toNatClampNeg z121)) 17) v111.toNatClampNeg a)) 23)) (x := v111) (y := z123) rfl gp_23 (vp_in_iff.mpr (by constructor <;> omega)) d_Mpg_settle_217 (w' := wdP cs h r g tf ta pf107 (va_up (va_up (va_up na108 16 (upd (na108 16) v111.toNatClampNeg z121)) 17 (upd ((va_up na108 16 (upd (na108 16) v111.toNatClampNeg z121)) 17) v111.toNatClampNeg a)) 23 (upd ((va_up (va_up na108 16 (upd (na108 16) v111.toNatClampNeg z121)) 17 (upd ((va_up na108 16 (upd (na108 16) v111.toNatClampNeg z121)) 17) v111.toNatClampNeg a)) 23) v111.toNatClampNeg z123)) (va_up (va_up ma109 22 (upd (ma109 22) v111.toNatClampNeg rk)) 18 (upd ((va_up ma109 22 (upd (ma109 22) v111.toNatClampNeg rk)) 18) v111.toNatClampNeg a)) wa cf ca ef ea xf xa) (ps' := [wdP cs h r g tf ta pf107 (va_up (va_up (va_up na108 16 (upd (na108 16) v111.toNatClampNeg z121)) 17 (upd ((va_up na108 16 (upd (na108 16) v111.toNatClampNeg z121)) 17) v111.toNatClampNeg a)) 23 (upd ((va_up (va_up na108 16 (upd (na108 16) v111.toNatClampNeg z121)) 17 (upd ((va_up na108 16 (upd (na108 16) v111.toNatClampNeg z121)) 17) v111.toNatClampNeg a)) 23) v111.toNatClampNeg z123)) (va_up (va_up ma109 22 (upd (ma109 22) v111.toNatClampNeg rk)) 18 (upd ((va_up ma109 22 (upd (ma109 22) v111.toNatClampNeg rk)) 18) v111.toNatClampNeg a)) wa cf ca ef ea xf xa]) sp_23 rfl (fun H locs hw => ?_)
              refine lv_aload_n S.x S.b d_Mpg_settle_218 rfl (lv_at hl 1 rfl) ?_
              refine px_get S k_Mpg hT hw 0 0 23 (v := .ref (r 23)) rfl rfl rfl (by decide) m10_11 d_Mpg_settle_219 ?_
              refine lv_iload S.x S.b d_Mpg_settle_222 (lv_at hl 0 rfl) ?_
              refine lv_aload_n S.x S.b d_Mpg_settle_224 rfl (lv_at hl 1 rfl) ?_
              refine px_get S k_Mpg hT hw 0 0 23 (v := .ref (r 23)) rfl rfl rfl (by decide) m10_11 d_Mpg_settle_225 ?_
              refine lv_iload S.x S.b d_Mpg_settle_228 (lv_at hl 0 rfl) ?_
              refine px_iald S hT hw 0 19 (n := 2100) (f := ((va_up (va_up (va_up na108 16 (upd (na108 16) v111.toNatClampNeg z121)) 17 (upd ((va_up na108 16 (upd (na108 16) v111.toNatClampNeg z121)) 17) v111.toNatClampNeg a)) 23 (upd ((va_up (va_up na108 16 (upd (na108 16) v111.toNatClampNeg z121)) 17 (upd ((va_up na108 16 (upd (na108 16) v111.toNatClampNeg z121)) 17) v111.toNatClampNeg a)) 23) v111.toNatClampNeg z123)) 23)) rfl gp_23 (x := v111) (vp_in_iff.mpr (by constructor <;> omega)) d_Mpg_settle_230 ?_
              refine lv_topi (fun z124 ez124 => ?_)
              have lz124 := Int32.le_toInt z124
              have uz124 := Int32.toInt_lt z124
              have rz124 : z124.toInt = z123.toInt := by have q9 : z124.toInt = dp (va_up (va_up (va_up na108 16 (upd (na108 16) v111.toNatClampNeg z121)) 17 (upd ((va_up na108 16 (upd (na108 16) v111.toNatClampNeg z121)) 17) v111.toNatClampNeg a)) 23 (upd ((va_up (va_up na108 16 (upd (na108 16) v111.toNatClampNeg z121)) 17 (upd ((va_up na108 16 (upd (na108 16) v111.toNatClampNeg z121)) 17) v111.toNatClampNeg a)) 23) v111.toNatClampNeg z123)) v111 := (by rw [ez124]; rfl); rw [dp_us] at q9; exact q9
              refine lv_iconst (v := 1) S.x S.b d_Mpg_settle_231 (by decide) ?_
              refine lv_aload_n S.x S.b d_Mpg_settle_232 rfl (lv_at hl 1 rfl) ?_
              refine px_get S k_Mpg hT hw 0 0 23 (v := .ref (r 23)) rfl rfl rfl (by decide) m10_11 d_Mpg_settle_233 ?_
              refine lv_iload_n S.x S.b d_Mpg_settle_236 rfl (lv_at hl 2 rfl) ?_
              refine px_iald S hT hw 0 19 (n := 2100) (f := ((va_up (va_up (va_up na108 16 (upd (na108 16) v111.toNatClampNeg z121)) 17 (upd ((va_up na108 16 (upd (na108 16) v111.toNatClampNeg z121)) 17) v111.toNatClampNeg a)) 23 (upd ((va_up (va_up na108 16 (upd (na108 16) v111.toNatClampNeg z121)) 17 (upd ((va_up na108 16 (upd (na108 16) v111.toNatClampNeg z121)) 17) v111.toNatClampNeg a)) 23) v111.toNatClampNeg z123)) 23)) rfl gp_23 (x := p0) (vp_in_iff.mpr (by constructor <;> omega)) d_Mpg_settle_237 ?_
              refine lv_topi (fun z125 ez125 => ?_)
              have lz125 := Int32.le_toInt z125
              have uz125 := Int32.toInt_lt z125
              have rz125 : z125.toInt = dp na108 p0 := by have q9 : z125.toInt = dp (va_up (va_up (va_up na108 16 (upd (na108 16) v111.toNatClampNeg z121)) 17 (upd ((va_up na108 16 (upd (na108 16) v111.toNatClampNeg z121)) 17) v111.toNatClampNeg a)) 23 (upd ((va_up (va_up na108 16 (upd (na108 16) v111.toNatClampNeg z121)) 17 (upd ((va_up na108 16 (upd (na108 16) v111.toNatClampNeg z121)) 17) v111.toNatClampNeg a)) 23) v111.toNatClampNeg z123)) p0 := (by rw [ez125]; rfl); rw [dp_uf (by omega) (by omega) (by omega), dp_un (by decide), dp_un (by decide)] at q9; exact q9
              refine lv_iadd S.x S.b d_Mpg_settle_238 ?_
              refine lv_topi (fun z126 ez126 => ?_)
              have tz126 : z126.toInt = ((1 : Int) + z125.toInt + 2147483648) % 4294967296 - 2147483648 := by rw [ez126]; exact i_add 1 z125
              have lz126 := Int32.le_toInt z126
              have uz126 := Int32.toInt_lt z126
              try replace tz126 : z126.toInt = (1 : Int) + z125.toInt := by omega
              refine px_calli (pr := [wdP cs h r g tf ta pf107 (va_up (va_up (va_up na108 16 (upd (na108 16) v111.toNatClampNeg z121)) 17 (upd ((va_up na108 16 (upd (na108 16) v111.toNatClampNeg z121)) 17) v111.toNatClampNeg a)) 23 (upd ((va_up (va_up na108 16 (upd (na108 16) v111.toNatClampNeg z121)) 17 (upd ((va_up na108 16 (upd (na108 16) v111.toNatClampNeg z121)) 17) v111.toNatClampNeg a)) 23) v111.toNatClampNeg z123)) (va_up (va_up ma109 22 (upd (ma109 22) v111.toNatClampNeg rk)) 18 (upd ((va_up ma109 22 (upd (ma109 22) v111.toNatClampNeg rk)) 18) v111.toNatClampNeg a)) wa cf ca ef ea xf xa]) (px_runS (As := [.int z124, .int z126]) (rest := [.int v111, .ref (r 23)]) S (c_mp_deeper l D cs  z124 z126   _) hT (pr := [wdP cs h r g tf ta pf107 (va_up (va_up (va_up na108 16 (upd (na108 16) v111.toNatClampNeg z121)) 17 (upd ((va_up na108 16 (upd (na108 16) v111.toNatClampNeg z121)) 17) v111.toNatClampNeg a)) 23 (upd ((va_up (va_up na108 16 (upd (na108 16) v111.toNatClampNeg z121)) 17 (upd ((va_up na108 16 (upd (na108 16) v111.toNatClampNeg z121)) 17) v111.toNatClampNeg a)) 23) v111.toNatClampNeg z123)) (va_up (va_up ma109 22 (upd (ma109 22) v111.toNatClampNeg rk)) 18 (upd ((va_up ma109 22 (upd (ma109 22) v111.toNatClampNeg rk)) 18) v111.toNatClampNeg a)) wa cf ca ef ea xf xa]) (pcs := []) hw px_X.tt m12_49 m12_47 m12_48 m1_21 q_Mpg_deeper ⟨Nat.le_of_ble_eq_true rfl, Nat.le_of_ble_eq_true rfl⟩ hl.1 rfl (Nat.le_of_ble_eq_true rfl) d_Mpg_settle_239 ⟨Nat.le_of_ble_eq_true rfl, Nat.le_of_ble_eq_true rfl⟩) hw hA (fun v128 p127 H locs hp127 hw => ?_)
              obtain ⟨rfl, e129, e130, e131⟩ := hp127
              have e129 : z124.toInt ≤ v128.toInt := e129
              have e130 : z126.toInt ≤ v128.toInt := e130
              have e131 : v128.toInt = z124.toInt ∨ v128.toInt = z126.toInt := e131
              have hw : pw D A s.heap H locs [wdP cs h r g tf ta pf107 (va_up (va_up (va_up na108 16 (upd (na108 16) v111.toNatClampNeg z121)) 17 (upd ((va_up na108 16 (upd (na108 16) v111.toNatClampNeg z121)) 17) v111.toNatClampNeg a)) 23 (upd ((va_up (va_up na108 16 (upd (na108 16) v111.toNatClampNeg z121)) 17 (upd ((va_up na108 16 (upd (na108 16) v111.toNatClampNeg z121)) 17) v111.toNatClampNeg a)) 23) v111.toNatClampNeg z123)) (va_up (va_up ma109 22 (upd (ma109 22) v111.toNatClampNeg rk)) 18 (upd ((va_up ma109 22 (upd (ma109 22) v111.toNatClampNeg rk)) 18) v111.toNatClampNeg a)) wa cf ca ef ea xf xa] := hw
              have lv128 := Int32.le_toInt v128
              have uv128 := Int32.toInt_lt v128
              refine px_iast S hT hw 0 19 (n := 2100) (f := ((va_up (va_up (va_up na108 16 (upd (na108 16) v111.toNatClampNeg z121)) 17 (upd ((va_up na108 16 (upd (na108 16) v111.toNatClampNeg z121)) 17) v111.toNatClampNeg a)) 23 (upd ((va_up (va_up na108 16 (upd (na108 16) v111.toNatClampNeg z121)) 17 (upd ((va_up na108 16 (upd (na108 16) v111.toNatClampNeg z121)) 17) v111.toNatClampNeg a)) 23) v111.toNatClampNeg z123)) 23)) (x := v111) (y := v128) rfl gp_23 (vp_in_iff.mpr (by constructor <;> omega)) d_Mpg_settle_242 (w' := wdP cs h r g tf ta pf107 (va_up (va_up (va_up (va_up na108 16 (upd (na108 16) v111.toNatClampNeg z121)) 17 (upd ((va_up na108 16 (upd (na108 16) v111.toNatClampNeg z121)) 17) v111.toNatClampNeg a)) 23 (upd ((va_up (va_up na108 16 (upd (na108 16) v111.toNatClampNeg z121)) 17 (upd ((va_up na108 16 (upd (na108 16) v111.toNatClampNeg z121)) 17) v111.toNatClampNeg a)) 23) v111.toNatClampNeg z123)) 23 (upd ((va_up (va_up (va_up na108 16 (upd (na108 16) v111.toNatClampNeg z121)) 17 (upd ((va_up na108 16 (upd (na108 16) v111.toNatClampNeg z121)) 17) v111.toNatClampNeg a)) 23 (upd ((va_up (va_up na108 16 (upd (na108 16) v111.toNatClampNeg z121)) 17 (upd ((va_up na108 16 (upd (na108 16) v111.toNatClampNeg z121)) 17) v111.toNatClampNeg a)) 23) v111.toNatClampNeg z123)) 23) v111.toNatClampNeg v128)) (va_up (va_up ma109 22 (upd (ma109 22) v111.toNatClampNeg rk)) 18 (upd ((va_up ma109 22 (upd (ma109 22) v111.toNatClampNeg rk)) 18) v111.toNatClampNeg a)) wa cf ca ef ea xf xa) (ps' := [wdP cs h r g tf ta pf107 (va_up (va_up (va_up (va_up na108 16 (upd (na108 16) v111.toNatClampNeg z121)) 17 (upd ((va_up na108 16 (upd (na108 16) v111.toNatClampNeg z121)) 17) v111.toNatClampNeg a)) 23 (upd ((va_up (va_up na108 16 (upd (na108 16) v111.toNatClampNeg z121)) 17 (upd ((va_up na108 16 (upd (na108 16) v111.toNatClampNeg z121)) 17) v111.toNatClampNeg a)) 23) v111.toNatClampNeg z123)) 23 (upd ((va_up (va_up (va_up na108 16 (upd (na108 16) v111.toNatClampNeg z121)) 17 (upd ((va_up na108 16 (upd (na108 16) v111.toNatClampNeg z121)) 17) v111.toNatClampNeg a)) 23 (upd ((va_up (va_up na108 16 (upd (na108 16) v111.toNatClampNeg z121)) 17 (upd ((va_up na108 16 (upd (na108 16) v111.toNatClampNeg z121)) 17) v111.toNatClampNeg a)) 23) v111.toNatClampNeg z123)) 23) v111.toNatClampNeg v128)) (va_up (va_up ma109 22 (upd (ma109 22) v111.toNatClampNeg rk)) 18 (upd ((va_up ma109 22 (upd (ma109 22) v111.toNatClampNeg rk)) 18) v111.toNatClampNeg a)) wa cf ca ef ea xf xa]) sp_23 rfl (fun H locs hw => ?_)
              refine lv_aload_n S.x S.b d_Mpg_settle_243 rfl (lv_at hl 1 rfl) ?_
              refine px_get S k_Mpg hT hw 0 0 21 (v := .ref (r 21)) rfl rfl rfl (by decide) m10_7 d_Mpg_settle_244 ?_
              refine lv_aload_n S.x S.b d_Mpg_settle_247 rfl (lv_at hl 1 rfl) ?_
              refine px_get S k_Mpg hT hw 0 0 18 (v := .ref (r 18)) rfl rfl rfl (by decide) m10_3 d_Mpg_settle_248 ?_
              refine lv_iload S.x S.b d_Mpg_settle_251 (lv_at hl 0 rfl) ?_
              refine px_iald S hT hw 0 14 (n := 2100) (f := ((va_up (va_up ma109 22 (upd (ma109 22) v111.toNatClampNeg rk)) 18 (upd ((va_up ma109 22 (upd (ma109 22) v111.toNatClampNeg rk)) 18) v111.toNatClampNeg a)) 18)) rfl gp_18 (x := v111) (vp_in_iff.mpr (by constructor <;> omega)) d_Mpg_settle_253 ?_
              refine lv_topi (fun z132 ez132 => ?_)
              have lz132 := Int32.le_toInt z132
              have uz132 := Int32.toInt_lt z132
              have hsz132 : a = z132 := (by rw [ez132, va_up_s, pk_us]); subst hsz132
              refine lv_iload_n S.x S.b d_Mpg_settle_254 rfl (lv_at hl 2 rfl) ?_
              refine px_iast S hT hw 0 17 (n := 2100) (f := ((va_up (va_up (va_up (va_up na108 16 (upd (na108 16) v111.toNatClampNeg z121)) 17 (upd ((va_up na108 16 (upd (na108 16) v111.toNatClampNeg z121)) 17) v111.toNatClampNeg a)) 23 (upd ((va_up (va_up na108 16 (upd (na108 16) v111.toNatClampNeg z121)) 17 (upd ((va_up na108 16 (upd (na108 16) v111.toNatClampNeg z121)) 17) v111.toNatClampNeg a)) 23) v111.toNatClampNeg z123)) 23 (upd ((va_up (va_up (va_up na108 16 (upd (na108 16) v111.toNatClampNeg z121)) 17 (upd ((va_up na108 16 (upd (na108 16) v111.toNatClampNeg z121)) 17) v111.toNatClampNeg a)) 23 (upd ((va_up (va_up na108 16 (upd (na108 16) v111.toNatClampNeg z121)) 17 (upd ((va_up na108 16 (upd (na108 16) v111.toNatClampNeg z121)) 17) v111.toNatClampNeg a)) 23) v111.toNatClampNeg z123)) 23) v111.toNatClampNeg v128)) 21)) (x := a) (y := p0) rfl gp_21 (vp_in_iff.mpr (by constructor <;> omega)) d_Mpg_settle_255 (w' := wdP cs h r g tf ta pf107 (va_up (va_up (va_up (va_up (va_up na108 16 (upd (na108 16) v111.toNatClampNeg z121)) 17 (upd ((va_up na108 16 (upd (na108 16) v111.toNatClampNeg z121)) 17) v111.toNatClampNeg a)) 23 (upd ((va_up (va_up na108 16 (upd (na108 16) v111.toNatClampNeg z121)) 17 (upd ((va_up na108 16 (upd (na108 16) v111.toNatClampNeg z121)) 17) v111.toNatClampNeg a)) 23) v111.toNatClampNeg z123)) 23 (upd ((va_up (va_up (va_up na108 16 (upd (na108 16) v111.toNatClampNeg z121)) 17 (upd ((va_up na108 16 (upd (na108 16) v111.toNatClampNeg z121)) 17) v111.toNatClampNeg a)) 23 (upd ((va_up (va_up na108 16 (upd (na108 16) v111.toNatClampNeg z121)) 17 (upd ((va_up na108 16 (upd (na108 16) v111.toNatClampNeg z121)) 17) v111.toNatClampNeg a)) 23) v111.toNatClampNeg z123)) 23) v111.toNatClampNeg v128)) 21 (upd ((va_up (va_up (va_up (va_up na108 16 (upd (na108 16) v111.toNatClampNeg z121)) 17 (upd ((va_up na108 16 (upd (na108 16) v111.toNatClampNeg z121)) 17) v111.toNatClampNeg a)) 23 (upd ((va_up (va_up na108 16 (upd (na108 16) v111.toNatClampNeg z121)) 17 (upd ((va_up na108 16 (upd (na108 16) v111.toNatClampNeg z121)) 17) v111.toNatClampNeg a)) 23) v111.toNatClampNeg z123)) 23 (upd ((va_up (va_up (va_up na108 16 (upd (na108 16) v111.toNatClampNeg z121)) 17 (upd ((va_up na108 16 (upd (na108 16) v111.toNatClampNeg z121)) 17) v111.toNatClampNeg a)) 23 (upd ((va_up (va_up na108 16 (upd (na108 16) v111.toNatClampNeg z121)) 17 (upd ((va_up na108 16 (upd (na108 16) v111.toNatClampNeg z121)) 17) v111.toNatClampNeg a)) 23) v111.toNatClampNeg z123)) 23) v111.toNatClampNeg v128)) 21) a.toNatClampNeg p0)) (va_up (va_up ma109 22 (upd (ma109 22) v111.toNatClampNeg rk)) 18 (upd ((va_up ma109 22 (upd (ma109 22) v111.toNatClampNeg rk)) 18) v111.toNatClampNeg a)) wa cf ca ef ea xf xa) (ps' := [wdP cs h r g tf ta pf107 (va_up (va_up (va_up (va_up (va_up na108 16 (upd (na108 16) v111.toNatClampNeg z121)) 17 (upd ((va_up na108 16 (upd (na108 16) v111.toNatClampNeg z121)) 17) v111.toNatClampNeg a)) 23 (upd ((va_up (va_up na108 16 (upd (na108 16) v111.toNatClampNeg z121)) 17 (upd ((va_up na108 16 (upd (na108 16) v111.toNatClampNeg z121)) 17) v111.toNatClampNeg a)) 23) v111.toNatClampNeg z123)) 23 (upd ((va_up (va_up (va_up na108 16 (upd (na108 16) v111.toNatClampNeg z121)) 17 (upd ((va_up na108 16 (upd (na108 16) v111.toNatClampNeg z121)) 17) v111.toNatClampNeg a)) 23 (upd ((va_up (va_up na108 16 (upd (na108 16) v111.toNatClampNeg z121)) 17 (upd ((va_up na108 16 (upd (na108 16) v111.toNatClampNeg z121)) 17) v111.toNatClampNeg a)) 23) v111.toNatClampNeg z123)) 23) v111.toNatClampNeg v128)) 21 (upd ((va_up (va_up (va_up (va_up na108 16 (upd (na108 16) v111.toNatClampNeg z121)) 17 (upd ((va_up na108 16 (upd (na108 16) v111.toNatClampNeg z121)) 17) v111.toNatClampNeg a)) 23 (upd ((va_up (va_up na108 16 (upd (na108 16) v111.toNatClampNeg z121)) 17 (upd ((va_up na108 16 (upd (na108 16) v111.toNatClampNeg z121)) 17) v111.toNatClampNeg a)) 23) v111.toNatClampNeg z123)) 23 (upd ((va_up (va_up (va_up na108 16 (upd (na108 16) v111.toNatClampNeg z121)) 17 (upd ((va_up na108 16 (upd (na108 16) v111.toNatClampNeg z121)) 17) v111.toNatClampNeg a)) 23 (upd ((va_up (va_up na108 16 (upd (na108 16) v111.toNatClampNeg z121)) 17 (upd ((va_up na108 16 (upd (na108 16) v111.toNatClampNeg z121)) 17) v111.toNatClampNeg a)) 23) v111.toNatClampNeg z123)) 23) v111.toNatClampNeg v128)) 21) a.toNatClampNeg p0)) (va_up (va_up ma109 22 (upd (ma109 22) v111.toNatClampNeg rk)) 18 (upd ((va_up ma109 22 (upd (ma109 22) v111.toNatClampNeg rk)) 18) v111.toNatClampNeg a)) wa cf ca ef ea xf xa]) sp_21 rfl (fun H locs hw => ?_)
              refine lv_aload_n S.x S.b d_Mpg_settle_256 rfl (lv_at hl 1 rfl) ?_
              refine px_get S k_Mpg hT hw 0 0 18 (v := .ref (r 18)) rfl rfl rfl (by decide) m10_3 d_Mpg_settle_257 ?_
              refine lv_iload S.x S.b d_Mpg_settle_260 (lv_at hl 0 rfl) ?_
              refine lv_iload_n S.x S.b d_Mpg_settle_262 rfl (lv_at hl 2 rfl) ?_
              refine px_iast S hT hw 0 14 (n := 2100) (f := ((va_up (va_up ma109 22 (upd (ma109 22) v111.toNatClampNeg rk)) 18 (upd ((va_up ma109 22 (upd (ma109 22) v111.toNatClampNeg rk)) 18) v111.toNatClampNeg a)) 18)) (x := v111) (y := p0) rfl gp_18 (vp_in_iff.mpr (by constructor <;> omega)) d_Mpg_settle_263 (w' := wdP cs h r g tf ta pf107 (va_up (va_up (va_up (va_up (va_up na108 16 (upd (na108 16) v111.toNatClampNeg z121)) 17 (upd ((va_up na108 16 (upd (na108 16) v111.toNatClampNeg z121)) 17) v111.toNatClampNeg a)) 23 (upd ((va_up (va_up na108 16 (upd (na108 16) v111.toNatClampNeg z121)) 17 (upd ((va_up na108 16 (upd (na108 16) v111.toNatClampNeg z121)) 17) v111.toNatClampNeg a)) 23) v111.toNatClampNeg z123)) 23 (upd ((va_up (va_up (va_up na108 16 (upd (na108 16) v111.toNatClampNeg z121)) 17 (upd ((va_up na108 16 (upd (na108 16) v111.toNatClampNeg z121)) 17) v111.toNatClampNeg a)) 23 (upd ((va_up (va_up na108 16 (upd (na108 16) v111.toNatClampNeg z121)) 17 (upd ((va_up na108 16 (upd (na108 16) v111.toNatClampNeg z121)) 17) v111.toNatClampNeg a)) 23) v111.toNatClampNeg z123)) 23) v111.toNatClampNeg v128)) 21 (upd ((va_up (va_up (va_up (va_up na108 16 (upd (na108 16) v111.toNatClampNeg z121)) 17 (upd ((va_up na108 16 (upd (na108 16) v111.toNatClampNeg z121)) 17) v111.toNatClampNeg a)) 23 (upd ((va_up (va_up na108 16 (upd (na108 16) v111.toNatClampNeg z121)) 17 (upd ((va_up na108 16 (upd (na108 16) v111.toNatClampNeg z121)) 17) v111.toNatClampNeg a)) 23) v111.toNatClampNeg z123)) 23 (upd ((va_up (va_up (va_up na108 16 (upd (na108 16) v111.toNatClampNeg z121)) 17 (upd ((va_up na108 16 (upd (na108 16) v111.toNatClampNeg z121)) 17) v111.toNatClampNeg a)) 23 (upd ((va_up (va_up na108 16 (upd (na108 16) v111.toNatClampNeg z121)) 17 (upd ((va_up na108 16 (upd (na108 16) v111.toNatClampNeg z121)) 17) v111.toNatClampNeg a)) 23) v111.toNatClampNeg z123)) 23) v111.toNatClampNeg v128)) 21) a.toNatClampNeg p0)) (va_up (va_up (va_up ma109 22 (upd (ma109 22) v111.toNatClampNeg rk)) 18 (upd ((va_up ma109 22 (upd (ma109 22) v111.toNatClampNeg rk)) 18) v111.toNatClampNeg a)) 18 (upd ((va_up (va_up ma109 22 (upd (ma109 22) v111.toNatClampNeg rk)) 18 (upd ((va_up ma109 22 (upd (ma109 22) v111.toNatClampNeg rk)) 18) v111.toNatClampNeg a)) 18) v111.toNatClampNeg p0)) wa cf ca ef ea xf xa) (ps' := [wdP cs h r g tf ta pf107 (va_up (va_up (va_up (va_up (va_up na108 16 (upd (na108 16) v111.toNatClampNeg z121)) 17 (upd ((va_up na108 16 (upd (na108 16) v111.toNatClampNeg z121)) 17) v111.toNatClampNeg a)) 23 (upd ((va_up (va_up na108 16 (upd (na108 16) v111.toNatClampNeg z121)) 17 (upd ((va_up na108 16 (upd (na108 16) v111.toNatClampNeg z121)) 17) v111.toNatClampNeg a)) 23) v111.toNatClampNeg z123)) 23 (upd ((va_up (va_up (va_up na108 16 (upd (na108 16) v111.toNatClampNeg z121)) 17 (upd ((va_up na108 16 (upd (na108 16) v111.toNatClampNeg z121)) 17) v111.toNatClampNeg a)) 23 (upd ((va_up (va_up na108 16 (upd (na108 16) v111.toNatClampNeg z121)) 17 (upd ((va_up na108 16 (upd (na108 16) v111.toNatClampNeg z121)) 17) v111.toNatClampNeg a)) 23) v111.toNatClampNeg z123)) 23) v111.toNatClampNeg v128)) 21 (upd ((va_up (va_up (va_up (va_up na108 16 (upd (na108 16) v111.toNatClampNeg z121)) 17 (upd ((va_up na108 16 (upd (na108 16) v111.toNatClampNeg z121)) 17) v111.toNatClampNeg a)) 23 (upd ((va_up (va_up na108 16 (upd (na108 16) v111.toNatClampNeg z121)) 17 (upd ((va_up na108 16 (upd (na108 16) v111.toNatClampNeg z121)) 17) v111.toNatClampNeg a)) 23) v111.toNatClampNeg z123)) 23 (upd ((va_up (va_up (va_up na108 16 (upd (na108 16) v111.toNatClampNeg z121)) 17 (upd ((va_up na108 16 (upd (na108 16) v111.toNatClampNeg z121)) 17) v111.toNatClampNeg a)) 23 (upd ((va_up (va_up na108 16 (upd (na108 16) v111.toNatClampNeg z121)) 17 (upd ((va_up na108 16 (upd (na108 16) v111.toNatClampNeg z121)) 17) v111.toNatClampNeg a)) 23) v111.toNatClampNeg z123)) 23) v111.toNatClampNeg v128)) 21) a.toNatClampNeg p0)) (va_up (va_up (va_up ma109 22 (upd (ma109 22) v111.toNatClampNeg rk)) 18 (upd ((va_up ma109 22 (upd (ma109 22) v111.toNatClampNeg rk)) 18) v111.toNatClampNeg a)) 18 (upd ((va_up (va_up ma109 22 (upd (ma109 22) v111.toNatClampNeg rk)) 18 (upd ((va_up ma109 22 (upd (ma109 22) v111.toNatClampNeg rk)) 18) v111.toNatClampNeg a)) 18) v111.toNatClampNeg p0)) wa cf ca ef ea xf xa]) sp_18 rfl (fun H locs hw => ?_)
              refine lv_aload_n S.x S.b d_Mpg_settle_264 rfl (lv_at hl 1 rfl) ?_
              refine px_get S k_Mpg hT hw 0 0 20 (v := .ref (r 20)) rfl rfl rfl (by decide) m10_6 d_Mpg_settle_265 ?_
              refine lv_iload_n S.x S.b d_Mpg_settle_268 rfl (lv_at hl 2 rfl) ?_
              refine lv_aload_n S.x S.b d_Mpg_settle_269 rfl (lv_at hl 1 rfl) ?_
              refine px_get S k_Mpg hT hw 0 0 28 (v := .ref (r 28)) rfl rfl rfl (by decide) m10_16 d_Mpg_settle_270 ?_
              refine lv_aload_n S.x S.b d_Mpg_settle_273 rfl (lv_at hl 1 rfl) ?_
              refine px_get S k_Mpg hT hw 0 0 26 (v := .int (pf107 26)) rfl rfl rfl (by decide) m10_14 d_Mpg_settle_274 ?_
              refine px_iald S hT hw 0 21 (n := 700) (f := (wa 28)) rfl gp_28 (x := (pf107 26)) (vp_in_iff.mpr (by constructor <;> omega)) d_Mpg_settle_277 ?_
              refine lv_topi (fun z133 ez133 => ?_)
              have lz133 := Int32.le_toInt z133
              have uz133 := Int32.toInt_lt z133
              have hwi : (pf107 26).toNatClampNeg = ((pf 26).toInt - 1).toNat := (by have hq9 := cl_nat (x := (pf107 26)) (by omega); omega); have hsz133 : tk = z133 := (by rw [ez133, hwi]; exact hTop.2.2.symm); subst hsz133
              refine px_iast S hT hw 0 16 (n := 2100) (f := ((va_up (va_up (va_up ma109 22 (upd (ma109 22) v111.toNatClampNeg rk)) 18 (upd ((va_up ma109 22 (upd (ma109 22) v111.toNatClampNeg rk)) 18) v111.toNatClampNeg a)) 18 (upd ((va_up (va_up ma109 22 (upd (ma109 22) v111.toNatClampNeg rk)) 18 (upd ((va_up ma109 22 (upd (ma109 22) v111.toNatClampNeg rk)) 18) v111.toNatClampNeg a)) 18) v111.toNatClampNeg p0)) 20)) (x := p0) (y := tk) rfl gp_20 (vp_in_iff.mpr (by constructor <;> omega)) d_Mpg_settle_278 (w' := wdP cs h r g tf ta pf107 (va_up (va_up (va_up (va_up (va_up na108 16 (upd (na108 16) v111.toNatClampNeg z121)) 17 (upd ((va_up na108 16 (upd (na108 16) v111.toNatClampNeg z121)) 17) v111.toNatClampNeg a)) 23 (upd ((va_up (va_up na108 16 (upd (na108 16) v111.toNatClampNeg z121)) 17 (upd ((va_up na108 16 (upd (na108 16) v111.toNatClampNeg z121)) 17) v111.toNatClampNeg a)) 23) v111.toNatClampNeg z123)) 23 (upd ((va_up (va_up (va_up na108 16 (upd (na108 16) v111.toNatClampNeg z121)) 17 (upd ((va_up na108 16 (upd (na108 16) v111.toNatClampNeg z121)) 17) v111.toNatClampNeg a)) 23 (upd ((va_up (va_up na108 16 (upd (na108 16) v111.toNatClampNeg z121)) 17 (upd ((va_up na108 16 (upd (na108 16) v111.toNatClampNeg z121)) 17) v111.toNatClampNeg a)) 23) v111.toNatClampNeg z123)) 23) v111.toNatClampNeg v128)) 21 (upd ((va_up (va_up (va_up (va_up na108 16 (upd (na108 16) v111.toNatClampNeg z121)) 17 (upd ((va_up na108 16 (upd (na108 16) v111.toNatClampNeg z121)) 17) v111.toNatClampNeg a)) 23 (upd ((va_up (va_up na108 16 (upd (na108 16) v111.toNatClampNeg z121)) 17 (upd ((va_up na108 16 (upd (na108 16) v111.toNatClampNeg z121)) 17) v111.toNatClampNeg a)) 23) v111.toNatClampNeg z123)) 23 (upd ((va_up (va_up (va_up na108 16 (upd (na108 16) v111.toNatClampNeg z121)) 17 (upd ((va_up na108 16 (upd (na108 16) v111.toNatClampNeg z121)) 17) v111.toNatClampNeg a)) 23 (upd ((va_up (va_up na108 16 (upd (na108 16) v111.toNatClampNeg z121)) 17 (upd ((va_up na108 16 (upd (na108 16) v111.toNatClampNeg z121)) 17) v111.toNatClampNeg a)) 23) v111.toNatClampNeg z123)) 23) v111.toNatClampNeg v128)) 21) a.toNatClampNeg p0)) (va_up (va_up (va_up (va_up ma109 22 (upd (ma109 22) v111.toNatClampNeg rk)) 18 (upd ((va_up ma109 22 (upd (ma109 22) v111.toNatClampNeg rk)) 18) v111.toNatClampNeg a)) 18 (upd ((va_up (va_up ma109 22 (upd (ma109 22) v111.toNatClampNeg rk)) 18 (upd ((va_up ma109 22 (upd (ma109 22) v111.toNatClampNeg rk)) 18) v111.toNatClampNeg a)) 18) v111.toNatClampNeg p0)) 20 (upd ((va_up (va_up (va_up ma109 22 (upd (ma109 22) v111.toNatClampNeg rk)) 18 (upd ((va_up ma109 22 (upd (ma109 22) v111.toNatClampNeg rk)) 18) v111.toNatClampNeg a)) 18 (upd ((va_up (va_up ma109 22 (upd (ma109 22) v111.toNatClampNeg rk)) 18 (upd ((va_up ma109 22 (upd (ma109 22) v111.toNatClampNeg rk)) 18) v111.toNatClampNeg a)) 18) v111.toNatClampNeg p0)) 20) p0.toNatClampNeg tk)) wa cf ca ef ea xf xa) (ps' := [wdP cs h r g tf ta pf107 (va_up (va_up (va_up (va_up (va_up na108 16 (upd (na108 16) v111.toNatClampNeg z121)) 17 (upd ((va_up na108 16 (upd (na108 16) v111.toNatClampNeg z121)) 17) v111.toNatClampNeg a)) 23 (upd ((va_up (va_up na108 16 (upd (na108 16) v111.toNatClampNeg z121)) 17 (upd ((va_up na108 16 (upd (na108 16) v111.toNatClampNeg z121)) 17) v111.toNatClampNeg a)) 23) v111.toNatClampNeg z123)) 23 (upd ((va_up (va_up (va_up na108 16 (upd (na108 16) v111.toNatClampNeg z121)) 17 (upd ((va_up na108 16 (upd (na108 16) v111.toNatClampNeg z121)) 17) v111.toNatClampNeg a)) 23 (upd ((va_up (va_up na108 16 (upd (na108 16) v111.toNatClampNeg z121)) 17 (upd ((va_up na108 16 (upd (na108 16) v111.toNatClampNeg z121)) 17) v111.toNatClampNeg a)) 23) v111.toNatClampNeg z123)) 23) v111.toNatClampNeg v128)) 21 (upd ((va_up (va_up (va_up (va_up na108 16 (upd (na108 16) v111.toNatClampNeg z121)) 17 (upd ((va_up na108 16 (upd (na108 16) v111.toNatClampNeg z121)) 17) v111.toNatClampNeg a)) 23 (upd ((va_up (va_up na108 16 (upd (na108 16) v111.toNatClampNeg z121)) 17 (upd ((va_up na108 16 (upd (na108 16) v111.toNatClampNeg z121)) 17) v111.toNatClampNeg a)) 23) v111.toNatClampNeg z123)) 23 (upd ((va_up (va_up (va_up na108 16 (upd (na108 16) v111.toNatClampNeg z121)) 17 (upd ((va_up na108 16 (upd (na108 16) v111.toNatClampNeg z121)) 17) v111.toNatClampNeg a)) 23 (upd ((va_up (va_up na108 16 (upd (na108 16) v111.toNatClampNeg z121)) 17 (upd ((va_up na108 16 (upd (na108 16) v111.toNatClampNeg z121)) 17) v111.toNatClampNeg a)) 23) v111.toNatClampNeg z123)) 23) v111.toNatClampNeg v128)) 21) a.toNatClampNeg p0)) (va_up (va_up (va_up (va_up ma109 22 (upd (ma109 22) v111.toNatClampNeg rk)) 18 (upd ((va_up ma109 22 (upd (ma109 22) v111.toNatClampNeg rk)) 18) v111.toNatClampNeg a)) 18 (upd ((va_up (va_up ma109 22 (upd (ma109 22) v111.toNatClampNeg rk)) 18 (upd ((va_up ma109 22 (upd (ma109 22) v111.toNatClampNeg rk)) 18) v111.toNatClampNeg a)) 18) v111.toNatClampNeg p0)) 20 (upd ((va_up (va_up (va_up ma109 22 (upd (ma109 22) v111.toNatClampNeg rk)) 18 (upd ((va_up ma109 22 (upd (ma109 22) v111.toNatClampNeg rk)) 18) v111.toNatClampNeg a)) 18 (upd ((va_up (va_up ma109 22 (upd (ma109 22) v111.toNatClampNeg rk)) 18 (upd ((va_up ma109 22 (upd (ma109 22) v111.toNatClampNeg rk)) 18) v111.toNatClampNeg a)) 18) v111.toNatClampNeg p0)) 20) p0.toNatClampNeg tk)) wa cf ca ef ea xf xa]) sp_20 rfl (fun H locs hw => ?_)
              refine lv_iload S.x S.b d_Mpg_settle_279 (lv_at hl 0 rfl) ?_
              exact px_iret (v := v111) S hr rfl hlk hAe hw (Nat.le_of_ble_eq_true rfl) (Nat.le_of_ble_eq_true rfl) (⟨pf107, (va_up (va_up (va_up (va_up (va_up na108 16 (upd (na108 16) v111.toNatClampNeg z121)) 17 (upd ((va_up na108 16 (upd (na108 16) v111.toNatClampNeg z121)) 17) v111.toNatClampNeg a)) 23 (upd ((va_up (va_up na108 16 (upd (na108 16) v111.toNatClampNeg z121)) 17 (upd ((va_up na108 16 (upd (na108 16) v111.toNatClampNeg z121)) 17) v111.toNatClampNeg a)) 23) v111.toNatClampNeg z123)) 23 (upd ((va_up (va_up (va_up na108 16 (upd (na108 16) v111.toNatClampNeg z121)) 17 (upd ((va_up na108 16 (upd (na108 16) v111.toNatClampNeg z121)) 17) v111.toNatClampNeg a)) 23 (upd ((va_up (va_up na108 16 (upd (na108 16) v111.toNatClampNeg z121)) 17 (upd ((va_up na108 16 (upd (na108 16) v111.toNatClampNeg z121)) 17) v111.toNatClampNeg a)) 23) v111.toNatClampNeg z123)) 23) v111.toNatClampNeg v128)) 21 (upd ((va_up (va_up (va_up (va_up na108 16 (upd (na108 16) v111.toNatClampNeg z121)) 17 (upd ((va_up na108 16 (upd (na108 16) v111.toNatClampNeg z121)) 17) v111.toNatClampNeg a)) 23 (upd ((va_up (va_up na108 16 (upd (na108 16) v111.toNatClampNeg z121)) 17 (upd ((va_up na108 16 (upd (na108 16) v111.toNatClampNeg z121)) 17) v111.toNatClampNeg a)) 23) v111.toNatClampNeg z123)) 23 (upd ((va_up (va_up (va_up na108 16 (upd (na108 16) v111.toNatClampNeg z121)) 17 (upd ((va_up na108 16 (upd (na108 16) v111.toNatClampNeg z121)) 17) v111.toNatClampNeg a)) 23 (upd ((va_up (va_up na108 16 (upd (na108 16) v111.toNatClampNeg z121)) 17 (upd ((va_up na108 16 (upd (na108 16) v111.toNatClampNeg z121)) 17) v111.toNatClampNeg a)) 23) v111.toNatClampNeg z123)) 23) v111.toNatClampNeg v128)) 21) a.toNatClampNeg p0)), (va_up (va_up (va_up (va_up ma109 22 (upd (ma109 22) v111.toNatClampNeg rk)) 18 (upd ((va_up ma109 22 (upd (ma109 22) v111.toNatClampNeg rk)) 18) v111.toNatClampNeg a)) 18 (upd ((va_up (va_up ma109 22 (upd (ma109 22) v111.toNatClampNeg rk)) 18 (upd ((va_up ma109 22 (upd (ma109 22) v111.toNatClampNeg rk)) 18) v111.toNatClampNeg a)) 18) v111.toNatClampNeg p0)) 20 (upd ((va_up (va_up (va_up ma109 22 (upd (ma109 22) v111.toNatClampNeg rk)) 18 (upd ((va_up ma109 22 (upd (ma109 22) v111.toNatClampNeg rk)) 18) v111.toNatClampNeg a)) 18 (upd ((va_up (va_up ma109 22 (upd (ma109 22) v111.toNatClampNeg rk)) 18 (upd ((va_up ma109 22 (upd (ma109 22) v111.toNatClampNeg rk)) 18) v111.toNatClampNeg a)) 18) v111.toNatClampNeg p0)) 20) p0.toNatClampNeg tk)), rfl, (show (pf107 26).toInt = (pf 26).toInt - 1 from by omega), (show (pf107 12).toInt = (pf 12).toInt - 1 from by omega), (show (pf 13).toInt ≤ (pf107 13).toInt from by omega), (show (pf107 13).toInt ≤ (pf 13).toInt + 1 from by omega), (show (pf107 11).toInt = (pf 11).toInt from by omega), (show (pf107 24).toInt = (pf 24).toInt from by omega), (show (pf107 25).toInt = (pf 25).toInt from by omega), (show FrB lo na ma (va_up (va_up (va_up (va_up (va_up na108 16 (upd (na108 16) v111.toNatClampNeg z121)) 17 (upd ((va_up na108 16 (upd (na108 16) v111.toNatClampNeg z121)) 17) v111.toNatClampNeg a)) 23 (upd ((va_up (va_up na108 16 (upd (na108 16) v111.toNatClampNeg z121)) 17 (upd ((va_up na108 16 (upd (na108 16) v111.toNatClampNeg z121)) 17) v111.toNatClampNeg a)) 23) v111.toNatClampNeg z123)) 23 (upd ((va_up (va_up (va_up na108 16 (upd (na108 16) v111.toNatClampNeg z121)) 17 (upd ((va_up na108 16 (upd (na108 16) v111.toNatClampNeg z121)) 17) v111.toNatClampNeg a)) 23 (upd ((va_up (va_up na108 16 (upd (na108 16) v111.toNatClampNeg z121)) 17 (upd ((va_up na108 16 (upd (na108 16) v111.toNatClampNeg z121)) 17) v111.toNatClampNeg a)) 23) v111.toNatClampNeg z123)) 23) v111.toNatClampNeg v128)) 21 (upd ((va_up (va_up (va_up (va_up na108 16 (upd (na108 16) v111.toNatClampNeg z121)) 17 (upd ((va_up na108 16 (upd (na108 16) v111.toNatClampNeg z121)) 17) v111.toNatClampNeg a)) 23 (upd ((va_up (va_up na108 16 (upd (na108 16) v111.toNatClampNeg z121)) 17 (upd ((va_up na108 16 (upd (na108 16) v111.toNatClampNeg z121)) 17) v111.toNatClampNeg a)) 23) v111.toNatClampNeg z123)) 23 (upd ((va_up (va_up (va_up na108 16 (upd (na108 16) v111.toNatClampNeg z121)) 17 (upd ((va_up na108 16 (upd (na108 16) v111.toNatClampNeg z121)) 17) v111.toNatClampNeg a)) 23 (upd ((va_up (va_up na108 16 (upd (na108 16) v111.toNatClampNeg z121)) 17 (upd ((va_up na108 16 (upd (na108 16) v111.toNatClampNeg z121)) 17) v111.toNatClampNeg a)) 23) v111.toNatClampNeg z123)) 23) v111.toNatClampNeg v128)) 21) a.toNatClampNeg p0)) (va_up (va_up (va_up (va_up ma109 22 (upd (ma109 22) v111.toNatClampNeg rk)) 18 (upd ((va_up ma109 22 (upd (ma109 22) v111.toNatClampNeg rk)) 18) v111.toNatClampNeg a)) 18 (upd ((va_up (va_up ma109 22 (upd (ma109 22) v111.toNatClampNeg rk)) 18 (upd ((va_up ma109 22 (upd (ma109 22) v111.toNatClampNeg rk)) 18) v111.toNatClampNeg a)) 18) v111.toNatClampNeg p0)) 20 (upd ((va_up (va_up (va_up ma109 22 (upd (ma109 22) v111.toNatClampNeg rk)) 18 (upd ((va_up ma109 22 (upd (ma109 22) v111.toNatClampNeg rk)) 18) v111.toNatClampNeg a)) 18 (upd ((va_up (va_up ma109 22 (upd (ma109 22) v111.toNatClampNeg rk)) 18 (upd ((va_up ma109 22 (upd (ma109 22) v111.toNatClampNeg rk)) 18) v111.toNatClampNeg a)) 18) v111.toNatClampNeg p0)) 20) p0.toNatClampNeg tk)) from (FrB.um (FrB.um (FrB.un (FrB.un (FrB.un (FrB.um (FrB.un (FrB.um (FrB.un hfb (by omega) (by omega)) (by omega) (by omega)) (by omega) (by omega)) (by omega) (by omega)) (by omega) (by omega)) (by omega) (by omega)) (by omega) (by omega)) (by omega) (by omega)) (by omega) (by omega))), (show ExR ta (tf 6).toInt (va_up (va_up (va_up (va_up (va_up na108 16 (upd (na108 16) v111.toNatClampNeg z121)) 17 (upd ((va_up na108 16 (upd (na108 16) v111.toNatClampNeg z121)) 17) v111.toNatClampNeg a)) 23 (upd ((va_up (va_up na108 16 (upd (na108 16) v111.toNatClampNeg z121)) 17 (upd ((va_up na108 16 (upd (na108 16) v111.toNatClampNeg z121)) 17) v111.toNatClampNeg a)) 23) v111.toNatClampNeg z123)) 23 (upd ((va_up (va_up (va_up na108 16 (upd (na108 16) v111.toNatClampNeg z121)) 17 (upd ((va_up na108 16 (upd (na108 16) v111.toNatClampNeg z121)) 17) v111.toNatClampNeg a)) 23 (upd ((va_up (va_up na108 16 (upd (na108 16) v111.toNatClampNeg z121)) 17 (upd ((va_up na108 16 (upd (na108 16) v111.toNatClampNeg z121)) 17) v111.toNatClampNeg a)) 23) v111.toNatClampNeg z123)) 23) v111.toNatClampNeg v128)) 21 (upd ((va_up (va_up (va_up (va_up na108 16 (upd (na108 16) v111.toNatClampNeg z121)) 17 (upd ((va_up na108 16 (upd (na108 16) v111.toNatClampNeg z121)) 17) v111.toNatClampNeg a)) 23 (upd ((va_up (va_up na108 16 (upd (na108 16) v111.toNatClampNeg z121)) 17 (upd ((va_up na108 16 (upd (na108 16) v111.toNatClampNeg z121)) 17) v111.toNatClampNeg a)) 23) v111.toNatClampNeg z123)) 23 (upd ((va_up (va_up (va_up na108 16 (upd (na108 16) v111.toNatClampNeg z121)) 17 (upd ((va_up na108 16 (upd (na108 16) v111.toNatClampNeg z121)) 17) v111.toNatClampNeg a)) 23 (upd ((va_up (va_up na108 16 (upd (na108 16) v111.toNatClampNeg z121)) 17 (upd ((va_up na108 16 (upd (na108 16) v111.toNatClampNeg z121)) 17) v111.toNatClampNeg a)) 23) v111.toNatClampNeg z123)) 23) v111.toNatClampNeg v128)) 21) a.toNatClampNeg p0)) (va_up (va_up (va_up (va_up ma109 22 (upd (ma109 22) v111.toNatClampNeg rk)) 18 (upd ((va_up ma109 22 (upd (ma109 22) v111.toNatClampNeg rk)) 18) v111.toNatClampNeg a)) 18 (upd ((va_up (va_up ma109 22 (upd (ma109 22) v111.toNatClampNeg rk)) 18 (upd ((va_up ma109 22 (upd (ma109 22) v111.toNatClampNeg rk)) 18) v111.toNatClampNeg a)) 18) v111.toNatClampNeg p0)) 20 (upd ((va_up (va_up (va_up ma109 22 (upd (ma109 22) v111.toNatClampNeg rk)) 18 (upd ((va_up ma109 22 (upd (ma109 22) v111.toNatClampNeg rk)) 18) v111.toNatClampNeg a)) 18 (upd ((va_up (va_up ma109 22 (upd (ma109 22) v111.toNatClampNeg rk)) 18 (upd ((va_up ma109 22 (upd (ma109 22) v111.toNatClampNeg rk)) 18) v111.toNatClampNeg a)) 18) v111.toNatClampNeg p0)) 20) p0.toNatClampNeg tk)) v111 lo (pf107 13).toInt (Wl + Wr + 1 + X) ((pf 12).toInt - 1) from ⟨ExV.le (exv_chain (Dm := v128.toInt + 61 - (pf 12).toInt) (X := X) (hXA.1.le (Int.le_refl _) (Int.le_refl _) (Int.le_refl _) (by omega)) (hXR.1.le (Int.le_refl _) (Int.le_refl _) (Int.le_refl _) (by omega)) (Int.le_refl _) (by omega) (by omega) (fun x g1 g2 g3 => ⟨fun j => by rw [up_far g2, up_far g1, up_far g1, up_far g1, up_far g1], fun j => by rw [up_far g3, up_far g1, up_far g1, up_far g1]⟩) ⟨fun j hj => by rw [va_up_n hj, up_far (nat_ne (by omega) (by omega) (by omega)), up_far (nat_ne (by omega) (by omega) (by omega)), up_far (nat_ne (by omega) (by omega) (by omega)), up_far (nat_ne (by omega) (by omega) (by omega))], fun j => by rw [up_far (nat_ne (by omega) (by omega) (by omega)), up_far (nat_ne (by omega) (by omega) (by omega)), up_far (nat_ne (by omega) (by omega) (by omega)), up_far (nat_ne (by omega) (by omega) (by omega))]⟩ ⟨fun j => by rw [up_far (nat_ne (by omega) (by omega) (by omega)), up_far (nat_ne (by omega) (by omega) (by omega)), up_far (nat_ne (by omega) (by omega) (by omega)), up_far (nat_ne (by omega) (by omega) (by omega)), up_far (nat_ne (by omega) (by omega) (by omega))], fun j hj => by rw [va_up_n hj, up_far (nat_ne (by omega) (by omega) (by omega)), up_far (nat_ne (by omega) (by omega) (by omega)), up_far (nat_ne (by omega) (by omega) (by omega))]⟩ (by rw [va_up_n (by decide), va_up_n (by decide), va_up_n (by decide), va_up_n (by decide), va_up_n (by decide), hnk_v111.1]; rfl) (ndt_of (by rw [va_up_n (by decide), va_up_n (by decide), va_up_n (by decide), va_up_n (by decide), va_up_n (by decide), hnk_v111.2.1]) (by omega) (by omega) (by omega)) (by rw [va_up_n (by decide), va_up_n (by decide), va_up_n (by decide), va_up_s, pk_us]) (by rw [va_up_n (by decide), va_up_s, pk_us]) (by rw [va_up_s, pk_us]) hXR.2.2.2.1 (mkd_of (by rw [va_up_s, pk_us]) (by omega) (by omega) (by omega)) (by rw [va_up_n (by decide), va_up_n (by decide), va_up_n (by decide), va_up_s, pk_us]; split <;> omega)) (Int.le_refl _) (by omega) (by omega) (by rw [dp_un (by decide), dp_us]; omega), (by rw [dp_un (by decide), dp_us]; omega), (by rw [dp_un (by decide), dp_us]; omega), ⟨(by rw [va_up_s, pk_un (nat_ne (by omega) (by omega) (by omega)), va_up_n (by decide), va_up_n (by decide), va_up_n (by decide), va_up_n (by decide), hnk_v111.2.2.1]; decide), (by rw [va_up_s, pk_un (nat_ne (by omega) (by omega) (by omega)), va_up_n (by decide), va_up_n (by decide), va_up_n (by decide), hnk_v111.2.2.2.2]; decide)⟩⟩)⟩) d_Mpg_settle_281
            · have nc102 : z101.toInt = (7 : Int) := (i_eq (x := z101) (y := 7)).mp c102
              exfalso
              omega
          · have nc99 : z98.toInt = (7 : Int) := (i_eq (x := z98) (y := 7)).mp c99
            refine lv_aload_n S.x S.b d_Mpg_settle_98 rfl (lv_at hl 0 rfl) ?_
            refine px_get S k_Mpg hT hw 0 0 22 (v := .ref (r 22)) rfl rfl rfl (by decide) m10_9 d_Mpg_settle_99 ?_
            refine lv_iload S.x S.b d_Mpg_settle_102 (lv_at hl 4 rfl) ?_
            refine px_iald S hT hw 0 18 (n := 2100) (f := (ma 22)) rfl gp_22 (x := x43_4) (vp_in_iff.mpr (by constructor <;> omega)) d_Mpg_settle_104 ?_
            refine lv_topi (fun z134 ez134 => ?_)
            have lz134 := Int32.le_toInt z134
            have uz134 := Int32.toInt_lt z134
            refine lv_iload_n S.x S.b d_Mpg_settle_105 rfl (lv_at hl 3 rfl) ?_
            refine lv_icmp_ne (tgt := 118) S.x S.b d_Mpg_settle_106 (by decide) (fun c135 => ?_) (fun c135 => ?_)
            · have nc135 : ¬ z134.toInt = rk.toInt := mt (i_eq (x := z134) (y := rk)).mpr c135
              refine lv_aload_n S.x S.b d_Mpg_settle_118 rfl (lv_at hl 0 rfl) ?_
              refine px_get S k_Mpg hT hw 0 0 16 (v := .ref (r 16)) rfl rfl rfl (by decide) m10_0 d_Mpg_settle_119 ?_
              refine lv_iload S.x S.b d_Mpg_settle_122 (lv_at hl 4 rfl) ?_
              refine px_iald S hT hw 0 12 (n := 2100) (f := (na 16)) rfl gp_16 (x := x43_4) (vp_in_iff.mpr (by constructor <;> omega)) d_Mpg_settle_124 ?_
              refine lv_topi (fun z136 ez136 => ?_)
              have lz136 := Int32.le_toInt z136
              have uz136 := Int32.toInt_lt z136
              refine px_iast S hT hw 0 12 (n := 2100) (f := (na 16)) (x := x43_4) (y := z136) rfl gp_16 (vp_in_iff.mpr (by constructor <;> omega)) d_Mpg_settle_125 (w' := wdP cs h r g tf ta pf_43 (va_up na 16 (upd (na 16) x43_4.toNatClampNeg z136)) ma wa cf ca ef ea xf xa) (ps' := [wdP cs h r g tf ta pf_43 (va_up na 16 (upd (na 16) x43_4.toNatClampNeg z136)) ma wa cf ca ef ea xf xa]) sp_16 rfl (fun H locs hw => ?_)
              have hw : pw D A s.heap _ _ [wdP cs h r g tf ta pf_43 na ma wa cf ca ef ea xf xa] := (by have q9 := hw; rw [va_same ez136] at q9; exact q9)
              refine lv_aload_n S.x S.b d_Mpg_settle_126 rfl (lv_at hl 0 rfl) ?_
              refine px_get S k_Mpg hT hw 0 0 14 (v := .ref (r 14)) rfl rfl rfl (by decide) m9_238 d_Mpg_settle_127 ?_
              refine lv_iload S.x S.b d_Mpg_settle_130 (lv_at hl 4 rfl) ?_
              refine px_bald S hT hw 0 10 (n := 2100) (f := (na 14)) rfl gp_14 (x := x43_4) (vp_in_iff.mpr (by constructor <;> omega)) d_Mpg_settle_132 ?_
              refine lv_topi (fun z137 ez137 => ?_)
              have lz137 := Int32.le_toInt z137
              have uz137 := Int32.toInt_lt z137
              have hk2 : z137.toInt = z98.toInt := (by rw [ez137, ez98])
              refine lv_bipush (v := 7) S.x S.b d_Mpg_settle_133 (by decide) ?_
              refine lv_icmp_ne (tgt := 149) S.x S.b d_Mpg_settle_135 (by decide) (fun c138 => ?_) (fun c138 => ?_)
              · have nc138 : ¬ z137.toInt = (7 : Int) := mt (i_eq (x := z137) (y := 7)).mpr c138
                exfalso
                omega
              · have nc138 : z137.toInt = (7 : Int) := (i_eq (x := z137) (y := 7)).mp c138
                refine lv_aload_n S.x S.b d_Mpg_settle_138 rfl (lv_at hl 0 rfl) ?_
                refine px_get S k_Mpg hT hw 0 0 22 (v := .ref (r 22)) rfl rfl rfl (by decide) m10_9 d_Mpg_settle_139 ?_
                refine lv_iload S.x S.b d_Mpg_settle_142 (lv_at hl 4 rfl) ?_
                refine px_iald S hT hw 0 18 (n := 2100) (f := (ma 22)) rfl gp_22 (x := x43_4) (vp_in_iff.mpr (by constructor <;> omega)) d_Mpg_settle_144 ?_
                refine lv_topi (fun z139 ez139 => ?_)
                have lz139 := Int32.le_toInt z139
                have uz139 := Int32.toInt_lt z139
                have ho2 : z139.toInt = z134.toInt := (by rw [ez139, ez134])
                refine lv_iload_n S.x S.b d_Mpg_settle_145 rfl (lv_at hl 3 rfl) ?_
                refine lv_icmp_eq (tgt := 218) S.x S.b d_Mpg_settle_146 (by decide) (fun c140 => ?_) (fun c140 => ?_)
                · have nc140 : z139.toInt = rk.toInt := (i_eq (x := z139) (y := rk)).mp c140
                  exfalso
                  omega
                · have nc140 : ¬ z139.toInt = rk.toInt := mt (i_eq (x := z139) (y := rk)).mpr c140
                  refine lv_aload_n S.x S.b d_Mpg_settle_149 rfl (lv_at hl 0 rfl) ?_
                  refine lv_bipush (v := 7) S.x S.b d_Mpg_settle_150 (by decide) ?_
                  refine lv_aload_n S.x S.b d_Mpg_settle_152 rfl (lv_at hl 0 rfl) ?_
                  refine px_get S k_Mpg hT hw 0 0 28 (v := .ref (r 28)) rfl rfl rfl (by decide) m10_16 d_Mpg_settle_153 ?_
                  refine lv_aload_n S.x S.b d_Mpg_settle_156 rfl (lv_at hl 0 rfl) ?_
                  refine px_get S k_Mpg hT hw 0 0 26 (v := .int (pf_43 26)) rfl rfl rfl (by decide) m10_14 d_Mpg_settle_157 ?_
                  refine px_iald S hT hw 0 21 (n := 700) (f := (wa 28)) rfl gp_28 (x := (pf_43 26)) (vp_in_iff.mpr (by constructor <;> omega)) d_Mpg_settle_160 ?_
                  refine lv_topi (fun z141 ez141 => ?_)
                  have lz141 := Int32.le_toInt z141
                  have uz141 := Int32.toInt_lt z141
                  have hwi : (pf_43 26).toNatClampNeg = ((pf 26).toInt - 1).toNat := (by have hq9 := cl_nat (x := (pf_43 26)) (by omega); omega); have hsz141 : tk = z141 := (by rw [ez141, hwi]; exact hTop.2.2.symm); subst hsz141
                  refine px_calli (pr := []) (px_runV (As := [.int 7, .int tk]) (rest := []) S (c_mp_make l D cs h r g tf ta wa cf ca ef ea xf xa pf_43 na ma 7 tk  (show 0 ≤ (pf_43 13).toInt from by omega) (show (pf_43 13).toInt < 2100 from by omega) _) hT (pr := []) (pcs := [wdP cs h r g tf ta pf_43 na ma wa cf ca ef ea xf xa]) hw px_X.tt (px_recv hT hw 0 0 rfl rfl rfl) m11_209 m11_206 m11_208 ms_8_12 m1_21 q_Mpg_make ⟨Nat.le_of_ble_eq_true rfl, Nat.le_of_ble_eq_true rfl⟩ hl.1 rfl (Nat.le_of_ble_eq_true rfl) d_Mpg_settle_161 ⟨Nat.le_of_ble_eq_true rfl, Nat.le_of_ble_eq_true rfl⟩) hw hA (fun v149 p148 H locs hp148 hw => ?_)
                  obtain ⟨pf145, na146, ma147, rfl, e150, e151, e152, e153, e154, e155, e156, e157⟩ := hp148
                  have e150 : v149.toInt = (pf_43 13).toInt := e150
                  have e151 : (pf145 13).toInt = (pf_43 13).toInt + 1 := e151
                  have e152 : (pf145 11).toInt = (pf_43 11).toInt := e152
                  have e153 : (pf145 12).toInt = (pf_43 12).toInt := e153
                  have e154 : (pf145 24).toInt = (pf_43 24).toInt := e154
                  have e155 : (pf145 25).toInt = (pf_43 25).toInt := e155
                  have e156 : (pf145 26).toInt = (pf_43 26).toInt := e156
                  have e157 : MkN na ma na146 ma147 v149 (7 : Int32) tk := e157
                  obtain ⟨qb1581, qb1582, qb1583, qb1584⟩ := tk_eq (ta := ta) (x := (pf145 11)) (y := (pf_43 11)) (by omega)
                  have hmk_v149 := e157
                  have hfm_v149 := MkN.frb (b := v149.toInt) hmk_v149 (by omega) (by omega)
                  have hXA := hXA.kp (FrB.le hfm_v149 (by omega)) (by omega)
                  have hn_hXA := hXA.num
                  have hdq_a := dp_fb (x := a) hfm_v149 (by omega) (by omega)
                  have hXR := hXR.kp (FrB.le hfm_v149 (by omega)) (by omega)
                  have hn_hXR := hXR.num
                  have hdq_p0 := dp_fb (x := p0) hfm_v149 (by omega) (by omega)
                  have hfb := hfb.tr hfm_v149 (by omega)
                  have hnk_v149 := hmk_v149.nk (by decide) (by decide) (by omega)
                  have hdn_v149 := dp_nk hmk_v149
                  have hw : pw D A s.heap H locs [wdP cs h r g tf ta pf145 na146 ma147 wa cf ca ef ea xf xa] := hw
                  have lv149 := Int32.le_toInt v149
                  have uv149 := Int32.toInt_lt v149
                  refine lv_istore (lv' := [(4, .int v149), (0, .ref h), (1, .int p0), (2, .int a), (3, .int rk)]) S.x S.b d_Mpg_settle_164 hl (by decide) rfl (fun ls hl => ?_)
                  refine lv_aload_n S.x S.b d_Mpg_settle_166 rfl (lv_at hl 1 rfl) ?_
                  refine px_get S k_Mpg hT hw 0 0 16 (v := .ref (r 16)) rfl rfl rfl (by decide) m10_0 d_Mpg_settle_167 ?_
                  refine lv_iload S.x S.b d_Mpg_settle_170 (lv_at hl 0 rfl) ?_
                  refine lv_aload_n S.x S.b d_Mpg_settle_172 rfl (lv_at hl 1 rfl) ?_
                  refine px_get S k_Mpg hT hw 0 0 16 (v := .ref (r 16)) rfl rfl rfl (by decide) m10_0 d_Mpg_settle_173 ?_
                  refine lv_iload_n S.x S.b d_Mpg_settle_176 rfl (lv_at hl 3 rfl) ?_
                  refine px_iald S hT hw 0 12 (n := 2100) (f := (na146 16)) rfl gp_16 (x := a) (vp_in_iff.mpr (by constructor <;> omega)) d_Mpg_settle_177 ?_
                  refine lv_topi (fun z159 ez159 => ?_)
                  have lz159 := Int32.le_toInt z159
                  have uz159 := Int32.toInt_lt z159
                  refine px_iast S hT hw 0 12 (n := 2100) (f := (na146 16)) (x := v149) (y := z159) rfl gp_16 (vp_in_iff.mpr (by constructor <;> omega)) d_Mpg_settle_178 (w' := wdP cs h r g tf ta pf145 (va_up na146 16 (upd (na146 16) v149.toNatClampNeg z159)) ma147 wa cf ca ef ea xf xa) (ps' := [wdP cs h r g tf ta pf145 (va_up na146 16 (upd (na146 16) v149.toNatClampNeg z159)) ma147 wa cf ca ef ea xf xa]) sp_16 rfl (fun H locs hw => ?_)
                  refine lv_aload_n S.x S.b d_Mpg_settle_179 rfl (lv_at hl 1 rfl) ?_
                  refine px_get S k_Mpg hT hw 0 0 22 (v := .ref (r 22)) rfl rfl rfl (by decide) m10_9 d_Mpg_settle_180 ?_
                  refine lv_iload S.x S.b d_Mpg_settle_183 (lv_at hl 0 rfl) ?_
                  refine lv_iload_n S.x S.b d_Mpg_settle_185 rfl (lv_at hl 4 rfl) ?_
                  refine px_iast S hT hw 0 18 (n := 2100) (f := (ma147 22)) (x := v149) (y := rk) rfl gp_22 (vp_in_iff.mpr (by constructor <;> omega)) d_Mpg_settle_186 (w' := wdP cs h r g tf ta pf145 (va_up na146 16 (upd (na146 16) v149.toNatClampNeg z159)) (va_up ma147 22 (upd (ma147 22) v149.toNatClampNeg rk)) wa cf ca ef ea xf xa) (ps' := [wdP cs h r g tf ta pf145 (va_up na146 16 (upd (na146 16) v149.toNatClampNeg z159)) (va_up ma147 22 (upd (ma147 22) v149.toNatClampNeg rk)) wa cf ca ef ea xf xa]) sp_22 rfl (fun H locs hw => ?_)
                  refine lv_aload_n S.x S.b d_Mpg_settle_187 rfl (lv_at hl 1 rfl) ?_
                  refine px_get S k_Mpg hT hw 0 0 17 (v := .ref (r 17)) rfl rfl rfl (by decide) m10_1 d_Mpg_settle_188 ?_
                  refine lv_iload S.x S.b d_Mpg_settle_191 (lv_at hl 0 rfl) ?_
                  refine lv_iload_n S.x S.b d_Mpg_settle_193 rfl (lv_at hl 3 rfl) ?_
                  refine px_iast S hT hw 0 13 (n := 2100) (f := ((va_up na146 16 (upd (na146 16) v149.toNatClampNeg z159)) 17)) (x := v149) (y := a) rfl gp_17 (vp_in_iff.mpr (by constructor <;> omega)) d_Mpg_settle_194 (w' := wdP cs h r g tf ta pf145 (va_up (va_up na146 16 (upd (na146 16) v149.toNatClampNeg z159)) 17 (upd ((va_up na146 16 (upd (na146 16) v149.toNatClampNeg z159)) 17) v149.toNatClampNeg a)) (va_up ma147 22 (upd (ma147 22) v149.toNatClampNeg rk)) wa cf ca ef ea xf xa) (ps' := [wdP cs h r g tf ta pf145 (va_up (va_up na146 16 (upd (na146 16) v149.toNatClampNeg z159)) 17 (upd ((va_up na146 16 (upd (na146 16) v149.toNatClampNeg z159)) 17) v149.toNatClampNeg a)) (va_up ma147 22 (upd (ma147 22) v149.toNatClampNeg rk)) wa cf ca ef ea xf xa]) sp_17 rfl (fun H locs hw => ?_)
                  refine lv_aload_n S.x S.b d_Mpg_settle_195 rfl (lv_at hl 1 rfl) ?_
                  refine px_get S k_Mpg hT hw 0 0 18 (v := .ref (r 18)) rfl rfl rfl (by decide) m10_3 d_Mpg_settle_196 ?_
                  refine lv_iload S.x S.b d_Mpg_settle_199 (lv_at hl 0 rfl) ?_
                  refine lv_iload_n S.x S.b d_Mpg_settle_201 rfl (lv_at hl 3 rfl) ?_
                  refine px_iast S hT hw 0 14 (n := 2100) (f := ((va_up ma147 22 (upd (ma147 22) v149.toNatClampNeg rk)) 18)) (x := v149) (y := a) rfl gp_18 (vp_in_iff.mpr (by constructor <;> omega)) d_Mpg_settle_202 (w' := wdP cs h r g tf ta pf145 (va_up (va_up na146 16 (upd (na146 16) v149.toNatClampNeg z159)) 17 (upd ((va_up na146 16 (upd (na146 16) v149.toNatClampNeg z159)) 17) v149.toNatClampNeg a)) (va_up (va_up ma147 22 (upd (ma147 22) v149.toNatClampNeg rk)) 18 (upd ((va_up ma147 22 (upd (ma147 22) v149.toNatClampNeg rk)) 18) v149.toNatClampNeg a)) wa cf ca ef ea xf xa) (ps' := [wdP cs h r g tf ta pf145 (va_up (va_up na146 16 (upd (na146 16) v149.toNatClampNeg z159)) 17 (upd ((va_up na146 16 (upd (na146 16) v149.toNatClampNeg z159)) 17) v149.toNatClampNeg a)) (va_up (va_up ma147 22 (upd (ma147 22) v149.toNatClampNeg rk)) 18 (upd ((va_up ma147 22 (upd (ma147 22) v149.toNatClampNeg rk)) 18) v149.toNatClampNeg a)) wa cf ca ef ea xf xa]) sp_18 rfl (fun H locs hw => ?_)
                  refine lv_aload_n S.x S.b d_Mpg_settle_203 rfl (lv_at hl 1 rfl) ?_
                  refine px_get S k_Mpg hT hw 0 0 23 (v := .ref (r 23)) rfl rfl rfl (by decide) m10_11 d_Mpg_settle_204 ?_
                  refine lv_iload S.x S.b d_Mpg_settle_207 (lv_at hl 0 rfl) ?_
                  refine lv_iconst (v := 1) S.x S.b d_Mpg_settle_209 (by decide) ?_
                  refine lv_aload_n S.x S.b d_Mpg_settle_210 rfl (lv_at hl 1 rfl) ?_
                  refine px_get S k_Mpg hT hw 0 0 23 (v := .ref (r 23)) rfl rfl rfl (by decide) m10_11 d_Mpg_settle_211 ?_
                  refine lv_iload_n S.x S.b d_Mpg_settle_214 rfl (lv_at hl 3 rfl) ?_
                  refine px_iald S hT hw 0 19 (n := 2100) (f := ((va_up (va_up na146 16 (upd (na146 16) v149.toNatClampNeg z159)) 17 (upd ((va_up na146 16 (upd (na146 16) v149.toNatClampNeg z159)) 17) v149.toNatClampNeg a)) 23)) rfl gp_23 (x := a) (vp_in_iff.mpr (by constructor <;> omega)) d_Mpg_settle_215 ?_
                  refine lv_topi (fun z160 ez160 => ?_)
                  have lz160 := Int32.le_toInt z160
                  have uz160 := Int32.toInt_lt z160
                  have rz160 : z160.toInt = dp na146 a := by have q9 : z160.toInt = dp (va_up (va_up na146 16 (upd (na146 16) v149.toNatClampNeg z159)) 17 (upd ((va_up na146 16 (upd (na146 16) v149.toNatClampNeg z159)) 17) v149.toNatClampNeg a)) a := (by rw [ez160]; rfl); rw [dp_un (by decide), dp_un (by decide)] at q9; exact q9
                  refine lv_iadd S.x S.b d_Mpg_settle_216 ?_
                  refine lv_topi (fun z161 ez161 => ?_)
                  have tz161 : z161.toInt = ((1 : Int) + z160.toInt + 2147483648) % 4294967296 - 2147483648 := by rw [ez161]; exact i_add 1 z160
                  have lz161 := Int32.le_toInt z161
                  have uz161 := Int32.toInt_lt z161
                  try replace tz161 : z161.toInt = (1 : Int) + z160.toInt := by omega
                  refine px_iast S hT hw 0 19 (n := 2100) (f := ((va_up (va_up na146 16 (upd (na146 16) v149.toNatClampNeg z159)) 17 (upd ((va_up na146 16 (upd (na146 16) v149.toNatClampNeg z159)) 17) v149.toNatClampNeg a)) 23)) (x := v149) (y := z161) rfl gp_23 (vp_in_iff.mpr (by constructor <;> omega)) d_Mpg_settle_217 (w' := wdP cs h r g tf ta pf145 (va_up (va_up (va_up na146 16 (upd (na146 16) v149.toNatClampNeg z159)) 17 (upd ((va_up na146 16 (upd (na146 16) v149.toNatClampNeg z159)) 17) v149.toNatClampNeg a)) 23 (upd ((va_up (va_up na146 16 (upd (na146 16) v149.toNatClampNeg z159)) 17 (upd ((va_up na146 16 (upd (na146 16) v149.toNatClampNeg z159)) 17) v149.toNatClampNeg a)) 23) v149.toNatClampNeg z161)) (va_up (va_up ma147 22 (upd (ma147 22) v149.toNatClampNeg rk)) 18 (upd ((va_up ma147 22 (upd (ma147 22) v149.toNatClampNeg rk)) 18) v149.toNatClampNeg a)) wa cf ca ef ea xf xa) (ps' := [wdP cs h r g tf ta pf145 (va_up (va_up (va_up na146 16 (upd (na146 16) v149.toNatClampNeg z159)) 17 (upd ((va_up na146 16 (upd (na146 16) v149.toNatClampNeg z159)) 17) v149.toNatClampNeg a)) 23 (upd ((va_up (va_up na146 16 (upd (na146 16) v149.toNatClampNeg z159)) 17 (upd ((va_up na146 16 (upd (na146 16) v149.toNatClampNeg z159)) 17) v149.toNatClampNeg a)) 23) v149.toNatClampNeg z161)) (va_up (va_up ma147 22 (upd (ma147 22) v149.toNatClampNeg rk)) 18 (upd ((va_up ma147 22 (upd (ma147 22) v149.toNatClampNeg rk)) 18) v149.toNatClampNeg a)) wa cf ca ef ea xf xa]) sp_23 rfl (fun H locs hw => ?_)
                  refine lv_aload_n S.x S.b d_Mpg_settle_218 rfl (lv_at hl 1 rfl) ?_
                  refine px_get S k_Mpg hT hw 0 0 23 (v := .ref (r 23)) rfl rfl rfl (by decide) m10_11 d_Mpg_settle_219 ?_
                  refine lv_iload S.x S.b d_Mpg_settle_222 (lv_at hl 0 rfl) ?_
                  refine lv_aload_n S.x S.b d_Mpg_settle_224 rfl (lv_at hl 1 rfl) ?_
                  refine px_get S k_Mpg hT hw 0 0 23 (v := .ref (r 23)) rfl rfl rfl (by decide) m10_11 d_Mpg_settle_225 ?_
                  refine lv_iload S.x S.b d_Mpg_settle_228 (lv_at hl 0 rfl) ?_
                  refine px_iald S hT hw 0 19 (n := 2100) (f := ((va_up (va_up (va_up na146 16 (upd (na146 16) v149.toNatClampNeg z159)) 17 (upd ((va_up na146 16 (upd (na146 16) v149.toNatClampNeg z159)) 17) v149.toNatClampNeg a)) 23 (upd ((va_up (va_up na146 16 (upd (na146 16) v149.toNatClampNeg z159)) 17 (upd ((va_up na146 16 (upd (na146 16) v149.toNatClampNeg z159)) 17) v149.toNatClampNeg a)) 23) v149.toNatClampNeg z161)) 23)) rfl gp_23 (x := v149) (vp_in_iff.mpr (by constructor <;> omega)) d_Mpg_settle_230 ?_
                  refine lv_topi (fun z162 ez162 => ?_)
                  have lz162 := Int32.le_toInt z162
                  have uz162 := Int32.toInt_lt z162
                  have rz162 : z162.toInt = z161.toInt := by have q9 : z162.toInt = dp (va_up (va_up (va_up na146 16 (upd (na146 16) v149.toNatClampNeg z159)) 17 (upd ((va_up na146 16 (upd (na146 16) v149.toNatClampNeg z159)) 17) v149.toNatClampNeg a)) 23 (upd ((va_up (va_up na146 16 (upd (na146 16) v149.toNatClampNeg z159)) 17 (upd ((va_up na146 16 (upd (na146 16) v149.toNatClampNeg z159)) 17) v149.toNatClampNeg a)) 23) v149.toNatClampNeg z161)) v149 := (by rw [ez162]; rfl); rw [dp_us] at q9; exact q9
                  refine lv_iconst (v := 1) S.x S.b d_Mpg_settle_231 (by decide) ?_
                  refine lv_aload_n S.x S.b d_Mpg_settle_232 rfl (lv_at hl 1 rfl) ?_
                  refine px_get S k_Mpg hT hw 0 0 23 (v := .ref (r 23)) rfl rfl rfl (by decide) m10_11 d_Mpg_settle_233 ?_
                  refine lv_iload_n S.x S.b d_Mpg_settle_236 rfl (lv_at hl 2 rfl) ?_
                  refine px_iald S hT hw 0 19 (n := 2100) (f := ((va_up (va_up (va_up na146 16 (upd (na146 16) v149.toNatClampNeg z159)) 17 (upd ((va_up na146 16 (upd (na146 16) v149.toNatClampNeg z159)) 17) v149.toNatClampNeg a)) 23 (upd ((va_up (va_up na146 16 (upd (na146 16) v149.toNatClampNeg z159)) 17 (upd ((va_up na146 16 (upd (na146 16) v149.toNatClampNeg z159)) 17) v149.toNatClampNeg a)) 23) v149.toNatClampNeg z161)) 23)) rfl gp_23 (x := p0) (vp_in_iff.mpr (by constructor <;> omega)) d_Mpg_settle_237 ?_
                  refine lv_topi (fun z163 ez163 => ?_)
                  have lz163 := Int32.le_toInt z163
                  have uz163 := Int32.toInt_lt z163
                  have rz163 : z163.toInt = dp na146 p0 := by have q9 : z163.toInt = dp (va_up (va_up (va_up na146 16 (upd (na146 16) v149.toNatClampNeg z159)) 17 (upd ((va_up na146 16 (upd (na146 16) v149.toNatClampNeg z159)) 17) v149.toNatClampNeg a)) 23 (upd ((va_up (va_up na146 16 (upd (na146 16) v149.toNatClampNeg z159)) 17 (upd ((va_up na146 16 (upd (na146 16) v149.toNatClampNeg z159)) 17) v149.toNatClampNeg a)) 23) v149.toNatClampNeg z161)) p0 := (by rw [ez163]; rfl); rw [dp_uf (by omega) (by omega) (by omega), dp_un (by decide), dp_un (by decide)] at q9; exact q9
                  refine lv_iadd S.x S.b d_Mpg_settle_238 ?_
                  refine lv_topi (fun z164 ez164 => ?_)
                  have tz164 : z164.toInt = ((1 : Int) + z163.toInt + 2147483648) % 4294967296 - 2147483648 := by rw [ez164]; exact i_add 1 z163
                  have lz164 := Int32.le_toInt z164
                  have uz164 := Int32.toInt_lt z164
                  try replace tz164 : z164.toInt = (1 : Int) + z163.toInt := by omega
                  refine px_calli (pr := [wdP cs h r g tf ta pf145 (va_up (va_up (va_up na146 16 (upd (na146 16) v149.toNatClampNeg z159)) 17 (upd ((va_up na146 16 (upd (na146 16) v149.toNatClampNeg z159)) 17) v149.toNatClampNeg a)) 23 (upd ((va_up (va_up na146 16 (upd (na146 16) v149.toNatClampNeg z159)) 17 (upd ((va_up na146 16 (upd (na146 16) v149.toNatClampNeg z159)) 17) v149.toNatClampNeg a)) 23) v149.toNatClampNeg z161)) (va_up (va_up ma147 22 (upd (ma147 22) v149.toNatClampNeg rk)) 18 (upd ((va_up ma147 22 (upd (ma147 22) v149.toNatClampNeg rk)) 18) v149.toNatClampNeg a)) wa cf ca ef ea xf xa]) (px_runS (As := [.int z162, .int z164]) (rest := [.int v149, .ref (r 23)]) S (c_mp_deeper l D cs  z162 z164   _) hT (pr := [wdP cs h r g tf ta pf145 (va_up (va_up (va_up na146 16 (upd (na146 16) v149.toNatClampNeg z159)) 17 (upd ((va_up na146 16 (upd (na146 16) v149.toNatClampNeg z159)) 17) v149.toNatClampNeg a)) 23 (upd ((va_up (va_up na146 16 (upd (na146 16) v149.toNatClampNeg z159)) 17 (upd ((va_up na146 16 (upd (na146 16) v149.toNatClampNeg z159)) 17) v149.toNatClampNeg a)) 23) v149.toNatClampNeg z161)) (va_up (va_up ma147 22 (upd (ma147 22) v149.toNatClampNeg rk)) 18 (upd ((va_up ma147 22 (upd (ma147 22) v149.toNatClampNeg rk)) 18) v149.toNatClampNeg a)) wa cf ca ef ea xf xa]) (pcs := []) hw px_X.tt m12_49 m12_47 m12_48 m1_21 q_Mpg_deeper ⟨Nat.le_of_ble_eq_true rfl, Nat.le_of_ble_eq_true rfl⟩ hl.1 rfl (Nat.le_of_ble_eq_true rfl) d_Mpg_settle_239 ⟨Nat.le_of_ble_eq_true rfl, Nat.le_of_ble_eq_true rfl⟩) hw hA (fun v166 p165 H locs hp165 hw => ?_)
                  obtain ⟨rfl, e167, e168, e169⟩ := hp165
                  have e167 : z162.toInt ≤ v166.toInt := e167
                  have e168 : z164.toInt ≤ v166.toInt := e168
                  have e169 : v166.toInt = z162.toInt ∨ v166.toInt = z164.toInt := e169
                  have hw : pw D A s.heap H locs [wdP cs h r g tf ta pf145 (va_up (va_up (va_up na146 16 (upd (na146 16) v149.toNatClampNeg z159)) 17 (upd ((va_up na146 16 (upd (na146 16) v149.toNatClampNeg z159)) 17) v149.toNatClampNeg a)) 23 (upd ((va_up (va_up na146 16 (upd (na146 16) v149.toNatClampNeg z159)) 17 (upd ((va_up na146 16 (upd (na146 16) v149.toNatClampNeg z159)) 17) v149.toNatClampNeg a)) 23) v149.toNatClampNeg z161)) (va_up (va_up ma147 22 (upd (ma147 22) v149.toNatClampNeg rk)) 18 (upd ((va_up ma147 22 (upd (ma147 22) v149.toNatClampNeg rk)) 18) v149.toNatClampNeg a)) wa cf ca ef ea xf xa] := hw
                  have lv166 := Int32.le_toInt v166
                  have uv166 := Int32.toInt_lt v166
                  refine px_iast S hT hw 0 19 (n := 2100) (f := ((va_up (va_up (va_up na146 16 (upd (na146 16) v149.toNatClampNeg z159)) 17 (upd ((va_up na146 16 (upd (na146 16) v149.toNatClampNeg z159)) 17) v149.toNatClampNeg a)) 23 (upd ((va_up (va_up na146 16 (upd (na146 16) v149.toNatClampNeg z159)) 17 (upd ((va_up na146 16 (upd (na146 16) v149.toNatClampNeg z159)) 17) v149.toNatClampNeg a)) 23) v149.toNatClampNeg z161)) 23)) (x := v149) (y := v166) rfl gp_23 (vp_in_iff.mpr (by constructor <;> omega)) d_Mpg_settle_242 (w' := wdP cs h r g tf ta pf145 (va_up (va_up (va_up (va_up na146 16 (upd (na146 16) v149.toNatClampNeg z159)) 17 (upd ((va_up na146 16 (upd (na146 16) v149.toNatClampNeg z159)) 17) v149.toNatClampNeg a)) 23 (upd ((va_up (va_up na146 16 (upd (na146 16) v149.toNatClampNeg z159)) 17 (upd ((va_up na146 16 (upd (na146 16) v149.toNatClampNeg z159)) 17) v149.toNatClampNeg a)) 23) v149.toNatClampNeg z161)) 23 (upd ((va_up (va_up (va_up na146 16 (upd (na146 16) v149.toNatClampNeg z159)) 17 (upd ((va_up na146 16 (upd (na146 16) v149.toNatClampNeg z159)) 17) v149.toNatClampNeg a)) 23 (upd ((va_up (va_up na146 16 (upd (na146 16) v149.toNatClampNeg z159)) 17 (upd ((va_up na146 16 (upd (na146 16) v149.toNatClampNeg z159)) 17) v149.toNatClampNeg a)) 23) v149.toNatClampNeg z161)) 23) v149.toNatClampNeg v166)) (va_up (va_up ma147 22 (upd (ma147 22) v149.toNatClampNeg rk)) 18 (upd ((va_up ma147 22 (upd (ma147 22) v149.toNatClampNeg rk)) 18) v149.toNatClampNeg a)) wa cf ca ef ea xf xa) (ps' := [wdP cs h r g tf ta pf145 (va_up (va_up (va_up (va_up na146 16 (upd (na146 16) v149.toNatClampNeg z159)) 17 (upd ((va_up na146 16 (upd (na146 16) v149.toNatClampNeg z159)) 17) v149.toNatClampNeg a)) 23 (upd ((va_up (va_up na146 16 (upd (na146 16) v149.toNatClampNeg z159)) 17 (upd ((va_up na146 16 (upd (na146 16) v149.toNatClampNeg z159)) 17) v149.toNatClampNeg a)) 23) v149.toNatClampNeg z161)) 23 (upd ((va_up (va_up (va_up na146 16 (upd (na146 16) v149.toNatClampNeg z159)) 17 (upd ((va_up na146 16 (upd (na146 16) v149.toNatClampNeg z159)) 17) v149.toNatClampNeg a)) 23 (upd ((va_up (va_up na146 16 (upd (na146 16) v149.toNatClampNeg z159)) 17 (upd ((va_up na146 16 (upd (na146 16) v149.toNatClampNeg z159)) 17) v149.toNatClampNeg a)) 23) v149.toNatClampNeg z161)) 23) v149.toNatClampNeg v166)) (va_up (va_up ma147 22 (upd (ma147 22) v149.toNatClampNeg rk)) 18 (upd ((va_up ma147 22 (upd (ma147 22) v149.toNatClampNeg rk)) 18) v149.toNatClampNeg a)) wa cf ca ef ea xf xa]) sp_23 rfl (fun H locs hw => ?_)
                  refine lv_aload_n S.x S.b d_Mpg_settle_243 rfl (lv_at hl 1 rfl) ?_
                  refine px_get S k_Mpg hT hw 0 0 21 (v := .ref (r 21)) rfl rfl rfl (by decide) m10_7 d_Mpg_settle_244 ?_
                  refine lv_aload_n S.x S.b d_Mpg_settle_247 rfl (lv_at hl 1 rfl) ?_
                  refine px_get S k_Mpg hT hw 0 0 18 (v := .ref (r 18)) rfl rfl rfl (by decide) m10_3 d_Mpg_settle_248 ?_
                  refine lv_iload S.x S.b d_Mpg_settle_251 (lv_at hl 0 rfl) ?_
                  refine px_iald S hT hw 0 14 (n := 2100) (f := ((va_up (va_up ma147 22 (upd (ma147 22) v149.toNatClampNeg rk)) 18 (upd ((va_up ma147 22 (upd (ma147 22) v149.toNatClampNeg rk)) 18) v149.toNatClampNeg a)) 18)) rfl gp_18 (x := v149) (vp_in_iff.mpr (by constructor <;> omega)) d_Mpg_settle_253 ?_
                  refine lv_topi (fun z170 ez170 => ?_)
                  have lz170 := Int32.le_toInt z170
                  have uz170 := Int32.toInt_lt z170
                  have hsz170 : a = z170 := (by rw [ez170, va_up_s, pk_us]); subst hsz170
                  refine lv_iload_n S.x S.b d_Mpg_settle_254 rfl (lv_at hl 2 rfl) ?_
                  refine px_iast S hT hw 0 17 (n := 2100) (f := ((va_up (va_up (va_up (va_up na146 16 (upd (na146 16) v149.toNatClampNeg z159)) 17 (upd ((va_up na146 16 (upd (na146 16) v149.toNatClampNeg z159)) 17) v149.toNatClampNeg a)) 23 (upd ((va_up (va_up na146 16 (upd (na146 16) v149.toNatClampNeg z159)) 17 (upd ((va_up na146 16 (upd (na146 16) v149.toNatClampNeg z159)) 17) v149.toNatClampNeg a)) 23) v149.toNatClampNeg z161)) 23 (upd ((va_up (va_up (va_up na146 16 (upd (na146 16) v149.toNatClampNeg z159)) 17 (upd ((va_up na146 16 (upd (na146 16) v149.toNatClampNeg z159)) 17) v149.toNatClampNeg a)) 23 (upd ((va_up (va_up na146 16 (upd (na146 16) v149.toNatClampNeg z159)) 17 (upd ((va_up na146 16 (upd (na146 16) v149.toNatClampNeg z159)) 17) v149.toNatClampNeg a)) 23) v149.toNatClampNeg z161)) 23) v149.toNatClampNeg v166)) 21)) (x := a) (y := p0) rfl gp_21 (vp_in_iff.mpr (by constructor <;> omega)) d_Mpg_settle_255 (w' := wdP cs h r g tf ta pf145 (va_up (va_up (va_up (va_up (va_up na146 16 (upd (na146 16) v149.toNatClampNeg z159)) 17 (upd ((va_up na146 16 (upd (na146 16) v149.toNatClampNeg z159)) 17) v149.toNatClampNeg a)) 23 (upd ((va_up (va_up na146 16 (upd (na146 16) v149.toNatClampNeg z159)) 17 (upd ((va_up na146 16 (upd (na146 16) v149.toNatClampNeg z159)) 17) v149.toNatClampNeg a)) 23) v149.toNatClampNeg z161)) 23 (upd ((va_up (va_up (va_up na146 16 (upd (na146 16) v149.toNatClampNeg z159)) 17 (upd ((va_up na146 16 (upd (na146 16) v149.toNatClampNeg z159)) 17) v149.toNatClampNeg a)) 23 (upd ((va_up (va_up na146 16 (upd (na146 16) v149.toNatClampNeg z159)) 17 (upd ((va_up na146 16 (upd (na146 16) v149.toNatClampNeg z159)) 17) v149.toNatClampNeg a)) 23) v149.toNatClampNeg z161)) 23) v149.toNatClampNeg v166)) 21 (upd ((va_up (va_up (va_up (va_up na146 16 (upd (na146 16) v149.toNatClampNeg z159)) 17 (upd ((va_up na146 16 (upd (na146 16) v149.toNatClampNeg z159)) 17) v149.toNatClampNeg a)) 23 (upd ((va_up (va_up na146 16 (upd (na146 16) v149.toNatClampNeg z159)) 17 (upd ((va_up na146 16 (upd (na146 16) v149.toNatClampNeg z159)) 17) v149.toNatClampNeg a)) 23) v149.toNatClampNeg z161)) 23 (upd ((va_up (va_up (va_up na146 16 (upd (na146 16) v149.toNatClampNeg z159)) 17 (upd ((va_up na146 16 (upd (na146 16) v149.toNatClampNeg z159)) 17) v149.toNatClampNeg a)) 23 (upd ((va_up (va_up na146 16 (upd (na146 16) v149.toNatClampNeg z159)) 17 (upd ((va_up na146 16 (upd (na146 16) v149.toNatClampNeg z159)) 17) v149.toNatClampNeg a)) 23) v149.toNatClampNeg z161)) 23) v149.toNatClampNeg v166)) 21) a.toNatClampNeg p0)) (va_up (va_up ma147 22 (upd (ma147 22) v149.toNatClampNeg rk)) 18 (upd ((va_up ma147 22 (upd (ma147 22) v149.toNatClampNeg rk)) 18) v149.toNatClampNeg a)) wa cf ca ef ea xf xa) (ps' := [wdP cs h r g tf ta pf145 (va_up (va_up (va_up (va_up (va_up na146 16 (upd (na146 16) v149.toNatClampNeg z159)) 17 (upd ((va_up na146 16 (upd (na146 16) v149.toNatClampNeg z159)) 17) v149.toNatClampNeg a)) 23 (upd ((va_up (va_up na146 16 (upd (na146 16) v149.toNatClampNeg z159)) 17 (upd ((va_up na146 16 (upd (na146 16) v149.toNatClampNeg z159)) 17) v149.toNatClampNeg a)) 23) v149.toNatClampNeg z161)) 23 (upd ((va_up (va_up (va_up na146 16 (upd (na146 16) v149.toNatClampNeg z159)) 17 (upd ((va_up na146 16 (upd (na146 16) v149.toNatClampNeg z159)) 17) v149.toNatClampNeg a)) 23 (upd ((va_up (va_up na146 16 (upd (na146 16) v149.toNatClampNeg z159)) 17 (upd ((va_up na146 16 (upd (na146 16) v149.toNatClampNeg z159)) 17) v149.toNatClampNeg a)) 23) v149.toNatClampNeg z161)) 23) v149.toNatClampNeg v166)) 21 (upd ((va_up (va_up (va_up (va_up na146 16 (upd (na146 16) v149.toNatClampNeg z159)) 17 (upd ((va_up na146 16 (upd (na146 16) v149.toNatClampNeg z159)) 17) v149.toNatClampNeg a)) 23 (upd ((va_up (va_up na146 16 (upd (na146 16) v149.toNatClampNeg z159)) 17 (upd ((va_up na146 16 (upd (na146 16) v149.toNatClampNeg z159)) 17) v149.toNatClampNeg a)) 23) v149.toNatClampNeg z161)) 23 (upd ((va_up (va_up (va_up na146 16 (upd (na146 16) v149.toNatClampNeg z159)) 17 (upd ((va_up na146 16 (upd (na146 16) v149.toNatClampNeg z159)) 17) v149.toNatClampNeg a)) 23 (upd ((va_up (va_up na146 16 (upd (na146 16) v149.toNatClampNeg z159)) 17 (upd ((va_up na146 16 (upd (na146 16) v149.toNatClampNeg z159)) 17) v149.toNatClampNeg a)) 23) v149.toNatClampNeg z161)) 23) v149.toNatClampNeg v166)) 21) a.toNatClampNeg p0)) (va_up (va_up ma147 22 (upd (ma147 22) v149.toNatClampNeg rk)) 18 (upd ((va_up ma147 22 (upd (ma147 22) v149.toNatClampNeg rk)) 18) v149.toNatClampNeg a)) wa cf ca ef ea xf xa]) sp_21 rfl (fun H locs hw => ?_)
                  refine lv_aload_n S.x S.b d_Mpg_settle_256 rfl (lv_at hl 1 rfl) ?_
                  refine px_get S k_Mpg hT hw 0 0 18 (v := .ref (r 18)) rfl rfl rfl (by decide) m10_3 d_Mpg_settle_257 ?_
                  refine lv_iload S.x S.b d_Mpg_settle_260 (lv_at hl 0 rfl) ?_
                  refine lv_iload_n S.x S.b d_Mpg_settle_262 rfl (lv_at hl 2 rfl) ?_
                  refine px_iast S hT hw 0 14 (n := 2100) (f := ((va_up (va_up ma147 22 (upd (ma147 22) v149.toNatClampNeg rk)) 18 (upd ((va_up ma147 22 (upd (ma147 22) v149.toNatClampNeg rk)) 18) v149.toNatClampNeg a)) 18)) (x := v149) (y := p0) rfl gp_18 (vp_in_iff.mpr (by constructor <;> omega)) d_Mpg_settle_263 (w' := wdP cs h r g tf ta pf145 (va_up (va_up (va_up (va_up (va_up na146 16 (upd (na146 16) v149.toNatClampNeg z159)) 17 (upd ((va_up na146 16 (upd (na146 16) v149.toNatClampNeg z159)) 17) v149.toNatClampNeg a)) 23 (upd ((va_up (va_up na146 16 (upd (na146 16) v149.toNatClampNeg z159)) 17 (upd ((va_up na146 16 (upd (na146 16) v149.toNatClampNeg z159)) 17) v149.toNatClampNeg a)) 23) v149.toNatClampNeg z161)) 23 (upd ((va_up (va_up (va_up na146 16 (upd (na146 16) v149.toNatClampNeg z159)) 17 (upd ((va_up na146 16 (upd (na146 16) v149.toNatClampNeg z159)) 17) v149.toNatClampNeg a)) 23 (upd ((va_up (va_up na146 16 (upd (na146 16) v149.toNatClampNeg z159)) 17 (upd ((va_up na146 16 (upd (na146 16) v149.toNatClampNeg z159)) 17) v149.toNatClampNeg a)) 23) v149.toNatClampNeg z161)) 23) v149.toNatClampNeg v166)) 21 (upd ((va_up (va_up (va_up (va_up na146 16 (upd (na146 16) v149.toNatClampNeg z159)) 17 (upd ((va_up na146 16 (upd (na146 16) v149.toNatClampNeg z159)) 17) v149.toNatClampNeg a)) 23 (upd ((va_up (va_up na146 16 (upd (na146 16) v149.toNatClampNeg z159)) 17 (upd ((va_up na146 16 (upd (na146 16) v149.toNatClampNeg z159)) 17) v149.toNatClampNeg a)) 23) v149.toNatClampNeg z161)) 23 (upd ((va_up (va_up (va_up na146 16 (upd (na146 16) v149.toNatClampNeg z159)) 17 (upd ((va_up na146 16 (upd (na146 16) v149.toNatClampNeg z159)) 17) v149.toNatClampNeg a)) 23 (upd ((va_up (va_up na146 16 (upd (na146 16) v149.toNatClampNeg z159)) 17 (upd ((va_up na146 16 (upd (na146 16) v149.toNatClampNeg z159)) 17) v149.toNatClampNeg a)) 23) v149.toNatClampNeg z161)) 23) v149.toNatClampNeg v166)) 21) a.toNatClampNeg p0)) (va_up (va_up (va_up ma147 22 (upd (ma147 22) v149.toNatClampNeg rk)) 18 (upd ((va_up ma147 22 (upd (ma147 22) v149.toNatClampNeg rk)) 18) v149.toNatClampNeg a)) 18 (upd ((va_up (va_up ma147 22 (upd (ma147 22) v149.toNatClampNeg rk)) 18 (upd ((va_up ma147 22 (upd (ma147 22) v149.toNatClampNeg rk)) 18) v149.toNatClampNeg a)) 18) v149.toNatClampNeg p0)) wa cf ca ef ea xf xa) (ps' := [wdP cs h r g tf ta pf145 (va_up (va_up (va_up (va_up (va_up na146 16 (upd (na146 16) v149.toNatClampNeg z159)) 17 (upd ((va_up na146 16 (upd (na146 16) v149.toNatClampNeg z159)) 17) v149.toNatClampNeg a)) 23 (upd ((va_up (va_up na146 16 (upd (na146 16) v149.toNatClampNeg z159)) 17 (upd ((va_up na146 16 (upd (na146 16) v149.toNatClampNeg z159)) 17) v149.toNatClampNeg a)) 23) v149.toNatClampNeg z161)) 23 (upd ((va_up (va_up (va_up na146 16 (upd (na146 16) v149.toNatClampNeg z159)) 17 (upd ((va_up na146 16 (upd (na146 16) v149.toNatClampNeg z159)) 17) v149.toNatClampNeg a)) 23 (upd ((va_up (va_up na146 16 (upd (na146 16) v149.toNatClampNeg z159)) 17 (upd ((va_up na146 16 (upd (na146 16) v149.toNatClampNeg z159)) 17) v149.toNatClampNeg a)) 23) v149.toNatClampNeg z161)) 23) v149.toNatClampNeg v166)) 21 (upd ((va_up (va_up (va_up (va_up na146 16 (upd (na146 16) v149.toNatClampNeg z159)) 17 (upd ((va_up na146 16 (upd (na146 16) v149.toNatClampNeg z159)) 17) v149.toNatClampNeg a)) 23 (upd ((va_up (va_up na146 16 (upd (na146 16) v149.toNatClampNeg z159)) 17 (upd ((va_up na146 16 (upd (na146 16) v149.toNatClampNeg z159)) 17) v149.toNatClampNeg a)) 23) v149.toNatClampNeg z161)) 23 (upd ((va_up (va_up (va_up na146 16 (upd (na146 16) v149.toNatClampNeg z159)) 17 (upd ((va_up na146 16 (upd (na146 16) v149.toNatClampNeg z159)) 17) v149.toNatClampNeg a)) 23 (upd ((va_up (va_up na146 16 (upd (na146 16) v149.toNatClampNeg z159)) 17 (upd ((va_up na146 16 (upd (na146 16) v149.toNatClampNeg z159)) 17) v149.toNatClampNeg a)) 23) v149.toNatClampNeg z161)) 23) v149.toNatClampNeg v166)) 21) a.toNatClampNeg p0)) (va_up (va_up (va_up ma147 22 (upd (ma147 22) v149.toNatClampNeg rk)) 18 (upd ((va_up ma147 22 (upd (ma147 22) v149.toNatClampNeg rk)) 18) v149.toNatClampNeg a)) 18 (upd ((va_up (va_up ma147 22 (upd (ma147 22) v149.toNatClampNeg rk)) 18 (upd ((va_up ma147 22 (upd (ma147 22) v149.toNatClampNeg rk)) 18) v149.toNatClampNeg a)) 18) v149.toNatClampNeg p0)) wa cf ca ef ea xf xa]) sp_18 rfl (fun H locs hw => ?_)
                  refine lv_aload_n S.x S.b d_Mpg_settle_264 rfl (lv_at hl 1 rfl) ?_
                  refine px_get S k_Mpg hT hw 0 0 20 (v := .ref (r 20)) rfl rfl rfl (by decide) m10_6 d_Mpg_settle_265 ?_
                  refine lv_iload_n S.x S.b d_Mpg_settle_268 rfl (lv_at hl 2 rfl) ?_
                  refine lv_aload_n S.x S.b d_Mpg_settle_269 rfl (lv_at hl 1 rfl) ?_
                  refine px_get S k_Mpg hT hw 0 0 28 (v := .ref (r 28)) rfl rfl rfl (by decide) m10_16 d_Mpg_settle_270 ?_
                  refine lv_aload_n S.x S.b d_Mpg_settle_273 rfl (lv_at hl 1 rfl) ?_
                  refine px_get S k_Mpg hT hw 0 0 26 (v := .int (pf145 26)) rfl rfl rfl (by decide) m10_14 d_Mpg_settle_274 ?_
                  refine px_iald S hT hw 0 21 (n := 700) (f := (wa 28)) rfl gp_28 (x := (pf145 26)) (vp_in_iff.mpr (by constructor <;> omega)) d_Mpg_settle_277 ?_
                  refine lv_topi (fun z171 ez171 => ?_)
                  have lz171 := Int32.le_toInt z171
                  have uz171 := Int32.toInt_lt z171
                  have hwi : (pf145 26).toNatClampNeg = ((pf 26).toInt - 1).toNat := (by have hq9 := cl_nat (x := (pf145 26)) (by omega); omega); have hsz171 : tk = z171 := (by rw [ez171, hwi]; exact hTop.2.2.symm); subst hsz171
                  refine px_iast S hT hw 0 16 (n := 2100) (f := ((va_up (va_up (va_up ma147 22 (upd (ma147 22) v149.toNatClampNeg rk)) 18 (upd ((va_up ma147 22 (upd (ma147 22) v149.toNatClampNeg rk)) 18) v149.toNatClampNeg a)) 18 (upd ((va_up (va_up ma147 22 (upd (ma147 22) v149.toNatClampNeg rk)) 18 (upd ((va_up ma147 22 (upd (ma147 22) v149.toNatClampNeg rk)) 18) v149.toNatClampNeg a)) 18) v149.toNatClampNeg p0)) 20)) (x := p0) (y := tk) rfl gp_20 (vp_in_iff.mpr (by constructor <;> omega)) d_Mpg_settle_278 (w' := wdP cs h r g tf ta pf145 (va_up (va_up (va_up (va_up (va_up na146 16 (upd (na146 16) v149.toNatClampNeg z159)) 17 (upd ((va_up na146 16 (upd (na146 16) v149.toNatClampNeg z159)) 17) v149.toNatClampNeg a)) 23 (upd ((va_up (va_up na146 16 (upd (na146 16) v149.toNatClampNeg z159)) 17 (upd ((va_up na146 16 (upd (na146 16) v149.toNatClampNeg z159)) 17) v149.toNatClampNeg a)) 23) v149.toNatClampNeg z161)) 23 (upd ((va_up (va_up (va_up na146 16 (upd (na146 16) v149.toNatClampNeg z159)) 17 (upd ((va_up na146 16 (upd (na146 16) v149.toNatClampNeg z159)) 17) v149.toNatClampNeg a)) 23 (upd ((va_up (va_up na146 16 (upd (na146 16) v149.toNatClampNeg z159)) 17 (upd ((va_up na146 16 (upd (na146 16) v149.toNatClampNeg z159)) 17) v149.toNatClampNeg a)) 23) v149.toNatClampNeg z161)) 23) v149.toNatClampNeg v166)) 21 (upd ((va_up (va_up (va_up (va_up na146 16 (upd (na146 16) v149.toNatClampNeg z159)) 17 (upd ((va_up na146 16 (upd (na146 16) v149.toNatClampNeg z159)) 17) v149.toNatClampNeg a)) 23 (upd ((va_up (va_up na146 16 (upd (na146 16) v149.toNatClampNeg z159)) 17 (upd ((va_up na146 16 (upd (na146 16) v149.toNatClampNeg z159)) 17) v149.toNatClampNeg a)) 23) v149.toNatClampNeg z161)) 23 (upd ((va_up (va_up (va_up na146 16 (upd (na146 16) v149.toNatClampNeg z159)) 17 (upd ((va_up na146 16 (upd (na146 16) v149.toNatClampNeg z159)) 17) v149.toNatClampNeg a)) 23 (upd ((va_up (va_up na146 16 (upd (na146 16) v149.toNatClampNeg z159)) 17 (upd ((va_up na146 16 (upd (na146 16) v149.toNatClampNeg z159)) 17) v149.toNatClampNeg a)) 23) v149.toNatClampNeg z161)) 23) v149.toNatClampNeg v166)) 21) a.toNatClampNeg p0)) (va_up (va_up (va_up (va_up ma147 22 (upd (ma147 22) v149.toNatClampNeg rk)) 18 (upd ((va_up ma147 22 (upd (ma147 22) v149.toNatClampNeg rk)) 18) v149.toNatClampNeg a)) 18 (upd ((va_up (va_up ma147 22 (upd (ma147 22) v149.toNatClampNeg rk)) 18 (upd ((va_up ma147 22 (upd (ma147 22) v149.toNatClampNeg rk)) 18) v149.toNatClampNeg a)) 18) v149.toNatClampNeg p0)) 20 (upd ((va_up (va_up (va_up ma147 22 (upd (ma147 22) v149.toNatClampNeg rk)) 18 (upd ((va_up ma147 22 (upd (ma147 22) v149.toNatClampNeg rk)) 18) v149.toNatClampNeg a)) 18 (upd ((va_up (va_up ma147 22 (upd (ma147 22) v149.toNatClampNeg rk)) 18 (upd ((va_up ma147 22 (upd (ma147 22) v149.toNatClampNeg rk)) 18) v149.toNatClampNeg a)) 18) v149.toNatClampNeg p0)) 20) p0.toNatClampNeg tk)) wa cf ca ef ea xf xa) (ps' := [wdP cs h r g tf ta pf145 (va_up (va_up (va_up (va_up (va_up na146 16 (upd (na146 16) v149.toNatClampNeg z159)) 17 (upd ((va_up na146 16 (upd (na146 16) v149.toNatClampNeg z159)) 17) v149.toNatClampNeg a)) 23 (upd ((va_up (va_up na146 16 (upd (na146 16) v149.toNatClampNeg z159)) 17 (upd ((va_up na146 16 (upd (na146 16) v149.toNatClampNeg z159)) 17) v149.toNatClampNeg a)) 23) v149.toNatClampNeg z161)) 23 (upd ((va_up (va_up (va_up na146 16 (upd (na146 16) v149.toNatClampNeg z159)) 17 (upd ((va_up na146 16 (upd (na146 16) v149.toNatClampNeg z159)) 17) v149.toNatClampNeg a)) 23 (upd ((va_up (va_up na146 16 (upd (na146 16) v149.toNatClampNeg z159)) 17 (upd ((va_up na146 16 (upd (na146 16) v149.toNatClampNeg z159)) 17) v149.toNatClampNeg a)) 23) v149.toNatClampNeg z161)) 23) v149.toNatClampNeg v166)) 21 (upd ((va_up (va_up (va_up (va_up na146 16 (upd (na146 16) v149.toNatClampNeg z159)) 17 (upd ((va_up na146 16 (upd (na146 16) v149.toNatClampNeg z159)) 17) v149.toNatClampNeg a)) 23 (upd ((va_up (va_up na146 16 (upd (na146 16) v149.toNatClampNeg z159)) 17 (upd ((va_up na146 16 (upd (na146 16) v149.toNatClampNeg z159)) 17) v149.toNatClampNeg a)) 23) v149.toNatClampNeg z161)) 23 (upd ((va_up (va_up (va_up na146 16 (upd (na146 16) v149.toNatClampNeg z159)) 17 (upd ((va_up na146 16 (upd (na146 16) v149.toNatClampNeg z159)) 17) v149.toNatClampNeg a)) 23 (upd ((va_up (va_up na146 16 (upd (na146 16) v149.toNatClampNeg z159)) 17 (upd ((va_up na146 16 (upd (na146 16) v149.toNatClampNeg z159)) 17) v149.toNatClampNeg a)) 23) v149.toNatClampNeg z161)) 23) v149.toNatClampNeg v166)) 21) a.toNatClampNeg p0)) (va_up (va_up (va_up (va_up ma147 22 (upd (ma147 22) v149.toNatClampNeg rk)) 18 (upd ((va_up ma147 22 (upd (ma147 22) v149.toNatClampNeg rk)) 18) v149.toNatClampNeg a)) 18 (upd ((va_up (va_up ma147 22 (upd (ma147 22) v149.toNatClampNeg rk)) 18 (upd ((va_up ma147 22 (upd (ma147 22) v149.toNatClampNeg rk)) 18) v149.toNatClampNeg a)) 18) v149.toNatClampNeg p0)) 20 (upd ((va_up (va_up (va_up ma147 22 (upd (ma147 22) v149.toNatClampNeg rk)) 18 (upd ((va_up ma147 22 (upd (ma147 22) v149.toNatClampNeg rk)) 18) v149.toNatClampNeg a)) 18 (upd ((va_up (va_up ma147 22 (upd (ma147 22) v149.toNatClampNeg rk)) 18 (upd ((va_up ma147 22 (upd (ma147 22) v149.toNatClampNeg rk)) 18) v149.toNatClampNeg a)) 18) v149.toNatClampNeg p0)) 20) p0.toNatClampNeg tk)) wa cf ca ef ea xf xa]) sp_20 rfl (fun H locs hw => ?_)
                  refine lv_iload S.x S.b d_Mpg_settle_279 (lv_at hl 0 rfl) ?_
                  exact px_iret (v := v149) S hr rfl hlk hAe hw (Nat.le_of_ble_eq_true rfl) (Nat.le_of_ble_eq_true rfl) (⟨pf145, (va_up (va_up (va_up (va_up (va_up na146 16 (upd (na146 16) v149.toNatClampNeg z159)) 17 (upd ((va_up na146 16 (upd (na146 16) v149.toNatClampNeg z159)) 17) v149.toNatClampNeg a)) 23 (upd ((va_up (va_up na146 16 (upd (na146 16) v149.toNatClampNeg z159)) 17 (upd ((va_up na146 16 (upd (na146 16) v149.toNatClampNeg z159)) 17) v149.toNatClampNeg a)) 23) v149.toNatClampNeg z161)) 23 (upd ((va_up (va_up (va_up na146 16 (upd (na146 16) v149.toNatClampNeg z159)) 17 (upd ((va_up na146 16 (upd (na146 16) v149.toNatClampNeg z159)) 17) v149.toNatClampNeg a)) 23 (upd ((va_up (va_up na146 16 (upd (na146 16) v149.toNatClampNeg z159)) 17 (upd ((va_up na146 16 (upd (na146 16) v149.toNatClampNeg z159)) 17) v149.toNatClampNeg a)) 23) v149.toNatClampNeg z161)) 23) v149.toNatClampNeg v166)) 21 (upd ((va_up (va_up (va_up (va_up na146 16 (upd (na146 16) v149.toNatClampNeg z159)) 17 (upd ((va_up na146 16 (upd (na146 16) v149.toNatClampNeg z159)) 17) v149.toNatClampNeg a)) 23 (upd ((va_up (va_up na146 16 (upd (na146 16) v149.toNatClampNeg z159)) 17 (upd ((va_up na146 16 (upd (na146 16) v149.toNatClampNeg z159)) 17) v149.toNatClampNeg a)) 23) v149.toNatClampNeg z161)) 23 (upd ((va_up (va_up (va_up na146 16 (upd (na146 16) v149.toNatClampNeg z159)) 17 (upd ((va_up na146 16 (upd (na146 16) v149.toNatClampNeg z159)) 17) v149.toNatClampNeg a)) 23 (upd ((va_up (va_up na146 16 (upd (na146 16) v149.toNatClampNeg z159)) 17 (upd ((va_up na146 16 (upd (na146 16) v149.toNatClampNeg z159)) 17) v149.toNatClampNeg a)) 23) v149.toNatClampNeg z161)) 23) v149.toNatClampNeg v166)) 21) a.toNatClampNeg p0)), (va_up (va_up (va_up (va_up ma147 22 (upd (ma147 22) v149.toNatClampNeg rk)) 18 (upd ((va_up ma147 22 (upd (ma147 22) v149.toNatClampNeg rk)) 18) v149.toNatClampNeg a)) 18 (upd ((va_up (va_up ma147 22 (upd (ma147 22) v149.toNatClampNeg rk)) 18 (upd ((va_up ma147 22 (upd (ma147 22) v149.toNatClampNeg rk)) 18) v149.toNatClampNeg a)) 18) v149.toNatClampNeg p0)) 20 (upd ((va_up (va_up (va_up ma147 22 (upd (ma147 22) v149.toNatClampNeg rk)) 18 (upd ((va_up ma147 22 (upd (ma147 22) v149.toNatClampNeg rk)) 18) v149.toNatClampNeg a)) 18 (upd ((va_up (va_up ma147 22 (upd (ma147 22) v149.toNatClampNeg rk)) 18 (upd ((va_up ma147 22 (upd (ma147 22) v149.toNatClampNeg rk)) 18) v149.toNatClampNeg a)) 18) v149.toNatClampNeg p0)) 20) p0.toNatClampNeg tk)), rfl, (show (pf145 26).toInt = (pf 26).toInt - 1 from by omega), (show (pf145 12).toInt = (pf 12).toInt - 1 from by omega), (show (pf 13).toInt ≤ (pf145 13).toInt from by omega), (show (pf145 13).toInt ≤ (pf 13).toInt + 1 from by omega), (show (pf145 11).toInt = (pf 11).toInt from by omega), (show (pf145 24).toInt = (pf 24).toInt from by omega), (show (pf145 25).toInt = (pf 25).toInt from by omega), (show FrB lo na ma (va_up (va_up (va_up (va_up (va_up na146 16 (upd (na146 16) v149.toNatClampNeg z159)) 17 (upd ((va_up na146 16 (upd (na146 16) v149.toNatClampNeg z159)) 17) v149.toNatClampNeg a)) 23 (upd ((va_up (va_up na146 16 (upd (na146 16) v149.toNatClampNeg z159)) 17 (upd ((va_up na146 16 (upd (na146 16) v149.toNatClampNeg z159)) 17) v149.toNatClampNeg a)) 23) v149.toNatClampNeg z161)) 23 (upd ((va_up (va_up (va_up na146 16 (upd (na146 16) v149.toNatClampNeg z159)) 17 (upd ((va_up na146 16 (upd (na146 16) v149.toNatClampNeg z159)) 17) v149.toNatClampNeg a)) 23 (upd ((va_up (va_up na146 16 (upd (na146 16) v149.toNatClampNeg z159)) 17 (upd ((va_up na146 16 (upd (na146 16) v149.toNatClampNeg z159)) 17) v149.toNatClampNeg a)) 23) v149.toNatClampNeg z161)) 23) v149.toNatClampNeg v166)) 21 (upd ((va_up (va_up (va_up (va_up na146 16 (upd (na146 16) v149.toNatClampNeg z159)) 17 (upd ((va_up na146 16 (upd (na146 16) v149.toNatClampNeg z159)) 17) v149.toNatClampNeg a)) 23 (upd ((va_up (va_up na146 16 (upd (na146 16) v149.toNatClampNeg z159)) 17 (upd ((va_up na146 16 (upd (na146 16) v149.toNatClampNeg z159)) 17) v149.toNatClampNeg a)) 23) v149.toNatClampNeg z161)) 23 (upd ((va_up (va_up (va_up na146 16 (upd (na146 16) v149.toNatClampNeg z159)) 17 (upd ((va_up na146 16 (upd (na146 16) v149.toNatClampNeg z159)) 17) v149.toNatClampNeg a)) 23 (upd ((va_up (va_up na146 16 (upd (na146 16) v149.toNatClampNeg z159)) 17 (upd ((va_up na146 16 (upd (na146 16) v149.toNatClampNeg z159)) 17) v149.toNatClampNeg a)) 23) v149.toNatClampNeg z161)) 23) v149.toNatClampNeg v166)) 21) a.toNatClampNeg p0)) (va_up (va_up (va_up (va_up ma147 22 (upd (ma147 22) v149.toNatClampNeg rk)) 18 (upd ((va_up ma147 22 (upd (ma147 22) v149.toNatClampNeg rk)) 18) v149.toNatClampNeg a)) 18 (upd ((va_up (va_up ma147 22 (upd (ma147 22) v149.toNatClampNeg rk)) 18 (upd ((va_up ma147 22 (upd (ma147 22) v149.toNatClampNeg rk)) 18) v149.toNatClampNeg a)) 18) v149.toNatClampNeg p0)) 20 (upd ((va_up (va_up (va_up ma147 22 (upd (ma147 22) v149.toNatClampNeg rk)) 18 (upd ((va_up ma147 22 (upd (ma147 22) v149.toNatClampNeg rk)) 18) v149.toNatClampNeg a)) 18 (upd ((va_up (va_up ma147 22 (upd (ma147 22) v149.toNatClampNeg rk)) 18 (upd ((va_up ma147 22 (upd (ma147 22) v149.toNatClampNeg rk)) 18) v149.toNatClampNeg a)) 18) v149.toNatClampNeg p0)) 20) p0.toNatClampNeg tk)) from (FrB.um (FrB.um (FrB.un (FrB.un (FrB.un (FrB.um (FrB.un (FrB.um (FrB.un hfb (by omega) (by omega)) (by omega) (by omega)) (by omega) (by omega)) (by omega) (by omega)) (by omega) (by omega)) (by omega) (by omega)) (by omega) (by omega)) (by omega) (by omega)) (by omega) (by omega))), (show ExR ta (tf 6).toInt (va_up (va_up (va_up (va_up (va_up na146 16 (upd (na146 16) v149.toNatClampNeg z159)) 17 (upd ((va_up na146 16 (upd (na146 16) v149.toNatClampNeg z159)) 17) v149.toNatClampNeg a)) 23 (upd ((va_up (va_up na146 16 (upd (na146 16) v149.toNatClampNeg z159)) 17 (upd ((va_up na146 16 (upd (na146 16) v149.toNatClampNeg z159)) 17) v149.toNatClampNeg a)) 23) v149.toNatClampNeg z161)) 23 (upd ((va_up (va_up (va_up na146 16 (upd (na146 16) v149.toNatClampNeg z159)) 17 (upd ((va_up na146 16 (upd (na146 16) v149.toNatClampNeg z159)) 17) v149.toNatClampNeg a)) 23 (upd ((va_up (va_up na146 16 (upd (na146 16) v149.toNatClampNeg z159)) 17 (upd ((va_up na146 16 (upd (na146 16) v149.toNatClampNeg z159)) 17) v149.toNatClampNeg a)) 23) v149.toNatClampNeg z161)) 23) v149.toNatClampNeg v166)) 21 (upd ((va_up (va_up (va_up (va_up na146 16 (upd (na146 16) v149.toNatClampNeg z159)) 17 (upd ((va_up na146 16 (upd (na146 16) v149.toNatClampNeg z159)) 17) v149.toNatClampNeg a)) 23 (upd ((va_up (va_up na146 16 (upd (na146 16) v149.toNatClampNeg z159)) 17 (upd ((va_up na146 16 (upd (na146 16) v149.toNatClampNeg z159)) 17) v149.toNatClampNeg a)) 23) v149.toNatClampNeg z161)) 23 (upd ((va_up (va_up (va_up na146 16 (upd (na146 16) v149.toNatClampNeg z159)) 17 (upd ((va_up na146 16 (upd (na146 16) v149.toNatClampNeg z159)) 17) v149.toNatClampNeg a)) 23 (upd ((va_up (va_up na146 16 (upd (na146 16) v149.toNatClampNeg z159)) 17 (upd ((va_up na146 16 (upd (na146 16) v149.toNatClampNeg z159)) 17) v149.toNatClampNeg a)) 23) v149.toNatClampNeg z161)) 23) v149.toNatClampNeg v166)) 21) a.toNatClampNeg p0)) (va_up (va_up (va_up (va_up ma147 22 (upd (ma147 22) v149.toNatClampNeg rk)) 18 (upd ((va_up ma147 22 (upd (ma147 22) v149.toNatClampNeg rk)) 18) v149.toNatClampNeg a)) 18 (upd ((va_up (va_up ma147 22 (upd (ma147 22) v149.toNatClampNeg rk)) 18 (upd ((va_up ma147 22 (upd (ma147 22) v149.toNatClampNeg rk)) 18) v149.toNatClampNeg a)) 18) v149.toNatClampNeg p0)) 20 (upd ((va_up (va_up (va_up ma147 22 (upd (ma147 22) v149.toNatClampNeg rk)) 18 (upd ((va_up ma147 22 (upd (ma147 22) v149.toNatClampNeg rk)) 18) v149.toNatClampNeg a)) 18 (upd ((va_up (va_up ma147 22 (upd (ma147 22) v149.toNatClampNeg rk)) 18 (upd ((va_up ma147 22 (upd (ma147 22) v149.toNatClampNeg rk)) 18) v149.toNatClampNeg a)) 18) v149.toNatClampNeg p0)) 20) p0.toNatClampNeg tk)) v149 lo (pf145 13).toInt (Wl + Wr + 1 + X) ((pf 12).toInt - 1) from ⟨ExV.le (exv_chain (Dm := v166.toInt + 61 - (pf 12).toInt) (X := X) (hXA.1.le (Int.le_refl _) (Int.le_refl _) (Int.le_refl _) (by omega)) (hXR.1.le (Int.le_refl _) (Int.le_refl _) (Int.le_refl _) (by omega)) (Int.le_refl _) (by omega) (by omega) (fun x g1 g2 g3 => ⟨fun j => by rw [up_far g2, up_far g1, up_far g1, up_far g1, up_far g1], fun j => by rw [up_far g3, up_far g1, up_far g1, up_far g1]⟩) ⟨fun j hj => by rw [va_up_n hj, up_far (nat_ne (by omega) (by omega) (by omega)), up_far (nat_ne (by omega) (by omega) (by omega)), up_far (nat_ne (by omega) (by omega) (by omega)), up_far (nat_ne (by omega) (by omega) (by omega))], fun j => by rw [up_far (nat_ne (by omega) (by omega) (by omega)), up_far (nat_ne (by omega) (by omega) (by omega)), up_far (nat_ne (by omega) (by omega) (by omega)), up_far (nat_ne (by omega) (by omega) (by omega))]⟩ ⟨fun j => by rw [up_far (nat_ne (by omega) (by omega) (by omega)), up_far (nat_ne (by omega) (by omega) (by omega)), up_far (nat_ne (by omega) (by omega) (by omega)), up_far (nat_ne (by omega) (by omega) (by omega)), up_far (nat_ne (by omega) (by omega) (by omega))], fun j hj => by rw [va_up_n hj, up_far (nat_ne (by omega) (by omega) (by omega)), up_far (nat_ne (by omega) (by omega) (by omega)), up_far (nat_ne (by omega) (by omega) (by omega))]⟩ (by rw [va_up_n (by decide), va_up_n (by decide), va_up_n (by decide), va_up_n (by decide), va_up_n (by decide), hnk_v149.1]; rfl) (ndt_of (by rw [va_up_n (by decide), va_up_n (by decide), va_up_n (by decide), va_up_n (by decide), va_up_n (by decide), hnk_v149.2.1]) (by omega) (by omega) (by omega)) (by rw [va_up_n (by decide), va_up_n (by decide), va_up_n (by decide), va_up_s, pk_us]) (by rw [va_up_n (by decide), va_up_s, pk_us]) (by rw [va_up_s, pk_us]) hXR.2.2.2.1 (mkd_of (by rw [va_up_s, pk_us]) (by omega) (by omega) (by omega)) (by rw [va_up_n (by decide), va_up_n (by decide), va_up_n (by decide), va_up_s, pk_us]; split <;> omega)) (Int.le_refl _) (by omega) (by omega) (by rw [dp_un (by decide), dp_us]; omega), (by rw [dp_un (by decide), dp_us]; omega), (by rw [dp_un (by decide), dp_us]; omega), ⟨(by rw [va_up_s, pk_un (nat_ne (by omega) (by omega) (by omega)), va_up_n (by decide), va_up_n (by decide), va_up_n (by decide), va_up_n (by decide), hnk_v149.2.2.1]; decide), (by rw [va_up_s, pk_un (nat_ne (by omega) (by omega) (by omega)), va_up_n (by decide), va_up_n (by decide), va_up_n (by decide), hnk_v149.2.2.2.2]; decide)⟩⟩)⟩) d_Mpg_settle_281
            · have nc135 : z134.toInt = rk.toInt := (i_eq (x := z134) (y := rk)).mp c135
              refine lv_aload_n S.x S.b d_Mpg_settle_109 rfl (lv_at hl 0 rfl) ?_
              refine px_get S k_Mpg hT hw 0 0 16 (v := .ref (r 16)) rfl rfl rfl (by decide) m10_0 d_Mpg_settle_110 ?_
              refine lv_iload_n S.x S.b d_Mpg_settle_113 rfl (lv_at hl 2 rfl) ?_
              refine px_iald S hT hw 0 12 (n := 2100) (f := (na 16)) rfl gp_16 (x := a) (vp_in_iff.mpr (by constructor <;> omega)) d_Mpg_settle_114 ?_
              refine lv_topi (fun z172 ez172 => ?_)
              have lz172 := Int32.le_toInt z172
              have uz172 := Int32.toInt_lt z172
              refine lv_goto (tgt := 125) S.x S.b d_Mpg_settle_115 (by decide) ?_
              refine px_iast S hT hw 0 12 (n := 2100) (f := (na 16)) (x := x43_4) (y := z172) rfl gp_16 (vp_in_iff.mpr (by constructor <;> omega)) d_Mpg_settle_125 (w' := wdP cs h r g tf ta pf_43 (va_up na 16 (upd (na 16) x43_4.toNatClampNeg z172)) ma wa cf ca ef ea xf xa) (ps' := [wdP cs h r g tf ta pf_43 (va_up na 16 (upd (na 16) x43_4.toNatClampNeg z172)) ma wa cf ca ef ea xf xa]) sp_16 rfl (fun H locs hw => ?_)
              refine lv_aload_n S.x S.b d_Mpg_settle_126 rfl (lv_at hl 0 rfl) ?_
              refine px_get S k_Mpg hT hw 0 0 14 (v := .ref (r 14)) rfl rfl rfl (by decide) m9_238 d_Mpg_settle_127 ?_
              refine lv_iload S.x S.b d_Mpg_settle_130 (lv_at hl 4 rfl) ?_
              refine px_bald S hT hw 0 10 (n := 2100) (f := ((va_up na 16 (upd (na 16) x43_4.toNatClampNeg z172)) 14)) rfl gp_14 (x := x43_4) (vp_in_iff.mpr (by constructor <;> omega)) d_Mpg_settle_132 ?_
              refine lv_topi (fun z173 ez173 => ?_)
              have lz173 := Int32.le_toInt z173
              have uz173 := Int32.toInt_lt z173
              have hk2 : z173.toInt = z98.toInt := (by rw [ez173, va_up_n (by decide), ez98])
              refine lv_bipush (v := 7) S.x S.b d_Mpg_settle_133 (by decide) ?_
              refine lv_icmp_ne (tgt := 149) S.x S.b d_Mpg_settle_135 (by decide) (fun c174 => ?_) (fun c174 => ?_)
              · have nc174 : ¬ z173.toInt = (7 : Int) := mt (i_eq (x := z173) (y := 7)).mpr c174
                exfalso
                omega
              · have nc174 : z173.toInt = (7 : Int) := (i_eq (x := z173) (y := 7)).mp c174
                refine lv_aload_n S.x S.b d_Mpg_settle_138 rfl (lv_at hl 0 rfl) ?_
                refine px_get S k_Mpg hT hw 0 0 22 (v := .ref (r 22)) rfl rfl rfl (by decide) m10_9 d_Mpg_settle_139 ?_
                refine lv_iload S.x S.b d_Mpg_settle_142 (lv_at hl 4 rfl) ?_
                refine px_iald S hT hw 0 18 (n := 2100) (f := (ma 22)) rfl gp_22 (x := x43_4) (vp_in_iff.mpr (by constructor <;> omega)) d_Mpg_settle_144 ?_
                refine lv_topi (fun z175 ez175 => ?_)
                have lz175 := Int32.le_toInt z175
                have uz175 := Int32.toInt_lt z175
                have ho2 : z175.toInt = z134.toInt := (by rw [ez175, ez134])
                refine lv_iload_n S.x S.b d_Mpg_settle_145 rfl (lv_at hl 3 rfl) ?_
                refine lv_icmp_eq (tgt := 218) S.x S.b d_Mpg_settle_146 (by decide) (fun c176 => ?_) (fun c176 => ?_)
                · have nc176 : z175.toInt = rk.toInt := (i_eq (x := z175) (y := rk)).mp c176
                  refine lv_aload_n S.x S.b d_Mpg_settle_218 rfl (lv_at hl 0 rfl) ?_
                  refine px_get S k_Mpg hT hw 0 0 23 (v := .ref (r 23)) rfl rfl rfl (by decide) m10_11 d_Mpg_settle_219 ?_
                  refine lv_iload S.x S.b d_Mpg_settle_222 (lv_at hl 4 rfl) ?_
                  refine lv_aload_n S.x S.b d_Mpg_settle_224 rfl (lv_at hl 0 rfl) ?_
                  refine px_get S k_Mpg hT hw 0 0 23 (v := .ref (r 23)) rfl rfl rfl (by decide) m10_11 d_Mpg_settle_225 ?_
                  refine lv_iload S.x S.b d_Mpg_settle_228 (lv_at hl 4 rfl) ?_
                  refine px_iald S hT hw 0 19 (n := 2100) (f := ((va_up na 16 (upd (na 16) x43_4.toNatClampNeg z172)) 23)) rfl gp_23 (x := x43_4) (vp_in_iff.mpr (by constructor <;> omega)) d_Mpg_settle_230 ?_
                  refine lv_topi (fun z177 ez177 => ?_)
                  have lz177 := Int32.le_toInt z177
                  have uz177 := Int32.toInt_lt z177
                  have rz177 : z177.toInt = dp na x43_4 := by have q9 : z177.toInt = dp (va_up na 16 (upd (na 16) x43_4.toNatClampNeg z172)) x43_4 := (by rw [ez177]; rfl); rw [dp_un (by decide)] at q9; exact q9
                  refine lv_iconst (v := 1) S.x S.b d_Mpg_settle_231 (by decide) ?_
                  refine lv_aload_n S.x S.b d_Mpg_settle_232 rfl (lv_at hl 0 rfl) ?_
                  refine px_get S k_Mpg hT hw 0 0 23 (v := .ref (r 23)) rfl rfl rfl (by decide) m10_11 d_Mpg_settle_233 ?_
                  refine lv_iload_n S.x S.b d_Mpg_settle_236 rfl (lv_at hl 1 rfl) ?_
                  refine px_iald S hT hw 0 19 (n := 2100) (f := ((va_up na 16 (upd (na 16) x43_4.toNatClampNeg z172)) 23)) rfl gp_23 (x := p0) (vp_in_iff.mpr (by constructor <;> omega)) d_Mpg_settle_237 ?_
                  refine lv_topi (fun z178 ez178 => ?_)
                  have lz178 := Int32.le_toInt z178
                  have uz178 := Int32.toInt_lt z178
                  have rz178 : z178.toInt = dp na p0 := by have q9 : z178.toInt = dp (va_up na 16 (upd (na 16) x43_4.toNatClampNeg z172)) p0 := (by rw [ez178]; rfl); rw [dp_un (by decide)] at q9; exact q9
                  refine lv_iadd S.x S.b d_Mpg_settle_238 ?_
                  refine lv_topi (fun z179 ez179 => ?_)
                  have tz179 : z179.toInt = ((1 : Int) + z178.toInt + 2147483648) % 4294967296 - 2147483648 := by rw [ez179]; exact i_add 1 z178
                  have lz179 := Int32.le_toInt z179
                  have uz179 := Int32.toInt_lt z179
                  try replace tz179 : z179.toInt = (1 : Int) + z178.toInt := by omega
                  refine px_calli (pr := [wdP cs h r g tf ta pf_43 (va_up na 16 (upd (na 16) x43_4.toNatClampNeg z172)) ma wa cf ca ef ea xf xa]) (px_runS (As := [.int z177, .int z179]) (rest := [.int x43_4, .ref (r 23)]) S (c_mp_deeper l D cs  z177 z179   _) hT (pr := [wdP cs h r g tf ta pf_43 (va_up na 16 (upd (na 16) x43_4.toNatClampNeg z172)) ma wa cf ca ef ea xf xa]) (pcs := []) hw px_X.tt m12_49 m12_47 m12_48 m1_21 q_Mpg_deeper ⟨Nat.le_of_ble_eq_true rfl, Nat.le_of_ble_eq_true rfl⟩ hl.1 rfl (Nat.le_of_ble_eq_true rfl) d_Mpg_settle_239 ⟨Nat.le_of_ble_eq_true rfl, Nat.le_of_ble_eq_true rfl⟩) hw hA (fun v181 p180 H locs hp180 hw => ?_)
                  obtain ⟨rfl, e182, e183, e184⟩ := hp180
                  have e182 : z177.toInt ≤ v181.toInt := e182
                  have e183 : z179.toInt ≤ v181.toInt := e183
                  have e184 : v181.toInt = z177.toInt ∨ v181.toInt = z179.toInt := e184
                  have hw : pw D A s.heap H locs [wdP cs h r g tf ta pf_43 (va_up na 16 (upd (na 16) x43_4.toNatClampNeg z172)) ma wa cf ca ef ea xf xa] := hw
                  have lv181 := Int32.le_toInt v181
                  have uv181 := Int32.toInt_lt v181
                  refine px_iast S hT hw 0 19 (n := 2100) (f := ((va_up na 16 (upd (na 16) x43_4.toNatClampNeg z172)) 23)) (x := x43_4) (y := v181) rfl gp_23 (vp_in_iff.mpr (by constructor <;> omega)) d_Mpg_settle_242 (w' := wdP cs h r g tf ta pf_43 (va_up (va_up na 16 (upd (na 16) x43_4.toNatClampNeg z172)) 23 (upd ((va_up na 16 (upd (na 16) x43_4.toNatClampNeg z172)) 23) x43_4.toNatClampNeg v181)) ma wa cf ca ef ea xf xa) (ps' := [wdP cs h r g tf ta pf_43 (va_up (va_up na 16 (upd (na 16) x43_4.toNatClampNeg z172)) 23 (upd ((va_up na 16 (upd (na 16) x43_4.toNatClampNeg z172)) 23) x43_4.toNatClampNeg v181)) ma wa cf ca ef ea xf xa]) sp_23 rfl (fun H locs hw => ?_)
                  refine lv_aload_n S.x S.b d_Mpg_settle_243 rfl (lv_at hl 0 rfl) ?_
                  refine px_get S k_Mpg hT hw 0 0 21 (v := .ref (r 21)) rfl rfl rfl (by decide) m10_7 d_Mpg_settle_244 ?_
                  refine lv_aload_n S.x S.b d_Mpg_settle_247 rfl (lv_at hl 0 rfl) ?_
                  refine px_get S k_Mpg hT hw 0 0 18 (v := .ref (r 18)) rfl rfl rfl (by decide) m10_3 d_Mpg_settle_248 ?_
                  refine lv_iload S.x S.b d_Mpg_settle_251 (lv_at hl 4 rfl) ?_
                  refine px_iald S hT hw 0 14 (n := 2100) (f := (ma 18)) rfl gp_18 (x := x43_4) (vp_in_iff.mpr (by constructor <;> omega)) d_Mpg_settle_253 ?_
                  refine lv_topi (fun z185 ez185 => ?_)
                  have lz185 := Int32.le_toInt z185
                  have uz185 := Int32.toInt_lt z185
                  obtain ⟨hb0, hb1, hb2, hb3⟩ := exv_b hu (by rw [← ez98]; omega) ez185
                  refine lv_iload_n S.x S.b d_Mpg_settle_254 rfl (lv_at hl 1 rfl) ?_
                  refine px_iast S hT hw 0 17 (n := 2100) (f := ((va_up (va_up na 16 (upd (na 16) x43_4.toNatClampNeg z172)) 23 (upd ((va_up na 16 (upd (na 16) x43_4.toNatClampNeg z172)) 23) x43_4.toNatClampNeg v181)) 21)) (x := z185) (y := p0) rfl gp_21 (vp_in_iff.mpr (by constructor <;> omega)) d_Mpg_settle_255 (w' := wdP cs h r g tf ta pf_43 (va_up (va_up (va_up na 16 (upd (na 16) x43_4.toNatClampNeg z172)) 23 (upd ((va_up na 16 (upd (na 16) x43_4.toNatClampNeg z172)) 23) x43_4.toNatClampNeg v181)) 21 (upd ((va_up (va_up na 16 (upd (na 16) x43_4.toNatClampNeg z172)) 23 (upd ((va_up na 16 (upd (na 16) x43_4.toNatClampNeg z172)) 23) x43_4.toNatClampNeg v181)) 21) z185.toNatClampNeg p0)) ma wa cf ca ef ea xf xa) (ps' := [wdP cs h r g tf ta pf_43 (va_up (va_up (va_up na 16 (upd (na 16) x43_4.toNatClampNeg z172)) 23 (upd ((va_up na 16 (upd (na 16) x43_4.toNatClampNeg z172)) 23) x43_4.toNatClampNeg v181)) 21 (upd ((va_up (va_up na 16 (upd (na 16) x43_4.toNatClampNeg z172)) 23 (upd ((va_up na 16 (upd (na 16) x43_4.toNatClampNeg z172)) 23) x43_4.toNatClampNeg v181)) 21) z185.toNatClampNeg p0)) ma wa cf ca ef ea xf xa]) sp_21 rfl (fun H locs hw => ?_)
                  refine lv_aload_n S.x S.b d_Mpg_settle_256 rfl (lv_at hl 0 rfl) ?_
                  refine px_get S k_Mpg hT hw 0 0 18 (v := .ref (r 18)) rfl rfl rfl (by decide) m10_3 d_Mpg_settle_257 ?_
                  refine lv_iload S.x S.b d_Mpg_settle_260 (lv_at hl 4 rfl) ?_
                  refine lv_iload_n S.x S.b d_Mpg_settle_262 rfl (lv_at hl 1 rfl) ?_
                  refine px_iast S hT hw 0 14 (n := 2100) (f := (ma 18)) (x := x43_4) (y := p0) rfl gp_18 (vp_in_iff.mpr (by constructor <;> omega)) d_Mpg_settle_263 (w' := wdP cs h r g tf ta pf_43 (va_up (va_up (va_up na 16 (upd (na 16) x43_4.toNatClampNeg z172)) 23 (upd ((va_up na 16 (upd (na 16) x43_4.toNatClampNeg z172)) 23) x43_4.toNatClampNeg v181)) 21 (upd ((va_up (va_up na 16 (upd (na 16) x43_4.toNatClampNeg z172)) 23 (upd ((va_up na 16 (upd (na 16) x43_4.toNatClampNeg z172)) 23) x43_4.toNatClampNeg v181)) 21) z185.toNatClampNeg p0)) (va_up ma 18 (upd (ma 18) x43_4.toNatClampNeg p0)) wa cf ca ef ea xf xa) (ps' := [wdP cs h r g tf ta pf_43 (va_up (va_up (va_up na 16 (upd (na 16) x43_4.toNatClampNeg z172)) 23 (upd ((va_up na 16 (upd (na 16) x43_4.toNatClampNeg z172)) 23) x43_4.toNatClampNeg v181)) 21 (upd ((va_up (va_up na 16 (upd (na 16) x43_4.toNatClampNeg z172)) 23 (upd ((va_up na 16 (upd (na 16) x43_4.toNatClampNeg z172)) 23) x43_4.toNatClampNeg v181)) 21) z185.toNatClampNeg p0)) (va_up ma 18 (upd (ma 18) x43_4.toNatClampNeg p0)) wa cf ca ef ea xf xa]) sp_18 rfl (fun H locs hw => ?_)
                  refine lv_aload_n S.x S.b d_Mpg_settle_264 rfl (lv_at hl 0 rfl) ?_
                  refine px_get S k_Mpg hT hw 0 0 20 (v := .ref (r 20)) rfl rfl rfl (by decide) m10_6 d_Mpg_settle_265 ?_
                  refine lv_iload_n S.x S.b d_Mpg_settle_268 rfl (lv_at hl 1 rfl) ?_
                  refine lv_aload_n S.x S.b d_Mpg_settle_269 rfl (lv_at hl 0 rfl) ?_
                  refine px_get S k_Mpg hT hw 0 0 28 (v := .ref (r 28)) rfl rfl rfl (by decide) m10_16 d_Mpg_settle_270 ?_
                  refine lv_aload_n S.x S.b d_Mpg_settle_273 rfl (lv_at hl 0 rfl) ?_
                  refine px_get S k_Mpg hT hw 0 0 26 (v := .int (pf_43 26)) rfl rfl rfl (by decide) m10_14 d_Mpg_settle_274 ?_
                  refine px_iald S hT hw 0 21 (n := 700) (f := (wa 28)) rfl gp_28 (x := (pf_43 26)) (vp_in_iff.mpr (by constructor <;> omega)) d_Mpg_settle_277 ?_
                  refine lv_topi (fun z186 ez186 => ?_)
                  have lz186 := Int32.le_toInt z186
                  have uz186 := Int32.toInt_lt z186
                  have hwi : (pf_43 26).toNatClampNeg = ((pf 26).toInt - 1).toNat := (by have hq9 := cl_nat (x := (pf_43 26)) (by omega); omega); have hsz186 : tk = z186 := (by rw [ez186, hwi]; exact hTop.2.2.symm); subst hsz186
                  refine px_iast S hT hw 0 16 (n := 2100) (f := ((va_up ma 18 (upd (ma 18) x43_4.toNatClampNeg p0)) 20)) (x := p0) (y := tk) rfl gp_20 (vp_in_iff.mpr (by constructor <;> omega)) d_Mpg_settle_278 (w' := wdP cs h r g tf ta pf_43 (va_up (va_up (va_up na 16 (upd (na 16) x43_4.toNatClampNeg z172)) 23 (upd ((va_up na 16 (upd (na 16) x43_4.toNatClampNeg z172)) 23) x43_4.toNatClampNeg v181)) 21 (upd ((va_up (va_up na 16 (upd (na 16) x43_4.toNatClampNeg z172)) 23 (upd ((va_up na 16 (upd (na 16) x43_4.toNatClampNeg z172)) 23) x43_4.toNatClampNeg v181)) 21) z185.toNatClampNeg p0)) (va_up (va_up ma 18 (upd (ma 18) x43_4.toNatClampNeg p0)) 20 (upd ((va_up ma 18 (upd (ma 18) x43_4.toNatClampNeg p0)) 20) p0.toNatClampNeg tk)) wa cf ca ef ea xf xa) (ps' := [wdP cs h r g tf ta pf_43 (va_up (va_up (va_up na 16 (upd (na 16) x43_4.toNatClampNeg z172)) 23 (upd ((va_up na 16 (upd (na 16) x43_4.toNatClampNeg z172)) 23) x43_4.toNatClampNeg v181)) 21 (upd ((va_up (va_up na 16 (upd (na 16) x43_4.toNatClampNeg z172)) 23 (upd ((va_up na 16 (upd (na 16) x43_4.toNatClampNeg z172)) 23) x43_4.toNatClampNeg v181)) 21) z185.toNatClampNeg p0)) (va_up (va_up ma 18 (upd (ma 18) x43_4.toNatClampNeg p0)) 20 (upd ((va_up ma 18 (upd (ma 18) x43_4.toNatClampNeg p0)) 20) p0.toNatClampNeg tk)) wa cf ca ef ea xf xa]) sp_20 rfl (fun H locs hw => ?_)
                  refine lv_iload S.x S.b d_Mpg_settle_279 (lv_at hl 4 rfl) ?_
                  exact px_iret (v := x43_4) S hr rfl hlk hAe hw (Nat.le_of_ble_eq_true rfl) (Nat.le_of_ble_eq_true rfl) (⟨pf_43, (va_up (va_up (va_up na 16 (upd (na 16) x43_4.toNatClampNeg z172)) 23 (upd ((va_up na 16 (upd (na 16) x43_4.toNatClampNeg z172)) 23) x43_4.toNatClampNeg v181)) 21 (upd ((va_up (va_up na 16 (upd (na 16) x43_4.toNatClampNeg z172)) 23 (upd ((va_up na 16 (upd (na 16) x43_4.toNatClampNeg z172)) 23) x43_4.toNatClampNeg v181)) 21) z185.toNatClampNeg p0)), (va_up (va_up ma 18 (upd (ma 18) x43_4.toNatClampNeg p0)) 20 (upd ((va_up ma 18 (upd (ma 18) x43_4.toNatClampNeg p0)) 20) p0.toNatClampNeg tk)), rfl, (show (pf_43 26).toInt = (pf 26).toInt - 1 from by omega), (show (pf_43 12).toInt = (pf 12).toInt - 1 from by omega), (show (pf 13).toInt ≤ (pf_43 13).toInt from by omega), (show (pf_43 13).toInt ≤ (pf 13).toInt + 1 from by omega), (show (pf_43 11).toInt = (pf 11).toInt from by omega), (show (pf_43 24).toInt = (pf 24).toInt from by omega), (show (pf_43 25).toInt = (pf 25).toInt from by omega), (show FrB lo na ma (va_up (va_up (va_up na 16 (upd (na 16) x43_4.toNatClampNeg z172)) 23 (upd ((va_up na 16 (upd (na 16) x43_4.toNatClampNeg z172)) 23) x43_4.toNatClampNeg v181)) 21 (upd ((va_up (va_up na 16 (upd (na 16) x43_4.toNatClampNeg z172)) 23 (upd ((va_up na 16 (upd (na 16) x43_4.toNatClampNeg z172)) 23) x43_4.toNatClampNeg v181)) 21) z185.toNatClampNeg p0)) (va_up (va_up ma 18 (upd (ma 18) x43_4.toNatClampNeg p0)) 20 (upd ((va_up ma 18 (upd (ma 18) x43_4.toNatClampNeg p0)) 20) p0.toNatClampNeg tk)) from (FrB.um (FrB.um (FrB.un (FrB.un (FrB.un hfb (by omega) (by omega)) (by omega) (by omega)) (by omega) (by omega)) (by omega) (by omega)) (by omega) (by omega))), (show ExR ta (tf 6).toInt (va_up (va_up (va_up na 16 (upd (na 16) x43_4.toNatClampNeg z172)) 23 (upd ((va_up na 16 (upd (na 16) x43_4.toNatClampNeg z172)) 23) x43_4.toNatClampNeg v181)) 21 (upd ((va_up (va_up na 16 (upd (na 16) x43_4.toNatClampNeg z172)) 23 (upd ((va_up na 16 (upd (na 16) x43_4.toNatClampNeg z172)) 23) x43_4.toNatClampNeg v181)) 21) z185.toNatClampNeg p0)) (va_up (va_up ma 18 (upd (ma 18) x43_4.toNatClampNeg p0)) 20 (upd ((va_up ma 18 (upd (ma 18) x43_4.toNatClampNeg p0)) 20) p0.toNatClampNeg tk)) x43_4 lo (pf_43 13).toInt (Wl + Wr + 1 + X) ((pf 12).toInt - 1) from ⟨ExV.le (exv_more (Dm := v181.toInt + 61 - (pf 12).toInt) (hu.le (Int.le_refl _) (Int.le_refl _) (Int.le_refl _) (by omega)) (by rw [← ez98]; omega) (hXR.1.le (Int.le_refl _) (Int.le_refl _) (Int.le_refl _) (by omega)) (Int.le_refl _) (by omega) ez185 (fun x g1 g2 g3 => ⟨fun j => by rw [up_far g2, up_far g1, up_far g1], fun j => by rw [up_far g3, up_far g1]⟩) ⟨fun j hj => by rw [va_up_n hj, up_far (nat_ne (by omega) (by omega) (by omega)), up_far (nat_ne (by omega) (by omega) (by omega))], fun j => by rw [up_far (nat_ne (by omega) (by omega) (by omega)), up_far (nat_ne (by omega) (by omega) (by omega))]⟩ ⟨fun j => by rw [up_far (nat_ne (by omega) (by omega) (by omega)), up_far (nat_ne (by omega) (by omega) (by omega)), up_far (nat_ne (by omega) (by omega) (by omega))], fun j hj => by rw [va_up_n hj, up_far (nat_ne (by omega) (by omega) (by omega))]⟩ ⟨(by rw [va_up_n (by decide), va_up_n (by decide), va_up_n (by decide)]), (by rw [va_up_n (by decide), va_up_n (by decide), va_up_n (by decide)]), (by rw [va_up_n (by decide), va_up_n (by decide), va_up_n (by decide)]), (by rw [va_up_n (by decide), va_up_n (by decide)])⟩ (by rw [va_up_n (by decide), va_up_s, pk_us]) (by rw [va_up_s, pk_us]) hXR.2.2.2.1 (mkd_of (by rw [va_up_s, pk_us]) (by omega) (by omega) (by omega))) (Int.le_refl _) (by omega) (by omega) (by rw [dp_un (by decide), dp_us]; omega), (by rw [dp_un (by decide), dp_us]; omega), (by rw [dp_un (by decide), dp_us]; omega), ⟨(by rw [va_up_s, pk_un (nat_ne (by omega) (by omega) (by omega)), va_up_n (by decide), va_up_n (by decide)]; omega), (by rw [va_up_s, pk_un (nat_ne (by omega) (by omega) (by omega)), va_up_n (by decide)]; omega)⟩⟩)⟩) d_Mpg_settle_281
                · have nc176 : ¬ z175.toInt = rk.toInt := mt (i_eq (x := z175) (y := rk)).mpr c176
                  exfalso
                  omega
        · have nc97 : ¬ v94.toInt = (0 : Int) := mt (i_eq (x := v94) (y := 0)).mpr c97
          refine lv_aload_n S.x S.b d_Mpg_settle_68 rfl (lv_at hl 0 rfl) ?_
          refine px_get S k_Mpg hT hw 0 0 17 (v := .ref (r 17)) rfl rfl rfl (by decide) m10_1 d_Mpg_settle_69 ?_
          refine lv_iload S.x S.b d_Mpg_settle_72 (lv_at hl 4 rfl) ?_
          refine px_iald S hT hw 0 13 (n := 2100) (f := (na 17)) rfl gp_17 (x := x43_4) (vp_in_iff.mpr (by constructor <;> omega)) d_Mpg_settle_74 ?_
          refine lv_topi (fun z187 ez187 => ?_)
          have lz187 := Int32.le_toInt z187
          have uz187 := Int32.toInt_lt z187
          obtain ⟨hu, hul, hud, hu21, hu20⟩ := exv_down hu (by rw [← ez1]; omega) (by rw [← ez92]; exact hplv.1 (by omega)) ez187; have hur := hu.rng
          refine lv_istore (lv' := [(4, .int z187), (0, .ref h), (1, .int p0), (2, .int a), (3, .int rk)]) S.x S.b d_Mpg_settle_75 hl (by decide) rfl (fun ls hl => ?_)
          refine lv_goto (tgt := 43) S.x S.b d_Mpg_settle_77 (by decide) ?_
          exact ih43 pf_43 z187 _ _ ls (show (pf_43 26).toInt = (pf 26).toInt - 1 from by omega) (show (pf_43 12).toInt = (pf 12).toInt - 1 from by omega) (show (pf_43 11).toInt = (pf 11).toInt from by omega) (show (pf_43 13).toInt = (pf 13).toInt from by omega) (show (pf_43 24).toInt = (pf 24).toInt from by omega) (show (pf_43 25).toInt = (pf 25).toInt from by omega) (show ExV ta (tf 6).toInt na ma z187 lo m2 Wl (dp na a + 61 - ((pf 12).toInt - 1)) from hu) (show dp na z187 = dp na a from by omega) (show (na 21 z187.toNatClampNeg).toInt < 0 from by omega) (show (ma 20 z187.toNatClampNeg).toInt < 0 from by omega) (show z187.toInt < (n_43 : Int) from by omega) hw (lv_sub hl [1, 2, 3, 4, 0] rfl)
  refine lv_aload_n S.x S.b d_Mpg_settle_0 rfl (lv_at hl 0 rfl) ?_
  refine lv_dup S.x S.b d_Mpg_settle_1 rfl ?_
  refine px_get S k_Mpg hT hw 0 0 26 (v := .int (pf 26)) rfl rfl rfl (by decide) m10_14 d_Mpg_settle_2 ?_
  refine lv_iconst (v := 1) S.x S.b d_Mpg_settle_5 (by decide) ?_
  refine lv_isub S.x S.b d_Mpg_settle_6 ?_
  have lr188 := Int32.le_toInt (pf 26)
  have ur188 := Int32.toInt_lt (pf 26)
  refine lv_topi (fun z189 ez189 => ?_)
  have tz189 : z189.toInt = ((pf 26).toInt - (1 : Int) + 2147483648) % 4294967296 - 2147483648 := by rw [ez189]; exact i_sub (pf 26) 1
  have lz189 := Int32.le_toInt z189
  have uz189 := Int32.toInt_lt z189
  try replace tz189 : z189.toInt = (pf 26).toInt - (1 : Int) := by omega
  refine px_put S k_Mpg hT hw 0 0 26 rfl rfl (by decide) m10_14 rfl rfl rfl (Nat.le_of_ble_eq_true rfl) d_Mpg_settle_7 (w' := wdP cs h r g tf ta (upd pf 26 z189) na ma wa cf ca ef ea xf xa) (ps' := [wdP cs h r g tf ta (upd pf 26 z189) na ma wa cf ca ef ea xf xa]) rfl rfl (fun H locs hw => ?_)
  refine lv_aload_n S.x S.b d_Mpg_settle_10 rfl (lv_at hl 0 rfl) ?_
  refine lv_dup S.x S.b d_Mpg_settle_11 rfl ?_
  refine px_get S k_Mpg hT hw 0 0 12 (v := .int (pf 12)) rfl rfl rfl (by decide) m9_236 d_Mpg_settle_12 ?_
  refine lv_iconst (v := 1) S.x S.b d_Mpg_settle_15 (by decide) ?_
  refine lv_isub S.x S.b d_Mpg_settle_16 ?_
  have lr190 := Int32.le_toInt (pf 12)
  have ur190 := Int32.toInt_lt (pf 12)
  refine lv_topi (fun z191 ez191 => ?_)
  have tz191 : z191.toInt = ((pf 12).toInt - (1 : Int) + 2147483648) % 4294967296 - 2147483648 := by rw [ez191]; exact i_sub (pf 12) 1
  have lz191 := Int32.le_toInt z191
  have uz191 := Int32.toInt_lt z191
  try replace tz191 : z191.toInt = (pf 12).toInt - (1 : Int) := by omega
  refine px_put S k_Mpg hT hw 0 0 12 rfl rfl (by decide) m9_236 rfl rfl rfl (Nat.le_of_ble_eq_true rfl) d_Mpg_settle_17 (w' := wdP cs h r g tf ta (upd (upd pf 12 z191) 26 z189) na ma wa cf ca ef ea xf xa) (ps' := [wdP cs h r g tf ta (upd (upd pf 12 z191) 26 z189) na ma wa cf ca ef ea xf xa]) rfl rfl (fun H locs hw => ?_)
  refine lv_aload_n S.x S.b d_Mpg_settle_20 rfl (lv_at hl 0 rfl) ?_
  refine px_get S k_Mpg hT hw 0 0 29 (v := .ref (r 29)) rfl rfl rfl (by decide) m10_17 d_Mpg_settle_21 ?_
  refine lv_aload_n S.x S.b d_Mpg_settle_24 rfl (lv_at hl 0 rfl) ?_
  refine px_get S k_Mpg hT hw 0 0 26 (v := .int z189) rfl rfl rfl (by decide) m10_14 d_Mpg_settle_25 ?_
  refine px_iald S hT hw 0 22 (n := 700) (f := (wa 29)) rfl gp_29 (x := z189) (vp_in_iff.mpr (by constructor <;> omega)) d_Mpg_settle_28 ?_
  refine lv_topi (fun z192 ez192 => ?_)
  have lz192 := Int32.le_toInt z192
  have uz192 := Int32.toInt_lt z192
  have hwi : z189.toNatClampNeg = ((pf 26).toInt - 1).toNat := (by have hq9 := cl_nat (x := z189) (by omega); omega); have hsz192 : a = z192 := (by rw [ez192, hwi]; exact hTop.1.symm); subst hsz192
  refine lv_istore_n (lv' := [(2, .int a), (0, .ref h), (1, .int p0)]) S.x S.b d_Mpg_settle_29 rfl hl (by decide) rfl (fun ls hl => ?_)
  refine lv_aload_n S.x S.b d_Mpg_settle_30 rfl (lv_at hl 1 rfl) ?_
  refine px_get S k_Mpg hT hw 0 0 27 (v := .ref (r 27)) rfl rfl rfl (by decide) m10_15 d_Mpg_settle_31 ?_
  refine lv_aload_n S.x S.b d_Mpg_settle_34 rfl (lv_at hl 1 rfl) ?_
  refine px_get S k_Mpg hT hw 0 0 26 (v := .int z189) rfl rfl rfl (by decide) m10_14 d_Mpg_settle_35 ?_
  refine px_iald S hT hw 0 20 (n := 700) (f := (wa 27)) rfl gp_27 (x := z189) (vp_in_iff.mpr (by constructor <;> omega)) d_Mpg_settle_38 ?_
  refine lv_topi (fun z193 ez193 => ?_)
  have lz193 := Int32.le_toInt z193
  have uz193 := Int32.toInt_lt z193
  have hwi : z189.toNatClampNeg = ((pf 26).toInt - 1).toNat := (by have hq9 := cl_nat (x := z189) (by omega); omega); have hsz193 : rk = z193 := (by rw [ez193, hwi]; exact hTop.2.1.symm); subst hsz193
  refine lv_istore_n (lv' := [(3, .int rk), (2, .int a), (0, .ref h), (1, .int p0)]) S.x S.b d_Mpg_settle_39 rfl hl (by decide) rfl (fun ls hl => ?_)
  refine lv_iload_n S.x S.b d_Mpg_settle_40 rfl (lv_at hl 1 rfl) ?_
  refine lv_istore (lv' := [(4, .int a), (3, .int rk), (2, .int a), (0, .ref h), (1, .int p0)]) S.x S.b d_Mpg_settle_41 hl (by decide) rfl (fun ls hl => ?_)
  exact J43 ((a.toInt).toNat + 1) (upd (upd pf 12 z191) 26 z189) a _ _ ls (show z189.toInt = (pf 26).toInt - 1 from by omega) (show z191.toInt = (pf 12).toInt - 1 from by omega) (show (pf 11).toInt = (pf 11).toInt from by omega) (show (pf 13).toInt = (pf 13).toInt from by omega) (show (pf 24).toInt = (pf 24).toInt from by omega) (show (pf 25).toInt = (pf 25).toInt from by omega) (show ExV ta (tf 6).toInt na ma a lo m2 Wl (dp na a + 61 - ((pf 12).toInt - 1)) from hu) (show dp na a = dp na a from by omega) (show (na 21 a.toNatClampNeg).toInt < 0 from by omega) (show (ma 20 a.toNatClampNeg).toInt < 0 from by omega) (show a.toInt < ((((a.toInt).toNat + 1 : Nat) : Int) : Int) from by omega) hw (lv_sub hl [3, 4, 2, 1, 0] rfl)
