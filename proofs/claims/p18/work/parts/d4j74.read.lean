/-! THE REFERENCE reads a text: its answer is 0 just where the text has a meaning -/
theorem nar8 {z : Int32} (h : -128 ≤ z.toInt) (h2 : z.toInt ≤ 127) : (vp_nar .byte z).toInt = z.toInt := by
  show (z.toInt8.toInt32).toInt = z.toInt
  rw [Int8.toInt_toInt32, Int32.toInt_toInt8]
  have e : Int.bmod z.toInt 256 = z.toInt := by
    rw [Int.bmod_def]
    split <;> omega
  exact e
section TS
variable {sb bb : Nat → Int32} {p1 : Int32} {tf pf cf ef xf tf' pf' cf' ef' xf' : Nat → Int32} {ta na ma wa ca ea xa ta' na' ma' wa' ca' ea' xa' : Nat → Nat → Int32} {v : Int32} {b : Nat → Int} {n : Nat} {k : Nat → Int} {vl : Nat → Int32} {ql : Nat → Int}
theorem rd_12 (hp : p1.toInt = (n : Int)) (hn : n ≤ 2048) (h5 : (tf 5).toInt = (n : Int)) (hE1 : ∀ i : Nat, n ≤ i → b i = -1) (hb : ∀ i : Nat, i < n → (-128 ≤ (bb i).toInt ∧ (bb i).toInt ≤ 127) ∧ 0 ≤ b i ∧ BtR (bb i).toInt (b i)) (hsb : ∀ j : Nat, j < 4 → mnW[j]? = some (sb j).toInt) (hN : ∀ (ta1 : Nat → Nat → Int32) (tf5 : Nat → Int32) (ta6 : Nat → Nat → Int32) (c : Nat), LxR b n tf5 ta6 c → (∀ i : Nat, i < c → k i = lxK KWL b n (posN b n i)) ∧ NmV b n c vl ∧ NuV b n c vl ql) : ∀ (d m i : Nat) (x : Int32) (ta : Nat → Nat → Int32), E_mp_read sb bb p1 tf' ta' pf' na' ma' wa' cf' ca' ef' ea' xf' xa' v m 12 [x] [] [] [] [] tf ta pf na ma wa cf ca ef ea xf xa → x.toInt = (i : Int) → i + d = n → (∀ j : Nat, j < i → (ta 4 j).toInt = (bb j).toInt) → (v.toInt = 0 ↔ accT GV k vl ql) := by
  intro d
  induction d with
  | zero =>
    intro m i x ta h hx hi hc
    have hT : RTx tf ta b n := ⟨h5, hn, hE1, fun j hj => ⟨(hb j hj).2.1, by rw [hc j (by omega)]; exact (hb j hj).2.2⟩⟩
    have fin : ∀ {tf5 pf17 cf19 : Nat → Int32} {ta6 : Nat → Nat → Int32}, R_mp_readTokens tf ta tf5 ta6 → pf17 = upd (upd (upd (upd (upd (upd pf 11 0) 12 0) 13 0) 26 0) 24 (-1)) 25 (-1) → cf19 = upd (upd cf 30 0) 32 0 → ∀ {pf9 : Nat → Int32} {na9 ma9 wa9 : Nat → Nat → Int32}, (R_mp_whole ta6 pf17 na ma wa pf9 na9 ma9 wa9 1 → ¬ accT GV k vl ql) ∧ ∀ {ma2 ca2 : Nat → Nat → Int32} {cf2 : Nat → Int32} {D : Nat}, R_mp_whole ta6 pf17 na ma wa pf9 na9 ma9 wa9 0 → R_mp_checkText sb D tf5 ta6 pf9 na9 ma9 cf19 ca ma2 cf2 ca2 → (Uc cf2 ↔ accT GV k vl ql) := by
      intro tf5 pf17 cf19 ta6 htk e1 e2 pf9 na9 ma9 wa9
      have q11 : (pf17 11).toInt = 0 := by rw [e1, pk_un (by decide), pk_un (by decide), pk_un (by decide), pk_un (by decide), pk_un (by decide), pk_us]; rfl
      have q12 : (pf17 12).toInt = 0 := by rw [e1, pk_un (by decide), pk_un (by decide), pk_un (by decide), pk_un (by decide), pk_us]; rfl
      have q13 : (pf17 13).toInt = 0 := by rw [e1, pk_un (by decide), pk_un (by decide), pk_un (by decide), pk_us]; rfl
      have q26 : (pf17 26).toInt = 0 := by rw [e1, pk_un (by decide), pk_un (by decide), pk_us]; rfl
      have q24 : (pf17 24).toInt = -1 := by rw [e1, pk_un (by decide), pk_us]; rfl
      have q25 : (pf17 25).toInt = -1 := by rw [e1, pk_us]; rfl
      have q30 : (cf19 30).toInt = 0 := by rw [e2, pk_un (by decide), pk_us]; rfl
      refine ⟨fun h => ?_, fun {ma2 ca2 cf2 D} h1 h2 => ?_⟩
      · exact (acc_r (cf := cf19) (ca := ca) (cf' := cf19) (ca' := ca) hT (fun c hx => hN ta tf5 ta6 c hx) hsb htk q11 q12 q13 q26 q24 q25 q30).1 h
      · exact (acc_r hT (fun c hx => hN ta tf5 ta6 c hx) hsb htk q11 q12 q13 q26 q24 q25 q30).2 ma2 D h1 h2
    rcases iv_mp_read_12 h with ⟨m2, (⟨h1, tf5, ta6, h2, pf12, h3, pf13, h4, pf14, h5_1, pf15, h6, pf16, h7, pf17, h8, cf18, h9, cf19, h10, (⟨pf9, na9, ma9, wa9, h11, z76, h12, z77, h13, cf78, h14, e0, e1, e2, e3, e4, e5, e6, e7, e8, e9, e10, e11, ev⟩ | ⟨pf9, na9, ma9, wa9, h11, ma33, cf34, ca35, h12, (⟨h13, h14, ma61, ef62, ea63, xf71, h15, e0, e1, e2, e3, e4, e5, e6, e7, e8, e9, e10, e11, ev⟩ | ⟨h13, z72, h14, z73, h15, cf74, h16, e0, e1, e2, e3, e4, e5, e6, e7, e8, e9, e10, e11, ev⟩)⟩)⟩ | ⟨h1, z79, h2, z80, h3, hE⟩)⟩
    · exact ⟨fun q => absurd q (by rw [ev]; decide), fun q => absurd q ((fin h2 (by rw [h8, h7, h6, h5_1, h4, h3]) rfl).1 h11)⟩
    · have F := (fin h2 (by rw [h8, h7, h6, h5_1, h4, h3]) (by rw [h10, h9])).2 h11 h12
      rw [← F, ev]
      exact ⟨fun _ => (by unfold Uc; omega), fun _ => rfl⟩
    · have F := (fin h2 (by rw [h8, h7, h6, h5_1, h4, h3]) (by rw [h10, h9])).2 h11 h12
      rw [← F, ev, h16, pk_un (by decide)]
      exact Iff.rfl
    · exfalso; omega
  | succ d ih =>
    intro m i x ta h hx hi hc
    rcases iv_mp_read_12 h with ⟨m2, (⟨h1, tf5, ta6, h2, pf12, h3, pf13, h4, pf14, h5_1, pf15, h6, pf16, h7, pf17, h8, cf18, h9, cf19, h10, (⟨pf9, na9, ma9, wa9, h11, z76, h12, z77, h13, cf78, h14, e0, e1, e2, e3, e4, e5, e6, e7, e8, e9, e10, e11, ev⟩ | ⟨pf9, na9, ma9, wa9, h11, ma33, cf34, ca35, h12, (⟨h13, h14, ma61, ef62, ea63, xf71, h15, e0, e1, e2, e3, e4, e5, e6, e7, e8, e9, e10, e11, ev⟩ | ⟨h13, z72, h14, z73, h15, cf74, h16, e0, e1, e2, e3, e4, e5, e6, e7, e8, e9, e10, e11, ev⟩)⟩)⟩ | ⟨h1, z79, h2, z80, h3, hE⟩)⟩
    · exfalso; omega
    · exfalso; omega
    · exfalso; omega
    · have z2 := ti_add h3 hx (show (1 : Int32).toInt = 1 from rfl) (by omega) (by omega)
      refine ih m2 (i + 1) z80 _ hE (by omega) (by omega) (fun j hj => ?_)
      rw [cn_of hx] at h2
      rw [va_up_s, cn_of hx]
      by_cases w : j = i
      · rw [w, pk_us, h2]; exact nar8 (hb i (by omega)).1.1 (hb i (by omega)).1.2
      · rw [pk_un w]; exact hc j (by omega)
theorem rdr_ok (hp : p1.toInt = (n : Int)) (hn : n ≤ 2048) (hE1 : ∀ i : Nat, n ≤ i → b i = -1) (hb : ∀ i : Nat, i < n → (-128 ≤ (bb i).toInt ∧ (bb i).toInt ≤ 127) ∧ 0 ≤ b i ∧ BtR (bb i).toInt (b i)) (hsb : ∀ j : Nat, j < 4 → mnW[j]? = some (sb j).toInt) (hN : ∀ (ta1 : Nat → Nat → Int32) (tf5 : Nat → Int32) (ta6 : Nat → Nat → Int32) (c : Nat), LxR b n tf5 ta6 c → (∀ i : Nat, i < c → k i = lxK KWL b n (posN b n i)) ∧ NmV b n c vl ∧ NuV b n c vl ql) (h : R_mp_read sb bb p1 tf ta pf na ma wa cf ca ef ea xf xa tf' ta' pf' na' ma' wa' cf' ca' ef' ea' xf' xa' v) : v.toInt = 0 ↔ accT GV k vl ql := by
  obtain ⟨m, h⟩ := h
  obtain ⟨m2, xf81, h1, tf82, h2, hE⟩ := iv_mp_read_0 h
  exact rd_12 hp hn (by rw [h2, pk_us]; exact hp) hE1 hb hsb hN n m2 0 _ _ hE rfl (Nat.zero_add _) (fun j hj => absurd hj (Nat.not_lt_zero _))
end TS
