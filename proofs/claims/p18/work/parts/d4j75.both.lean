/-! BOTH: a text that the class takes is one that the reference takes, and the other way round -/
section TT
variable {sn9 : Nat} {sb : Nat → Int32} {tp : Nat} {tb : Nat → Int32} {cn : Nat} {fn : Nat} {sn : Nat} {p0 : Int32}
variable {cf' : Nat → Int32} {ca' : Nat → Nat → Int32} {fo' : Option Nat} {tf' : Nat → Int32} {ta' : Nat → Nat → Int32} {ob6' : Option Nat} {fp' : Nat → Int32} {cd' : Nat → Int32} {ft' : Nat → Int32} {nf' : Nat → Int32} {na' : Nat → Nat → Int32} {own' : Bool} {lq' : Nat} {lc' : Nat} {lf' : Nat → Int32} {lg' : Nat → Option Nat} {fq' : Nat} {fc' : Nat} {ff' : Nat → Int32} {fg' : Nat → Option Nat} {P' : va_W} {fs' : Nat → Int32} {sd' : Nat → Int32} {v : Int32}
variable {cf : Nat → Int32} {ca : Nat → Nat → Int32} {fo : Option Nat} {tf : Nat → Int32} {ta : Nat → Nat → Int32} {ob6 : Option Nat} {fp : Nat → Int32} {cd : Nat → Int32} {ft : Nat → Int32} {nf : Nat → Int32} {na : Nat → Nat → Int32} {own : Bool} {lq : Nat} {lc : Nat} {lf : Nat → Int32} {lg : Nat → Option Nat} {fq : Nat} {fc : Nat} {ff : Nat → Int32} {fg : Nat → Option Nat} {P : va_W} {fs : Nat → Int32} {sd : Nat → Int32}
variable {sbr bb : Nat → Int32} {q0 w : Int32} {rtf rpf rcf ref rxf rtf' rpf' rcf' ref' rxf' : Nat → Int32} {rta rna rma rwa rca rea rxa rta' rna' rma' rwa' rca' rea' rxa' : Nat → Nat → Int32} {n : Nat}
set_option maxRecDepth 100000 in
theorem rs_off : offs (KWL ++ RS0) ≤ 133 := by decide
theorem bt_r {x : Int32} (h1 : -128 ≤ x.toInt) (h2 : x.toInt ≤ 127) : 0 ≤ (x &&& 255).toInt ∧ BtR x.toInt (x &&& 255).toInt := by
  have key : ∀ j : Fin 256, 0 ≤ (Int32.ofInt ((j.val : Int) - 128) &&& 255).toInt ∧ (((0 : Int) ≤ (Int32.ofInt ((j.val : Int) - 128) &&& 255).toInt ∧ (Int32.ofInt ((j.val : Int) - 128) &&& 255).toInt < 128 ∧ (Int32.ofInt ((j.val : Int) - 128)).toInt = (Int32.ofInt ((j.val : Int) - 128) &&& 255).toInt) ∨ (128 ≤ (Int32.ofInt ((j.val : Int) - 128) &&& 255).toInt ∧ (Int32.ofInt ((j.val : Int) - 128)).toInt < 0)) := by decide +kernel
  have hx : x = Int32.ofInt (((x.toInt + 128).toNat : Int) - 128) := by
    rw [show (((x.toInt + 128).toNat : Int) - 128) = x.toInt by omega, Int32.ofInt_toInt]
  have q := key ⟨(x.toInt + 128).toNat, by omega⟩
  rw [← hx] at q
  refine ⟨q.1, ?_⟩
  unfold BtR
  rcases q.2 with ⟨y1, y2, y3⟩ | ⟨y1, y2⟩
  · exact Or.inl ⟨y1, y2, y3⟩
  · exact Or.inr (Or.inl ⟨y1, y2⟩)
/-- what the class has before a text -/
def CPre (sn9 : Nat) (sb : Nat → Int32) (tf : Nat → Int32) (ta na : Nat → Nat → Int32) (P : va_W) (ff : Nat → Int32) (fg : Nat → Option Nat) : Prop := NmT (upd tf 11 26) ta (KWL ++ RS0) ∧ TenF na P ff fg ∧ ∀ z w : Int32, R_String_indexOf1 sn9 sb z w → 0 ≤ z.toInt → z.toInt ≤ 255 → (w.toInt < 0 ↔ isMk z.toInt = false)
theorem both_ok (hN : ND P') (hC : CPre sn9 sb tf ta na P ff fg) (hL : 0 ≤ (lf 1).toInt) (hcn : 0 ≤ (nI cn).toInt ∧ (nI cn).toInt ≤ 2000000000) (hp : p0.toInt = (n : Int)) (hn : n ≤ 2048) (htb : ∀ i : Nat, i < n → -128 ≤ (tb i).toInt ∧ (tb i).toInt ≤ 127) (hbb : ∀ i : Nat, i < n → bb i = tb i) (hq : q0.toInt = (n : Int)) (hsb : ∀ j : Nat, j < 4 → mnW[j]? = some (sbr j).toInt) (h : R_tc_compile sn9 sb tp tb cn fn sn p0 cf ca fo tf ta ob6 fp cd ft nf na own lq lc lf lg fq fc ff fg P fs sd cf' ca' fo' tf' ta' ob6' fp' cd' ft' nf' na' own' lq' lc' lf' lg' fq' fc' ff' fg' P' fs' sd' v) (h' : R_mp_read sbr bb q0 rtf rta rpf rna rma rwa rcf rca ref rea rxf rxa rtf' rta' rpf' rna' rma' rwa' rcf' rca' ref' rea' rxf' rxa' w) : v.toInt = 0 ↔ w.toInt = 0 := by
  obtain ⟨c1, c2, c3⟩ := hC
  have sc : ∀ (tf1 : Nat → Int32) (ta1 : Nat → Nat → Int32), R_t2_scan sn9 sb tb p0 tf ta tf1 ta1 → ∃ (c : Nat) (R' : List (List Int)) (Q : Nat), LxC KWL (bt tb n) n tf1 ta1 c (KWL ++ (RS0 ++ R')) Q ∧ ∀ i : Nat, i < c → bt tb n (posN (bt tb n) n i) = 34 → ¬ lxK KWL (bt tb n) n (posN (bt tb n) n i) = 19 → (ta1 2 i).toInt < 2048 := fun tf1 ta1 g => (scan_ok (KW := KWL) (R := RS0) rfl c3 hn hp c1 rs_off (by rw [rs_len]; exact Nat.le_refl _) g).2
  obtain ⟨tf1, ta1, g1, g2⟩ := cp_ok (G0 := GV) hN (fun tf1 ta1 g => by
    obtain ⟨c, R', Q, x1, -⟩ := sc tf1 ta1 g
    obtain ⟨y1, y2, y3, y4, y5⟩ := lst_c x1 hn
    exact ⟨c, y1, y2, y3, y4, by omega⟩) (fun nf1 ff1 fg1 g => fgt_ok c2 g) rfl hL hcn h
  obtain ⟨c, R', Q, x1, x2⟩ := sc tf1 ta1 g1
  rw [g2]
  exact (rdr_ok (b := bt tb n) hq hn (fun i hi => by unfold bt; rw [if_neg (by omega)]) (fun i hi => by
    rw [hbb i hi]
    have e : bt tb n i = (tb i &&& 255).toInt := by unfold bt; rw [if_pos hi]
    rw [e]
    exact ⟨htb i hi, bt_r (htb i hi).1 (htb i hi).2⟩) hsb (fun _ _ _ d hx => nv_c hx x1 (by rw [List.append_assoc]) x2) h').symm
end TT
