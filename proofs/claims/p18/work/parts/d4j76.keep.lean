/-! the class: what stands before a text stands behind it -/
theorem nmt_pre {f : Nat → Int32} {a : Nat → Nat → Int32} {A B : List (List Int)} (h : NmT f a (A ++ B)) {f' : Nat → Int32} (hf : (f' 11).toInt = (A.length : Int)) : NmT f' a A := by
  refine ⟨hf, fun i w hw => ?_⟩
  have hi := (List.getElem?_eq_some_iff.mp hw).1
  have q := h.2 i w (by rw [List.getElem?_append_left hi]; exact hw)
  rw [List.take_append_of_le_length (by omega), List.take_append_of_le_length (by omega)] at q
  exact q
section TU
variable {sn9 : Nat} {sb : Nat → Int32} {tp : Nat} {tb : Nat → Int32} {cn : Nat} {fn : Nat} {sn : Nat} {p0 : Int32}
variable {cf' : Nat → Int32} {ca' : Nat → Nat → Int32} {fo' : Option Nat} {tf' : Nat → Int32} {ta' : Nat → Nat → Int32} {ob6' : Option Nat} {fp' : Nat → Int32} {cd' : Nat → Int32} {ft' : Nat → Int32} {nf' : Nat → Int32} {na' : Nat → Nat → Int32} {own' : Bool} {lq' : Nat} {lc' : Nat} {lf' : Nat → Int32} {lg' : Nat → Option Nat} {fq' : Nat} {fc' : Nat} {ff' : Nat → Int32} {fg' : Nat → Option Nat} {P' : va_W} {fs' : Nat → Int32} {sd' : Nat → Int32} {v : Int32}
variable {cf : Nat → Int32} {ca : Nat → Nat → Int32} {fo : Option Nat} {tf : Nat → Int32} {ta : Nat → Nat → Int32} {ob6 : Option Nat} {fp : Nat → Int32} {cd : Nat → Int32} {ft : Nat → Int32} {nf : Nat → Int32} {na : Nat → Nat → Int32} {own : Bool} {lq : Nat} {lc : Nat} {lf : Nat → Int32} {lg : Nat → Option Nat} {fq : Nat} {fc : Nat} {ff : Nat → Int32} {fg : Nat → Option Nat} {P : va_W} {fs : Nat → Int32} {sd : Nat → Int32}
theorem cpre_k {n : Nat} (hN : ND P') (hC : CPre sn9 sb tf ta na P ff fg) (hp : p0.toInt = (n : Int)) (hn : n ≤ 2048) (h : R_tc_compile sn9 sb tp tb cn fn sn p0 cf ca fo tf ta ob6 fp cd ft nf na own lq lc lf lg fq fc ff fg P fs sd cf' ca' fo' tf' ta' ob6' fp' cd' ft' nf' na' own' lq' lc' lf' lg' fq' fc' ff' fg' P' fs' sd' v) : CPre sn9 sb tf' ta' na' P' ff' fg' := by
  obtain ⟨c1, c2, c3⟩ := hC
  obtain ⟨k, h⟩ := h
  obtain ⟨k, tf438, ta439, g1, nf445, ff446, fg447, g2, g3, cf470, fo471, tf472, fp473, cd474, nf475, lf476, lg477, fs478, sd479, g4, hE⟩ := iv_tc_compile_0 h
  obtain ⟨⟨x1, -, -, t2, t3⟩, n14⟩ := fgt_ok c2 g2
  have nk := nkr_tc_startOver0 g4
  unfold NK at nk
  have l10 : GV.length = 10 := rfl
  rw [l10] at x1 t3
  obtain ⟨d1, d2, d3, d4, d5⟩ := (tne_tc_compile _ _ _ _ _ _ _ _ _ _ _ _ _ _ _ _ _ _ _ _ _ _ _ _ _ _ _ _ _ _ hE).2 hN (by omega) (by rw [nk]; omega)
  refine ⟨?_, ⟨d1, fun i e he => ?_, fun i j hi hj e => ?_⟩, c3⟩
  · obtain ⟨c, R', Q, x1, -⟩ := (scan_ok (KW := KWL) (R := RS0) rfl c3 hn hp c1 rs_off (by rw [rs_len]; exact Nat.le_refl _) g1).2
    rw [tae_tc_compile _ _ _ _ _ _ _ _ _ _ _ _ _ _ _ _ _ _ _ _ _ _ _ _ _ _ _ _ _ _ (by decide) hE]
    have y := x1.2.2.2.2.2.2
    rw [← List.append_assoc] at y
    exact nmt_pre y (by rw [pk_us, rs_len]; rfl)
  · obtain ⟨q, s, b, ⟨a1, a2, a3, a4, a5, a6, a7, a8⟩, a9⟩ := t2 i e he
    have hi : i < 10 := (List.getElem?_eq_some_iff.mp he).1
    refine ⟨q, s, b, ⟨(d3 i hi).trans a1, d5 q i s hi a1 a2, a3, a4, a5, a6, a7, fun j w hw => ?_⟩, a9⟩
    have hj := (List.getElem?_eq_some_iff.mp hw).1
    rw [d4 (b + j) (by omega)]
    exact a8 j w hw
  · rw [d3 i hi, d3 j hj] at e
    exact t3 i j hi hj e
end TU
