/-! THE REFERENCE: functions and their names, as the checker wants them -/
section TK1
variable {tf : Nat → Int32} {ta na ca ma : Nat → Nat → Int32} {b : Nat → Int} {n c : Nat} {vl : Nat → Int32} {LF : List FnE} {n38 : Int32}
/-- the names of the ten -/
def OwN (b : Nat → Int) (n c : Nat) (vl : Nat → Int32) : Prop := ∀ t : Nat, t < c → lxK KWL b n (posN b n t) = 16 → ∀ (j : Nat) (e : FnE), GV[j]? = some e → (vl t = e.1 ↔ wdI b n t = owW j)
theorem gv_no {t : Nat} (hO : OwN b n c vl) (ht : t < c) (h16 : lxK KWL b n (posN b n t) = 16) (h : ∀ j : Nat, j < 10 → ¬ wdI b n t = owW j) : ∀ (j : Nat) (e : FnE), GV[j]? = some e → ¬ e.1 = vl t := fun j e he w => h j (gv_at he).2 ((hO t ht h16 j e he).mp w.symm)
theorem flk_lf {x : Int32} (h : ∀ (j : Nat) (e : FnE), GV[j]? = some e → ¬ e.1 = x) : flk x ((GV ++ LF).map fnT) = flk x (LF.map fnT) := by
  rw [List.map_append]
  exact flk_ap (mem_fn h)
theorem funR_t (hT : RTx tf ta b n) (hx : LxR b n tf ta c) (hs : SmN ta (fun i => lxK KWL b n (posN b n i)) vl c) (hO : OwN b n c vl) (hL : FnLr (fun i => lxK KWL b n (posN b n i)) vl c na ma ca n38 LF) : FunR tf ta na ca (fun i => lxK KWL b n (posN b n i)) vl c n38 (ma 22) (fun v => flk v ((GV ++ LF).map fnT)) := by
  intro t z own h1 h2 h3 h4
  have h2' : lxK KWL b n (posN b n t) = 16 := h2
  rcases own_s hT hx h3 h1 h2' h4 with ⟨g1, g2⟩ | ⟨j, j1, j2, j3⟩
  · refine Or.inr ⟨g1, fun cf fn e38 hr => ?_⟩
    have ff := ff_s hs hL e38 h3 h1 h2 hr
    have eF : flk (vl t) ((GV ++ LF).map fnT) = flk (vl t) (LF.map fnT) := flk_lf (gv_no hO h1 h2' g2)
    rcases ff with ⟨f1, f2⟩ | ⟨j, e, f1, f2, f3, f4⟩
    · refine Or.inl ⟨by omega, ?_⟩
      show flk (vl t) ((GV ++ LF).map fnT) = none
      rw [eF]
      exact flk_no (mem_fn f2)
    · obtain ⟨i, i1, i2⟩ := hL.2.2 j e f2
      obtain ⟨T1, T2⟩ := tkf_t f1 i1 i2
      have lj := (List.getElem?_eq_some_iff.mp f2).1
      have l2 := hL.2.1
      refine Or.inr ⟨⟨by omega, by omega, T2⟩, (fnT e).2, ?_, T1⟩
      show flk (vl t) ((GV ++ LF).map fnT) = some (fnT e).2
      rw [eF]
      exact flk_at f2 f3 f4
  · obtain ⟨e, he⟩ := gv_get j1
    have w := (hO t h1 h2' j e he).mpr j3
    refine Or.inl ⟨by omega, (fnT e).2, ?_, tkf_o j2 he⟩
    show flk (vl t) ((GV ++ LF).map fnT) = some (fnT e).2
    rw [w, List.map_append]
    exact flk_in (gv_at he).1
theorem funG_t (hs : SmN ta (fun i => lxK KWL b n (posN b n i)) vl c) (hL : FnLr (fun i => lxK KWL b n (posN b n i)) vl c na ma ca n38 LF) : FunG ta na ca (fun i => lxK KWL b n (posN b n i)) vl c n38 (fun v => flk v ((GV ++ LF).map fnT)) := by
  intro t z fn cf h1 h2 h3 e38 hr hf
  show (flk (vl t) ((GV ++ LF).map fnT)).isSome = true
  rcases ff_s hs hL e38 h3 h1 h2 hr with ⟨f1, -⟩ | ⟨j, e, f1, f2, f3, f4⟩
  · exfalso; omega
  · by_cases g : ∃ (j : Nat) (e : FnE), GV[j]? = some e ∧ e.1 = vl t
    · obtain ⟨j', e', g1, g2⟩ := g
      rw [List.map_append, flk_in (by rw [← g2]; exact (gv_at g1).1)]
      rfl
    · rw [flk_lf (fun j e he w => g ⟨j, e, he, w⟩), flk_at f2 f3 f4]
      rfl
theorem FnLr.cav {ca' : Nat → Nat → Int32} {k : Nat → Int} (h : FnLr k vl c na ma ca n38 LF) (e : ca' 39 = ca 39) : FnLr k vl c na ma ca' n38 LF := ⟨h.1, h.2.1, fun j x hx => by rw [e]; exact h.2.2 j x hx⟩
theorem dpR_t (hT : RTx tf ta b n) (hx : LxR b n tf ta c) (hs : SmN ta (fun i => lxK KWL b n (posN b n i)) vl c) (hO : OwN b n c vl) (hL : FnLr (fun i => lxK KWL b n (posN b n i)) vl c na ma ca n38 LF) : DpR tf ta na ca vl c (fun i => lxK KWL b n (posN b n i)) n38 (GV ++ LF) LF.length := by
  intro f i t ca1 z own e39 h39 k14 k15 htc h16 hf hz ho
  have h16' : lxK KWL b n (posN b n t) = 16 := h16
  have g10 : GV.length = 10 := rfl
  have hg : LF[f]? = some LF[f] := List.getElem?_eq_getElem hf
  have nmf : LF[f].1 = vl t := by
    obtain ⟨i', i1, -, t', ty, m, ps, a1, -, -, -, a5⟩ := hL.2.2 f _ hg
    have ei : i' = i := by omega
    rw [ei] at a1
    have et : t' = t := by omega
    rw [a5, et]
  rcases own_s hT hx hz htc h16' ho with ⟨g1, g2⟩ | ⟨j, j1, j2, j3⟩
  · have no := gv_no hO htc h16' g2
    refine Or.inr ⟨by rw [g1]; decide, fun g fn e38 hr => ?_⟩
    rcases ff2_s hs (hL.cav e39) e38 hz htc h16 hr with ⟨f1, f2⟩ | ⟨j, e, f1, f2, f3, f4⟩
    · exact absurd nmf (f2 f _ hg)
    · have jf : j ≤ f := by
        by_cases w : f < j
        · exact absurd nmf (f4 f _ w hg)
        · omega
      constructor
      · intro w
        have ej : j = f := by omega
        refine dupF_f (fun q x hq hx' => ?_)
        by_cases w2 : q < 10
        · rw [List.getElem?_append_left (by omega)] at hx'
          exact no q x hx'
        · rw [List.getElem?_append_right (by omega)] at hx'
          exact f4 (q - GV.length) x (by omega) hx'
      · intro w
        by_cases w2 : j = f
        · omega
        · exfalso
          have y := dupF_t (nm := vl t) (L := GV ++ LF) (n := 10 + f) (j := 10 + j) (e := e) (by rw [List.getElem?_append_right (by omega), show 10 + j - GV.length = j by omega]; exact f2) (by omega) f3
          rw [y] at w
          exact absurd w (by decide)
  · obtain ⟨e, he⟩ := gv_get j1
    have w := (hO t htc h16' j e he).mpr j3
    exact Or.inl ⟨by omega, dupF_t (j := j) (e := e) (by rw [List.getElem?_append_left (by omega)]; exact he) (by omega) w.symm⟩
end TK1
