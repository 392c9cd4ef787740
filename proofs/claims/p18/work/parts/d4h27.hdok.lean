def OkH7 (ta : Nat → Nat → Int32) (c t : Nat) (o : Int) (q0 : Nat) (L : Nms) (F : Int32 → Option Fnc) (n W b : Nat) (nm : Int32) (ty : Int) (Lf : List FnE) (ff : Nat → Int32) (fg : Nat → Option Nat) (r : Option (Ast × Nat)) (cf tf nf : Nat → Int32) (na : Nat → Nat → Int32) (P : va_W) (cf' : Nat → Int32) (fo' : Option Nat) (tf' nf' : Nat → Int32) (na' : Nat → Nat → Int32) (own' : Bool) (lf' : Nat → Int32) (lg' : Nat → Option Nat) (ff' : Nat → Int32) (fg' : Nat → Option Nat) (P' : va_W) : Prop := match r with
  | none => Flq tf'
  | some (ps, t1) => Cur tf' c t1 o ∧ t + 3 ≤ t1 ∧ (∀ i : Nat, i ≠ 10 → i ≠ 12 → i ≠ 13 → cf' i = cf i) ∧ (∃ z : Int32, z = cf 10 + 1 ∧ cf' 10 = z) ∧ cf' 13 = 0 ∧ (nf' 4).toInt = (L.length : Int) ∧ (fo' = some q0 ∧ ff' = ff ∧ fg' = fg) ∧ ∃ X : Nms, EnvL own' P' lf' lg' (L ++ X) ∧ X.length ≤ t1 - t ∧ AT tf tf' (semPars (vd ta) F L.length ps L 0) (fun p => p.1 = L ++ X ∧ (cf' 12).toInt = p.2 ∧ 0 ≤ p.2 ∧ p.2 ≤ 4096 * (t1 : Int)) ∧ ((cf 8).toInt = 0 → na' = na ∧ nf' 3 = nf 3 ∧ PX P P') ∧ (¬ (cf 8).toInt = 0 → PmI na' P' fg nf' q0 n W b nm ty (wnX ps) Lf) ∧ 2 * (wnX ps).length ≤ t1 - t
def fSy (v b n p : Int32) : Nat → Int32 := upd (upd (upd (upd (upd (upd (upd (fun _ => 0) 0 v) 1 2) 2 0) 3 b) 4 0) 5 n) 6 p
theorem fSy_m {v b n p : Int32} : fSy v b n p 0 = v ∧ fSy v b n p 1 = 2 ∧ fSy v b n p 3 = b ∧ fSy v b n p 4 = 0 ∧ fSy v b n p 6 = p := by
  refine ⟨?_, ?_, ?_, ?_, ?_⟩ <;> simp [fSy, upd]
section SL
variable {ta : Nat → Nat → Int32} {na na' : Nat → Nat → Int32} {own own' : Bool} {P P' : va_W} {nf lf nf' lf' ff ff' : Nat → Int32} {lg lg' fg fg' : Nat → Option Nat} {lq lc lq' lc' fq fc fq' fc' : Nat} {fo fo' : Option Nat}
variable {tf cf tf' cf' : Nat → Int32} {c t q0 : Nat} {o : Int} {p0 : Int32} {L : Nms}
theorem hd_75 (F : Int32 → Option Fnc) (hl : Lst0 ta c) (hN : ND P') (hL : EnvL own P lf lg L) (hc : Cur tf c t o) (hk : kd ta t = 16) (hk1 : kd ta (t + 1) = 40) {n W b : Nat} {nm : Int32} {ty : Int} {Lf : List FnE} (hI : ¬ (cf 8).toInt = 0 → PmI na P fg nf q0 n W b nm ty [] Lf ∧ 2 * b ≤ 2000 + t) {k : Nat} (h : E_tc_header ta p0 cf' fo' tf' nf' na' own' lq' lc' lf' lg' fq' fc' ff' fg' P' k 75 [] [] [] [] [] cf (some q0) tf nf na own lq lc lf lg fq fc ff fg P) :
    OkH7 ta c t o q0 L F n W b nm ty Lf ff fg (pHead (kd ta) t o) cf tf nf na P cf' fo' tf' nf' na' own' lf' lg' ff' fg' P' := by
  have c1 := hc.2.2.2.2.1
  have c2 := hc.2.2.2.2.2.1
  have h0o := hc.2.2.2.2.2.2.1
  have hlt : t + 1 < c := lst_lt (p0 := 16) hc hl (by decide) (by decide) hk
  have tkE : ∀ {k : Nat} {ls : List Int32} {cfa tfa nfa : Nat → Int32}, E_tc_header ta p0 cf' fo' tf' nf' na' own' lq' lc' lf' lg' fq' fc' ff' fg' P' k 151 ls [] [] [] [] cfa (some q0) tfa nfa na own lq lc lf lg fq fc ff fg P → Flq tfa → Flq tf' := by
    intro k ls cfa tfa nfa q f
    exact (tke_tc_header _ _ _ _ _ _ _ _ _ _ _ _ _ _ _ _ _ _ _ _ _ _ q).2 f
  /- from the parameters to the whole -/
  have comb : ∀ {z : Int32} {tx : Nat} {nfx tfx : Nat → Int32} {r : Option (Ast × Nat)}, OkHd ta c tx (o + 1) q0 L.length L F n W b nm ty [] Lf ff fg r (upd (upd (upd cf 10 z) 12 0) 13 0) tfx nfx na P cf' fo' tf' nf' na' own' lf' lg' ff' fg' P' → z = cf 10 + 1 → nfx = upd nf 4 (lf 1) → SmC tf tfx → t + 2 ≤ tx → OkH7 ta c t o q0 L F n W b nm ty Lf ff fg r cf tf nf na P cf' fo' tf' nf' na' own' lf' lg' ff' fg' P' := by
    intro z tx nfx tfx r g gz gn gs gt
    cases r with
    | none => exact g
    | some r =>
      obtain ⟨ps, t1⟩ := r
      obtain ⟨j1, j2, j3, j4, j5, X, j6, j7, j8, j9, j10, j11⟩ := g
      have e8 : upd (upd (upd cf 10 z) 12 0) 13 0 8 = cf 8 := by rw [pk_un (by decide), pk_un (by decide), pk_un (by decide)]
      have e12 : upd (upd (upd cf 10 z) 12 0) 13 0 12 = (0 : Int32) := by rw [pk_un (by decide), pk_us]
      rw [e8] at j9 j10
      refine ⟨by rw [show o = o + 1 - 1 by omega]; exact j1, by omega, fun i i1 i2 i3 => ?_, ⟨z, gz, ?_⟩, ?_, ?_, j5, X, j6, by omega, ?_, fun q => ?_, fun q => ?_, by omega⟩
      · rw [j3 i i2, pk_un i3, pk_un i2, pk_un i1]
      · rw [j3 10 (by decide), pk_un (by decide), pk_un (by decide), pk_us]
      · rw [j3 13 (by decide), pk_us]
      · rw [j4, gn, pk_us]; exact hL.1
      · exact AT.sm gs (j8 0 (by rw [e12]; rfl) (by omega) (by omega))
      · obtain ⟨y1, y2, y3⟩ := j9 q
        exact ⟨y1, by rw [y2, gn, pk_un (by decide)], y3⟩
      · have := j10 q
        rw [List.nil_append] at this
        exact this
  rcases iv_tc_header_75 h with ⟨k, z82, h1, nf84, v86, h2, tf92, h3, tf103, h4, v113, h5, (⟨h6, hE⟩ | ⟨h6, tf119, v121, h7, (⟨h8, hE⟩ | ⟨h8, hE⟩)⟩)⟩
  · obtain ⟨en, -⟩ := enter_r h2
    have hs := step_cur h3 hc hlt
    rcases open_cur (p0 := 40) h4 hs.1 hl (by decide) (by decide) with ⟨q1, q2, q3⟩ | ⟨q1, q2⟩
    · have ek := kind_cur h5 q3
      subst ek
      have e : pHead (kd ta) t o = (if kd ta (t + 2) = 41 then some (.null, t + 3) else none) := by
        unfold pHead
        rw [if_pos q2, if_pos (show kd ta (t + 2) = 41 from h6), if_pos (show kd ta (t + 2) = 41 from h6)]
      rw [e]
      refine comb (hd_done hl (by omega) (fun q => ?_) hL q3 (by rfl) hE) h1 en (hs.2.tr (smr_tk_open h4)) (by omega)
      rw [pk_un (by decide), pk_un (by decide), pk_un (by decide)] at q
      obtain ⟨⟨i1, i2, i3, i4, i5⟩, -⟩ := hI q
      exact ⟨i1, i2, i3, by rw [en, pk_un (by decide)]; exact i4, i5⟩
    · have e : pHead (kd ta) t o = none := by
        unfold pHead
        rw [if_neg (fun z => q1 ⟨i_eq.mpr hk1, z⟩)]
      rw [e]
      exact tkE hE q2
  · obtain ⟨en, -⟩ := enter_r h2
    have hs := step_cur h3 hc hlt
    rcases open_cur (p0 := 40) h4 hs.1 hl (by decide) (by decide) with ⟨q1, q2, q3⟩ | ⟨q1, q2⟩
    · have ek := kind_cur h5 q3
      subst ek
      rcases accept_cur (p0 := 3) h7 q3 hl (by decide) (by decide) with ⟨a1, a2, a3, a4⟩ | ⟨a1, a2, a3⟩
      · have hk3 : kd ta (t + 2) = 3 := by show (ta 0 (t + 1 + 1)).toInt = 3; rw [a1]; rfl
        have e : pHead (kd ta) t o = (if kd ta (t + 3) = 41 then some (.null, t + 4) else none) := by
          unfold pHead
          rw [if_pos q2, if_neg (show ¬ kd ta (t + 2) = 41 from h6), if_pos hk3]
        rw [e]
        refine comb (hd_done hl (by omega) (fun q => ?_) hL a3 (by rfl) hE) h1 en (hs.2.tr ((smr_tk_open h4).tr a4)) (by omega)
        rw [pk_un (by decide), pk_un (by decide), pk_un (by decide)] at q
        obtain ⟨⟨i1, i2, i3, i4, i5⟩, -⟩ := hI q
        exact ⟨i1, i2, i3, by rw [en, pk_un (by decide)]; exact i4, i5⟩
      · rw [a2] at h8; exact absurd (by rfl) h8
    · have e : pHead (kd ta) t o = none := by
        unfold pHead
        rw [if_neg (fun z => q1 ⟨i_eq.mpr hk1, z⟩)]
      rw [e]
      exact tkE hE ((tkr_tk_accept h7).2 q2)
  · obtain ⟨en, -⟩ := enter_r h2
    have hs := step_cur h3 hc hlt
    rcases open_cur (p0 := 40) h4 hs.1 hl (by decide) (by decide) with ⟨q1, q2, q3⟩ | ⟨q1, q2⟩
    · have ek := kind_cur h5 q3
      subst ek
      rcases accept_cur (p0 := 3) h7 q3 hl (by decide) (by decide) with ⟨a1, a2, a3, a4⟩ | ⟨a1, a2, a3⟩
      · rw [a2] at h8; exact absurd h8 (by decide)
      · have hk3 : ¬ kd ta (t + 2) = 3 := fun z => a1 (i_eq.mpr z)
        have e : pHead (kd ta) t o = pPars (kd ta) (o + 1) 2048 (t + 2) := by
          unfold pHead
          rw [if_pos q2, if_neg (show ¬ kd ta (t + 2) = 41 from h6), if_neg hk3]
        rw [e]
        rw [a3] at hE
        refine comb (hd_loop F hl hN (by omega) 2048 k 0 _ _ _ _ _ _ _ _ _ _ _ _ (t + 2) L [] hE (by rfl) (by rfl) (by omega) (by omega) q3 hL (by rw [en, pk_us]; exact hL.1) (fun q => ?_)) h1 en (hs.2.tr (smr_tk_open h4)) (by omega)
        rw [pk_un (by decide), pk_un (by decide), pk_un (by decide)] at q
        obtain ⟨⟨i1, i2, i3, i4, i5⟩, i6⟩ := hI q
        exact ⟨⟨i1, i2, i3, by rw [en, pk_un (by decide)]; exact i4, i5⟩, by show 2 * (b + 0) ≤ 2000 + (t + 2); omega⟩
    · have e : pHead (kd ta) t o = none := by
        unfold pHead
        rw [if_neg (fun z => q1 ⟨i_eq.mpr hk1, z⟩)]
      rw [e]
      exact tkE hE ((tkr_tk_accept h7).2 q2)
/-- whether a function of that name stands before -/
def dupF (nm : Int32) (L : List FnE) : Bool := L.any (fun e => decide (e.1 = nm))
theorem dupF_t {nm : Int32} {L : List FnE} {n j : Nat} {e : FnE} (h : L[j]? = some e) (hj : j < n) (he : e.1 = nm) : dupF nm (L.take n) = true := by
  unfold dupF
  rw [List.any_eq_true]
  refine ⟨e, ?_, decide_eq_true he⟩
  refine List.mem_of_getElem? (i := j) ?_
  rw [List.getElem?_take_of_lt hj]
  exact h
theorem dupF_f {nm : Int32} {L : List FnE} {n : Nat} (h : ∀ (j : Nat) (e : FnE), j < n → L[j]? = some e → ¬ e.1 = nm) : dupF nm (L.take n) = false := by
  cases hd : dupF nm (L.take n) with
  | false => rfl
  | true =>
    exfalso
    unfold dupF at hd
    rw [List.any_eq_true] at hd
    obtain ⟨e, h1, h2⟩ := hd
    obtain ⟨j, h3⟩ := List.mem_iff_getElem?.mp h1
    have hj := (List.getElem?_eq_some_iff.mp h3).1
    rw [List.length_take] at hj
    rw [List.getElem?_take_of_lt (by omega)] at h3
    exact h j e (by omega) h3 (of_decide_eq_true h2)
def OkHe (ta : Nat → Nat → Int32) (c t m : Nat) (o : Int) (p0 : Int32) (L : Nms) (F : Int32 → Option Fnc) (W : Nat) (LX : List FnE) (r : Option (Ast × Nat)) (cf tf nf cf' : Nat → Int32) (fo' : Option Nat) (tf' nf' : Nat → Int32) (na' : Nat → Nat → Int32) (own' : Bool) (lf' : Nat → Int32) (lg' : Nat → Option Nat) (ff' : Nat → Int32) (fg' : Nat → Option Nat) (P' : va_W) : Prop := match r with
  | none => Flq tf'
  | some (ps, t1) => Cur tf' c t1 o ∧ t + 3 ≤ t1 ∧ (∀ i : Nat, i ≠ 10 → i ≠ 12 → i ≠ 13 → cf' i = cf i) ∧ (cf' 10).toInt = ((m + 1 : Nat) : Int) ∧ cf' 13 = 0 ∧ (nf' 4).toInt = (L.length : Int) ∧ ∃ (q0 : Nat) (X : Nms), fo' = some q0 ∧ (∃ s, SymAt P' q0 s ∧ (s 6).toInt = p0.toInt) ∧ EnvL own' P' lf' lg' (L ++ X) ∧ X.length ≤ t1 - t ∧ ((cf 8).toInt = 0 → FunX na' P' ff' fg' W LX ∧ nf' 3 = nf 3 ∧ AT tf tf' (if dupF (vd ta t) (LX.take (10 + m)) = true then none else semPars (vd ta) F L.length ps L 0) (fun p => p.1 = L ++ X ∧ (cf' 12).toInt = p.2 ∧ 0 ≤ p.2 ∧ p.2 ≤ 4096 * (t1 : Int))) ∧ (¬ (cf 8).toInt = 0 → FunX na' P' ff' fg' (W + (wnX ps).length) (LX ++ [(vd ta t, p0.toInt, wnX ps)]) ∧ (nf' 3).toInt = ((W + (wnX ps).length : Nat) : Int) ∧ 2 * (W + (wnX ps).length) ≤ 2000 + t1)
theorem hd_ok (F : Int32 → Option Fnc) (hl : Lst0 ta c) (hN : ND P') (hL : EnvL own P lf lg L) {W m : Nat} {LX : List FnE} (hX : FunX na P ff fg W LX) (h3W : (nf 3).toInt = (W : Int)) (hW : ¬ (cf 8).toInt = 0 → 2 * W ≤ 2000 + t) (hlen : LX.length ≤ 90000) (hc : Cur tf c t o) (hk : kd ta t = 16) (hk1 : kd ta (t + 1) = 40) (h10 : (cf 10).toInt = (m : Int)) (hm : m ≤ t) (hp : (cf 8).toInt = 0 → ∃ ws : List Int, LX[10 + m]? = some (vd ta t, p0.toInt, ws)) (h : R_tc_header ta p0 cf fo tf nf na own lq lc lf lg fq fc ff fg P cf' fo' tf' nf' na' own' lq' lc' lf' lg' fq' fc' ff' fg' P') :
    OkHe ta c t m o p0 L F W LX (pHead (kd ta) t o) cf tf nf cf' fo' tf' nf' na' own' lf' lg' ff' fg' P' := by
  obtain ⟨k, h⟩ := h
  have c1 := hc.2.2.2.2.1
  have c2 := hc.2.2.2.2.2.1
  have hNP : ND P := hN.pa (pae_tc_header _ _ _ _ _ _ _ _ _ _ _ _ _ _ _ _ _ _ _ _ _ _ h)
  have hX' := hX
  obtain ⟨X1, X2, X3, X4, X5⟩ := hX'
  have c10 : ∀ {z : Int32}, z = cf 10 + 1 → z.toInt = ((m + 1 : Nat) : Int) := by
    intro z hz
    have := ti_add hz h10 (show (1 : Int32).toInt = 1 from rfl) (by omega) (by omega)
    omega
  /- the second time: from the function on -/
  have two : ∀ {k q0 : Nat} {tfx : Nat → Int32}, (cf 8).toInt = 0 → fg (10 + m) = some q0 → E_tc_header ta p0 cf' fo' tf' nf' na' own' lq' lc' lf' lg' fq' fc' ff' fg' P' k 75 [] [] [] [] [] cf (some q0) tfx nf na own lq lc lf lg fq fc ff fg P → Cur tfx c t o → (∀ {β : Type} {x : Option β} {M : β → Prop}, AT tfx tf' x M → AT tf tf' (if dupF (vd ta t) (LX.take (10 + m)) = true then none else x) M) → OkHe ta c t m o p0 L F W LX (pHead (kd ta) t o) cf tf nf cf' fo' tf' nf' na' own' lf' lg' ff' fg' P' := by
    intro k q0 tfx h8 hq hE hcx hat
    have o7 := hd_75 F hl hN hL hcx hk hk1 (n := 0) (W := 0) (b := 0) (nm := 0) (ty := 0) (Lf := []) (fun q => absurd h8 q) hE
    cases hr : pHead (kd ta) t o with
    | none =>
      rw [hr] at o7
      exact o7
    | some r =>
      obtain ⟨ps, t1⟩ := r
      rw [hr] at o7
      obtain ⟨j1, j2, j3, ⟨z, jz, j4⟩, j5, j6, ⟨f1, f2, f3⟩, X, j7, j8, j9, j10, -, -⟩ := o7
      obtain ⟨y1, y2, y3⟩ := j10 h8
      obtain ⟨ws, hws⟩ := hp h8
      have hFX : FunX na' P' ff' fg' W LX := by
        rw [y1, f2, f3]
        exact hX.px y3
      obtain ⟨q, s, b, ⟨u1, u2, u3, u4, u5, u6⟩, -⟩ := X4 _ _ hws
      rw [hq] at u1
      obtain rfl := Option.some.inj u1
      obtain ⟨Y, ey⟩ := y3
      refine ⟨j1, j2, j3, by rw [j4]; exact c10 jz, j5, j6, q0, X, f1, ⟨s, by rw [ey]; exact u2.ap, u5⟩, j7, j8, fun _ => ⟨hFX, y2, hat j9⟩, fun q => absurd h8 q⟩
  /- the first time -/
  have one : ∀ {k q1 : Nat} {tfx ffx : Nat → Int32} {fgx : Nat → Option Nat} {Px : va_W} {fqx fcx : Nat} {s : Nat → Int32}, ¬ (cf 8).toInt = 0 → Px = P ++ [syC q1 s] → s 0 = vd ta t → (s 1).toInt = 2 → (s 6).toInt = p0.toInt → (s 4).toInt = 0 → s 3 = nf 3 → AddL (ff 1) fg fgx q1 → (ffx 1).toInt = (ff 1).toInt + 1 → E_tc_header ta p0 cf' fo' tf' nf' na' own' lq' lc' lf' lg' fq' fc' ff' fg' P' k 75 [] [] [] [] [] cf (some q1) tfx nf na own lq lc lf lg fqx fcx ffx fgx Px → Cur tfx c t o → OkHe ta c t m o p0 L F W LX (pHead (kd ta) t o) cf tf nf cf' fo' tf' nf' na' own' lf' lg' ff' fg' P' := by
    intro k q1 tfx ffx fgx Px fqx fcx s h8 hPx s0 s1 s6 s4 s3 hAd hff hE hcx
    have hNx : ND Px := hN.pa (pae_tc_header _ _ _ _ _ _ _ _ _ _ _ _ _ _ _ _ _ _ _ _ _ _ hE)
    have fkeep : ∀ i : Nat, i < LX.length → fgx i = fg i := fun i hi => hAd.1 i (by omega)
    have fnew : fgx LX.length = some q1 := hAd.2 _ (by omega)
    have hS : SymAt Px q1 s := by rw [hPx]; exact SymAt.new
    have hE4 : FunE na Px fgx W LX := by
      intro i e he
      obtain ⟨q, s', b, ⟨v1, v2, v3⟩, v4⟩ := X4 i e he
      have hi := (List.getElem?_eq_some_iff.mp he).1
      exact ⟨q, s', b, ⟨by rw [fkeep i hi]; exact v1, by rw [hPx]; exact v2.ap, v3⟩, v4⟩
    have hdist : ∀ i : Nat, i < LX.length → ¬ fgx i = some q1 := by
      intro i hi hq
      have he : LX[i]? = some LX[i] := List.getElem?_eq_getElem hi
      obtain ⟨q, s', b, ⟨v1, ⟨j, v2⟩, v3⟩, v4⟩ := X4 i _ he
      rw [fkeep i hi, v1] at hq
      obtain rfl := Option.some.inj hq
      have hj := (List.getElem?_eq_some_iff.mp v2).1
      have z1 : Px[j]? = some (syC q s') := by rw [hPx, List.getElem?_append_left hj]; exact v2
      have z2 : Px[P.length]? = some (syC q s) := by rw [hPx, List.getElem?_append_right (Nat.le_refl _), Nat.sub_self]; rfl
      have := hNx j P.length q _ _ z1 z2
      omega
    have hPm : PmI na Px fgx nf q1 LX.length W W (vd ta t) p0.toInt [] LX := ⟨hE4, ⟨s, fnew, hS, s0, s1, s6, by rw [s4]; rfl, by rw [s3]; exact h3W, fun j w hw => by simp at hw⟩, Nat.le_refl _, by show (nf 3).toInt = ((W + 0 : Nat) : Int); rw [Nat.add_zero]; exact h3W, hdist⟩
    have o7 := hd_75 F hl hN (by rw [hPx]; exact hL.ap) hcx hk hk1 (fun _ => ⟨hPm, hW h8⟩) hE
    cases hr : pHead (kd ta) t o with
    | none =>
      rw [hr] at o7
      exact o7
    | some r =>
      obtain ⟨ps, t1⟩ := r
      rw [hr] at o7
      obtain ⟨j1, j2, j3, ⟨z, jz, j4⟩, j5, j6, ⟨f1, f2, f3⟩, X, j7, j8, -, -, j11, j12⟩ := o7
      obtain ⟨i1, ⟨s', i2⟩, i3, i4, i5⟩ := j11 h8
      have j1c := j1.2.2.2.2.1
      have hW' := hW h8
      have hFX : FunX na' P' ff' fg' (W + (wnX ps).length) (LX ++ [(vd ta t, p0.toInt, wnX ps)]) := by
        rw [f2, f3]
        refine ⟨by rw [hff, X1, List.length_append]; rfl, by rw [List.length_append, List.length_cons, List.length_nil]; omega, by omega, ?_, ?_⟩
        · intro i e he
          rcases Nat.lt_or_ge i LX.length with hi | hi
          · rw [List.getElem?_append_left hi] at he
            obtain ⟨q, s2, b, v1, v2⟩ := i1 i e he
            exact ⟨q, s2, b, v1, by omega⟩
          · have hi2 := (List.getElem?_eq_some_iff.mp he).1
            rw [List.length_append] at hi2
            have hi3 : i = LX.length := by simp at hi2; omega
            subst hi3
            rw [List.getElem?_append_right (Nat.le_refl _), Nat.sub_self] at he
            have e9 : e = (vd ta t, p0.toInt, wnX ps) := (Option.some.inj he).symm
            subst e9
            exact ⟨q1, s', W, i2, Nat.le_refl _⟩
        · intro i j hi hj hij
          rw [List.length_append, List.length_cons, List.length_nil] at hi hj
          rcases Nat.lt_or_ge i LX.length with ha | ha
          · rcases Nat.lt_or_ge j LX.length with hb | hb
            · rw [fkeep i ha, fkeep j hb] at hij
              exact X5 i j ha hb hij
            · have hb' : j = LX.length := by omega
              subst hb'
              rw [fnew] at hij
              exact absurd hij (hdist i ha)
          · have ha' : i = LX.length := by omega
            subst ha'
            rcases Nat.lt_or_ge j LX.length with hb | hb
            · rw [fnew] at hij
              exact absurd hij.symm (hdist j hb)
            · omega
      exact ⟨j1, j2, j3, by rw [j4]; exact c10 jz, j5, j6, q1, X, f1, ⟨s', i2.2.1, i2.2.2.2.2.1⟩, j7, j8, fun q => absurd q h8, fun _ => ⟨hFX, i4, by omega⟩⟩
  rcases iv_tc_header_0 h with ⟨k, v133, h1, (⟨h2, z138, h3, v140, h4, v144, h5, (⟨h6, hE⟩ | ⟨h6, tf149, h7, hE⟩)⟩ | ⟨h2, fq163, fc164, ff165, fg166, P167, v169, h3, v184, h4, (⟨h5, hE⟩ | ⟨h5, tf189, h6, hE⟩)⟩)⟩
  · have em := mean_cur h1 hc
    subst em
    obtain ⟨ws, hws⟩ := hp h2
    have hn := (List.getElem?_eq_some_iff.mp hws).1
    have hz := ti_add h3 (show (10 : Int32).toInt = 10 from rfl) h10 (by omega) (by omega)
    obtain ⟨q, s, b, ⟨u1, u2, u3, u4⟩, -⟩ := X4 _ _ hws
    have ev : v140 = some q := by
      rcases h4 with (⟨g1, ev⟩ | ⟨g1, v4, g2, (⟨g3, ev⟩ | ⟨g3, q12, g4, j13, s14, g5, ev⟩)⟩) | g
      · exfalso; omega
      · exfalso
        rcases g2 with y | y
        · rw [y] at g3; omega
        · exact y.elim
      · have hzn : z138.toNatClampNeg = 10 + m := cn_of (by omega)
        rw [hzn, u1] at g4
        rw [ev]; exact g4.symm
      · exact g.elim
    subst ev
    refine two h2 u1 hE hc (fun ha => ?_)
    have hnd : dupF (vd ta t) (LX.take (10 + m)) = false := by
      rcases fun_first hNP hX.l h5 with ⟨p1, p2⟩ | ⟨j, e, p1, p2, p3, p4⟩
      · rw [p2] at h6; exact absurd h6 (by simp)
      · rw [List.getElem?_map] at p1
        cases hj : LX[j]? with
        | none => rw [hj] at p1; exact absurd p1 (by simp)
        | some x =>
          have hjl := (List.getElem?_eq_some_iff.mp hj).1
          have ej : j = 10 + m := X5 j (10 + m) hjl hn (by rw [← p4, h6, u1])
          refine dupF_f (fun j' e' hlt he' => ?_)
          exact p3 j' (fnT e') (by omega) (by rw [List.getElem?_map, he']; rfl)
    rw [hnd, if_neg (by decide)]
    exact ha
  · have em := mean_cur h1 hc
    subst em
    obtain ⟨ws, hws⟩ := hp h2
    have hn := (List.getElem?_eq_some_iff.mp hws).1
    have hz := ti_add h3 (show (10 : Int32).toInt = 10 from rfl) h10 (by omega) (by omega)
    obtain ⟨q, s, b, ⟨u1, u2, u3, u4⟩, -⟩ := X4 _ _ hws
    have ev : v140 = some q := by
      rcases h4 with (⟨g1, ev⟩ | ⟨g1, v4, g2, (⟨g3, ev⟩ | ⟨g3, q12, g4, j13, s14, g5, ev⟩)⟩) | g
      · exfalso; omega
      · exfalso
        rcases g2 with y | y
        · rw [y] at g3; omega
        · exact y.elim
      · have hzn : z138.toNatClampNeg = 10 + m := cn_of (by omega)
        rw [hzn, u1] at g4
        rw [ev]; exact g4.symm
      · exact g.elim
    subst ev
    have hbad := blame_un h7 (by decide) (by rw [hc.1, hc.2.1]; omega)
    refine two h2 u1 hE ((blame_b h7).cur hc) (fun ha => ?_)
    have hnd : dupF (vd ta t) (LX.take (10 + m)) = true := by
      rcases fun_first hNP hX.l h5 with ⟨p1, p2⟩ | ⟨j, e, p1, p2, p3, p4⟩
      · exfalso
        exact p1 (10 + m) (fnT (vd ta t, p0.toInt, ws)) (by rw [List.getElem?_map, hws]; rfl) rfl
      · rw [List.getElem?_map] at p1
        cases hj : LX[j]? with
        | none => rw [hj] at p1; exact absurd p1 (by simp)
        | some x =>
          rw [hj] at p1
          have ex : fnT x = e := Option.some.inj p1
          have hne : ¬ j = 10 + m := fun z => h6 (by rw [p4, z, u1])
          have hge : ¬ 10 + m < j := fun z => p3 (10 + m) (fnT (vd ta t, p0.toInt, ws)) z (by rw [List.getElem?_map, hws]; rfl) rfl
          have e9 : (fnT x).1 = ta 2 t := by rw [ex]; exact p2
          exact dupF_t hj (by omega) e9
    rw [hnd, if_pos rfl]
    exact fun u => bke_tc_header _ _ _ _ _ _ _ _ _ _ _ _ _ _ _ _ _ _ _ _ _ _ hE (hbad u)
  · have em := mean_cur h1 hc
    subst em
    rcases h3 with ⟨q1, v5, g1, P8, g2, lq9, lc10, lf11, lg12, v14, g3, g4, d0, d1, d2, d3, d4, dv⟩ | g
    · rw [dv] at hE
      obtain ⟨m0, m1, m3, m4, m6⟩ := @fSy_m (ta 2 t) (nf 3) v5 p0
      exact one (s := fSy (ta 2 t) (nf 3) v5 p0) h2 (by rw [d4, g2]; rfl) m0 (by rw [m1]; rfl) (by rw [m6]) (by rw [m4]; rfl) m3 (by rw [d3]; exact g3) (by rw [d2]; exact g4) hE hc
    · exact g.elim
  · have em := mean_cur h1 hc
    subst em
    rcases h3 with ⟨q1, v5, g1, P8, g2, lq9, lc10, lf11, lg12, v14, g3, g4, d0, d1, d2, d3, d4, dv⟩ | g
    · rw [dv] at hE
      obtain ⟨m0, m1, m3, m4, m6⟩ := @fSy_m (ta 2 t) (nf 3) v5 p0
      exact one (s := fSy (ta 2 t) (nf 3) v5 p0) h2 (by rw [d4, g2]; rfl) m0 (by rw [m1]; rfl) (by rw [m6]) (by rw [m4]; rfl) m3 (by rw [d3]; exact g3) (by rw [d2]; exact g4) hE ((blame_b h6).cur hc)
    · exact g.elim
end SL
