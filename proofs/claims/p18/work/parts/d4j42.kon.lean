/-! THE REFERENCE's checker: constants -/
theorem kon_n {x : Option Atr} (h : ¬ KnX x) : x.bind aKon = none := by
  cases x with
  | none => rfl
  | some a =>
    show aKon a = none
    unfold aKon
    cases g : aNum a with
    | none => rfl
    | some b =>
      have yb := num_f g
      show (if b.2.1 = 0 then some b else none) = none
      rw [if_neg (fun w => h ⟨a, rfl, num_s g, by rw [yb] at w; intro z; have w' : a.2.1 = 0 := w; omega⟩)]
theorem kon_a {a : Atr} (h : ¬ (a.1 = 2 ∨ a.1 = 3 ∨ a.1 = 5)) : aKon a = if a.2.1 = 0 then some (0, a.2) else none := by
  unfold aKon
  rw [num_y h]
  rfl
section RJ2
variable {tf : Nat → Int32} {ta : Nat → Nat → Int32} {k : Nat → Int} {vl : Nat → Int32} {c i lo hi : Nat} {ca na ma ma' : Nat → Nat → Int32} {L : Nms} {F : Int32 → Option Fnc} {n38 : Int32} {M : Nat → Int32} {cf cf' : Nat → Int32} {p0 v : Int32} {e : Ast}
theorem kon_r (hT : RTk ta c) (hk : ∀ i : Nat, i < c → rkd ta i = k i) (hs : SmN ta k vl c) (hF : FunR tf ta na ca k vl c n38 M F) (hP : PrL ta k c) (hV : VlN ta k vl c) (hx : isEx e = true) (hh : hi ≤ 100000) (hR : Rep k c na ma e false p0.toInt 0 lo hi) (hp : p0.toInt = (i : Int)) (hi' : lo ≤ i ∧ i < hi) (hc : CtR k vl c ca L n38 M cf ma) (h : R_mp_checkConstant tf ta na ca p0 ma cf ma' cf' v) : (∀ j : Nat, ¬ j = 30 → ¬ j = 31 → ¬ j = 57 → cf' j = cf j) ∧ FrM ma ma' lo hi ∧ (∃ ma3 : Nat → Nat → Int32, AgKr na ma ma3 lo hi ∧ (ma' = ma3 ∨ ∃ w : Int32, ma' = vu ma3 20 i w)) ∧ AC cf cf' ((att k vl (lkp L) F e [] 0).bind aKon) (fun a => v.toInt = 1 ∧ cf' 57 = a.2.2.1 ∧ ma' 20 i = a.2.2.1) := by
  have s0 : SmM cf (upd (upd cf 46 0) 47 0) := fun j h1 h2 h3 h4 => by rw [pk_un h4, pk_un h3]
  have hc0 : CtR k vl c ca L n38 M (upd (upd cf 46 0) 47 0) ma := hc.gm s0 (FrM.rf (lo := 0) (hi := 0)) (AgKr.rf (na := na))
  have z0 : Z2 (upd (upd cf 46 0) 47 0) := ⟨by rw [pk_un (by decide), pk_us]; rfl, by rw [pk_us]; rfl⟩
  have e30 : (upd (upd cf 46 0) 47 0) 30 = cf 30 := by rw [pk_un (by decide), pk_un (by decide)]
  have fr : ∀ {X : Nat → Int32}, (∀ j : Nat, ¬ j = 30 → ¬ j = 31 → ¬ j = 46 → ¬ j = 47 → ¬ j = 57 → X j = cf j) → ∀ j : Nat, ¬ j = 30 → ¬ j = 31 → ¬ j = 57 → (upd (upd X 46 (cf 46)) 47 (cf 47)) j = cf j := fun {X} hX j h1 h2 h3 => by
    by_cases q7 : j = 47
    · rw [q7, pk_us]
    · rw [pk_un q7]
      by_cases q6 : j = 46
      · rw [q6, pk_us]
      · rw [pk_un q6]; exact hX j h1 h2 q6 q7 h3
  have b30 : ∀ {X : Nat → Int32}, (upd (upd X 46 (cf 46)) 47 (cf 47)) 30 = X 30 := fun {X} => by rw [pk_un (by decide), pk_un (by decide)]
  rcases h with ⟨ma3, cf4, h1, (⟨h2, (⟨h3, (⟨h4, e0, e1, ev⟩ | ⟨h4, (⟨h5, e0, e1, ev⟩ | ⟨h5, e0, e1, ev⟩)⟩)⟩ | ⟨h3, v33, h4, cf38, h5, (⟨h6, e0, e1, ev⟩ | ⟨h6, (⟨h7, e0, e1, ev⟩ | ⟨h7, e0, e1, ev⟩)⟩)⟩)⟩ | ⟨h2, (⟨h3, (⟨h4, (⟨h5, e0, e1, ev⟩ | ⟨h5, (⟨h6, e0, e1, ev⟩ | ⟨h6, e0, e1, ev⟩)⟩)⟩ | ⟨h4, v74, h5, cf79, h6, (⟨h7, e0, e1, ev⟩ | ⟨h7, (⟨h8, e0, e1, ev⟩ | ⟨h8, e0, e1, ev⟩)⟩)⟩)⟩ | ⟨h3, cf107, v109, h4, ma117, h5, (⟨h6, (⟨h7, e0, e1, ev⟩ | ⟨h7, (⟨h8, e0, e1, ev⟩ | ⟨h8, e0, e1, ev⟩)⟩)⟩ | ⟨h6, v125, h7, cf130, h8, (⟨h9, e0, e1, ev⟩ | ⟨h9, (⟨h10, e0, e1, ev⟩ | ⟨h10, e0, e1, ev⟩)⟩)⟩)⟩)⟩)⟩ | h
  case inr => exact h.elim
  all_goals
    obtain ⟨o1, o2, o3, o4, o5, o6, o7⟩ := mt_x hs hF hP e p0 lo hi ma ma3 _ cf4 hx hh hR hc0 h1
    have K := o6 z0
    have c4 := hc0.gm o1 o2 o3
    have f4 : ∀ j : Nat, ¬ j = 30 → ¬ j = 31 → ¬ j = 46 → ¬ j = 47 → ¬ j = 57 → cf4 j = cf j := fun j h1 h2 h3 h4 _ => (o1 j h1 h2 h3 h4).trans (s0 j h1 h2 h3 h4)
  · exact absurd h3 h2
  · exact absurd h3 h2
  · exact absurd h3 h2
  · have bb := bad_r h5 (by decide)
    have nk : ¬ KnX (att k vl (lkp L) F e [] 0) := fun w => h2 (K.mpr w).1
    rw [e0, e1, kon_n nk]
    have B : Bc (upd (upd cf38 46 (cf 46)) 47 (cf 47)) := by unfold Bc; rw [b30]; exact bb.1
    exact ⟨fr (fun j h1 h2 h3 h4 h5 => (bb.2 j h1 h2).trans (f4 j h1 h2 h3 h4 h5)), o2, ⟨ma3, o3, Or.inl rfl⟩, AC.of (fun _ => B) (fun _ => Or.inl ⟨rfl, B⟩)⟩
  · rw [(bad_r h5 (by decide)).2 46 (by decide) (by decide)] at h6
    exact absurd h6 h2
  · rw [(bad_r h5 (by decide)).2 46 (by decide) (by decide)] at h6
    exact absurd h6 h2
  · exact absurd h2 h5
  · have nk : ¬ KnX (att k vl (lkp L) F e [] 0) := fun w => h3 (K.mpr w).2
    have b4 : Bc cf4 := fun u => h3 (o7 z0.2 u)
    rw [e0, e1, kon_n nk]
    have B : Bc (upd (upd cf4 46 (cf 46)) 47 (cf 47)) := by unfold Bc; rw [b30]; exact b4
    exact ⟨fr f4, o2, ⟨ma3, o3, Or.inl rfl⟩, AC.of (fun _ => B) (fun _ => Or.inl ⟨rfl, B⟩)⟩
  · exact absurd h6 h3
  · exact absurd h2 h4
  · exact absurd h2 h4
  · exact absurd h2 h4
  · exact absurd h6 h7
  · obtain ⟨a, ha, sa, n3⟩ := K.mp ⟨h2, h3⟩
    have R := rk_x hT hk hs hP hV e p0 v109 lo hi a cf4 cf107 hx (rep_k2 _ _ _ _ _ _ hR o3) c4.1 ha n3 h4
    rw [R.1 47 (by decide)] at h8
    exact absurd h3 h8
  · obtain ⟨a, ha, sa, n3⟩ := K.mp ⟨h2, h3⟩
    have R := rk_x hT hk hs hP hV e p0 v109 lo hi a cf4 cf107 hx (rep_k2 _ _ _ _ _ _ hR o3) c4.1 ha n3 h4
    rw [cn_of hp] at h5
    have h5' : ma117 = vu ma3 20 i v109 := h5
    have R3 := R.2.2 h2
    have a0 : a.2.1 = 0 := by
      rcases kn_b _ _ _ _ _ _ hR [] 0 a ha with w | w | w
      · exact w
      · exact absurd h6 (R3.2 w)
      · exact absurd w n3
    have hv : v109 = a.2.2.1 := (R3.1 a0).2
    have kk : (att k vl (lkp L) F e [] 0).bind aKon = some (0, a.2) := by
      rw [ha]
      show aKon a = _
      rw [kon_a sa, if_pos a0]
    have nn : (att k vl (lkp L) F e [] 0).bind aNum = some (0, a.2) := by
      rw [ha]; exact num_y sa
    have e3 : (upd (upd (upd cf107 46 (cf 46)) 47 (cf 47)) 57 v109) 30 = cf4 30 := by rw [pk_un (by decide), b30]; exact R.1 30 (by decide)
    rw [e0, e1, h5', kk]
    refine ⟨fun j h1 h2 h3 => by rw [pk_un h3]; exact fr (fun j h1 h2 h3 h4 h5 => (R.1 j h3).trans (f4 j h1 h2 h3 h4 h5)) j h1 h2 h3, fun f j q => by rw [vu_at (by omega)]; exact o2 f j q, ⟨ma3, o3, Or.inr ⟨v109, rfl⟩⟩, AC.of (fun q => ?_) (fun u => Or.inr ⟨_, rfl, ?_, by rw [ev]; rfl, ?_, ?_⟩)⟩
    · unfold Bc; rw [e3]
      exact o4.1 (by unfold Bc; rw [e30]; exact q)
    · unfold Uc; rw [e3]
      exact (o4.y (by unfold Uc; rw [e30]; exact u) nn).1
    · rw [pk_us]; exact hv
    · rw [vu_s]; exact hv
  · obtain ⟨a, ha, sa, n3⟩ := K.mp ⟨h2, h3⟩
    have R := rk_x hT hk hs hP hV e p0 v109 lo hi a cf4 cf107 hx (rep_k2 _ _ _ _ _ _ hR o3) c4.1 ha n3 h4
    rw [cn_of hp] at h5
    have h5' : ma117 = vu ma3 20 i v109 := h5
    have R3 := R.2.2 h2
    have a0 : ¬ a.2.1 = 0 := fun w => h6 (R3.1 w).1
    have kk : (att k vl (lkp L) F e [] 0).bind aKon = none := by
      rw [ha]
      show aKon a = _
      rw [kon_a sa, if_neg a0]
    have bb := bad_r h8 (by decide)
    have B : Bc (upd (upd cf130 46 (cf 46)) 47 (cf 47)) := by unfold Bc; rw [b30]; exact bb.1
    rw [e0, e1, h5', kk]
    exact ⟨fr (fun j h1 h2 h3 h4 h5 => (bb.2 j h1 h2).trans (by rw [pk_un h5]; exact (R.1 j h3).trans (f4 j h1 h2 h3 h4 h5))), fun f j q => by rw [vu_at (by omega)]; exact o2 f j q, ⟨ma3, o3, Or.inr ⟨v109, rfl⟩⟩, AC.of (fun _ => B) (fun _ => Or.inl ⟨rfl, B⟩)⟩
  · rw [(bad_r h8 (by decide)).2 46 (by decide) (by decide), pk_un (by decide)] at h9
    exact absurd h9 h6
  · rw [(bad_r h8 (by decide)).2 46 (by decide) (by decide), pk_un (by decide)] at h9
    exact absurd h9 h6
end RJ2
