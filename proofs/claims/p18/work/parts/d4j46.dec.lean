/-! THE REFERENCE's checker: variables -/
theorem opt_c {α : Type} (y : Option α) : y = none ∨ ∃ n : α, y = some n := by
  cases y with
  | none => exact Or.inl rfl
  | some n => exact Or.inr ⟨n, rfl⟩
theorem bnd_sw {α β γ : Type} {x : Option α} {y : Option β} {f : α → β → Option γ} : (x.bind fun a => y.bind fun b => f a b) = (y.bind fun b => x.bind fun a => f a b) := by
  cases x <;> cases y <;> rfl
theorem ac_h {a b : Nat → Int32} {x : Option Atr} {g : Atr → Option Atr} {M : Atr → Prop} (h : AC a b (x.bind g) M) (hg : ∀ a b : Atr, g a = some b → b.2.2.2 = a.2.2.2) : AC a b (x.bind g) (fun y => ∃ z : Atr, x = some z ∧ y.2.2.2 = z.2.2.2) := by
  refine AC.of h.1 (fun u => ?_)
  rcases opt_c (x.bind g) with hy | ⟨n, hy⟩
  · exact Or.inl ⟨hy, h.n u hy⟩
  · refine Or.inr ⟨n, hy, (h.y u hy).1, ?_⟩
    rcases opt_c x with hx | ⟨z, hx⟩
    · rw [hx] at hy; exact absurd hy (by simp)
    · rw [hx] at hy
      exact ⟨z, hx, hg z n hy⟩
section SF
variable {tf : Nat → Int32} {ta na ca ca0 ca' ma ma' : Nat → Nat → Int32} {vl M0 : Nat → Int32} {k : Nat → Int} {ql : Nat → Int} {c sc lo hi mid t : Nat} {n38 : Int32} {F : Int32 → Option Fnc} {cf cf' : Nat → Int32} {L : Nms} {p0 p1 v : Int32} {e : Ast} {tp ch : Bool}
theorem sv_s {s : Sg} : semVar k vl ql F tp ch sc (vSing t) s = (dcl tp F sc s.1 (vl t) (1, 0)).bind fun L => some (L, s.2.1 + 1, s.2.2) := by first | rfl | simp [semVar, vSing]
theorem sv_i {s : Sg} : semVar k vl ql F tp ch sc (vInit t e) s = ((att k vl (lkp s.1) F e [] 0).bind (if tp = true then aKon else aNum)).bind fun a => (dcl tp F sc s.1 (vl t) (1, 0)).bind fun L => some (L, s.2.1 + 1, if tp = true then s.2.2.1 else max s.2.2.1 a.2.2.2, s.2.2.2) := by first | rfl | simp [semVar, vInit]
theorem sv_r {s : Sg} : semVar k vl ql F tp ch sc (vRow t e) s = (dcl tp F sc s.1 (vl t) (if ch = true then 3 else 2, 0)).bind fun L => (semAr k vl ql (lkp s.1) F ch (vRow t e)).bind fun n => some (L, s.2.1 + wds ch n, s.2.2) := by
  rw [← bnd_sw]
  first | rfl | simp [semVar, vRow, semAr]
theorem sv_l {s : Sg} {l : Ast} : semVar k vl ql F tp ch sc (vList t e l) s = (dcl tp F sc s.1 (vl t) (if ch = true then 3 else 2, 0)).bind fun L => (semAr k vl ql (lkp s.1) F ch (vList t e l)).bind fun n => some (L, s.2.1 + wds ch n, s.2.2) := by
  have e1 : semVar k vl ql F tp ch sc (vList t e l) s = (semSz k vl (lkp s.1) F e).bind fun n => (semKs k vl (lkp s.1) F l).bind fun m => if m ≤ n then (dcl tp F sc s.1 (vl t) (if ch = true then 3 else 2, 0)).bind fun L => some (L, s.2.1 + wds ch n, s.2.2) else none := by first | rfl | simp [semVar, vList]
  have e2 : semAr k vl ql (lkp s.1) F ch (vList t e l) = (semSz k vl (lkp s.1) F e).bind fun n => (semKs k vl (lkp s.1) F l).bind fun m => if m ≤ n then some n else none := by first | rfl | simp [semAr, vList]
  rw [← bnd_sw, e1, e2]
  cases semSz k vl (lkp s.1) F e with
  | none => rfl
  | some n =>
    cases semKs k vl (lkp s.1) F l with
    | none => rfl
    | some m =>
      show (if m ≤ n then _ else none) = (if m ≤ n then some n else none).bind _
      by_cases q : m ≤ n
      · rw [if_pos q, if_pos q]; rfl
      · rw [if_neg q, if_neg q]; rfl
theorem sv_t {s : Sg} {u : Nat} : semVar k vl ql F tp ch sc (vStr t e u) s = (dcl tp F sc s.1 (vl t) (if ch = true then 3 else 2, 0)).bind fun L => (semAr k vl ql (lkp s.1) F ch (vStr t e u)).bind fun n => some (L, s.2.1 + wds ch n, s.2.2) := by
  have e1 : semVar k vl ql F tp ch sc (vStr t e u) s = (semSz k vl (lkp s.1) F e).bind fun n => if ch = true ∧ ql u < n then (dcl tp F sc s.1 (vl t) (3, 0)).bind fun L => some (L, s.2.1 + wds ch n, s.2.2) else none := by first | rfl | simp [semVar, vStr]
  have e2 : semAr k vl ql (lkp s.1) F ch (vStr t e u) = (semSz k vl (lkp s.1) F e).bind fun n => if ch = true ∧ ql u < n then some n else none := by first | rfl | simp [semAr, vStr]
  rw [← bnd_sw, e1, e2]
  cases semSz k vl (lkp s.1) F e with
  | none => rfl
  | some n =>
    show (if ch = true ∧ ql u < n then _ else none) = (if ch = true ∧ ql u < n then some n else none).bind _
    by_cases q : ch = true ∧ ql u < n
    · rw [if_pos q, if_pos q, if_pos q.1]; rfl
    · rw [if_neg q, if_neg q]; rfl
theorem wv_0 (hl : lo < mid) (hn : ¬ (ma 22 lo).toInt = 1) : WV na ca0 M0 lo mid 0 ma := ⟨by decide, fun ca1 ma1 cf cf' g hc _ h2 => raise_n (by decide) hc (h2 (by rw [g.2.2 22 lo (Nat.le_refl _) hl]; exact hn))⟩
/-- a variable: the name is new, y is checked, w words are taken -/
theorem v1g {α : Type} {y : Option α} {N : α → Prop} {cf7 cf8 cf9 : Nat → Int32} {ma8 ca9 : Nat → Nat → Int32} {w : Int} {g : Ent} {y0 y1 kd z5 z39 v48 : Int32} {wf : α → Int} {hf : Sg → α → Int} {x : Sg → Option Sg} (hl : lo < mid) (hm : mid ≤ 100000) (hL : L.length ≤ lo) (hw0 : 0 ≤ (cf 42).toInt ∧ (cf 42).toInt ≤ 5000 * (lo : Int)) (sm : SmK cf cf7) (d : AC cf cf7 (dcl tp F sc L (vl t) g) (fun L' => L' = L ++ [(vl t, g)])) (a : AC cf7 cf8 y N) (d8 : D58 cf7 cf8) (f8 : FrM ma ma8 (lo + 1) mid) (S8 : CkS k vl c na ca0 n38 M0 L sc cf8 ca ma8) (hz : z39.toInt = (cf8 42).toInt + w) (hw : 0 ≤ w ∧ w ≤ 4096) (hLay : R_mp_lay y0 y1 (upd cf8 42 z39) ca cf9 ca9 v48) (hKn : R_mp_know z5 kd (0 : Int32) v48 cf9 ca9 cf' ca') (ht : z5.toInt = (t : Int)) (htc : t < c) (h16 : k t = 16) (hkd : 1 ≤ kd.toInt ∧ kd.toInt ≤ 3) (hg : g = (kd.toInt, 0)) (hma : ma' = vu ma8 20 lo v48) (hx : ∀ s : Sg, s.1 = L → x s = (dcl tp F sc L (vl t) g).bind fun L' => y.bind fun n => some (L', s.2.1 + wf n, hf s n, s.2.2.2)) (hN : ∀ n : α, N n → wf n = w) (hW : ∀ (s : Sg) (n : α), N n → Uc cf8 → tp = false → 0 ≤ s.2.2.1 → ∃ h : Int, hf s n = max s.2.2.1 h ∧ 0 ≤ h ∧ WV na ca0 M0 lo mid h ma') : OkZ k vl c na ca0 n38 M0 L sc lo mid (WV na ca0 M0 lo mid) tp x ma cf ma' cf' ca' := by
  have hM : MgO na M0 (ma' 22) := fun i q => by rw [hma, vu_p (by omega)]; exact S8.2.2.2.1 i q
  obtain ⟨b1, b2⟩ := layk S8 hLay (pk_un (by decide)) (pk_un (by decide)) (pk_un (by decide)) hM hKn ht htc h16 ⟨hkd.1, by omega⟩ (by omega)
  rw [if_neg (by omega), ← hg] at b1
  have e30 : cf' 30 = cf8 30 := (b2 30 (by decide) (by decide) (by decide)).trans (pk_un (by decide))
  have e42 : cf' 42 = z39 := (b2 42 (by decide) (by decide) (by decide)).trans pk_us
  have e8 : cf8 42 = cf 42 := (d8 42 (by decide) (by decide) (by decide) (by decide)).trans (sm 42 (by decide) (by decide))
  rw [e8] at hz
  have B : Bc cf8 → Bc cf' := fun q => by unfold Bc; rw [e30]; exact q
  have U : Uc cf8 → Uc cf' := fun q => by unfold Uc; rw [e30]; exact q
  refine ⟨[(vl t, g)], b1, by rw [List.length_append]; show L.length + 1 ≤ mid; omega, fun f i q => by rw [hma, vu_at (by omega)]; exact f8 f i (by omega), fun j h1 h2 h3 h4 h5 h6 h7 h8 => ((b2 j h3 h5 h6).trans (pk_un h4)).trans ((d8 j h1 h2 h7 h8).trans (sm j h1 h2)), by rw [e42]; omega, fun s hs => ?_⟩
  rw [hx s hs]
  have a' : ∀ L' : Nms, L' = L ++ [(vl t, g)] → AC cf7 cf' (y.bind fun n => some (L', s.2.1 + wf n, hf s n, s.2.2.2)) (fun s' => s'.1 = L ++ [(vl t, g)] ∧ s'.2.1 = s.2.1 + ((cf' 42).toInt - (cf 42).toInt) ∧ s'.2.2.2 = s.2.2.2 ∧ (tp = false → 0 ≤ s.2.2.1 → ∃ h : Int, s'.2.2.1 = max s.2.2.1 h ∧ 0 ≤ h ∧ WV na ca0 M0 lo mid h ma')) := by
    intro L' q
    refine AC.of (fun b => B (a.1 b)) (fun u => ?_)
    rcases opt_c y with hy | ⟨n, hy⟩
    · exact Or.inl ⟨by rw [hy]; rfl, B (a.n u hy)⟩
    · have r := a.y u hy
      refine Or.inr ⟨(L', s.2.1 + wf n, hf s n, s.2.2.2), by rw [hy]; rfl, U r.1, q, ?_, rfl, fun ht h0 => hW s n r.2 r.1 ht h0⟩
      show s.2.1 + wf n = _
      rw [hN n r.2, e42]
      omega
  exact AC.bind d a' (a' _ rfl).1
/-- one without a value -/
theorem v1_s {cf7 cf9 : Nat → Int32} {ca9 : Nat → Nat → Int32} {y0 z5 z39 v48 : Int32} (H : TxH tf ta na ca0 k vl ql c n38 M0 F) (S : CkS k vl c na ca0 n38 M0 L sc cf ca ma) (hl : lo < mid) (hm : mid ≤ 100000) (hL : L.length ≤ lo) (hw0 : 0 ≤ (cf 42).toInt ∧ (cf 42).toInt ≤ 5000 * (lo : Int)) (htp : tp = true ↔ (cf 43).toInt < 0) (ht : z5.toInt = (t : Int)) (htc : t < c) (h16 : k t = 16) (ho : (ma 22 lo).toInt = 0) (h3 : R_mp_checkNew tf ta na ca z5 cf cf7) (hz : z39 = cf7 42 + (1 : Int32)) (hLay : R_mp_lay y0 (1 : Int32) (upd cf7 42 z39) ca cf9 ca9 v48) (hma : ma' = vu ma 20 lo v48) (hKn : R_mp_know z5 (1 : Int32) (0 : Int32) v48 cf9 ca9 cf' ca') : OkZ k vl c na ca0 n38 M0 L sc lo mid (WV na ca0 M0 lo mid) tp (fun s => semVar k vl ql F tp ch sc (vSing t) s) ma cf ma' cf' ca' := by
  obtain ⟨n1, n2⟩ := new_r H S ht htc h16 tp htp (1, 0) h3
  have e7 : cf7 42 = cf 42 := n1 42 (by decide) (by decide)
  have z1 := ti_add hz rfl (show (1 : Int32).toInt = 1 from rfl) (by rw [e7]; omega) (by rw [e7]; omega)
  refine v1g (y := some ()) (N := fun _ => True) (w := 1) (wf := fun _ => 1) (hf := fun s _ => s.2.2.1) hl hm hL hw0 n1 n2 (AC.ret trivial) (fun _ _ _ _ _ => rfl) FrM.rf (S.sm (n1 33 (by decide) (by decide)) (n1 37 (by decide) (by decide)) (n1 38 (by decide) (by decide)) S.2.2.2.1) z1 (by decide) hLay hKn ht htc h16 (by decide) rfl hma (fun s hs => ?_) (fun _ _ => rfl) (fun s n _ _ _ h0 => ⟨0, by omega, Int.le_refl _, wv_0 hl (by rw [hma, vu_p (by omega)]; omega)⟩)
  show semVar k vl ql F tp ch sc (vSing t) s = _
  rw [sv_s, hs]
  rfl
/-- one with a value -/
theorem v1_i {cf7 cf8 cf9 : Nat → Int32} {ca9 ma8 : Nat → Nat → Int32} {y0 z5 z6 z39 v48 w8 : Int32} (H : TxH tf ta na ca0 k vl ql c n38 M0 F) (S : CkS k vl c na ca0 n38 M0 L sc cf ca ma) (hl : lo < mid) (hm : mid ≤ 100000) (hL : L.length ≤ lo) (hw0 : 0 ≤ (cf 42).toInt ∧ (cf 42).toInt ≤ 5000 * (lo : Int)) (htp : tp = true ↔ (cf 43).toInt < 0) (ht : z5.toInt = (t : Int)) (htc : t < c) (h16 : k t = 16) (ho : (ma 22 lo).toInt = 1) (hO : OkE k c na ma e (ma 18 lo).toInt (lo + 1) mid) (h3 : R_mp_checkNew tf ta na ca z5 cf cf7) (hz6 : z6 = ma 18 lo) (hck : (tp = false ∧ RX_mp_check tf ta na ca z6 (1 : Int32) ma cf7 ma8 cf8 w8) ∨ (tp = true ∧ R_mp_checkConstant tf ta na ca z6 ma cf7 ma8 cf8 w8)) (hz : z39 = cf8 42 + (1 : Int32)) (hLay : R_mp_lay y0 (1 : Int32) (upd cf8 42 z39) ca cf9 ca9 v48) (hma : ma' = vu ma8 20 lo v48) (hKn : R_mp_know z5 (1 : Int32) (0 : Int32) v48 cf9 ca9 cf' ca') : OkZ k vl c na ca0 n38 M0 L sc lo mid (WV na ca0 M0 lo mid) tp (fun s => semVar k vl ql F tp ch sc (vInit t e) s) ma cf ma' cf' ca' := by
  obtain ⟨n1, n2⟩ := new_r H S ht htc h16 tp htp (1, 0) h3
  have S7 : CkS k vl c na ca0 n38 M0 L sc cf7 ca ma := S.sm (n1 33 (by decide) (by decide)) (n1 37 (by decide) (by decide)) (n1 38 (by decide) (by decide)) S.2.2.2.1
  have hO6 : OkE k c na ma e z6.toInt (lo + 1) mid := by rw [hz6]; exact hO
  have e7 : cf7 42 = cf 42 := n1 42 (by decide) (by decide)
  rcases hck with ⟨rfl, hck⟩ | ⟨rfl, hck⟩
  · obtain ⟨o1, o2, o3, o4, o5, o6⟩ := ex_s H S7 true hm hO6 (by decide) hck
    rw [bd_t] at o5
    have nm : ∀ s : Sg, s.1 = L → semVar k vl ql F false ch sc (vInit t e) s = (dcl false F sc L (vl t) (1, 0)).bind fun L' => ((att k vl (lkp L) F e [] 0).bind aNum).bind fun a => some (L', s.2.1 + 1, max s.2.2.1 a.2.2.2, s.2.2.2) := fun s hs => by
      rw [sv_i, hs, bnd_sw]
      first | rfl | simp
    have e8 : cf8 42 = cf7 42 := o1 42 (by decide) (by decide)
    have z1 := ti_add hz rfl (show (1 : Int32).toInt = 1 from rfl) (by rw [e8, e7]; omega) (by rw [e8, e7]; omega)
    refine v1g (w := 1) (wf := fun _ => 1) (hf := fun s a => max s.2.2.1 a.2.2.2) hl hm hL hw0 n1 n2 (ac_h o5 num_e) (fun j h1 h2 _ _ => o1 j h1 h2) o2 o4 z1 (by decide) hLay hKn ht htc h16 (by decide) rfl hma (fun s hs => nm s hs) (fun _ _ => rfl) (fun s n hn u _ h0 => ?_)
    obtain ⟨a, ha, hb⟩ := hn
    have y := htx_r hO6 hm o3 ha (o6 u)
    rw [← hb] at y
    have fr' : FrM ma8 ma' lo (lo + 1) := fun f i q => by rw [hma, vu_at (by omega)]
    have y' := y.fr fr' (Or.inr (Nat.le_refl _))
    have m22 : (ma' 22 lo).toInt = 1 := by rw [hma, vu_p (by omega), o2 22 lo (by omega)]; exact ho
    have m18 : ma' 18 lo = z6 := by rw [hma, vu_p (by omega), o2 18 lo (by omega), hz6]
    refine ⟨n.2.2.2, rfl, y.1.1, y.1, fun ca1 ma1 cfa cfb g hc r1 _ => ?_⟩
    have r := r1 (by rw [g.2.2 22 lo (Nat.le_refl _) hl]; exact m22)
    rw [g.2.2 18 lo (Nat.le_refl _) hl, m18] at r
    obtain ⟨j, j1, -⟩ := hO6.2.2
    exact raise_x y' (g.le (by omega) (Nat.le_refl _)) (by omega) r
  · obtain ⟨o1, o2, o3, o4, o5⟩ := kn_s H S7 hm hO6 hck
    have nm : ∀ s : Sg, s.1 = L → semVar k vl ql F true ch sc (vInit t e) s = (dcl true F sc L (vl t) (1, 0)).bind fun L' => ((att k vl (lkp L) F e [] 0).bind aKon).bind fun a => some (L', s.2.1 + 1, s.2.2.1, s.2.2.2) := fun s hs => by
      rw [sv_i, hs, bnd_sw]
      first | rfl | simp
    have e8 : cf8 42 = cf7 42 := o1 42 (by decide) (by decide) (by decide)
    have z1 := ti_add hz rfl (show (1 : Int32).toInt = 1 from rfl) (by rw [e8, e7]; omega) (by rw [e8, e7]; omega)
    exact v1g (w := 1) (wf := fun _ => 1) (hf := fun s _ => s.2.2.1) hl hm hL hw0 n1 n2 o5 (fun j h1 h2 h3 _ => o1 j h1 h2 h3) o2 o4 z1 (by decide) hLay hKn ht htc h16 (by decide) rfl hma (fun s hs => nm s hs) (fun _ _ => rfl) (fun s n hn u q h0 => absurd q (by decide))
/-- a row -/
theorem v1_a {m : Nat} {O : Int} {w : Ast} {cf7 cf8 cf9 : Nat → Int32} {ca9 ma8 : Nat → Nat → Int32} {x y0 y1 z5 z39 v48 w8 kd : Int32} (H : TxH tf ta na ca0 k vl ql c n38 M0 F) (S : CkS k vl c na ca0 n38 M0 L sc cf ca ma) (hl : lo < mid) (hm : mid ≤ 100000) (hL : L.length ≤ lo) (hw0 : 0 ≤ (cf 42).toInt ∧ (cf 42).toInt ≤ 5000 * (lo : Int)) (htp : tp = true ↔ (cf 43).toInt < 0) (ht : z5.toInt = (t : Int)) (htc : t < c) (h16 : k t = 16) (hxl : x.toInt = (lo : Int)) (hc0 : p1.toInt = 0 → ch = false) (hc1 : ¬ p1.toInt = 0 → ch = true) (hO : (ma 22 lo).toInt = O) (hE : OkE k c na ma e (na 17 lo).toInt (lo + 1) m) (hmm : m ≤ mid) (sR : O = 0 → w = vRow t e) (sS : O = 3 → ∃ u : Nat, w = vStr t e u ∧ ((ma 19 lo).toInt = (u : Int) ∧ u < c ∧ k u = 18)) (sL : O = 2 → ∃ l : Ast, w = vList t e l ∧ isRw l = true ∧ Rep k c na ma l false (ma 18 lo).toInt 0 m mid) (hOk : O = 0 ∨ O = 2 ∨ O = 3) (h3 : R_mp_checkNew tf ta na ca z5 cf cf7) (hda : R_mp_declareArray tf ta na ca x p1 ma cf7 ma8 cf8 w8) (hz : z39 = cf7 42 + w8) (hLay : R_mp_lay y0 y1 (upd cf8 42 z39) ca cf9 ca9 v48) (hma : ma' = vu ma8 20 lo v48) (hkd : kd.toInt = if ch = true then 3 else 2) (hKn : R_mp_know z5 kd (0 : Int32) v48 cf9 ca9 cf' ca') : OkZ k vl c na ca0 n38 M0 L sc lo mid (WV na ca0 M0 lo mid) tp (fun s => semVar k vl ql F tp ch sc w s) ma cf ma' cf' ca' := by
  obtain ⟨n1, n2⟩ := new_r H S ht htc h16 tp htp (if ch = true then 3 else 2, 0) h3
  have S7 : CkS k vl c na ca0 n38 M0 L sc cf7 ca ma := S.sm (n1 33 (by decide) (by decide)) (n1 37 (by decide) (by decide)) (n1 38 (by decide) (by decide)) S.2.2.2.1
  obtain ⟨o1, o2, o3, o4, o5, o6⟩ := da_r H S7 hm hxl hc0 hc1 hO hE hmm sR sS sL hOk hda
  have e7 : cf7 42 = cf 42 := n1 42 (by decide) (by decide)
  have e8 : cf8 42 = cf7 42 := o1 42 (by decide) (by decide) (by decide) (by decide)
  have z1 := ti_add hz rfl rfl (by rw [e7]; omega) (by rw [e7]; omega)
  rw [← e8] at z1
  have nm : ∀ s : Sg, s.1 = L → semVar k vl ql F tp ch sc w s = (dcl tp F sc L (vl t) (if ch = true then 3 else 2, 0)).bind fun L' => (semAr k vl ql (lkp L) F ch w).bind fun n => some (L', s.2.1 + wds ch n, s.2.2.1, s.2.2.2) := fun s hs => by
    rcases hOk with q | q | q
    · rw [sR q, sv_r, hs]
    · obtain ⟨l, hw, -⟩ := sL q
      rw [hw, sv_l, hs]
    · obtain ⟨u, hw, -⟩ := sS q
      rw [hw, sv_t, hs]
  have hk3 : 1 ≤ kd.toInt ∧ kd.toInt ≤ 3 := by
    rw [hkd]
    cases ch <;> decide
  refine v1g (w := w8.toInt) (wf := fun n => wds ch n) (hf := fun s _ => s.2.2.1) hl hm hL hw0 n1 n2 o6 o1 o2 o4 z1 o5 hLay hKn ht htc h16 hk3 (by rw [hkd]) hma nm (fun n q => q.symm) (fun s n _ _ _ h0 => ⟨0, by omega, Int.le_refl _, wv_0 hl ?_⟩)
  rw [hma, vu_p (by omega), o3, hO]
  omega
/-- a row of variables -/
theorem dc_7 {P : Nat} (H : TxH tf ta na ca0 k vl ql c n38 M0 F) (hp : p0.toInt = (P : Int)) (hp1 : tp = true ↔ ¬ p1.toInt = 0) : ∀ (vs : Ast) (m : Nat) (x : Int32) (lo hi : Nat) (ma : Nat → Nat → Int32) (cf : Nat → Int32) (ca : Nat → Nat → Int32) (L : Nms), E_mp_declare tf ta na p0 p1 ma' cf' ca' m 7 [x] [] [] [] [] ma cf ca → RowS na (RepV k c na ma) vs x.toInt lo hi → hi ≤ 100000 → P < lo → (ma 22 P).toInt = (if ch = true then 1 else 0) → CkS k vl c na ca0 n38 M0 L sc cf ca ma → L.length ≤ lo → (0 ≤ (cf 42).toInt ∧ (cf 42).toInt ≤ 5000 * (lo : Int)) → (tp = true ↔ (cf 43).toInt < 0) → OkZ k vl c na ca0 n38 M0 L sc lo hi (WVs na ca0 M0 lo hi x.toInt) tp (fun s => semVars k vl ql F tp ch sc vs s) ma cf ma' cf' ca' := by
  have c1 : (if ch = true then (1 : Int) else 0) = 1 → ch = true := by cases ch <;> simp
  have c0 : ¬ (if ch = true then (1 : Int) else 0) = 1 → ch = false := by cases ch <;> simp
  intro vs
  induction vs with
  | null =>
    intro m x lo hi ma cf ca L h hR hh hP hch S hL hw htp
    have hR' : x.toInt < 0 ∧ lo ≤ hi := hR
    rcases iv_mp_declare_7 h with ⟨m', (⟨h1, e0, e1, e2⟩ | ⟨h1, z5, h2, cf7, h3, z29, h4, (⟨h5, z32, h6, (⟨h7, z35, h8, h9, z39, h10, z40, h11, (⟨h12, cf45, ca46, v48, h13, ma73, h14, z74, h15, cf77, ca78, h16, z101, h17, hQ⟩ | ⟨h12, cf104, ca105, v107, h13, ma132, h14, z133, h15, cf136, ca137, h16, z160, h17, hQ⟩)⟩ | ⟨h7, (⟨h8, z163, h9, h10, z166, h11, ma169, cf170, v172, h12, z190, h13, z191, h14, (⟨h15, cf196, ca197, v199, h16, ma224, h17, z225, h18, cf228, ca229, h19, z252, h20, hQ⟩ | ⟨h15, cf255, ca256, v258, h16, ma283, h17, z284, h18, cf287, ca288, h19, z311, h20, hQ⟩)⟩ | ⟨h8, z312, h9, ma315, cf316, v318, h10, z332, h11, z333, h12, (⟨h13, cf338, ca339, v341, h14, ma366, h15, z367, h16, cf370, ca371, h17, z394, h18, hQ⟩ | ⟨h13, cf397, ca398, v400, h14, ma425, h15, z426, h16, cf429, ca430, h17, z453, h18, hQ⟩)⟩)⟩)⟩ | ⟨h5, z454, h6, (⟨h7, ma459, cf460, v462, h8, z489, h9, z490, h10, h11, cf495, ca496, v498, h12, ma523, h13, z524, h14, h15, z527, h16, cf530, ca531, h17, z554, h18, hQ⟩ | ⟨h7, ma557, cf558, v560, h8, z587, h9, z588, h10, h11, cf593, ca594, v596, h12, ma621, h13, z622, h14, h15, z625, h16, cf628, ca629, h17, z652, h18, hQ⟩)⟩)⟩)⟩
    · rw [e0, e1, e2]
      refine (OkZ.nop (W := WVs na ca0 M0 lo hi x.toInt) (lo := lo) (hi := hi) S (by omega) (by omega) (fun _ => WVs.nil hR'.1)).mp (fun s _ => ?_) (fun _ _ q => q) (Nat.le_refl _) (Nat.le_refl _)
      first | rfl | simp [semVars]
    all_goals (exfalso; omega)
  | add v r ihv ihr =>
    intro m x lo hi ma cf ca L h hR hh hP hch S hL hw htp
    obtain ⟨mid, r1, r2, r3, r4⟩ := hR
    obtain ⟨v1, v2, t, v3, v4⟩ := r3
    have hid := fun (_ : True) => v4
    clear v4
    have xi : x.toNatClampNeg = lo := cn_of r1
    have nxt : ∀ {ma1 : Nat → Nat → Int32} {cf1 : Nat → Int32} {ca1 : Nat → Nat → Int32} {z : Int32} {m' : Nat}, OkZ k vl c na ca0 n38 M0 L sc lo mid (WV na ca0 M0 lo mid) tp (fun s => semVar k vl ql F tp ch sc v s) ma cf ma1 cf1 ca1 → z = na 21 lo → E_mp_declare tf ta na p0 p1 ma' cf' ca' m' 7 [z] [] [] [] [] ma1 cf1 ca1 → OkZ k vl c na ca0 n38 M0 L sc lo hi (WVs na ca0 M0 lo hi x.toInt) tp (fun s => semVars k vl ql F tp ch sc (.add v r) s) ma cf ma' cf' ca' := by
      intro ma1 cf1 ca1 z m' one hz hE
      have fr : FrM ma ma1 lo mid := by obtain ⟨_, -, -, q, -⟩ := one; exact q
      have df : DfS cf cf1 := by obtain ⟨_, -, -, -, q, -⟩ := one; exact q
      have e43 : cf1 43 = cf 43 := df 43 (by decide) (by decide) (by decide) (by decide) (by decide) (by decide) (by decide) (by decide)
      refine (OkZ.seq (W := WVs na ca0 M0 lo hi x.toInt) one (fun X1 s1 s2 s3 => ihr m' z mid hi ma1 cf1 ca1 (L ++ X1) hE (by rw [hz]; exact row_kp _ _ _ _ r4 (fun _ _ _ => rfl) (fun s l h q1 q2 q3 => rpv_kp q3 (FrM.ag (r := -1) fr (Or.inr q1)) (by omega))) hh (by omega) (by rw [fr 22 P (by omega)]; exact hch) s1 s2 s3 (by rw [e43]; exact htp)) ⟨by omega, r2.2⟩ (fun h1 h2 _ _ f2 w1 w2 => ?_)).mp (fun s _ => ?_) (fun _ _ q => q) (Nat.le_refl _) (Nat.le_refl _)
      · rw [hz] at w2
        exact WVs.cons r1 (w1.fr f2 (Or.inl (Nat.le_refl _))) w2 ⟨by omega, r2.2⟩
      · first | rfl | simp [semVars]
    rcases iv_mp_declare_7 h with ⟨m', (⟨h1, e0, e1, e2⟩ | ⟨h1, z5, h2, cf7, h3, z29, h4, (⟨h5, z32, h6, (⟨h7, z35, h8, h9, z39, h10, z40, h11, (⟨h12, cf45, ca46, v48, h13, ma73, h14, z74, h15, cf77, ca78, h16, z101, h17, hQ⟩ | ⟨h12, cf104, ca105, v107, h13, ma132, h14, z133, h15, cf136, ca137, h16, z160, h17, hQ⟩)⟩ | ⟨h7, (⟨h8, z163, h9, h10, z166, h11, ma169, cf170, v172, h12, z190, h13, z191, h14, (⟨h15, cf196, ca197, v199, h16, ma224, h17, z225, h18, cf228, ca229, h19, z252, h20, hQ⟩ | ⟨h15, cf255, ca256, v258, h16, ma283, h17, z284, h18, cf287, ca288, h19, z311, h20, hQ⟩)⟩ | ⟨h8, z312, h9, ma315, cf316, v318, h10, z332, h11, z333, h12, (⟨h13, cf338, ca339, v341, h14, ma366, h15, z367, h16, cf370, ca371, h17, z394, h18, hQ⟩ | ⟨h13, cf397, ca398, v400, h14, ma425, h15, z426, h16, cf429, ca430, h17, z453, h18, hQ⟩)⟩)⟩)⟩ | ⟨h5, z454, h6, (⟨h7, ma459, cf460, v462, h8, z489, h9, z490, h10, h11, cf495, ca496, v498, h12, ma523, h13, z524, h14, h15, z527, h16, cf530, ca531, h17, z554, h18, hQ⟩ | ⟨h7, ma557, cf558, v560, h8, z587, h9, z588, h10, h11, cf593, ca594, v596, h12, ma621, h13, z622, h14, h15, z625, h16, cf628, ca629, h17, z652, h18, hQ⟩)⟩)⟩)⟩
    · exfalso; omega
    · rw [xi] at h2 h4 h6 h14 h17
      rw [h6] at h7
      rw [h4] at h5
      rcases hid trivial with ⟨a1, a2, a3⟩ | ⟨e, a1, a2, a3, a4⟩ | ⟨e, a1, a2, a3⟩ | ⟨e, l, q, a1, a2, a3, a4, a5⟩ | ⟨e, u, a1, a2, a3, a4⟩
      · subst a1
        exact nxt (v1_s H S v1 (by omega) hL hw htp (by rw [h2]; exact v3.1) v3.2.1 v3.2.2 a2 h3 h10 h13 h14 h16) h17 hQ
      · exact absurd a2 h7
      · exfalso; obtain ⟨j, j1, -⟩ := a3.2.2; omega
      · exfalso; obtain ⟨j, j1, -⟩ := a3.2.2; omega
      · exfalso; obtain ⟨j, j1, -⟩ := a3.2.2; omega
    · rw [xi] at h2 h4 h6 h14 h17
      rw [h6] at h7
      rw [h4] at h5
      rcases hid trivial with ⟨a1, a2, a3⟩ | ⟨e, a1, a2, a3, a4⟩ | ⟨e, a1, a2, a3⟩ | ⟨e, l, q, a1, a2, a3, a4, a5⟩ | ⟨e, u, a1, a2, a3, a4⟩
      · subst a1
        exact nxt (v1_s H S v1 (by omega) hL hw htp (by rw [h2]; exact v3.1) v3.2.1 v3.2.2 a2 h3 h10 h13 h14 h16) h17 hQ
      · exact absurd a2 h7
      · exfalso; obtain ⟨j, j1, -⟩ := a3.2.2; omega
      · exfalso; obtain ⟨j, j1, -⟩ := a3.2.2; omega
      · exfalso; obtain ⟨j, j1, -⟩ := a3.2.2; omega
    · rw [xi] at h2 h4 h6 h11 h17 h20
      rw [h6] at h7
      rw [h4] at h5
      rcases hid trivial with ⟨a1, a2, a3⟩ | ⟨e, a1, a2, a3, a4⟩ | ⟨e, a1, a2, a3⟩ | ⟨e, l, q, a1, a2, a3, a4, a5⟩ | ⟨e, u, a1, a2, a3, a4⟩
      · exfalso; omega
      · subst a1
        exact nxt (v1_i H S v1 (by omega) hL hw htp (by rw [h2]; exact v3.1) v3.2.1 v3.2.2 a2 a4 h3 h11 (Or.inl ⟨(by cases tp with | false => rfl | true => exact absurd h8 (hp1.mp rfl)), h12⟩) h13 h16 h17 h19) h20 hQ
      · exfalso; omega
      · exfalso; omega
      · exfalso; omega
    · rw [xi] at h2 h4 h6 h11 h17 h20
      rw [h6] at h7
      rw [h4] at h5
      rcases hid trivial with ⟨a1, a2, a3⟩ | ⟨e, a1, a2, a3, a4⟩ | ⟨e, a1, a2, a3⟩ | ⟨e, l, q, a1, a2, a3, a4, a5⟩ | ⟨e, u, a1, a2, a3, a4⟩
      · exfalso; omega
      · subst a1
        exact nxt (v1_i H S v1 (by omega) hL hw htp (by rw [h2]; exact v3.1) v3.2.1 v3.2.2 a2 a4 h3 h11 (Or.inl ⟨(by cases tp with | false => rfl | true => exact absurd h8 (hp1.mp rfl)), h12⟩) h13 h16 h17 h19) h20 hQ
      · exfalso; omega
      · exfalso; omega
      · exfalso; omega
    · rw [xi] at h2 h4 h6 h9 h15 h18
      rw [h6] at h7
      rw [h4] at h5
      rcases hid trivial with ⟨a1, a2, a3⟩ | ⟨e, a1, a2, a3, a4⟩ | ⟨e, a1, a2, a3⟩ | ⟨e, l, q, a1, a2, a3, a4, a5⟩ | ⟨e, u, a1, a2, a3, a4⟩
      · exfalso; omega
      · subst a1
        exact nxt (v1_i H S v1 (by omega) hL hw htp (by rw [h2]; exact v3.1) v3.2.1 v3.2.2 a2 a4 h3 h9 (Or.inr ⟨hp1.mpr h8, h10⟩) h11 h14 h15 h17) h18 hQ
      · exfalso; omega
      · exfalso; omega
      · exfalso; omega
    · rw [xi] at h2 h4 h6 h9 h15 h18
      rw [h6] at h7
      rw [h4] at h5
      rcases hid trivial with ⟨a1, a2, a3⟩ | ⟨e, a1, a2, a3, a4⟩ | ⟨e, a1, a2, a3⟩ | ⟨e, l, q, a1, a2, a3, a4, a5⟩ | ⟨e, u, a1, a2, a3, a4⟩
      · exfalso; omega
      · subst a1
        exact nxt (v1_i H S v1 (by omega) hL hw htp (by rw [h2]; exact v3.1) v3.2.1 v3.2.2 a2 a4 h3 h9 (Or.inr ⟨hp1.mpr h8, h10⟩) h11 h14 h15 h17) h18 hQ
      · exfalso; omega
      · exfalso; omega
      · exfalso; omega
    all_goals
      rw [xi] at h2 h4 h13 h18
      rw [h4] at h5
      rw [cn_of hp] at h6
      rw [h6, hch] at h7
    · have cc := c0 h7
      rcases hid trivial with ⟨a1, a2, a3⟩ | ⟨e, a1, a2, a3, a4⟩ | ⟨e, a1, a2, a3⟩ | ⟨e, l, q, a1, a2, a3, a4, a5⟩ | ⟨e, u, a1, a2, a3, a4⟩
      · exact absurd a3 h5
      · exact absurd a3 h5
      · exact nxt (v1_a H S v1 (by omega) hL hw htp (by rw [h2]; exact v3.1) v3.2.1 v3.2.2 r1 (fun _ => cc) (fun w => absurd rfl w) a2 a3 (Nat.le_refl _) (fun _ => a1) (fun w => by exfalso; omega) (fun w => by exfalso; omega) (Or.inl rfl) h3 h8 h9 h12 h13 (by rw [cc]; rfl) h17) h18 hQ
      · exact nxt (v1_a H S v1 (by omega) hL hw htp (by rw [h2]; exact v3.1) v3.2.1 v3.2.2 r1 (fun _ => cc) (fun w => absurd rfl w) a2 a3 a4.2.2 (fun w => by exfalso; omega) (fun w => by exfalso; omega) (fun _ => ⟨l, a1, a4.1, a5⟩) (Or.inr (Or.inl rfl)) h3 h8 h9 h12 h13 (by rw [cc]; rfl) h17) h18 hQ
      · exact nxt (v1_a H S v1 (by omega) hL hw htp (by rw [h2]; exact v3.1) v3.2.1 v3.2.2 r1 (fun _ => cc) (fun w => absurd rfl w) a2 a3 (Nat.le_refl _) (fun w => by exfalso; omega) (fun _ => ⟨u, a1, a4⟩) (fun w => by exfalso; omega) (Or.inr (Or.inr rfl)) h3 h8 h9 h12 h13 (by rw [cc]; rfl) h17) h18 hQ
    · have cc := c1 h7
      rcases hid trivial with ⟨a1, a2, a3⟩ | ⟨e, a1, a2, a3, a4⟩ | ⟨e, a1, a2, a3⟩ | ⟨e, l, q, a1, a2, a3, a4, a5⟩ | ⟨e, u, a1, a2, a3, a4⟩
      · exact absurd a3 h5
      · exact absurd a3 h5
      · exact nxt (v1_a H S v1 (by omega) hL hw htp (by rw [h2]; exact v3.1) v3.2.1 v3.2.2 r1 (fun w => absurd w (by decide)) (fun _ => cc) a2 a3 (Nat.le_refl _) (fun _ => a1) (fun w => by exfalso; omega) (fun w => by exfalso; omega) (Or.inl rfl) h3 h8 h9 h12 h13 (by rw [cc]; rfl) h17) h18 hQ
      · exact nxt (v1_a H S v1 (by omega) hL hw htp (by rw [h2]; exact v3.1) v3.2.1 v3.2.2 r1 (fun w => absurd w (by decide)) (fun _ => cc) a2 a3 a4.2.2 (fun w => by exfalso; omega) (fun w => by exfalso; omega) (fun _ => ⟨l, a1, a4.1, a5⟩) (Or.inr (Or.inl rfl)) h3 h8 h9 h12 h13 (by rw [cc]; rfl) h17) h18 hQ
      · exact nxt (v1_a H S v1 (by omega) hL hw htp (by rw [h2]; exact v3.1) v3.2.1 v3.2.2 r1 (fun w => absurd w (by decide)) (fun _ => cc) a2 a3 (Nat.le_refl _) (fun w => by exfalso; omega) (fun _ => ⟨u, a1, a4⟩) (fun w => by exfalso; omega) (Or.inr (Or.inr rfl)) h3 h8 h9 h12 h13 (by rw [cc]; rfl) h17) h18 hQ
  | _ => intro m x lo hi ma cf ca L h hR; exact hR.elim
theorem dc_r {P : Nat} {vs : Ast} (H : TxH tf ta na ca0 k vl ql c n38 M0 F) (hp : p0.toInt = (P : Int)) (hp1 : tp = true ↔ ¬ p1.toInt = 0) (hR : RowS na (RepV k c na ma) vs (na 17 P).toInt lo hi) (hh : hi ≤ 100000) (hP : P < lo) (hch : (ma 22 P).toInt = (if ch = true then 1 else 0)) (S : CkS k vl c na ca0 n38 M0 L sc cf ca ma) (hL : L.length ≤ lo) (hw : 0 ≤ (cf 42).toInt ∧ (cf 42).toInt ≤ 5000 * (lo : Int)) (htp : tp = true ↔ (cf 43).toInt < 0) (h : R_mp_declare tf ta na p0 p1 ma cf ca ma' cf' ca') : OkZ k vl c na ca0 n38 M0 L sc lo hi (WVs na ca0 M0 lo hi (na 17 P).toInt) tp (fun s => semVars k vl ql F tp ch sc vs s) ma cf ma' cf' ca' := by
  obtain ⟨m, h⟩ := h
  obtain ⟨m', z653, h1, hQ⟩ := iv_mp_declare_0 h
  rw [cn_of hp] at h1
  have r := dc_7 H hp hp1 vs m' z653 lo hi ma cf ca L hQ (by rw [h1]; exact hR) hh hP hch S hL hw htp
  rw [h1] at r
  exact r
end SF
