/-! THE REFERENCE's checker: meet (laid by genmt.py) -/
def KnX (x : Option Atr) : Prop := ∃ a : Atr, x = some a ∧ ¬ (a.1 = 2 ∨ a.1 = 3 ∨ a.1 = 5) ∧ ¬ a.2.1 = 3
def SmM (a b : Nat → Int32) : Prop := ∀ i : Nat, ¬ i = 30 → ¬ i = 31 → ¬ i = 46 → ¬ i = 47 → b i = a i
theorem SmK.m {a b : Nat → Int32} (h : SmK a b) : SmM a b := fun i h1 h2 _ _ => h i h1 h2
theorem SmM.tr {a b d : Nat → Int32} (h : SmM a b) (g : SmM b d) : SmM a d := fun i h1 h2 h3 h4 => (g i h1 h2 h3 h4).trans (h i h1 h2 h3 h4)
theorem SmM.up {a b : Nat → Int32} {n : Nat} {x : Int32} (h : SmM a b) (hn : n = 46 ∨ n = 47) : SmM a (upd b n x) := fun i h1 h2 h3 h4 => by
  rw [pk_un (by omega)]; exact h i h1 h2 h3 h4
/-- nothing was met that is no constant -/
def Z2 (cf : Nat → Int32) : Prop := (cf 46).toInt = 0 ∧ (cf 47).toInt = 0
theorem AC.up {α : Type} {a b b' : Nat → Int32} {x : Option α} {P : α → Prop} (h : AC a b x P) (e : b' 30 = b 30) : AC a b' x P := by
  refine AC.of (fun q => ?_) (fun u => ?_)
  · unfold Bc; rw [e]; exact h.1 q
  · cases x with
    | none => exact Or.inl ⟨rfl, by unfold Bc; rw [e]; exact h.n u rfl⟩
    | some y =>
      have q := h.y u rfl
      exact Or.inr ⟨y, rfl, by unfold Uc; rw [e]; exact q.1, q.2⟩
section RH2
variable {tf : Nat → Int32} {ta : Nat → Nat → Int32} {k : Nat → Int} {vl : Nat → Int32} {c t i lo hi : Nat} {cf cf' cf1 : Nat → Int32} {ca na ma ma' ma1 : Nat → Nat → Int32} {L : Nms} {F : Int32 → Option Fnc} {n38 : Int32} {M : Nat → Int32} {p0 v : Int32} {e x y z : Ast}
theorem CtR.gm (h : CtR k vl c ca L n38 M cf ma) (s : SmM cf cf') (f : FrM ma ma' lo hi) (g : AgKr na ma ma' lo hi) : CtR k vl c ca L n38 M cf' ma' := by
  refine ⟨h.1.sm (s 33 (by decide) (by decide) (by decide) (by decide)), (s 38 (by decide) (by decide) (by decide) (by decide)).trans h.2.1, ?_⟩
  rw [← h.2.2]
  funext i
  by_cases q : lo ≤ i ∧ i < hi
  · exact (g i q.1 q.2).2.2
  · exact f 22 i (by omega)
def OkM (k : Nat → Int) (vl : Nat → Int32) (G : Int32 → Option Ent) (F : Int32 → Option Fnc) (na : Nat → Nat → Int32) (e : Ast) (lo hi : Nat) (ma : Nat → Nat → Int32) (cf : Nat → Int32) (ma' : Nat → Nat → Int32) (cf' : Nat → Int32) : Prop := SmM cf cf' ∧ FrM ma ma' lo hi ∧ AgKr na ma ma' lo hi ∧ AC cf cf' ((att k vl G F e [] 0).bind aNum) (fun _ => True) ∧ (¬ Z2 cf → ¬ Z2 cf') ∧ (Z2 cf → (Z2 cf' ↔ KnX (att k vl G F e [] 0))) ∧ ((cf 47).toInt = 0 → Uc cf' → (cf' 47).toInt = 0)
/-- what varies, checked -/
theorem OkM.vr {p : Int} {w : Int} (O : OkC k vl (lkp L) F na ca M e true p lo hi ma cf ma1 cf1 w) (h3 : ∀ a : Atr, att k vl (lkp L) F e [] 0 = some a → a.2.1 = 3) : OkM k vl (lkp L) F na e lo hi ma cf ma1 (upd cf1 46 1) := by
  have nz : ¬ Z2 (upd cf1 46 1) := fun w => by
    have w1 := w.1
    rw [pk_us] at w1
    exact absurd w1 (by decide)
  refine ⟨O.1.m.up (Or.inl rfl), O.2.1, O.2.2.1, ((O.t.imp (fun _ _ => trivial)).up (pk_un (by decide))), fun _ => nz, fun _ => ⟨fun w => absurd w nz, fun w => ?_⟩, fun w _ => by rw [pk_un (by decide), O.1 47 (by decide) (by decide)]; exact w⟩
  obtain ⟨a, a1, -, a3⟩ := w
  exact absurd (h3 a a1) a3
theorem chn_v (hs : SmN ta k vl c) (hE : EnvR k vl c cf ca L) (hp : p0.toInt = (i : Int)) (h15 : (na 15 i).toInt = (t : Int)) (htc : t < c) (h16 : k t = 16) (h : R_mp_checkName ta na ca p0 ma cf ma' cf' v) : (lkp L (vl t) = none ∧ v.toInt = 0) ∨ ∃ g : Ent, lkp L (vl t) = some g ∧ (0 ≤ g.1 ∧ g.1 ≤ 3) ∧ ((v.toInt = 1 ∧ (g.1 = 0 ∨ g.1 = 1)) ∨ ((v.toInt = 2 ∨ v.toInt = 3) ∧ (g.1 = 2 ∨ g.1 = 3))) := by
  have fin : ∀ {j : Nat} {e : Ent}, entR ca j = e → (1 ≤ (ca 35 j).toInt ∧ (ca 35 j).toInt ≤ 4) → e.1 = (if (ca 35 j).toInt = 4 then 0 else (ca 35 j).toInt) := fun q3 _ => by rw [← q3, ent_f]
  rcases h with ⟨z1, h1, v3, h2, (⟨h3, z11, h4, z12, h5, ma13, h6, z14, h7, ma15, h8, (⟨h9, (⟨h10, e0, e1, ev⟩ | ⟨h10, e0, e1, ev⟩)⟩ | ⟨h9, e0, e1, ev⟩)⟩ | ⟨h3, z20, h4, cf22, h5, e0, e1, ev⟩)⟩ | h
  · rw [cn_of hp] at h1
    rcases find_0 hs hE (show z1.toInt = (t : Int) by rw [h1]; exact h15) htc h16 h2 with ⟨q1, q2⟩ | ⟨j, e, q1, q2, q3, q4⟩
    · exfalso; omega
    · rw [cn_of q1] at h4
      rw [h4] at h9 h10
      have f := fin q3 q4
      refine Or.inr ⟨e, q2, ?_, Or.inl ⟨by rw [ev]; rfl, ?_⟩⟩
      · split at f <;> omega
      · split at f <;> omega
  · rw [cn_of hp] at h1
    rcases find_0 hs hE (show z1.toInt = (t : Int) by rw [h1]; exact h15) htc h16 h2 with ⟨q1, q2⟩ | ⟨j, e, q1, q2, q3, q4⟩
    · exfalso; omega
    · rw [cn_of q1] at h4
      rw [h4] at h9 h10
      have f := fin q3 q4
      rw [if_neg (by omega)] at f
      exact Or.inr ⟨e, q2, by omega, Or.inr ⟨Or.inr (by rw [ev]; rfl), by omega⟩⟩
  · rw [cn_of hp] at h1
    rcases find_0 hs hE (show z1.toInt = (t : Int) by rw [h1]; exact h15) htc h16 h2 with ⟨q1, q2⟩ | ⟨j, e, q1, q2, q3, q4⟩
    · exfalso; omega
    · rw [cn_of q1] at h4
      rw [h4] at h9
      have f := fin q3 q4
      rw [if_neg (by omega)] at f
      exact Or.inr ⟨e, q2, by omega, Or.inr ⟨Or.inl (by rw [ev]; rfl), by omega⟩⟩
  · rw [cn_of hp] at h1
    rcases find_0 hs hE (show z1.toInt = (t : Int) by rw [h1]; exact h15) htc h16 h2 with ⟨q1, q2⟩ | ⟨j, e, q1, q2, q3, q4⟩
    · exact Or.inl ⟨q2, by rw [ev]; rfl⟩
    · exfalso; omega
  · exact h.elim
theorem nam_k {g : Ent} : KnX ((some g).bind fun g => some (aNam g)) ↔ g.1 = 0 := by
  constructor
  · rintro ⟨a, a1, -, a3⟩
    by_cases w : g.1 = 0
    · exact w
    · exfalso
      apply a3
      have a1' : some (aNam g) = some a := a1
      injection a1' with a1'
      rw [← a1']
      unfold aNam
      rw [if_neg w]
  · intro w
    refine ⟨aNam g, rfl, ?_, ?_⟩
    · unfold aNam
      rw [if_pos w]
      show ¬ ((0 : Int) = 2 ∨ (0 : Int) = 3 ∨ (0 : Int) = 5)
      decide
    · unfold aNam
      rw [if_pos w]
      show ¬ (0 : Int) = 3
      decide
theorem aNam_1 {g : Ent} (h : g.1 = 0 ∨ g.1 = 1) : (aNam g).1 = g.1 := by
  unfold aNam
  by_cases w : g.1 = 0
  · rw [if_pos w, w]
  · have w1 : g.1 = 1 := by omega
    rw [if_neg w, w1, if_pos rfl]
theorem aNam_2 {g : Ent} (h : g.1 = 2 ∨ g.1 = 3) : (aNam g).1 = 2 ∨ (aNam g).1 = 5 := by
  unfold aNam
  rw [if_neg (by omega)]
  show (if g.1 = 1 then (1 : Int) else if g.1 = 2 then 2 else 5) = 2 ∨ (if g.1 = 1 then (1 : Int) else if g.1 = 2 then 2 else 5) = 5
  rw [if_neg (by omega)]
  split
  · exact Or.inl rfl
  · exact Or.inr rfl
theorem mtn_r (hs : SmN ta k vl c) (hE : EnvR k vl c cf ca L) (hp : p0.toInt = (i : Int)) (h14 : (na 14 i).toInt = 2) (h15 : (na 15 i).toInt = (t : Int)) (htc : t < c) (h16 : k t = 16) (h : R_mp_meetName ta na ca p0 ma cf ma' cf') : OkM k vl (lkp L) F na (.index t) i (i + 1) ma cf ma' cf' := by
  have at1 : att k vl (lkp L) F (.index t) [] 0 = (lkp L (vl t)).bind fun g => some (aNam g) := att_name
  rcases h with ⟨ma3, cf4, v6, h1, (⟨h2, (⟨h3, (⟨h4, e0, e1⟩ | ⟨h4, z28, h5, v30, h6, z36, h7, (⟨h8, e0, e1⟩ | ⟨h8, e0, e1⟩)⟩)⟩ | ⟨h3, v40, h4, cf45, h5, (⟨h6, e0, e1⟩ | ⟨h6, z70, h7, v72, h8, z78, h9, (⟨h10, e0, e1⟩ | ⟨h10, e0, e1⟩)⟩)⟩)⟩ | ⟨h2, e0, e1⟩)⟩ | h
  case inr => exact h.elim
  all_goals
    obtain ⟨c1, c2, c3, c4, c5⟩ := chn_rr hs hE hp h14 h15 htc h16 h1
    have e46 : cf4 46 = cf 46 := c1 46 (by decide) (by decide)
    have e47 : cf4 47 = cf 47 := c1 47 (by decide) (by decide)
    have hE4 := hE.sm (c1 33 (by decide) (by decide))
    have V := chn_v hs hE hp h15 htc h16 h1
  · rcases V with ⟨-, v0⟩ | ⟨g, g1, g2, g3⟩
    · exact absurd v0 h2
    · have g01 : g.1 = 0 ∨ g.1 = 1 := by omega
      have n1 := aNam_1 g01
      have hn : (att k vl (lkp L) F (.index t) [] 0).bind aNum = some (0, (aNam g).2) := by
        rw [at1, g1]
        show aNum (aNam g) = _
        unfold aNum
        rw [if_neg (by omega)]
      have nz : ¬ Z2 (upd cf4 46 1) := fun w => by
        have w1 := w.1
        rw [pk_us] at w1
        exact absurd w1 (by decide)
      rw [e0, e1]
      refine ⟨c1.m.up (Or.inl rfl), c2, c3, ?_, fun _ => nz, fun w => absurd w.1 (by rw [← e46]; exact h4), fun w _ => by rw [pk_un (by decide), e47]; exact w⟩
      rw [hn]
      exact (AC.of c5.1 (fun u => Or.inr ⟨_, rfl, (c5.y u g1).1, trivial⟩)).up (pk_un (by decide))
  · rcases V with ⟨-, v0⟩ | ⟨g, g1, g2, g3⟩
    · exact absurd v0 h2
    · rw [cn_of hp] at h5
      rcases find_0 hs hE4 (show z28.toInt = (t : Int) by rw [h5]; exact h15) htc h16 h6 with ⟨q1, q2⟩ | ⟨j, e, q1, q2, q3, q4⟩
      · rw [g1] at q2; exact absurd q2 (by simp)
      · rw [g1] at q2
        injection q2 with q2
        rw [cn_of q1] at h7
        have w4 := ent_f (ca := ca) (j := j)
        rw [q3, ← q2] at w4
        rw [h7] at h8
        rw [if_pos h8] at w4
        have g01 : g.1 = 0 ∨ g.1 = 1 := by omega
        have n1 := aNam_1 g01
        have hn : (att k vl (lkp L) F (.index t) [] 0).bind aNum = some (0, (aNam g).2) := by
          rw [at1, g1]
          show aNum (aNam g) = _
          unfold aNum
          rw [if_neg (by omega)]
        rw [e0, e1]
        have zz : Z2 (upd cf4 46 0) ↔ (cf 47).toInt = 0 := by
          unfold Z2
          rw [pk_us, pk_un (by decide), e47]
          exact ⟨fun w => w.2, fun w => ⟨rfl, w⟩⟩
        refine ⟨c1.m.up (Or.inl rfl), c2, c3, ?_, fun w z => w ⟨by rw [← e46]; exact h4, zz.mp z⟩, fun w => ⟨fun _ => ?_, fun _ => zz.mpr w.2⟩, fun w _ => by rw [pk_un (by decide), e47]; exact w⟩
        · rw [hn]
          exact (AC.of c5.1 (fun u => Or.inr ⟨_, rfl, (c5.y u g1).1, trivial⟩)).up (pk_un (by decide))
        · rw [at1, g1]; exact nam_k.mpr w4
  · rcases V with ⟨-, v0⟩ | ⟨g, g1, g2, g3⟩
    · exact absurd v0 h2
    · rw [cn_of hp] at h5
      rcases find_0 hs hE4 (show z28.toInt = (t : Int) by rw [h5]; exact h15) htc h16 h6 with ⟨q1, q2⟩ | ⟨j, e, q1, q2, q3, q4⟩
      · rw [g1] at q2; exact absurd q2 (by simp)
      · rw [g1] at q2
        injection q2 with q2
        rw [cn_of q1] at h7
        have w4 := ent_f (ca := ca) (j := j)
        rw [q3, ← q2] at w4
        rw [h7] at h8
        rw [if_neg h8] at w4
        have g01 : g.1 = 0 ∨ g.1 = 1 := by omega
        have n1 := aNam_1 g01
        have hn : (att k vl (lkp L) F (.index t) [] 0).bind aNum = some (0, (aNam g).2) := by
          rw [at1, g1]
          show aNum (aNam g) = _
          unfold aNum
          rw [if_neg (by omega)]
        have nz : ¬ Z2 (upd cf4 46 1) := fun w => by
          have w1 := w.1
          rw [pk_us] at w1
          exact absurd w1 (by decide)
        rw [e0, e1]
        refine ⟨c1.m.up (Or.inl rfl), c2, c3, ?_, fun _ => nz, fun w => ⟨fun z => absurd z nz, fun z => ?_⟩, fun w _ => by rw [pk_un (by decide), e47]; exact w⟩
        · rw [hn]
          exact (AC.of c5.1 (fun u => Or.inr ⟨_, rfl, (c5.y u g1).1, trivial⟩)).up (pk_un (by decide))
        · rw [at1, g1] at z
          have z' := nam_k.mp z
          exfalso; omega
  · rcases V with ⟨-, v0⟩ | ⟨g, g1, g2, g3⟩
    · exact absurd v0 h2
    · have g23 : g.1 = 2 ∨ g.1 = 3 := by omega
      have n1 := aNam_2 g23
      have hn : (att k vl (lkp L) F (.index t) [] 0).bind aNum = none := by
        rw [at1, g1]
        show aNum (aNam g) = _
        unfold aNum
        rw [if_pos (by omega)]
      have bb := bad_r h5 (by decide)
      have e46' : cf45 46 = cf 46 := (bb.2 46 (by decide) (by decide)).trans e46
      have nz : ¬ Z2 (upd cf45 46 1) := fun w => by
        have w1 := w.1
        rw [pk_us] at w1
        exact absurd w1 (by decide)
      have kx : ¬ KnX (att k vl (lkp L) F (.index t) [] 0) := fun z => by
        rw [at1, g1] at z
        have z' := nam_k.mp z
        omega
      rw [e0, e1]
      refine ⟨(c1.m.tr bb.2.m).up (Or.inl rfl), c2, c3, ?_, fun _ => nz, fun w => ⟨fun z => absurd z nz, fun z => absurd z kx⟩, fun w _ => by rw [pk_un (by decide), bb.2 47 (by decide) (by decide), e47]; exact w⟩
      rw [hn]
      exact (AC.of (fun _ => bb.1) (fun u => Or.inl ⟨rfl, bb.1⟩)).up (pk_un (by decide))
  · rcases V with ⟨-, v0⟩ | ⟨g, g1, g2, g3⟩
    · exact absurd v0 h2
    · have g23 : g.1 = 2 ∨ g.1 = 3 := by omega
      have n1 := aNam_2 g23
      have hn : (att k vl (lkp L) F (.index t) [] 0).bind aNum = none := by
        rw [at1, g1]
        show aNum (aNam g) = _
        unfold aNum
        rw [if_pos (by omega)]
      have bb := bad_r h5 (by decide)
      have e46' : cf45 46 = cf 46 := (bb.2 46 (by decide) (by decide)).trans e46
      have nz : ¬ Z2 (upd cf45 46 1) := fun w => by
        have w1 := w.1
        rw [pk_us] at w1
        exact absurd w1 (by decide)
      have kx : ¬ KnX (att k vl (lkp L) F (.index t) [] 0) := fun z => by
        rw [at1, g1] at z
        have z' := nam_k.mp z
        omega
      exfalso
      rw [cn_of hp] at h7
      rcases find_0 hs (hE4.sm (bb.2 33 (by decide) (by decide))) (show z70.toInt = (t : Int) by rw [h7]; exact h15) htc h16 h8 with ⟨q1, q2⟩ | ⟨j, e, q1, q2, q3, q4⟩
      · rw [g1] at q2; exact absurd q2 (by simp)
      · rw [g1] at q2
        injection q2 with q2
        rw [cn_of q1] at h9
        have w4 := ent_f (ca := ca) (j := j)
        rw [q3, ← q2] at w4
        rw [h9] at h10
        rw [if_pos h10] at w4
        omega
  · rcases V with ⟨-, v0⟩ | ⟨g, g1, g2, g3⟩
    · exact absurd v0 h2
    · have g23 : g.1 = 2 ∨ g.1 = 3 := by omega
      have n1 := aNam_2 g23
      have hn : (att k vl (lkp L) F (.index t) [] 0).bind aNum = none := by
        rw [at1, g1]
        show aNum (aNam g) = _
        unfold aNum
        rw [if_pos (by omega)]
      have bb := bad_r h5 (by decide)
      have e46' : cf45 46 = cf 46 := (bb.2 46 (by decide) (by decide)).trans e46
      have nz : ¬ Z2 (upd cf45 46 1) := fun w => by
        have w1 := w.1
        rw [pk_us] at w1
        exact absurd w1 (by decide)
      have kx : ¬ KnX (att k vl (lkp L) F (.index t) [] 0) := fun z => by
        rw [at1, g1] at z
        have z' := nam_k.mp z
        omega
      rw [e0, e1]
      refine ⟨(c1.m.tr bb.2.m).up (Or.inl rfl), c2, c3, ?_, fun _ => nz, fun w => ⟨fun z => absurd z nz, fun z => absurd z kx⟩, fun w _ => by rw [pk_un (by decide), bb.2 47 (by decide) (by decide), e47]; exact w⟩
      rw [hn]
      exact (AC.of (fun _ => bb.1) (fun u => Or.inl ⟨rfl, bb.1⟩)).up (pk_un (by decide))
  · rcases V with ⟨v1, v0⟩ | ⟨g, g1, g2, g3⟩
    · have hn : (att k vl (lkp L) F (.index t) [] 0).bind aNum = none := by
        rw [at1, v1]; rfl
      have nz : ¬ Z2 (upd cf4 47 1) := fun w => by
        have w1 := w.2
        rw [pk_us] at w1
        exact absurd w1 (by decide)
      have kx : ¬ KnX (att k vl (lkp L) F (.index t) [] 0) := fun z => by
        rw [at1, v1] at z
        obtain ⟨a, a1, -⟩ := z
        exact absurd a1 (by simp)
      rw [e0, e1]
      have b4 : Bc cf4 := by
        by_cases u : Uc cf
        · exact c5.n u v1
        · exact c5.1 u
      refine ⟨c1.m.up (Or.inr rfl), c2, c3, ?_, fun _ => nz, fun w => ⟨fun z => absurd z nz, fun z => absurd z kx⟩, fun _ u => absurd (show (cf4 30).toInt = 0 by have u' : ((upd cf4 47 1) 30).toInt = 0 := u; rw [pk_un (by decide)] at u'; exact u') b4⟩
      rw [hn]
      exact (AC.of c5.1 (fun u => Or.inl ⟨rfl, c5.n u v1⟩)).up (pk_un (by decide))
    · exfalso; omega
end RH2
