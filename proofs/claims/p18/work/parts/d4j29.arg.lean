/-! THE REFERENCE's checker: indexes, functions, notes of calls, arguments -/
theorem ent_f {ca : Nat → Nat → Int32} {j : Nat} : (entR ca j).1 = if (ca 35 j).toInt = 4 then 0 else (ca 35 j).toInt := by
  unfold entR
  split <;> rfl
section RX1
variable {tf : Nat → Int32} {ta : Nat → Nat → Int32} {k : Nat → Int} {vl : Nat → Int32} {c t i : Nat} {cf cf' : Nat → Int32} {ca na ma ma' : Nat → Nat → Int32} {L : Nms} {p0 p1 v : Int32}
theorem idx_y {e : Ent} (h : e.1 = 2 ∨ e.1 = 3) : aIdx (some e) = some () := by
  show (if e.1 = 2 ∨ e.1 = 3 then some () else none) = some ()
  exact if_pos h
theorem idx_n {e : Ent} (h : ¬ (e.1 = 2 ∨ e.1 = 3)) : aIdx (some e) = none := by
  show (if e.1 = 2 ∨ e.1 = 3 then some () else none) = none
  exact if_neg h
theorem chi_r (hs : SmN ta k vl c) (hE : EnvR k vl c cf ca L) (hp : p0.toInt = (i : Int)) (h14 : (na 14 i).toInt = 4) (h15 : (na 15 i).toInt = (t : Int)) (htc : t < c) (h16 : k t = 16) (h : R_mp_checkIndex tf ta na ca p0 ma cf ma' cf') : SmK cf cf' ∧ FrM ma ma' i (i + 1) ∧ AgKr na ma ma' i (i + 1) ∧ AC cf cf' (aIdx (lkp L (vl t))) (fun _ => True) := by
  rcases h with ⟨z1, h1, v3, h2, (⟨h3, (⟨h4, cf14, h5, e0, e1⟩ | ⟨h4, z37, h5, (⟨h6, z40, h7, ma41, h8, e0, e1⟩ | ⟨h6, z42, h7, (⟨h8, z45, h9, ma46, h10, e0, e1⟩ | ⟨h8, cf48, h9, e0, e1⟩)⟩)⟩)⟩ | ⟨h3, v72, h4, (⟨h5, (⟨h6, cf80, h7, e0, e1⟩ | ⟨h6, z103, h7, (⟨h8, z106, h9, ma107, h10, e0, e1⟩ | ⟨h8, z108, h9, (⟨h10, z111, h11, ma112, h12, e0, e1⟩ | ⟨h10, cf114, h11, e0, e1⟩)⟩)⟩)⟩ | ⟨h5, cf138, h6, e0, e1⟩)⟩)⟩ | h
  · exfalso; omega
  · rw [cn_of hp] at h1 h8
    rcases find_0 hs hE (show z1.toInt = (t : Int) by rw [h1]; exact h15) htc h16 h2 with ⟨q1, q2⟩ | ⟨j, e, q1, q2, q3, q4⟩
    · exfalso; omega
    · have h8' : ma41 = vu ma 18 i z40 := h8
      rw [cn_of q1] at h5
      rw [h5] at h6
      have he : e.1 = 2 ∨ e.1 = 3 := by rw [← q3, ent_f, if_neg (by omega)]; exact Or.inl h6
      rw [e0, e1, h8', q2, idx_y he]
      exact ⟨SmK.rf, fun f j q => by rw [vu_at (by omega)], k_at1 (Or.inr (Or.inr h14)), AC.ret trivial⟩
  · rw [cn_of hp] at h1 h10
    rcases find_0 hs hE (show z1.toInt = (t : Int) by rw [h1]; exact h15) htc h16 h2 with ⟨q1, q2⟩ | ⟨j, e, q1, q2, q3, q4⟩
    · exfalso; omega
    · have h8' : ma46 = vu ma 18 i z45 := h10
      rw [cn_of q1] at h7
      rw [h7] at h8
      have he : e.1 = 2 ∨ e.1 = 3 := by rw [← q3, ent_f, if_neg (by omega)]; exact Or.inr h8
      rw [e0, e1, h8', q2, idx_y he]
      exact ⟨SmK.rf, fun f j q => by rw [vu_at (by omega)], k_at1 (Or.inr (Or.inr h14)), AC.ret trivial⟩
  · rw [cn_of hp] at h1
    rcases find_0 hs hE (show z1.toInt = (t : Int) by rw [h1]; exact h15) htc h16 h2 with ⟨q1, q2⟩ | ⟨j, e, q1, q2, q3, q4⟩
    · exfalso; omega
    · rw [cn_of q1] at h5 h7
      rw [h5] at h6
      rw [h7] at h8
      have he : ¬ (e.1 = 2 ∨ e.1 = 3) := by
        rw [← q3, ent_f]
        split <;> omega
      rw [e0, e1, q2, idx_n he]
      exact ⟨(bad_r h9 (by decide)).2, FrM.rf, AgKr.rf, AC.bad h9 (by decide)⟩
  · rw [cn_of hp] at h1
    rcases find_0 hs hE (show z1.toInt = (t : Int) by rw [h1]; exact h15) htc h16 h2 with ⟨q1, q2⟩ | ⟨j, e, q1, q2, q3, q4⟩
    · rw [e0, e1, q2]
      exact ⟨(bad_r h7 (by decide)).2, FrM.rf, AgKr.rf, AC.bad h7 (by decide)⟩
    · exfalso; omega
  · exfalso; omega
  · exfalso; omega
  · exfalso; omega
  · rw [cn_of hp] at h1
    rcases find_0 hs hE (show z1.toInt = (t : Int) by rw [h1]; exact h15) htc h16 h2 with ⟨q1, q2⟩ | ⟨j, e, q1, q2, q3, q4⟩
    · rw [e0, e1, q2]
      exact ⟨(bad_r h6 (by decide)).2, FrM.rf, AgKr.rf, AC.bad h6 (by decide)⟩
    · exfalso; omega
  · exact h.elim
end RX1
/-- what is wanted at a place, in the reference's letters -/
def WnRr (ws : List Int) (v : Int) : Prop := match ws with
  | [] => v = 32
  | w :: _ => (w = 1 ∧ v = 105) ∨ (w = 17 ∧ v = 115) ∨ (w = 18 ∧ v = 99) ∨ (w = 16 ∧ ¬ v = 32 ∧ ¬ v = 105 ∧ ¬ v = 107 ∧ ¬ v = 115 ∧ ¬ v = 99)
/-- a function of the reference (own: a given one; else fn: one of the text) is f -/
def TkFr (na ca : Nat → Nat → Int32) (M : Nat → Int32) (own fn : Int32) (f : Fnc) : Prop := (∀ (ma : Nat → Nat → Int32) (i : Nat) (q v : Int32), ma 22 = M → q.toInt = (i : Int) → i < 100000 → R_mp_taken na ma ca fn own q v → WnRr (f.2.drop i) v.toInt) ∧ (own.toInt < 0 → ((M (ca 39 fn.toNatClampNeg).toNatClampNeg).toInt = 2 ↔ f.1 = true)) ∧ (0 ≤ own.toInt → ∀ v : Int32, R_String_charAt (tby own.toNatClampNeg) (0 : Int32) v → (v.toInt = 118 ↔ f.1 = true))
/-- every one of a row -/
def ChLr (na : Nat → Nat → Int32) : List Nat → Int → Prop
  | [], n => n < 0
  | i :: l, n => n = (i : Int) ∧ ChLr na l (na 21 i).toInt
def AllN (na : Nat → Nat → Int32) (P : Int → Prop) (n : Int) : Prop := ∃ l : List Nat, ChLr na l n ∧ ∀ i : Nat, i ∈ l → P (i : Int)
theorem AllN.nil {na : Nat → Nat → Int32} {P : Int → Prop} {n : Int} (h : n < 0) : AllN na P n := ⟨[], h, fun i hi => absurd hi (by simp)⟩
theorem AllN.cons {na : Nat → Nat → Int32} {P : Int → Prop} {n : Int} {i : Nat} (h : n = (i : Int)) (hp : P n) (ht : AllN na P (na 21 i).toInt) : AllN na P n := by
  obtain ⟨l, h1, h2⟩ := ht
  refine ⟨i :: l, ⟨h, h1⟩, fun j hj => ?_⟩
  rcases List.mem_cons.mp hj with q | q
  · rw [q, ← h]; exact hp
  · exact h2 j q
theorem AllN.inv {na : Nat → Nat → Int32} {P : Int → Prop} {n : Int} (h : AllN na P n) : n < 0 ∨ ∃ i : Nat, n = (i : Int) ∧ P n ∧ AllN na P (na 21 i).toInt := by
  obtain ⟨l, h1, h2⟩ := h
  cases l with
  | nil => exact Or.inl h1
  | cons i l =>
    have h1' : n = (i : Int) ∧ ChLr na l (na 21 i).toInt := h1
    exact Or.inr ⟨i, h1'.1, by rw [h1'.1]; exact h2 i List.mem_cons_self, l, h1'.2, fun j hj => h2 j (List.mem_cons_of_mem _ hj)⟩
/-- a function of the text: its node and its parameters -/
def FnPl (na ca : Nat → Nat → Int32) (fn : Int32) : Prop := (na 14 (ca 39 fn.toNatClampNeg).toNatClampNeg).toInt = 41 ∧ AllN na (fun p => (na 14 p.toNat).toInt = 42) (na 17 (ca 39 fn.toNatClampNeg).toNatClampNeg).toInt
def FunR (tf : Nat → Int32) (ta na ca : Nat → Nat → Int32) (k : Nat → Int) (vl : Nat → Int32) (c : Nat) (n38 : Int32) (M : Nat → Int32) (F : Int32 → Option Fnc) : Prop := ∀ (t : Nat) (z own : Int32), t < c → k t = 16 → z.toInt = (t : Int) → R_mp_findOwn tf ta z own → ((0 ≤ own.toInt ∧ own.toInt < 100) ∧ ∃ f : Fnc, F (vl t) = some f ∧ TkFr na ca M own (-1) f) ∨ (own = -1 ∧ ∀ (cf : Nat → Int32) (fn : Int32), cf 38 = n38 → R_mp_findFunction ta na cf ca z fn → (fn.toInt < 0 ∧ F (vl t) = none) ∨ ((0 ≤ fn.toInt ∧ fn.toInt < 4096 ∧ FnPl na ca fn) ∧ ∃ f : Fnc, F (vl t) = some f ∧ TkFr na ca M (-1) fn f))
/-- the note of a call -/
def NtC (na ca : Nat → Nat → Int32) (vl M : Nat → Int32) (F : Int32 → Option Fnc) (i : Nat) (x : Int32) : Prop := ∃ (t : Nat) (f : Fnc), (na 15 i).toInt = (t : Int) ∧ F (vl t) = some f ∧ (((0 ≤ x.toInt ∧ x.toInt < 100) ∧ TkFr na ca M x (-1) f) ∨ ∃ fn : Int32, x.toInt = 100 + fn.toInt ∧ (0 ≤ fn.toInt ∧ fn.toInt < 4096 ∧ FnPl na ca fn) ∧ TkFr na ca M (-1) fn f)
/-- the calls below a node have their notes -/
def NtN (na ca : Nat → Nat → Int32) (vl M : Nat → Int32) (F : Int32 → Option Fnc) (ma : Nat → Nat → Int32) : Nat → Int → Prop
  | 0, _ => True
  | d + 1, n => ∃ i : Nat, n = (i : Int) ∧ ((na 14 i).toInt = 3 → NtC na ca vl M F i (ma 18 i) ∧ AllN na (NtN na ca vl M F ma d) (na 17 i).toInt) ∧ ((na 14 i).toInt = 4 ∨ (na 14 i).toInt = 5 ∨ (na 14 i).toInt = 6 → NtN na ca vl M F ma d (na 17 i).toInt) ∧ ((na 14 i).toInt = 7 → AllN na (NtN na ca vl M F ma d) (na 17 i).toInt) ∧ ((na 14 i).toInt = 8 → NtN na ca vl M F ma d (na 17 i).toInt ∧ NtN na ca vl M F ma d (ma 18 i).toInt ∧ NtN na ca vl M F ma d (ma 19 i).toInt) ∧ ((na 14 i).toInt = 9 → NtN na ca vl M F ma d (na 17 i).toInt ∧ NtN na ca vl M F ma d (ma 18 i).toInt)
/-- what stands fast while expressions are checked -/
def CtR (k : Nat → Int) (vl : Nat → Int32) (c : Nat) (ca : Nat → Nat → Int32) (L : Nms) (n38 : Int32) (M : Nat → Int32) (cf : Nat → Int32) (ma : Nat → Nat → Int32) : Prop := EnvR k vl c cf ca L ∧ cf 38 = n38 ∧ ma 22 = M
theorem CtR.go {k : Nat → Int} {vl : Nat → Int32} {c : Nat} {ca na : Nat → Nat → Int32} {L : Nms} {n38 : Int32} {M : Nat → Int32} {cf cf' : Nat → Int32} {ma ma' : Nat → Nat → Int32} {lo hi : Nat} (h : CtR k vl c ca L n38 M cf ma) (s : SmK cf cf') (f : FrM ma ma' lo hi) (a : AgKr na ma ma' lo hi) : CtR k vl c ca L n38 M cf' ma' := by
  refine ⟨h.1.sm (s 33 (by decide) (by decide)), (s 38 (by decide) (by decide)).trans h.2.1, ?_⟩
  rw [← h.2.2]
  funext i
  by_cases q : lo ≤ i ∧ i < hi
  · exact (a i q.1 q.2).2.2
  · exact f 22 i (by omega)
/-- what a check of an expression gives -/
def OkC (k : Nat → Int) (vl : Nat → Int32) (G : Int32 → Option Ent) (F : Int32 → Option Fnc) (na ca : Nat → Nat → Int32) (M : Nat → Int32) (e : Ast) (b : Bool) (n : Int) (lo hi : Nat) (ma : Nat → Nat → Int32) (cf : Nat → Int32) (ma' : Nat → Nat → Int32) (cf' : Nat → Int32) (v : Int) : Prop := SmK cf cf' ∧ FrM ma ma' lo hi ∧ AgKr na ma ma' lo hi ∧ AC cf cf' ((att k vl G F e [] 0).bind (fun a => if b then aNum a else some a)) (fun a => IsV v a.1) ∧ (Uc cf' → ∀ d : Nat, NtN na ca vl M F ma' d n)
abbrev Tck := (Nat → Int32) → (Nat → Nat → Int32) → (Nat → Nat → Int32) → (Nat → Nat → Int32) → Int32 → Int32 → (Nat → Nat → Int32) → (Nat → Int32) → (Nat → Nat → Int32) → (Nat → Int32) → Int32 → Prop
def HCk (k : Nat → Int) (vl : Nat → Int32) (c : Nat) (L : Nms) (F : Int32 → Option Fnc) (n38 : Int32) (M : Nat → Int32) (tf : Nat → Int32) (ta na ca : Nat → Nat → Int32) (RL : Tck) : Prop := ∀ (e : Ast) (b : Bool) (p0 p1 : Int32) (lo hi : Nat) (ma ma' : Nat → Nat → Int32) (cf cf' : Nat → Int32) (v : Int32), isEx e = true → hi ≤ 100000 → Rep k c na ma e false p0.toInt 0 lo hi → p1.toInt = (if b then 1 else 0) → CtR k vl c ca L n38 M cf ma → RL tf ta na ca p0 p1 ma cf ma' cf' v → OkC k vl (lkp L) F na ca M e b p0.toInt lo hi ma cf ma' cf' v.toInt
section RX2
variable {tf : Nat → Int32} {ta : Nat → Nat → Int32} {k : Nat → Int} {vl : Nat → Int32} {c : Nat} {cf cf' : Nat → Int32} {ca na ma ma' : Nat → Nat → Int32} {L : Nms} {F : Int32 → Option Fnc} {n38 : Int32} {M : Nat → Int32} {RL : Tck} {p0 p1 : Int32} {e : Ast} {lo hi : Nat}
theorem arg_y {w : Int} {a : Atr} {n : Int} (h : aArg w a = some n) (f : Int → Prop) (h1 : w = 1 → f 1) (h2 : ¬ w = 1 → f 2) : f n := by
  unfold aArg at h
  by_cases q : w = 1
  · rw [if_pos q] at h
    unfold aNum at h
    split at h
    · exact absurd h (by simp)
    · simp at h
      rw [← h]; exact h1 q
  · rw [if_neg q] at h
    split at h
    · injection h with h
      rw [← h]; exact h2 q
    · exact absurd h (by simp)
/-- an argument where w is wanted -/
theorem arg_r {w : Int} {ws : List Int} (HC : HCk k vl c L F n38 M tf ta na ca RL) (hx : isEx e = true) (hh : hi ≤ 100000) (hR : Rep k c na ma e false p0.toInt 0 lo hi) (hw : WnRr (w :: ws) p1.toInt) (hc : CtR k vl c ca L n38 M cf ma) (h : R_mp_checkArgument RL tf ta na ca p0 p1 ma cf ma' cf') : SmK cf cf' ∧ FrM ma ma' lo hi ∧ AgKr na ma ma' lo hi ∧ AC cf cf' ((att k vl (lkp L) F e [] 0).bind (aArg w)) (fun _ => True) ∧ (Uc cf' → ∀ d : Nat, NtN na ca vl M F ma' d p0.toInt) := by
  unfold WnRr at hw
  -- a row: what the check answers decides
  have row : ∀ {ma1 : Nat → Nat → Int32} {cf1 : Nat → Int32} {v : Int32}, ¬ w = 1 → RL tf ta na ca p0 (0 : Int32) ma cf ma1 cf1 v → ((v.toInt = 0 ∨ (v.toInt = 2 ∧ (w = 16 ∨ w = 17)) ∨ (v.toInt = 3 ∧ (w = 16 ∨ w = 18))) → ma' = ma1 → cf' = cf1 → SmK cf cf' ∧ FrM ma ma' lo hi ∧ AgKr na ma ma' lo hi ∧ AC cf cf' ((att k vl (lkp L) F e [] 0).bind (aArg w)) (fun _ => True) ∧ (Uc cf' → ∀ d : Nat, NtN na ca vl M F ma' d p0.toInt)) ∧ (∀ {x y : Int32} {cf2 : Nat → Int32}, ¬ (v.toInt = 2 ∧ (w = 16 ∨ w = 17)) → ¬ (v.toInt = 3 ∧ (w = 16 ∨ w = 18)) → R_mp_bad x y cf1 cf2 → ¬ x.toInt = 0 → ma' = ma1 → cf' = cf2 → SmK cf cf' ∧ FrM ma ma' lo hi ∧ AgKr na ma ma' lo hi ∧ AC cf cf' ((att k vl (lkp L) F e [] 0).bind (aArg w)) (fun _ => True) ∧ (Uc cf' → ∀ d : Nat, NtN na ca vl M F ma' d p0.toInt)) := by
    intro ma1 cf1 v hw1 hq
    obtain ⟨o1, o2, o3, o4, o5⟩ := HC e false p0 0 lo hi ma ma1 cf cf1 v hx hh hR rfl hc hq
    have o4' : AC cf cf1 (att k vl (lkp L) F e [] 0) (fun a => IsV v.toInt a.1) := by
      have y : (att k vl (lkp L) F e [] 0).bind (fun a => if false = true then aNum a else some a) = att k vl (lkp L) F e [] 0 := by
        cases att k vl (lkp L) F e [] 0 <;> rfl
      rw [y] at o4
      exact o4
    have argv : ∀ a : Atr, aArg w a = if (a.1 = 2 ∧ (w = 16 ∨ w = 17)) ∨ (a.1 = 5 ∧ (w = 16 ∨ w = 18)) then some 2 else none := fun a => by unfold aArg; rw [if_neg hw1]
    constructor
    · intro hv e0 e1
      rw [e0, e1]
      refine ⟨o1, o2, o3, AC.of o4'.1 (fun u => ?_), o5⟩
      cases hatt : att k vl (lkp L) F e [] 0 with
      | none => exact Or.inl ⟨rfl, o4'.n u hatt⟩
      | some a =>
        have q := o4'.y u hatt
        have q2 := q.2
        unfold IsV at q2
        refine Or.inr ⟨2, ?_, q.1, trivial⟩
        have y : aArg w a = some 2 := by rw [argv a, if_pos (by omega)]
        exact y
    · intro x y cf2 hv1 hv2 hb hx0 e0 e1
      rw [e0, e1]
      have b := bad_r hb hx0
      refine ⟨o1.tr b.2, o2, o3, AC.of (fun _ => b.1) (fun u => Or.inl ⟨?_, b.1⟩), fun q => absurd q b.1⟩
      cases hatt : att k vl (lkp L) F e [] 0 with
      | none => rfl
      | some a =>
        have q2 := (o4'.y u hatt).2
        unfold IsV at q2
        have y : aArg w a = none := by rw [argv a, if_neg (by omega)]
        exact y
  rcases h with (⟨h1, h2, ma7, cf8, v10, h3, (⟨h4, e0, e1⟩ | ⟨h4, (⟨h5, e0, e1⟩ | ⟨h5, (⟨h6, (⟨h7, v39, h8, cf44, h9, e0, e1⟩ | ⟨h7, (⟨h8, v71, h9, cf76, h10, e0, e1⟩ | ⟨h8, e0, e1⟩)⟩)⟩ | ⟨h6, (⟨h7, e0, e1⟩ | ⟨h7, (⟨h8, v107, h9, cf112, h10, e0, e1⟩ | ⟨h8, (⟨h9, v139, h10, cf144, h11, e0, e1⟩ | ⟨h9, e0, e1⟩)⟩)⟩)⟩)⟩)⟩)⟩ | ⟨h1, ma170, cf171, v173, h2, e0, e1⟩) | h
  · exfalso; omega
  · exact (row (by omega) h3).1 (by omega) e0 e1
  · exact (row (by omega) h3).2 (by omega) (by omega) h9 (by decide) e0 e1
  · exact (row (by omega) h3).2 (by omega) (by omega) h10 (by decide) e0 e1
  · exact (row (by omega) h3).1 (by omega) e0 e1
  · exact (row (by omega) h3).1 (by omega) e0 e1
  · exact (row (by omega) h3).2 (by omega) (by omega) h10 (by decide) e0 e1
  · exfalso; omega
  · exfalso; omega
  · have w1 : w = 1 := by omega
    obtain ⟨o1, o2, o3, o4, o5⟩ := HC e true p0 1 lo hi ma ma170 cf cf171 v173 hx hh hR rfl hc h2
    have z : (att k vl (lkp L) F e [] 0).bind (fun a => if true = true then aNum a else some a) = (att k vl (lkp L) F e [] 0).bind aNum := by
      cases att k vl (lkp L) F e [] 0 <;> rfl
    have o4' : AC cf cf171 ((att k vl (lkp L) F e [] 0).bind aNum) (fun a => IsV v173.toInt a.1) := by rw [← z]; exact o4
    rw [e0, e1]
    refine ⟨o1, o2, o3, AC.of o4'.1 (fun u => ?_), o5⟩
    cases hatt : att k vl (lkp L) F e [] 0 with
    | none => exact Or.inl ⟨rfl, o4'.n u (by rw [hatt]; rfl)⟩
    | some a =>
      have y : aArg w a = (aNum a).map (fun _ => 1) := by unfold aArg; rw [if_pos w1]
      cases hnum : aNum a with
      | none =>
        refine Or.inl ⟨?_, o4'.n u (by rw [hatt]; exact hnum)⟩
        show aArg w a = none
        rw [y, hnum]; rfl
      | some b =>
        refine Or.inr ⟨1, ?_, (o4'.y u (y := b) (by rw [hatt]; exact hnum)).1, trivial⟩
        show aArg w a = some 1
        rw [y, hnum]; rfl
  · exact h.elim
/-- an argument too many -/
theorem arg_n (HC : HCk k vl c L F n38 M tf ta na ca RL) (hx : isEx e = true) (hh : hi ≤ 100000) (hR : Rep k c na ma e false p0.toInt 0 lo hi) (hw : p1.toInt = 32) (hc : CtR k vl c ca L n38 M cf ma) (h : R_mp_checkArgument RL tf ta na ca p0 p1 ma cf ma' cf') : SmK cf cf' ∧ FrM ma ma' lo hi ∧ AgKr na ma ma' lo hi ∧ (Bc cf → Bc cf') := by
  rcases h with (⟨h1, h2, ma7, cf8, v10, h3, (⟨h4, e0, e1⟩ | ⟨h4, (⟨h5, e0, e1⟩ | ⟨h5, (⟨h6, (⟨h7, v39, h8, cf44, h9, e0, e1⟩ | ⟨h7, (⟨h8, v71, h9, cf76, h10, e0, e1⟩ | ⟨h8, e0, e1⟩)⟩)⟩ | ⟨h6, (⟨h7, e0, e1⟩ | ⟨h7, (⟨h8, v107, h9, cf112, h10, e0, e1⟩ | ⟨h8, (⟨h9, v139, h10, cf144, h11, e0, e1⟩ | ⟨h9, e0, e1⟩)⟩)⟩)⟩)⟩)⟩)⟩ | ⟨h1, ma170, cf171, v173, h2, e0, e1⟩) | h
  · obtain ⟨o1, o2, o3, o4, o5⟩ := HC e false p0 0 lo hi ma ma7 cf cf8 v10 hx hh hR rfl hc h3
    rw [e0, e1]
    exact ⟨o1, o2, o3, o4.1⟩
  all_goals first | (exfalso; omega) | exact h.elim
end RX2
