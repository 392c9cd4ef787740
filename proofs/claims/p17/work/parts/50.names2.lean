theorem oz_bf6d68263b {n0 n1 : Nat} (h0 : (n0 : Int) ≤ 2 * (n1 : Int) + 10) (h1 : n1 ≤ 5000) : n0 ≤ 1000000 := by omega
theorem oz_9c169c9c0a {a0 : Int} {n1 : Nat} (h0 : a0 ≤ (n1 : Int)) (h1 : n1 = 0) (h2 : 0 ≤ a0) : a0 = 0 := by omega
theorem oz_dc374f0120 {n0 : Nat}  : 0 + (40) ≤ (4 * n0 + 40) := by omega
theorem oz_28c98d5d65 {n0 n1 n2 : Nat} (h0 : (n0 : Int) ≤ 4 * ((n2 : Int) - (0 : Int))) (h1 : (n2 : Int) ≤ 2 * (0 : Int) + 10) : (0 + n0) ≤ (4 * n1 + 40) := by omega
theorem oz_fbfa855060 {n0 : Nat} (h0 : (n0 : Int) ≤ 2 * (0 : Int) + 10) : n0 ≤ 1000000 := by omega
theorem oz_52ec965126 {n0 : Nat} (h0 : (n0 : Int) ≤ 2 * (0 : Int) + 10) : n0 ≤ 5000 := by omega
theorem oz_5445c3eef8 {n0 n1 : Nat} (h0 : n0 = 0) : (n0 : Int) ≤ (n1 : Int) := by omega
theorem oz_26b38205ea {n0 n1 : Nat} (h0 : (n0 : Int) ≤ 2 * (0 : Int) + 10) : (n0 : Int) ≤ 2 * (n1 : Int) + 10 := by omega
theorem oz_6d21eeac4a {n0 n1 n2 : Nat} (h0 : n2 = 0) (h1 : 10 ≤ n1) (h2 : n0 ≤ 1) : ((0 + n0) : Int) ≤ (n1 : Int) - (n2 : Int) := by omega
theorem oz_e068631d73 {n0 n1 n2 : Nat} (h0 : n2 = 0) (h1 : (n0 : Int) ≤ 4 * ((n1 : Int) - (0 : Int))) : ((0 + n0) : Int) ≤ 4 * ((n1 : Int) - (n2 : Int)) := by omega
theorem oz_202bf8b9d2 {a0 a1 a2 a3 : Int} (h0 : a1 = a2 - 1) (h1 : ¬ a3 ≤ a1) (h2 : a3 = a2 - (1 : Int)) : a0 = a1 + (1 : Int) := by omega
theorem oz_54599d90db {a0 a1 a2 a3 : Int} (h0 : a2 = a3 - 1) (h1 : a1 = a3 - (1 : Int)) (h2 : ¬ a1 ≤ a2) : a0 = a1 - a2 := by omega
theorem oz_77ad2ce5bd {a0 a1 : Int} (h0 : a0 = a1 - 1) : a0 < a1 := by omega
theorem oz_0b0c60c2d3 {a0 : Int} {n1 : Nat} (h0 : a0 = 0) : a0 ≤ (n1 : Int) := by omega
theorem oz_d535c01852 {a0 a1 a2 : Int} (h0 : a0 = a1 - 1) (h1 : a2 = a1 - 1) (h2 : ¬ a2 < (0 : Int)) : 0 ≤ a0 := by omega
theorem oz_92b454834d {a0 a2 : Int} {n1 : Nat} (h0 : a2 ≤ (n1 : Int)) (h1 : a0 = a2 - 1) : a0 ≤ (n1 : Int) := by omega
theorem oz_574f9a72dc {a0 a1 a2 : Int} (h0 : a2 ≤ a1) (h1 : a0 = a2 - 1) : a0 ≤ a1 := by omega
theorem oz_8633e2b9f3 {a0 a1 a2 a3 : Int} (h0 : a1 = a2 - 1) (h1 : a0 = a3 + (-1)) (h2 : a3 = a2 - 1) : a0 = a1 - 1 := by omega
theorem oz_36811a00a6 {a0 a2 : Int} {n1 : Nat} (h0 : a2 + 1 < (n1 : Int)) (h1 : a0 = a2 + (-1)) : a0 + 1 < (n1 : Int) := by omega
theorem oz_53ab253ca6 {a0 a1 : Int} (h0 : a0 = a1 + (1 : Int)) (h1 : ¬ (2048 : Int) ≤ a1) : a0 ≤ 2048 := by omega
theorem oz_d5ec294563 {n0 : Nat}  : 0 + 7 ≤ (4 * n0 + 60) := by omega
theorem oz_ae778f43fd {n0 : Nat}  : (0 + 7) + 0 ≤ (4 * n0 + 60) := by omega
theorem oz_3cf77dc240 {a0 a1 : Int} (h0 : a0 = a1) (h1 : 10 ≤ a1) : 0 ≤ a0 := by omega
theorem oz_c4f95ae972 {a0 a1 : Int} (h0 : a0 = a1) (h1 : a1 ≤ 2400) : a0 ≤ 1000000 := by omega
theorem oz_c87751ffac {a0 a1 : Int} (h0 : a0 = a1) (h1 : 10 ≤ a1) : 10 ≤ a0 := by omega
theorem oz_d17afbaf4a {n0 : Nat}  : (0 + 7) + (4 * n0 + 40) ≤ (4 * n0 + 60) := by omega
theorem oz_00cd0a3ed8 {n0 : Nat} (h0 : n0 ≤ 1) : ((0 + 1) + n0) ≤ 2 := by omega
theorem oz_0d26dafe55 {n0 n1 n2 : Nat} (h0 : (n2 : Int) ≤ 2 * (n1 : Int) + 10) (h1 : (n0 : Int) ≤ 4 * ((n2 : Int) - (n1 : Int))) : ((0 + 7) + n0) ≤ (4 * n1 + 60) := by omega
theorem oz_f74637d098 {a0 a1 : Int} (h0 : a0 = a1 + 1) (h1 : 10 ≤ a1) : 0 ≤ a0 := by omega
theorem oz_53899fa483 {a0 a1 : Int} (h0 : a0 = a1 + 1) (h1 : 10 ≤ a1) : 10 ≤ a0 := by omega
theorem oz_7be48e8e5f {n0 n1 n2 : Nat} (h0 : (n0 : Int) ≤ (n1 : Int) - (n2 : Int)) : (((0 + 1) + n0) : Int) ≤ 1 + (n1 : Int) - (n2 : Int) := by omega
theorem oz_074ca3cb2e {n0 n1 n2 : Nat} (h0 : (n0 : Int) ≤ 4 * ((n1 : Int) - (n2 : Int))) : (((0 + 7) + n0) : Int) ≤ 7 + 4 * ((n1 : Int) - (n2 : Int)) := by omega
theorem oz_add137c5ec {a0 a1 : Int} (h0 : a1 = a0 - 1) (h1 : a1 < (10 : Int)) : a0 ≤ 10 := by omega
theorem oz_0feec3747c {a0 : Int} (h0 : ¬ a0 < (10 : Int)) : 0 ≤ a0 := by omega
theorem oz_46570468e8 {a0 a1 : Int} (h0 : a0 = a1 - 1) (h1 : 10 ≤ a1) : 0 ≤ a0 := by omega
theorem oz_fff3fe2c3d {a0 a1 a2 : Int} (h0 : a0 = a1 - 1) (h1 : a2 = a1 - 1) (h2 : ¬ a2 < (10 : Int)) : 10 ≤ a0 := by omega
theorem m2_6 : Cond.methodLink "HomeSystem$Names" 52 ⟨"java/util/ArrayList", "add", "(Ljava/lang/Object;)Z"⟩ ∈ AL := AL_2 (List.mem_of_getElem? (i := 6) rfl) rfl
theorem m2_9 : Cond.code ⟨"java/util/ArrayList", "add", "(Ljava/lang/Object;)Z"⟩ prog_39_method_25_code 2 (Option.some FieldType.boolean) ∈ AL := AL_2 (List.mem_of_getElem? (i := 9) rfl) rfl
theorem m2_8 : Cond.selects "java/util/ArrayList" ⟨"java/util/ArrayList", "add", "(Ljava/lang/Object;)Z"⟩ ⟨"java/util/ArrayList", "add", "(Ljava/lang/Object;)Z"⟩ ∈ AL := AL_2 (List.mem_of_getElem? (i := 8) rfl) rfl
theorem m2_7 : Cond.instanceMethod ⟨"java/util/ArrayList", "add", "(Ljava/lang/Object;)Z"⟩ ∈ AL := AL_2 (List.mem_of_getElem? (i := 7) rfl) rfl
theorem m4_101 : Cond.methodLink "HomeSystem$Names" 66 ⟨"java/util/ArrayList", "clear", "()V"⟩ ∈ AL := AL_4 (List.mem_of_getElem? (i := 101) rfl) rfl
theorem m4_104 : Cond.code ⟨"java/util/ArrayList", "clear", "()V"⟩ prog_39_method_40_code 4 (Option.none : Option Jvm.ClassFile.FieldType) ∈ AL := AL_4 (List.mem_of_getElem? (i := 104) rfl) rfl
theorem m4_103 : Cond.selects "java/util/ArrayList" ⟨"java/util/ArrayList", "clear", "()V"⟩ ⟨"java/util/ArrayList", "clear", "()V"⟩ ∈ AL := AL_4 (List.mem_of_getElem? (i := 103) rfl) rfl
theorem m4_102 : Cond.instanceMethod ⟨"java/util/ArrayList", "clear", "()V"⟩ ∈ AL := AL_4 (List.mem_of_getElem? (i := 102) rfl) rfl
theorem m4_76 : Cond.methodLink "HomeSystem$Names" 62 ⟨"java/util/ArrayList", "remove", "(I)Ljava/lang/Object;"⟩ ∈ AL := AL_4 (List.mem_of_getElem? (i := 76) rfl) rfl
theorem m4_79 : Cond.code ⟨"java/util/ArrayList", "remove", "(I)Ljava/lang/Object;"⟩ prog_39_method_29_code 4 (Option.some (FieldType.object "java/lang/Object")) ∈ AL := AL_4 (List.mem_of_getElem? (i := 79) rfl) rfl
theorem m4_78 : Cond.selects "java/util/ArrayList" ⟨"java/util/ArrayList", "remove", "(I)Ljava/lang/Object;"⟩ ⟨"java/util/ArrayList", "remove", "(I)Ljava/lang/Object;"⟩ ∈ AL := AL_4 (List.mem_of_getElem? (i := 78) rfl) rfl
theorem m4_77 : Cond.instanceMethod ⟨"java/util/ArrayList", "remove", "(I)Ljava/lang/Object;"⟩ ∈ AL := AL_4 (List.mem_of_getElem? (i := 77) rfl) rfl
theorem m2_78 : Cond.fieldLink "HomeSystem$Names" 56 "HomeSystem$Names" "wanted" "I" ∈ AL := AL_2 (List.mem_of_getElem? (i := 78) rfl) rfl
theorem m1_203 : Cond.instantiable "HomeSystem$Symbol" 7 ∈ AL := AL_1 (List.mem_of_getElem? (i := 203) rfl) rfl
theorem m1_11 : Cond.initialized "HomeSystem$Symbol" ∈ AL := AL_1 (List.mem_of_getElem? (i := 11) rfl) rfl
theorem m1_204 : Cond.methodLink "HomeSystem$Names" 30 ⟨"HomeSystem$Symbol", "<init>", "(II)V"⟩ ∈ AL := AL_1 (List.mem_of_getElem? (i := 204) rfl) rfl
theorem m1_206 : Cond.code ⟨"HomeSystem$Symbol", "<init>", "(II)V"⟩ prog_9_method_1_code 3 (Option.none : Option Jvm.ClassFile.FieldType) ∈ AL := AL_1 (List.mem_of_getElem? (i := 206) rfl) rfl
theorem m1_205 : Cond.instanceMethod ⟨"HomeSystem$Symbol", "<init>", "(II)V"⟩ ∈ AL := AL_1 (List.mem_of_getElem? (i := 205) rfl) rfl
theorem m1_221 : Cond.fieldLink "HomeSystem$Names" 33 "HomeSystem$Symbol" "number" "I" ∈ AL := AL_1 (List.mem_of_getElem? (i := 221) rfl) rfl
theorem m1_224 : Cond.fieldLink "HomeSystem$Names" 40 "HomeSystem$Symbol" "type" "I" ∈ AL := AL_1 (List.mem_of_getElem? (i := 224) rfl) rfl
theorem m1_200n : Cond.fieldLinkNest "HomeSystem$Names" 25 "HomeSystem" "GIVEN_WANTS" "[I" "HomeSystem" ∈ tables_1 := by unfold tables_1; exact List.mem_append_left _ (List.mem_of_getElem? (i := 200) rfl)
/-! NAMES, as it is written to: its pool of symbols grows, and keeps what it had -/
/-- a function's record: main's number is behind the given ones -/
def Gy (P : va_W) (a : Nat) : Prop := ∃ (i : Nat) (s : Nat → Int32), P[i]? = some (syC a s) ∧ 0 ≤ (s 5).toInt ∧ (s 5).toInt ≤ 1000000 ∧ ((s 0).toInt = 25 → 10 ≤ (s 5).toInt)
def ElG (P : va_W) (n : Int32) (g : Nat → Option Nat) : Prop := ∀ j : Nat, (j : Int) < n.toInt → ∃ a, g j = some a ∧ Gy P a
def Pg (P P' : va_W) : Prop := ∀ (a i : Nat) (s : Nat → Int32), P[i]? = some (syC a s) → ∃ (i' : Nat) (s' : Nat → Int32), P'[i']? = some (syC a s') ∧ s' 0 = s 0 ∧ s' 5 = s 5
theorem Pg.rf {P : va_W} : Pg P P := fun _ i s h => ⟨i, s, h, rfl, rfl⟩
theorem Pg.tr {P Q R : va_W} (h : Pg P Q) (k : Pg Q R) : Pg P R := fun a i s x => by
  obtain ⟨i1, s1, x1, y1, z1⟩ := h a i s x
  obtain ⟨i2, s2, x2, y2, z2⟩ := k a i1 s1 x1
  exact ⟨i2, s2, x2, y2.trans y1, z2.trans z1⟩
theorem Pg.sy {P Q : va_W} {q : Option Nat} (h : Pg P Q) (x : Sy P q) : Sy Q q := fun a e => by
  obtain ⟨i, s, hi⟩ := x a e
  obtain ⟨i1, s1, x1, -⟩ := h a i s hi
  exact ⟨i1, s1, x1⟩
theorem Pg.fy {P Q : va_W} {q : Option Nat} (h : Pg P Q) (x : Fy P q) : Fy Q q := fun a e => by
  obtain ⟨i, s, hi, h0, h1⟩ := x a e
  obtain ⟨i1, s1, x1, -, y1⟩ := h a i s hi
  exact ⟨i1, s1, x1, by rw [y1]; exact h0, by rw [y1]; exact h1⟩
theorem Pg.gy {P Q : va_W} {a : Nat} (h : Pg P Q) (x : Gy P a) : Gy Q a := by
  obtain ⟨i, s, hi, h0, h1, h2⟩ := x
  obtain ⟨i1, s1, x1, y0, y1⟩ := h a i s hi
  exact ⟨i1, s1, x1, by rw [y1]; exact h0, by rw [y1]; exact h1, by rw [y0, y1]; exact h2⟩
theorem Pg.els {P Q : va_W} {n : Int32} {g : Nat → Option Nat} (h : Pg P Q) (x : ElS P n g) : ElS Q n g := fun j hj => by
  obtain ⟨a, e, ha⟩ := x j hj
  exact ⟨a, e, h.sy ha⟩
theorem Pg.elf {P Q : va_W} {n : Int32} {g : Nat → Option Nat} (h : Pg P Q) (x : ElF P n g) : ElF Q n g := fun j hj => by
  obtain ⟨a, e, ha⟩ := x j hj
  exact ⟨a, e, h.fy ha⟩
theorem Pg.elg {P Q : va_W} {n : Int32} {g : Nat → Option Nat} (h : Pg P Q) (x : ElG P n g) : ElG Q n g := fun j hj => by
  obtain ⟨a, e, ha⟩ := x j hj
  exact ⟨a, e, h.gy ha⟩
theorem ElG.less {P : va_W} {n k : Int32} {g : Nat → Option Nat} (h : ElG P n g) (hk : k.toInt ≤ n.toInt) : ElG P k g := fun j hj => h j (by omega)
theorem ElG.at {P : va_W} {n : Int32} {g : Nat → Option Nat} (h : ElG P n g) {x : Int32} (h0 : 0 ≤ x.toInt) (h1 : x.toInt < n.toInt) : ∃ a, g x.toNatClampNeg = some a ∧ Gy P a := h _ (by rw [cl_nat h0]; exact h1)
theorem AddL.elg {n n' : Int32} {g g' : Nat → Option Nat} {a : Nat} {P : va_W} (h : AddL n g g' a) (k : ElG P n g) (hs : Gy P a) (hn : n'.toInt = n.toInt + 1) : ElG P n' g' := fun j hj => by
  by_cases hjn : (j : Int) < n.toInt
  · obtain ⟨b, e, hb⟩ := k j hjn
    exact ⟨b, (h.1 j hjn).trans e, hb⟩
  · exact ⟨a, h.2 j (by omega), hs⟩
theorem pg_app {P w : va_W} : Pg P (P ++ w) := fun a i s hj => ⟨i, s, by rw [List.getElem?_append_left (List.getElem?_eq_some_iff.mp hj).1]; exact hj, rfl, rfl⟩
theorem sy_last {P : va_W} {a : Nat} {s : Nat → Int32} {w : va_W} (h : w = [syC a s]) : Sy (P ++ w) (some a) := fun b e => by
  cases e
  exact ⟨P.length, s, by rw [h, List.getElem?_append_right (Nat.le_refl _), Nat.sub_self]; rfl⟩
theorem fy_last {P : va_W} {a : Nat} {s : Nat → Int32} {w : va_W} (h : w = [syC a s]) (h0 : 0 ≤ (s 5).toInt) (h1 : (s 5).toInt ≤ 1000000) : Fy (P ++ w) (some a) := fun b e => by
  cases e
  exact ⟨P.length, s, by rw [h, List.getElem?_append_right (Nat.le_refl _), Nat.sub_self]; rfl, h0, h1⟩
theorem gy_last {P : va_W} {a : Nat} {s : Nat → Int32} {w : va_W} (h : w = [syC a s]) (h0 : 10 ≤ (s 5).toInt) (h1 : (s 5).toInt ≤ 1000000) : Gy (P ++ w) a :=
  ⟨P.length, s, by rw [h, List.getElem?_append_right (Nat.le_refl _), Nat.sub_self]; rfl, by omega, h1, fun _ => h0⟩
theorem pg_set {P : va_W} {a j : Nat} {s s' : Nat → Int32} (hj : P[j]? = some (syC a s)) (h0 : s' 0 = s 0) (h5 : s' 5 = s 5) : Pg P (P.set j (syC a s')) := fun b i t hi => by
  have hl : j < P.length := (List.getElem?_eq_some_iff.mp hj).1
  by_cases hij : i = j
  · subst hij
    rw [hi] at hj
    have h2 : syC b t = syC a s := Option.some.inj hj
    unfold syC at h2
    simp only [Prod.mk.injEq, Sum.inr.injEq, List.cons.injEq, Value.int.injEq] at h2
    obtain ⟨hb, -, q0, q1, q2, q3, q4, q5, -⟩ := h2
    exact ⟨i, s', by rw [List.getElem?_set_self hl, hb], by rw [h0, q0], by rw [h5, q5]⟩
  · exact ⟨i, t, by rw [List.getElem?_set_ne (fun h => hij h.symm)]; exact hi, rfl, rfl⟩
theorem pw_join {D : va_G} {A : Nat → Prop} {H0 H : Heap} {locs : List Loc} {ps : List va_W} {P w : va_W} (h : pw D A H0 H locs (ps ++ [P, w])) : pw D A H0 H locs (ps ++ [P ++ w]) := by
  have e : (ps ++ [P ++ w]).flatten = (ps ++ [P, w]).flatten := by simp
  exact ⟨by rw [e]; exact h.1, by rw [e]; exact h.2.1, h.2.2⟩
/-- Names, as the compiler keeps it -/
def NmI (em : Nat) (P : va_W) (own : Bool) (n k x3 x4 : Int32) (lq lc fc : Nat) (lg fg : Nat → Option Nat) : Prop := NmOk P own n k lc fc lg fg ∧ (own = false → lq = em) ∧ (own = true → 10 ≤ lc) ∧ (10 ≤ fc ∧ lc ≤ 5000 ∧ fc ≤ 5000) ∧ (0 ≤ x3.toInt ∧ x3.toInt ≤ 2048) ∧ 0 ≤ x4.toInt ∧ ElG P k fg ∧ 10 ≤ k.toInt
theorem els_0 {P : va_W} {n : Int32} {g : Nat → Option Nat} (h : n.toInt ≤ 0) : ElS P n g := fun j hj => absurd hj (by omega)
/-- the first n stay -/
def KeepL (n : Int32) (g g' : Nat → Option Nat) : Prop := ∀ j : Nat, (j : Int) < n.toInt → g' j = g j
theorem keepl_up {n x : Int32} {g : Nat → Option Nat} {o : Option Nat} (h : n.toInt ≤ x.toInt) (h0 : 0 ≤ x.toInt) : KeepL n g (va_up g x.toNatClampNeg o) := fun j hj => by
  have hc := cl_nat (x := x) h0
  rw [va_up_n (by omega)]
theorem KeepL.els {P : va_W} {n k : Int32} {g g' : Nat → Option Nat} (h : KeepL n g g') (x : ElS P k g) (hn : n.toInt ≤ k.toInt) : ElS P n g' := fun j hj => by
  obtain ⟨a, e, ha⟩ := x j (by omega)
  exact ⟨a, (h j hj).trans e, ha⟩
theorem KeepL.elf {P : va_W} {n k : Int32} {g g' : Nat → Option Nat} (h : KeepL n g g') (x : ElF P k g) (hn : n.toInt ≤ k.toInt) : ElF P n g' := fun j hj => by
  obtain ⟨a, e, ha⟩ := x j (by omega)
  exact ⟨a, (h j hj).trans e, ha⟩
/-- the wants of the given functions: a static row of 14 -/
def oGW (A : Nat → Prop) (gw : Nat) (U : State) (H : Heap) : Prop := va_Z "HomeSystem" "GIVEN_WANTS" "[I" (.ref gw) A U H ∧ ∃ f : Nat → Value, va_T .int gw 14 f A U H
theorem oG_W {gw : Nat} : oG (fun A U H => oGW A gw U H) := oG_of (fun h x => ⟨va_Z.moved h x.1, x.2.imp fun _ y => va_T.moved h y⟩) (fun x h => ⟨va_Z.kept x.1 h, x.2.imp fun _ y => va_T.kept y h⟩) (fun x h => ⟨va_Z.narrow x.1 h, x.2.imp fun _ y => va_T.narrow y h⟩)
/-- not null -/
def Nz (o : Option Nat) : Prop := ∃ a, o = some a
theorem KeepL.elg {P : va_W} {n k : Int32} {g g' : Nat → Option Nat} (h : KeepL n g g') (x : ElG P k g) (hn : n.toInt ≤ k.toInt) : ElG P n g' := fun j hj => by
  obtain ⟨a, e, ha⟩ := x j (by omega)
  exact ⟨a, (h j hj).trans e, ha⟩
abbrev b_Nam_add : ByteArray := prog_5_method_9_code
def y_Nam_add : MethodName := ⟨"HomeSystem$Names", "add", "(LHomeSystem$Symbol;)V"⟩
theorem d_Nam_add_0 : decode b_Nam_add 0 = .ok (.aload_n 0, 1) := by decide +kernel
theorem d_Nam_add_1 : decode b_Nam_add 1 = .ok (.getfield 12, 3) := by decide +kernel
theorem d_Nam_add_4 : decode b_Nam_add 4 = .ok (.aload_n 1, 1) := by decide +kernel
theorem d_Nam_add_5 : decode b_Nam_add 5 = .ok (.invokevirtual 52, 3) := by decide +kernel
theorem d_Nam_add_8 : decode b_Nam_add 8 = .ok (.pop, 1) := by decide +kernel
theorem d_Nam_add_9 : decode b_Nam_add 9 = .ok (.return_, 1) := by decide +kernel
theorem q_Nam_add : px_y y_Nam_add 1 := by unfold px_y; decide +kernel
set_option maxHeartbeats 4000000 in
set_option maxRecDepth 100000 in
theorem c_nw_add_T (l : Launch) (D : va_G) (cs : Nat → ClassId) (em : Nat) (mi : Nat) (hn : Nat) (rn : Nat → Nat) (no : Nat → Option Nat) (ng : Nat → Nat → Option Nat) (nf : Nat → Int32) (na : Nat → Nat → Int32) (fq : Nat) (fc : Nat) (ff : Nat → Int32) (fg : Nat → Option Nat) (P : va_W) (lq : Nat) (lc : Nat) (lf : Nat → Int32) (lg : Nat → Option Nat) (fa : Nat) (hinv0 : NmI em P true (lf 1) (ff 1) (nf 3) (nf 4) lq lc fc lg fg) (g0 : (lf 1).toInt ≤ 2400) (hsy : Sy P (some fa)) : MgV l y_Nam_add b_Nam_add 2 D cs 7 470 (1) ((4 * lc + 40)) [.ref hn, .ref fa] [wd_Nam cs hn rn no nf na ng, wd_Lst cs (rn 0) (fun _ => 0) (fun k => if k = 0 then (some lq) else none) lf (fun _ _ => 0) (fun _ _ => none), [(lq, .inl (cs 12, lc, .inr (.inr (.inr (.inr lg)))))], wd_Lst cs (rn 1) (fun _ => 0) (fun k => if k = 0 then (some fq) else none) ff (fun _ _ => 0) (fun _ _ => none), [(fq, .inl (cs 12, fc, .inr (.inr (.inr (.inr fg)))))], P] (oX (fun A U H => (oE A em U H) ∧ (va_Mi "[Ljava/lang/Object;" mi U)) [wd_Nam cs hn rn no nf na ng, wd_Lst cs (rn 0) (fun _ => 0) (fun k => if k = 0 then (some lq) else none) lf (fun _ _ => 0) (fun _ _ => none), [(lq, .inl (cs 12, lc, .inr (.inr (.inr (.inr lg)))))], wd_Lst cs (rn 1) (fun _ => 0) (fun k => if k = 0 then (some fq) else none) ff (fun _ _ => 0) (fun _ _ => none), [(fq, .inl (cs 12, fc, .inr (.inr (.inr (.inr fg)))))], P]) (fun ps => ∃ (own' : Bool) (lq' : Nat) (lc' : Nat) (lf' : Nat → Int32) (lg' : Nat → Option Nat), (ps.1 = [wd_Nam cs hn rn no nf na ng, wd_Lst cs (rn 0) (fun _ => 0) (fun k => if k = 0 then (some lq') else none) lf' (fun _ _ => 0) (fun _ _ => none), lA cs own' lq' lc' lg', wd_Lst cs (rn 1) (fun _ => 0) (fun k => if k = 0 then (some fq) else none) ff (fun _ _ => 0) (fun _ _ => none), [(fq, .inl (cs 12, fc, .inr (.inr (.inr (.inr fg)))))], P]) ∧ (NmI em P own' (lf' 1) (ff 1) (nf 3) (nf 4) lq' lc' fc lg' fg) ∧ ((lf' 1).toInt = (lf 1).toInt + 1) ∧ ((ff 1).toInt = (ff 1).toInt) ∧ ((nf 3).toInt = (nf 3).toInt) ∧ ((nf 4).toInt = (nf 4).toInt) ∧ ((lc : Int) ≤ (lc' : Int)) ∧ ((lc' : Int) ≤ 2 * (lc : Int) + 10) ∧ (Lcap lc (lf 1) lc') ∧ (ps.2.1 ≤ 1) ∧ ((ps.2.1 : Int) ≤ (lc' : Int) - (lc : Int)) ∧ ((ps.2.2 : Int) ≤ 4 * ((lc' : Int) - (lc : Int)))) := by
  refine pg_enter (by decide) (Nat.le_of_ble_eq_true rfl) ?_
  intro p e s m below meth c A ls hAe S hr hlk hnm hA hT hX hw hl
  replace hl : lv_has ls 2 [(0, .ref hn), (1, .ref fa)] := hl
  have hX : (fun A U H => (oE A em U H) ∧ (va_Mi "[Ljava/lang/Object;" mi U)) A s s.heap := by rw [hAe]; exact hX
  obtain ⟨hE, hM⟩ := hX
  obtain ⟨⟨hown, ⟨n1, n2, n3⟩, hEl, ⟨n4, n5, n6⟩, hEf⟩, hne, hnt, ⟨hfc, hlb, hfb⟩, ⟨hw0, hw1⟩, hsc, hEg, hk10⟩ := hinv0
  have hlc1 : 10 ≤ lc := hnt rfl
  refine lv_aload_n S.x S.b d_Nam_add_0 rfl (lv_at hl 0 rfl) ?_
  refine px_get S k_Nam hT hw 0 0 0 (v := .ref (rn 0)) rfl rfl rfl (by decide) m2_75 d_Nam_add_1 ?_
  refine lv_aload_n S.x S.b d_Nam_add_4 rfl (lv_at hl 1 rfl) ?_
  have hw : pw D A s.heap _ _ [wd_Nam cs hn rn no nf na ng, wd_Lst cs (rn 1) (fun _ => 0) (fun k => if k = 0 then (some fq) else none) ff (fun _ _ => 0) (fun _ _ => none), [(fq, .inl (cs 12, fc, .inr (.inr (.inr (.inr fg)))))], wd_Lst cs (rn 0) (fun _ => 0) (fun k => if k = 0 then (some lq) else none) lf (fun _ _ => 0) (fun _ _ => none), [(lq, .inl (cs 12, lc, .inr (.inr (.inr (.inr lg)))))], P] := hw.sub [0, 3, 4, 1, 2, 5] rfl rfl
  refine pg_calli (pr := [wd_Nam cs hn rn no nf na ng, wd_Lst cs (rn 1) (fun _ => 0) (fun k => if k = 0 then (some fq) else none) ff (fun _ _ => 0) (fun _ _ => none), [(fq, .inl (cs 12, fc, .inr (.inr (.inr (.inr fg)))))]]) (px_runV (As := [.ref fa]) (rest := []) S (c_al_add_T l D cs mi (rn 0) lq lc lf lg P  fa (show lc ≤ 1000000 from by first | exact n3 | omega) (show 10 ≤ lc from by first | exact hlc1 | omega) (show 0 ≤ (lf 1).toInt from by first | exact n1 | omega) (show (lf 1).toInt ≤ (lc : Int) from by first | exact n2 | omega) (by first | assumption | exact ElF.els (by assumption)) (by first | assumption | exact sy_none | exact fy_none | exact Fy.sy (by assumption) | exact sy_some (by assumption)) _ _) hT (pr := [wd_Nam cs hn rn no nf na ng, wd_Lst cs (rn 1) (fun _ => 0) (fun k => if k = 0 then (some fq) else none) ff (fun _ _ => 0) (fun _ _ => none), [(fq, .inl (cs 12, fc, .inr (.inr (.inr (.inr fg)))))]]) (pcs := [wd_Lst cs (rn 0) (fun _ => 0) (fun k => if k = 0 then (some lq) else none) lf (fun _ _ => 0) (fun _ _ => none), [(lq, .inl (cs 12, lc, .inr (.inr (.inr (.inr lg)))))], P]) hw (px_X.tot (oX_call (P := (fun A U H => (va_Mi "[Ljava/lang/Object;" mi U))) (pr := [wd_Nam cs hn rn no nf na ng, wd_Lst cs (rn 1) (fun _ => 0) (fun k => if k = 0 then (some fq) else none) ff (fun _ _ => 0) (fun _ _ => none), [(fq, .inl (cs 12, fc, .inr (.inr (.inr (.inr fg)))))]]) oG_M hw hA hM)) (px_recv hT hw 3 0 rfl rfl rfl) m2_9 m2_6 m2_7 m2_8 m1_10 q_Lst_add2 ⟨Nat.le_of_ble_eq_true rfl, Nat.le_of_ble_eq_true rfl⟩ hl.1 rfl (Nat.le_of_ble_eq_true rfl) d_Nam_add_5 ⟨show 0 + (1) ≤ 1 from by omega, show 0 + (4 * lc + 40) ≤ (4 * lc + 40) from (by first | exact oz_fb25b3e9fe | omega)⟩) hw hA (fun v6 p5 k7 n8 H locs hp5 hw => ?_)
  dsimp only at hp5
  obtain ⟨lq1, lc2, lf3, lg4, rfl, e9, e10, e11, e12, e13, e14, e15, e16, e17, e18⟩ := hp5
  replace e9 : (lf3 1).toInt = (lf 1).toInt + 1 := e9
  replace e10 : (lf3 1).toInt ≤ (lc2 : Int) := e10
  replace e11 : AddL (lf 1) lg lg4 fa := e11
  replace e12 : (lc : Int) ≤ (lc2 : Int) := e12
  replace e13 : (lc2 : Int) ≤ 2 * (lc : Int) + 10 := e13
  replace e14 : 10 ≤ lc2 := e14
  replace e15 : Lcap lc (lf 1) lc2 := e15
  replace e16 : k7 ≤ 1 := e16
  replace e17 : (k7 : Int) ≤ (lc2 : Int) - (lc : Int) := e17
  replace e18 : (n8 : Int) ≤ 4 * ((lc2 : Int) - (lc : Int)) := e18
  replace hw : pw D A s.heap H locs [wd_Nam cs hn rn no nf na ng, wd_Lst cs (rn 1) (fun _ => 0) (fun k => if k = 0 then (some fq) else none) ff (fun _ _ => 0) (fun _ _ => none), [(fq, .inl (cs 12, fc, .inr (.inr (.inr (.inr fg)))))], wd_Lst cs (rn 0) (fun _ => 0) (fun k => if k = 0 then (some lq1) else none) lf3 (fun _ _ => 0) (fun _ _ => none), [(lq1, .inl (cs 12, lc2, .inr (.inr (.inr (.inr lg4)))))], P] := hw
  have lv6 := Int32.le_toInt v6
  have uv6 := Int32.toInt_lt v6
  have hlcb := Lcap.le (B := 5000) (by assumption) (by omega) (by omega)
  have hels := AddL.els (n' := (lf3 1)) (by assumption) hEl hsy (by omega)
  refine lv_pop S.x S.b d_Nam_add_8 rfl ?_
  have hw : pw D A s.heap _ _ [wd_Nam cs hn rn no nf na ng, wd_Lst cs (rn 0) (fun _ => 0) (fun k => if k = 0 then (some lq1) else none) lf3 (fun _ _ => 0) (fun _ _ => none), [(lq1, .inl (cs 12, lc2, .inr (.inr (.inr (.inr lg4)))))], wd_Lst cs (rn 1) (fun _ => 0) (fun k => if k = 0 then (some fq) else none) ff (fun _ _ => 0) (fun _ _ => none), [(fq, .inl (cs 12, fc, .inr (.inr (.inr (.inr fg)))))], P] := hw.sub [0, 3, 4, 1, 2, 5] rfl rfl
  exact pg_vret S hr hlk hAe hw (show (0 + k7) ≤ 1 from by first | exact oz_0ee4199d15 e16 | omega) (show (0 + n8) ≤ (4 * lc + 40) from by first | exact oz_d3e3da878d e13 e18 | omega) (⟨true, lq1, lc2, lf3, lg4, rfl, (show NmI em P true (lf3 1) (ff 1) (nf 3) (nf 4) lq1 lc2 fc lg4 fg from ⟨⟨(by first | assumption | exact fun h => absurd h (by decide) | exact fun _ => rfl), ⟨by first | exact oz_ae613611c0 e9 n1 | omega, by first | exact e10 | omega, by first | exact oz_bf6d68263b e13 hlb | omega⟩, (by first | exact hEl | exact hEl.less (by omega) | exact hels), ⟨by first | exact n4 | omega, by first | exact n5 | omega, by first | exact n6 | omega⟩, (by first | exact hEf | exact hEf.less (by omega) | exact helf)⟩, (by first | assumption | exact fun h => absurd h (by decide)), (by first | assumption | exact fun h => absurd h (by decide) | exact fun _ => (by omega)), ⟨by first | exact hfc | omega, by omega, by first | exact hfb | omega⟩, ⟨by first | exact hw0 | omega, by first | exact hw1 | omega⟩, by first | exact hsc | omega, (by first | exact hEg | exact hEg.less (by omega) | exact helg), by first | exact hk10 | omega⟩), (show (lf3 1).toInt = (lf 1).toInt + 1 from by first | exact e9 | omega), (show (ff 1).toInt = (ff 1).toInt from rfl), (show (nf 3).toInt = (nf 3).toInt from rfl), (show (nf 4).toInt = (nf 4).toInt from rfl), (show (lc : Int) ≤ (lc2 : Int) from by first | exact e12 | omega), (show (lc2 : Int) ≤ 2 * (lc : Int) + 10 from by first | exact e13 | omega), (show Lcap lc (lf 1) lc2 from (by first | assumption | exact Or.inl rfl | exact Or.inr (by omega) | (rw [hlc0]; assumption))), (show (0 + k7) ≤ 1 from by first | exact oz_0ee4199d15 e16 | omega), (show ((0 + k7) : Int) ≤ (lc2 : Int) - (lc : Int) from by first | exact oz_11ae369335 e17 | omega), (show ((0 + n8) : Int) ≤ 4 * ((lc2 : Int) - (lc : Int)) from by first | exact oz_de7e83e532 e18 | omega)⟩) d_Nam_add_9
set_option maxHeartbeats 4000000 in
set_option maxRecDepth 100000 in
theorem c_nw_add_F (l : Launch) (D : va_G) (cs : Nat → ClassId) (em : Nat) (mi : Nat) (hn : Nat) (rn : Nat → Nat) (no : Nat → Option Nat) (ng : Nat → Nat → Option Nat) (nf : Nat → Int32) (na : Nat → Nat → Int32) (fq : Nat) (fc : Nat) (ff : Nat → Int32) (fg : Nat → Option Nat) (P : va_W) (lq : Nat) (lc : Nat) (lf : Nat → Int32) (lg : Nat → Option Nat) (fa : Nat) (hinv0 : NmI em P false (lf 1) (ff 1) (nf 3) (nf 4) lq lc fc lg fg) (g0 : (lf 1).toInt ≤ 2400) (hsy : Sy P (some fa)) : MgV l y_Nam_add b_Nam_add 2 D cs 7 470 (1) ((4 * lc + 40)) [.ref hn, .ref fa] [wd_Nam cs hn rn no nf na ng, wd_Lst cs (rn 0) (fun _ => 0) (fun k => if k = 0 then (some lq) else none) lf (fun _ _ => 0) (fun _ _ => none), [], wd_Lst cs (rn 1) (fun _ => 0) (fun k => if k = 0 then (some fq) else none) ff (fun _ _ => 0) (fun _ _ => none), [(fq, .inl (cs 12, fc, .inr (.inr (.inr (.inr fg)))))], P] (oX (fun A U H => (oE A em U H) ∧ (va_Mi "[Ljava/lang/Object;" mi U)) [wd_Nam cs hn rn no nf na ng, wd_Lst cs (rn 0) (fun _ => 0) (fun k => if k = 0 then (some lq) else none) lf (fun _ _ => 0) (fun _ _ => none), [], wd_Lst cs (rn 1) (fun _ => 0) (fun k => if k = 0 then (some fq) else none) ff (fun _ _ => 0) (fun _ _ => none), [(fq, .inl (cs 12, fc, .inr (.inr (.inr (.inr fg)))))], P]) (fun ps => ∃ (own' : Bool) (lq' : Nat) (lc' : Nat) (lf' : Nat → Int32) (lg' : Nat → Option Nat), (ps.1 = [wd_Nam cs hn rn no nf na ng, wd_Lst cs (rn 0) (fun _ => 0) (fun k => if k = 0 then (some lq') else none) lf' (fun _ _ => 0) (fun _ _ => none), lA cs own' lq' lc' lg', wd_Lst cs (rn 1) (fun _ => 0) (fun k => if k = 0 then (some fq) else none) ff (fun _ _ => 0) (fun _ _ => none), [(fq, .inl (cs 12, fc, .inr (.inr (.inr (.inr fg)))))], P]) ∧ (NmI em P own' (lf' 1) (ff 1) (nf 3) (nf 4) lq' lc' fc lg' fg) ∧ ((lf' 1).toInt = (lf 1).toInt + 1) ∧ ((ff 1).toInt = (ff 1).toInt) ∧ ((nf 3).toInt = (nf 3).toInt) ∧ ((nf 4).toInt = (nf 4).toInt) ∧ ((lc : Int) ≤ (lc' : Int)) ∧ ((lc' : Int) ≤ 2 * (lc : Int) + 10) ∧ (Lcap lc (lf 1) lc') ∧ (ps.2.1 ≤ 1) ∧ ((ps.2.1 : Int) ≤ (lc' : Int) - (lc : Int)) ∧ ((ps.2.2 : Int) ≤ 4 * ((lc' : Int) - (lc : Int)))) := by
  refine pg_enter (by decide) (Nat.le_of_ble_eq_true rfl) ?_
  intro p e s m below meth c A ls hAe S hr hlk hnm hA hT hX hw hl
  replace hl : lv_has ls 2 [(0, .ref hn), (1, .ref fa)] := hl
  have hX : (fun A U H => (oE A em U H) ∧ (va_Mi "[Ljava/lang/Object;" mi U)) A s s.heap := by rw [hAe]; exact hX
  obtain ⟨hE, hM⟩ := hX
  obtain ⟨⟨hown, ⟨n1, n2, n3⟩, hEl, ⟨n4, n5, n6⟩, hEf⟩, hne, hnt, ⟨hfc, hlb, hfb⟩, ⟨hw0, hw1⟩, hsc, hEg, hk10⟩ := hinv0
  have hlc0 : lc = 0 := hown rfl
  have hle0 : lq = em := hne rfl
  rw [← hle0] at hE
  refine lv_aload_n S.x S.b d_Nam_add_0 rfl (lv_at hl 0 rfl) ?_
  refine px_get S k_Nam hT hw 0 0 0 (v := .ref (rn 0)) rfl rfl rfl (by decide) m2_75 d_Nam_add_1 ?_
  refine lv_aload_n S.x S.b d_Nam_add_4 rfl (lv_at hl 1 rfl) ?_
  have hw : pw D A s.heap _ _ [wd_Nam cs hn rn no nf na ng, [], wd_Lst cs (rn 1) (fun _ => 0) (fun k => if k = 0 then (some fq) else none) ff (fun _ _ => 0) (fun _ _ => none), [(fq, .inl (cs 12, fc, .inr (.inr (.inr (.inr fg)))))], wd_Lst cs (rn 0) (fun _ => 0) (fun k => if k = 0 then (some lq) else none) lf (fun _ _ => 0) (fun _ _ => none), P] := hw.sub [0, 2, 3, 4, 1, 5] rfl rfl
  refine pg_calli (pr := [wd_Nam cs hn rn no nf na ng, [], wd_Lst cs (rn 1) (fun _ => 0) (fun k => if k = 0 then (some fq) else none) ff (fun _ _ => 0) (fun _ _ => none), [(fq, .inl (cs 12, fc, .inr (.inr (.inr (.inr fg)))))]]) (px_runV (As := [.ref fa]) (rest := []) S (c_al_add_F l D cs lq mi (rn 0) lq lf P  fa (show (lf 1).toInt = 0 from by first | exact oz_9c169c9c0a n2 hlc0 n1 | omega) rfl (by first | assumption | exact sy_none | exact fy_none | exact Fy.sy (by assumption) | exact sy_some (by assumption)) _ _) hT (pr := [wd_Nam cs hn rn no nf na ng, [], wd_Lst cs (rn 1) (fun _ => 0) (fun k => if k = 0 then (some fq) else none) ff (fun _ _ => 0) (fun _ _ => none), [(fq, .inl (cs 12, fc, .inr (.inr (.inr (.inr fg)))))]]) (pcs := [wd_Lst cs (rn 0) (fun _ => 0) (fun k => if k = 0 then (some lq) else none) lf (fun _ _ => 0) (fun _ _ => none), P]) hw (px_X.tot (oX_call (P := (fun A U H => (oE A lq U H) ∧ (va_Mi "[Ljava/lang/Object;" mi U))) (pr := [wd_Nam cs hn rn no nf na ng, [], wd_Lst cs (rn 1) (fun _ => 0) (fun k => if k = 0 then (some fq) else none) ff (fun _ _ => 0) (fun _ _ => none), [(fq, .inl (cs 12, fc, .inr (.inr (.inr (.inr fg)))))]]) (oG_and oG_E oG_M) hw hA ⟨hE, hM⟩)) (px_recv hT hw 4 0 rfl rfl rfl) m2_9 m2_6 m2_7 m2_8 m1_10 q_Lst_add2 ⟨Nat.le_of_ble_eq_true rfl, Nat.le_of_ble_eq_true rfl⟩ hl.1 rfl (Nat.le_of_ble_eq_true rfl) d_Nam_add_5 ⟨show 0 + (1) ≤ 1 from by omega, show 0 + (40) ≤ (4 * lc + 40) from (by first | exact oz_dc374f0120 | omega)⟩) hw hA (fun v6 p5 k7 n8 H locs hp5 hw => ?_)
  dsimp only at hp5
  obtain ⟨lq1, lc2, lf3, lg4, rfl, e9, e10, e11, e12, e13, e14, e15, e16, e17, e18⟩ := hp5
  replace e9 : (lf3 1).toInt = (lf 1).toInt + 1 := e9
  replace e10 : (lf3 1).toInt ≤ (lc2 : Int) := e10
  replace e11 : AddL (lf 1) (fun _ => none) lg4 fa := e11
  replace e12 : (0 : Int) ≤ (lc2 : Int) := e12
  replace e13 : (lc2 : Int) ≤ 2 * (0 : Int) + 10 := e13
  replace e14 : 10 ≤ lc2 := e14
  replace e15 : Lcap 0 (lf 1) lc2 := e15
  replace e16 : k7 ≤ 1 := e16
  replace e17 : (k7 : Int) ≤ (lc2 : Int) - (0 : Int) := e17
  replace e18 : (n8 : Int) ≤ 4 * ((lc2 : Int) - (0 : Int)) := e18
  replace hw : pw D A s.heap H locs [wd_Nam cs hn rn no nf na ng, [], wd_Lst cs (rn 1) (fun _ => 0) (fun k => if k = 0 then (some fq) else none) ff (fun _ _ => 0) (fun _ _ => none), [(fq, .inl (cs 12, fc, .inr (.inr (.inr (.inr fg)))))], wd_Lst cs (rn 0) (fun _ => 0) (fun k => if k = 0 then (some lq1) else none) lf3 (fun _ _ => 0) (fun _ _ => none), [(lq1, .inl (cs 12, lc2, .inr (.inr (.inr (.inr lg4)))))], P] := hw
  have lv6 := Int32.le_toInt v6
  have uv6 := Int32.toInt_lt v6
  have hlcb := Lcap.le (B := 5000) (by assumption) (by omega) (by omega)
  have hels := AddL.els (n' := (lf3 1)) (by assumption) (els_0 (by omega)) hsy (by omega)
  refine lv_pop S.x S.b d_Nam_add_8 rfl ?_
  have hw : pw D A s.heap _ _ [wd_Nam cs hn rn no nf na ng, wd_Lst cs (rn 0) (fun _ => 0) (fun k => if k = 0 then (some lq1) else none) lf3 (fun _ _ => 0) (fun _ _ => none), [(lq1, .inl (cs 12, lc2, .inr (.inr (.inr (.inr lg4)))))], wd_Lst cs (rn 1) (fun _ => 0) (fun k => if k = 0 then (some fq) else none) ff (fun _ _ => 0) (fun _ _ => none), [(fq, .inl (cs 12, fc, .inr (.inr (.inr (.inr fg)))))], P] := hw.sub [0, 4, 5, 2, 3, 6] rfl rfl
  exact pg_vret S hr hlk hAe hw (show (0 + k7) ≤ 1 from by first | exact oz_0ee4199d15 e16 | omega) (show (0 + n8) ≤ (4 * lc + 40) from by first | exact oz_28c98d5d65 e18 e13 | omega) (⟨true, lq1, lc2, lf3, lg4, rfl, (show NmI em P true (lf3 1) (ff 1) (nf 3) (nf 4) lq1 lc2 fc lg4 fg from ⟨⟨(by first | assumption | exact fun h => absurd h (by decide) | exact fun _ => rfl), ⟨by first | exact oz_ae613611c0 e9 n1 | omega, by first | exact e10 | omega, by first | exact oz_fbfa855060 e13 | omega⟩, (by first | exact hEl | exact hEl.less (by omega) | exact hels), ⟨by first | exact n4 | omega, by first | exact n5 | omega, by first | exact n6 | omega⟩, (by first | exact hEf | exact hEf.less (by omega) | exact helf)⟩, (by first | assumption | exact fun h => absurd h (by decide)), (by first | assumption | exact fun h => absurd h (by decide) | exact fun _ => (by omega)), ⟨by first | exact hfc | omega, by first | exact oz_52ec965126 e13 | omega, by first | exact hfb | omega⟩, ⟨by first | exact hw0 | omega, by first | exact hw1 | omega⟩, by first | exact hsc | omega, (by first | exact hEg | exact hEg.less (by omega) | exact helg), by first | exact hk10 | omega⟩), (show (lf3 1).toInt = (lf 1).toInt + 1 from by first | exact e9 | omega), (show (ff 1).toInt = (ff 1).toInt from rfl), (show (nf 3).toInt = (nf 3).toInt from rfl), (show (nf 4).toInt = (nf 4).toInt from rfl), (show (lc : Int) ≤ (lc2 : Int) from by first | exact oz_5445c3eef8 hlc0 | omega), (show (lc2 : Int) ≤ 2 * (lc : Int) + 10 from by first | exact oz_26b38205ea e13 | omega), (show Lcap lc (lf 1) lc2 from (by first | assumption | exact Or.inl rfl | exact Or.inr (by omega) | (rw [hlc0]; assumption))), (show (0 + k7) ≤ 1 from by first | exact oz_0ee4199d15 e16 | omega), (show ((0 + k7) : Int) ≤ (lc2 : Int) - (lc : Int) from by first | exact oz_6d21eeac4a hlc0 e14 e16 | omega), (show ((0 + n8) : Int) ≤ 4 * ((lc2 : Int) - (lc : Int)) from by first | exact oz_e068631d73 hlc0 e18 | omega)⟩) d_Nam_add_9
set_option maxHeartbeats 4000000 in
set_option maxRecDepth 100000 in
theorem c_nw_add (l : Launch) (D : va_G) (cs : Nat → ClassId) (em : Nat) (mi : Nat) (hn : Nat) (rn : Nat → Nat) (no : Nat → Option Nat) (ng : Nat → Nat → Option Nat) (nf : Nat → Int32) (na : Nat → Nat → Int32) (fq : Nat) (fc : Nat) (ff : Nat → Int32) (fg : Nat → Option Nat) (P : va_W) (own : Bool) (lq : Nat) (lc : Nat) (lf : Nat → Int32) (lg : Nat → Option Nat) (fa : Nat) (hinv0 : NmI em P own (lf 1) (ff 1) (nf 3) (nf 4) lq lc fc lg fg) (g0 : (lf 1).toInt ≤ 2400) (hsy : Sy P (some fa)) : MgV l y_Nam_add b_Nam_add 2 D cs 7 470 (1) ((4 * lc + 40)) [.ref hn, .ref fa] [wd_Nam cs hn rn no nf na ng, wd_Lst cs (rn 0) (fun _ => 0) (fun k => if k = 0 then (some lq) else none) lf (fun _ _ => 0) (fun _ _ => none), lA cs own lq lc lg, wd_Lst cs (rn 1) (fun _ => 0) (fun k => if k = 0 then (some fq) else none) ff (fun _ _ => 0) (fun _ _ => none), [(fq, .inl (cs 12, fc, .inr (.inr (.inr (.inr fg)))))], P] (oX (fun A U H => (oE A em U H) ∧ (va_Mi "[Ljava/lang/Object;" mi U)) [wd_Nam cs hn rn no nf na ng, wd_Lst cs (rn 0) (fun _ => 0) (fun k => if k = 0 then (some lq) else none) lf (fun _ _ => 0) (fun _ _ => none), lA cs own lq lc lg, wd_Lst cs (rn 1) (fun _ => 0) (fun k => if k = 0 then (some fq) else none) ff (fun _ _ => 0) (fun _ _ => none), [(fq, .inl (cs 12, fc, .inr (.inr (.inr (.inr fg)))))], P]) (fun ps => ∃ (own' : Bool) (lq' : Nat) (lc' : Nat) (lf' : Nat → Int32) (lg' : Nat → Option Nat), (ps.1 = [wd_Nam cs hn rn no nf na ng, wd_Lst cs (rn 0) (fun _ => 0) (fun k => if k = 0 then (some lq') else none) lf' (fun _ _ => 0) (fun _ _ => none), lA cs own' lq' lc' lg', wd_Lst cs (rn 1) (fun _ => 0) (fun k => if k = 0 then (some fq) else none) ff (fun _ _ => 0) (fun _ _ => none), [(fq, .inl (cs 12, fc, .inr (.inr (.inr (.inr fg)))))], P]) ∧ (NmI em P own' (lf' 1) (ff 1) (nf 3) (nf 4) lq' lc' fc lg' fg) ∧ ((lf' 1).toInt = (lf 1).toInt + 1) ∧ ((ff 1).toInt = (ff 1).toInt) ∧ ((nf 3).toInt = (nf 3).toInt) ∧ ((nf 4).toInt = (nf 4).toInt) ∧ ((lc : Int) ≤ (lc' : Int)) ∧ ((lc' : Int) ≤ 2 * (lc : Int) + 10) ∧ (Lcap lc (lf 1) lc') ∧ (ps.2.1 ≤ 1) ∧ ((ps.2.1 : Int) ≤ (lc' : Int) - (lc : Int)) ∧ ((ps.2.2 : Int) ≤ 4 * ((lc' : Int) - (lc : Int)))) := by
  cases own with
  | true => exact c_nw_add_T l D cs em mi hn rn no ng nf na fq fc ff fg P lq lc lf lg fa hinv0 g0 hsy
  | false => exact c_nw_add_F l D cs em mi hn rn no ng nf na fq fc ff fg P lq lc lf lg fa hinv0 g0 hsy
set_option maxHeartbeats 4000000 in
set_option maxRecDepth 100000 in
theorem c_ls_size2 (l : Launch) (D : va_G) (cs : Nat → ClassId) (hl0 : Nat) (lq : Nat) (lc : Nat) (lf : Nat → Int32) (lg : Nat → Option Nat)   : MetI l y_Lst_size b_Lst_size 1 (.int) D cs 0 0 (0) (0) [.ref hl0] [wd_Lst cs hl0 (fun _ => 0) (fun k => if k = 0 then (some lq) else none) lf (fun _ _ => 0) (fun _ _ => none), [(lq, .inl (cs 12, lc, .inr (.inr (.inr (.inr lg)))))]] (fun _ => True) (fun v ps => (ps = [wd_Lst cs hl0 (fun _ => 0) (fun k => if k = 0 then (some lq) else none) lf (fun _ _ => 0) (fun _ _ => none), [(lq, .inl (cs 12, lc, .inr (.inr (.inr (.inr lg)))))]]) ∧ (v.toInt = (lf 1).toInt)) := by
  refine px_enter (by decide) (Nat.le_of_ble_eq_true rfl) ?_
  intro p e s m below meth c A ls hAe S hr hlk hnm hA hT hX hw hl
  replace hl : lv_has ls 1 [(0, .ref hl0)] := hl
  refine lv_aload_n S.x S.b d_Lst_size_0 rfl (lv_at hl 0 rfl) ?_
  refine px_get S k_Lst hT hw 0 0 1 (v := .int (lf 1)) rfl rfl rfl (by decide) m1_189 d_Lst_size_1 ?_
  exact px_iret (v := (lf 1)) S hr rfl hlk hAe hw (Nat.le_of_ble_eq_true rfl) (Nat.le_of_ble_eq_true rfl) (⟨rfl, (show (lf 1).toInt = (lf 1).toInt from rfl)⟩) d_Lst_size_4
set_option maxHeartbeats 4000000 in
set_option maxRecDepth 100000 in
theorem c_lr_fastRemove (l : Launch) (D : va_G) (cs : Nat → ClassId) (hl0 : Nat) (lq : Nat) (lc : Nat) (lf : Nat → Int32) (lg : Nat → Option Nat) (p0 : Int32)  (g0 : lc ≤ 1000000) (g1 : 0 ≤ (lf 1).toInt) (g2 : (lf 1).toInt ≤ (lc : Int)) (g3 : 0 ≤ p0.toInt) (g4 : p0.toInt = (lf 1).toInt - 1) : MetV l y_Lst_fastRemove b_Lst_fastRemove 4 D cs 0 0 (0) (0) [.ref hl0, .ref lq, .int p0] [wd_Lst cs hl0 (fun _ => 0) (fun k => if k = 0 then (some lq) else none) lf (fun _ _ => 0) (fun _ _ => none), [(lq, .inl (cs 12, lc, .inr (.inr (.inr (.inr lg)))))]] (fun _ => True) (fun ps => ∃ (lf' : Nat → Int32) (lg' : Nat → Option Nat), (ps = [wd_Lst cs hl0 (fun _ => 0) (fun k => if k = 0 then (some lq) else none) lf' (fun _ _ => 0) (fun _ _ => none), [(lq, .inl (cs 12, lc, .inr (.inr (.inr (.inr lg')))))]]) ∧ ((lf' 1).toInt = (lf 1).toInt - 1) ∧ (KeepL (lf' 1) lg lg')) := by
  refine px_enter (by decide) (Nat.le_of_ble_eq_true rfl) ?_
  intro p e s m below meth c A ls hAe S hr hlk hnm hA hT hX hw hl
  replace hl : lv_has ls 4 [(0, .ref hl0), (1, .ref lq), (2, .int p0)] := hl
  have lp0 := Int32.le_toInt p0
  have up0 := Int32.toInt_lt p0
  have cst1 : (1 : Int32).toInt = 1 := rfl
  refine lv_aload_n S.x S.b d_Lst_fastRemove_0 rfl (lv_at hl 0 rfl) ?_
  refine lv_dup S.x S.b d_Lst_fastRemove_1 rfl ?_
  refine px_getS S k_Lst hT hw 0 0 2 (v := .int (lf 2)) rfl rfl rfl (by decide) m1_191 m1_192 d_Lst_fastRemove_2 ?_
  refine lv_iconst (v := 1) S.x S.b d_Lst_fastRemove_5 (by decide) ?_
  refine lv_iadd S.x S.b d_Lst_fastRemove_6 ?_
  have lr1 := Int32.le_toInt (lf 2)
  have ur1 := Int32.toInt_lt (lf 2)
  refine lv_topi (fun z2 ez2 => ?_)
  have tz2 : z2.toInt = ((lf 2).toInt + (1 : Int) + 2147483648) % 4294967296 - 2147483648 := by rw [ez2]; exact i_add (lf 2) 1
  have lz2 := Int32.le_toInt z2
  have uz2 := Int32.toInt_lt z2
  try replace tz2 : z2.toInt = (lf 2).toInt + (1 : Int) := by omega
  refine px_putS S k_Lst hT hw 0 0 2 rfl rfl (by decide) m1_191 m1_192 rfl rfl rfl (Nat.le_of_ble_eq_true rfl) d_Lst_fastRemove_7 (w' := wd_Lst cs hl0 (fun _ => 0) (fun k => if k = 0 then (some lq) else none) (upd lf 2 z2) (fun _ _ => 0) (fun _ _ => none)) (ps' := [wd_Lst cs hl0 (fun _ => 0) (fun k => if k = 0 then (some lq) else none) (upd lf 2 z2) (fun _ _ => 0) (fun _ _ => none), [(lq, .inl (cs 12, lc, .inr (.inr (.inr (.inr lg)))))]]) rfl rfl (fun H locs hw => ?_)
  refine lv_aload_n S.x S.b d_Lst_fastRemove_10 rfl (lv_at hl 0 rfl) ?_
  refine px_get S k_Lst hT hw 0 0 1 (v := .int (lf 1)) rfl rfl rfl (by decide) m1_189 d_Lst_fastRemove_11 ?_
  refine lv_iconst (v := 1) S.x S.b d_Lst_fastRemove_14 (by decide) ?_
  refine lv_isub S.x S.b d_Lst_fastRemove_15 ?_
  have lr3 := Int32.le_toInt (lf 1)
  have ur3 := Int32.toInt_lt (lf 1)
  refine lv_topi (fun z4 ez4 => ?_)
  have tz4 : z4.toInt = ((lf 1).toInt - (1 : Int) + 2147483648) % 4294967296 - 2147483648 := by rw [ez4]; exact i_sub (lf 1) 1
  have lz4 := Int32.le_toInt z4
  have uz4 := Int32.toInt_lt z4
  try replace tz4 : z4.toInt = (lf 1).toInt - (1 : Int) := by omega
  refine lv_dup S.x S.b d_Lst_fastRemove_16 rfl ?_
  refine lv_istore_n (lv' := [(3, .int z4), (0, .ref hl0), (1, .ref lq), (2, .int p0)]) S.x S.b d_Lst_fastRemove_17 rfl hl (by decide) rfl (fun ls hl => ?_)
  refine lv_iload_n S.x S.b d_Lst_fastRemove_18 rfl (lv_at hl 3 rfl) ?_
  refine lv_icmp_le (tgt := 34) S.x S.b d_Lst_fastRemove_19 (by decide) (fun c5 => ?_) (fun c5 => ?_)
  · have nc5 : z4.toInt ≤ p0.toInt := (i_le (x := z4) (y := p0)).mp c5
    refine lv_aload_n S.x S.b d_Lst_fastRemove_34 rfl (lv_at hl 2 rfl) ?_
    refine lv_aload_n S.x S.b d_Lst_fastRemove_35 rfl (lv_at hl 1 rfl) ?_
    refine lv_iload_n S.x S.b d_Lst_fastRemove_36 rfl (lv_at hl 0 rfl) ?_
    refine lv_dup_x1 S.x S.b d_Lst_fastRemove_37 rfl rfl ?_
    refine px_put S k_Lst hT hw 0 0 1 rfl rfl (by decide) m1_189 rfl rfl rfl (Nat.le_of_ble_eq_true rfl) d_Lst_fastRemove_38 (w' := wd_Lst cs hl0 (fun _ => 0) (fun k => if k = 0 then (some lq) else none) (upd (upd lf 1 z4) 2 z2) (fun _ _ => 0) (fun _ _ => none)) (ps' := [wd_Lst cs hl0 (fun _ => 0) (fun k => if k = 0 then (some lq) else none) (upd (upd lf 1 z4) 2 z2) (fun _ _ => 0) (fun _ _ => none), [(lq, .inl (cs 12, lc, .inr (.inr (.inr (.inr lg)))))]]) rfl rfl (fun H locs hw => ?_)
    refine lv_null S.x S.b d_Lst_fastRemove_41 ?_
    refine px_aastN S hT hw 1 0 12 (n := lc) (f := lg) rfl rfl rfl (x := z4) (vp_in_iff.mpr (by constructor <;> omega)) d_Lst_fastRemove_42 (w' := [(lq, .inl (cs 12, lc, .inr (.inr (.inr (.inr (va_up lg z4.toNatClampNeg none))))))]) (ps' := [wd_Lst cs hl0 (fun _ => 0) (fun k => if k = 0 then (some lq) else none) (upd (upd lf 1 z4) 2 z2) (fun _ _ => 0) (fun _ _ => none), [(lq, .inl (cs 12, lc, .inr (.inr (.inr (.inr (va_up lg z4.toNatClampNeg none))))))]]) rfl rfl (fun H locs hw => ?_)
    exact px_vret S hr hlk hAe hw (Nat.le_of_ble_eq_true rfl) (Nat.le_of_ble_eq_true rfl) (⟨(upd (upd lf 1 z4) 2 z2), (va_up lg z4.toNatClampNeg none), rfl, (show z4.toInt = (lf 1).toInt - 1 from by first | exact oz_cfe616fd96 tz4 | omega), (show KeepL z4 lg (va_up lg z4.toNatClampNeg none) from (by first | assumption | exact keepl_up (by omega) (by omega) | exact fun _ _ => rfl))⟩) d_Lst_fastRemove_43
  · have nc5 : ¬ z4.toInt ≤ p0.toInt := mt (i_le (x := z4) (y := p0)).mpr c5
    refine lv_aload_n S.x S.b d_Lst_fastRemove_22 rfl (lv_at hl 2 rfl) ?_
    refine lv_iload_n S.x S.b d_Lst_fastRemove_23 rfl (lv_at hl 3 rfl) ?_
    refine lv_iconst (v := 1) S.x S.b d_Lst_fastRemove_24 (by decide) ?_
    refine lv_iadd S.x S.b d_Lst_fastRemove_25 ?_
    refine lv_topi (fun z6 ez6 => ?_)
    have tz6 : z6.toInt = (p0.toInt + (1 : Int) + 2147483648) % 4294967296 - 2147483648 := by rw [ez6]; exact i_add p0 1
    have lz6 := Int32.le_toInt z6
    have uz6 := Int32.toInt_lt z6
    try replace tz6 : z6.toInt = p0.toInt + (1 : Int) := by first | exact oz_202bf8b9d2 g4 nc5 tz4 | omega
    refine lv_aload_n S.x S.b d_Lst_fastRemove_26 rfl (lv_at hl 2 rfl) ?_
    refine lv_iload_n S.x S.b d_Lst_fastRemove_27 rfl (lv_at hl 3 rfl) ?_
    refine lv_iload_n S.x S.b d_Lst_fastRemove_28 rfl (lv_at hl 0 rfl) ?_
    refine lv_iload_n S.x S.b d_Lst_fastRemove_29 rfl (lv_at hl 3 rfl) ?_
    refine lv_isub S.x S.b d_Lst_fastRemove_30 ?_
    refine lv_topi (fun z7 ez7 => ?_)
    have tz7 : z7.toInt = (z4.toInt - p0.toInt + 2147483648) % 4294967296 - 2147483648 := by rw [ez7]; exact i_sub z4 p0
    have lz7 := Int32.le_toInt z7
    have uz7 := Int32.toInt_lt z7
    try replace tz7 : z7.toInt = z4.toInt - p0.toInt := by first | exact oz_54599d90db g4 tz4 nc5 | omega
    exfalso
    omega
set_option maxHeartbeats 4000000 in
set_option maxRecDepth 100000 in
theorem c_lr_remove (l : Launch) (D : va_G) (cs : Nat → ClassId) (hl0 : Nat) (lq : Nat) (lc : Nat) (lf : Nat → Int32) (lg : Nat → Option Nat) (p0 : Int32)  (g0 : lc ≤ 1000000) (g1 : 0 ≤ (lf 1).toInt) (g2 : (lf 1).toInt ≤ (lc : Int)) (g3 : 0 ≤ p0.toInt) (g4 : p0.toInt = (lf 1).toInt - 1) : MetR l y_Lst_remove b_Lst_remove 4 (.object "java/lang/Object") D cs 2 60 (0) (0) [.ref hl0, .int p0] [wd_Lst cs hl0 (fun _ => 0) (fun k => if k = 0 then (some lq) else none) lf (fun _ _ => 0) (fun _ _ => none), [(lq, .inl (cs 12, lc, .inr (.inr (.inr (.inr lg)))))]] (fun _ => True) (fun v ps => ∃ (lf' : Nat → Int32) (lg' : Nat → Option Nat), (ps = [wd_Lst cs hl0 (fun _ => 0) (fun k => if k = 0 then (some lq) else none) lf' (fun _ _ => 0) (fun _ _ => none), [(lq, .inl (cs 12, lc, .inr (.inr (.inr (.inr lg')))))]]) ∧ ((lf' 1).toInt = (lf 1).toInt - 1) ∧ (KeepL (lf' 1) lg lg')) := by
  refine px_enter (by decide) (Nat.le_of_ble_eq_true rfl) ?_
  intro p e s m below meth c A ls hAe S hr hlk hnm hA hT hX hw hl
  replace hl : lv_has ls 4 [(0, .ref hl0), (1, .int p0)] := hl
  have lp0 := Int32.le_toInt p0
  have up0 := Int32.toInt_lt p0
  refine lv_iload_n S.x S.b d_Lst_remove_0 rfl (lv_at hl 1 rfl) ?_
  refine lv_aload_n S.x S.b d_Lst_remove_1 rfl (lv_at hl 0 rfl) ?_
  refine px_get S k_Lst hT hw 0 0 1 (v := .int (lf 1)) rfl rfl rfl (by decide) m1_189 d_Lst_remove_2 ?_
  refine px_calli (pr := [wd_Lst cs hl0 (fun _ => 0) (fun k => if k = 0 then (some lq) else none) lf (fun _ _ => 0) (fun _ _ => none), [(lq, .inl (cs 12, lc, .inr (.inr (.inr (.inr lg)))))]]) (px_runS (As := [.int p0, .int (lf 1)]) (rest := []) S (c_Objects_checkIndex l D cs  p0 (lf 1)  (show 0 ≤ p0.toInt from by first | exact g3 | omega) (show p0.toInt < (lf 1).toInt from by first | exact oz_77ad2ce5bd g4 | omega) _) hT (pr := [wd_Lst cs hl0 (fun _ => 0) (fun k => if k = 0 then (some lq) else none) lf (fun _ _ => 0) (fun _ _ => none), [(lq, .inl (cs 12, lc, .inr (.inr (.inr (.inr lg)))))]]) (pcs := []) hw px_X.tt m4_82 m4_80 m4_81 m1_30 q_Objects_checkIndex ⟨Nat.le_of_ble_eq_true rfl, Nat.le_of_ble_eq_true rfl⟩ hl.1 rfl (Nat.le_of_ble_eq_true rfl) d_Lst_remove_5 ⟨Nat.le_of_ble_eq_true rfl, Nat.le_of_ble_eq_true rfl⟩) hw hA (fun v2 p1 H locs hp1 hw => ?_)
  subst hp1
  replace hw : pw D A s.heap H locs [wd_Lst cs hl0 (fun _ => 0) (fun k => if k = 0 then (some lq) else none) lf (fun _ _ => 0) (fun _ _ => none), [(lq, .inl (cs 12, lc, .inr (.inr (.inr (.inr lg)))))]] := hw
  have lv2 := Int32.le_toInt v2
  have uv2 := Int32.toInt_lt v2
  refine lv_pop S.x S.b d_Lst_remove_8 rfl ?_
  refine lv_aload_n S.x S.b d_Lst_remove_9 rfl (lv_at hl 0 rfl) ?_
  refine px_get S k_Lst hT hw 0 0 0 (v := .ref lq) rfl rfl rfl (by decide) m1_188 d_Lst_remove_10 ?_
  refine lv_astore_n (lv' := [(2, .ref lq), (0, .ref hl0), (1, .int p0)]) S.x S.b d_Lst_remove_13 rfl hl (by decide) rfl (fun ls hl => ?_)
  refine lv_aload_n S.x S.b d_Lst_remove_14 rfl (lv_at hl 0 rfl) ?_
  refine lv_iload_n S.x S.b d_Lst_remove_15 rfl (lv_at hl 2 rfl) ?_
  refine px_aald S hT hw 1 0 12 (n := lc) (f := lg) rfl rfl rfl (x := p0) (vp_in_iff.mpr (by constructor <;> omega)) d_Lst_remove_16 ?_
  refine lq_astore_n (x := (lg p0.toNatClampNeg)) (lv' := [(3, va_rf (lg p0.toNatClampNeg)), (2, .ref lq), (0, .ref hl0), (1, .int p0)]) S.x S.b d_Lst_remove_17 rfl hl (by decide) rfl (fun ls hl => ?_)
  refine lv_aload_n S.x S.b d_Lst_remove_18 rfl (lv_at hl 2 rfl) ?_
  refine lv_aload_n S.x S.b d_Lst_remove_19 rfl (lv_at hl 1 rfl) ?_
  refine lv_iload_n S.x S.b d_Lst_remove_20 rfl (lv_at hl 3 rfl) ?_
  refine px_callv (pr := []) (px_runV (As := [.ref lq, .int p0]) (rest := []) S (c_lr_fastRemove l D cs hl0 lq lc lf lg p0  (show lc ≤ 1000000 from by first | exact g0 | omega) (show 0 ≤ (lf 1).toInt from by first | exact g1 | omega) (show (lf 1).toInt ≤ (lc : Int) from by first | exact g2 | omega) (show 0 ≤ p0.toInt from by first | exact g3 | omega) (show p0.toInt = (lf 1).toInt - 1 from by first | exact g4 | omega) _) hT (pr := []) (pcs := [wd_Lst cs hl0 (fun _ => 0) (fun k => if k = 0 then (some lq) else none) lf (fun _ _ => 0) (fun _ _ => none), [(lq, .inl (cs 12, lc, .inr (.inr (.inr (.inr lg)))))]]) hw px_X.tt (px_recv hT hw 0 0 rfl rfl rfl) m4_87 m4_84 m4_86 ms_2_4 m1_10 q_Lst_fastRemove ⟨Nat.le_of_ble_eq_true rfl, Nat.le_of_ble_eq_true rfl⟩ hl.1 rfl (Nat.le_of_ble_eq_true rfl) d_Lst_remove_21 ⟨Nat.le_of_ble_eq_true rfl, Nat.le_of_ble_eq_true rfl⟩) hw hA (fun p7 H locs hp7 hw => ?_)
  obtain ⟨lf5, lg6, rfl, e9, e10⟩ := hp7
  replace e9 : (lf5 1).toInt = (lf 1).toInt - 1 := e9
  replace e10 : KeepL (lf5 1) lg lg6 := e10
  replace hw : pw D A s.heap H locs [wd_Lst cs hl0 (fun _ => 0) (fun k => if k = 0 then (some lq) else none) lf5 (fun _ _ => 0) (fun _ _ => none), [(lq, .inl (cs 12, lc, .inr (.inr (.inr (.inr lg6)))))]] := hw
  refine lq_aload_n (x := (lg p0.toNatClampNeg)) S.x S.b d_Lst_remove_24 rfl (lv_at hl 0 rfl) ?_
  exact px_aret (v := (lg p0.toNatClampNeg)) S hr (Or.inl ⟨_, rfl⟩) hlk hAe hw (Nat.le_of_ble_eq_true rfl) (Nat.le_of_ble_eq_true rfl) (⟨lf5, lg6, rfl, (show (lf5 1).toInt = (lf 1).toInt - 1 from by first | exact e9 | omega), (show KeepL (lf5 1) lg lg6 from (by first | assumption | exact keepl_up (by omega) (by omega) | exact fun _ _ => rfl))⟩) d_Lst_remove_25
abbrev b_Nam_clear : ByteArray := prog_5_method_3_code
def y_Nam_clear : MethodName := ⟨"HomeSystem$Names", "clear", "()V"⟩
theorem d_Nam_clear_0 : decode b_Nam_clear 0 = .ok (.aload_n 0, 1) := by decide +kernel
theorem d_Nam_clear_1 : decode b_Nam_clear 1 = .ok (.getfield 12, 3) := by decide +kernel
theorem d_Nam_clear_4 : decode b_Nam_clear 4 = .ok (.invokevirtual 66, 3) := by decide +kernel
theorem d_Nam_clear_7 : decode b_Nam_clear 7 = .ok (.aload_n 0, 1) := by decide +kernel
theorem d_Nam_clear_8 : decode b_Nam_clear 8 = .ok (.iconst 0, 1) := by decide +kernel
theorem d_Nam_clear_9 : decode b_Nam_clear 9 = .ok (.putfield 69, 3) := by decide +kernel
theorem d_Nam_clear_12 : decode b_Nam_clear 12 = .ok (.return_, 1) := by decide +kernel
theorem q_Nam_clear : px_y y_Nam_clear 0 := by unfold px_y; decide +kernel
set_option maxHeartbeats 4000000 in
set_option maxRecDepth 100000 in
theorem c_nw_clear_T (l : Launch) (D : va_G) (cs : Nat → ClassId) (em : Nat) (hn : Nat) (rn : Nat → Nat) (no : Nat → Option Nat) (ng : Nat → Nat → Option Nat) (na : Nat → Nat → Int32) (lq : Nat) (lc : Nat) (fq : Nat) (fc : Nat) (ff : Nat → Int32) (fg : Nat → Option Nat) (P : va_W) (nf : Nat → Int32) (lf : Nat → Int32) (lg : Nat → Option Nat)  (hinv0 : NmI em P true (lf 1) (ff 1) (nf 3) (nf 4) lq lc fc lg fg) : MetV l y_Nam_clear b_Nam_clear 1 D cs 1 40 (0) (0) [.ref hn] [wd_Nam cs hn rn no nf na ng, wd_Lst cs (rn 0) (fun _ => 0) (fun k => if k = 0 then (some lq) else none) lf (fun _ _ => 0) (fun _ _ => none), [(lq, .inl (cs 12, lc, .inr (.inr (.inr (.inr lg)))))], wd_Lst cs (rn 1) (fun _ => 0) (fun k => if k = 0 then (some fq) else none) ff (fun _ _ => 0) (fun _ _ => none), [(fq, .inl (cs 12, fc, .inr (.inr (.inr (.inr fg)))))], P] (fun _ => True) (fun ps => ∃ (nf' : Nat → Int32) (lf' : Nat → Int32) (lg' : Nat → Option Nat), (ps = [wd_Nam cs hn rn no nf' na ng, wd_Lst cs (rn 0) (fun _ => 0) (fun k => if k = 0 then (some lq) else none) lf' (fun _ _ => 0) (fun _ _ => none), [(lq, .inl (cs 12, lc, .inr (.inr (.inr (.inr lg')))))], wd_Lst cs (rn 1) (fun _ => 0) (fun k => if k = 0 then (some fq) else none) ff (fun _ _ => 0) (fun _ _ => none), [(fq, .inl (cs 12, fc, .inr (.inr (.inr (.inr fg)))))], P]) ∧ (NmI em P true (lf' 1) (ff 1) (nf' 3) (nf' 4) lq lc fc lg' fg) ∧ ((lf' 1).toInt = 0) ∧ ((ff 1).toInt = (ff 1).toInt) ∧ ((nf' 3).toInt = (nf 3).toInt) ∧ ((nf' 4).toInt = 0)) := by
  refine px_enter (by decide) (Nat.le_of_ble_eq_true rfl) ?_
  intro p e s m below meth c A ls hAe S hr hlk hnm hA hT hX hw hl
  replace hl : lv_has ls 1 [(0, .ref hn)] := hl
  have cst0 : (0 : Int32).toInt = 0 := rfl
  obtain ⟨⟨hown, ⟨n1, n2, n3⟩, hEl, ⟨n4, n5, n6⟩, hEf⟩, hne, hnt, ⟨hfc, hlb, hfb⟩, ⟨hw0, hw1⟩, hsc, hEg, hk10⟩ := hinv0
  refine lv_aload_n S.x S.b d_Nam_clear_0 rfl (lv_at hl 0 rfl) ?_
  refine px_get S k_Nam hT hw 0 0 0 (v := .ref (rn 0)) rfl rfl rfl (by decide) m2_75 d_Nam_clear_1 ?_
  have hw : pw D A s.heap _ _ [wd_Nam cs hn rn no nf na ng, wd_Lst cs (rn 1) (fun _ => 0) (fun k => if k = 0 then (some fq) else none) ff (fun _ _ => 0) (fun _ _ => none), [(fq, .inl (cs 12, fc, .inr (.inr (.inr (.inr fg)))))], P, wd_Lst cs (rn 0) (fun _ => 0) (fun k => if k = 0 then (some lq) else none) lf (fun _ _ => 0) (fun _ _ => none), [(lq, .inl (cs 12, lc, .inr (.inr (.inr (.inr lg)))))]] := hw.sub [0, 3, 4, 5, 1, 2] rfl rfl
  refine px_callv (pr := [wd_Nam cs hn rn no nf na ng, wd_Lst cs (rn 1) (fun _ => 0) (fun k => if k = 0 then (some fq) else none) ff (fun _ _ => 0) (fun _ _ => none), [(fq, .inl (cs 12, fc, .inr (.inr (.inr (.inr fg)))))], P]) (px_runV (As := []) (rest := []) S (c_Lst_clear l D cs (rn 0) lq lc lf lg   (show lc ≤ 1000000 from by first | exact n3 | omega) (show 0 ≤ (lf 1).toInt from by first | exact n1 | omega) (show (lf 1).toInt ≤ (lc : Int) from by first | exact n2 | omega) _) hT (pr := [wd_Nam cs hn rn no nf na ng, wd_Lst cs (rn 1) (fun _ => 0) (fun k => if k = 0 then (some fq) else none) ff (fun _ _ => 0) (fun _ _ => none), [(fq, .inl (cs 12, fc, .inr (.inr (.inr (.inr fg)))))], P]) (pcs := [wd_Lst cs (rn 0) (fun _ => 0) (fun k => if k = 0 then (some lq) else none) lf (fun _ _ => 0) (fun _ _ => none), [(lq, .inl (cs 12, lc, .inr (.inr (.inr (.inr lg)))))]]) hw px_X.tt (px_recv hT hw 4 0 rfl rfl rfl) m4_104 m4_101 m4_102 m4_103 m1_10 q_Lst_clear ⟨Nat.le_of_ble_eq_true rfl, Nat.le_of_ble_eq_true rfl⟩ hl.1 rfl (Nat.le_of_ble_eq_true rfl) d_Nam_clear_4 ⟨Nat.le_of_ble_eq_true rfl, Nat.le_of_ble_eq_true rfl⟩) hw hA (fun p3 H locs hp3 hw => ?_)
  obtain ⟨lf1, lg2, rfl, e5⟩ := hp3
  replace e5 : (lf1 1).toInt = 0 := e5
  replace hw : pw D A s.heap H locs [wd_Nam cs hn rn no nf na ng, wd_Lst cs (rn 1) (fun _ => 0) (fun k => if k = 0 then (some fq) else none) ff (fun _ _ => 0) (fun _ _ => none), [(fq, .inl (cs 12, fc, .inr (.inr (.inr (.inr fg)))))], P, wd_Lst cs (rn 0) (fun _ => 0) (fun k => if k = 0 then (some lq) else none) lf1 (fun _ _ => 0) (fun _ _ => none), [(lq, .inl (cs 12, lc, .inr (.inr (.inr (.inr lg2)))))]] := hw
  have hels := els_0 (P := P) (n := (lf1 1)) (g := lg2) (by omega)
  refine lv_aload_n S.x S.b d_Nam_clear_7 rfl (lv_at hl 0 rfl) ?_
  refine lv_iconst (v := 0) S.x S.b d_Nam_clear_8 (by decide) ?_
  refine px_put S k_Nam hT hw 0 0 4 rfl rfl (by decide) m2_79 rfl rfl rfl (Nat.le_of_ble_eq_true rfl) d_Nam_clear_9 (w' := wd_Nam cs hn rn no (upd nf 4 0) na ng) (ps' := [wd_Nam cs hn rn no (upd nf 4 0) na ng, wd_Lst cs (rn 1) (fun _ => 0) (fun k => if k = 0 then (some fq) else none) ff (fun _ _ => 0) (fun _ _ => none), [(fq, .inl (cs 12, fc, .inr (.inr (.inr (.inr fg)))))], P, wd_Lst cs (rn 0) (fun _ => 0) (fun k => if k = 0 then (some lq) else none) lf1 (fun _ _ => 0) (fun _ _ => none), [(lq, .inl (cs 12, lc, .inr (.inr (.inr (.inr lg2)))))]]) rfl rfl (fun H locs hw => ?_)
  have hw : pw D A s.heap _ _ [wd_Nam cs hn rn no (upd nf 4 0) na ng, wd_Lst cs (rn 0) (fun _ => 0) (fun k => if k = 0 then (some lq) else none) lf1 (fun _ _ => 0) (fun _ _ => none), [(lq, .inl (cs 12, lc, .inr (.inr (.inr (.inr lg2)))))], wd_Lst cs (rn 1) (fun _ => 0) (fun k => if k = 0 then (some fq) else none) ff (fun _ _ => 0) (fun _ _ => none), [(fq, .inl (cs 12, fc, .inr (.inr (.inr (.inr fg)))))], P] := hw.sub [0, 4, 5, 1, 2, 3] rfl rfl
  exact px_vret S hr hlk hAe hw (Nat.le_of_ble_eq_true rfl) (Nat.le_of_ble_eq_true rfl) (⟨(upd nf 4 0), lf1, lg2, rfl, (show NmI em P true (lf1 1) (ff 1) (nf 3) 0 lq lc fc lg2 fg from ⟨⟨(by first | assumption | exact fun h => absurd h (by decide) | exact fun _ => rfl), ⟨by first | exact oz_b1de7dbe7e e5 | omega, by first | exact oz_0b0c60c2d3 e5 | omega, by first | exact n3 | omega⟩, (by first | exact hEl | exact hEl.less (by omega) | exact hels), ⟨by first | exact n4 | omega, by first | exact n5 | omega, by first | exact n6 | omega⟩, (by first | exact hEf | exact hEf.less (by omega) | exact helf)⟩, (by first | assumption | exact fun h => absurd h (by decide)), (by first | assumption | exact fun h => absurd h (by decide) | exact fun _ => (by omega)), ⟨by first | exact hfc | omega, by first | exact hlb | omega, by first | exact hfb | omega⟩, ⟨by first | exact hw0 | omega, by first | exact hw1 | omega⟩, by omega, (by first | exact hEg | exact hEg.less (by omega) | exact helg), by first | exact hk10 | omega⟩), (show (lf1 1).toInt = 0 from by first | exact e5 | omega), (show (ff 1).toInt = (ff 1).toInt from rfl), (show (nf 3).toInt = (nf 3).toInt from rfl), (show (0 : Int) = 0 from by first | decide | omega)⟩) d_Nam_clear_12
set_option maxHeartbeats 4000000 in
set_option maxRecDepth 100000 in
theorem c_nw_clear_F (l : Launch) (D : va_G) (cs : Nat → ClassId) (em : Nat) (hn : Nat) (rn : Nat → Nat) (no : Nat → Option Nat) (ng : Nat → Nat → Option Nat) (na : Nat → Nat → Int32) (lq : Nat) (lc : Nat) (fq : Nat) (fc : Nat) (ff : Nat → Int32) (fg : Nat → Option Nat) (P : va_W) (nf : Nat → Int32) (lf : Nat → Int32) (lg : Nat → Option Nat)  (hinv0 : NmI em P false (lf 1) (ff 1) (nf 3) (nf 4) lq lc fc lg fg) : MetV l y_Nam_clear b_Nam_clear 1 D cs 1 40 (0) (0) [.ref hn] [wd_Nam cs hn rn no nf na ng, wd_Lst cs (rn 0) (fun _ => 0) (fun k => if k = 0 then (some lq) else none) lf (fun _ _ => 0) (fun _ _ => none), [], wd_Lst cs (rn 1) (fun _ => 0) (fun k => if k = 0 then (some fq) else none) ff (fun _ _ => 0) (fun _ _ => none), [(fq, .inl (cs 12, fc, .inr (.inr (.inr (.inr fg)))))], P] (fun _ => True) (fun ps => ∃ (nf' : Nat → Int32) (lf' : Nat → Int32) (lg' : Nat → Option Nat), (ps = [wd_Nam cs hn rn no nf' na ng, wd_Lst cs (rn 0) (fun _ => 0) (fun k => if k = 0 then (some lq) else none) lf' (fun _ _ => 0) (fun _ _ => none), [], wd_Lst cs (rn 1) (fun _ => 0) (fun k => if k = 0 then (some fq) else none) ff (fun _ _ => 0) (fun _ _ => none), [(fq, .inl (cs 12, fc, .inr (.inr (.inr (.inr fg)))))], P]) ∧ (NmI em P false (lf' 1) (ff 1) (nf' 3) (nf' 4) lq lc fc lg' fg) ∧ ((lf' 1).toInt = 0) ∧ ((ff 1).toInt = (ff 1).toInt) ∧ ((nf' 3).toInt = (nf 3).toInt) ∧ ((nf' 4).toInt = 0)) := by
  refine px_enter (by decide) (Nat.le_of_ble_eq_true rfl) ?_
  intro p e s m below meth c A ls hAe S hr hlk hnm hA hT hX hw hl
  replace hl : lv_has ls 1 [(0, .ref hn)] := hl
  have cst0 : (0 : Int32).toInt = 0 := rfl
  obtain ⟨⟨hown, ⟨n1, n2, n3⟩, hEl, ⟨n4, n5, n6⟩, hEf⟩, hne, hnt, ⟨hfc, hlb, hfb⟩, ⟨hw0, hw1⟩, hsc, hEg, hk10⟩ := hinv0
  have hlc0 : lc = 0 := hown rfl
  have hle0 : lq = em := hne rfl
  refine lv_aload_n S.x S.b d_Nam_clear_0 rfl (lv_at hl 0 rfl) ?_
  refine px_get S k_Nam hT hw 0 0 0 (v := .ref (rn 0)) rfl rfl rfl (by decide) m2_75 d_Nam_clear_1 ?_
  have hw : pw D A s.heap _ _ [wd_Nam cs hn rn no nf na ng, [], wd_Lst cs (rn 1) (fun _ => 0) (fun k => if k = 0 then (some fq) else none) ff (fun _ _ => 0) (fun _ _ => none), [(fq, .inl (cs 12, fc, .inr (.inr (.inr (.inr fg)))))], P, wd_Lst cs (rn 0) (fun _ => 0) (fun k => if k = 0 then (some lq) else none) lf (fun _ _ => 0) (fun _ _ => none)] := hw.sub [0, 2, 3, 4, 5, 1] rfl rfl
  refine px_callv (pr := [wd_Nam cs hn rn no nf na ng, [], wd_Lst cs (rn 1) (fun _ => 0) (fun k => if k = 0 then (some fq) else none) ff (fun _ _ => 0) (fun _ _ => none), [(fq, .inl (cs 12, fc, .inr (.inr (.inr (.inr fg)))))], P]) (px_runV (As := []) (rest := []) S (c_ls_clear0 l D cs (rn 0) lq lf   (show (lf 1).toInt = 0 from by first | exact oz_9c169c9c0a n2 hlc0 n1 | omega) _) hT (pr := [wd_Nam cs hn rn no nf na ng, [], wd_Lst cs (rn 1) (fun _ => 0) (fun k => if k = 0 then (some fq) else none) ff (fun _ _ => 0) (fun _ _ => none), [(fq, .inl (cs 12, fc, .inr (.inr (.inr (.inr fg)))))], P]) (pcs := [wd_Lst cs (rn 0) (fun _ => 0) (fun k => if k = 0 then (some lq) else none) lf (fun _ _ => 0) (fun _ _ => none)]) hw px_X.tt (px_recv hT hw 5 0 rfl rfl rfl) m4_104 m4_101 m4_102 m4_103 m1_10 q_Lst_clear ⟨Nat.le_of_ble_eq_true rfl, Nat.le_of_ble_eq_true rfl⟩ hl.1 rfl (Nat.le_of_ble_eq_true rfl) d_Nam_clear_4 ⟨Nat.le_of_ble_eq_true rfl, Nat.le_of_ble_eq_true rfl⟩) hw hA (fun p2 H locs hp2 hw => ?_)
  obtain ⟨lf1, rfl, e4⟩ := hp2
  replace e4 : (lf1 1).toInt = 0 := e4
  replace hw : pw D A s.heap H locs [wd_Nam cs hn rn no nf na ng, [], wd_Lst cs (rn 1) (fun _ => 0) (fun k => if k = 0 then (some fq) else none) ff (fun _ _ => 0) (fun _ _ => none), [(fq, .inl (cs 12, fc, .inr (.inr (.inr (.inr fg)))))], P, wd_Lst cs (rn 0) (fun _ => 0) (fun k => if k = 0 then (some lq) else none) lf1 (fun _ _ => 0) (fun _ _ => none)] := hw
  have hels := els_0 (P := P) (n := (lf1 1)) (g := lg) (by omega)
  refine lv_aload_n S.x S.b d_Nam_clear_7 rfl (lv_at hl 0 rfl) ?_
  refine lv_iconst (v := 0) S.x S.b d_Nam_clear_8 (by decide) ?_
  refine px_put S k_Nam hT hw 0 0 4 rfl rfl (by decide) m2_79 rfl rfl rfl (Nat.le_of_ble_eq_true rfl) d_Nam_clear_9 (w' := wd_Nam cs hn rn no (upd nf 4 0) na ng) (ps' := [wd_Nam cs hn rn no (upd nf 4 0) na ng, [], wd_Lst cs (rn 1) (fun _ => 0) (fun k => if k = 0 then (some fq) else none) ff (fun _ _ => 0) (fun _ _ => none), [(fq, .inl (cs 12, fc, .inr (.inr (.inr (.inr fg)))))], P, wd_Lst cs (rn 0) (fun _ => 0) (fun k => if k = 0 then (some lq) else none) lf1 (fun _ _ => 0) (fun _ _ => none)]) rfl rfl (fun H locs hw => ?_)
  have hw : pw D A s.heap _ _ [wd_Nam cs hn rn no (upd nf 4 0) na ng, wd_Lst cs (rn 0) (fun _ => 0) (fun k => if k = 0 then (some lq) else none) lf1 (fun _ _ => 0) (fun _ _ => none), [], wd_Lst cs (rn 1) (fun _ => 0) (fun k => if k = 0 then (some fq) else none) ff (fun _ _ => 0) (fun _ _ => none), [(fq, .inl (cs 12, fc, .inr (.inr (.inr (.inr fg)))))], P] := hw.sub [0, 5, 1, 2, 3, 4] rfl rfl
  exact px_vret S hr hlk hAe hw (Nat.le_of_ble_eq_true rfl) (Nat.le_of_ble_eq_true rfl) (⟨(upd nf 4 0), lf1, lg, rfl, (show NmI em P false (lf1 1) (ff 1) (nf 3) 0 lq lc fc lg fg from ⟨⟨(by first | assumption | exact fun h => absurd h (by decide) | exact fun _ => rfl), ⟨by first | exact oz_b1de7dbe7e e4 | omega, by first | exact oz_0b0c60c2d3 e4 | omega, by first | exact n3 | omega⟩, (by first | exact hEl | exact hEl.less (by omega) | exact hels), ⟨by first | exact n4 | omega, by first | exact n5 | omega, by first | exact n6 | omega⟩, (by first | exact hEf | exact hEf.less (by omega) | exact helf)⟩, (by first | assumption | exact fun h => absurd h (by decide)), (by first | assumption | exact fun h => absurd h (by decide) | exact fun _ => (by omega)), ⟨by first | exact hfc | omega, by first | exact hlb | omega, by first | exact hfb | omega⟩, ⟨by first | exact hw0 | omega, by first | exact hw1 | omega⟩, by omega, (by first | exact hEg | exact hEg.less (by omega) | exact helg), by first | exact hk10 | omega⟩), (show (lf1 1).toInt = 0 from by first | exact e4 | omega), (show (ff 1).toInt = (ff 1).toInt from rfl), (show (nf 3).toInt = (nf 3).toInt from rfl), (show (0 : Int) = 0 from by first | decide | omega)⟩) d_Nam_clear_12
set_option maxHeartbeats 4000000 in
set_option maxRecDepth 100000 in
theorem c_nw_clear (l : Launch) (D : va_G) (cs : Nat → ClassId) (em : Nat) (hn : Nat) (rn : Nat → Nat) (no : Nat → Option Nat) (ng : Nat → Nat → Option Nat) (na : Nat → Nat → Int32) (own : Bool) (lq : Nat) (lc : Nat) (fq : Nat) (fc : Nat) (ff : Nat → Int32) (fg : Nat → Option Nat) (P : va_W) (nf : Nat → Int32) (lf : Nat → Int32) (lg : Nat → Option Nat)  (hinv0 : NmI em P own (lf 1) (ff 1) (nf 3) (nf 4) lq lc fc lg fg) : MetV l y_Nam_clear b_Nam_clear 1 D cs 1 40 (0) (0) [.ref hn] [wd_Nam cs hn rn no nf na ng, wd_Lst cs (rn 0) (fun _ => 0) (fun k => if k = 0 then (some lq) else none) lf (fun _ _ => 0) (fun _ _ => none), lA cs own lq lc lg, wd_Lst cs (rn 1) (fun _ => 0) (fun k => if k = 0 then (some fq) else none) ff (fun _ _ => 0) (fun _ _ => none), [(fq, .inl (cs 12, fc, .inr (.inr (.inr (.inr fg)))))], P] (fun _ => True) (fun ps => ∃ (nf' : Nat → Int32) (lf' : Nat → Int32) (lg' : Nat → Option Nat), (ps = [wd_Nam cs hn rn no nf' na ng, wd_Lst cs (rn 0) (fun _ => 0) (fun k => if k = 0 then (some lq) else none) lf' (fun _ _ => 0) (fun _ _ => none), lA cs own lq lc lg', wd_Lst cs (rn 1) (fun _ => 0) (fun k => if k = 0 then (some fq) else none) ff (fun _ _ => 0) (fun _ _ => none), [(fq, .inl (cs 12, fc, .inr (.inr (.inr (.inr fg)))))], P]) ∧ (NmI em P own (lf' 1) (ff 1) (nf' 3) (nf' 4) lq lc fc lg' fg) ∧ ((lf' 1).toInt = 0) ∧ ((ff 1).toInt = (ff 1).toInt) ∧ ((nf' 3).toInt = (nf 3).toInt) ∧ ((nf' 4).toInt = 0)) := by
  cases own with
  | true => exact c_nw_clear_T l D cs em hn rn no ng na lq lc fq fc ff fg P nf lf lg hinv0
  | false => exact c_nw_clear_F l D cs em hn rn no ng na lq lc fq fc ff fg P nf lf lg hinv0
abbrev b_Nam_leave : ByteArray := prog_5_method_5_code
def y_Nam_leave : MethodName := ⟨"HomeSystem$Names", "leave", "(I)V"⟩
theorem d_Nam_leave_0 : decode b_Nam_leave 0 = .ok (.aload_n 0, 1) := by decide +kernel
theorem d_Nam_leave_1 : decode b_Nam_leave 1 = .ok (.getfield 12, 3) := by decide +kernel
theorem d_Nam_leave_4 : decode b_Nam_leave 4 = .ok (.invokevirtual 59, 3) := by decide +kernel
theorem d_Nam_leave_7 : decode b_Nam_leave 7 = .ok (.iconst 1, 1) := by decide +kernel
theorem d_Nam_leave_8 : decode b_Nam_leave 8 = .ok (.isub, 1) := by decide +kernel
theorem d_Nam_leave_9 : decode b_Nam_leave 9 = .ok (.istore_n 2, 1) := by decide +kernel
theorem d_Nam_leave_10 : decode b_Nam_leave 10 = .ok (.iload_n 2, 1) := by decide +kernel
theorem d_Nam_leave_11 : decode b_Nam_leave 11 = .ok (.aload_n 0, 1) := by decide +kernel
theorem d_Nam_leave_12 : decode b_Nam_leave 12 = .ok (.getfield 69, 3) := by decide +kernel
theorem d_Nam_leave_15 : decode b_Nam_leave 15 = .ok (.if_icmp .lt 22, 3) := by decide +kernel
theorem d_Nam_leave_18 : decode b_Nam_leave 18 = .ok (.iload_n 2, 1) := by decide +kernel
theorem d_Nam_leave_19 : decode b_Nam_leave 19 = .ok (.ifCond .lt 18, 3) := by decide +kernel
theorem d_Nam_leave_22 : decode b_Nam_leave 22 = .ok (.aload_n 0, 1) := by decide +kernel
theorem d_Nam_leave_23 : decode b_Nam_leave 23 = .ok (.getfield 12, 3) := by decide +kernel
theorem d_Nam_leave_26 : decode b_Nam_leave 26 = .ok (.iload_n 2, 1) := by decide +kernel
theorem d_Nam_leave_27 : decode b_Nam_leave 27 = .ok (.invokevirtual 62, 3) := by decide +kernel
theorem d_Nam_leave_30 : decode b_Nam_leave 30 = .ok (.pop, 1) := by decide +kernel
theorem d_Nam_leave_31 : decode b_Nam_leave 31 = .ok (.iinc 2 (-1), 3) := by decide +kernel
theorem d_Nam_leave_34 : decode b_Nam_leave 34 = .ok (.goto (-24), 3) := by decide +kernel
theorem d_Nam_leave_37 : decode b_Nam_leave 37 = .ok (.aload_n 0, 1) := by decide +kernel
theorem d_Nam_leave_38 : decode b_Nam_leave 38 = .ok (.iload_n 1, 1) := by decide +kernel
theorem d_Nam_leave_39 : decode b_Nam_leave 39 = .ok (.putfield 69, 3) := by decide +kernel
theorem d_Nam_leave_42 : decode b_Nam_leave 42 = .ok (.return_, 1) := by decide +kernel
theorem q_Nam_leave : px_y y_Nam_leave 1 := by unfold px_y; decide +kernel
set_option maxHeartbeats 4000000 in
set_option maxRecDepth 100000 in
theorem c_nw_leave_T (l : Launch) (D : va_G) (cs : Nat → ClassId) (em : Nat) (hn : Nat) (rn : Nat → Nat) (no : Nat → Option Nat) (ng : Nat → Nat → Option Nat) (na : Nat → Nat → Int32) (lq : Nat) (lc : Nat) (fq : Nat) (fc : Nat) (ff : Nat → Int32) (fg : Nat → Option Nat) (P : va_W) (nf : Nat → Int32) (lf : Nat → Int32) (lg : Nat → Option Nat) (p0 : Int32)  (hinv0 : NmI em P true (lf 1) (ff 1) (nf 3) (nf 4) lq lc fc lg fg) (g0 : 0 ≤ p0.toInt) : MetV l y_Nam_leave b_Nam_leave 3 D cs 3 120 (0) (0) [.ref hn, .int p0] [wd_Nam cs hn rn no nf na ng, wd_Lst cs (rn 0) (fun _ => 0) (fun k => if k = 0 then (some lq) else none) lf (fun _ _ => 0) (fun _ _ => none), [(lq, .inl (cs 12, lc, .inr (.inr (.inr (.inr lg)))))], wd_Lst cs (rn 1) (fun _ => 0) (fun k => if k = 0 then (some fq) else none) ff (fun _ _ => 0) (fun _ _ => none), [(fq, .inl (cs 12, fc, .inr (.inr (.inr (.inr fg)))))], P] (fun _ => True) (fun ps => ∃ (nf' : Nat → Int32) (lf' : Nat → Int32) (lg' : Nat → Option Nat), (ps = [wd_Nam cs hn rn no nf' na ng, wd_Lst cs (rn 0) (fun _ => 0) (fun k => if k = 0 then (some lq) else none) lf' (fun _ _ => 0) (fun _ _ => none), [(lq, .inl (cs 12, lc, .inr (.inr (.inr (.inr lg')))))], wd_Lst cs (rn 1) (fun _ => 0) (fun k => if k = 0 then (some fq) else none) ff (fun _ _ => 0) (fun _ _ => none), [(fq, .inl (cs 12, fc, .inr (.inr (.inr (.inr fg)))))], P]) ∧ (NmI em P true (lf' 1) (ff 1) (nf' 3) (nf' 4) lq lc fc lg' fg) ∧ ((lf' 1).toInt ≤ (lf 1).toInt) ∧ ((ff 1).toInt = (ff 1).toInt) ∧ ((nf' 3).toInt = (nf 3).toInt) ∧ ((nf' 4).toInt = p0.toInt)) := by
  refine px_enter (by decide) (Nat.le_of_ble_eq_true rfl) ?_
  intro p e s m below meth c A ls hAe S hr hlk hnm hA hT hX hw hl
  replace hl : lv_has ls 3 [(0, .ref hn), (1, .int p0)] := hl
  have lp0 := Int32.le_toInt p0
  have up0 := Int32.toInt_lt p0
  have cst1 : (1 : Int32).toInt = 1 := rfl
  obtain ⟨⟨hown, ⟨n1, n2, n3⟩, hEl, ⟨n4, n5, n6⟩, hEf⟩, hne, hnt, ⟨hfc, hlb, hfb⟩, ⟨hw0, hw1⟩, hsc, hEg, hk10⟩ := hinv0
  have J10 : ∀ (n_10 : Nat) (nf_10 : Nat → Int32) (lf_10 : Nat → Int32) (lg_10 : Nat → Option Nat) (x10_2 : Int32) (H : Heap) (locs : List Loc) (ls : Array Slot), (NmI em P true (lf_10 1) (ff 1) (nf_10 3) (nf_10 4) lq lc fc lg_10 fg) → ((lf_10 1).toInt ≤ (lf 1).toInt) → (0 ≤ (lf_10 1).toInt) → (x10_2.toInt = (lf_10 1).toInt - 1) → ((ff 1).toInt = (ff 1).toInt) → ((nf_10 3).toInt = (nf 3).toInt) → ((nf_10 4).toInt = (nf 4).toInt) → (ElS P (lf_10 1) lg_10) → x10_2.toInt + 1 < (n_10 : Int) → pw D A s.heap H locs [wd_Nam cs hn rn no nf_10 na ng, wd_Lst cs (rn 0) (fun _ => 0) (fun k => if k = 0 then (some lq) else none) lf_10 (fun _ _ => 0) (fun _ _ => none), [(lq, .inl (cs 12, lc, .inr (.inr (.inr (.inr lg_10)))))], wd_Lst cs (rn 1) (fun _ => 0) (fun k => if k = 0 then (some fq) else none) ff (fun _ _ => 0) (fun _ _ => none), [(fq, .inl (cs 12, fc, .inr (.inr (.inr (.inr fg)))))], P] → lv_has ls 3 [(0, .ref hn), (1, .int p0), (2, .int x10_2)] → W p l e { frames := 3, cells := 0, slots := 0, locals := 120 } s m [.ref hn, .int p0].toArray below meth c H locs 0 0 (MQ below (va_Qv (fun ps => ∃ (nf' : Nat → Int32) (lf' : Nat → Int32) (lg' : Nat → Option Nat), (ps = [wd_Nam cs hn rn no nf' na ng, wd_Lst cs (rn 0) (fun _ => 0) (fun k => if k = 0 then (some lq) else none) lf' (fun _ _ => 0) (fun _ _ => none), [(lq, .inl (cs 12, lc, .inr (.inr (.inr (.inr lg')))))], wd_Lst cs (rn 1) (fun _ => 0) (fun k => if k = 0 then (some fq) else none) ff (fun _ _ => 0) (fun _ _ => none), [(fq, .inl (cs 12, fc, .inr (.inr (.inr (.inr fg)))))], P]) ∧ (NmI em P true (lf' 1) (ff 1) (nf' 3) (nf' 4) lq lc fc lg' fg) ∧ ((lf' 1).toInt ≤ (lf 1).toInt) ∧ ((ff 1).toInt = (ff 1).toInt) ∧ ((nf' 3).toInt = (nf 3).toInt) ∧ ((nf' 4).toInt = p0.toInt)) (pc_B D (va_A ([wd_Nam cs hn rn no nf na ng, wd_Lst cs (rn 0) (fun _ => 0) (fun k => if k = 0 then (some lq) else none) lf (fun _ _ => 0) (fun _ _ => none), [(lq, .inl (cs 12, lc, .inr (.inr (.inr (.inr lg)))))], wd_Lst cs (rn 1) (fun _ => 0) (fun k => if k = 0 then (some fq) else none) ff (fun _ _ => 0) (fun _ _ => none), [(fq, .inl (cs 12, fc, .inr (.inr (.inr (.inr fg)))))], P] : List va_W).flatten s.heap.size)) (va_A ([wd_Nam cs hn rn no nf na ng, wd_Lst cs (rn 0) (fun _ => 0) (fun k => if k = 0 then (some lq) else none) lf (fun _ _ => 0) (fun _ _ => none), [(lq, .inl (cs 12, lc, .inr (.inr (.inr (.inr lg)))))], wd_Lst cs (rn 1) (fun _ => 0) (fun k => if k = 0 then (some fq) else none) ff (fun _ _ => 0) (fun _ _ => none), [(fq, .inl (cs 12, fc, .inr (.inr (.inr (.inr fg)))))], P] : List va_W).flatten s.heap.size)) [.ref hn, .int p0].toArray s 0 0 A) (F0 m 10 ls []) := by
    intro n_10
    induction n_10 with
    | zero =>
      intro nf_10 lf_10 lg_10 x10_2 H locs ls hi10_0 k10_0 k10_1 k10_2 k10_3 k10_4 k10_5 k10_6 hm hw hl
      obtain ⟨⟨hown, ⟨n1, n2, n3⟩, hEl, ⟨n4, n5, n6⟩, hEf⟩, hne, hnt, ⟨hfc, hlb, hfb⟩, ⟨hw0, hw1⟩, hsc, hEg, hk10⟩ := hi10_0
      have lx10_2 := Int32.le_toInt x10_2
      have ux10_2 := Int32.toInt_lt x10_2
      exact absurd hm (by omega)
    | succ n_10 ih10 =>
      intro nf_10 lf_10 lg_10 x10_2 H locs ls hi10_0 k10_0 k10_1 k10_2 k10_3 k10_4 k10_5 k10_6 hm hw hl
      obtain ⟨⟨hown, ⟨n1, n2, n3⟩, hEl, ⟨n4, n5, n6⟩, hEf⟩, hne, hnt, ⟨hfc, hlb, hfb⟩, ⟨hw0, hw1⟩, hsc, hEg, hk10⟩ := hi10_0
      have lx10_2 := Int32.le_toInt x10_2
      have ux10_2 := Int32.toInt_lt x10_2
      refine lv_iload_n S.x S.b d_Nam_leave_10 rfl (lv_at hl 2 rfl) ?_
      refine lv_aload_n S.x S.b d_Nam_leave_11 rfl (lv_at hl 0 rfl) ?_
      refine px_get S k_Nam hT hw 0 0 4 (v := .int (nf_10 4)) rfl rfl rfl (by decide) m2_79 d_Nam_leave_12 ?_
      refine lv_icmp_lt (tgt := 37) S.x S.b d_Nam_leave_15 (by decide) (fun c1 => ?_) (fun c1 => ?_)
      · have nc1 : x10_2.toInt < (nf_10 4).toInt := (i_lt (x := x10_2) (y := (nf_10 4))).mp c1
        refine lv_aload_n S.x S.b d_Nam_leave_37 rfl (lv_at hl 0 rfl) ?_
        refine lv_iload_n S.x S.b d_Nam_leave_38 rfl (lv_at hl 1 rfl) ?_
        refine px_put S k_Nam hT hw 0 0 4 rfl rfl (by decide) m2_79 rfl rfl rfl (Nat.le_of_ble_eq_true rfl) d_Nam_leave_39 (w' := wd_Nam cs hn rn no (upd nf_10 4 p0) na ng) (ps' := [wd_Nam cs hn rn no (upd nf_10 4 p0) na ng, wd_Lst cs (rn 0) (fun _ => 0) (fun k => if k = 0 then (some lq) else none) lf_10 (fun _ _ => 0) (fun _ _ => none), [(lq, .inl (cs 12, lc, .inr (.inr (.inr (.inr lg_10)))))], wd_Lst cs (rn 1) (fun _ => 0) (fun k => if k = 0 then (some fq) else none) ff (fun _ _ => 0) (fun _ _ => none), [(fq, .inl (cs 12, fc, .inr (.inr (.inr (.inr fg)))))], P]) rfl rfl (fun H locs hw => ?_)
        exact px_vret S hr hlk hAe hw (Nat.le_of_ble_eq_true rfl) (Nat.le_of_ble_eq_true rfl) (⟨(upd nf_10 4 p0), lf_10, lg_10, rfl, (show NmI em P true (lf_10 1) (ff 1) (nf_10 3) p0 lq lc fc lg_10 fg from ⟨⟨(by first | assumption | exact fun h => absurd h (by decide) | exact fun _ => rfl), ⟨by first | exact n1 | omega, by first | exact n2 | omega, by first | exact n3 | omega⟩, (by first | exact hEl | exact hEl.less (by omega) | exact hels), ⟨by first | exact n4 | omega, by first | exact n5 | omega, by first | exact n6 | omega⟩, (by first | exact hEf | exact hEf.less (by omega) | exact helf)⟩, (by first | assumption | exact fun h => absurd h (by decide)), (by first | assumption | exact fun h => absurd h (by decide) | exact fun _ => (by omega)), ⟨by first | exact hfc | omega, by first | exact hlb | omega, by first | exact hfb | omega⟩, ⟨by first | exact hw0 | omega, by first | exact hw1 | omega⟩, by first | exact g0 | omega, (by first | exact hEg | exact hEg.less (by omega) | exact helg), by first | exact hk10 | omega⟩), (show (lf_10 1).toInt ≤ (lf 1).toInt from by first | exact k10_0 | omega), (show (ff 1).toInt = (ff 1).toInt from rfl), (show (nf_10 3).toInt = (nf 3).toInt from by first | exact k10_4 | omega), (show p0.toInt = p0.toInt from rfl)⟩) d_Nam_leave_42
      · have nc1 : ¬ x10_2.toInt < (nf_10 4).toInt := mt (i_lt (x := x10_2) (y := (nf_10 4))).mpr c1
        refine lv_iload_n S.x S.b d_Nam_leave_18 rfl (lv_at hl 2 rfl) ?_
        refine lv_if_lt (tgt := 37) S.x S.b d_Nam_leave_19 (by decide) (fun c2 => ?_) (fun c2 => ?_)
        · have nc2 : x10_2.toInt < (0 : Int) := (i_lt (x := x10_2) (y := 0)).mp c2
          refine lv_aload_n S.x S.b d_Nam_leave_37 rfl (lv_at hl 0 rfl) ?_
          refine lv_iload_n S.x S.b d_Nam_leave_38 rfl (lv_at hl 1 rfl) ?_
          refine px_put S k_Nam hT hw 0 0 4 rfl rfl (by decide) m2_79 rfl rfl rfl (Nat.le_of_ble_eq_true rfl) d_Nam_leave_39 (w' := wd_Nam cs hn rn no (upd nf_10 4 p0) na ng) (ps' := [wd_Nam cs hn rn no (upd nf_10 4 p0) na ng, wd_Lst cs (rn 0) (fun _ => 0) (fun k => if k = 0 then (some lq) else none) lf_10 (fun _ _ => 0) (fun _ _ => none), [(lq, .inl (cs 12, lc, .inr (.inr (.inr (.inr lg_10)))))], wd_Lst cs (rn 1) (fun _ => 0) (fun k => if k = 0 then (some fq) else none) ff (fun _ _ => 0) (fun _ _ => none), [(fq, .inl (cs 12, fc, .inr (.inr (.inr (.inr fg)))))], P]) rfl rfl (fun H locs hw => ?_)
          exact px_vret S hr hlk hAe hw (Nat.le_of_ble_eq_true rfl) (Nat.le_of_ble_eq_true rfl) (⟨(upd nf_10 4 p0), lf_10, lg_10, rfl, (show NmI em P true (lf_10 1) (ff 1) (nf_10 3) p0 lq lc fc lg_10 fg from ⟨⟨(by first | assumption | exact fun h => absurd h (by decide) | exact fun _ => rfl), ⟨by first | exact n1 | omega, by first | exact n2 | omega, by first | exact n3 | omega⟩, (by first | exact hEl | exact hEl.less (by omega) | exact hels), ⟨by first | exact n4 | omega, by first | exact n5 | omega, by first | exact n6 | omega⟩, (by first | exact hEf | exact hEf.less (by omega) | exact helf)⟩, (by first | assumption | exact fun h => absurd h (by decide)), (by first | assumption | exact fun h => absurd h (by decide) | exact fun _ => (by omega)), ⟨by first | exact hfc | omega, by first | exact hlb | omega, by first | exact hfb | omega⟩, ⟨by first | exact hw0 | omega, by first | exact hw1 | omega⟩, by first | exact g0 | omega, (by first | exact hEg | exact hEg.less (by omega) | exact helg), by first | exact hk10 | omega⟩), (show (lf_10 1).toInt ≤ (lf 1).toInt from by first | exact k10_0 | omega), (show (ff 1).toInt = (ff 1).toInt from rfl), (show (nf_10 3).toInt = (nf 3).toInt from by first | exact k10_4 | omega), (show p0.toInt = p0.toInt from rfl)⟩) d_Nam_leave_42
        · have nc2 : ¬ x10_2.toInt < (0 : Int) := mt (i_lt (x := x10_2) (y := 0)).mpr c2
          refine lv_aload_n S.x S.b d_Nam_leave_22 rfl (lv_at hl 0 rfl) ?_
          refine px_get S k_Nam hT hw 0 0 0 (v := .ref (rn 0)) rfl rfl rfl (by decide) m2_75 d_Nam_leave_23 ?_
          refine lv_iload_n S.x S.b d_Nam_leave_26 rfl (lv_at hl 2 rfl) ?_
          have hw : pw D A s.heap _ _ [wd_Nam cs hn rn no nf_10 na ng, wd_Lst cs (rn 1) (fun _ => 0) (fun k => if k = 0 then (some fq) else none) ff (fun _ _ => 0) (fun _ _ => none), [(fq, .inl (cs 12, fc, .inr (.inr (.inr (.inr fg)))))], P, wd_Lst cs (rn 0) (fun _ => 0) (fun k => if k = 0 then (some lq) else none) lf_10 (fun _ _ => 0) (fun _ _ => none), [(lq, .inl (cs 12, lc, .inr (.inr (.inr (.inr lg_10)))))]] := hw.sub [0, 3, 4, 5, 1, 2] rfl rfl
          refine px_callq (pr := [wd_Nam cs hn rn no nf_10 na ng, wd_Lst cs (rn 1) (fun _ => 0) (fun k => if k = 0 then (some fq) else none) ff (fun _ _ => 0) (fun _ _ => none), [(fq, .inl (cs 12, fc, .inr (.inr (.inr (.inr fg)))))], P]) (px_runV (As := [.int x10_2]) (rest := []) S (c_lr_remove l D cs (rn 0) lq lc lf_10 lg_10 x10_2  (show lc ≤ 1000000 from by first | exact n3 | omega) (show 0 ≤ (lf_10 1).toInt from by first | exact n1 | omega) (show (lf_10 1).toInt ≤ (lc : Int) from by first | exact n2 | omega) (show 0 ≤ x10_2.toInt from by first | exact oz_18a5c06a28 nc2 | omega) (show x10_2.toInt = (lf_10 1).toInt - 1 from by first | exact k10_2 | omega) _) hT (pr := [wd_Nam cs hn rn no nf_10 na ng, wd_Lst cs (rn 1) (fun _ => 0) (fun k => if k = 0 then (some fq) else none) ff (fun _ _ => 0) (fun _ _ => none), [(fq, .inl (cs 12, fc, .inr (.inr (.inr (.inr fg)))))], P]) (pcs := [wd_Lst cs (rn 0) (fun _ => 0) (fun k => if k = 0 then (some lq) else none) lf_10 (fun _ _ => 0) (fun _ _ => none), [(lq, .inl (cs 12, lc, .inr (.inr (.inr (.inr lg_10)))))]]) hw px_X.tt (px_recv hT hw 4 0 rfl rfl rfl) m4_79 m4_76 m4_77 m4_78 m1_10 q_Lst_remove ⟨Nat.le_of_ble_eq_true rfl, Nat.le_of_ble_eq_true rfl⟩ hl.1 rfl (Nat.le_of_ble_eq_true rfl) d_Nam_leave_27 ⟨Nat.le_of_ble_eq_true rfl, Nat.le_of_ble_eq_true rfl⟩) hw hA (fun v8 p7 H locs hp7 hw => ?_)
          obtain ⟨lf5, lg6, rfl, e9, e10⟩ := hp7
          replace e9 : (lf5 1).toInt = (lf_10 1).toInt - 1 := e9
          replace e10 : KeepL (lf5 1) lg_10 lg6 := e10
          replace hw : pw D A s.heap H locs [wd_Nam cs hn rn no nf_10 na ng, wd_Lst cs (rn 1) (fun _ => 0) (fun k => if k = 0 then (some fq) else none) ff (fun _ _ => 0) (fun _ _ => none), [(fq, .inl (cs 12, fc, .inr (.inr (.inr (.inr fg)))))], P, wd_Lst cs (rn 0) (fun _ => 0) (fun k => if k = 0 then (some lq) else none) lf5 (fun _ _ => 0) (fun _ _ => none), [(lq, .inl (cs 12, lc, .inr (.inr (.inr (.inr lg6)))))]] := hw
          have hels := KeepL.els (n := (lf5 1)) (by assumption) (show ElS P _ _ by first | assumption | exact hEl) (by omega)
          refine lv_pop S.x S.b d_Nam_leave_30 (rf_cat _) ?_
          obtain ⟨z11, ez11⟩ : ∃ y : Int32, y = x10_2 + (-1) := ⟨_, rfl⟩
          have tz11 : z11.toInt = (x10_2.toInt + (-1) + 2147483648) % 4294967296 - 2147483648 := by rw [ez11]; exact i_add x10_2 (-1)
          have lz11 := Int32.le_toInt z11
          have uz11 := Int32.toInt_lt z11
          try replace tz11 : z11.toInt = x10_2.toInt + (-1) := by omega
          refine lv_iinc (v := z11) (lv' := [(2, .int z11), (0, .ref hn), (1, .int p0)]) S.x S.b d_Nam_leave_31 hl (k := 2) rfl (by rw [ez11]; rfl) (by decide) rfl (fun ls hl => ?_)
          refine lv_goto (tgt := 10) S.x S.b d_Nam_leave_34 (by decide) ?_
          have hw : pw D A s.heap _ _ [wd_Nam cs hn rn no nf_10 na ng, wd_Lst cs (rn 0) (fun _ => 0) (fun k => if k = 0 then (some lq) else none) lf5 (fun _ _ => 0) (fun _ _ => none), [(lq, .inl (cs 12, lc, .inr (.inr (.inr (.inr lg6)))))], wd_Lst cs (rn 1) (fun _ => 0) (fun k => if k = 0 then (some fq) else none) ff (fun _ _ => 0) (fun _ _ => none), [(fq, .inl (cs 12, fc, .inr (.inr (.inr (.inr fg)))))], P] := hw.sub [0, 4, 5, 1, 2, 3] rfl rfl
          exact ih10 nf_10 lf5 lg6 z11 _ _ ls (show NmI em P true (lf5 1) (ff 1) (nf_10 3) (nf_10 4) lq lc fc lg6 fg from ⟨⟨(by first | assumption | exact fun h => absurd h (by decide) | exact fun _ => rfl), ⟨by first | exact oz_d535c01852 e9 k10_2 nc2 | omega, by first | exact oz_92b454834d n2 e9 | omega, by first | exact n3 | omega⟩, (by first | exact hEl | exact hEl.less (by omega) | exact hels), ⟨by first | exact n4 | omega, by first | exact n5 | omega, by first | exact n6 | omega⟩, (by first | exact hEf | exact hEf.less (by omega) | exact helf)⟩, (by first | assumption | exact fun h => absurd h (by decide)), (by first | assumption | exact fun h => absurd h (by decide) | exact fun _ => (by omega)), ⟨by first | exact hfc | omega, by first | exact hlb | omega, by first | exact hfb | omega⟩, ⟨by first | exact hw0 | omega, by first | exact hw1 | omega⟩, by first | exact hsc | omega, (by first | exact hEg | exact hEg.less (by omega) | exact helg), by first | exact hk10 | omega⟩) (show (lf5 1).toInt ≤ (lf 1).toInt from by first | exact oz_574f9a72dc k10_0 e9 | omega) (show 0 ≤ (lf5 1).toInt from by first | exact oz_d535c01852 e9 k10_2 nc2 | omega) (show z11.toInt = (lf5 1).toInt - 1 from by first | exact oz_8633e2b9f3 e9 tz11 k10_2 | omega) (show (ff 1).toInt = (ff 1).toInt from rfl) (show (nf_10 3).toInt = (nf 3).toInt from by first | exact k10_4 | omega) (show (nf_10 4).toInt = (nf 4).toInt from by first | exact k10_5 | omega) (show ElS P (lf5 1) lg6 from (by first | exact hEl | assumption | exact hels | exact hEl.less (by omega))) (show z11.toInt + 1 < (n_10 : Int) from by first | exact oz_36811a00a6 hm tz11 | omega) hw (lv_sub hl [1, 2, 0] rfl)
  refine lv_aload_n S.x S.b d_Nam_leave_0 rfl (lv_at hl 0 rfl) ?_
  refine px_get S k_Nam hT hw 0 0 0 (v := .ref (rn 0)) rfl rfl rfl (by decide) m2_75 d_Nam_leave_1 ?_
  have hw : pw D A s.heap _ _ [wd_Nam cs hn rn no nf na ng, wd_Lst cs (rn 1) (fun _ => 0) (fun k => if k = 0 then (some fq) else none) ff (fun _ _ => 0) (fun _ _ => none), [(fq, .inl (cs 12, fc, .inr (.inr (.inr (.inr fg)))))], P, wd_Lst cs (rn 0) (fun _ => 0) (fun k => if k = 0 then (some lq) else none) lf (fun _ _ => 0) (fun _ _ => none), [(lq, .inl (cs 12, lc, .inr (.inr (.inr (.inr lg)))))]] := hw.sub [0, 3, 4, 5, 1, 2] rfl rfl
  refine px_calli (pr := [wd_Nam cs hn rn no nf na ng, wd_Lst cs (rn 1) (fun _ => 0) (fun k => if k = 0 then (some fq) else none) ff (fun _ _ => 0) (fun _ _ => none), [(fq, .inl (cs 12, fc, .inr (.inr (.inr (.inr fg)))))], P]) (px_runV (As := []) (rest := []) S (c_ls_size2 l D cs (rn 0) lq lc lf lg    _) hT (pr := [wd_Nam cs hn rn no nf na ng, wd_Lst cs (rn 1) (fun _ => 0) (fun k => if k = 0 then (some fq) else none) ff (fun _ _ => 0) (fun _ _ => none), [(fq, .inl (cs 12, fc, .inr (.inr (.inr (.inr fg)))))], P]) (pcs := [wd_Lst cs (rn 0) (fun _ => 0) (fun k => if k = 0 then (some lq) else none) lf (fun _ _ => 0) (fun _ _ => none), [(lq, .inl (cs 12, lc, .inr (.inr (.inr (.inr lg)))))]]) hw px_X.tt (px_recv hT hw 4 0 rfl rfl rfl) m4_75 m4_72 m4_73 m4_74 m1_10 q_Lst_size ⟨Nat.le_of_ble_eq_true rfl, Nat.le_of_ble_eq_true rfl⟩ hl.1 rfl (Nat.le_of_ble_eq_true rfl) d_Nam_leave_4 ⟨Nat.le_of_ble_eq_true rfl, Nat.le_of_ble_eq_true rfl⟩) hw hA (fun v13 p12 H locs hp12 hw => ?_)
  obtain ⟨rfl, e14⟩ := hp12
  replace e14 : v13.toInt = (lf 1).toInt := e14
  replace hw : pw D A s.heap H locs [wd_Nam cs hn rn no nf na ng, wd_Lst cs (rn 1) (fun _ => 0) (fun k => if k = 0 then (some fq) else none) ff (fun _ _ => 0) (fun _ _ => none), [(fq, .inl (cs 12, fc, .inr (.inr (.inr (.inr fg)))))], P, wd_Lst cs (rn 0) (fun _ => 0) (fun k => if k = 0 then (some lq) else none) lf (fun _ _ => 0) (fun _ _ => none), [(lq, .inl (cs 12, lc, .inr (.inr (.inr (.inr lg)))))]] := hw
  have lv13 := Int32.le_toInt v13
  have uv13 := Int32.toInt_lt v13
  refine lv_iconst (v := 1) S.x S.b d_Nam_leave_7 (by decide) ?_
  refine lv_isub S.x S.b d_Nam_leave_8 ?_
  refine lv_topi (fun z15 ez15 => ?_)
  have tz15 : z15.toInt = (v13.toInt - (1 : Int) + 2147483648) % 4294967296 - 2147483648 := by rw [ez15]; exact i_sub v13 1
  have lz15 := Int32.le_toInt z15
  have uz15 := Int32.toInt_lt z15
  try replace tz15 : z15.toInt = v13.toInt - (1 : Int) := by omega
  refine lv_istore_n (lv' := [(2, .int z15), (0, .ref hn), (1, .int p0)]) S.x S.b d_Nam_leave_9 rfl hl (by decide) rfl (fun ls hl => ?_)
  have hw : pw D A s.heap _ _ [wd_Nam cs hn rn no nf na ng, wd_Lst cs (rn 0) (fun _ => 0) (fun k => if k = 0 then (some lq) else none) lf (fun _ _ => 0) (fun _ _ => none), [(lq, .inl (cs 12, lc, .inr (.inr (.inr (.inr lg)))))], wd_Lst cs (rn 1) (fun _ => 0) (fun k => if k = 0 then (some fq) else none) ff (fun _ _ => 0) (fun _ _ => none), [(fq, .inl (cs 12, fc, .inr (.inr (.inr (.inr fg)))))], P] := hw.sub [0, 4, 5, 1, 2, 3] rfl rfl
  exact J10 ((z15.toInt + 1).toNat + 1) nf lf lg z15 _ _ ls (show NmI em P true (lf 1) (ff 1) (nf 3) (nf 4) lq lc fc lg fg from ⟨⟨(by first | assumption | exact fun h => absurd h (by decide) | exact fun _ => rfl), ⟨by first | exact n1 | omega, by first | exact n2 | omega, by first | exact n3 | omega⟩, (by first | exact hEl | exact hEl.less (by omega) | exact hels), ⟨by first | exact n4 | omega, by first | exact n5 | omega, by first | exact n6 | omega⟩, (by first | exact hEf | exact hEf.less (by omega) | exact helf)⟩, (by first | assumption | exact fun h => absurd h (by decide)), (by first | assumption | exact fun h => absurd h (by decide) | exact fun _ => (by omega)), ⟨by first | exact hfc | omega, by first | exact hlb | omega, by first | exact hfb | omega⟩, ⟨by first | exact hw0 | omega, by first | exact hw1 | omega⟩, by first | exact hsc | omega, (by first | exact hEg | exact hEg.less (by omega) | exact helg), by first | exact hk10 | omega⟩) (show (lf 1).toInt ≤ (lf 1).toInt from by first | exact oz_1cb5f934a5 | omega) (show 0 ≤ (lf 1).toInt from by first | exact n1 | omega) (show z15.toInt = (lf 1).toInt - 1 from by first | exact oz_7fdc63a1c9 e14 tz15 | omega) (show (ff 1).toInt = (ff 1).toInt from rfl) (show (nf 3).toInt = (nf 3).toInt from rfl) (show (nf 4).toInt = (nf 4).toInt from rfl) (show ElS P (lf 1) lg from (by first | exact hEl | assumption | exact hels | exact hEl.less (by omega))) (show z15.toInt + 1 < ((((z15.toInt + 1).toNat + 1 : Nat) : Int) : Int) from by first | exact oz_natlt | omega) hw (lv_sub hl [1, 2, 0] rfl)
set_option maxHeartbeats 4000000 in
set_option maxRecDepth 100000 in
theorem c_nw_leave_F (l : Launch) (D : va_G) (cs : Nat → ClassId) (em : Nat) (hn : Nat) (rn : Nat → Nat) (no : Nat → Option Nat) (ng : Nat → Nat → Option Nat) (na : Nat → Nat → Int32) (lq : Nat) (lc : Nat) (fq : Nat) (fc : Nat) (ff : Nat → Int32) (fg : Nat → Option Nat) (P : va_W) (nf : Nat → Int32) (lf : Nat → Int32) (lg : Nat → Option Nat) (p0 : Int32)  (hinv0 : NmI em P false (lf 1) (ff 1) (nf 3) (nf 4) lq lc fc lg fg) (g0 : 0 ≤ p0.toInt) : MetV l y_Nam_leave b_Nam_leave 3 D cs 3 120 (0) (0) [.ref hn, .int p0] [wd_Nam cs hn rn no nf na ng, wd_Lst cs (rn 0) (fun _ => 0) (fun k => if k = 0 then (some lq) else none) lf (fun _ _ => 0) (fun _ _ => none), [], wd_Lst cs (rn 1) (fun _ => 0) (fun k => if k = 0 then (some fq) else none) ff (fun _ _ => 0) (fun _ _ => none), [(fq, .inl (cs 12, fc, .inr (.inr (.inr (.inr fg)))))], P] (fun _ => True) (fun ps => ∃ (nf' : Nat → Int32) (lf' : Nat → Int32) (lg' : Nat → Option Nat), (ps = [wd_Nam cs hn rn no nf' na ng, wd_Lst cs (rn 0) (fun _ => 0) (fun k => if k = 0 then (some lq) else none) lf' (fun _ _ => 0) (fun _ _ => none), [], wd_Lst cs (rn 1) (fun _ => 0) (fun k => if k = 0 then (some fq) else none) ff (fun _ _ => 0) (fun _ _ => none), [(fq, .inl (cs 12, fc, .inr (.inr (.inr (.inr fg)))))], P]) ∧ (NmI em P false (lf' 1) (ff 1) (nf' 3) (nf' 4) lq lc fc lg' fg) ∧ ((lf' 1).toInt ≤ (lf 1).toInt) ∧ ((ff 1).toInt = (ff 1).toInt) ∧ ((nf' 3).toInt = (nf 3).toInt) ∧ ((nf' 4).toInt = p0.toInt)) := by
  refine px_enter (by decide) (Nat.le_of_ble_eq_true rfl) ?_
  intro p e s m below meth c A ls hAe S hr hlk hnm hA hT hX hw hl
  replace hl : lv_has ls 3 [(0, .ref hn), (1, .int p0)] := hl
  have lp0 := Int32.le_toInt p0
  have up0 := Int32.toInt_lt p0
  have cst1 : (1 : Int32).toInt = 1 := rfl
  obtain ⟨⟨hown, ⟨n1, n2, n3⟩, hEl, ⟨n4, n5, n6⟩, hEf⟩, hne, hnt, ⟨hfc, hlb, hfb⟩, ⟨hw0, hw1⟩, hsc, hEg, hk10⟩ := hinv0
  have hlc0 : lc = 0 := hown rfl
  have hle0 : lq = em := hne rfl
  refine lv_aload_n S.x S.b d_Nam_leave_0 rfl (lv_at hl 0 rfl) ?_
  refine px_get S k_Nam hT hw 0 0 0 (v := .ref (rn 0)) rfl rfl rfl (by decide) m2_75 d_Nam_leave_1 ?_
  have hw : pw D A s.heap _ _ [wd_Nam cs hn rn no nf na ng, [], wd_Lst cs (rn 1) (fun _ => 0) (fun k => if k = 0 then (some fq) else none) ff (fun _ _ => 0) (fun _ _ => none), [(fq, .inl (cs 12, fc, .inr (.inr (.inr (.inr fg)))))], P, wd_Lst cs (rn 0) (fun _ => 0) (fun k => if k = 0 then (some lq) else none) lf (fun _ _ => 0) (fun _ _ => none)] := hw.sub [0, 2, 3, 4, 5, 1] rfl rfl
  refine px_calli (pr := [wd_Nam cs hn rn no nf na ng, [], wd_Lst cs (rn 1) (fun _ => 0) (fun k => if k = 0 then (some fq) else none) ff (fun _ _ => 0) (fun _ _ => none), [(fq, .inl (cs 12, fc, .inr (.inr (.inr (.inr fg)))))], P]) (px_runV (As := []) (rest := []) S (c_ls_size l D cs (rn 0) lq lf    _) hT (pr := [wd_Nam cs hn rn no nf na ng, [], wd_Lst cs (rn 1) (fun _ => 0) (fun k => if k = 0 then (some fq) else none) ff (fun _ _ => 0) (fun _ _ => none), [(fq, .inl (cs 12, fc, .inr (.inr (.inr (.inr fg)))))], P]) (pcs := [wd_Lst cs (rn 0) (fun _ => 0) (fun k => if k = 0 then (some lq) else none) lf (fun _ _ => 0) (fun _ _ => none)]) hw px_X.tt (px_recv hT hw 5 0 rfl rfl rfl) m4_75 m4_72 m4_73 m4_74 m1_10 q_Lst_size ⟨Nat.le_of_ble_eq_true rfl, Nat.le_of_ble_eq_true rfl⟩ hl.1 rfl (Nat.le_of_ble_eq_true rfl) d_Nam_leave_4 ⟨Nat.le_of_ble_eq_true rfl, Nat.le_of_ble_eq_true rfl⟩) hw hA (fun v2 p1 H locs hp1 hw => ?_)
  obtain ⟨rfl, e3⟩ := hp1
  replace e3 : v2.toInt = (lf 1).toInt := e3
  replace hw : pw D A s.heap H locs [wd_Nam cs hn rn no nf na ng, [], wd_Lst cs (rn 1) (fun _ => 0) (fun k => if k = 0 then (some fq) else none) ff (fun _ _ => 0) (fun _ _ => none), [(fq, .inl (cs 12, fc, .inr (.inr (.inr (.inr fg)))))], P, wd_Lst cs (rn 0) (fun _ => 0) (fun k => if k = 0 then (some lq) else none) lf (fun _ _ => 0) (fun _ _ => none)] := hw
  have lv2 := Int32.le_toInt v2
  have uv2 := Int32.toInt_lt v2
  refine lv_iconst (v := 1) S.x S.b d_Nam_leave_7 (by decide) ?_
  refine lv_isub S.x S.b d_Nam_leave_8 ?_
  refine lv_topi (fun z4 ez4 => ?_)
  have tz4 : z4.toInt = (v2.toInt - (1 : Int) + 2147483648) % 4294967296 - 2147483648 := by rw [ez4]; exact i_sub v2 1
  have lz4 := Int32.le_toInt z4
  have uz4 := Int32.toInt_lt z4
  try replace tz4 : z4.toInt = v2.toInt - (1 : Int) := by omega
  refine lv_istore_n (lv' := [(2, .int z4), (0, .ref hn), (1, .int p0)]) S.x S.b d_Nam_leave_9 rfl hl (by decide) rfl (fun ls hl => ?_)
  refine lv_iload_n S.x S.b d_Nam_leave_10 rfl (lv_at hl 0 rfl) ?_
  refine lv_aload_n S.x S.b d_Nam_leave_11 rfl (lv_at hl 1 rfl) ?_
  refine px_get S k_Nam hT hw 0 0 4 (v := .int (nf 4)) rfl rfl rfl (by decide) m2_79 d_Nam_leave_12 ?_
  refine lv_icmp_lt (tgt := 37) S.x S.b d_Nam_leave_15 (by decide) (fun c5 => ?_) (fun c5 => ?_)
  · have nc5 : z4.toInt < (nf 4).toInt := (i_lt (x := z4) (y := (nf 4))).mp c5
    refine lv_aload_n S.x S.b d_Nam_leave_37 rfl (lv_at hl 1 rfl) ?_
    refine lv_iload_n S.x S.b d_Nam_leave_38 rfl (lv_at hl 2 rfl) ?_
    refine px_put S k_Nam hT hw 0 0 4 rfl rfl (by decide) m2_79 rfl rfl rfl (Nat.le_of_ble_eq_true rfl) d_Nam_leave_39 (w' := wd_Nam cs hn rn no (upd nf 4 p0) na ng) (ps' := [wd_Nam cs hn rn no (upd nf 4 p0) na ng, [], wd_Lst cs (rn 1) (fun _ => 0) (fun k => if k = 0 then (some fq) else none) ff (fun _ _ => 0) (fun _ _ => none), [(fq, .inl (cs 12, fc, .inr (.inr (.inr (.inr fg)))))], P, wd_Lst cs (rn 0) (fun _ => 0) (fun k => if k = 0 then (some lq) else none) lf (fun _ _ => 0) (fun _ _ => none)]) rfl rfl (fun H locs hw => ?_)
    have hw : pw D A s.heap _ _ [wd_Nam cs hn rn no (upd nf 4 p0) na ng, wd_Lst cs (rn 0) (fun _ => 0) (fun k => if k = 0 then (some lq) else none) lf (fun _ _ => 0) (fun _ _ => none), [], wd_Lst cs (rn 1) (fun _ => 0) (fun k => if k = 0 then (some fq) else none) ff (fun _ _ => 0) (fun _ _ => none), [(fq, .inl (cs 12, fc, .inr (.inr (.inr (.inr fg)))))], P] := hw.sub [0, 5, 1, 2, 3, 4] rfl rfl
    exact px_vret S hr hlk hAe hw (Nat.le_of_ble_eq_true rfl) (Nat.le_of_ble_eq_true rfl) (⟨(upd nf 4 p0), lf, lg, rfl, (show NmI em P false (lf 1) (ff 1) (nf 3) p0 lq lc fc lg fg from ⟨⟨(by first | assumption | exact fun h => absurd h (by decide) | exact fun _ => rfl), ⟨by first | exact n1 | omega, by first | exact n2 | omega, by first | exact n3 | omega⟩, (by first | exact hEl | exact hEl.less (by omega) | exact hels), ⟨by first | exact n4 | omega, by first | exact n5 | omega, by first | exact n6 | omega⟩, (by first | exact hEf | exact hEf.less (by omega) | exact helf)⟩, (by first | assumption | exact fun h => absurd h (by decide)), (by first | assumption | exact fun h => absurd h (by decide) | exact fun _ => (by omega)), ⟨by first | exact hfc | omega, by first | exact hlb | omega, by first | exact hfb | omega⟩, ⟨by first | exact hw0 | omega, by first | exact hw1 | omega⟩, by first | exact g0 | omega, (by first | exact hEg | exact hEg.less (by omega) | exact helg), by first | exact hk10 | omega⟩), (show (lf 1).toInt ≤ (lf 1).toInt from by first | exact oz_1cb5f934a5 | omega), (show (ff 1).toInt = (ff 1).toInt from rfl), (show (nf 3).toInt = (nf 3).toInt from rfl), (show p0.toInt = p0.toInt from rfl)⟩) d_Nam_leave_42
  · have nc5 : ¬ z4.toInt < (nf 4).toInt := mt (i_lt (x := z4) (y := (nf 4))).mpr c5
    refine lv_iload_n S.x S.b d_Nam_leave_18 rfl (lv_at hl 0 rfl) ?_
    refine lv_if_lt (tgt := 37) S.x S.b d_Nam_leave_19 (by decide) (fun c6 => ?_) (fun c6 => ?_)
    · have nc6 : z4.toInt < (0 : Int) := (i_lt (x := z4) (y := 0)).mp c6
      refine lv_aload_n S.x S.b d_Nam_leave_37 rfl (lv_at hl 1 rfl) ?_
      refine lv_iload_n S.x S.b d_Nam_leave_38 rfl (lv_at hl 2 rfl) ?_
      refine px_put S k_Nam hT hw 0 0 4 rfl rfl (by decide) m2_79 rfl rfl rfl (Nat.le_of_ble_eq_true rfl) d_Nam_leave_39 (w' := wd_Nam cs hn rn no (upd nf 4 p0) na ng) (ps' := [wd_Nam cs hn rn no (upd nf 4 p0) na ng, [], wd_Lst cs (rn 1) (fun _ => 0) (fun k => if k = 0 then (some fq) else none) ff (fun _ _ => 0) (fun _ _ => none), [(fq, .inl (cs 12, fc, .inr (.inr (.inr (.inr fg)))))], P, wd_Lst cs (rn 0) (fun _ => 0) (fun k => if k = 0 then (some lq) else none) lf (fun _ _ => 0) (fun _ _ => none)]) rfl rfl (fun H locs hw => ?_)
      have hw : pw D A s.heap _ _ [wd_Nam cs hn rn no (upd nf 4 p0) na ng, wd_Lst cs (rn 0) (fun _ => 0) (fun k => if k = 0 then (some lq) else none) lf (fun _ _ => 0) (fun _ _ => none), [], wd_Lst cs (rn 1) (fun _ => 0) (fun k => if k = 0 then (some fq) else none) ff (fun _ _ => 0) (fun _ _ => none), [(fq, .inl (cs 12, fc, .inr (.inr (.inr (.inr fg)))))], P] := hw.sub [0, 5, 1, 2, 3, 4] rfl rfl
      exact px_vret S hr hlk hAe hw (Nat.le_of_ble_eq_true rfl) (Nat.le_of_ble_eq_true rfl) (⟨(upd nf 4 p0), lf, lg, rfl, (show NmI em P false (lf 1) (ff 1) (nf 3) p0 lq lc fc lg fg from ⟨⟨(by first | assumption | exact fun h => absurd h (by decide) | exact fun _ => rfl), ⟨by first | exact n1 | omega, by first | exact n2 | omega, by first | exact n3 | omega⟩, (by first | exact hEl | exact hEl.less (by omega) | exact hels), ⟨by first | exact n4 | omega, by first | exact n5 | omega, by first | exact n6 | omega⟩, (by first | exact hEf | exact hEf.less (by omega) | exact helf)⟩, (by first | assumption | exact fun h => absurd h (by decide)), (by first | assumption | exact fun h => absurd h (by decide) | exact fun _ => (by omega)), ⟨by first | exact hfc | omega, by first | exact hlb | omega, by first | exact hfb | omega⟩, ⟨by first | exact hw0 | omega, by first | exact hw1 | omega⟩, by first | exact g0 | omega, (by first | exact hEg | exact hEg.less (by omega) | exact helg), by first | exact hk10 | omega⟩), (show (lf 1).toInt ≤ (lf 1).toInt from by first | exact oz_1cb5f934a5 | omega), (show (ff 1).toInt = (ff 1).toInt from rfl), (show (nf 3).toInt = (nf 3).toInt from rfl), (show p0.toInt = p0.toInt from rfl)⟩) d_Nam_leave_42
    · have nc6 : ¬ z4.toInt < (0 : Int) := mt (i_lt (x := z4) (y := 0)).mpr c6
      exfalso
      omega
set_option maxHeartbeats 4000000 in
set_option maxRecDepth 100000 in
theorem c_nw_leave (l : Launch) (D : va_G) (cs : Nat → ClassId) (em : Nat) (hn : Nat) (rn : Nat → Nat) (no : Nat → Option Nat) (ng : Nat → Nat → Option Nat) (na : Nat → Nat → Int32) (own : Bool) (lq : Nat) (lc : Nat) (fq : Nat) (fc : Nat) (ff : Nat → Int32) (fg : Nat → Option Nat) (P : va_W) (nf : Nat → Int32) (lf : Nat → Int32) (lg : Nat → Option Nat) (p0 : Int32)  (hinv0 : NmI em P own (lf 1) (ff 1) (nf 3) (nf 4) lq lc fc lg fg) (g0 : 0 ≤ p0.toInt) : MetV l y_Nam_leave b_Nam_leave 3 D cs 3 120 (0) (0) [.ref hn, .int p0] [wd_Nam cs hn rn no nf na ng, wd_Lst cs (rn 0) (fun _ => 0) (fun k => if k = 0 then (some lq) else none) lf (fun _ _ => 0) (fun _ _ => none), lA cs own lq lc lg, wd_Lst cs (rn 1) (fun _ => 0) (fun k => if k = 0 then (some fq) else none) ff (fun _ _ => 0) (fun _ _ => none), [(fq, .inl (cs 12, fc, .inr (.inr (.inr (.inr fg)))))], P] (fun _ => True) (fun ps => ∃ (nf' : Nat → Int32) (lf' : Nat → Int32) (lg' : Nat → Option Nat), (ps = [wd_Nam cs hn rn no nf' na ng, wd_Lst cs (rn 0) (fun _ => 0) (fun k => if k = 0 then (some lq) else none) lf' (fun _ _ => 0) (fun _ _ => none), lA cs own lq lc lg', wd_Lst cs (rn 1) (fun _ => 0) (fun k => if k = 0 then (some fq) else none) ff (fun _ _ => 0) (fun _ _ => none), [(fq, .inl (cs 12, fc, .inr (.inr (.inr (.inr fg)))))], P]) ∧ (NmI em P own (lf' 1) (ff 1) (nf' 3) (nf' 4) lq lc fc lg' fg) ∧ ((lf' 1).toInt ≤ (lf 1).toInt) ∧ ((ff 1).toInt = (ff 1).toInt) ∧ ((nf' 3).toInt = (nf 3).toInt) ∧ ((nf' 4).toInt = p0.toInt)) := by
  cases own with
  | true => exact c_nw_leave_T l D cs em hn rn no ng na lq lc fq fc ff fg P nf lf lg p0 hinv0 g0
  | false => exact c_nw_leave_F l D cs em hn rn no ng na lq lc fq fc ff fg P nf lf lg p0 hinv0 g0
abbrev b_Nam_enter : ByteArray := prog_5_method_4_code
def y_Nam_enter : MethodName := ⟨"HomeSystem$Names", "enter", "()I"⟩
theorem d_Nam_enter_0 : decode b_Nam_enter 0 = .ok (.aload_n 0, 1) := by decide +kernel
theorem d_Nam_enter_1 : decode b_Nam_enter 1 = .ok (.getfield 69, 3) := by decide +kernel
theorem d_Nam_enter_4 : decode b_Nam_enter 4 = .ok (.istore_n 1, 1) := by decide +kernel
theorem d_Nam_enter_5 : decode b_Nam_enter 5 = .ok (.aload_n 0, 1) := by decide +kernel
theorem d_Nam_enter_6 : decode b_Nam_enter 6 = .ok (.aload_n 0, 1) := by decide +kernel
theorem d_Nam_enter_7 : decode b_Nam_enter 7 = .ok (.getfield 12, 3) := by decide +kernel
theorem d_Nam_enter_10 : decode b_Nam_enter 10 = .ok (.invokevirtual 59, 3) := by decide +kernel
theorem d_Nam_enter_13 : decode b_Nam_enter 13 = .ok (.putfield 69, 3) := by decide +kernel
theorem d_Nam_enter_16 : decode b_Nam_enter 16 = .ok (.iload_n 1, 1) := by decide +kernel
theorem d_Nam_enter_17 : decode b_Nam_enter 17 = .ok (.ireturn, 1) := by decide +kernel
theorem q_Nam_enter : px_y y_Nam_enter 0 := by unfold px_y; decide +kernel
set_option maxHeartbeats 4000000 in
set_option maxRecDepth 100000 in
theorem c_nw_enter (l : Launch) (D : va_G) (cs : Nat → ClassId) (em : Nat) (hn : Nat) (rn : Nat → Nat) (no : Nat → Option Nat) (ng : Nat → Nat → Option Nat) (na : Nat → Nat → Int32) (own : Bool) (lq : Nat) (lc : Nat) (lf : Nat → Int32) (lg : Nat → Option Nat) (fq : Nat) (fc : Nat) (ff : Nat → Int32) (fg : Nat → Option Nat) (P : va_W) (nf : Nat → Int32)  (hinv0 : NmI em P own (lf 1) (ff 1) (nf 3) (nf 4) lq lc fc lg fg) : MetI l y_Nam_enter b_Nam_enter 2 (.int) D cs 1 40 (0) (0) [.ref hn] [wd_Nam cs hn rn no nf na ng, wd_Lst cs (rn 0) (fun _ => 0) (fun k => if k = 0 then (some lq) else none) lf (fun _ _ => 0) (fun _ _ => none), lA cs own lq lc lg, wd_Lst cs (rn 1) (fun _ => 0) (fun k => if k = 0 then (some fq) else none) ff (fun _ _ => 0) (fun _ _ => none), [(fq, .inl (cs 12, fc, .inr (.inr (.inr (.inr fg)))))], P] (fun _ => True) (fun v ps => ∃ (nf' : Nat → Int32), (ps = [wd_Nam cs hn rn no nf' na ng, wd_Lst cs (rn 0) (fun _ => 0) (fun k => if k = 0 then (some lq) else none) lf (fun _ _ => 0) (fun _ _ => none), lA cs own lq lc lg, wd_Lst cs (rn 1) (fun _ => 0) (fun k => if k = 0 then (some fq) else none) ff (fun _ _ => 0) (fun _ _ => none), [(fq, .inl (cs 12, fc, .inr (.inr (.inr (.inr fg)))))], P]) ∧ (NmI em P own (lf 1) (ff 1) (nf' 3) (nf' 4) lq lc fc lg fg) ∧ (v.toInt = (nf 4).toInt) ∧ ((nf' 4).toInt = (lf 1).toInt) ∧ ((nf' 3).toInt = (nf 3).toInt)) := by
  refine px_enter (by decide) (Nat.le_of_ble_eq_true rfl) ?_
  intro p e s m below meth c A ls hAe S hr hlk hnm hA hT hX hw hl
  replace hl : lv_has ls 2 [(0, .ref hn)] := hl
  obtain ⟨⟨hown, ⟨n1, n2, n3⟩, hEl, ⟨n4, n5, n6⟩, hEf⟩, hne, hnt, ⟨hfc, hlb, hfb⟩, ⟨hw0, hw1⟩, hsc, hEg, hk10⟩ := hinv0
  refine lv_aload_n S.x S.b d_Nam_enter_0 rfl (lv_at hl 0 rfl) ?_
  refine px_get S k_Nam hT hw 0 0 4 (v := .int (nf 4)) rfl rfl rfl (by decide) m2_79 d_Nam_enter_1 ?_
  refine lv_istore_n (lv' := [(1, .int (nf 4)), (0, .ref hn)]) S.x S.b d_Nam_enter_4 rfl hl (by decide) rfl (fun ls hl => ?_)
  refine lv_aload_n S.x S.b d_Nam_enter_5 rfl (lv_at hl 1 rfl) ?_
  refine lv_aload_n S.x S.b d_Nam_enter_6 rfl (lv_at hl 1 rfl) ?_
  refine px_get S k_Nam hT hw 0 0 0 (v := .ref (rn 0)) rfl rfl rfl (by decide) m2_75 d_Nam_enter_7 ?_
  have hw : pw D A s.heap _ _ [wd_Nam cs hn rn no nf na ng, lA cs own lq lc lg, wd_Lst cs (rn 1) (fun _ => 0) (fun k => if k = 0 then (some fq) else none) ff (fun _ _ => 0) (fun _ _ => none), [(fq, .inl (cs 12, fc, .inr (.inr (.inr (.inr fg)))))], P, wd_Lst cs (rn 0) (fun _ => 0) (fun k => if k = 0 then (some lq) else none) lf (fun _ _ => 0) (fun _ _ => none)] := hw.sub [0, 2, 3, 4, 5, 1] rfl rfl
  refine px_calli (pr := [wd_Nam cs hn rn no nf na ng, lA cs own lq lc lg, wd_Lst cs (rn 1) (fun _ => 0) (fun k => if k = 0 then (some fq) else none) ff (fun _ _ => 0) (fun _ _ => none), [(fq, .inl (cs 12, fc, .inr (.inr (.inr (.inr fg)))))], P]) (px_runV (As := []) (rest := [.ref hn]) S (c_ls_size l D cs (rn 0) lq lf    _) hT (pr := [wd_Nam cs hn rn no nf na ng, lA cs own lq lc lg, wd_Lst cs (rn 1) (fun _ => 0) (fun k => if k = 0 then (some fq) else none) ff (fun _ _ => 0) (fun _ _ => none), [(fq, .inl (cs 12, fc, .inr (.inr (.inr (.inr fg)))))], P]) (pcs := [wd_Lst cs (rn 0) (fun _ => 0) (fun k => if k = 0 then (some lq) else none) lf (fun _ _ => 0) (fun _ _ => none)]) hw px_X.tt (px_recv hT hw 5 0 rfl rfl rfl) m4_75 m4_72 m4_73 m4_74 m1_10 q_Lst_size ⟨Nat.le_of_ble_eq_true rfl, Nat.le_of_ble_eq_true rfl⟩ hl.1 rfl (Nat.le_of_ble_eq_true rfl) d_Nam_enter_10 ⟨Nat.le_of_ble_eq_true rfl, Nat.le_of_ble_eq_true rfl⟩) hw hA (fun v2 p1 H locs hp1 hw => ?_)
  obtain ⟨rfl, e3⟩ := hp1
  replace e3 : v2.toInt = (lf 1).toInt := e3
  replace hw : pw D A s.heap H locs [wd_Nam cs hn rn no nf na ng, lA cs own lq lc lg, wd_Lst cs (rn 1) (fun _ => 0) (fun k => if k = 0 then (some fq) else none) ff (fun _ _ => 0) (fun _ _ => none), [(fq, .inl (cs 12, fc, .inr (.inr (.inr (.inr fg)))))], P, wd_Lst cs (rn 0) (fun _ => 0) (fun k => if k = 0 then (some lq) else none) lf (fun _ _ => 0) (fun _ _ => none)] := hw
  have lv2 := Int32.le_toInt v2
  have uv2 := Int32.toInt_lt v2
  refine px_put S k_Nam hT hw 0 0 4 rfl rfl (by decide) m2_79 rfl rfl rfl (Nat.le_of_ble_eq_true rfl) d_Nam_enter_13 (w' := wd_Nam cs hn rn no (upd nf 4 v2) na ng) (ps' := [wd_Nam cs hn rn no (upd nf 4 v2) na ng, lA cs own lq lc lg, wd_Lst cs (rn 1) (fun _ => 0) (fun k => if k = 0 then (some fq) else none) ff (fun _ _ => 0) (fun _ _ => none), [(fq, .inl (cs 12, fc, .inr (.inr (.inr (.inr fg)))))], P, wd_Lst cs (rn 0) (fun _ => 0) (fun k => if k = 0 then (some lq) else none) lf (fun _ _ => 0) (fun _ _ => none)]) rfl rfl (fun H locs hw => ?_)
  refine lv_iload_n S.x S.b d_Nam_enter_16 rfl (lv_at hl 0 rfl) ?_
  have hw : pw D A s.heap _ _ [wd_Nam cs hn rn no (upd nf 4 v2) na ng, wd_Lst cs (rn 0) (fun _ => 0) (fun k => if k = 0 then (some lq) else none) lf (fun _ _ => 0) (fun _ _ => none), lA cs own lq lc lg, wd_Lst cs (rn 1) (fun _ => 0) (fun k => if k = 0 then (some fq) else none) ff (fun _ _ => 0) (fun _ _ => none), [(fq, .inl (cs 12, fc, .inr (.inr (.inr (.inr fg)))))], P] := hw.sub [0, 5, 1, 2, 3, 4] rfl rfl
  exact px_iret (v := (nf 4)) S hr rfl hlk hAe hw (Nat.le_of_ble_eq_true rfl) (Nat.le_of_ble_eq_true rfl) (⟨(upd nf 4 v2), rfl, (show NmI em P own (lf 1) (ff 1) (nf 3) v2 lq lc fc lg fg from ⟨⟨(by first | assumption | exact fun h => absurd h (by decide) | exact fun _ => rfl), ⟨by first | exact n1 | omega, by first | exact n2 | omega, by first | exact n3 | omega⟩, (by first | exact hEl | exact hEl.less (by omega) | exact hels), ⟨by first | exact n4 | omega, by first | exact n5 | omega, by first | exact n6 | omega⟩, (by first | exact hEf | exact hEf.less (by omega) | exact helf)⟩, (by first | assumption | exact fun h => absurd h (by decide)), (by first | assumption | exact fun h => absurd h (by decide) | exact fun _ => (by omega)), ⟨by first | exact hfc | omega, by first | exact hlb | omega, by first | exact hfb | omega⟩, ⟨by first | exact hw0 | omega, by first | exact hw1 | omega⟩, by first | exact oz_f3ebed1ad0 e3 n1 | omega, (by first | exact hEg | exact hEg.less (by omega) | exact helg), by first | exact hk10 | omega⟩), (show (nf 4).toInt = (nf 4).toInt from rfl), (show v2.toInt = (lf 1).toInt from by first | exact e3 | omega), (show (nf 3).toInt = (nf 3).toInt from rfl)⟩) d_Nam_enter_17
abbrev b_Nam_addWant : ByteArray := prog_5_method_12_code
def y_Nam_addWant : MethodName := ⟨"HomeSystem$Names", "addWant", "(LHomeSystem$Symbol;I)V"⟩
theorem d_Nam_addWant_0 : decode b_Nam_addWant 0 = .ok (.aload_n 0, 1) := by decide +kernel
theorem d_Nam_addWant_1 : decode b_Nam_addWant 1 = .ok (.getfield 56, 3) := by decide +kernel
theorem d_Nam_addWant_4 : decode b_Nam_addWant 4 = .ok (.aload_n 0, 1) := by decide +kernel
theorem d_Nam_addWant_5 : decode b_Nam_addWant 5 = .ok (.getfield 21, 3) := by decide +kernel
theorem d_Nam_addWant_8 : decode b_Nam_addWant 8 = .ok (.arraylength, 1) := by decide +kernel
theorem d_Nam_addWant_9 : decode b_Nam_addWant 9 = .ok (.if_icmp .ge 33, 3) := by decide +kernel
theorem d_Nam_addWant_12 : decode b_Nam_addWant 12 = .ok (.aload_n 0, 1) := by decide +kernel
theorem d_Nam_addWant_13 : decode b_Nam_addWant 13 = .ok (.getfield 21, 3) := by decide +kernel
theorem d_Nam_addWant_16 : decode b_Nam_addWant 16 = .ok (.aload_n 0, 1) := by decide +kernel
theorem d_Nam_addWant_17 : decode b_Nam_addWant 17 = .ok (.getfield 56, 3) := by decide +kernel
theorem d_Nam_addWant_20 : decode b_Nam_addWant 20 = .ok (.iload_n 2, 1) := by decide +kernel
theorem d_Nam_addWant_21 : decode b_Nam_addWant 21 = .ok (.iastore, 1) := by decide +kernel
theorem d_Nam_addWant_22 : decode b_Nam_addWant 22 = .ok (.aload_n 0, 1) := by decide +kernel
theorem d_Nam_addWant_23 : decode b_Nam_addWant 23 = .ok (.dup, 1) := by decide +kernel
theorem d_Nam_addWant_24 : decode b_Nam_addWant 24 = .ok (.getfield 56, 3) := by decide +kernel
theorem d_Nam_addWant_27 : decode b_Nam_addWant 27 = .ok (.iconst 1, 1) := by decide +kernel
theorem d_Nam_addWant_28 : decode b_Nam_addWant 28 = .ok (.iadd, 1) := by decide +kernel
theorem d_Nam_addWant_29 : decode b_Nam_addWant 29 = .ok (.putfield 56, 3) := by decide +kernel
theorem d_Nam_addWant_32 : decode b_Nam_addWant 32 = .ok (.aload_n 1, 1) := by decide +kernel
theorem d_Nam_addWant_33 : decode b_Nam_addWant 33 = .ok (.dup, 1) := by decide +kernel
theorem d_Nam_addWant_34 : decode b_Nam_addWant 34 = .ok (.getfield 49, 3) := by decide +kernel
theorem d_Nam_addWant_37 : decode b_Nam_addWant 37 = .ok (.iconst 1, 1) := by decide +kernel
theorem d_Nam_addWant_38 : decode b_Nam_addWant 38 = .ok (.iadd, 1) := by decide +kernel
theorem d_Nam_addWant_39 : decode b_Nam_addWant 39 = .ok (.putfield 49, 3) := by decide +kernel
theorem d_Nam_addWant_42 : decode b_Nam_addWant 42 = .ok (.return_, 1) := by decide +kernel
theorem q_Nam_addWant : px_y y_Nam_addWant 2 := by unfold px_y; decide +kernel
set_option maxHeartbeats 4000000 in
set_option maxRecDepth 100000 in
theorem c_nw_addWant (l : Launch) (D : va_G) (cs : Nat → ClassId) (em : Nat) (hn : Nat) (rn : Nat → Nat) (no : Nat → Option Nat) (ng : Nat → Nat → Option Nat) (own : Bool) (lq : Nat) (lc : Nat) (lf : Nat → Int32) (lg : Nat → Option Nat) (fq : Nat) (fc : Nat) (ff : Nat → Int32) (fg : Nat → Option Nat) (nf : Nat → Int32) (na : Nat → Nat → Int32) (P : va_W) (p0 : Int32) (fa : Nat) (hinv0 : NmI em P own (lf 1) (ff 1) (nf 3) (nf 4) lq lc fc lg fg) (hsy : Sy P (some fa)) : MetV l y_Nam_addWant b_Nam_addWant 3 D cs 0 0 (0) (0) [.ref hn, .ref fa, .int p0] [wd_Nam cs hn rn no nf na ng, wd_Lst cs (rn 0) (fun _ => 0) (fun k => if k = 0 then (some lq) else none) lf (fun _ _ => 0) (fun _ _ => none), lA cs own lq lc lg, wd_Lst cs (rn 1) (fun _ => 0) (fun k => if k = 0 then (some fq) else none) ff (fun _ _ => 0) (fun _ _ => none), [(fq, .inl (cs 12, fc, .inr (.inr (.inr (.inr fg)))))], P] (fun _ => True) (fun ps => ∃ (nf' : Nat → Int32) (na' : Nat → Nat → Int32) (P' : va_W), (ps = [wd_Nam cs hn rn no nf' na' ng, wd_Lst cs (rn 0) (fun _ => 0) (fun k => if k = 0 then (some lq) else none) lf (fun _ _ => 0) (fun _ _ => none), lA cs own lq lc lg, wd_Lst cs (rn 1) (fun _ => 0) (fun k => if k = 0 then (some fq) else none) ff (fun _ _ => 0) (fun _ _ => none), [(fq, .inl (cs 12, fc, .inr (.inr (.inr (.inr fg)))))], P']) ∧ (NmI em P' own (lf 1) (ff 1) (nf' 3) (nf' 4) lq lc fc lg fg) ∧ ((nf' 4).toInt = (nf 4).toInt) ∧ (Pg P P')) := by
  refine px_enter (by decide) (Nat.le_of_ble_eq_true rfl) ?_
  intro p e s m below meth c A ls hAe S hr hlk hnm hA hT hX hw hl
  replace hl : lv_has ls 3 [(0, .ref hn), (1, .ref fa), (2, .int p0)] := hl
  have lp0 := Int32.le_toInt p0
  have up0 := Int32.toInt_lt p0
  have cst1 : (1 : Int32).toInt = 1 := rfl
  obtain ⟨⟨hown, ⟨n1, n2, n3⟩, hEl, ⟨n4, n5, n6⟩, hEf⟩, hne, hnt, ⟨hfc, hlb, hfb⟩, ⟨hw0, hw1⟩, hsc, hEg, hk10⟩ := hinv0
  refine lv_aload_n S.x S.b d_Nam_addWant_0 rfl (lv_at hl 0 rfl) ?_
  refine px_get S k_Nam hT hw 0 0 3 (v := .int (nf 3)) rfl rfl rfl (by decide) m2_78 d_Nam_addWant_1 ?_
  refine lv_aload_n S.x S.b d_Nam_addWant_4 rfl (lv_at hl 0 rfl) ?_
  refine px_get S k_Nam hT hw 0 0 2 (v := .ref (rn 2)) rfl rfl rfl (by decide) m2_77 d_Nam_addWant_5 ?_
  refine px_len S hT hw 0 1 0 rfl rfl rfl (v := 2048) rfl d_Nam_addWant_8 ?_
  refine lv_icmp_ge (tgt := 42) S.x S.b d_Nam_addWant_9 (by decide) (fun c1 => ?_) (fun c1 => ?_)
  · have nc1 : (2048 : Int) ≤ (nf 3).toInt := (i_le (x := 2048) (y := (nf 3))).mp c1
    exact px_vret S hr hlk hAe hw (Nat.le_of_ble_eq_true rfl) (Nat.le_of_ble_eq_true rfl) (⟨nf, na, P, rfl, (show NmI em P own (lf 1) (ff 1) (nf 3) (nf 4) lq lc fc lg fg from ⟨⟨(by first | assumption | exact fun h => absurd h (by decide) | exact fun _ => rfl), ⟨by first | exact n1 | omega, by first | exact n2 | omega, by first | exact n3 | omega⟩, (by first | exact hEl | exact hEl.less (by omega) | exact hels), ⟨by first | exact n4 | omega, by first | exact n5 | omega, by first | exact n6 | omega⟩, (by first | exact hEf | exact hEf.less (by omega) | exact helf)⟩, (by first | assumption | exact fun h => absurd h (by decide)), (by first | assumption | exact fun h => absurd h (by decide) | exact fun _ => (by omega)), ⟨by first | exact hfc | omega, by first | exact hlb | omega, by first | exact hfb | omega⟩, ⟨by first | exact hw0 | omega, by first | exact hw1 | omega⟩, by first | exact hsc | omega, (by first | exact hEg | exact hEg.less (by omega) | exact helg), by first | exact hk10 | omega⟩), (show (nf 4).toInt = (nf 4).toInt from rfl), (show Pg P P from (by first | exact Pg.rf | exact hpg | assumption))⟩) d_Nam_addWant_42
  · have nc1 : ¬ (2048 : Int) ≤ (nf 3).toInt := mt (i_le (x := 2048) (y := (nf 3))).mpr c1
    refine lv_aload_n S.x S.b d_Nam_addWant_12 rfl (lv_at hl 0 rfl) ?_
    refine px_get S k_Nam hT hw 0 0 2 (v := .ref (rn 2)) rfl rfl rfl (by decide) m2_77 d_Nam_addWant_13 ?_
    refine lv_aload_n S.x S.b d_Nam_addWant_16 rfl (lv_at hl 0 rfl) ?_
    refine px_get S k_Nam hT hw 0 0 3 (v := .int (nf 3)) rfl rfl rfl (by decide) m2_78 d_Nam_addWant_17 ?_
    refine lv_iload_n S.x S.b d_Nam_addWant_20 rfl (lv_at hl 2 rfl) ?_
    refine px_iast S hT hw 0 1 (n := 2048) (f := (na 2)) (x := (nf 3)) (y := p0) rfl (ga_Nam_2 _ _ _ _ _ _ _) (vp_in_iff.mpr (by constructor <;> omega)) d_Nam_addWant_21 (w' := wd_Nam cs hn rn no nf (va_up na 2 (upd (na 2) (nf 3).toNatClampNeg p0)) ng) (ps' := [wd_Nam cs hn rn no nf (va_up na 2 (upd (na 2) (nf 3).toNatClampNeg p0)) ng, wd_Lst cs (rn 0) (fun _ => 0) (fun k => if k = 0 then (some lq) else none) lf (fun _ _ => 0) (fun _ _ => none), lA cs own lq lc lg, wd_Lst cs (rn 1) (fun _ => 0) (fun k => if k = 0 then (some fq) else none) ff (fun _ _ => 0) (fun _ _ => none), [(fq, .inl (cs 12, fc, .inr (.inr (.inr (.inr fg)))))], P]) (sa_Nam_2 _ _ _ _ _ _ _ _) rfl (fun H locs hw => ?_)
    refine lv_aload_n S.x S.b d_Nam_addWant_22 rfl (lv_at hl 0 rfl) ?_
    refine lv_dup S.x S.b d_Nam_addWant_23 rfl ?_
    refine px_get S k_Nam hT hw 0 0 3 (v := .int (nf 3)) rfl rfl rfl (by decide) m2_78 d_Nam_addWant_24 ?_
    refine lv_iconst (v := 1) S.x S.b d_Nam_addWant_27 (by decide) ?_
    refine lv_iadd S.x S.b d_Nam_addWant_28 ?_
    have lr2 := Int32.le_toInt (nf 3)
    have ur2 := Int32.toInt_lt (nf 3)
    refine lv_topi (fun z3 ez3 => ?_)
    have tz3 : z3.toInt = ((nf 3).toInt + (1 : Int) + 2147483648) % 4294967296 - 2147483648 := by rw [ez3]; exact i_add (nf 3) 1
    have lz3 := Int32.le_toInt z3
    have uz3 := Int32.toInt_lt z3
    try replace tz3 : z3.toInt = (nf 3).toInt + (1 : Int) := by omega
    refine px_put S k_Nam hT hw 0 0 3 rfl rfl (by decide) m2_78 rfl rfl rfl (Nat.le_of_ble_eq_true rfl) d_Nam_addWant_29 (w' := wd_Nam cs hn rn no (upd nf 3 z3) (va_up na 2 (upd (na 2) (nf 3).toNatClampNeg p0)) ng) (ps' := [wd_Nam cs hn rn no (upd nf 3 z3) (va_up na 2 (upd (na 2) (nf 3).toNatClampNeg p0)) ng, wd_Lst cs (rn 0) (fun _ => 0) (fun k => if k = 0 then (some lq) else none) lf (fun _ _ => 0) (fun _ _ => none), lA cs own lq lc lg, wd_Lst cs (rn 1) (fun _ => 0) (fun k => if k = 0 then (some fq) else none) ff (fun _ _ => 0) (fun _ _ => none), [(fq, .inl (cs 12, fc, .inr (.inr (.inr (.inr fg)))))], P]) rfl rfl (fun H locs hw => ?_)
    refine lv_aload_n S.x S.b d_Nam_addWant_32 rfl (lv_at hl 1 rfl) ?_
    refine lv_dup S.x S.b d_Nam_addWant_33 rfl ?_
    obtain ⟨j4, s5, hj6⟩ := (show Sy P (some fa) by first | assumption | exact Fy.sy (by assumption)).at
    refine px_get S k_Sym hT hw 5 j4 4 (v := .int (s5 4)) rfl hj6 rfl (by decide) m1_218 d_Nam_addWant_34 ?_
    refine lv_iconst (v := 1) S.x S.b d_Nam_addWant_37 (by decide) ?_
    refine lv_iadd S.x S.b d_Nam_addWant_38 ?_
    have lr7 := Int32.le_toInt (s5 4)
    have ur7 := Int32.toInt_lt (s5 4)
    refine lv_topi (fun z8 ez8 => ?_)
    have lz8 := Int32.le_toInt z8
    have uz8 := Int32.toInt_lt z8
    refine px_put S k_Sym hT hw 5 j4 4 rfl hj6 (by decide) m1_218 rfl rfl rfl (Nat.le_of_ble_eq_true rfl) d_Nam_addWant_39 (w' := (P.set j4 (syC fa (upd s5 4 z8)))) (ps' := [wd_Nam cs hn rn no (upd nf 3 z3) (va_up na 2 (upd (na 2) (nf 3).toNatClampNeg p0)) ng, wd_Lst cs (rn 0) (fun _ => 0) (fun k => if k = 0 then (some lq) else none) lf (fun _ _ => 0) (fun _ _ => none), lA cs own lq lc lg, wd_Lst cs (rn 1) (fun _ => 0) (fun k => if k = 0 then (some fq) else none) ff (fun _ _ => 0) (fun _ _ => none), [(fq, .inl (cs 12, fc, .inr (.inr (.inr (.inr fg)))))], (P.set j4 (syC fa (upd s5 4 z8)))]) rfl rfl (fun H locs hw => ?_)
    have hpnP9 : Pg P (P.set j4 (syC fa (upd s5 4 z8))) := pg_set hj6 rfl rfl
    generalize (P.set j4 (syC fa (upd s5 4 z8))) = P9 at hw hpnP9
    have hpg := hpnP9
    have hEl := hpnP9.els hEl
    have hEf := hpnP9.elf hEf
    have hEg := hpnP9.elg hEg
    replace hw : pw D A s.heap _ _ [wd_Nam cs hn rn no (upd nf 3 z3) (va_up na 2 (upd (na 2) (nf 3).toNatClampNeg p0)) ng, wd_Lst cs (rn 0) (fun _ => 0) (fun k => if k = 0 then (some lq) else none) lf (fun _ _ => 0) (fun _ _ => none), lA cs own lq lc lg, wd_Lst cs (rn 1) (fun _ => 0) (fun k => if k = 0 then (some fq) else none) ff (fun _ _ => 0) (fun _ _ => none), [(fq, .inl (cs 12, fc, .inr (.inr (.inr (.inr fg)))))], P9] := hw
    exact px_vret S hr hlk hAe hw (Nat.le_of_ble_eq_true rfl) (Nat.le_of_ble_eq_true rfl) (⟨(upd nf 3 z3), (va_up na 2 (upd (na 2) (nf 3).toNatClampNeg p0)), P9, rfl, (show NmI em P9 own (lf 1) (ff 1) z3 (nf 4) lq lc fc lg fg from ⟨⟨(by first | assumption | exact fun h => absurd h (by decide) | exact fun _ => rfl), ⟨by first | exact n1 | omega, by first | exact n2 | omega, by first | exact n3 | omega⟩, (by first | exact hEl | exact hEl.less (by omega) | exact hels), ⟨by first | exact n4 | omega, by first | exact n5 | omega, by first | exact n6 | omega⟩, (by first | exact hEf | exact hEf.less (by omega) | exact helf)⟩, (by first | assumption | exact fun h => absurd h (by decide)), (by first | assumption | exact fun h => absurd h (by decide) | exact fun _ => (by omega)), ⟨by first | exact hfc | omega, by first | exact hlb | omega, by first | exact hfb | omega⟩, ⟨by first | exact oz_b3b25f0e49 tz3 hw0 | omega, by first | exact oz_53ab253ca6 tz3 nc1 | omega⟩, by first | exact hsc | omega, (by first | exact hEg | exact hEg.less (by omega) | exact helg), by first | exact hk10 | omega⟩), (show (nf 4).toInt = (nf 4).toInt from rfl), (show Pg P P9 from (by first | exact Pg.rf | exact hpg | assumption))⟩) d_Nam_addWant_42
abbrev b_Nam_addFunction : ByteArray := prog_5_method_10_code
def y_Nam_addFunction : MethodName := ⟨"HomeSystem$Names", "addFunction", "(II)LHomeSystem$Symbol;"⟩
theorem d_Nam_addFunction_0 : decode b_Nam_addFunction 0 = .ok (.new 28, 3) := by decide +kernel
theorem d_Nam_addFunction_3 : decode b_Nam_addFunction 3 = .ok (.dup, 1) := by decide +kernel
theorem d_Nam_addFunction_4 : decode b_Nam_addFunction 4 = .ok (.iload_n 1, 1) := by decide +kernel
theorem d_Nam_addFunction_5 : decode b_Nam_addFunction 5 = .ok (.iconst 2, 1) := by decide +kernel
theorem d_Nam_addFunction_6 : decode b_Nam_addFunction 6 = .ok (.invokespecial 30, 3) := by decide +kernel
theorem d_Nam_addFunction_9 : decode b_Nam_addFunction 9 = .ok (.astore_n 3, 1) := by decide +kernel
theorem d_Nam_addFunction_10 : decode b_Nam_addFunction 10 = .ok (.aload_n 3, 1) := by decide +kernel
theorem d_Nam_addFunction_11 : decode b_Nam_addFunction 11 = .ok (.aload_n 0, 1) := by decide +kernel
theorem d_Nam_addFunction_12 : decode b_Nam_addFunction 12 = .ok (.getfield 18, 3) := by decide +kernel
theorem d_Nam_addFunction_15 : decode b_Nam_addFunction 15 = .ok (.invokevirtual 59, 3) := by decide +kernel
theorem d_Nam_addFunction_18 : decode b_Nam_addFunction 18 = .ok (.putfield 33, 3) := by decide +kernel
theorem d_Nam_addFunction_21 : decode b_Nam_addFunction 21 = .ok (.aload_n 3, 1) := by decide +kernel
theorem d_Nam_addFunction_22 : decode b_Nam_addFunction 22 = .ok (.iload_n 2, 1) := by decide +kernel
theorem d_Nam_addFunction_23 : decode b_Nam_addFunction 23 = .ok (.putfield 40, 3) := by decide +kernel
theorem d_Nam_addFunction_26 : decode b_Nam_addFunction 26 = .ok (.aload_n 3, 1) := by decide +kernel
theorem d_Nam_addFunction_27 : decode b_Nam_addFunction 27 = .ok (.aload_n 0, 1) := by decide +kernel
theorem d_Nam_addFunction_28 : decode b_Nam_addFunction 28 = .ok (.getfield 56, 3) := by decide +kernel
theorem d_Nam_addFunction_31 : decode b_Nam_addFunction 31 = .ok (.putfield 43, 3) := by decide +kernel
theorem d_Nam_addFunction_34 : decode b_Nam_addFunction 34 = .ok (.aload_n 0, 1) := by decide +kernel
theorem d_Nam_addFunction_35 : decode b_Nam_addFunction 35 = .ok (.getfield 18, 3) := by decide +kernel
theorem d_Nam_addFunction_38 : decode b_Nam_addFunction 38 = .ok (.aload_n 3, 1) := by decide +kernel
theorem d_Nam_addFunction_39 : decode b_Nam_addFunction 39 = .ok (.invokevirtual 52, 3) := by decide +kernel
theorem d_Nam_addFunction_42 : decode b_Nam_addFunction 42 = .ok (.pop, 1) := by decide +kernel
theorem d_Nam_addFunction_43 : decode b_Nam_addFunction 43 = .ok (.aload_n 3, 1) := by decide +kernel
theorem d_Nam_addFunction_44 : decode b_Nam_addFunction 44 = .ok (.areturn, 1) := by decide +kernel
theorem q_Nam_addFunction : px_y y_Nam_addFunction 2 := by unfold px_y; decide +kernel
set_option maxHeartbeats 4000000 in
set_option maxRecDepth 100000 in
theorem c_nw_addFunction (l : Launch) (D : va_G) (cs : Nat → ClassId) (em : Nat) (mi : Nat) (hn : Nat) (rn : Nat → Nat) (no : Nat → Option Nat) (ng : Nat → Nat → Option Nat) (nf : Nat → Int32) (na : Nat → Nat → Int32) (own : Bool) (lq : Nat) (lc : Nat) (lf : Nat → Int32) (lg : Nat → Option Nat) (fq : Nat) (fc : Nat) (ff : Nat → Int32) (fg : Nat → Option Nat) (P : va_W) (p0 p1 : Int32)  (hinv0 : NmI em P own (lf 1) (ff 1) (nf 3) (nf 4) lq lc fc lg fg) (g0 : (ff 1).toInt ≤ 2400) : MgR l y_Nam_addFunction b_Nam_addFunction 4 (.object "HomeSystem$Symbol") D cs 7 470 (2) ((4 * fc + 60)) [.ref hn, .int p0, .int p1] [wd_Nam cs hn rn no nf na ng, wd_Lst cs (rn 0) (fun _ => 0) (fun k => if k = 0 then (some lq) else none) lf (fun _ _ => 0) (fun _ _ => none), lA cs own lq lc lg, wd_Lst cs (rn 1) (fun _ => 0) (fun k => if k = 0 then (some fq) else none) ff (fun _ _ => 0) (fun _ _ => none), [(fq, .inl (cs 12, fc, .inr (.inr (.inr (.inr fg)))))], P] (oX (fun A U H => (oE A em U H) ∧ (va_Mi "[Ljava/lang/Object;" mi U)) [wd_Nam cs hn rn no nf na ng, wd_Lst cs (rn 0) (fun _ => 0) (fun k => if k = 0 then (some lq) else none) lf (fun _ _ => 0) (fun _ _ => none), lA cs own lq lc lg, wd_Lst cs (rn 1) (fun _ => 0) (fun k => if k = 0 then (some fq) else none) ff (fun _ _ => 0) (fun _ _ => none), [(fq, .inl (cs 12, fc, .inr (.inr (.inr (.inr fg)))))], P]) (fun v ps => ∃ (fq' : Nat) (fc' : Nat) (ff' : Nat → Int32) (fg' : Nat → Option Nat) (P' : va_W), (ps.1 = [wd_Nam cs hn rn no nf na ng, wd_Lst cs (rn 0) (fun _ => 0) (fun k => if k = 0 then (some lq) else none) lf (fun _ _ => 0) (fun _ _ => none), lA cs own lq lc lg, wd_Lst cs (rn 1) (fun _ => 0) (fun k => if k = 0 then (some fq') else none) ff' (fun _ _ => 0) (fun _ _ => none), [(fq', .inl (cs 12, fc', .inr (.inr (.inr (.inr fg')))))], P']) ∧ (NmI em P' own (lf 1) (ff' 1) (nf 3) (nf 4) lq lc fc' lg fg') ∧ ((ff' 1).toInt = (ff 1).toInt + 1) ∧ (Pg P P') ∧ ((fc : Int) ≤ (fc' : Int)) ∧ ((fc' : Int) ≤ 2 * (fc : Int) + 10) ∧ (Lcap fc (ff 1) fc') ∧ (Fy P' v) ∧ (Nz v) ∧ ((ps.2.1 : Int) ≤ 1 + (fc' : Int) - (fc : Int)) ∧ ((ps.2.2 : Int) ≤ 7 + 4 * ((fc' : Int) - (fc : Int)))) := by
  refine pg_enter (by decide) (Nat.le_of_ble_eq_true rfl) ?_
  intro p e s m below meth c A ls hAe S hr hlk hnm hA hT hX hw hl
  replace hl : lv_has ls 4 [(0, .ref hn), (1, .int p0), (2, .int p1)] := hl
  have lp0 := Int32.le_toInt p0
  have up0 := Int32.toInt_lt p0
  have lp1 := Int32.le_toInt p1
  have up1 := Int32.toInt_lt p1
  have cst2 : (2 : Int32).toInt = 2 := rfl
  have hX : (fun A U H => (oE A em U H) ∧ (va_Mi "[Ljava/lang/Object;" mi U)) A s s.heap := by rw [hAe]; exact hX
  obtain ⟨hE, hM⟩ := hX
  obtain ⟨⟨hown, ⟨n1, n2, n3⟩, hEl, ⟨n4, n5, n6⟩, hEf⟩, hne, hnt, ⟨hfc, hlb, hfb⟩, ⟨hw0, hw1⟩, hsc, hEg, hk10⟩ := hinv0
  refine px_new S k_Sym hT hw hA m1_202 m1_203 m1_11 (fs := [.int 0, .int 0, .int 0, .int 0, .int 0, .int 0, .int 0]) (by decide +kernel) (show 0 + 1 ≤ 2 from by first | decide | omega) (show 0 + 7 ≤ (4 * fc + 60) from by first | exact oz_d5ec294563 | omega) d_Nam_addFunction_0 (fun q1 H hw => ?_)
  replace hw : pw D A s.heap H _ [wd_Nam cs hn rn no nf na ng, wd_Lst cs (rn 0) (fun _ => 0) (fun k => if k = 0 then (some lq) else none) lf (fun _ _ => 0) (fun _ _ => none), lA cs own lq lc lg, wd_Lst cs (rn 1) (fun _ => 0) (fun k => if k = 0 then (some fq) else none) ff (fun _ _ => 0) (fun _ _ => none), [(fq, .inl (cs 12, fc, .inr (.inr (.inr (.inr fg)))))], P, [(q1, .inr (3, [.int 0, .int 0, .int 0, .int 0, .int 0, .int 0, .int 0]))]] := hw
  refine lv_dup S.x S.b d_Nam_addFunction_3 rfl ?_
  refine lv_iload_n S.x S.b d_Nam_addFunction_4 rfl (lv_at hl 1 rfl) ?_
  refine lv_iconst (v := 2) S.x S.b d_Nam_addFunction_5 (by decide) ?_
  refine px_callv (pr := [wd_Nam cs hn rn no nf na ng, wd_Lst cs (rn 0) (fun _ => 0) (fun k => if k = 0 then (some lq) else none) lf (fun _ _ => 0) (fun _ _ => none), lA cs own lq lc lg, wd_Lst cs (rn 1) (fun _ => 0) (fun k => if k = 0 then (some fq) else none) ff (fun _ _ => 0) (fun _ _ => none), [(fq, .inl (cs 12, fc, .inr (.inr (.inr (.inr fg)))))], P]) (px_runI (As := [.int p0, .int 2]) (rest := [.ref q1]) S (c_Sym_init l D cs q1 p0 2 _) hT (pr := [wd_Nam cs hn rn no nf na ng, wd_Lst cs (rn 0) (fun _ => 0) (fun k => if k = 0 then (some lq) else none) lf (fun _ _ => 0) (fun _ _ => none), lA cs own lq lc lg, wd_Lst cs (rn 1) (fun _ => 0) (fun k => if k = 0 then (some fq) else none) ff (fun _ _ => 0) (fun _ _ => none), [(fq, .inl (cs 12, fc, .inr (.inr (.inr (.inr fg)))))], P]) (pcs := [[(q1, .inr (3, [.int 0, .int 0, .int 0, .int 0, .int 0, .int 0, .int 0]))]]) hw px_X.tt m1_206 m1_204 m1_205 m1_11 rfl q_Sym_init ⟨Nat.le_of_ble_eq_true rfl, Nat.le_of_ble_eq_true rfl⟩ hl.1 rfl (Nat.le_of_ble_eq_true rfl) d_Nam_addFunction_6 ⟨show (0 + 1) + 0 ≤ 2 from by omega, show (0 + 7) + 0 ≤ (4 * fc + 60) from (by first | exact oz_ae778f43fd | omega)⟩) hw hA (fun p2 H locs hp2 hw => ?_)
  subst hp2
  replace hw : pw D A s.heap H locs [wd_Nam cs hn rn no nf na ng, wd_Lst cs (rn 0) (fun _ => 0) (fun k => if k = 0 then (some lq) else none) lf (fun _ _ => 0) (fun _ _ => none), lA cs own lq lc lg, wd_Lst cs (rn 1) (fun _ => 0) (fun k => if k = 0 then (some fq) else none) ff (fun _ _ => 0) (fun _ _ => none), [(fq, .inl (cs 12, fc, .inr (.inr (.inr (.inr fg)))))], P, wd_Sym cs q1 (fun _ => 0) (fun _ => none) (upd (upd (upd (upd (upd (upd (upd (fun _ => 0) 0 p0) 1 2) 2 0) 3 0) 4 0) 5 0) 6 0) (fun _ _ => 0) (fun _ _ => none)] := hw
  refine lv_astore_n (lv' := [(3, .ref q1), (0, .ref hn), (1, .int p0), (2, .int p1)]) S.x S.b d_Nam_addFunction_9 rfl hl (by decide) rfl (fun ls hl => ?_)
  refine lv_aload_n S.x S.b d_Nam_addFunction_10 rfl (lv_at hl 0 rfl) ?_
  refine lv_aload_n S.x S.b d_Nam_addFunction_11 rfl (lv_at hl 1 rfl) ?_
  refine px_get S k_Nam hT hw 0 0 1 (v := .ref (rn 1)) rfl rfl rfl (by decide) m2_76 d_Nam_addFunction_12 ?_
  have hw : pw D A s.heap _ _ [wd_Nam cs hn rn no nf na ng, wd_Lst cs (rn 0) (fun _ => 0) (fun k => if k = 0 then (some lq) else none) lf (fun _ _ => 0) (fun _ _ => none), lA cs own lq lc lg, [(fq, .inl (cs 12, fc, .inr (.inr (.inr (.inr fg)))))], P, wd_Sym cs q1 (fun _ => 0) (fun _ => none) (upd (upd (upd (upd (upd (upd (upd (fun _ => 0) 0 p0) 1 2) 2 0) 3 0) 4 0) 5 0) 6 0) (fun _ _ => 0) (fun _ _ => none), wd_Lst cs (rn 1) (fun _ => 0) (fun k => if k = 0 then (some fq) else none) ff (fun _ _ => 0) (fun _ _ => none)] := hw.sub [0, 1, 2, 4, 5, 6, 3] rfl rfl
  refine px_calli (pr := [wd_Nam cs hn rn no nf na ng, wd_Lst cs (rn 0) (fun _ => 0) (fun k => if k = 0 then (some lq) else none) lf (fun _ _ => 0) (fun _ _ => none), lA cs own lq lc lg, [(fq, .inl (cs 12, fc, .inr (.inr (.inr (.inr fg)))))], P, wd_Sym cs q1 (fun _ => 0) (fun _ => none) (upd (upd (upd (upd (upd (upd (upd (fun _ => 0) 0 p0) 1 2) 2 0) 3 0) 4 0) 5 0) 6 0) (fun _ _ => 0) (fun _ _ => none)]) (px_runV (As := []) (rest := [.ref q1]) S (c_ls_size l D cs (rn 1) fq ff    _) hT (pr := [wd_Nam cs hn rn no nf na ng, wd_Lst cs (rn 0) (fun _ => 0) (fun k => if k = 0 then (some lq) else none) lf (fun _ _ => 0) (fun _ _ => none), lA cs own lq lc lg, [(fq, .inl (cs 12, fc, .inr (.inr (.inr (.inr fg)))))], P, wd_Sym cs q1 (fun _ => 0) (fun _ => none) (upd (upd (upd (upd (upd (upd (upd (fun _ => 0) 0 p0) 1 2) 2 0) 3 0) 4 0) 5 0) 6 0) (fun _ _ => 0) (fun _ _ => none)]) (pcs := [wd_Lst cs (rn 1) (fun _ => 0) (fun k => if k = 0 then (some fq) else none) ff (fun _ _ => 0) (fun _ _ => none)]) hw px_X.tt (px_recv hT hw 6 0 rfl rfl rfl) m4_75 m4_72 m4_73 m4_74 m1_10 q_Lst_size ⟨Nat.le_of_ble_eq_true rfl, Nat.le_of_ble_eq_true rfl⟩ hl.1 rfl (Nat.le_of_ble_eq_true rfl) d_Nam_addFunction_15 ⟨show (0 + 1) + 0 ≤ 2 from by omega, show (0 + 7) + 0 ≤ (4 * fc + 60) from (by first | exact oz_ae778f43fd | omega)⟩) hw hA (fun v5 p4 H locs hp4 hw => ?_)
  obtain ⟨rfl, e6⟩ := hp4
  replace e6 : v5.toInt = (ff 1).toInt := e6
  replace hw : pw D A s.heap H locs [wd_Nam cs hn rn no nf na ng, wd_Lst cs (rn 0) (fun _ => 0) (fun k => if k = 0 then (some lq) else none) lf (fun _ _ => 0) (fun _ _ => none), lA cs own lq lc lg, [(fq, .inl (cs 12, fc, .inr (.inr (.inr (.inr fg)))))], P, wd_Sym cs q1 (fun _ => 0) (fun _ => none) (upd (upd (upd (upd (upd (upd (upd (fun _ => 0) 0 p0) 1 2) 2 0) 3 0) 4 0) 5 0) 6 0) (fun _ _ => 0) (fun _ _ => none), wd_Lst cs (rn 1) (fun _ => 0) (fun k => if k = 0 then (some fq) else none) ff (fun _ _ => 0) (fun _ _ => none)] := hw
  have lv5 := Int32.le_toInt v5
  have uv5 := Int32.toInt_lt v5
  refine px_put S k_Sym hT hw 5 0 5 rfl rfl (by decide) m1_221 rfl rfl rfl (Nat.le_of_ble_eq_true rfl) d_Nam_addFunction_18 (w' := wd_Sym cs q1 (fun _ => 0) (fun _ => none) (upd (upd (upd (upd (upd (upd (upd (fun _ => 0) 0 p0) 1 2) 2 0) 3 0) 4 0) 5 v5) 6 0) (fun _ _ => 0) (fun _ _ => none)) (ps' := [wd_Nam cs hn rn no nf na ng, wd_Lst cs (rn 0) (fun _ => 0) (fun k => if k = 0 then (some lq) else none) lf (fun _ _ => 0) (fun _ _ => none), lA cs own lq lc lg, [(fq, .inl (cs 12, fc, .inr (.inr (.inr (.inr fg)))))], P, wd_Sym cs q1 (fun _ => 0) (fun _ => none) (upd (upd (upd (upd (upd (upd (upd (fun _ => 0) 0 p0) 1 2) 2 0) 3 0) 4 0) 5 v5) 6 0) (fun _ _ => 0) (fun _ _ => none), wd_Lst cs (rn 1) (fun _ => 0) (fun k => if k = 0 then (some fq) else none) ff (fun _ _ => 0) (fun _ _ => none)]) rfl rfl (fun H locs hw => ?_)
  refine lv_aload_n S.x S.b d_Nam_addFunction_21 rfl (lv_at hl 0 rfl) ?_
  refine lv_iload_n S.x S.b d_Nam_addFunction_22 rfl (lv_at hl 3 rfl) ?_
  refine px_put S k_Sym hT hw 5 0 6 rfl rfl (by decide) m1_224 rfl rfl rfl (Nat.le_of_ble_eq_true rfl) d_Nam_addFunction_23 (w' := wd_Sym cs q1 (fun _ => 0) (fun _ => none) (upd (upd (upd (upd (upd (upd (upd (fun _ => 0) 0 p0) 1 2) 2 0) 3 0) 4 0) 5 v5) 6 p1) (fun _ _ => 0) (fun _ _ => none)) (ps' := [wd_Nam cs hn rn no nf na ng, wd_Lst cs (rn 0) (fun _ => 0) (fun k => if k = 0 then (some lq) else none) lf (fun _ _ => 0) (fun _ _ => none), lA cs own lq lc lg, [(fq, .inl (cs 12, fc, .inr (.inr (.inr (.inr fg)))))], P, wd_Sym cs q1 (fun _ => 0) (fun _ => none) (upd (upd (upd (upd (upd (upd (upd (fun _ => 0) 0 p0) 1 2) 2 0) 3 0) 4 0) 5 v5) 6 p1) (fun _ _ => 0) (fun _ _ => none), wd_Lst cs (rn 1) (fun _ => 0) (fun k => if k = 0 then (some fq) else none) ff (fun _ _ => 0) (fun _ _ => none)]) rfl rfl (fun H locs hw => ?_)
  refine lv_aload_n S.x S.b d_Nam_addFunction_26 rfl (lv_at hl 0 rfl) ?_
  refine lv_aload_n S.x S.b d_Nam_addFunction_27 rfl (lv_at hl 1 rfl) ?_
  refine px_get S k_Nam hT hw 0 0 3 (v := .int (nf 3)) rfl rfl rfl (by decide) m2_78 d_Nam_addFunction_28 ?_
  refine px_put S k_Sym hT hw 5 0 3 rfl rfl (by decide) m1_215 rfl rfl rfl (Nat.le_of_ble_eq_true rfl) d_Nam_addFunction_31 (w' := wd_Sym cs q1 (fun _ => 0) (fun _ => none) (upd (upd (upd (upd (upd (upd (upd (fun _ => 0) 0 p0) 1 2) 2 0) 3 (nf 3)) 4 0) 5 v5) 6 p1) (fun _ _ => 0) (fun _ _ => none)) (ps' := [wd_Nam cs hn rn no nf na ng, wd_Lst cs (rn 0) (fun _ => 0) (fun k => if k = 0 then (some lq) else none) lf (fun _ _ => 0) (fun _ _ => none), lA cs own lq lc lg, [(fq, .inl (cs 12, fc, .inr (.inr (.inr (.inr fg)))))], P, wd_Sym cs q1 (fun _ => 0) (fun _ => none) (upd (upd (upd (upd (upd (upd (upd (fun _ => 0) 0 p0) 1 2) 2 0) 3 (nf 3)) 4 0) 5 v5) 6 p1) (fun _ _ => 0) (fun _ _ => none), wd_Lst cs (rn 1) (fun _ => 0) (fun k => if k = 0 then (some fq) else none) ff (fun _ _ => 0) (fun _ _ => none)]) rfl rfl (fun H locs hw => ?_)
  have hw : pw D A s.heap _ _ ([wd_Nam cs hn rn no nf na ng, wd_Lst cs (rn 0) (fun _ => 0) (fun k => if k = 0 then (some lq) else none) lf (fun _ _ => 0) (fun _ _ => none), lA cs own lq lc lg, [(fq, .inl (cs 12, fc, .inr (.inr (.inr (.inr fg)))))], wd_Lst cs (rn 1) (fun _ => 0) (fun k => if k = 0 then (some fq) else none) ff (fun _ _ => 0) (fun _ _ => none)] ++ [P, wd_Sym cs q1 (fun _ => 0) (fun _ => none) (upd (upd (upd (upd (upd (upd (upd (fun _ => 0) 0 p0) 1 2) 2 0) 3 (nf 3)) 4 0) 5 v5) 6 p1) (fun _ _ => 0) (fun _ _ => none)]) := hw.sub [0, 1, 2, 3, 6, 4, 5] rfl rfl
  have hw := pw_join hw
  have hpnP7 : Pg P (P ++ wd_Sym cs q1 (fun _ => 0) (fun _ => none) (upd (upd (upd (upd (upd (upd (upd (fun _ => 0) 0 p0) 1 2) 2 0) 3 (nf 3)) 4 0) 5 v5) 6 p1) (fun _ _ => 0) (fun _ _ => none)) := pg_app
  have hsnP7 : Sy (P ++ wd_Sym cs q1 (fun _ => 0) (fun _ => none) (upd (upd (upd (upd (upd (upd (upd (fun _ => 0) 0 p0) 1 2) 2 0) 3 (nf 3)) 4 0) 5 v5) 6 p1) (fun _ _ => 0) (fun _ _ => none)) (some q1) := sy_last (s := (upd (upd (upd (upd (upd (upd (upd (fun _ => 0) 0 p0) 1 2) 2 0) 3 (nf 3)) 4 0) 5 v5) 6 p1)) rfl
  have hfnP7 : Fy (P ++ wd_Sym cs q1 (fun _ => 0) (fun _ => none) (upd (upd (upd (upd (upd (upd (upd (fun _ => 0) 0 p0) 1 2) 2 0) 3 (nf 3)) 4 0) 5 v5) 6 p1) (fun _ _ => 0) (fun _ _ => none)) (some q1) := fy_last (s := (upd (upd (upd (upd (upd (upd (upd (fun _ => 0) 0 p0) 1 2) 2 0) 3 (nf 3)) 4 0) 5 v5) 6 p1)) rfl (show 0 ≤ v5.toInt from by first | exact oz_3cf77dc240 e6 hk10 | omega) (show v5.toInt ≤ 1000000 from by first | exact oz_c4f95ae972 e6 g0 | omega)
  have hgnP7 : Gy (P ++ wd_Sym cs q1 (fun _ => 0) (fun _ => none) (upd (upd (upd (upd (upd (upd (upd (fun _ => 0) 0 p0) 1 2) 2 0) 3 (nf 3)) 4 0) 5 v5) 6 p1) (fun _ _ => 0) (fun _ _ => none)) q1 := gy_last (s := (upd (upd (upd (upd (upd (upd (upd (fun _ => 0) 0 p0) 1 2) 2 0) 3 (nf 3)) 4 0) 5 v5) 6 p1)) rfl (show 10 ≤ v5.toInt from by first | exact oz_c87751ffac e6 hk10 | omega) (show v5.toInt ≤ 1000000 from by first | exact oz_c4f95ae972 e6 g0 | omega)
  generalize (P ++ wd_Sym cs q1 (fun _ => 0) (fun _ => none) (upd (upd (upd (upd (upd (upd (upd (fun _ => 0) 0 p0) 1 2) 2 0) 3 (nf 3)) 4 0) 5 v5) 6 p1) (fun _ _ => 0) (fun _ _ => none)) = P7 at hw hpnP7 hsnP7 hfnP7 hgnP7
  have hpg := hpnP7
  have hEl := hpnP7.els hEl
  have hEf := hpnP7.elf hEf
  have hEg := hpnP7.elg hEg
  replace hw : pw D A s.heap _ _ [wd_Nam cs hn rn no nf na ng, wd_Lst cs (rn 0) (fun _ => 0) (fun k => if k = 0 then (some lq) else none) lf (fun _ _ => 0) (fun _ _ => none), lA cs own lq lc lg, [(fq, .inl (cs 12, fc, .inr (.inr (.inr (.inr fg)))))], wd_Lst cs (rn 1) (fun _ => 0) (fun k => if k = 0 then (some fq) else none) ff (fun _ _ => 0) (fun _ _ => none), P7] := hw
  refine lv_aload_n S.x S.b d_Nam_addFunction_34 rfl (lv_at hl 1 rfl) ?_
  refine px_get S k_Nam hT hw 0 0 1 (v := .ref (rn 1)) rfl rfl rfl (by decide) m2_76 d_Nam_addFunction_35 ?_
  refine lv_aload_n S.x S.b d_Nam_addFunction_38 rfl (lv_at hl 0 rfl) ?_
  have hw : pw D A s.heap _ _ [wd_Nam cs hn rn no nf na ng, wd_Lst cs (rn 0) (fun _ => 0) (fun k => if k = 0 then (some lq) else none) lf (fun _ _ => 0) (fun _ _ => none), lA cs own lq lc lg, wd_Lst cs (rn 1) (fun _ => 0) (fun k => if k = 0 then (some fq) else none) ff (fun _ _ => 0) (fun _ _ => none), [(fq, .inl (cs 12, fc, .inr (.inr (.inr (.inr fg)))))], P7] := hw.sub [0, 1, 2, 4, 3, 5] rfl rfl
  refine pg_calli (pr := [wd_Nam cs hn rn no nf na ng, wd_Lst cs (rn 0) (fun _ => 0) (fun k => if k = 0 then (some lq) else none) lf (fun _ _ => 0) (fun _ _ => none), lA cs own lq lc lg]) (px_runV (As := [.ref q1]) (rest := []) S (c_al_add_T l D cs mi (rn 1) fq fc ff fg P7  q1 (show fc ≤ 1000000 from by first | exact n6 | omega) (show 10 ≤ fc from by first | exact hfc | omega) (show 0 ≤ (ff 1).toInt from by first | exact n4 | omega) (show (ff 1).toInt ≤ (fc : Int) from by first | exact n5 | omega) (by first | assumption | exact ElF.els (by assumption)) (by first | assumption | exact sy_none | exact fy_none | exact Fy.sy (by assumption) | exact sy_some (by assumption)) _ _) hT (pr := [wd_Nam cs hn rn no nf na ng, wd_Lst cs (rn 0) (fun _ => 0) (fun k => if k = 0 then (some lq) else none) lf (fun _ _ => 0) (fun _ _ => none), lA cs own lq lc lg]) (pcs := [wd_Lst cs (rn 1) (fun _ => 0) (fun k => if k = 0 then (some fq) else none) ff (fun _ _ => 0) (fun _ _ => none), [(fq, .inl (cs 12, fc, .inr (.inr (.inr (.inr fg)))))], P7]) hw (px_X.tot (oX_call (P := (fun A U H => (va_Mi "[Ljava/lang/Object;" mi U))) (pr := [wd_Nam cs hn rn no nf na ng, wd_Lst cs (rn 0) (fun _ => 0) (fun k => if k = 0 then (some lq) else none) lf (fun _ _ => 0) (fun _ _ => none), lA cs own lq lc lg]) oG_M hw hA hM)) (px_recv hT hw 3 0 rfl rfl rfl) m2_9 m2_6 m2_7 m2_8 m1_10 q_Lst_add2 ⟨Nat.le_of_ble_eq_true rfl, Nat.le_of_ble_eq_true rfl⟩ hl.1 rfl (Nat.le_of_ble_eq_true rfl) d_Nam_addFunction_39 ⟨show (0 + 1) + (1) ≤ 2 from by omega, show (0 + 7) + (4 * fc + 40) ≤ (4 * fc + 60) from (by first | exact oz_d17afbaf4a | omega)⟩) hw hA (fun v13 p12 k14 n15 H locs hp12 hw => ?_)
  dsimp only at hp12
  obtain ⟨lq8, lc9, lf10, lg11, rfl, e16, e17, e18, e19, e20, e21, e22, e23, e24, e25⟩ := hp12
  replace e16 : (lf10 1).toInt = (ff 1).toInt + 1 := e16
  replace e17 : (lf10 1).toInt ≤ (lc9 : Int) := e17
  replace e18 : AddL (ff 1) fg lg11 q1 := e18
  replace e19 : (fc : Int) ≤ (lc9 : Int) := e19
  replace e20 : (lc9 : Int) ≤ 2 * (fc : Int) + 10 := e20
  replace e21 : 10 ≤ lc9 := e21
  replace e22 : Lcap fc (ff 1) lc9 := e22
  replace e23 : k14 ≤ 1 := e23
  replace e24 : (k14 : Int) ≤ (lc9 : Int) - (fc : Int) := e24
  replace e25 : (n15 : Int) ≤ 4 * ((lc9 : Int) - (fc : Int)) := e25
  replace hw : pw D A s.heap H locs [wd_Nam cs hn rn no nf na ng, wd_Lst cs (rn 0) (fun _ => 0) (fun k => if k = 0 then (some lq) else none) lf (fun _ _ => 0) (fun _ _ => none), lA cs own lq lc lg, wd_Lst cs (rn 1) (fun _ => 0) (fun k => if k = 0 then (some lq8) else none) lf10 (fun _ _ => 0) (fun _ _ => none), [(lq8, .inl (cs 12, lc9, .inr (.inr (.inr (.inr lg11)))))], P7] := hw
  have lv13 := Int32.le_toInt v13
  have uv13 := Int32.toInt_lt v13
  have hlcb := Lcap.le (B := 5000) (by assumption) (by omega) (by omega)
  have helf := AddL.elf (n' := (lf10 1)) (by assumption) hEf (by assumption) (by omega)
  have helg := AddL.elg (n' := (lf10 1)) (by assumption) hEg (by assumption) (by omega)
  refine lv_pop S.x S.b d_Nam_addFunction_42 rfl ?_
  refine lv_aload_n S.x S.b d_Nam_addFunction_43 rfl (lv_at hl 0 rfl) ?_
  exact pg_aret (v := (some q1)) S hr (Or.inl ⟨_, rfl⟩) hlk hAe hw (show ((0 + 1) + k14) ≤ 2 from by first | exact oz_00cd0a3ed8 e23 | omega) (show ((0 + 7) + n15) ≤ (4 * fc + 60) from by first | exact oz_0d26dafe55 e20 e25 | omega) (⟨lq8, lc9, lf10, lg11, P7, rfl, (show NmI em P7 own (lf 1) (lf10 1) (nf 3) (nf 4) lq lc lc9 lg lg11 from ⟨⟨(by first | assumption | exact fun h => absurd h (by decide) | exact fun _ => rfl), ⟨by first | exact n1 | omega, by first | exact n2 | omega, by first | exact n3 | omega⟩, (by first | exact hEl | exact hEl.less (by omega) | exact hels), ⟨by first | exact oz_f74637d098 e16 hk10 | omega, by first | exact e17 | omega, by first | exact oz_bf6d68263b e20 hfb | omega⟩, (by first | exact hEf | exact hEf.less (by omega) | exact helf)⟩, (by first | assumption | exact fun h => absurd h (by decide)), (by first | assumption | exact fun h => absurd h (by decide) | exact fun _ => (by omega)), ⟨by first | exact e21 | omega, by first | exact hlb | omega, by omega⟩, ⟨by first | exact hw0 | omega, by first | exact hw1 | omega⟩, by first | exact hsc | omega, (by first | exact hEg | exact hEg.less (by omega) | exact helg), by first | exact oz_53899fa483 e16 hk10 | omega⟩), (show (lf10 1).toInt = (ff 1).toInt + 1 from by first | exact e16 | omega), (show Pg P P7 from (by first | exact Pg.rf | exact hpg | assumption)), (show (fc : Int) ≤ (lc9 : Int) from by first | exact e19 | omega), (show (lc9 : Int) ≤ 2 * (fc : Int) + 10 from by first | exact e20 | omega), (show Lcap fc (ff 1) lc9 from (by first | assumption | exact Or.inl rfl | exact Or.inr (by omega) | (rw [hlc0]; assumption))), (show Fy P7 (some q1) from (by first | assumption | exact sy_none | exact fy_none | exact Fy.sy (by assumption) | exact sy_some (by assumption))), (show Nz (some q1) from ⟨_, rfl⟩), (show (((0 + 1) + k14) : Int) ≤ 1 + (lc9 : Int) - (fc : Int) from by first | exact oz_7be48e8e5f e24 | omega), (show (((0 + 7) + n15) : Int) ≤ 7 + 4 * ((lc9 : Int) - (fc : Int)) from by first | exact oz_074ca3cb2e e25 | omega)⟩) d_Nam_addFunction_44
abbrev b_Nam_forget : ByteArray := prog_5_method_2_code
def y_Nam_forget : MethodName := ⟨"HomeSystem$Names", "forget", "()V"⟩
theorem d_Nam_forget_0 : decode b_Nam_forget 0 = .ok (.aload_n 0, 1) := by decide +kernel
theorem d_Nam_forget_1 : decode b_Nam_forget 1 = .ok (.getstatic 25, 3) := by decide +kernel
theorem d_Nam_forget_4 : decode b_Nam_forget 4 = .ok (.arraylength, 1) := by decide +kernel
theorem d_Nam_forget_5 : decode b_Nam_forget 5 = .ok (.putfield 56, 3) := by decide +kernel
theorem d_Nam_forget_8 : decode b_Nam_forget 8 = .ok (.aload_n 0, 1) := by decide +kernel
theorem d_Nam_forget_9 : decode b_Nam_forget 9 = .ok (.getfield 18, 3) := by decide +kernel
theorem d_Nam_forget_12 : decode b_Nam_forget 12 = .ok (.invokevirtual 59, 3) := by decide +kernel
theorem d_Nam_forget_15 : decode b_Nam_forget 15 = .ok (.iconst 1, 1) := by decide +kernel
theorem d_Nam_forget_16 : decode b_Nam_forget 16 = .ok (.isub, 1) := by decide +kernel
theorem d_Nam_forget_17 : decode b_Nam_forget 17 = .ok (.istore_n 1, 1) := by decide +kernel
theorem d_Nam_forget_18 : decode b_Nam_forget 18 = .ok (.iload_n 1, 1) := by decide +kernel
theorem d_Nam_forget_19 : decode b_Nam_forget 19 = .ok (.bipush 10, 2) := by decide +kernel
theorem d_Nam_forget_21 : decode b_Nam_forget 21 = .ok (.if_icmp .lt 18, 3) := by decide +kernel
theorem d_Nam_forget_24 : decode b_Nam_forget 24 = .ok (.aload_n 0, 1) := by decide +kernel
theorem d_Nam_forget_25 : decode b_Nam_forget 25 = .ok (.getfield 18, 3) := by decide +kernel
theorem d_Nam_forget_28 : decode b_Nam_forget 28 = .ok (.iload_n 1, 1) := by decide +kernel
theorem d_Nam_forget_29 : decode b_Nam_forget 29 = .ok (.invokevirtual 62, 3) := by decide +kernel
theorem d_Nam_forget_32 : decode b_Nam_forget 32 = .ok (.pop, 1) := by decide +kernel
theorem d_Nam_forget_33 : decode b_Nam_forget 33 = .ok (.iinc 1 (-1), 3) := by decide +kernel
theorem d_Nam_forget_36 : decode b_Nam_forget 36 = .ok (.goto (-18), 3) := by decide +kernel
theorem d_Nam_forget_39 : decode b_Nam_forget 39 = .ok (.return_, 1) := by decide +kernel
theorem q_Nam_forget : px_y y_Nam_forget 0 := by unfold px_y; decide +kernel
set_option maxHeartbeats 4000000 in
set_option maxRecDepth 100000 in
theorem c_nw_forget (l : Launch) (D : va_G) (cs : Nat → ClassId) (gw : Nat) (em : Nat) (hn : Nat) (rn : Nat → Nat) (no : Nat → Option Nat) (ng : Nat → Nat → Option Nat) (na : Nat → Nat → Int32) (own : Bool) (lq : Nat) (lc : Nat) (lf : Nat → Int32) (lg : Nat → Option Nat) (fq : Nat) (fc : Nat) (P : va_W) (nf : Nat → Int32) (ff : Nat → Int32) (fg : Nat → Option Nat)  (hinv0 : NmI em P own (lf 1) (ff 1) (nf 3) (nf 4) lq lc fc lg fg) : MetV l y_Nam_forget b_Nam_forget 2 D cs 3 120 (0) (0) [.ref hn] [wd_Nam cs hn rn no nf na ng, wd_Lst cs (rn 0) (fun _ => 0) (fun k => if k = 0 then (some lq) else none) lf (fun _ _ => 0) (fun _ _ => none), lA cs own lq lc lg, wd_Lst cs (rn 1) (fun _ => 0) (fun k => if k = 0 then (some fq) else none) ff (fun _ _ => 0) (fun _ _ => none), [(fq, .inl (cs 12, fc, .inr (.inr (.inr (.inr fg)))))], P] (oX (fun A U H => (oGW A gw U H)) [wd_Nam cs hn rn no nf na ng, wd_Lst cs (rn 0) (fun _ => 0) (fun k => if k = 0 then (some lq) else none) lf (fun _ _ => 0) (fun _ _ => none), lA cs own lq lc lg, wd_Lst cs (rn 1) (fun _ => 0) (fun k => if k = 0 then (some fq) else none) ff (fun _ _ => 0) (fun _ _ => none), [(fq, .inl (cs 12, fc, .inr (.inr (.inr (.inr fg)))))], P]) (fun ps => ∃ (nf' : Nat → Int32) (ff' : Nat → Int32) (fg' : Nat → Option Nat), (ps = [wd_Nam cs hn rn no nf' na ng, wd_Lst cs (rn 0) (fun _ => 0) (fun k => if k = 0 then (some lq) else none) lf (fun _ _ => 0) (fun _ _ => none), lA cs own lq lc lg, wd_Lst cs (rn 1) (fun _ => 0) (fun k => if k = 0 then (some fq) else none) ff' (fun _ _ => 0) (fun _ _ => none), [(fq, .inl (cs 12, fc, .inr (.inr (.inr (.inr fg')))))], P]) ∧ (NmI em P own (lf 1) (ff' 1) (nf' 3) (nf' 4) lq lc fc lg fg') ∧ ((ff' 1).toInt ≤ (ff 1).toInt) ∧ ((ff' 1).toInt ≤ 10) ∧ ((nf' 3).toInt = 14) ∧ ((nf' 4).toInt = (nf 4).toInt)) := by
  refine px_enter (by decide) (Nat.le_of_ble_eq_true rfl) ?_
  intro p e s m below meth c A ls hAe S hr hlk hnm hA hT hX hw hl
  replace hl : lv_has ls 2 [(0, .ref hn)] := hl
  have cst1 : (1 : Int32).toInt = 1 := rfl
  have cst10 : (10 : Int32).toInt = 10 := rfl
  have hX : (fun A U H => (oGW A gw U H)) A s s.heap := by rw [hAe]; exact hX
  have hG := hX
  obtain ⟨⟨hown, ⟨n1, n2, n3⟩, hEl, ⟨n4, n5, n6⟩, hEf⟩, hne, hnt, ⟨hfc, hlb, hfb⟩, ⟨hw0, hw1⟩, hsc, hEg, hk10⟩ := hinv0
  have J18 : ∀ (n_18 : Nat) (nf_18 : Nat → Int32) (ff_18 : Nat → Int32) (fg_18 : Nat → Option Nat) (x18_1 : Int32) (H : Heap) (locs : List Loc) (ls : Array Slot), (NmI em P own (lf 1) (ff_18 1) (nf_18 3) (nf_18 4) lq lc fc lg fg_18) → ((ff_18 1).toInt ≤ (ff 1).toInt) → (0 ≤ (ff_18 1).toInt) → (x18_1.toInt = (ff_18 1).toInt - 1) → ((nf_18 3).toInt = 14) → ((nf_18 4).toInt = (nf 4).toInt) → (10 ≤ (ff_18 1).toInt) → (ElF P (ff_18 1) fg_18) → (ElG P (ff_18 1) fg_18) → x18_1.toInt + 1 < (n_18 : Int) → pw D A s.heap H locs [wd_Nam cs hn rn no nf_18 na ng, wd_Lst cs (rn 0) (fun _ => 0) (fun k => if k = 0 then (some lq) else none) lf (fun _ _ => 0) (fun _ _ => none), lA cs own lq lc lg, wd_Lst cs (rn 1) (fun _ => 0) (fun k => if k = 0 then (some fq) else none) ff_18 (fun _ _ => 0) (fun _ _ => none), [(fq, .inl (cs 12, fc, .inr (.inr (.inr (.inr fg_18)))))], P] → lv_has ls 2 [(0, .ref hn), (1, .int x18_1)] → W p l e { frames := 3, cells := 0, slots := 0, locals := 120 } s m [.ref hn].toArray below meth c H locs 0 0 (MQ below (va_Qv (fun ps => ∃ (nf' : Nat → Int32) (ff' : Nat → Int32) (fg' : Nat → Option Nat), (ps = [wd_Nam cs hn rn no nf' na ng, wd_Lst cs (rn 0) (fun _ => 0) (fun k => if k = 0 then (some lq) else none) lf (fun _ _ => 0) (fun _ _ => none), lA cs own lq lc lg, wd_Lst cs (rn 1) (fun _ => 0) (fun k => if k = 0 then (some fq) else none) ff' (fun _ _ => 0) (fun _ _ => none), [(fq, .inl (cs 12, fc, .inr (.inr (.inr (.inr fg')))))], P]) ∧ (NmI em P own (lf 1) (ff' 1) (nf' 3) (nf' 4) lq lc fc lg fg') ∧ ((ff' 1).toInt ≤ (ff 1).toInt) ∧ ((ff' 1).toInt ≤ 10) ∧ ((nf' 3).toInt = 14) ∧ ((nf' 4).toInt = (nf 4).toInt)) (pc_B D (va_A ([wd_Nam cs hn rn no nf na ng, wd_Lst cs (rn 0) (fun _ => 0) (fun k => if k = 0 then (some lq) else none) lf (fun _ _ => 0) (fun _ _ => none), lA cs own lq lc lg, wd_Lst cs (rn 1) (fun _ => 0) (fun k => if k = 0 then (some fq) else none) ff (fun _ _ => 0) (fun _ _ => none), [(fq, .inl (cs 12, fc, .inr (.inr (.inr (.inr fg)))))], P] : List va_W).flatten s.heap.size)) (va_A ([wd_Nam cs hn rn no nf na ng, wd_Lst cs (rn 0) (fun _ => 0) (fun k => if k = 0 then (some lq) else none) lf (fun _ _ => 0) (fun _ _ => none), lA cs own lq lc lg, wd_Lst cs (rn 1) (fun _ => 0) (fun k => if k = 0 then (some fq) else none) ff (fun _ _ => 0) (fun _ _ => none), [(fq, .inl (cs 12, fc, .inr (.inr (.inr (.inr fg)))))], P] : List va_W).flatten s.heap.size)) [.ref hn].toArray s 0 0 A) (F0 m 18 ls []) := by
    intro n_18
    induction n_18 with
    | zero =>
      intro nf_18 ff_18 fg_18 x18_1 H locs ls hi18_0 k18_0 k18_1 k18_2 k18_3 k18_4 k18_5 k18_6 k18_7 hm hw hl
      obtain ⟨⟨hown, ⟨n1, n2, n3⟩, hEl, ⟨n4, n5, n6⟩, hEf⟩, hne, hnt, ⟨hfc, hlb, hfb⟩, ⟨hw0, hw1⟩, hsc, hEg, hk10⟩ := hi18_0
      have lx18_1 := Int32.le_toInt x18_1
      have ux18_1 := Int32.toInt_lt x18_1
      exact absurd hm (by omega)
    | succ n_18 ih18 =>
      intro nf_18 ff_18 fg_18 x18_1 H locs ls hi18_0 k18_0 k18_1 k18_2 k18_3 k18_4 k18_5 k18_6 k18_7 hm hw hl
      obtain ⟨⟨hown, ⟨n1, n2, n3⟩, hEl, ⟨n4, n5, n6⟩, hEf⟩, hne, hnt, ⟨hfc, hlb, hfb⟩, ⟨hw0, hw1⟩, hsc, hEg, hk10⟩ := hi18_0
      have lx18_1 := Int32.le_toInt x18_1
      have ux18_1 := Int32.toInt_lt x18_1
      refine lv_iload_n S.x S.b d_Nam_forget_18 rfl (lv_at hl 1 rfl) ?_
      refine lv_bipush (v := 10) S.x S.b d_Nam_forget_19 (by decide) ?_
      refine lv_icmp_lt (tgt := 39) S.x S.b d_Nam_forget_21 (by decide) (fun c1 => ?_) (fun c1 => ?_)
      · have nc1 : x18_1.toInt < (10 : Int) := (i_lt (x := x18_1) (y := 10)).mp c1
        exact px_vret S hr hlk hAe hw (Nat.le_of_ble_eq_true rfl) (Nat.le_of_ble_eq_true rfl) (⟨nf_18, ff_18, fg_18, rfl, (show NmI em P own (lf 1) (ff_18 1) (nf_18 3) (nf_18 4) lq lc fc lg fg_18 from ⟨⟨(by first | assumption | exact fun h => absurd h (by decide) | exact fun _ => rfl), ⟨by first | exact n1 | omega, by first | exact n2 | omega, by first | exact n3 | omega⟩, (by first | exact hEl | exact hEl.less (by omega) | exact hels), ⟨by first | exact n4 | omega, by first | exact n5 | omega, by first | exact n6 | omega⟩, (by first | exact hEf | exact hEf.less (by omega) | exact helf)⟩, (by first | assumption | exact fun h => absurd h (by decide)), (by first | assumption | exact fun h => absurd h (by decide) | exact fun _ => (by omega)), ⟨by first | exact hfc | omega, by first | exact hlb | omega, by first | exact hfb | omega⟩, ⟨by first | exact hw0 | omega, by first | exact hw1 | omega⟩, by first | exact hsc | omega, (by first | exact hEg | exact hEg.less (by omega) | exact helg), by first | exact hk10 | omega⟩), (show (ff_18 1).toInt ≤ (ff 1).toInt from by first | exact k18_0 | omega), (show (ff_18 1).toInt ≤ 10 from by first | exact oz_add137c5ec k18_2 nc1 | omega), (show (nf_18 3).toInt = 14 from by first | exact k18_3 | omega), (show (nf_18 4).toInt = (nf 4).toInt from by first | exact k18_4 | omega)⟩) d_Nam_forget_39
      · have nc1 : ¬ x18_1.toInt < (10 : Int) := mt (i_lt (x := x18_1) (y := 10)).mpr c1
        refine lv_aload_n S.x S.b d_Nam_forget_24 rfl (lv_at hl 0 rfl) ?_
        refine px_get S k_Nam hT hw 0 0 1 (v := .ref (rn 1)) rfl rfl rfl (by decide) m2_76 d_Nam_forget_25 ?_
        refine lv_iload_n S.x S.b d_Nam_forget_28 rfl (lv_at hl 1 rfl) ?_
        have hw : pw D A s.heap _ _ [wd_Nam cs hn rn no nf_18 na ng, wd_Lst cs (rn 0) (fun _ => 0) (fun k => if k = 0 then (some lq) else none) lf (fun _ _ => 0) (fun _ _ => none), lA cs own lq lc lg, P, wd_Lst cs (rn 1) (fun _ => 0) (fun k => if k = 0 then (some fq) else none) ff_18 (fun _ _ => 0) (fun _ _ => none), [(fq, .inl (cs 12, fc, .inr (.inr (.inr (.inr fg_18)))))]] := hw.sub [0, 1, 2, 5, 3, 4] rfl rfl
        refine px_callq (pr := [wd_Nam cs hn rn no nf_18 na ng, wd_Lst cs (rn 0) (fun _ => 0) (fun k => if k = 0 then (some lq) else none) lf (fun _ _ => 0) (fun _ _ => none), lA cs own lq lc lg, P]) (px_runV (As := [.int x18_1]) (rest := []) S (c_lr_remove l D cs (rn 1) fq fc ff_18 fg_18 x18_1  (show fc ≤ 1000000 from by first | exact n6 | omega) (show 0 ≤ (ff_18 1).toInt from by first | exact n4 | omega) (show (ff_18 1).toInt ≤ (fc : Int) from by first | exact n5 | omega) (show 0 ≤ x18_1.toInt from by first | exact oz_0feec3747c nc1 | omega) (show x18_1.toInt = (ff_18 1).toInt - 1 from by first | exact k18_2 | omega) _) hT (pr := [wd_Nam cs hn rn no nf_18 na ng, wd_Lst cs (rn 0) (fun _ => 0) (fun k => if k = 0 then (some lq) else none) lf (fun _ _ => 0) (fun _ _ => none), lA cs own lq lc lg, P]) (pcs := [wd_Lst cs (rn 1) (fun _ => 0) (fun k => if k = 0 then (some fq) else none) ff_18 (fun _ _ => 0) (fun _ _ => none), [(fq, .inl (cs 12, fc, .inr (.inr (.inr (.inr fg_18)))))]]) hw px_X.tt (px_recv hT hw 4 0 rfl rfl rfl) m4_79 m4_76 m4_77 m4_78 m1_10 q_Lst_remove ⟨Nat.le_of_ble_eq_true rfl, Nat.le_of_ble_eq_true rfl⟩ hl.1 rfl (Nat.le_of_ble_eq_true rfl) d_Nam_forget_29 ⟨Nat.le_of_ble_eq_true rfl, Nat.le_of_ble_eq_true rfl⟩) hw hA (fun v7 p6 H locs hp6 hw => ?_)
        obtain ⟨lf4, lg5, rfl, e8, e9⟩ := hp6
        replace e8 : (lf4 1).toInt = (ff_18 1).toInt - 1 := e8
        replace e9 : KeepL (lf4 1) fg_18 lg5 := e9
        replace hw : pw D A s.heap H locs [wd_Nam cs hn rn no nf_18 na ng, wd_Lst cs (rn 0) (fun _ => 0) (fun k => if k = 0 then (some lq) else none) lf (fun _ _ => 0) (fun _ _ => none), lA cs own lq lc lg, P, wd_Lst cs (rn 1) (fun _ => 0) (fun k => if k = 0 then (some fq) else none) lf4 (fun _ _ => 0) (fun _ _ => none), [(fq, .inl (cs 12, fc, .inr (.inr (.inr (.inr lg5)))))]] := hw
        have helf := KeepL.elf (n := (lf4 1)) (by assumption) (show ElF P _ _ by first | assumption | exact hEf) (by omega)
        have helg := KeepL.elg (n := (lf4 1)) (by assumption) (show ElG P _ _ by first | assumption | exact hEg) (by omega)
        refine lv_pop S.x S.b d_Nam_forget_32 (rf_cat _) ?_
        obtain ⟨z10, ez10⟩ : ∃ y : Int32, y = x18_1 + (-1) := ⟨_, rfl⟩
        have tz10 : z10.toInt = (x18_1.toInt + (-1) + 2147483648) % 4294967296 - 2147483648 := by rw [ez10]; exact i_add x18_1 (-1)
        have lz10 := Int32.le_toInt z10
        have uz10 := Int32.toInt_lt z10
        try replace tz10 : z10.toInt = x18_1.toInt + (-1) := by omega
        refine lv_iinc (v := z10) (lv' := [(1, .int z10), (0, .ref hn)]) S.x S.b d_Nam_forget_33 hl (k := 1) rfl (by rw [ez10]; rfl) (by decide) rfl (fun ls hl => ?_)
        refine lv_goto (tgt := 18) S.x S.b d_Nam_forget_36 (by decide) ?_
        have hw : pw D A s.heap _ _ [wd_Nam cs hn rn no nf_18 na ng, wd_Lst cs (rn 0) (fun _ => 0) (fun k => if k = 0 then (some lq) else none) lf (fun _ _ => 0) (fun _ _ => none), lA cs own lq lc lg, wd_Lst cs (rn 1) (fun _ => 0) (fun k => if k = 0 then (some fq) else none) lf4 (fun _ _ => 0) (fun _ _ => none), [(fq, .inl (cs 12, fc, .inr (.inr (.inr (.inr lg5)))))], P] := hw.sub [0, 1, 2, 4, 5, 3] rfl rfl
        exact ih18 nf_18 lf4 lg5 z10 _ _ ls (show NmI em P own (lf 1) (lf4 1) (nf_18 3) (nf_18 4) lq lc fc lg lg5 from ⟨⟨(by first | assumption | exact fun h => absurd h (by decide) | exact fun _ => rfl), ⟨by first | exact n1 | omega, by first | exact n2 | omega, by first | exact n3 | omega⟩, (by first | exact hEl | exact hEl.less (by omega) | exact hels), ⟨by first | exact oz_46570468e8 e8 hk10 | omega, by first | exact oz_92b454834d n5 e8 | omega, by first | exact n6 | omega⟩, (by first | exact hEf | exact hEf.less (by omega) | exact helf)⟩, (by first | assumption | exact fun h => absurd h (by decide)), (by first | assumption | exact fun h => absurd h (by decide) | exact fun _ => (by omega)), ⟨by first | exact hfc | omega, by first | exact hlb | omega, by first | exact hfb | omega⟩, ⟨by first | exact hw0 | omega, by first | exact hw1 | omega⟩, by first | exact hsc | omega, (by first | exact hEg | exact hEg.less (by omega) | exact helg), by first | exact oz_fff3fe2c3d e8 k18_2 nc1 | omega⟩) (show (lf4 1).toInt ≤ (ff 1).toInt from by first | exact oz_574f9a72dc k18_0 e8 | omega) (show 0 ≤ (lf4 1).toInt from by first | exact oz_46570468e8 e8 hk10 | omega) (show z10.toInt = (lf4 1).toInt - 1 from by first | exact oz_8633e2b9f3 e8 tz10 k18_2 | omega) (show (nf_18 3).toInt = 14 from by first | exact k18_3 | omega) (show (nf_18 4).toInt = (nf 4).toInt from by first | exact k18_4 | omega) (show 10 ≤ (lf4 1).toInt from by first | exact oz_fff3fe2c3d e8 k18_2 nc1 | omega) (show ElF P (lf4 1) lg5 from (by first | exact hEf | assumption | exact helf | exact hEf.less (by omega))) (show ElG P (lf4 1) lg5 from (by first | exact hEg | assumption | exact helg | exact hEg.less (by omega))) (show z10.toInt + 1 < (n_18 : Int) from by first | exact oz_36811a00a6 hm tz10 | omega) hw (lv_sub hl [1, 0] rfl)
  refine lv_aload_n S.x S.b d_Nam_forget_0 rfl (lv_at hl 0 rfl) ?_
  obtain ⟨hG1, fgw, hG2⟩ := hG
  refine va_getsN S.x S.b hG1 hw.2.2 S.own (va_Nw.use rfl (hT.2.2 _ m1_200n rfl)) (fun _ h => h) d_Nam_forget_1 ?_
  refine va_tlen S.x S.b hG2 hw.2.2 (v := 14) rfl d_Nam_forget_4 ?_
  have cs_gl : (14 : Int32).toInt = 14 := rfl
  refine px_put S k_Nam hT hw 0 0 3 rfl rfl (by decide) m2_78 rfl rfl rfl (Nat.le_of_ble_eq_true rfl) d_Nam_forget_5 (w' := wd_Nam cs hn rn no (upd nf 3 14) na ng) (ps' := [wd_Nam cs hn rn no (upd nf 3 14) na ng, wd_Lst cs (rn 0) (fun _ => 0) (fun k => if k = 0 then (some lq) else none) lf (fun _ _ => 0) (fun _ _ => none), lA cs own lq lc lg, wd_Lst cs (rn 1) (fun _ => 0) (fun k => if k = 0 then (some fq) else none) ff (fun _ _ => 0) (fun _ _ => none), [(fq, .inl (cs 12, fc, .inr (.inr (.inr (.inr fg)))))], P]) rfl rfl (fun H locs hw => ?_)
  refine lv_aload_n S.x S.b d_Nam_forget_8 rfl (lv_at hl 0 rfl) ?_
  refine px_get S k_Nam hT hw 0 0 1 (v := .ref (rn 1)) rfl rfl rfl (by decide) m2_76 d_Nam_forget_9 ?_
  have hw : pw D A s.heap _ _ [wd_Nam cs hn rn no (upd nf 3 14) na ng, wd_Lst cs (rn 0) (fun _ => 0) (fun k => if k = 0 then (some lq) else none) lf (fun _ _ => 0) (fun _ _ => none), lA cs own lq lc lg, P, wd_Lst cs (rn 1) (fun _ => 0) (fun k => if k = 0 then (some fq) else none) ff (fun _ _ => 0) (fun _ _ => none), [(fq, .inl (cs 12, fc, .inr (.inr (.inr (.inr fg)))))]] := hw.sub [0, 1, 2, 5, 3, 4] rfl rfl
  refine px_calli (pr := [wd_Nam cs hn rn no (upd nf 3 14) na ng, wd_Lst cs (rn 0) (fun _ => 0) (fun k => if k = 0 then (some lq) else none) lf (fun _ _ => 0) (fun _ _ => none), lA cs own lq lc lg, P]) (px_runV (As := []) (rest := []) S (c_ls_size2 l D cs (rn 1) fq fc ff fg    _) hT (pr := [wd_Nam cs hn rn no (upd nf 3 14) na ng, wd_Lst cs (rn 0) (fun _ => 0) (fun k => if k = 0 then (some lq) else none) lf (fun _ _ => 0) (fun _ _ => none), lA cs own lq lc lg, P]) (pcs := [wd_Lst cs (rn 1) (fun _ => 0) (fun k => if k = 0 then (some fq) else none) ff (fun _ _ => 0) (fun _ _ => none), [(fq, .inl (cs 12, fc, .inr (.inr (.inr (.inr fg)))))]]) hw px_X.tt (px_recv hT hw 4 0 rfl rfl rfl) m4_75 m4_72 m4_73 m4_74 m1_10 q_Lst_size ⟨Nat.le_of_ble_eq_true rfl, Nat.le_of_ble_eq_true rfl⟩ hl.1 rfl (Nat.le_of_ble_eq_true rfl) d_Nam_forget_12 ⟨Nat.le_of_ble_eq_true rfl, Nat.le_of_ble_eq_true rfl⟩) hw hA (fun v12 p11 H locs hp11 hw => ?_)
  obtain ⟨rfl, e13⟩ := hp11
  replace e13 : v12.toInt = (ff 1).toInt := e13
  replace hw : pw D A s.heap H locs [wd_Nam cs hn rn no (upd nf 3 14) na ng, wd_Lst cs (rn 0) (fun _ => 0) (fun k => if k = 0 then (some lq) else none) lf (fun _ _ => 0) (fun _ _ => none), lA cs own lq lc lg, P, wd_Lst cs (rn 1) (fun _ => 0) (fun k => if k = 0 then (some fq) else none) ff (fun _ _ => 0) (fun _ _ => none), [(fq, .inl (cs 12, fc, .inr (.inr (.inr (.inr fg)))))]] := hw
  have lv12 := Int32.le_toInt v12
  have uv12 := Int32.toInt_lt v12
  refine lv_iconst (v := 1) S.x S.b d_Nam_forget_15 (by decide) ?_
  refine lv_isub S.x S.b d_Nam_forget_16 ?_
  refine lv_topi (fun z14 ez14 => ?_)
  have tz14 : z14.toInt = (v12.toInt - (1 : Int) + 2147483648) % 4294967296 - 2147483648 := by rw [ez14]; exact i_sub v12 1
  have lz14 := Int32.le_toInt z14
  have uz14 := Int32.toInt_lt z14
  try replace tz14 : z14.toInt = v12.toInt - (1 : Int) := by omega
  refine lv_istore_n (lv' := [(1, .int z14), (0, .ref hn)]) S.x S.b d_Nam_forget_17 rfl hl (by decide) rfl (fun ls hl => ?_)
  have hw : pw D A s.heap _ _ [wd_Nam cs hn rn no (upd nf 3 14) na ng, wd_Lst cs (rn 0) (fun _ => 0) (fun k => if k = 0 then (some lq) else none) lf (fun _ _ => 0) (fun _ _ => none), lA cs own lq lc lg, wd_Lst cs (rn 1) (fun _ => 0) (fun k => if k = 0 then (some fq) else none) ff (fun _ _ => 0) (fun _ _ => none), [(fq, .inl (cs 12, fc, .inr (.inr (.inr (.inr fg)))))], P] := hw.sub [0, 1, 2, 4, 5, 3] rfl rfl
  exact J18 ((z14.toInt + 1).toNat + 1) (upd nf 3 14) ff fg z14 _ _ ls (show NmI em P own (lf 1) (ff 1) 14 (nf 4) lq lc fc lg fg from ⟨⟨(by first | assumption | exact fun h => absurd h (by decide) | exact fun _ => rfl), ⟨by first | exact n1 | omega, by first | exact n2 | omega, by first | exact n3 | omega⟩, (by first | exact hEl | exact hEl.less (by omega) | exact hels), ⟨by first | exact n4 | omega, by first | exact n5 | omega, by first | exact n6 | omega⟩, (by first | exact hEf | exact hEf.less (by omega) | exact helf)⟩, (by first | assumption | exact fun h => absurd h (by decide)), (by first | assumption | exact fun h => absurd h (by decide) | exact fun _ => (by omega)), ⟨by first | exact hfc | omega, by first | exact hlb | omega, by first | exact hfb | omega⟩, ⟨by omega, by omega⟩, by first | exact hsc | omega, (by first | exact hEg | exact hEg.less (by omega) | exact helg), by first | exact hk10 | omega⟩) (show (ff 1).toInt ≤ (ff 1).toInt from by first | exact oz_1cb5f934a5 | omega) (show 0 ≤ (ff 1).toInt from by first | exact n4 | omega) (show z14.toInt = (ff 1).toInt - 1 from by first | exact oz_7fdc63a1c9 e13 tz14 | omega) (show (14 : Int) = 14 from by first | decide | omega) (show (nf 4).toInt = (nf 4).toInt from rfl) (show 10 ≤ (ff 1).toInt from by first | exact hk10 | omega) (show ElF P (ff 1) fg from (by first | exact hEf | assumption | exact helf | exact hEf.less (by omega))) (show ElG P (ff 1) fg from (by first | exact hEg | assumption | exact helg | exact hEg.less (by omega))) (show z14.toInt + 1 < ((((z14.toInt + 1).toNat + 1 : Nat) : Int) : Int) from by first | exact oz_natlt | omega) hw (lv_sub hl [1, 0] rfl)
