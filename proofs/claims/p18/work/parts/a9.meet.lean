theorem oz_2c3e9075ce {a0 a1 : Int} (h0 : a1 = a0) (h1 : a1 = 0) (h2 : 0 ≤ a0) : a0 = 0 := by omega
theorem oz_916d756328 {a0 a1 a2 : Int} (h0 : a0 = a1) (h1 : a1 = a2) (h2 : a2 ≤ 1) : a0 ≤ 1 := by omega
theorem oz_e6e07d6050 {a0 a1 a2 : Int} (h0 : a1 = a0) (h1 : a2 = a1) (h2 : a2 = 0) (h3 : 0 ≤ a0) : a0 = 0 := by omega
theorem oz_aa90c3e733 {n0 : Nat}  : (4 * n0 + 16) + 1 ≤ (4 * (n0 + 1) + 16) := by omega
theorem oz_9ec61a0b30 {n0 : Nat}  : 8 + (3 + 11) + (200 * n0 + 560) ≤ (200 * (n0 + 1) + 560) := by omega
theorem oz_4ecef96d6e {n0 : Nat}  : (4 * (n0 + 1) + 12) + 1 ≤ (4 * (n0 + 1) + 16) := by omega
theorem oz_4f0eb2123f {n0 : Nat}  : 8 + (8 + 11) + (200 * (n0 + 1) + 420) ≤ (200 * (n0 + 1) + 560) := by omega
theorem oz_173e82b86d {n0 : Nat}  : 4 + 1 ≤ (4 * (n0 + 1) + 16) := by omega
theorem oz_c0232f888e {n0 : Nat}  : 8 + (3 + 11) + 160 ≤ (200 * (n0 + 1) + 560) := by omega
theorem oz_f3248735d7 {a0 a1 a2 a3 a4 a5 a6 : Int} (h0 : a2 ≤ a1) (h1 : a0 ≤ a3) (h2 : a4 < a2) (h3 : a3 < a5) (h4 : a5 ≤ a6) (h5 : a6 < (a4)) : a0 ≤ a1 := by omega
theorem m10_38 : Cond.fieldLink "HomeSystemModel$Program" 606 "HomeSystemModel$Program" "openK" "Z" ∈ AL := AL_10 (List.mem_of_getElem? (i := 38) rfl) rfl
theorem m12_238 : Cond.methodLink "HomeSystemModel$Program" 599 ⟨"HomeSystemModel$Program", "meet", "(I)V"⟩ ∈ AL := AL_12 (List.mem_of_getElem? (i := 238) rfl) rfl
theorem m13_1 : Cond.code ⟨"HomeSystemModel$Program", "meet", "(I)V"⟩ prog_16_method_81_code 3 (Option.none : Option Jvm.ClassFile.FieldType) ∈ AL := AL_13 (List.mem_of_getElem? (i := 1) rfl) rfl
theorem ms_12_13 : Cond.selects "HomeSystemModel$Program" ⟨"HomeSystemModel$Program", "meet", "(I)V"⟩ ⟨"HomeSystemModel$Program", "meet", "(I)V"⟩ ∈ AL := AL_p (q := (⟨"HomeSystemModel$Program", "meet", "(I)V"⟩, 69)) (by unfold lw_privs; exact List.mem_append_right _ (List.mem_append_right _ (List.mem_append_right _ (List.mem_append_right _ (List.mem_append_right _ (List.mem_append_right _ (List.mem_append_right _ (List.mem_append_right _ (List.mem_append_right _ (List.mem_append_right _ (List.mem_append_right _ (List.mem_append_left _ (List.mem_of_getElem? (i := 13) rfl)))))))))))))
theorem m13_0 : Cond.instanceMethod ⟨"HomeSystemModel$Program", "meet", "(I)V"⟩ ∈ AL := AL_13 (List.mem_of_getElem? (i := 0) rfl) rfl
theorem m13_2 : Cond.methodLink "HomeSystemModel$Program" 596 ⟨"HomeSystemModel$Program", "meetName", "(I)V"⟩ ∈ AL := AL_13 (List.mem_of_getElem? (i := 2) rfl) rfl
theorem m13_5 : Cond.code ⟨"HomeSystemModel$Program", "meetName", "(I)V"⟩ prog_16_method_82_code 3 (Option.none : Option Jvm.ClassFile.FieldType) ∈ AL := AL_13 (List.mem_of_getElem? (i := 5) rfl) rfl
theorem ms_12_14 : Cond.selects "HomeSystemModel$Program" ⟨"HomeSystemModel$Program", "meetName", "(I)V"⟩ ⟨"HomeSystemModel$Program", "meetName", "(I)V"⟩ ∈ AL := AL_p (q := (⟨"HomeSystemModel$Program", "meetName", "(I)V"⟩, 69)) (by unfold lw_privs; exact List.mem_append_right _ (List.mem_append_right _ (List.mem_append_right _ (List.mem_append_right _ (List.mem_append_right _ (List.mem_append_right _ (List.mem_append_right _ (List.mem_append_right _ (List.mem_append_right _ (List.mem_append_right _ (List.mem_append_right _ (List.mem_append_left _ (List.mem_of_getElem? (i := 14) rfl)))))))))))))
theorem m13_4 : Cond.instanceMethod ⟨"HomeSystemModel$Program", "meetName", "(I)V"⟩ ∈ AL := AL_13 (List.mem_of_getElem? (i := 4) rfl) rfl
/-! CONSTANTS -/
def RwI (na : Nat → Nat → Int32) (P : Int32 → Prop) : Nat → Int32 → Prop
  | 0 => fun e => e.toInt < 0
  | m + 1 => fun e => e.toInt < 0 ∨ (P e ∧ RwI na P m (na 21 e.toNatClampNeg))
def SgI (na : Nat → Nat → Int32) (P : Int32 → Prop) : Nat → Int32 → Int32 → Prop
  | 0 => fun z k => z = k
  | m + 1 => fun z k => P z ∧ SgI na P m (na 21 z.toNatClampNeg) k
theorem SgI.app {na : Nat → Nat → Int32} {P : Int32 → Prop} : ∀ {m : Nat} {z k k' : Int32}, SgI na P m z k → P k → k' = na 21 k.toNatClampNeg → SgI na P (m + 1) z k'
  | 0, z, k, k', g, h1, e => by
    have g : z = k := g
    subst g
    exact ⟨h1, e.symm⟩
  | _ + 1, _, _, _, g, h1, e => ⟨g.1, SgI.app g.2 h1 e⟩
theorem SgI.row {na : Nat → Nat → Int32} {P : Int32 → Prop} : ∀ {m : Nat} {z k : Int32}, SgI na P m z k → k.toInt < 0 → RwI na P m z
  | 0, z, k, g, h => by
    have g : z = k := g
    subst g; exact h
  | _ + 1, _, _, g, h => Or.inr ⟨g.1, SgI.row g.2 h⟩
/-- what can be reckoned -/
def Rk (ta ca na ma0 : Nat → Nat → Int32) (kn : Int) : Nat → Int32 → Prop
  | 0 => fun _ => False
  | d + 1 => fun n => (na 14 n.toNatClampNeg).toInt = 1 ∨ ((na 14 n.toNatClampNeg).toInt = 2 ∧ ∃ j : Int, 0 ≤ j ∧ FndV ta ca kn (na 15 n.toNatClampNeg) 0 j) ∨ ((na 14 n.toNatClampNeg).toInt = 5 ∧ Rk ta ca na ma0 kn d (na 17 n.toNatClampNeg)) ∨
      ((na 14 n.toNatClampNeg).toInt = 7 ∧ ∃ m, RwI na (Rk ta ca na ma0 kn d) m (na 17 n.toNatClampNeg)) ∨ ((na 14 n.toNatClampNeg).toInt = 8 ∧ Rk ta ca na ma0 kn d (na 17 n.toNatClampNeg) ∧ Rk ta ca na ma0 kn d (ma0 18 n.toNatClampNeg) ∧ Rk ta ca na ma0 kn d (ma0 19 n.toNatClampNeg))
def RkO (cf : Nat → Int32) (P : Prop) : Prop := (cf 46).toInt = 0 → (cf 47).toInt = 0 → P
def MtR (cf : Nat → Int32) (ta ca na ma0 : Nat → Nat → Int32) (kn : Int) (d : Nat) (n : Int32) : Prop := RkO cf (Rk ta ca na ma0 kn d n)
def MtF (cf : Nat → Int32) (ta ca na : Nat → Nat → Int32) (kn : Int) (n : Int32) : Prop := RkO cf (∃ j : Int, 0 ≤ j ∧ FndV ta ca kn (na 15 n.toNatClampNeg) 0 j)
def MtS (cf : Nat → Int32) (ta ca na ma0 : Nat → Nat → Int32) (kn : Int) (d : Nat) (z k : Int32) : Prop := RkO cf (∃ m, SgI na (Rk ta ca na ma0 kn d) m z k)
theorem rko_no {cf : Nat → Int32} {P : Prop} (h : (cf 46).toInt = 1 ∨ (cf 47).toInt = 1) : RkO cf P := fun a b => absurd h (by omega)
theorem RkO.tr {cf cf' : Nat → Int32} {P : Prop} (h : RkO cf P) (a : (cf' 46).toInt = 0 → (cf 46).toInt = 0) (b : (cf' 47).toInt = 0 → (cf 47).toInt = 0) : RkO cf' P := fun x y => h (a x) (b y)
section RK
variable {ta ca na ma0 ma : Nat → Nat → Int32} {kn c lo hi : Int} {d : Nat} {n z : Int32} {cf : Nat → Int32}
theorem MtS.s {k k' : Int32} (h : MtS cf ta ca na ma0 kn d z k) (q : MtR cf ta ca na ma0 kn d k) (e : k' = na 21 k.toNatClampNeg) : MtS cf ta ca na ma0 kn d z k' := fun a b => by
  obtain ⟨m, h⟩ := h a b
  exact ⟨m + 1, h.app (q a b) e⟩
theorem Rk.f2 (h : Rk ta ca na ma0 kn (d + 1) n) (k : (na 14 n.toNatClampNeg).toInt = 2) {v : Int32} {n' : Int} (e : z = na 15 n.toNatClampNeg) (f : FndV ta ca n' z 0 v.toInt) (en : n' = kn) : 0 ≤ v.toInt := by
  subst en
  rcases h with h | ⟨-, j, h1, h2⟩ | ⟨h, -⟩ | ⟨h, -⟩ | ⟨h, -⟩
  · omega
  · rw [← e] at h2; have := h2.uniq f; omega
  · omega
  · omega
  · omega
theorem Rk.f5 (h : Rk ta ca na ma0 kn (d + 1) n) (k : (na 14 n.toNatClampNeg).toInt = 5) (e : z = na 17 n.toNatClampNeg) : Rk ta ca na ma0 kn d z := by
  rcases h with h | ⟨h, -⟩ | ⟨-, h⟩ | ⟨h, -⟩ | ⟨h, -⟩
  · omega
  · omega
  · rw [e]; exact h
  · omega
  · omega
theorem Rk.f8 (h : Rk ta ca na ma0 kn (d + 1) n) (k : (na 14 n.toNatClampNeg).toInt = 8) (e : z = na 17 n.toNatClampNeg) : Rk ta ca na ma0 kn d z ∧ Rk ta ca na ma0 kn d (ma0 18 n.toNatClampNeg) ∧ Rk ta ca na ma0 kn d (ma0 19 n.toNatClampNeg) := by
  rcases h with h | ⟨h, -⟩ | ⟨h, -⟩ | ⟨h, -⟩ | ⟨-, h⟩
  · omega
  · omega
  · omega
  · omega
  · rw [e]; exact h
theorem Rk.f7 (h : Rk ta ca na ma0 kn (d + 1) n) (k : (na 14 n.toNatClampNeg).toInt ≠ 1 ∧ (na 14 n.toNatClampNeg).toInt ≠ 2 ∧ (na 14 n.toNatClampNeg).toInt ≠ 5 ∧ (na 14 n.toNatClampNeg).toInt ≠ 8) : (na 14 n.toNatClampNeg).toInt = 7 ∧ ∃ m, RwI na (Rk ta ca na ma0 kn d) m (na 17 n.toNatClampNeg) := by
  rcases h with h | ⟨h, -⟩ | ⟨h, -⟩ | h | ⟨h, -⟩
  · omega
  · omega
  · omega
  · exact h
  · omega
/-- a row of what can be reckoned -/
def RwJ (na : Nat → Nat → Int32) (P : Int32 → Prop) (k : Int32) : Prop := ∃ m, RwI na P m k
theorem RwJ.go {P : Int32 → Prop} {k : Int32} (h : RwJ na P k) (h0 : 0 ≤ k.toInt) (e : z = na 21 k.toNatClampNeg) : P k ∧ RwJ na P z := by
  obtain ⟨m, h⟩ := h
  cases m with
  | zero => exact absurd h (by show ¬ k.toInt < 0; omega)
  | succ m =>
    rcases h with h | ⟨h1, h2⟩
    · exact absurd h (by omega)
    · exact ⟨h1, m, by rw [e]; exact h2⟩
/-- a chain: its first, and the row behind it with its marks -/
def RcM (ta : Nat → Nat → Int32) (c : Int) (na ma0 : Nat → Nat → Int32) (d : Nat) (n : Int32) (lo hi : Int) (k : Int32) : Prop := RcE na (fun l h x => EcV ta c na ma0 d l h x ∧ x.toInt ≠ n.toInt ∧ MkD ta c ma0 x.toNatClampNeg) lo hi k
theorem EcV.k7m (h : EcV ta c na ma0 (d + 1) lo hi n) (k : (na 14 n.toNatClampNeg).toInt = 7) (e : z = na 17 n.toNatClampNeg) : ∃ mid : Int, mid ≤ hi ∧ mid ≤ n.toInt ∧ EcV ta c na ma0 d lo mid z ∧ z.toInt ≠ n.toInt ∧ RcM ta c na ma0 d n mid hi (na 21 z.toNatClampNeg) := by
  obtain ⟨h0, l, hh, w, q1, q2, r, h1⟩ := h
  have hc := cl_nat h0
  rcases h1 with ⟨g, -⟩ | ⟨g, -⟩ | ⟨g, -⟩ | ⟨g, -⟩ | ⟨g, -⟩ | ⟨g, g1, a, mid, wa, m, wr, g2, g3, g4, g5, g6⟩ | ⟨g, -⟩ | ⟨g, -⟩
  all_goals first | exact absurd g (by omega) | skip
  subst e
  have ra := g4.rng
  have hz := cl_nat (x := na 17 n.toNatClampNeg) (by omega)
  have ea : (na 17 n.toNatClampNeg).toNatClampNeg = a := by omega
  have q : Rc na (fun l h x => EcV ta c na ma0 d l h x ∧ x.toInt ≠ n.toInt ∧ MkD ta c ma0 x.toNatClampNeg) (m + 1) (mid : Int) (hi.toNat : Int) (na 21 a) := rc_lq (P := fun l h x => EcV ta c na ma0 d l h x ∧ x.toInt ≠ n.toInt ∧ MkD ta c ma0 x.toNatClampNeg) (P' := Pc ta c ma0 (Ex ta c na ma0 d) n.toNatClampNeg) (fun b l h v x ex p => by
      obtain ⟨l', v', p1, p2, p3, p4, p5⟩ := p
      have rb := p3.rng
      first | have hx := cl_nat (x := x) ((oz_016f458179 hc)) | (have hx := cl_nat (x := x) (by first | exact oz_016f458179 hc | omega))
      exact ⟨ec_of ex p3 (by omega) (Int.le_refl _), by omega, by rw [show x.toNatClampNeg = b by omega]; exact p5⟩) (g5.wid (P' := Pc ta c ma0 (Ex ta c na ma0 d) n.toNatClampNeg) (fun b l l' h v hl p => by
      obtain ⟨l1, v1, p1, p2, p3⟩ := p
      exact ⟨l1, v1, by omega, p2, p3⟩) (Nat.le_refl _) (Nat.le_refl _) (show hh ≤ hi.toNat by omega) (Nat.le_refl _))
  have e2 : ((hi.toNat : Nat) : Int) = hi := by omega
  rw [e2] at q
  obtain ⟨b', k1, k2, k3, k4⟩ := g5.last
  exact ⟨(mid : Int), by omega, by omega, ec_of g2 g4 q1 (Int.le_refl _), by omega, m + 1, by rw [ea]; exact q⟩
theorem MkD.at {x : Nat} (h : MkD ta c ma0 x) (a : Ann na ma0 ma) (hk : (na 14 x).toInt ≠ 40) (e : z = ma 20 x) : 0 ≤ z.toInt ∧ z.toInt < c ∧ so ta z = 5 := by
  have e1 : z = ma0 20 x := e.trans ((a x).2.2.1 hk h.1)
  rw [e1]; exact ⟨h.1, h.2.1, h.2.2⟩
theorem EcV.n5 (h : EcV ta c na ma0 d lo hi n) (k : (na 14 n.toNatClampNeg).toInt = 5) (e : z = na 15 n.toNatClampNeg) : so ta z = 5 := by
  obtain ⟨h0, l, hh, w, q1, q2, q3⟩ := h
  cases d with
  | zero => exact q3.elim
  | succ d =>
    obtain ⟨r, h1⟩ := q3
    rcases h1 with ⟨g, -⟩ | ⟨g, -⟩ | ⟨g, -⟩ | ⟨g, -⟩ | ⟨g, g1, -⟩ | ⟨g, -⟩ | ⟨g, -⟩ | ⟨g, -⟩
    all_goals first | exact absurd g (by omega) | skip
    rw [e]; exact g1.2.2
theorem tk_z5 {tf : Nat → Int32} (h : TkI tf ta) {x : Int32} (h0 : 0 ≤ x.toInt) (h1 : x.toInt < (tf 6).toInt) (h5 : so ta x = 5) : 1 ≤ sz ta x := by
  obtain ⟨a, b, e⟩ := tk_w5 h h0 h1 rfl h5
  have hz := cl_nat a
  have := len_1 (i := (ta 10 x.toNatClampNeg).toNatClampNeg) (by omega)
  omega
end RK
abbrev b_Mpg_meetName : ByteArray := prog_16_method_82_code
def y_Mpg_meetName : MethodName := ⟨"HomeSystemModel$Program", "meetName", "(I)V"⟩
theorem d_Mpg_meetName_0 : decode b_Mpg_meetName 0 = .ok (.aload_n 0, 1) := by decide +kernel
theorem d_Mpg_meetName_1 : decode b_Mpg_meetName 1 = .ok (.iload_n 1, 1) := by decide +kernel
theorem d_Mpg_meetName_2 : decode b_Mpg_meetName 2 = .ok (.invokevirtual 568, 3) := by decide +kernel
theorem d_Mpg_meetName_5 : decode b_Mpg_meetName 5 = .ok (.istore_n 2, 1) := by decide +kernel
theorem d_Mpg_meetName_6 : decode b_Mpg_meetName 6 = .ok (.iload_n 2, 1) := by decide +kernel
theorem d_Mpg_meetName_7 : decode b_Mpg_meetName 7 = .ok (.ifCond .ne 9, 3) := by decide +kernel
theorem d_Mpg_meetName_10 : decode b_Mpg_meetName 10 = .ok (.aload_n 0, 1) := by decide +kernel
theorem d_Mpg_meetName_11 : decode b_Mpg_meetName 11 = .ok (.iconst 1, 1) := by decide +kernel
theorem d_Mpg_meetName_12 : decode b_Mpg_meetName 12 = .ok (.putfield 606, 3) := by decide +kernel
theorem d_Mpg_meetName_15 : decode b_Mpg_meetName 15 = .ok (.return_, 1) := by decide +kernel
theorem d_Mpg_meetName_16 : decode b_Mpg_meetName 16 = .ok (.iload_n 2, 1) := by decide +kernel
theorem d_Mpg_meetName_17 : decode b_Mpg_meetName 17 = .ok (.iconst 1, 1) := by decide +kernel
theorem d_Mpg_meetName_18 : decode b_Mpg_meetName 18 = .ok (.if_icmp .eq 13, 3) := by decide +kernel
theorem d_Mpg_meetName_21 : decode b_Mpg_meetName 21 = .ok (.aload_n 0, 1) := by decide +kernel
theorem d_Mpg_meetName_22 : decode b_Mpg_meetName 22 = .ok (.iconst 3, 1) := by decide +kernel
theorem d_Mpg_meetName_23 : decode b_Mpg_meetName 23 = .ok (.aload_n 0, 1) := by decide +kernel
theorem d_Mpg_meetName_24 : decode b_Mpg_meetName 24 = .ok (.iload_n 1, 1) := by decide +kernel
theorem d_Mpg_meetName_25 : decode b_Mpg_meetName 25 = .ok (.invokevirtual 584, 3) := by decide +kernel
theorem d_Mpg_meetName_28 : decode b_Mpg_meetName 28 = .ok (.invokevirtual 565, 3) := by decide +kernel
theorem d_Mpg_meetName_31 : decode b_Mpg_meetName 31 = .ok (.aload_n 0, 1) := by decide +kernel
theorem d_Mpg_meetName_32 : decode b_Mpg_meetName 32 = .ok (.aload_n 0, 1) := by decide +kernel
theorem d_Mpg_meetName_33 : decode b_Mpg_meetName 33 = .ok (.getfield 602, 3) := by decide +kernel
theorem d_Mpg_meetName_36 : decode b_Mpg_meetName 36 = .ok (.ifCond .ne 23, 3) := by decide +kernel
theorem d_Mpg_meetName_39 : decode b_Mpg_meetName 39 = .ok (.aload_n 0, 1) := by decide +kernel
theorem d_Mpg_meetName_40 : decode b_Mpg_meetName 40 = .ok (.getfield 249, 3) := by decide +kernel
theorem d_Mpg_meetName_43 : decode b_Mpg_meetName 43 = .ok (.aload_n 0, 1) := by decide +kernel
theorem d_Mpg_meetName_44 : decode b_Mpg_meetName 44 = .ok (.aload_n 0, 1) := by decide +kernel
theorem d_Mpg_meetName_45 : decode b_Mpg_meetName 45 = .ok (.getfield 210, 3) := by decide +kernel
theorem d_Mpg_meetName_48 : decode b_Mpg_meetName 48 = .ok (.iload_n 1, 1) := by decide +kernel
theorem d_Mpg_meetName_49 : decode b_Mpg_meetName 49 = .ok (.iaload, 1) := by decide +kernel
theorem d_Mpg_meetName_50 : decode b_Mpg_meetName 50 = .ok (.iconst 0, 1) := by decide +kernel
theorem d_Mpg_meetName_51 : decode b_Mpg_meetName 51 = .ok (.invokevirtual 559, 3) := by decide +kernel
theorem d_Mpg_meetName_54 : decode b_Mpg_meetName 54 = .ok (.iaload, 1) := by decide +kernel
theorem d_Mpg_meetName_55 : decode b_Mpg_meetName 55 = .ok (.iconst 4, 1) := by decide +kernel
theorem d_Mpg_meetName_56 : decode b_Mpg_meetName 56 = .ok (.if_icmp .eq 7, 3) := by decide +kernel
theorem d_Mpg_meetName_59 : decode b_Mpg_meetName 59 = .ok (.iconst 1, 1) := by decide +kernel
theorem d_Mpg_meetName_60 : decode b_Mpg_meetName 60 = .ok (.goto 4, 3) := by decide +kernel
theorem d_Mpg_meetName_63 : decode b_Mpg_meetName 63 = .ok (.iconst 0, 1) := by decide +kernel
theorem d_Mpg_meetName_64 : decode b_Mpg_meetName 64 = .ok (.putfield 602, 3) := by decide +kernel
theorem d_Mpg_meetName_67 : decode b_Mpg_meetName 67 = .ok (.return_, 1) := by decide +kernel
theorem q_Mpg_meetName : px_y y_Mpg_meetName 1 := by unfold px_y; decide +kernel
set_option maxHeartbeats 4000000 in
set_option maxRecDepth 100000 in
theorem c_mp_meetName (l : Launch) (D : va_G) (cs : Nat → ClassId) (ma0 : Nat → Nat → Int32) (ys : Int) (ns : Int) (nf : Int) (kn : Int) (d : Nat) (lo : Int) (hi : Int) (h : Nat) (r : Nat → Nat) (g : Nat → Nat → Option Nat) (tf : Nat → Int32) (ta : Nat → Nat → Int32) (pf : Nat → Int32) (na : Nat → Nat → Int32) (wa : Nat → Nat → Int32) (ca : Nat → Nat → Int32) (ef : Nat → Int32) (ea : Nat → Nat → Int32) (xf : Nat → Int32) (xa : Nat → Nat → Int32) (ma : Nat → Nat → Int32) (cf : Nat → Int32) (p0 : Int32)  (g0 : 0 ≤ lo) (g1 : hi ≤ (pf 13).toInt) (g2 : (pf 13).toInt ≤ 2100) (g3 : (tf 6).toInt ≤ 2049) (g4 : (cf 33).toInt = kn) (g5 : 0 ≤ kn) (g6 : (cf 48).toInt = ns) (g7 : (cf 38).toInt = nf) (g8 : 0 ≤ nf) (g9 : (na 14 p0.toNatClampNeg).toInt = 2) (g10 : 0 ≤ (cf 46).toInt) (g11 : (cf 46).toInt ≤ 1) (g12 : 0 ≤ (cf 47).toInt) (g13 : (cf 47).toInt ≤ 1) (htk : TkI tf ta) (hfs : FsI (tf 6).toInt (pf 13).toInt na) (hwr : WrV cf (tf 6).toInt) (hkt : KnT (tf 6).toInt ca (cf 33).toInt) (hft : FnT (tf 6).toInt na ca (cf 38).toInt) (hks : KnS ca kn ns ys) (han : Ann na ma0 ma) (hec : EcV ta (tf 6).toInt na ma0 d lo hi p0) : MetV l y_Mpg_meetName b_Mpg_meetName 3 D cs 4 160 (0) (0) [.ref h, .int p0] [wdP cs h r g tf ta pf na ma wa cf ca ef ea xf xa] (oX (fun A U H => (oP A g U H)) [wdP cs h r g tf ta pf na ma wa cf ca ef ea xf xa]) (fun ps => ∃ (ma' : Nat → Nat → Int32) (cf' : Nat → Int32), (ps = [wdP cs h r g tf ta pf na ma' wa cf' ca ef ea xf xa]) ∧ (KpE cf cf') ∧ (WrV cf' (tf 6).toInt) ∧ ((cf' 33).toInt = (cf 33).toInt) ∧ ((cf' 38).toInt = (cf 38).toInt) ∧ ((cf' 48).toInt = (cf 48).toInt) ∧ ((cf' 57).toInt = (cf 57).toInt) ∧ ((cf' 47).toInt = 1 → (cf 47).toInt = 1 ∨ 1 ≤ (cf' 30).toInt) ∧ (0 ≤ (cf' 46).toInt) ∧ ((cf' 46).toInt ≤ 1) ∧ (0 ≤ (cf' 47).toInt) ∧ ((cf' 47).toInt ≤ 1) ∧ ((cf' 46).toInt = 0 → (cf 46).toInt = 0) ∧ ((cf' 47).toInt = 0 → (cf 47).toInt = 0) ∧ (Ann na ma0 ma') ∧ (FrC lo hi ma ma') ∧ (MtF cf' ta ca na kn p0) ∧ (R_mp_meetName ta na ca p0 ma cf ma' cf')) := by
  refine px_enter (by decide) (Nat.le_of_ble_eq_true rfl) ?_
  intro p e s m below meth c A ls hAe S hr hlk hnm hA hT hX hw hl
  have hl : lv_has ls 3 [(0, .ref h), (1, .int p0)] := hl
  have lp0 := Int32.le_toInt p0
  have up0 := Int32.toInt_lt p0
  have cst0 : (0 : Int32).toInt = 0 := rfl
  have cst1 : (1 : Int32).toInt = 1 := rfl
  have cst3 : (3 : Int32).toInt = 3 := rfl
  have cst4 : (4 : Int32).toInt = 4 := rfl
  have hX : (fun A U H => (oP A g U H)) A s s.heap := by rw [hAe]; exact hX
  have hP := hX
  have hZ := hP.1
  have hF0 := hP.2.1
  have hke : KpE cf cf := KpE.rf
  have hfc : FrC lo hi ma ma := FrC.rf
  have hwr0 := hwr.1
  have hk11 := hkt.1
  have hf11 := hft.1
  have hec_p0 := hec
  have hrg := EcV.rng hec
  refine lv_aload_n S.x S.b d_Mpg_meetName_0 rfl (lv_at hl 0 rfl) ?_
  refine lv_iload_n S.x S.b d_Mpg_meetName_1 rfl (lv_at hl 1 rfl) ?_
  first | refine px_calli (pr := []) (px_runV (As := [.int p0]) (rest := []) S (c_mp_checkName l D cs ma0 ys ns nf kn d lo hi h r g tf ta pf na wa ca ef ea xf xa ma cf p0  (show 0 ≤ lo from g0) (show hi ≤ (pf 13).toInt from g1) (show (pf 13).toInt ≤ 2100 from g2) (show (tf 6).toInt ≤ 2049 from g3) (show (cf 33).toInt = kn from g4) (show 0 ≤ kn from g5) (show (cf 48).toInt = ns from g6) (show (cf 38).toInt = nf from g7) (show 0 ≤ nf from g8) (show (na 14 p0.toNatClampNeg).toInt = 2 from g9) htk (FsI.le (N' := (pf 13).toInt) hfs (by omega)) hwr (KnT.eq hkt (by omega)) (FnT.eq hft (by omega)) hks han hec_p0 _) hT (pr := []) (pcs := [wdP cs h r g tf ta pf na ma wa cf ca ef ea xf xa]) hw (oX_call (P := (fun A U H => (oP A g U H))) (pr := []) oG_P hw hA hP) (px_recv hT hw 0 0 rfl rfl rfl) m12_221 m12_218 m12_220 ms_12_8 m1_21 q_Mpg_checkName ⟨Nat.le_of_ble_eq_true rfl, Nat.le_of_ble_eq_true rfl⟩ hl.1 rfl (Nat.le_of_ble_eq_true rfl) d_Mpg_meetName_2 ⟨Nat.le_of_ble_eq_true rfl, Nat.le_of_ble_eq_true rfl⟩) hw hA (fun v6 p5 H locs hp5 hw => ?_) | (refine px_calli (pr := []) (px_runV (As := [.int p0]) (rest := []) S (c_mp_checkName l D cs ma0 ys ns nf kn d lo hi h r g tf ta pf na wa ca ef ea xf xa ma cf p0  (show 0 ≤ lo from by first | exact g0 | omega) (show hi ≤ (pf 13).toInt from by first | exact g1 | omega) (show (pf 13).toInt ≤ 2100 from by first | exact g2 | omega) (show (tf 6).toInt ≤ 2049 from by first | exact g3 | omega) (show (cf 33).toInt = kn from by first | exact g4 | omega) (show 0 ≤ kn from by first | exact g5 | omega) (show (cf 48).toInt = ns from by first | exact g6 | omega) (show (cf 38).toInt = nf from by first | exact g7 | omega) (show 0 ≤ nf from by first | exact g8 | omega) (show (na 14 p0.toNatClampNeg).toInt = 2 from by first | exact g9 | omega) htk (FsI.le (N' := (pf 13).toInt) hfs (by omega)) hwr (KnT.eq hkt (by omega)) (FnT.eq hft (by omega)) hks han hec_p0 _) hT (pr := []) (pcs := [wdP cs h r g tf ta pf na ma wa cf ca ef ea xf xa]) hw (oX_call (P := (fun A U H => (oP A g U H))) (pr := []) oG_P hw hA hP) (px_recv hT hw 0 0 rfl rfl rfl) m12_221 m12_218 m12_220 ms_12_8 m1_21 q_Mpg_checkName ⟨Nat.le_of_ble_eq_true rfl, Nat.le_of_ble_eq_true rfl⟩ hl.1 rfl (Nat.le_of_ble_eq_true rfl) d_Mpg_meetName_2 ⟨Nat.le_of_ble_eq_true rfl, Nat.le_of_ble_eq_true rfl⟩) hw hA (fun v6 p5 H locs hp5 hw => ?_))
  obtain ⟨ma3, cf4, rfl, e7, e8, e9, e10, e11, e12, e13, e14, e15, e16, e17, e18, e19, e20, e21⟩ := hp5
  have e7 : KpE cf cf4 := e7
  have hke := (hke).tr e7
  have hkz_e7 := e7.2
  have e8 : WrV cf4 (tf 6).toInt := e8
  have hwr := e8
  have hw0_e8 := hwr.1
  have e9 : (cf4 33).toInt = (cf 33).toInt := e9
  have e10 : (cf4 38).toInt = (cf 38).toInt := e10
  have e11 : (cf4 48).toInt = (cf 48).toInt := e11
  have e12 : (cf4 46).toInt = (cf 46).toInt := e12
  have e13 : (cf4 47).toInt = (cf 47).toInt := e13
  have e14 : (cf4 57).toInt = (cf 57).toInt := e14
  have e15 : Ann na ma0 ma3 := e15
  have han := e15
  have e16 : FrC lo hi ma ma3 := e16
  have hfc := hfc.tr e16 (by omega) (by omega)
  have e17 : 0 ≤ v6.toInt := e17
  have e18 : v6.toInt ≤ 3 := e18
  have e19 : NmO ta ca na ma3 kn p0 v6.toInt := e19
  have hnmo := e19
  have e20 : ZTy cf4 (Gk ta ca na ma0 ns ys nf) na ma3 lo hi p0 v6.toInt := e20
  have hzt_p0 := e20
  have hnz_e20 := fun q => ZTy.n0 e20 q
  have e21 : R_mp_checkName ta na ca p0 ma cf ma3 cf4 v6 := e21
  have lv6 := Int32.le_toInt v6
  have uv6 := Int32.toInt_lt v6
  refine lv_istore_n (lv' := [(2, .int v6), (0, .ref h), (1, .int p0)]) S.x S.b d_Mpg_meetName_5 rfl hl (by decide) rfl (fun ls hl => ?_)
  refine lv_iload_n S.x S.b d_Mpg_meetName_6 rfl (lv_at hl 0 rfl) ?_
  refine lv_if_ne (tgt := 16) S.x S.b d_Mpg_meetName_7 (by decide) (fun c22 => ?_) (fun c22 => ?_)
  · have nc22 : ¬ v6.toInt = (0 : Int) := mt (i_eq (x := v6) (y := 0)).mpr c22
    refine lv_iload_n S.x S.b d_Mpg_meetName_16 rfl (lv_at hl 0 rfl) ?_
    refine lv_iconst (v := 1) S.x S.b d_Mpg_meetName_17 (by decide) ?_
    refine lv_icmp_eq (tgt := 31) S.x S.b d_Mpg_meetName_18 (by decide) (fun c24 => ?_) (fun c24 => ?_)
    · have nc24 : v6.toInt = (1 : Int) := (i_eq (x := v6) (y := 1)).mp c24
      refine lv_aload_n S.x S.b d_Mpg_meetName_31 rfl (lv_at hl 1 rfl) ?_
      refine lv_aload_n S.x S.b d_Mpg_meetName_32 rfl (lv_at hl 1 rfl) ?_
      refine gP_46 (v := (cf4 46)) S hT hw 0 rfl rfl m10_37 d_Mpg_meetName_33 ?_
      refine lv_if_ne (tgt := 59) S.x S.b d_Mpg_meetName_36 (by decide) (fun c26 => ?_) (fun c26 => ?_)
      · have nc26 : ¬ (cf4 46).toInt = (0 : Int) := mt (i_eq (x := (cf4 46)) (y := 0)).mpr c26
        refine lv_iconst (v := 1) S.x S.b d_Mpg_meetName_59 (by decide) ?_
        refine lv_goto (tgt := 64) S.x S.b d_Mpg_meetName_60 (by decide) ?_
        refine pP_46 S hT hw 0 rfl m10_37 rfl rfl rfl d_Mpg_meetName_64 (ps' := [wdP cs h r g tf ta pf na ma3 wa (upd cf4 46 1) ca ef ea xf xa]) rfl (fun H locs hw => ?_)
        first | exact px_vret S hr hlk hAe hw (Nat.le_of_ble_eq_true rfl) (Nat.le_of_ble_eq_true rfl) (⟨ma3, (upd cf4 46 1), rfl, (show KpE cf (upd cf4 46 1) from (KpE.u46 hke)), (show WrV (upd cf4 46 1) (tf 6).toInt from (WrV.u hwr (by decide) (by decide))), (show (cf4 33).toInt = (cf 33).toInt from e9), (show (cf4 38).toInt = (cf 38).toInt from e10), (show (cf4 48).toInt = (cf 48).toInt from e11), (show (cf4 57).toInt = (cf 57).toInt from e14), (show (cf4 47).toInt = 1 → (cf 47).toInt = 1 ∨ 1 ≤ (cf4 30).toInt from by omega), (show 0 ≤ (1 : Int) from oz_19c3a41681), (show (1 : Int) ≤ 1 from oz_f9181dc4bb), (show 0 ≤ (cf4 47).toInt from (oz_f3ebed1ad0 e13 g12)), (show (cf4 47).toInt ≤ 1 from (oz_878017becc e13 g13)), (show (1 : Int) = 0 → (cf 46).toInt = 0 from by omega), (show (cf4 47).toInt = 0 → (cf 47).toInt = 0 from (fun q9 => oz_2c3e9075ce e13 q9 g12)), (show Ann na ma0 ma3 from han), (show FrC lo hi ma ma3 from hfc), (show MtF (upd cf4 46 1) ta ca na kn p0 from (fun _ _ => nm_fd hnmo (by omega))), (show R_mp_meetName ta na ca p0 ma cf ma3 (upd cf4 46 1) from (Or.inl ⟨ma3, cf4, v6, e21, Or.inl ⟨nc22, Or.inl ⟨nc24, Or.inl ⟨nc26, rfl, rfl⟩⟩⟩⟩))⟩) d_Mpg_meetName_67 | (exact px_vret S hr hlk hAe hw (Nat.le_of_ble_eq_true rfl) (Nat.le_of_ble_eq_true rfl) (⟨ma3, (upd cf4 46 1), rfl, (show KpE cf (upd cf4 46 1) from (KpE.u46 hke)), (show WrV (upd cf4 46 1) (tf 6).toInt from (WrV.u hwr (by decide) (by decide))), (show (cf4 33).toInt = (cf 33).toInt from by first | exact e9 | omega), (show (cf4 38).toInt = (cf 38).toInt from by first | exact e10 | omega), (show (cf4 48).toInt = (cf 48).toInt from by first | exact e11 | omega), (show (cf4 57).toInt = (cf 57).toInt from by first | exact e14 | omega), (show (cf4 47).toInt = 1 → (cf 47).toInt = 1 ∨ 1 ≤ (cf4 30).toInt from by omega), (show 0 ≤ (1 : Int) from by first | exact oz_19c3a41681 | omega), (show (1 : Int) ≤ 1 from by first | exact oz_f9181dc4bb | omega), (show 0 ≤ (cf4 47).toInt from by first | exact oz_f3ebed1ad0 e13 g12 | omega), (show (cf4 47).toInt ≤ 1 from by first | exact oz_878017becc e13 g13 | omega), (show (1 : Int) = 0 → (cf 46).toInt = 0 from by omega), (show (cf4 47).toInt = 0 → (cf 47).toInt = 0 from by first | exact fun q9 => oz_2c3e9075ce e13 q9 g12 | omega), (show Ann na ma0 ma3 from han), (show FrC lo hi ma ma3 from hfc), (show MtF (upd cf4 46 1) ta ca na kn p0 from (fun _ _ => nm_fd hnmo (by omega))), (show R_mp_meetName ta na ca p0 ma cf ma3 (upd cf4 46 1) from (Or.inl ⟨ma3, cf4, v6, e21, Or.inl ⟨nc22, Or.inl ⟨nc24, Or.inl ⟨nc26, rfl, rfl⟩⟩⟩⟩))⟩) d_Mpg_meetName_67)
      · have nc26 : (cf4 46).toInt = (0 : Int) := (i_eq (x := (cf4 46)) (y := 0)).mp c26
        refine lv_aload_n S.x S.b d_Mpg_meetName_39 rfl (lv_at hl 1 rfl) ?_
        refine gP_35 S hT hw 0 rfl m10_24 d_Mpg_meetName_40 ?_
        refine lv_aload_n S.x S.b d_Mpg_meetName_43 rfl (lv_at hl 1 rfl) ?_
        refine lv_aload_n S.x S.b d_Mpg_meetName_44 rfl (lv_at hl 1 rfl) ?_
        refine gP_15 S hT hw 0 rfl m9_239 d_Mpg_meetName_45 ?_
        refine lv_iload_n S.x S.b d_Mpg_meetName_48 rfl (lv_at hl 2 rfl) ?_
        refine px_iald S hT hw 0 11 (n := 2100) (f := (na 15)) rfl gp_15 (x := p0) (vp_in_iff.mpr (by first | exact oz_a7e05de1cd hrg.2.2 hrg.2.1 g1 g2 | (constructor <;> omega))) d_Mpg_meetName_49 ?_
        refine lv_topi (fun z28 ez28 => ?_)
        have lz28 := Int32.le_toInt z28
        have uz28 := Int32.toInt_lt z28
        have rz28 := EcV.tok hec_p0 ez28
        refine lv_iconst (v := 0) S.x S.b d_Mpg_meetName_50 (by decide) ?_
        first | refine px_calli (pr := []) (px_runV (As := [.int z28, .int 0]) (rest := [.ref (r 35), .ref h]) S (c_mp_find l D cs h r g tf ta pf na ma3 wa cf4 ca ef ea xf xa z28 0  (show 0 ≤ z28.toInt from rz28.1) (show z28.toInt < (tf 6).toInt from (oz_7fe81129bf rz28.2)) (show (tf 6).toInt ≤ 2049 from g3) (show 0 ≤ (0 : Int) from oz_5a341f00aa) (show 0 ≤ (cf4 33).toInt from (oz_e2fef14871 e9 g4 g5)) htk (KnT.eq hkt (by omega)) _) hT (pr := []) (pcs := [wdP cs h r g tf ta pf na ma3 wa cf4 ca ef ea xf xa]) hw px_X.tt (px_recv hT hw 0 0 rfl rfl rfl) m12_181 m12_178 m12_180 ms_11_14 m1_21 q_Mpg_find ⟨Nat.le_of_ble_eq_true rfl, Nat.le_of_ble_eq_true rfl⟩ hl.1 rfl (Nat.le_of_ble_eq_true rfl) d_Mpg_meetName_51 ⟨Nat.le_of_ble_eq_true rfl, Nat.le_of_ble_eq_true rfl⟩) hw hA (fun v30 p29 H locs hp29 hw => ?_) | (refine px_calli (pr := []) (px_runV (As := [.int z28, .int 0]) (rest := [.ref (r 35), .ref h]) S (c_mp_find l D cs h r g tf ta pf na ma3 wa cf4 ca ef ea xf xa z28 0  (show 0 ≤ z28.toInt from by first | exact rz28.1 | omega) (show z28.toInt < (tf 6).toInt from by first | exact oz_7fe81129bf rz28.2 | omega) (show (tf 6).toInt ≤ 2049 from by first | exact g3 | omega) (show 0 ≤ (0 : Int) from by first | exact oz_5a341f00aa | omega) (show 0 ≤ (cf4 33).toInt from by first | exact oz_e2fef14871 e9 g4 g5 | omega) htk (KnT.eq hkt (by omega)) _) hT (pr := []) (pcs := [wdP cs h r g tf ta pf na ma3 wa cf4 ca ef ea xf xa]) hw px_X.tt (px_recv hT hw 0 0 rfl rfl rfl) m12_181 m12_178 m12_180 ms_11_14 m1_21 q_Mpg_find ⟨Nat.le_of_ble_eq_true rfl, Nat.le_of_ble_eq_true rfl⟩ hl.1 rfl (Nat.le_of_ble_eq_true rfl) d_Mpg_meetName_51 ⟨Nat.le_of_ble_eq_true rfl, Nat.le_of_ble_eq_true rfl⟩) hw hA (fun v30 p29 H locs hp29 hw => ?_))
        obtain ⟨rfl, e31, e32, e33, e34, e35⟩ := hp29
        have e31 : -1 ≤ v30.toInt := e31
        have e32 : v30.toInt < (cf4 33).toInt := e32
        have e33 : 0 ≤ v30.toInt → (0 : Int) ≤ v30.toInt := e33
        have e34 : FndV ta ca (cf4 33).toInt z28 (0 : Int) v30.toInt := e34
        have hfd := e34
        have e35 : R_mp_find ta cf4 ca z28 (0 : Int32) v30 := e35
        have lv30 := Int32.le_toInt v30
        have uv30 := Int32.toInt_lt v30
        have hps := nm_pos hnmo (by omega) hfd ez28 (by omega)
        refine px_iald S hT hw 0 24 (n := 1100) (f := (ca 35)) rfl gp_35 (x := v30) (vp_in_iff.mpr (by constructor <;> omega)) d_Mpg_meetName_54 ?_
        refine lv_topi (fun z36 ez36 => ?_)
        have lz36 := Int32.le_toInt z36
        have uz36 := Int32.toInt_lt z36
        refine lv_iconst (v := 4) S.x S.b d_Mpg_meetName_55 (by decide) ?_
        refine lv_icmp_eq (tgt := 63) S.x S.b d_Mpg_meetName_56 (by decide) (fun c37 => ?_) (fun c37 => ?_)
        · have nc37 : z36.toInt = (4 : Int) := (i_eq (x := z36) (y := 4)).mp c37
          refine lv_iconst (v := 0) S.x S.b d_Mpg_meetName_63 (by decide) ?_
          refine pP_46 S hT hw 0 rfl m10_37 rfl rfl rfl d_Mpg_meetName_64 (ps' := [wdP cs h r g tf ta pf na ma3 wa (upd cf4 46 0) ca ef ea xf xa]) rfl (fun H locs hw => ?_)
          first | exact px_vret S hr hlk hAe hw (Nat.le_of_ble_eq_true rfl) (Nat.le_of_ble_eq_true rfl) (⟨ma3, (upd cf4 46 0), rfl, (show KpE cf (upd cf4 46 0) from (KpE.u46 hke)), (show WrV (upd cf4 46 0) (tf 6).toInt from (WrV.u hwr (by decide) (by decide))), (show (cf4 33).toInt = (cf 33).toInt from e9), (show (cf4 38).toInt = (cf 38).toInt from e10), (show (cf4 48).toInt = (cf 48).toInt from e11), (show (cf4 57).toInt = (cf 57).toInt from e14), (show (cf4 47).toInt = 1 → (cf 47).toInt = 1 ∨ 1 ≤ (cf4 30).toInt from by omega), (show 0 ≤ (0 : Int) from oz_5a341f00aa), (show (0 : Int) ≤ 1 from oz_6e68cd0f48), (show 0 ≤ (cf4 47).toInt from (oz_f3ebed1ad0 e13 g12)), (show (cf4 47).toInt ≤ 1 from (oz_878017becc e13 g13)), (show (0 : Int) = 0 → (cf 46).toInt = 0 from by omega), (show (cf4 47).toInt = 0 → (cf 47).toInt = 0 from (fun q9 => oz_2c3e9075ce e13 q9 g12)), (show Ann na ma0 ma3 from han), (show FrC lo hi ma ma3 from hfc), (show MtF (upd cf4 46 0) ta ca na kn p0 from (fun _ _ => nm_fd hnmo (by omega))), (show R_mp_meetName ta na ca p0 ma cf ma3 (upd cf4 46 0) from (Or.inl ⟨ma3, cf4, v6, e21, Or.inl ⟨nc22, Or.inl ⟨nc24, Or.inr ⟨nc26, z28, ez28, v30, e35, z36, ez36, Or.inl ⟨nc37, rfl, rfl⟩⟩⟩⟩⟩))⟩) d_Mpg_meetName_67 | (exact px_vret S hr hlk hAe hw (Nat.le_of_ble_eq_true rfl) (Nat.le_of_ble_eq_true rfl) (⟨ma3, (upd cf4 46 0), rfl, (show KpE cf (upd cf4 46 0) from (KpE.u46 hke)), (show WrV (upd cf4 46 0) (tf 6).toInt from (WrV.u hwr (by decide) (by decide))), (show (cf4 33).toInt = (cf 33).toInt from by first | exact e9 | omega), (show (cf4 38).toInt = (cf 38).toInt from by first | exact e10 | omega), (show (cf4 48).toInt = (cf 48).toInt from by first | exact e11 | omega), (show (cf4 57).toInt = (cf 57).toInt from by first | exact e14 | omega), (show (cf4 47).toInt = 1 → (cf 47).toInt = 1 ∨ 1 ≤ (cf4 30).toInt from by omega), (show 0 ≤ (0 : Int) from by first | exact oz_5a341f00aa | omega), (show (0 : Int) ≤ 1 from by first | exact oz_6e68cd0f48 | omega), (show 0 ≤ (cf4 47).toInt from by first | exact oz_f3ebed1ad0 e13 g12 | omega), (show (cf4 47).toInt ≤ 1 from by first | exact oz_878017becc e13 g13 | omega), (show (0 : Int) = 0 → (cf 46).toInt = 0 from by omega), (show (cf4 47).toInt = 0 → (cf 47).toInt = 0 from by first | exact fun q9 => oz_2c3e9075ce e13 q9 g12 | omega), (show Ann na ma0 ma3 from han), (show FrC lo hi ma ma3 from hfc), (show MtF (upd cf4 46 0) ta ca na kn p0 from (fun _ _ => nm_fd hnmo (by omega))), (show R_mp_meetName ta na ca p0 ma cf ma3 (upd cf4 46 0) from (Or.inl ⟨ma3, cf4, v6, e21, Or.inl ⟨nc22, Or.inl ⟨nc24, Or.inr ⟨nc26, z28, ez28, v30, e35, z36, ez36, Or.inl ⟨nc37, rfl, rfl⟩⟩⟩⟩⟩))⟩) d_Mpg_meetName_67)
        · have nc37 : ¬ z36.toInt = (4 : Int) := mt (i_eq (x := z36) (y := 4)).mpr c37
          refine lv_iconst (v := 1) S.x S.b d_Mpg_meetName_59 (by decide) ?_
          refine lv_goto (tgt := 64) S.x S.b d_Mpg_meetName_60 (by decide) ?_
          refine pP_46 S hT hw 0 rfl m10_37 rfl rfl rfl d_Mpg_meetName_64 (ps' := [wdP cs h r g tf ta pf na ma3 wa (upd cf4 46 1) ca ef ea xf xa]) rfl (fun H locs hw => ?_)
          first | exact px_vret S hr hlk hAe hw (Nat.le_of_ble_eq_true rfl) (Nat.le_of_ble_eq_true rfl) (⟨ma3, (upd cf4 46 1), rfl, (show KpE cf (upd cf4 46 1) from (KpE.u46 hke)), (show WrV (upd cf4 46 1) (tf 6).toInt from (WrV.u hwr (by decide) (by decide))), (show (cf4 33).toInt = (cf 33).toInt from e9), (show (cf4 38).toInt = (cf 38).toInt from e10), (show (cf4 48).toInt = (cf 48).toInt from e11), (show (cf4 57).toInt = (cf 57).toInt from e14), (show (cf4 47).toInt = 1 → (cf 47).toInt = 1 ∨ 1 ≤ (cf4 30).toInt from by omega), (show 0 ≤ (1 : Int) from oz_19c3a41681), (show (1 : Int) ≤ 1 from oz_f9181dc4bb), (show 0 ≤ (cf4 47).toInt from (oz_f3ebed1ad0 e13 g12)), (show (cf4 47).toInt ≤ 1 from (oz_878017becc e13 g13)), (show (1 : Int) = 0 → (cf 46).toInt = 0 from by omega), (show (cf4 47).toInt = 0 → (cf 47).toInt = 0 from (fun q9 => oz_2c3e9075ce e13 q9 g12)), (show Ann na ma0 ma3 from han), (show FrC lo hi ma ma3 from hfc), (show MtF (upd cf4 46 1) ta ca na kn p0 from (fun _ _ => nm_fd hnmo (by omega))), (show R_mp_meetName ta na ca p0 ma cf ma3 (upd cf4 46 1) from (Or.inl ⟨ma3, cf4, v6, e21, Or.inl ⟨nc22, Or.inl ⟨nc24, Or.inr ⟨nc26, z28, ez28, v30, e35, z36, ez36, Or.inr ⟨nc37, rfl, rfl⟩⟩⟩⟩⟩))⟩) d_Mpg_meetName_67 | (exact px_vret S hr hlk hAe hw (Nat.le_of_ble_eq_true rfl) (Nat.le_of_ble_eq_true rfl) (⟨ma3, (upd cf4 46 1), rfl, (show KpE cf (upd cf4 46 1) from (KpE.u46 hke)), (show WrV (upd cf4 46 1) (tf 6).toInt from (WrV.u hwr (by decide) (by decide))), (show (cf4 33).toInt = (cf 33).toInt from by first | exact e9 | omega), (show (cf4 38).toInt = (cf 38).toInt from by first | exact e10 | omega), (show (cf4 48).toInt = (cf 48).toInt from by first | exact e11 | omega), (show (cf4 57).toInt = (cf 57).toInt from by first | exact e14 | omega), (show (cf4 47).toInt = 1 → (cf 47).toInt = 1 ∨ 1 ≤ (cf4 30).toInt from by omega), (show 0 ≤ (1 : Int) from by first | exact oz_19c3a41681 | omega), (show (1 : Int) ≤ 1 from by first | exact oz_f9181dc4bb | omega), (show 0 ≤ (cf4 47).toInt from by first | exact oz_f3ebed1ad0 e13 g12 | omega), (show (cf4 47).toInt ≤ 1 from by first | exact oz_878017becc e13 g13 | omega), (show (1 : Int) = 0 → (cf 46).toInt = 0 from by omega), (show (cf4 47).toInt = 0 → (cf 47).toInt = 0 from by first | exact fun q9 => oz_2c3e9075ce e13 q9 g12 | omega), (show Ann na ma0 ma3 from han), (show FrC lo hi ma ma3 from hfc), (show MtF (upd cf4 46 1) ta ca na kn p0 from (fun _ _ => nm_fd hnmo (by omega))), (show R_mp_meetName ta na ca p0 ma cf ma3 (upd cf4 46 1) from (Or.inl ⟨ma3, cf4, v6, e21, Or.inl ⟨nc22, Or.inl ⟨nc24, Or.inr ⟨nc26, z28, ez28, v30, e35, z36, ez36, Or.inr ⟨nc37, rfl, rfl⟩⟩⟩⟩⟩))⟩) d_Mpg_meetName_67)
    · have nc24 : ¬ v6.toInt = (1 : Int) := mt (i_eq (x := v6) (y := 1)).mpr c24
      refine lv_aload_n S.x S.b d_Mpg_meetName_21 rfl (lv_at hl 1 rfl) ?_
      refine lv_iconst (v := 3) S.x S.b d_Mpg_meetName_22 (by decide) ?_
      refine lv_aload_n S.x S.b d_Mpg_meetName_23 rfl (lv_at hl 1 rfl) ?_
      refine lv_iload_n S.x S.b d_Mpg_meetName_24 rfl (lv_at hl 2 rfl) ?_
      first | refine px_calli (pr := []) (px_runV (As := [.int p0]) (rest := [.int 3, .ref h]) S (c_mp_first l D cs h r g tf ta pf na ma3 wa cf4 ca ef ea xf xa p0  (show 0 ≤ p0.toInt from hrg.2.2) (show p0.toInt < (pf 13).toInt from (oz_7319c2f99d g1 hrg.2.1)) (show (pf 13).toInt ≤ 2100 from g2) htk (FsI.le (N' := (pf 13).toInt) hfs (by omega)) _) hT (pr := []) (pcs := [wdP cs h r g tf ta pf na ma3 wa cf4 ca ef ea xf xa]) hw px_X.tt (px_recv hT hw 0 0 rfl rfl rfl) m13_9 m13_6 m13_8 ms_12_15 m1_21 q_Mpg_first ⟨Nat.le_of_ble_eq_true rfl, Nat.le_of_ble_eq_true rfl⟩ hl.1 rfl (Nat.le_of_ble_eq_true rfl) d_Mpg_meetName_25 ⟨Nat.le_of_ble_eq_true rfl, Nat.le_of_ble_eq_true rfl⟩) hw hA (fun v40 p39 H locs hp39 hw => ?_) | (refine px_calli (pr := []) (px_runV (As := [.int p0]) (rest := [.int 3, .ref h]) S (c_mp_first l D cs h r g tf ta pf na ma3 wa cf4 ca ef ea xf xa p0  (show 0 ≤ p0.toInt from by first | exact hrg.2.2 | omega) (show p0.toInt < (pf 13).toInt from by first | exact oz_7319c2f99d g1 hrg.2.1 | omega) (show (pf 13).toInt ≤ 2100 from by first | exact g2 | omega) htk (FsI.le (N' := (pf 13).toInt) hfs (by omega)) _) hT (pr := []) (pcs := [wdP cs h r g tf ta pf na ma3 wa cf4 ca ef ea xf xa]) hw px_X.tt (px_recv hT hw 0 0 rfl rfl rfl) m13_9 m13_6 m13_8 ms_12_15 m1_21 q_Mpg_first ⟨Nat.le_of_ble_eq_true rfl, Nat.le_of_ble_eq_true rfl⟩ hl.1 rfl (Nat.le_of_ble_eq_true rfl) d_Mpg_meetName_25 ⟨Nat.le_of_ble_eq_true rfl, Nat.le_of_ble_eq_true rfl⟩) hw hA (fun v40 p39 H locs hp39 hw => ?_))
      obtain ⟨rfl, e41, e42, e43⟩ := hp39
      have e41 : 0 ≤ v40.toInt := e41
      have e42 : v40.toInt < (tf 6).toInt := e42
      have e43 : R_mp_first na p0 v40 := e43
      have lv40 := Int32.le_toInt v40
      have uv40 := Int32.toInt_lt v40
      first | refine px_callv (pr := []) (px_runV (As := [.int 3, .int v40]) (rest := []) S (c_mp_bad l D cs h r g tf ta pf na ma3 wa ca ef ea xf xa cf4 3 v40  (show 1 ≤ (3 : Int) from oz_00a6fa0b0d) (show 0 ≤ v40.toInt from e41) (show v40.toInt < (tf 6).toInt from e42) htk hwr _) hT (pr := []) (pcs := [wdP cs h r g tf ta pf na ma3 wa cf4 ca ef ea xf xa]) hw px_X.tt (px_recv hT hw 0 0 rfl rfl rfl) m12_173 m12_170 m12_172 ms_11_12 m1_21 q_Mpg_bad ⟨Nat.le_of_ble_eq_true rfl, Nat.le_of_ble_eq_true rfl⟩ hl.1 rfl (Nat.le_of_ble_eq_true rfl) d_Mpg_meetName_28 ⟨Nat.le_of_ble_eq_true rfl, Nat.le_of_ble_eq_true rfl⟩) hw hA (fun p46 H locs hp46 hw => ?_) | (refine px_callv (pr := []) (px_runV (As := [.int 3, .int v40]) (rest := []) S (c_mp_bad l D cs h r g tf ta pf na ma3 wa ca ef ea xf xa cf4 3 v40  (show 1 ≤ (3 : Int) from by first | exact oz_00a6fa0b0d | omega) (show 0 ≤ v40.toInt from by first | exact e41 | omega) (show v40.toInt < (tf 6).toInt from by first | exact e42 | omega) htk hwr _) hT (pr := []) (pcs := [wdP cs h r g tf ta pf na ma3 wa cf4 ca ef ea xf xa]) hw px_X.tt (px_recv hT hw 0 0 rfl rfl rfl) m12_173 m12_170 m12_172 ms_11_12 m1_21 q_Mpg_bad ⟨Nat.le_of_ble_eq_true rfl, Nat.le_of_ble_eq_true rfl⟩ hl.1 rfl (Nat.le_of_ble_eq_true rfl) d_Mpg_meetName_28 ⟨Nat.le_of_ble_eq_true rfl, Nat.le_of_ble_eq_true rfl⟩) hw hA (fun p46 H locs hp46 hw => ?_))
      obtain ⟨cf45, rfl, e48, e49, e50, e51, e52, e53, e54, e55, e56, e57, e58, e59, e60, e61, e62, e63, e64, e65, e66, e67⟩ := hp46
      have e48 : KpE cf4 cf45 := e48
      have hke := (hke).tr e48
      have hkz_e48 := e48.2
      have hzt_p0 := Zr.kp hzt_p0 e48 id
      have e49 : WrV cf45 (tf 6).toInt := e49
      have hwr := e49
      have hw0_e49 := hwr.1
      have e50 : 1 ≤ (cf45 30).toInt := e50
      have e51 : (cf45 33).toInt = (cf4 33).toInt := e51
      have e52 : (cf45 38).toInt = (cf4 38).toInt := e52
      have e53 : (cf45 48).toInt = (cf4 48).toInt := e53
      have e54 : (cf45 46).toInt = (cf4 46).toInt := e54
      have e55 : (cf45 47).toInt = (cf4 47).toInt := e55
      have e56 : (cf45 57).toInt = (cf4 57).toInt := e56
      have e57 : (cf45 37).toInt = (cf4 37).toInt := e57
      have e58 : (cf45 42).toInt = (cf4 42).toInt := e58
      have e59 : (cf45 43).toInt = (cf4 43).toInt := e59
      have e60 : (cf45 44).toInt = (cf4 44).toInt := e60
      have e61 : (cf45 45).toInt = (cf4 45).toInt := e61
      have e62 : (cf45 54).toInt = (cf4 54).toInt := e62
      have e63 : (cf45 55).toInt = (cf4 55).toInt := e63
      have e64 : (cf45 58).toInt = (cf4 58).toInt := e64
      have e65 : (cf45 59).toInt = (cf4 59).toInt := e65
      have e66 : (cf45 41).toInt = (cf4 41).toInt := e66
      have e67 : R_mp_bad (3 : Int32) v40 cf4 cf45 := e67
      refine lv_aload_n S.x S.b d_Mpg_meetName_31 rfl (lv_at hl 1 rfl) ?_
      refine lv_aload_n S.x S.b d_Mpg_meetName_32 rfl (lv_at hl 1 rfl) ?_
      refine gP_46 (v := (cf45 46)) S hT hw 0 rfl rfl m10_37 d_Mpg_meetName_33 ?_
      refine lv_if_ne (tgt := 59) S.x S.b d_Mpg_meetName_36 (by decide) (fun c68 => ?_) (fun c68 => ?_)
      · have nc68 : ¬ (cf45 46).toInt = (0 : Int) := mt (i_eq (x := (cf45 46)) (y := 0)).mpr c68
        refine lv_iconst (v := 1) S.x S.b d_Mpg_meetName_59 (by decide) ?_
        refine lv_goto (tgt := 64) S.x S.b d_Mpg_meetName_60 (by decide) ?_
        refine pP_46 S hT hw 0 rfl m10_37 rfl rfl rfl d_Mpg_meetName_64 (ps' := [wdP cs h r g tf ta pf na ma3 wa (upd cf45 46 1) ca ef ea xf xa]) rfl (fun H locs hw => ?_)
        first | exact px_vret S hr hlk hAe hw (Nat.le_of_ble_eq_true rfl) (Nat.le_of_ble_eq_true rfl) (⟨ma3, (upd cf45 46 1), rfl, (show KpE cf (upd cf45 46 1) from (KpE.u46 hke)), (show WrV (upd cf45 46 1) (tf 6).toInt from (WrV.u hwr (by decide) (by decide))), (show (cf45 33).toInt = (cf 33).toInt from (oz_1687f4cc65 e9 e51)), (show (cf45 38).toInt = (cf 38).toInt from (oz_1687f4cc65 e10 e52)), (show (cf45 48).toInt = (cf 48).toInt from (oz_1687f4cc65 e11 e53)), (show (cf45 57).toInt = (cf 57).toInt from (oz_1687f4cc65 e14 e56)), (show (cf45 47).toInt = 1 → (cf 47).toInt = 1 ∨ 1 ≤ (cf45 30).toInt from by omega), (show 0 ≤ (1 : Int) from oz_19c3a41681), (show (1 : Int) ≤ 1 from oz_f9181dc4bb), (show 0 ≤ (cf45 47).toInt from (oz_e2fef14871 e55 e13 g12)), (show (cf45 47).toInt ≤ 1 from (oz_916d756328 e55 e13 g13)), (show (1 : Int) = 0 → (cf 46).toInt = 0 from by omega), (show (cf45 47).toInt = 0 → (cf 47).toInt = 0 from (fun q9 => oz_e6e07d6050 e13 e55 q9 g12)), (show Ann na ma0 ma3 from han), (show FrC lo hi ma ma3 from hfc), (show MtF (upd cf45 46 1) ta ca na kn p0 from (fun _ _ => nm_fd hnmo (by omega))), (show R_mp_meetName ta na ca p0 ma cf ma3 (upd cf45 46 1) from (Or.inl ⟨ma3, cf4, v6, e21, Or.inl ⟨nc22, Or.inr ⟨nc24, v40, e43, cf45, e67, Or.inl ⟨nc68, rfl, rfl⟩⟩⟩⟩))⟩) d_Mpg_meetName_67 | (exact px_vret S hr hlk hAe hw (Nat.le_of_ble_eq_true rfl) (Nat.le_of_ble_eq_true rfl) (⟨ma3, (upd cf45 46 1), rfl, (show KpE cf (upd cf45 46 1) from (KpE.u46 hke)), (show WrV (upd cf45 46 1) (tf 6).toInt from (WrV.u hwr (by decide) (by decide))), (show (cf45 33).toInt = (cf 33).toInt from by first | exact oz_1687f4cc65 e9 e51 | omega), (show (cf45 38).toInt = (cf 38).toInt from by first | exact oz_1687f4cc65 e10 e52 | omega), (show (cf45 48).toInt = (cf 48).toInt from by first | exact oz_1687f4cc65 e11 e53 | omega), (show (cf45 57).toInt = (cf 57).toInt from by first | exact oz_1687f4cc65 e14 e56 | omega), (show (cf45 47).toInt = 1 → (cf 47).toInt = 1 ∨ 1 ≤ (cf45 30).toInt from by omega), (show 0 ≤ (1 : Int) from by first | exact oz_19c3a41681 | omega), (show (1 : Int) ≤ 1 from by first | exact oz_f9181dc4bb | omega), (show 0 ≤ (cf45 47).toInt from by first | exact oz_e2fef14871 e55 e13 g12 | omega), (show (cf45 47).toInt ≤ 1 from by first | exact oz_916d756328 e55 e13 g13 | omega), (show (1 : Int) = 0 → (cf 46).toInt = 0 from by omega), (show (cf45 47).toInt = 0 → (cf 47).toInt = 0 from by first | exact fun q9 => oz_e6e07d6050 e13 e55 q9 g12 | omega), (show Ann na ma0 ma3 from han), (show FrC lo hi ma ma3 from hfc), (show MtF (upd cf45 46 1) ta ca na kn p0 from (fun _ _ => nm_fd hnmo (by omega))), (show R_mp_meetName ta na ca p0 ma cf ma3 (upd cf45 46 1) from (Or.inl ⟨ma3, cf4, v6, e21, Or.inl ⟨nc22, Or.inr ⟨nc24, v40, e43, cf45, e67, Or.inl ⟨nc68, rfl, rfl⟩⟩⟩⟩))⟩) d_Mpg_meetName_67)
      · have nc68 : (cf45 46).toInt = (0 : Int) := (i_eq (x := (cf45 46)) (y := 0)).mp c68
        refine lv_aload_n S.x S.b d_Mpg_meetName_39 rfl (lv_at hl 1 rfl) ?_
        refine gP_35 S hT hw 0 rfl m10_24 d_Mpg_meetName_40 ?_
        refine lv_aload_n S.x S.b d_Mpg_meetName_43 rfl (lv_at hl 1 rfl) ?_
        refine lv_aload_n S.x S.b d_Mpg_meetName_44 rfl (lv_at hl 1 rfl) ?_
        refine gP_15 S hT hw 0 rfl m9_239 d_Mpg_meetName_45 ?_
        refine lv_iload_n S.x S.b d_Mpg_meetName_48 rfl (lv_at hl 2 rfl) ?_
        refine px_iald S hT hw 0 11 (n := 2100) (f := (na 15)) rfl gp_15 (x := p0) (vp_in_iff.mpr (by first | exact oz_a7e05de1cd hrg.2.2 hrg.2.1 g1 g2 | (constructor <;> omega))) d_Mpg_meetName_49 ?_
        refine lv_topi (fun z70 ez70 => ?_)
        have lz70 := Int32.le_toInt z70
        have uz70 := Int32.toInt_lt z70
        have rz70 := EcV.tok hec_p0 ez70
        refine lv_iconst (v := 0) S.x S.b d_Mpg_meetName_50 (by decide) ?_
        first | refine px_calli (pr := []) (px_runV (As := [.int z70, .int 0]) (rest := [.ref (r 35), .ref h]) S (c_mp_find l D cs h r g tf ta pf na ma3 wa cf45 ca ef ea xf xa z70 0  (show 0 ≤ z70.toInt from rz70.1) (show z70.toInt < (tf 6).toInt from (oz_7fe81129bf rz70.2)) (show (tf 6).toInt ≤ 2049 from g3) (show 0 ≤ (0 : Int) from oz_5a341f00aa) (show 0 ≤ (cf45 33).toInt from (oz_11e71ee49a e51 e9 g4 g5)) htk (KnT.eq hkt (by omega)) _) hT (pr := []) (pcs := [wdP cs h r g tf ta pf na ma3 wa cf45 ca ef ea xf xa]) hw px_X.tt (px_recv hT hw 0 0 rfl rfl rfl) m12_181 m12_178 m12_180 ms_11_14 m1_21 q_Mpg_find ⟨Nat.le_of_ble_eq_true rfl, Nat.le_of_ble_eq_true rfl⟩ hl.1 rfl (Nat.le_of_ble_eq_true rfl) d_Mpg_meetName_51 ⟨Nat.le_of_ble_eq_true rfl, Nat.le_of_ble_eq_true rfl⟩) hw hA (fun v72 p71 H locs hp71 hw => ?_) | (refine px_calli (pr := []) (px_runV (As := [.int z70, .int 0]) (rest := [.ref (r 35), .ref h]) S (c_mp_find l D cs h r g tf ta pf na ma3 wa cf45 ca ef ea xf xa z70 0  (show 0 ≤ z70.toInt from by first | exact rz70.1 | omega) (show z70.toInt < (tf 6).toInt from by first | exact oz_7fe81129bf rz70.2 | omega) (show (tf 6).toInt ≤ 2049 from by first | exact g3 | omega) (show 0 ≤ (0 : Int) from by first | exact oz_5a341f00aa | omega) (show 0 ≤ (cf45 33).toInt from by first | exact oz_11e71ee49a e51 e9 g4 g5 | omega) htk (KnT.eq hkt (by omega)) _) hT (pr := []) (pcs := [wdP cs h r g tf ta pf na ma3 wa cf45 ca ef ea xf xa]) hw px_X.tt (px_recv hT hw 0 0 rfl rfl rfl) m12_181 m12_178 m12_180 ms_11_14 m1_21 q_Mpg_find ⟨Nat.le_of_ble_eq_true rfl, Nat.le_of_ble_eq_true rfl⟩ hl.1 rfl (Nat.le_of_ble_eq_true rfl) d_Mpg_meetName_51 ⟨Nat.le_of_ble_eq_true rfl, Nat.le_of_ble_eq_true rfl⟩) hw hA (fun v72 p71 H locs hp71 hw => ?_))
        obtain ⟨rfl, e73, e74, e75, e76, e77⟩ := hp71
        have e73 : -1 ≤ v72.toInt := e73
        have e74 : v72.toInt < (cf45 33).toInt := e74
        have e75 : 0 ≤ v72.toInt → (0 : Int) ≤ v72.toInt := e75
        have e76 : FndV ta ca (cf45 33).toInt z70 (0 : Int) v72.toInt := e76
        have hfd := e76
        have e77 : R_mp_find ta cf45 ca z70 (0 : Int32) v72 := e77
        have lv72 := Int32.le_toInt v72
        have uv72 := Int32.toInt_lt v72
        have hps := nm_pos hnmo (by omega) hfd ez70 (by omega)
        refine px_iald S hT hw 0 24 (n := 1100) (f := (ca 35)) rfl gp_35 (x := v72) (vp_in_iff.mpr (by constructor <;> omega)) d_Mpg_meetName_54 ?_
        refine lv_topi (fun z78 ez78 => ?_)
        have lz78 := Int32.le_toInt z78
        have uz78 := Int32.toInt_lt z78
        refine lv_iconst (v := 4) S.x S.b d_Mpg_meetName_55 (by decide) ?_
        refine lv_icmp_eq (tgt := 63) S.x S.b d_Mpg_meetName_56 (by decide) (fun c79 => ?_) (fun c79 => ?_)
        · have nc79 : z78.toInt = (4 : Int) := (i_eq (x := z78) (y := 4)).mp c79
          refine lv_iconst (v := 0) S.x S.b d_Mpg_meetName_63 (by decide) ?_
          refine pP_46 S hT hw 0 rfl m10_37 rfl rfl rfl d_Mpg_meetName_64 (ps' := [wdP cs h r g tf ta pf na ma3 wa (upd cf45 46 0) ca ef ea xf xa]) rfl (fun H locs hw => ?_)
          first | exact px_vret S hr hlk hAe hw (Nat.le_of_ble_eq_true rfl) (Nat.le_of_ble_eq_true rfl) (⟨ma3, (upd cf45 46 0), rfl, (show KpE cf (upd cf45 46 0) from (KpE.u46 hke)), (show WrV (upd cf45 46 0) (tf 6).toInt from (WrV.u hwr (by decide) (by decide))), (show (cf45 33).toInt = (cf 33).toInt from (oz_1687f4cc65 e9 e51)), (show (cf45 38).toInt = (cf 38).toInt from (oz_1687f4cc65 e10 e52)), (show (cf45 48).toInt = (cf 48).toInt from (oz_1687f4cc65 e11 e53)), (show (cf45 57).toInt = (cf 57).toInt from (oz_1687f4cc65 e14 e56)), (show (cf45 47).toInt = 1 → (cf 47).toInt = 1 ∨ 1 ≤ (cf45 30).toInt from by omega), (show 0 ≤ (0 : Int) from oz_5a341f00aa), (show (0 : Int) ≤ 1 from oz_6e68cd0f48), (show 0 ≤ (cf45 47).toInt from (oz_e2fef14871 e55 e13 g12)), (show (cf45 47).toInt ≤ 1 from (oz_916d756328 e55 e13 g13)), (show (0 : Int) = 0 → (cf 46).toInt = 0 from by omega), (show (cf45 47).toInt = 0 → (cf 47).toInt = 0 from (fun q9 => oz_e6e07d6050 e13 e55 q9 g12)), (show Ann na ma0 ma3 from han), (show FrC lo hi ma ma3 from hfc), (show MtF (upd cf45 46 0) ta ca na kn p0 from (fun _ _ => nm_fd hnmo (by omega))), (show R_mp_meetName ta na ca p0 ma cf ma3 (upd cf45 46 0) from (Or.inl ⟨ma3, cf4, v6, e21, Or.inl ⟨nc22, Or.inr ⟨nc24, v40, e43, cf45, e67, Or.inr ⟨nc68, z70, ez70, v72, e77, z78, ez78, Or.inl ⟨nc79, rfl, rfl⟩⟩⟩⟩⟩))⟩) d_Mpg_meetName_67 | (exact px_vret S hr hlk hAe hw (Nat.le_of_ble_eq_true rfl) (Nat.le_of_ble_eq_true rfl) (⟨ma3, (upd cf45 46 0), rfl, (show KpE cf (upd cf45 46 0) from (KpE.u46 hke)), (show WrV (upd cf45 46 0) (tf 6).toInt from (WrV.u hwr (by decide) (by decide))), (show (cf45 33).toInt = (cf 33).toInt from by first | exact oz_1687f4cc65 e9 e51 | omega), (show (cf45 38).toInt = (cf 38).toInt from by first | exact oz_1687f4cc65 e10 e52 | omega), (show (cf45 48).toInt = (cf 48).toInt from by first | exact oz_1687f4cc65 e11 e53 | omega), (show (cf45 57).toInt = (cf 57).toInt from by first | exact oz_1687f4cc65 e14 e56 | omega), (show (cf45 47).toInt = 1 → (cf 47).toInt = 1 ∨ 1 ≤ (cf45 30).toInt from by omega), (show 0 ≤ (0 : Int) from by first | exact oz_5a341f00aa | omega), (show (0 : Int) ≤ 1 from by first | exact oz_6e68cd0f48 | omega), (show 0 ≤ (cf45 47).toInt from by first | exact oz_e2fef14871 e55 e13 g12 | omega), (show (cf45 47).toInt ≤ 1 from by first | exact oz_916d756328 e55 e13 g13 | omega), (show (0 : Int) = 0 → (cf 46).toInt = 0 from by omega), (show (cf45 47).toInt = 0 → (cf 47).toInt = 0 from by first | exact fun q9 => oz_e6e07d6050 e13 e55 q9 g12 | omega), (show Ann na ma0 ma3 from han), (show FrC lo hi ma ma3 from hfc), (show MtF (upd cf45 46 0) ta ca na kn p0 from (fun _ _ => nm_fd hnmo (by omega))), (show R_mp_meetName ta na ca p0 ma cf ma3 (upd cf45 46 0) from (Or.inl ⟨ma3, cf4, v6, e21, Or.inl ⟨nc22, Or.inr ⟨nc24, v40, e43, cf45, e67, Or.inr ⟨nc68, z70, ez70, v72, e77, z78, ez78, Or.inl ⟨nc79, rfl, rfl⟩⟩⟩⟩⟩))⟩) d_Mpg_meetName_67)
        · have nc79 : ¬ z78.toInt = (4 : Int) := mt (i_eq (x := z78) (y := 4)).mpr c79
          refine lv_iconst (v := 1) S.x S.b d_Mpg_meetName_59 (by decide) ?_
          refine lv_goto (tgt := 64) S.x S.b d_Mpg_meetName_60 (by decide) ?_
          refine pP_46 S hT hw 0 rfl m10_37 rfl rfl rfl d_Mpg_meetName_64 (ps' := [wdP cs h r g tf ta pf na ma3 wa (upd cf45 46 1) ca ef ea xf xa]) rfl (fun H locs hw => ?_)
          first | exact px_vret S hr hlk hAe hw (Nat.le_of_ble_eq_true rfl) (Nat.le_of_ble_eq_true rfl) (⟨ma3, (upd cf45 46 1), rfl, (show KpE cf (upd cf45 46 1) from (KpE.u46 hke)), (show WrV (upd cf45 46 1) (tf 6).toInt from (WrV.u hwr (by decide) (by decide))), (show (cf45 33).toInt = (cf 33).toInt from (oz_1687f4cc65 e9 e51)), (show (cf45 38).toInt = (cf 38).toInt from (oz_1687f4cc65 e10 e52)), (show (cf45 48).toInt = (cf 48).toInt from (oz_1687f4cc65 e11 e53)), (show (cf45 57).toInt = (cf 57).toInt from (oz_1687f4cc65 e14 e56)), (show (cf45 47).toInt = 1 → (cf 47).toInt = 1 ∨ 1 ≤ (cf45 30).toInt from by omega), (show 0 ≤ (1 : Int) from oz_19c3a41681), (show (1 : Int) ≤ 1 from oz_f9181dc4bb), (show 0 ≤ (cf45 47).toInt from (oz_e2fef14871 e55 e13 g12)), (show (cf45 47).toInt ≤ 1 from (oz_916d756328 e55 e13 g13)), (show (1 : Int) = 0 → (cf 46).toInt = 0 from by omega), (show (cf45 47).toInt = 0 → (cf 47).toInt = 0 from (fun q9 => oz_e6e07d6050 e13 e55 q9 g12)), (show Ann na ma0 ma3 from han), (show FrC lo hi ma ma3 from hfc), (show MtF (upd cf45 46 1) ta ca na kn p0 from (fun _ _ => nm_fd hnmo (by omega))), (show R_mp_meetName ta na ca p0 ma cf ma3 (upd cf45 46 1) from (Or.inl ⟨ma3, cf4, v6, e21, Or.inl ⟨nc22, Or.inr ⟨nc24, v40, e43, cf45, e67, Or.inr ⟨nc68, z70, ez70, v72, e77, z78, ez78, Or.inr ⟨nc79, rfl, rfl⟩⟩⟩⟩⟩))⟩) d_Mpg_meetName_67 | (exact px_vret S hr hlk hAe hw (Nat.le_of_ble_eq_true rfl) (Nat.le_of_ble_eq_true rfl) (⟨ma3, (upd cf45 46 1), rfl, (show KpE cf (upd cf45 46 1) from (KpE.u46 hke)), (show WrV (upd cf45 46 1) (tf 6).toInt from (WrV.u hwr (by decide) (by decide))), (show (cf45 33).toInt = (cf 33).toInt from by first | exact oz_1687f4cc65 e9 e51 | omega), (show (cf45 38).toInt = (cf 38).toInt from by first | exact oz_1687f4cc65 e10 e52 | omega), (show (cf45 48).toInt = (cf 48).toInt from by first | exact oz_1687f4cc65 e11 e53 | omega), (show (cf45 57).toInt = (cf 57).toInt from by first | exact oz_1687f4cc65 e14 e56 | omega), (show (cf45 47).toInt = 1 → (cf 47).toInt = 1 ∨ 1 ≤ (cf45 30).toInt from by omega), (show 0 ≤ (1 : Int) from by first | exact oz_19c3a41681 | omega), (show (1 : Int) ≤ 1 from by first | exact oz_f9181dc4bb | omega), (show 0 ≤ (cf45 47).toInt from by first | exact oz_e2fef14871 e55 e13 g12 | omega), (show (cf45 47).toInt ≤ 1 from by first | exact oz_916d756328 e55 e13 g13 | omega), (show (1 : Int) = 0 → (cf 46).toInt = 0 from by omega), (show (cf45 47).toInt = 0 → (cf 47).toInt = 0 from by first | exact fun q9 => oz_e6e07d6050 e13 e55 q9 g12 | omega), (show Ann na ma0 ma3 from han), (show FrC lo hi ma ma3 from hfc), (show MtF (upd cf45 46 1) ta ca na kn p0 from (fun _ _ => nm_fd hnmo (by omega))), (show R_mp_meetName ta na ca p0 ma cf ma3 (upd cf45 46 1) from (Or.inl ⟨ma3, cf4, v6, e21, Or.inl ⟨nc22, Or.inr ⟨nc24, v40, e43, cf45, e67, Or.inr ⟨nc68, z70, ez70, v72, e77, z78, ez78, Or.inr ⟨nc79, rfl, rfl⟩⟩⟩⟩⟩))⟩) d_Mpg_meetName_67)
  · have nc22 : v6.toInt = (0 : Int) := (i_eq (x := v6) (y := 0)).mp c22
    refine lv_aload_n S.x S.b d_Mpg_meetName_10 rfl (lv_at hl 1 rfl) ?_
    refine lv_iconst (v := 1) S.x S.b d_Mpg_meetName_11 (by decide) ?_
    refine pP_47 S hT hw 0 rfl m10_38 rfl rfl rfl d_Mpg_meetName_12 (ps' := [wdP cs h r g tf ta pf na ma3 wa (upd cf4 47 1) ca ef ea xf xa]) rfl (fun H locs hw => ?_)
    first | exact px_vret S hr hlk hAe hw (Nat.le_of_ble_eq_true rfl) (Nat.le_of_ble_eq_true rfl) (⟨ma3, (upd cf4 47 1), rfl, (show KpE cf (upd cf4 47 1) from (KpE.u47 hke)), (show WrV (upd cf4 47 1) (tf 6).toInt from (WrV.u hwr (by decide) (by decide))), (show (cf4 33).toInt = (cf 33).toInt from e9), (show (cf4 38).toInt = (cf 38).toInt from e10), (show (cf4 48).toInt = (cf 48).toInt from e11), (show (cf4 57).toInt = (cf 57).toInt from e14), (show (1 : Int) = 1 → (cf 47).toInt = 1 ∨ 1 ≤ (cf4 30).toInt from by omega), (show 0 ≤ (cf4 46).toInt from (oz_f3ebed1ad0 e12 g10)), (show (cf4 46).toInt ≤ 1 from (oz_878017becc e12 g11)), (show 0 ≤ (1 : Int) from oz_19c3a41681), (show (1 : Int) ≤ 1 from oz_f9181dc4bb), (show (cf4 46).toInt = 0 → (cf 46).toInt = 0 from (fun q9 => oz_2c3e9075ce e12 q9 g10)), (show (1 : Int) = 0 → (cf 47).toInt = 0 from by omega), (show Ann na ma0 ma3 from han), (show FrC lo hi ma ma3 from hfc), (show MtF (upd cf4 47 1) ta ca na kn p0 from (rko_no (Or.inr rfl))), (show R_mp_meetName ta na ca p0 ma cf ma3 (upd cf4 47 1) from (Or.inl ⟨ma3, cf4, v6, e21, Or.inr ⟨nc22, rfl, rfl⟩⟩))⟩) d_Mpg_meetName_15 | (exact px_vret S hr hlk hAe hw (Nat.le_of_ble_eq_true rfl) (Nat.le_of_ble_eq_true rfl) (⟨ma3, (upd cf4 47 1), rfl, (show KpE cf (upd cf4 47 1) from (KpE.u47 hke)), (show WrV (upd cf4 47 1) (tf 6).toInt from (WrV.u hwr (by decide) (by decide))), (show (cf4 33).toInt = (cf 33).toInt from by first | exact e9 | omega), (show (cf4 38).toInt = (cf 38).toInt from by first | exact e10 | omega), (show (cf4 48).toInt = (cf 48).toInt from by first | exact e11 | omega), (show (cf4 57).toInt = (cf 57).toInt from by first | exact e14 | omega), (show (1 : Int) = 1 → (cf 47).toInt = 1 ∨ 1 ≤ (cf4 30).toInt from by omega), (show 0 ≤ (cf4 46).toInt from by first | exact oz_f3ebed1ad0 e12 g10 | omega), (show (cf4 46).toInt ≤ 1 from by first | exact oz_878017becc e12 g11 | omega), (show 0 ≤ (1 : Int) from by first | exact oz_19c3a41681 | omega), (show (1 : Int) ≤ 1 from by first | exact oz_f9181dc4bb | omega), (show (cf4 46).toInt = 0 → (cf 46).toInt = 0 from by first | exact fun q9 => oz_2c3e9075ce e12 q9 g10 | omega), (show (1 : Int) = 0 → (cf 47).toInt = 0 from by omega), (show Ann na ma0 ma3 from han), (show FrC lo hi ma ma3 from hfc), (show MtF (upd cf4 47 1) ta ca na kn p0 from (rko_no (Or.inr rfl))), (show R_mp_meetName ta na ca p0 ma cf ma3 (upd cf4 47 1) from (Or.inl ⟨ma3, cf4, v6, e21, Or.inr ⟨nc22, rfl, rfl⟩⟩))⟩) d_Mpg_meetName_15)
abbrev b_Mpg_meet : ByteArray := prog_16_method_81_code
def y_Mpg_meet : MethodName := ⟨"HomeSystemModel$Program", "meet", "(I)V"⟩
theorem d_Mpg_meet_0 : decode b_Mpg_meet 0 = .ok (.aload_n 0, 1) := by decide +kernel
theorem d_Mpg_meet_1 : decode b_Mpg_meet 1 = .ok (.getfield 207, 3) := by decide +kernel
theorem d_Mpg_meet_4 : decode b_Mpg_meet 4 = .ok (.iload_n 1, 1) := by decide +kernel
theorem d_Mpg_meet_5 : decode b_Mpg_meet 5 = .ok (.baload, 1) := by decide +kernel
theorem d_Mpg_meet_6 : decode b_Mpg_meet 6 = .ok (.tableswitch 162 1 8 #[46, 49, 162, 162, 119, 162, 57, 86], 46) := by decide +kernel
theorem d_Mpg_meet_52 : decode b_Mpg_meet 52 = .ok (.goto 128, 3) := by decide +kernel
theorem d_Mpg_meet_55 : decode b_Mpg_meet 55 = .ok (.aload_n 0, 1) := by decide +kernel
theorem d_Mpg_meet_56 : decode b_Mpg_meet 56 = .ok (.iload_n 1, 1) := by decide +kernel
theorem d_Mpg_meet_57 : decode b_Mpg_meet 57 = .ok (.invokevirtual 596, 3) := by decide +kernel
theorem d_Mpg_meet_60 : decode b_Mpg_meet 60 = .ok (.goto 120, 3) := by decide +kernel
theorem d_Mpg_meet_63 : decode b_Mpg_meet 63 = .ok (.aload_n 0, 1) := by decide +kernel
theorem d_Mpg_meet_64 : decode b_Mpg_meet 64 = .ok (.getfield 216, 3) := by decide +kernel
theorem d_Mpg_meet_67 : decode b_Mpg_meet 67 = .ok (.iload_n 1, 1) := by decide +kernel
theorem d_Mpg_meet_68 : decode b_Mpg_meet 68 = .ok (.iaload, 1) := by decide +kernel
theorem d_Mpg_meet_69 : decode b_Mpg_meet 69 = .ok (.istore_n 2, 1) := by decide +kernel
theorem d_Mpg_meet_70 : decode b_Mpg_meet 70 = .ok (.iload_n 2, 1) := by decide +kernel
theorem d_Mpg_meet_71 : decode b_Mpg_meet 71 = .ok (.ifCond .lt 18, 3) := by decide +kernel
theorem d_Mpg_meet_74 : decode b_Mpg_meet 74 = .ok (.aload_n 0, 1) := by decide +kernel
theorem d_Mpg_meet_75 : decode b_Mpg_meet 75 = .ok (.iload_n 2, 1) := by decide +kernel
theorem d_Mpg_meet_76 : decode b_Mpg_meet 76 = .ok (.invokevirtual 599, 3) := by decide +kernel
theorem d_Mpg_meet_79 : decode b_Mpg_meet 79 = .ok (.aload_n 0, 1) := by decide +kernel
theorem d_Mpg_meet_80 : decode b_Mpg_meet 80 = .ok (.getfield 228, 3) := by decide +kernel
theorem d_Mpg_meet_83 : decode b_Mpg_meet 83 = .ok (.iload_n 2, 1) := by decide +kernel
theorem d_Mpg_meet_84 : decode b_Mpg_meet 84 = .ok (.iaload, 1) := by decide +kernel
theorem d_Mpg_meet_85 : decode b_Mpg_meet 85 = .ok (.istore_n 2, 1) := by decide +kernel
theorem d_Mpg_meet_86 : decode b_Mpg_meet 86 = .ok (.goto (-16), 3) := by decide +kernel
theorem d_Mpg_meet_89 : decode b_Mpg_meet 89 = .ok (.goto 91, 3) := by decide +kernel
theorem d_Mpg_meet_92 : decode b_Mpg_meet 92 = .ok (.aload_n 0, 1) := by decide +kernel
theorem d_Mpg_meet_93 : decode b_Mpg_meet 93 = .ok (.aload_n 0, 1) := by decide +kernel
theorem d_Mpg_meet_94 : decode b_Mpg_meet 94 = .ok (.getfield 216, 3) := by decide +kernel
theorem d_Mpg_meet_97 : decode b_Mpg_meet 97 = .ok (.iload_n 1, 1) := by decide +kernel
theorem d_Mpg_meet_98 : decode b_Mpg_meet 98 = .ok (.iaload, 1) := by decide +kernel
theorem d_Mpg_meet_99 : decode b_Mpg_meet 99 = .ok (.invokevirtual 599, 3) := by decide +kernel
theorem d_Mpg_meet_102 : decode b_Mpg_meet 102 = .ok (.aload_n 0, 1) := by decide +kernel
theorem d_Mpg_meet_103 : decode b_Mpg_meet 103 = .ok (.aload_n 0, 1) := by decide +kernel
theorem d_Mpg_meet_104 : decode b_Mpg_meet 104 = .ok (.getfield 219, 3) := by decide +kernel
theorem d_Mpg_meet_107 : decode b_Mpg_meet 107 = .ok (.iload_n 1, 1) := by decide +kernel
theorem d_Mpg_meet_108 : decode b_Mpg_meet 108 = .ok (.iaload, 1) := by decide +kernel
theorem d_Mpg_meet_109 : decode b_Mpg_meet 109 = .ok (.invokevirtual 599, 3) := by decide +kernel
theorem d_Mpg_meet_112 : decode b_Mpg_meet 112 = .ok (.aload_n 0, 1) := by decide +kernel
theorem d_Mpg_meet_113 : decode b_Mpg_meet 113 = .ok (.aload_n 0, 1) := by decide +kernel
theorem d_Mpg_meet_114 : decode b_Mpg_meet 114 = .ok (.getfield 222, 3) := by decide +kernel
theorem d_Mpg_meet_117 : decode b_Mpg_meet 117 = .ok (.iload_n 1, 1) := by decide +kernel
theorem d_Mpg_meet_118 : decode b_Mpg_meet 118 = .ok (.iaload, 1) := by decide +kernel
theorem d_Mpg_meet_119 : decode b_Mpg_meet 119 = .ok (.invokevirtual 599, 3) := by decide +kernel
theorem d_Mpg_meet_122 : decode b_Mpg_meet 122 = .ok (.goto 58, 3) := by decide +kernel
theorem d_Mpg_meet_125 : decode b_Mpg_meet 125 = .ok (.aload_n 0, 1) := by decide +kernel
theorem d_Mpg_meet_126 : decode b_Mpg_meet 126 = .ok (.getfield 198, 3) := by decide +kernel
theorem d_Mpg_meet_129 : decode b_Mpg_meet 129 = .ok (.aload_n 0, 1) := by decide +kernel
theorem d_Mpg_meet_130 : decode b_Mpg_meet 130 = .ok (.getfield 210, 3) := by decide +kernel
theorem d_Mpg_meet_133 : decode b_Mpg_meet 133 = .ok (.iload_n 1, 1) := by decide +kernel
theorem d_Mpg_meet_134 : decode b_Mpg_meet 134 = .ok (.iaload, 1) := by decide +kernel
theorem d_Mpg_meet_135 : decode b_Mpg_meet 135 = .ok (.iaload, 1) := by decide +kernel
theorem d_Mpg_meet_136 : decode b_Mpg_meet 136 = .ok (.iconst 2, 1) := by decide +kernel
theorem d_Mpg_meet_137 : decode b_Mpg_meet 137 = .ok (.if_icmp .ne 18, 3) := by decide +kernel
theorem d_Mpg_meet_140 : decode b_Mpg_meet 140 = .ok (.aload_n 0, 1) := by decide +kernel
theorem d_Mpg_meet_141 : decode b_Mpg_meet 141 = .ok (.iload_n 1, 1) := by decide +kernel
theorem d_Mpg_meet_142 : decode b_Mpg_meet 142 = .ok (.iconst 1, 1) := by decide +kernel
theorem d_Mpg_meet_143 : decode b_Mpg_meet 143 = .ok (.invokevirtual 577, 3) := by decide +kernel
theorem d_Mpg_meet_146 : decode b_Mpg_meet 146 = .ok (.pop, 1) := by decide +kernel
theorem d_Mpg_meet_147 : decode b_Mpg_meet 147 = .ok (.aload_n 0, 1) := by decide +kernel
theorem d_Mpg_meet_148 : decode b_Mpg_meet 148 = .ok (.iconst 1, 1) := by decide +kernel
theorem d_Mpg_meet_149 : decode b_Mpg_meet 149 = .ok (.putfield 602, 3) := by decide +kernel
theorem d_Mpg_meet_152 : decode b_Mpg_meet 152 = .ok (.goto 28, 3) := by decide +kernel
theorem d_Mpg_meet_155 : decode b_Mpg_meet 155 = .ok (.aload_n 0, 1) := by decide +kernel
theorem d_Mpg_meet_156 : decode b_Mpg_meet 156 = .ok (.aload_n 0, 1) := by decide +kernel
theorem d_Mpg_meet_157 : decode b_Mpg_meet 157 = .ok (.getfield 216, 3) := by decide +kernel
theorem d_Mpg_meet_160 : decode b_Mpg_meet 160 = .ok (.iload_n 1, 1) := by decide +kernel
theorem d_Mpg_meet_161 : decode b_Mpg_meet 161 = .ok (.iaload, 1) := by decide +kernel
theorem d_Mpg_meet_162 : decode b_Mpg_meet 162 = .ok (.invokevirtual 599, 3) := by decide +kernel
theorem d_Mpg_meet_165 : decode b_Mpg_meet 165 = .ok (.goto 15, 3) := by decide +kernel
theorem d_Mpg_meet_168 : decode b_Mpg_meet 168 = .ok (.aload_n 0, 1) := by decide +kernel
theorem d_Mpg_meet_169 : decode b_Mpg_meet 169 = .ok (.iload_n 1, 1) := by decide +kernel
theorem d_Mpg_meet_170 : decode b_Mpg_meet 170 = .ok (.iconst 1, 1) := by decide +kernel
theorem d_Mpg_meet_171 : decode b_Mpg_meet 171 = .ok (.invokevirtual 577, 3) := by decide +kernel
theorem d_Mpg_meet_174 : decode b_Mpg_meet 174 = .ok (.pop, 1) := by decide +kernel
theorem d_Mpg_meet_175 : decode b_Mpg_meet 175 = .ok (.aload_n 0, 1) := by decide +kernel
theorem d_Mpg_meet_176 : decode b_Mpg_meet 176 = .ok (.iconst 1, 1) := by decide +kernel
theorem d_Mpg_meet_177 : decode b_Mpg_meet 177 = .ok (.putfield 602, 3) := by decide +kernel
theorem d_Mpg_meet_180 : decode b_Mpg_meet 180 = .ok (.return_, 1) := by decide +kernel
theorem q_Mpg_meet : px_y y_Mpg_meet 1 := by unfold px_y; decide +kernel
def MtC (l : Launch) (D : va_G) (cs : Nat → ClassId) (d : Nat) : Prop := ∀ (ma0 : Nat → Nat → Int32) (ys : Int) (ns : Int) (nf : Int) (kn : Int) (lo : Int) (hi : Int) (h : Nat) (r : Nat → Nat) (g : Nat → Nat → Option Nat) (tf : Nat → Int32) (ta : Nat → Nat → Int32) (pf : Nat → Int32) (na : Nat → Nat → Int32) (wa : Nat → Nat → Int32) (ca : Nat → Nat → Int32) (ef : Nat → Int32) (ea : Nat → Nat → Int32) (xf : Nat → Int32) (xa : Nat → Nat → Int32) (ma : Nat → Nat → Int32) (cf : Nat → Int32) (p0 : Int32)  (g0 : 0 ≤ lo) (g1 : hi ≤ (pf 13).toInt) (g2 : (pf 13).toInt ≤ 2100) (g3 : (tf 6).toInt ≤ 2049) (g4 : (cf 33).toInt = kn) (g5 : 0 ≤ kn) (g6 : (cf 48).toInt = ns) (g7 : (cf 38).toInt = nf) (g8 : 0 ≤ nf) (g9 : 0 ≤ (cf 46).toInt) (g10 : (cf 46).toInt ≤ 1) (g11 : 0 ≤ (cf 47).toInt) (g12 : (cf 47).toInt ≤ 1) (htk : TkI tf ta) (hfs : FsI (tf 6).toInt (pf 13).toInt na) (hwr : WrV cf (tf 6).toInt) (hkt : KnT (tf 6).toInt ca (cf 33).toInt) (hft : FnT (tf 6).toInt na ca (cf 38).toInt) (hks : KnS ca kn ns ys) (hfp : FnP na ca nf) (han : Ann na ma0 ma) (hec : EcV ta (tf 6).toInt na ma0 d lo hi p0), MetV l y_Mpg_meet b_Mpg_meet 3 D cs (4 * d + 16) (200 * d + 560) (0) (0) [.ref h, .int p0] [wdP cs h r g tf ta pf na ma wa cf ca ef ea xf xa] (oX (fun A U H => (oP A g U H)) [wdP cs h r g tf ta pf na ma wa cf ca ef ea xf xa]) (fun ps => ∃ (ma' : Nat → Nat → Int32) (cf' : Nat → Int32), (ps = [wdP cs h r g tf ta pf na ma' wa cf' ca ef ea xf xa]) ∧ (KpE cf cf') ∧ (WrV cf' (tf 6).toInt) ∧ ((cf' 33).toInt = (cf 33).toInt) ∧ ((cf' 38).toInt = (cf 38).toInt) ∧ ((cf' 48).toInt = (cf 48).toInt) ∧ ((cf' 57).toInt = (cf 57).toInt) ∧ ((cf' 47).toInt = 1 → (cf 47).toInt = 1 ∨ 1 ≤ (cf' 30).toInt) ∧ (0 ≤ (cf' 46).toInt) ∧ ((cf' 46).toInt ≤ 1) ∧ (0 ≤ (cf' 47).toInt) ∧ ((cf' 47).toInt ≤ 1) ∧ ((cf' 46).toInt = 0 → (cf 46).toInt = 0) ∧ ((cf' 47).toInt = 0 → (cf 47).toInt = 0) ∧ (Ann na ma0 ma') ∧ (FrC lo hi ma ma') ∧ (MtR cf' ta ca na ma0 kn d p0) ∧ (RL_mp_meet d tf ta na ca p0 ma cf ma' cf'))
set_option maxHeartbeats 4000000 in
set_option maxRecDepth 100000 in
theorem c_mp_meet (l : Launch) (D : va_G) (cs : Nat → ClassId) (ma0 : Nat → Nat → Int32) (ys : Int) (ns : Int) (nf : Int) (kn : Int) (d : Nat) (lo : Int) (hi : Int) (h : Nat) (r : Nat → Nat) (g : Nat → Nat → Option Nat) (tf : Nat → Int32) (ta : Nat → Nat → Int32) (pf : Nat → Int32) (na : Nat → Nat → Int32) (wa : Nat → Nat → Int32) (ca : Nat → Nat → Int32) (ef : Nat → Int32) (ea : Nat → Nat → Int32) (xf : Nat → Int32) (xa : Nat → Nat → Int32) (ma : Nat → Nat → Int32) (cf : Nat → Int32) (p0 : Int32)  (g0 : 0 ≤ lo) (g1 : hi ≤ (pf 13).toInt) (g2 : (pf 13).toInt ≤ 2100) (g3 : (tf 6).toInt ≤ 2049) (g4 : (cf 33).toInt = kn) (g5 : 0 ≤ kn) (g6 : (cf 48).toInt = ns) (g7 : (cf 38).toInt = nf) (g8 : 0 ≤ nf) (g9 : 0 ≤ (cf 46).toInt) (g10 : (cf 46).toInt ≤ 1) (g11 : 0 ≤ (cf 47).toInt) (g12 : (cf 47).toInt ≤ 1) (htk : TkI tf ta) (hfs : FsI (tf 6).toInt (pf 13).toInt na) (hwr : WrV cf (tf 6).toInt) (hkt : KnT (tf 6).toInt ca (cf 33).toInt) (hft : FnT (tf 6).toInt na ca (cf 38).toInt) (hks : KnS ca kn ns ys) (hfp : FnP na ca nf) (han : Ann na ma0 ma) (hec : EcV ta (tf 6).toInt na ma0 (d + 1) lo hi p0) (hLM : MtC l D cs d) : MetV l y_Mpg_meet b_Mpg_meet 3 D cs (4 * (d + 1) + 16) (200 * (d + 1) + 560) (0) (0) [.ref h, .int p0] [wdP cs h r g tf ta pf na ma wa cf ca ef ea xf xa] (oX (fun A U H => (oP A g U H)) [wdP cs h r g tf ta pf na ma wa cf ca ef ea xf xa]) (fun ps => ∃ (ma' : Nat → Nat → Int32) (cf' : Nat → Int32), (ps = [wdP cs h r g tf ta pf na ma' wa cf' ca ef ea xf xa]) ∧ (KpE cf cf') ∧ (WrV cf' (tf 6).toInt) ∧ ((cf' 33).toInt = (cf 33).toInt) ∧ ((cf' 38).toInt = (cf 38).toInt) ∧ ((cf' 48).toInt = (cf 48).toInt) ∧ ((cf' 57).toInt = (cf 57).toInt) ∧ ((cf' 47).toInt = 1 → (cf 47).toInt = 1 ∨ 1 ≤ (cf' 30).toInt) ∧ (0 ≤ (cf' 46).toInt) ∧ ((cf' 46).toInt ≤ 1) ∧ (0 ≤ (cf' 47).toInt) ∧ ((cf' 47).toInt ≤ 1) ∧ ((cf' 46).toInt = 0 → (cf 46).toInt = 0) ∧ ((cf' 47).toInt = 0 → (cf 47).toInt = 0) ∧ (Ann na ma0 ma') ∧ (FrC lo hi ma ma') ∧ (MtR cf' ta ca na ma0 kn (d + 1) p0) ∧ (R_mp_meet (RL_mp_meet d) tf ta na ca p0 ma cf ma' cf')) := by
  refine px_enter (by decide) (Nat.le_of_ble_eq_true rfl) ?_
  intro p e s m below meth c A ls hAe S hr hlk hnm hA hT hX hw hl
  have hl : lv_has ls 3 [(0, .ref h), (1, .int p0)] := hl
  have lp0 := Int32.le_toInt p0
  have up0 := Int32.toInt_lt p0
  have cst1 : (1 : Int32).toInt = 1 := rfl
  have cst2 : (2 : Int32).toInt = 2 := rfl
  have hX : (fun A U H => (oP A g U H)) A s s.heap := by rw [hAe]; exact hX
  have hP := hX
  have hZ := hP.1
  have hF0 := hP.2.1
  have hke : KpE cf cf := KpE.rf
  have hfc : FrC lo hi ma ma := FrC.rf
  have hwr0 := hwr.1
  have hk11 := hkt.1
  have hf11 := hft.1
  have hec_p0 := hec
  have hrg := EcV.rng hec
  have J70 : ∀ (n_70 : Nat) (ma_70 : Nat → Nat → Int32) (cf_70 : Nat → Int32) (mid_70 : Int) (x70_2 : Int32) (H : Heap) (locs : List Loc) (ls : Array Slot), (KpE cf cf_70) → (WrV cf_70 (tf 6).toInt) → ((cf_70 33).toInt = (cf 33).toInt) → ((cf_70 38).toInt = (cf 38).toInt) → ((cf_70 48).toInt = (cf 48).toInt) → ((cf_70 57).toInt = (cf 57).toInt) → ((cf_70 47).toInt = 1 → (cf 47).toInt = 1 ∨ 1 ≤ (cf_70 30).toInt) → (0 ≤ (cf_70 46).toInt) → ((cf_70 46).toInt ≤ 1) → (0 ≤ (cf_70 47).toInt) → ((cf_70 47).toInt ≤ 1) → ((cf_70 46).toInt = 0 → (cf 46).toInt = 0) → ((cf_70 47).toInt = 0 → (cf 47).toInt = 0) → (Ann na ma0 ma_70) → (FrC lo hi ma ma_70) → (lo ≤ mid_70) → (mid_70 ≤ hi) → ((na 14 p0.toNatClampNeg).toInt = 7) → (RcN ta (tf 6).toInt na ma0 d p0 mid_70 hi x70_2) → (MtS cf_70 ta ca na ma0 kn d (na 17 p0.toNatClampNeg) x70_2) → (K_mp_meet_70 (RL_mp_meet d) tf ta na ca p0 ma cf ma_70 cf_70 x70_2) → hi - mid_70 < (n_70 : Int) → pw D A s.heap H locs [wdP cs h r g tf ta pf na ma_70 wa cf_70 ca ef ea xf xa] → lv_has ls 3 [(0, .ref h), (1, .int p0), (2, .int x70_2)] → W p l e { frames := (4 * (d + 1) + 16), cells := 0, slots := 0, locals := (200 * (d + 1) + 560) } s m [.ref h, .int p0].toArray below meth c H locs 0 0 (MQ below (va_Qv (fun ps => ∃ (ma' : Nat → Nat → Int32) (cf' : Nat → Int32), (ps = [wdP cs h r g tf ta pf na ma' wa cf' ca ef ea xf xa]) ∧ (KpE cf cf') ∧ (WrV cf' (tf 6).toInt) ∧ ((cf' 33).toInt = (cf 33).toInt) ∧ ((cf' 38).toInt = (cf 38).toInt) ∧ ((cf' 48).toInt = (cf 48).toInt) ∧ ((cf' 57).toInt = (cf 57).toInt) ∧ ((cf' 47).toInt = 1 → (cf 47).toInt = 1 ∨ 1 ≤ (cf' 30).toInt) ∧ (0 ≤ (cf' 46).toInt) ∧ ((cf' 46).toInt ≤ 1) ∧ (0 ≤ (cf' 47).toInt) ∧ ((cf' 47).toInt ≤ 1) ∧ ((cf' 46).toInt = 0 → (cf 46).toInt = 0) ∧ ((cf' 47).toInt = 0 → (cf 47).toInt = 0) ∧ (Ann na ma0 ma') ∧ (FrC lo hi ma ma') ∧ (MtR cf' ta ca na ma0 kn (d + 1) p0) ∧ (R_mp_meet (RL_mp_meet d) tf ta na ca p0 ma cf ma' cf')) (pc_B D (va_A ([wdP cs h r g tf ta pf na ma wa cf ca ef ea xf xa] : List va_W).flatten s.heap.size)) (va_A ([wdP cs h r g tf ta pf na ma wa cf ca ef ea xf xa] : List va_W).flatten s.heap.size)) [.ref h, .int p0].toArray s 0 0 A) (F0 m 70 ls []) := by
    intro  n_70
    induction n_70 with
    | zero =>
      intro ma_70 cf_70 mid_70 x70_2 H locs ls k70_0 k70_1 k70_2 k70_3 k70_4 k70_5 k70_6 k70_7 k70_8 k70_9 k70_10 k70_11 k70_12 k70_13 k70_14 k70_15 k70_16 k70_17 k70_18 k70_19 k70_20 hm hw hl
      have lx70_2 := Int32.le_toInt x70_2
      have ux70_2 := Int32.toInt_lt x70_2
      have hke := k70_0
      have hwr := k70_1
      have hw0_k70_1 := hwr.1
      have han := k70_13
      have hfc := k70_14
      have hrr := k70_18
      have hmts := k70_19
      exact absurd hm (by omega)
    | succ n_70 ih70 =>
      intro ma_70 cf_70 mid_70 x70_2 H locs ls k70_0 k70_1 k70_2 k70_3 k70_4 k70_5 k70_6 k70_7 k70_8 k70_9 k70_10 k70_11 k70_12 k70_13 k70_14 k70_15 k70_16 k70_17 k70_18 k70_19 k70_20 hm hw hl
      have lx70_2 := Int32.le_toInt x70_2
      have ux70_2 := Int32.toInt_lt x70_2
      have hke := k70_0
      have hwr := k70_1
      have hw0_k70_1 := hwr.1
      have han := k70_13
      have hfc := k70_14
      have hrr := k70_18
      have hmts := k70_19
      refine lv_iload_n S.x S.b d_Mpg_meet_70 rfl (lv_at hl 2 rfl) ?_
      refine lv_if_lt (tgt := 89) S.x S.b d_Mpg_meet_71 (by decide) (fun c1 => ?_) (fun c1 => ?_)
      · have nc1 : x70_2.toInt < (0 : Int) := (i_lt (x := x70_2) (y := 0)).mp c1
        refine lv_goto (tgt := 180) S.x S.b d_Mpg_meet_89 (by decide) ?_
        first | exact px_vret S hr hlk hAe hw (Nat.le_of_ble_eq_true rfl) (Nat.le_of_ble_eq_true rfl) (⟨ma_70, cf_70, rfl, (show KpE cf cf_70 from hke), (show WrV cf_70 (tf 6).toInt from hwr), (show (cf_70 33).toInt = (cf 33).toInt from k70_2), (show (cf_70 38).toInt = (cf 38).toInt from k70_3), (show (cf_70 48).toInt = (cf 48).toInt from k70_4), (show (cf_70 57).toInt = (cf 57).toInt from k70_5), (show (cf_70 47).toInt = 1 → (cf 47).toInt = 1 ∨ 1 ≤ (cf_70 30).toInt from k70_6), (show 0 ≤ (cf_70 46).toInt from k70_7), (show (cf_70 46).toInt ≤ 1 from k70_8), (show 0 ≤ (cf_70 47).toInt from k70_9), (show (cf_70 47).toInt ≤ 1 from k70_10), (show (cf_70 46).toInt = 0 → (cf 46).toInt = 0 from k70_11), (show (cf_70 47).toInt = 0 → (cf 47).toInt = 0 from k70_12), (show Ann na ma0 ma_70 from han), (show FrC lo hi ma ma_70 from hfc), (show MtR cf_70 ta ca na ma0 kn (d + 1) p0 from (fun a9 b9 => (hmts a9 b9).elim fun m9 g9 => Or.inr (Or.inr (Or.inr (Or.inl ⟨by omega, m9, g9.row (by omega)⟩))))), (show R_mp_meet (RL_mp_meet d) tf ta na ca p0 ma cf ma_70 cf_70 from (k70_20 _ _ 1 (Or.inr (Or.inl ⟨rfl, x70_2, rfl, rfl, rfl, rfl, rfl, Or.inl ⟨nc1, rfl, rfl⟩⟩))))⟩) d_Mpg_meet_180 | (exact px_vret S hr hlk hAe hw (Nat.le_of_ble_eq_true rfl) (Nat.le_of_ble_eq_true rfl) (⟨ma_70, cf_70, rfl, (show KpE cf cf_70 from hke), (show WrV cf_70 (tf 6).toInt from hwr), (show (cf_70 33).toInt = (cf 33).toInt from by first | exact k70_2 | omega), (show (cf_70 38).toInt = (cf 38).toInt from by first | exact k70_3 | omega), (show (cf_70 48).toInt = (cf 48).toInt from by first | exact k70_4 | omega), (show (cf_70 57).toInt = (cf 57).toInt from by first | exact k70_5 | omega), (show (cf_70 47).toInt = 1 → (cf 47).toInt = 1 ∨ 1 ≤ (cf_70 30).toInt from by first | exact k70_6 | omega), (show 0 ≤ (cf_70 46).toInt from by first | exact k70_7 | omega), (show (cf_70 46).toInt ≤ 1 from by first | exact k70_8 | omega), (show 0 ≤ (cf_70 47).toInt from by first | exact k70_9 | omega), (show (cf_70 47).toInt ≤ 1 from by first | exact k70_10 | omega), (show (cf_70 46).toInt = 0 → (cf 46).toInt = 0 from by first | exact k70_11 | omega), (show (cf_70 47).toInt = 0 → (cf 47).toInt = 0 from by first | exact k70_12 | omega), (show Ann na ma0 ma_70 from han), (show FrC lo hi ma ma_70 from hfc), (show MtR cf_70 ta ca na ma0 kn (d + 1) p0 from (fun a9 b9 => (hmts a9 b9).elim fun m9 g9 => Or.inr (Or.inr (Or.inr (Or.inl ⟨by omega, m9, g9.row (by omega)⟩))))), (show R_mp_meet (RL_mp_meet d) tf ta na ca p0 ma cf ma_70 cf_70 from (k70_20 _ _ 1 (Or.inr (Or.inl ⟨rfl, x70_2, rfl, rfl, rfl, rfl, rfl, Or.inl ⟨nc1, rfl, rfl⟩⟩))))⟩) d_Mpg_meet_180)
      · have nc1 : ¬ x70_2.toInt < (0 : Int) := mt (i_lt (x := x70_2) (y := 0)).mpr c1
        refine lv_aload_n S.x S.b d_Mpg_meet_74 rfl (lv_at hl 0 rfl) ?_
        obtain ⟨md3, hm1_md3, hm2_md3, ⟨hec_x70_2, hne_md3⟩, hx3_md3, hrr2⟩ := RcE.step hrr (by omega)
        refine lv_iload_n S.x S.b d_Mpg_meet_75 rfl (lv_at hl 2 rfl) ?_
        first | refine px_callv (pr := []) (px_runV (As := [.int x70_2]) (rest := []) S (hLM ma0 ys ns nf kn mid_70 md3 h r g tf ta pf na wa ca ef ea xf xa ma_70 cf_70 x70_2 (show 0 ≤ mid_70 from (oz_16d7fa9f32 k70_15 g0)) (show md3 ≤ (pf 13).toInt from (oz_bbb5b20c1a g1 hm2_md3)) (show (pf 13).toInt ≤ 2100 from g2) (show (tf 6).toInt ≤ 2049 from g3) (show (cf_70 33).toInt = kn from (oz_1687f4cc65 g4 k70_2)) (show 0 ≤ kn from g5) (show (cf_70 48).toInt = ns from (oz_1687f4cc65 g6 k70_4)) (show (cf_70 38).toInt = nf from (oz_1687f4cc65 g7 k70_3)) (show 0 ≤ nf from g8) (show 0 ≤ (cf_70 46).toInt from k70_7) (show (cf_70 46).toInt ≤ 1 from k70_8) (show 0 ≤ (cf_70 47).toInt from k70_9) (show (cf_70 47).toInt ≤ 1 from k70_10) htk (FsI.le (N' := (pf 13).toInt) hfs (by omega)) hwr (KnT.eq hkt (by omega)) (FnT.eq hft (by omega)) hks hfp han hec_x70_2 _) hT (pr := []) (pcs := [wdP cs h r g tf ta pf na ma_70 wa cf_70 ca ef ea xf xa]) hw (oX_call (P := (fun A U H => (oP A g U H))) (pr := []) oG_P hw hA hP) (px_recv hT hw 0 0 rfl rfl rfl) m13_1 m12_238 m13_0 ms_12_13 m1_21 q_Mpg_meet ⟨show (4 * d + 16) + 1 ≤ (4 * (d + 1) + 16) from (oz_aa90c3e733), show 8 + (3 + 11) + (200 * d + 560) ≤ (200 * (d + 1) + 560) from (oz_9ec61a0b30)⟩ hl.1 rfl (Nat.le_of_ble_eq_true rfl) d_Mpg_meet_76 ⟨Nat.le_of_ble_eq_true rfl, Nat.le_of_ble_eq_true rfl⟩) hw hA (fun p8 H locs hp8 hw => ?_) | (refine px_callv (pr := []) (px_runV (As := [.int x70_2]) (rest := []) S (hLM ma0 ys ns nf kn mid_70 md3 h r g tf ta pf na wa ca ef ea xf xa ma_70 cf_70 x70_2 (show 0 ≤ mid_70 from by first | exact oz_16d7fa9f32 k70_15 g0 | omega) (show md3 ≤ (pf 13).toInt from by first | exact oz_bbb5b20c1a g1 hm2_md3 | omega) (show (pf 13).toInt ≤ 2100 from by first | exact g2 | omega) (show (tf 6).toInt ≤ 2049 from by first | exact g3 | omega) (show (cf_70 33).toInt = kn from by first | exact oz_1687f4cc65 g4 k70_2 | omega) (show 0 ≤ kn from by first | exact g5 | omega) (show (cf_70 48).toInt = ns from by first | exact oz_1687f4cc65 g6 k70_4 | omega) (show (cf_70 38).toInt = nf from by first | exact oz_1687f4cc65 g7 k70_3 | omega) (show 0 ≤ nf from by first | exact g8 | omega) (show 0 ≤ (cf_70 46).toInt from by first | exact k70_7 | omega) (show (cf_70 46).toInt ≤ 1 from by first | exact k70_8 | omega) (show 0 ≤ (cf_70 47).toInt from by first | exact k70_9 | omega) (show (cf_70 47).toInt ≤ 1 from by first | exact k70_10 | omega) htk (FsI.le (N' := (pf 13).toInt) hfs (by omega)) hwr (KnT.eq hkt (by omega)) (FnT.eq hft (by omega)) hks hfp han hec_x70_2 _) hT (pr := []) (pcs := [wdP cs h r g tf ta pf na ma_70 wa cf_70 ca ef ea xf xa]) hw (oX_call (P := (fun A U H => (oP A g U H))) (pr := []) oG_P hw hA hP) (px_recv hT hw 0 0 rfl rfl rfl) m13_1 m12_238 m13_0 ms_12_13 m1_21 q_Mpg_meet ⟨show (4 * d + 16) + 1 ≤ (4 * (d + 1) + 16) from (by first | exact oz_aa90c3e733 | omega), show 8 + (3 + 11) + (200 * d + 560) ≤ (200 * (d + 1) + 560) from (by first | exact oz_9ec61a0b30 | omega)⟩ hl.1 rfl (Nat.le_of_ble_eq_true rfl) d_Mpg_meet_76 ⟨Nat.le_of_ble_eq_true rfl, Nat.le_of_ble_eq_true rfl⟩) hw hA (fun p8 H locs hp8 hw => ?_))
        obtain ⟨ma6, cf7, rfl, e10, e11, e12, e13, e14, e15, e16, e17, e18, e19, e20, e21, e22, e23, e24, e25, e26⟩ := hp8
        have e10 : KpE cf_70 cf7 := e10
        have hke := (hke).tr e10
        have hkz_e10 := e10.2
        have e11 : WrV cf7 (tf 6).toInt := e11
        have hwr := e11
        have hw0_e11 := hwr.1
        have e12 : (cf7 33).toInt = (cf_70 33).toInt := e12
        have e13 : (cf7 38).toInt = (cf_70 38).toInt := e13
        have e14 : (cf7 48).toInt = (cf_70 48).toInt := e14
        have e15 : (cf7 57).toInt = (cf_70 57).toInt := e15
        have e16 : (cf7 47).toInt = 1 → (cf_70 47).toInt = 1 ∨ 1 ≤ (cf7 30).toInt := e16
        have e17 : 0 ≤ (cf7 46).toInt := e17
        have e18 : (cf7 46).toInt ≤ 1 := e18
        have e19 : 0 ≤ (cf7 47).toInt := e19
        have e20 : (cf7 47).toInt ≤ 1 := e20
        have e21 : (cf7 46).toInt = 0 → (cf_70 46).toInt = 0 := e21
        have e22 : (cf7 47).toInt = 0 → (cf_70 47).toInt = 0 := e22
        have e23 : Ann na ma0 ma6 := e23
        have han := e23
        have e24 : FrC mid_70 md3 ma_70 ma6 := e24
        have hfc := hfc.tr e24 (by omega) (by omega)
        have hmts := RkO.tr hmts (by omega) (by omega)
        have e25 : MtR cf7 ta ca na ma0 kn d x70_2 := e25
        have hmt_x70_2 := e25
        have e26 : RL_mp_meet d tf ta na ca x70_2 ma_70 cf_70 ma6 cf7 := e26
        refine lv_aload_n S.x S.b d_Mpg_meet_79 rfl (lv_at hl 0 rfl) ?_
        refine gP_21 S hT hw 0 rfl m10_7 d_Mpg_meet_80 ?_
        refine lv_iload_n S.x S.b d_Mpg_meet_83 rfl (lv_at hl 2 rfl) ?_
        refine px_iald S hT hw 0 17 (n := 2100) (f := (na 21)) rfl gp_21 (x := x70_2) (vp_in_iff.mpr (by constructor <;> omega)) d_Mpg_meet_84 ?_
        refine lv_topi (fun z27 ez27 => ?_)
        have lz27 := Int32.le_toInt z27
        have uz27 := Int32.toInt_lt z27
        refine lv_istore_n (lv' := [(2, .int z27), (0, .ref h), (1, .int p0)]) S.x S.b d_Mpg_meet_85 rfl hl (by decide) rfl (fun ls hl => ?_)
        refine lv_goto (tgt := 70) S.x S.b d_Mpg_meet_86 (by decide) ?_
        first | exact ih70 ma6 cf7 md3 z27 _ _ ls (show KpE cf cf7 from hke) (show WrV cf7 (tf 6).toInt from hwr) (show (cf7 33).toInt = (cf 33).toInt from (oz_1687f4cc65 k70_2 e12)) (show (cf7 38).toInt = (cf 38).toInt from (oz_1687f4cc65 k70_3 e13)) (show (cf7 48).toInt = (cf 48).toInt from (oz_1687f4cc65 k70_4 e14)) (show (cf7 57).toInt = (cf 57).toInt from (oz_1687f4cc65 k70_5 e15)) (show (cf7 47).toInt = 1 → (cf 47).toInt = 1 ∨ 1 ≤ (cf7 30).toInt from by omega) (show 0 ≤ (cf7 46).toInt from e17) (show (cf7 46).toInt ≤ 1 from e18) (show 0 ≤ (cf7 47).toInt from e19) (show (cf7 47).toInt ≤ 1 from e20) (show (cf7 46).toInt = 0 → (cf 46).toInt = 0 from by omega) (show (cf7 47).toInt = 0 → (cf 47).toInt = 0 from by omega) (show Ann na ma0 ma6 from han) (show FrC lo hi ma ma6 from hfc) (show lo ≤ md3 from hm1_md3) (show md3 ≤ hi from hm2_md3) (show (na 14 p0.toNatClampNeg).toInt = 7 from k70_17) (show RcN ta (tf 6).toInt na ma0 d p0 md3 hi z27 from (by rw [ez27]; exact hrr2)) (show MtS cf7 ta ca na ma0 kn d (na 17 p0.toNatClampNeg) z27 from (MtS.s hmts hmt_x70_2 ez27)) (show K_mp_meet_70 (RL_mp_meet d) tf ta na ca p0 ma cf ma6 cf7 z27 from (fun y_f0 y_f1 k hE => k70_20 y_f0 y_f1 (k + 1) (Or.inr (Or.inl ⟨rfl, x70_2, rfl, rfl, rfl, rfl, rfl, Or.inr ⟨nc1, ma6, cf7, e26, z27, ez27, hE⟩⟩)))) (show hi - md3 < (n_70 : Int) from by omega) hw (lv_sub hl [1, 2, 0] rfl) | (exact ih70 ma6 cf7 md3 z27 _ _ ls (show KpE cf cf7 from hke) (show WrV cf7 (tf 6).toInt from hwr) (show (cf7 33).toInt = (cf 33).toInt from by first | exact oz_1687f4cc65 k70_2 e12 | omega) (show (cf7 38).toInt = (cf 38).toInt from by first | exact oz_1687f4cc65 k70_3 e13 | omega) (show (cf7 48).toInt = (cf 48).toInt from by first | exact oz_1687f4cc65 k70_4 e14 | omega) (show (cf7 57).toInt = (cf 57).toInt from by first | exact oz_1687f4cc65 k70_5 e15 | omega) (show (cf7 47).toInt = 1 → (cf 47).toInt = 1 ∨ 1 ≤ (cf7 30).toInt from by omega) (show 0 ≤ (cf7 46).toInt from by first | exact e17 | omega) (show (cf7 46).toInt ≤ 1 from by first | exact e18 | omega) (show 0 ≤ (cf7 47).toInt from by first | exact e19 | omega) (show (cf7 47).toInt ≤ 1 from by first | exact e20 | omega) (show (cf7 46).toInt = 0 → (cf 46).toInt = 0 from by omega) (show (cf7 47).toInt = 0 → (cf 47).toInt = 0 from by omega) (show Ann na ma0 ma6 from han) (show FrC lo hi ma ma6 from hfc) (show lo ≤ md3 from by first | exact hm1_md3 | omega) (show md3 ≤ hi from by first | exact hm2_md3 | omega) (show (na 14 p0.toNatClampNeg).toInt = 7 from by first | exact k70_17 | omega) (show RcN ta (tf 6).toInt na ma0 d p0 md3 hi z27 from (by rw [ez27]; exact hrr2)) (show MtS cf7 ta ca na ma0 kn d (na 17 p0.toNatClampNeg) z27 from (MtS.s hmts hmt_x70_2 ez27)) (show K_mp_meet_70 (RL_mp_meet d) tf ta na ca p0 ma cf ma6 cf7 z27 from (fun y_f0 y_f1 k hE => k70_20 y_f0 y_f1 (k + 1) (Or.inr (Or.inl ⟨rfl, x70_2, rfl, rfl, rfl, rfl, rfl, Or.inr ⟨nc1, ma6, cf7, e26, z27, ez27, hE⟩⟩)))) (show hi - md3 < (n_70 : Int) from by omega) hw (lv_sub hl [1, 2, 0] rfl))
  refine lv_aload_n S.x S.b d_Mpg_meet_0 rfl (lv_at hl 0 rfl) ?_
  refine gP_14 S hT hw 0 rfl m9_238 d_Mpg_meet_1 ?_
  refine lv_iload_n S.x S.b d_Mpg_meet_4 rfl (lv_at hl 1 rfl) ?_
  refine px_bald S hT hw 0 10 (n := 2100) (f := (na 14)) rfl gp_14 (x := p0) (vp_in_iff.mpr (by first | exact oz_a7e05de1cd hrg.2.2 hrg.2.1 g1 g2 | (constructor <;> omega))) d_Mpg_meet_5 ?_
  refine lv_topi (fun z28 ez28 => ?_)
  have lz28 := Int32.le_toInt z28
  have uz28 := Int32.toInt_lt z28
  have rz28 := EcV.kd hec_p0 ez28
  refine px_tabD S (dt := 168) [(52, [1]), (55, [2]), (168, [3, 4, 6]), (125, [5]), (63, [7]), (92, [8])] d_Mpg_meet_6 (by decide +kernel) (by decide) (by decide +kernel) ?_ ?_
  · intro hdf_6
    refine lv_aload_n S.x S.b d_Mpg_meet_168 rfl (lv_at hl 0 rfl) ?_
    refine lv_iload_n S.x S.b d_Mpg_meet_169 rfl (lv_at hl 1 rfl) ?_
    refine lv_iconst (v := 1) S.x S.b d_Mpg_meet_170 (by decide) ?_
    first | refine px_calli (pr := []) (px_runV (As := [.int p0, .int 1]) (rest := []) S (c_S_check l D cs ma0 ys ns nf kn (d + 1) lo hi h r g tf ta pf na wa ca ef ea xf xa ma cf p0 1  (show 0 ≤ lo from g0) (show hi ≤ (pf 13).toInt from g1) (show (pf 13).toInt ≤ 2100 from g2) (show (tf 6).toInt ≤ 2049 from g3) (show (cf 33).toInt = kn from g4) (show 0 ≤ kn from g5) (show (cf 48).toInt = ns from g6) (show (cf 38).toInt = nf from g7) (show 0 ≤ nf from g8) (show 0 ≤ (1 : Int) from oz_19c3a41681) (show (1 : Int) ≤ 1 from oz_f9181dc4bb) htk (FsI.le (N' := (pf 13).toInt) hfs (by omega)) hwr (KnT.eq hkt (by omega)) (FnT.eq hft (by omega)) hks hfp han hec_p0 _) hT (pr := []) (pcs := [wdP cs h r g tf ta pf na ma wa cf ca ef ea xf xa]) hw (oX_call (P := (fun A U H => (oP A g U H))) (pr := []) oG_P hw hA hP) (px_recv hT hw 0 0 rfl rfl rfl) m12_217 m12_214 m12_216 ms_12_7 m1_21 q_Mpg_check ⟨show (4 * (d + 1) + 12) + 1 ≤ (4 * (d + 1) + 16) from (oz_4ecef96d6e), show 8 + (8 + 11) + (200 * (d + 1) + 420) ≤ (200 * (d + 1) + 560) from (oz_4f0eb2123f)⟩ hl.1 rfl (Nat.le_of_ble_eq_true rfl) d_Mpg_meet_171 ⟨Nat.le_of_ble_eq_true rfl, Nat.le_of_ble_eq_true rfl⟩) hw hA (fun v35 p34 H locs hp34 hw => ?_) | (refine px_calli (pr := []) (px_runV (As := [.int p0, .int 1]) (rest := []) S (c_S_check l D cs ma0 ys ns nf kn (d + 1) lo hi h r g tf ta pf na wa ca ef ea xf xa ma cf p0 1  (show 0 ≤ lo from by first | exact g0 | omega) (show hi ≤ (pf 13).toInt from by first | exact g1 | omega) (show (pf 13).toInt ≤ 2100 from by first | exact g2 | omega) (show (tf 6).toInt ≤ 2049 from by first | exact g3 | omega) (show (cf 33).toInt = kn from by first | exact g4 | omega) (show 0 ≤ kn from by first | exact g5 | omega) (show (cf 48).toInt = ns from by first | exact g6 | omega) (show (cf 38).toInt = nf from by first | exact g7 | omega) (show 0 ≤ nf from by first | exact g8 | omega) (show 0 ≤ (1 : Int) from by first | exact oz_19c3a41681 | omega) (show (1 : Int) ≤ 1 from by first | exact oz_f9181dc4bb | omega) htk (FsI.le (N' := (pf 13).toInt) hfs (by omega)) hwr (KnT.eq hkt (by omega)) (FnT.eq hft (by omega)) hks hfp han hec_p0 _) hT (pr := []) (pcs := [wdP cs h r g tf ta pf na ma wa cf ca ef ea xf xa]) hw (oX_call (P := (fun A U H => (oP A g U H))) (pr := []) oG_P hw hA hP) (px_recv hT hw 0 0 rfl rfl rfl) m12_217 m12_214 m12_216 ms_12_7 m1_21 q_Mpg_check ⟨show (4 * (d + 1) + 12) + 1 ≤ (4 * (d + 1) + 16) from (by first | exact oz_4ecef96d6e | omega), show 8 + (8 + 11) + (200 * (d + 1) + 420) ≤ (200 * (d + 1) + 560) from (by first | exact oz_4f0eb2123f | omega)⟩ hl.1 rfl (Nat.le_of_ble_eq_true rfl) d_Mpg_meet_171 ⟨Nat.le_of_ble_eq_true rfl, Nat.le_of_ble_eq_true rfl⟩) hw hA (fun v35 p34 H locs hp34 hw => ?_))
    obtain ⟨ma32, cf33, rfl, e36, e37, e38, e39, e40, e41, e42, e43, e44, e45, e46, e47, e48, e49, e50, e51⟩ := hp34
    have e36 : KpE cf cf33 := e36
    have hke := (hke).tr e36
    have hkz_e36 := e36.2
    have e37 : WrV cf33 (tf 6).toInt := e37
    have hwr := e37
    have hw0_e37 := hwr.1
    have e38 : (cf33 33).toInt = (cf 33).toInt := e38
    have e39 : (cf33 38).toInt = (cf 38).toInt := e39
    have e40 : (cf33 48).toInt = (cf 48).toInt := e40
    have e41 : (cf33 46).toInt = (cf 46).toInt := e41
    have e42 : (cf33 47).toInt = (cf 47).toInt := e42
    have e43 : (cf33 57).toInt = (cf 57).toInt := e43
    have e44 : Ann na ma0 ma32 := e44
    have han := e44
    have e45 : FrC lo hi ma ma32 := e45
    have hfc := hfc.tr e45 (by omega) (by omega)
    have e46 : 0 ≤ v35.toInt := e46
    have e47 : v35.toInt ≤ 4 := e47
    have e48 : NmJ ta ca na ma32 kn p0 v35.toInt := e48
    have hnm_p0 := e48
    have e49 : ZTy cf33 (Gk ta ca na ma0 ns ys nf) na ma32 lo hi p0 v35.toInt := e49
    have hzt_p0 := e49
    have e50 : ZNm cf33 (1 : Int) v35.toInt := e50
    have hty_p0 := ZTy.num hzt_p0 e50
    have e51 : RL_mp_check (d + 1) tf ta na ca p0 (1 : Int32) ma cf ma32 cf33 v35 := e51
    have e51X : RX_mp_check tf ta na ca p0 (1 : Int32) ma cf ma32 cf33 v35 := ⟨(d + 1), e51⟩
    have lv35 := Int32.le_toInt v35
    have uv35 := Int32.toInt_lt v35
    refine lv_pop S.x S.b d_Mpg_meet_174 rfl ?_
    refine lv_aload_n S.x S.b d_Mpg_meet_175 rfl (lv_at hl 0 rfl) ?_
    refine lv_iconst (v := 1) S.x S.b d_Mpg_meet_176 (by decide) ?_
    refine pP_46 S hT hw 0 rfl m10_37 rfl rfl rfl d_Mpg_meet_177 (ps' := [wdP cs h r g tf ta pf na ma32 wa (upd cf33 46 1) ca ef ea xf xa]) rfl (fun H locs hw => ?_)
    first | exact px_vret S hr hlk hAe hw (Nat.le_of_ble_eq_true rfl) (Nat.le_of_ble_eq_true rfl) (⟨ma32, (upd cf33 46 1), rfl, (show KpE cf (upd cf33 46 1) from (KpE.u46 hke)), (show WrV (upd cf33 46 1) (tf 6).toInt from (WrV.u hwr (by decide) (by decide))), (show (cf33 33).toInt = (cf 33).toInt from e38), (show (cf33 38).toInt = (cf 38).toInt from e39), (show (cf33 48).toInt = (cf 48).toInt from e40), (show (cf33 57).toInt = (cf 57).toInt from e43), (show (cf33 47).toInt = 1 → (cf 47).toInt = 1 ∨ 1 ≤ (cf33 30).toInt from by omega), (show 0 ≤ (1 : Int) from oz_19c3a41681), (show (1 : Int) ≤ 1 from oz_f9181dc4bb), (show 0 ≤ (cf33 47).toInt from (oz_f3ebed1ad0 e42 g11)), (show (cf33 47).toInt ≤ 1 from (oz_878017becc e42 g12)), (show (1 : Int) = 0 → (cf 46).toInt = 0 from by omega), (show (cf33 47).toInt = 0 → (cf 47).toInt = 0 from (fun q9 => oz_2c3e9075ce e42 q9 g11)), (show Ann na ma0 ma32 from han), (show FrC lo hi ma ma32 from hfc), (show MtR (upd cf33 46 1) ta ca na ma0 kn (d + 1) p0 from (rko_no (Or.inl rfl))), (show R_mp_meet (RL_mp_meet d) tf ta na ca p0 ma cf ma32 (upd cf33 46 1) from (Exists.intro 1 (Or.inl ⟨rfl, z28, ez28, Or.inl ⟨hdf_6, ma32, cf33, v35, e51X, rfl, rfl⟩⟩)))⟩) d_Mpg_meet_180 | (exact px_vret S hr hlk hAe hw (Nat.le_of_ble_eq_true rfl) (Nat.le_of_ble_eq_true rfl) (⟨ma32, (upd cf33 46 1), rfl, (show KpE cf (upd cf33 46 1) from (KpE.u46 hke)), (show WrV (upd cf33 46 1) (tf 6).toInt from (WrV.u hwr (by decide) (by decide))), (show (cf33 33).toInt = (cf 33).toInt from by first | exact e38 | omega), (show (cf33 38).toInt = (cf 38).toInt from by first | exact e39 | omega), (show (cf33 48).toInt = (cf 48).toInt from by first | exact e40 | omega), (show (cf33 57).toInt = (cf 57).toInt from by first | exact e43 | omega), (show (cf33 47).toInt = 1 → (cf 47).toInt = 1 ∨ 1 ≤ (cf33 30).toInt from by omega), (show 0 ≤ (1 : Int) from by first | exact oz_19c3a41681 | omega), (show (1 : Int) ≤ 1 from by first | exact oz_f9181dc4bb | omega), (show 0 ≤ (cf33 47).toInt from by first | exact oz_f3ebed1ad0 e42 g11 | omega), (show (cf33 47).toInt ≤ 1 from by first | exact oz_878017becc e42 g12 | omega), (show (1 : Int) = 0 → (cf 46).toInt = 0 from by omega), (show (cf33 47).toInt = 0 → (cf 47).toInt = 0 from by first | exact fun q9 => oz_2c3e9075ce e42 q9 g11 | omega), (show Ann na ma0 ma32 from han), (show FrC lo hi ma ma32 from hfc), (show MtR (upd cf33 46 1) ta ca na ma0 kn (d + 1) p0 from (rko_no (Or.inl rfl))), (show R_mp_meet (RL_mp_meet d) tf ta na ca p0 ma cf ma32 (upd cf33 46 1) from (Exists.intro 1 (Or.inl ⟨rfl, z28, ez28, Or.inl ⟨hdf_6, ma32, cf33, v35, e51X, rfl, rfl⟩⟩)))⟩) d_Mpg_meet_180)
  · refine List.forall_mem_cons.mpr ⟨fun c52 => ?_, List.forall_mem_cons.mpr ⟨fun c52 => ?_, List.forall_mem_cons.mpr ⟨fun c52 => ?_, List.forall_mem_cons.mpr ⟨fun c52 => ?_, List.forall_mem_cons.mpr ⟨fun c52 => ?_, List.forall_mem_cons.mpr ⟨fun c52 => ?_, fun _ h => absurd h List.not_mem_nil⟩⟩⟩⟩⟩⟩
    · simp only [List.mem_cons, List.not_mem_nil, or_false] at c52
      refine lv_goto (tgt := 180) S.x S.b d_Mpg_meet_52 (by decide) ?_
      first | exact px_vret S hr hlk hAe hw (Nat.le_of_ble_eq_true rfl) (Nat.le_of_ble_eq_true rfl) (⟨ma, cf, rfl, (show KpE cf cf from hke), (show WrV cf (tf 6).toInt from hwr), (show (cf 33).toInt = (cf 33).toInt from rfl), (show (cf 38).toInt = (cf 38).toInt from rfl), (show (cf 48).toInt = (cf 48).toInt from rfl), (show (cf 57).toInt = (cf 57).toInt from rfl), (show (cf 47).toInt = 1 → (cf 47).toInt = 1 ∨ 1 ≤ (cf 30).toInt from by omega), (show 0 ≤ (cf 46).toInt from g9), (show (cf 46).toInt ≤ 1 from g10), (show 0 ≤ (cf 47).toInt from g11), (show (cf 47).toInt ≤ 1 from g12), (show (cf 46).toInt = 0 → (cf 46).toInt = 0 from (fun q9 => q9)), (show (cf 47).toInt = 0 → (cf 47).toInt = 0 from (fun q9 => q9)), (show Ann na ma0 ma from han), (show FrC lo hi ma ma from hfc), (show MtR cf ta ca na ma0 kn (d + 1) p0 from (fun a9 b9 => Or.inl (by omega))), (show R_mp_meet (RL_mp_meet d) tf ta na ca p0 ma cf ma cf from (Exists.intro 1 (Or.inl ⟨rfl, z28, ez28, Or.inr (Or.inl ⟨c52, rfl, rfl⟩)⟩)))⟩) d_Mpg_meet_180 | (exact px_vret S hr hlk hAe hw (Nat.le_of_ble_eq_true rfl) (Nat.le_of_ble_eq_true rfl) (⟨ma, cf, rfl, (show KpE cf cf from hke), (show WrV cf (tf 6).toInt from hwr), (show (cf 33).toInt = (cf 33).toInt from rfl), (show (cf 38).toInt = (cf 38).toInt from rfl), (show (cf 48).toInt = (cf 48).toInt from rfl), (show (cf 57).toInt = (cf 57).toInt from rfl), (show (cf 47).toInt = 1 → (cf 47).toInt = 1 ∨ 1 ≤ (cf 30).toInt from by omega), (show 0 ≤ (cf 46).toInt from by first | exact g9 | omega), (show (cf 46).toInt ≤ 1 from by first | exact g10 | omega), (show 0 ≤ (cf 47).toInt from by first | exact g11 | omega), (show (cf 47).toInt ≤ 1 from by first | exact g12 | omega), (show (cf 46).toInt = 0 → (cf 46).toInt = 0 from by first | exact fun q9 => q9 | omega), (show (cf 47).toInt = 0 → (cf 47).toInt = 0 from by first | exact fun q9 => q9 | omega), (show Ann na ma0 ma from han), (show FrC lo hi ma ma from hfc), (show MtR cf ta ca na ma0 kn (d + 1) p0 from (fun a9 b9 => Or.inl (by omega))), (show R_mp_meet (RL_mp_meet d) tf ta na ca p0 ma cf ma cf from (Exists.intro 1 (Or.inl ⟨rfl, z28, ez28, Or.inr (Or.inl ⟨c52, rfl, rfl⟩)⟩)))⟩) d_Mpg_meet_180)
    · simp only [List.mem_cons, List.not_mem_nil, or_false] at c52
      refine lv_aload_n S.x S.b d_Mpg_meet_55 rfl (lv_at hl 0 rfl) ?_
      refine lv_iload_n S.x S.b d_Mpg_meet_56 rfl (lv_at hl 1 rfl) ?_
      first | refine px_callv (pr := []) (px_runV (As := [.int p0]) (rest := []) S (c_mp_meetName l D cs ma0 ys ns nf kn (d + 1) lo hi h r g tf ta pf na wa ca ef ea xf xa ma cf p0  (show 0 ≤ lo from g0) (show hi ≤ (pf 13).toInt from g1) (show (pf 13).toInt ≤ 2100 from g2) (show (tf 6).toInt ≤ 2049 from g3) (show (cf 33).toInt = kn from g4) (show 0 ≤ kn from g5) (show (cf 48).toInt = ns from g6) (show (cf 38).toInt = nf from g7) (show 0 ≤ nf from g8) (show (na 14 p0.toNatClampNeg).toInt = 2 from by omega) (show 0 ≤ (cf 46).toInt from g9) (show (cf 46).toInt ≤ 1 from g10) (show 0 ≤ (cf 47).toInt from g11) (show (cf 47).toInt ≤ 1 from g12) htk (FsI.le (N' := (pf 13).toInt) hfs (by omega)) hwr (KnT.eq hkt (by omega)) (FnT.eq hft (by omega)) hks han hec_p0 _) hT (pr := []) (pcs := [wdP cs h r g tf ta pf na ma wa cf ca ef ea xf xa]) hw (oX_call (P := (fun A U H => (oP A g U H))) (pr := []) oG_P hw hA hP) (px_recv hT hw 0 0 rfl rfl rfl) m13_5 m13_2 m13_4 ms_12_14 m1_21 q_Mpg_meetName ⟨show 4 + 1 ≤ (4 * (d + 1) + 16) from (oz_173e82b86d), show 8 + (3 + 11) + 160 ≤ (200 * (d + 1) + 560) from (oz_c0232f888e)⟩ hl.1 rfl (Nat.le_of_ble_eq_true rfl) d_Mpg_meet_57 ⟨Nat.le_of_ble_eq_true rfl, Nat.le_of_ble_eq_true rfl⟩) hw hA (fun p57 H locs hp57 hw => ?_) | (refine px_callv (pr := []) (px_runV (As := [.int p0]) (rest := []) S (c_mp_meetName l D cs ma0 ys ns nf kn (d + 1) lo hi h r g tf ta pf na wa ca ef ea xf xa ma cf p0  (show 0 ≤ lo from by first | exact g0 | omega) (show hi ≤ (pf 13).toInt from by first | exact g1 | omega) (show (pf 13).toInt ≤ 2100 from by first | exact g2 | omega) (show (tf 6).toInt ≤ 2049 from by first | exact g3 | omega) (show (cf 33).toInt = kn from by first | exact g4 | omega) (show 0 ≤ kn from by first | exact g5 | omega) (show (cf 48).toInt = ns from by first | exact g6 | omega) (show (cf 38).toInt = nf from by first | exact g7 | omega) (show 0 ≤ nf from by first | exact g8 | omega) (show (na 14 p0.toNatClampNeg).toInt = 2 from by omega) (show 0 ≤ (cf 46).toInt from by first | exact g9 | omega) (show (cf 46).toInt ≤ 1 from by first | exact g10 | omega) (show 0 ≤ (cf 47).toInt from by first | exact g11 | omega) (show (cf 47).toInt ≤ 1 from by first | exact g12 | omega) htk (FsI.le (N' := (pf 13).toInt) hfs (by omega)) hwr (KnT.eq hkt (by omega)) (FnT.eq hft (by omega)) hks han hec_p0 _) hT (pr := []) (pcs := [wdP cs h r g tf ta pf na ma wa cf ca ef ea xf xa]) hw (oX_call (P := (fun A U H => (oP A g U H))) (pr := []) oG_P hw hA hP) (px_recv hT hw 0 0 rfl rfl rfl) m13_5 m13_2 m13_4 ms_12_14 m1_21 q_Mpg_meetName ⟨show 4 + 1 ≤ (4 * (d + 1) + 16) from (by first | exact oz_173e82b86d | omega), show 8 + (3 + 11) + 160 ≤ (200 * (d + 1) + 560) from (by first | exact oz_c0232f888e | omega)⟩ hl.1 rfl (Nat.le_of_ble_eq_true rfl) d_Mpg_meet_57 ⟨Nat.le_of_ble_eq_true rfl, Nat.le_of_ble_eq_true rfl⟩) hw hA (fun p57 H locs hp57 hw => ?_))
      obtain ⟨ma55, cf56, rfl, e59, e60, e61, e62, e63, e64, e65, e66, e67, e68, e69, e70, e71, e72, e73, e74, e75⟩ := hp57
      have e59 : KpE cf cf56 := e59
      have hke := (hke).tr e59
      have hkz_e59 := e59.2
      have e60 : WrV cf56 (tf 6).toInt := e60
      have hwr := e60
      have hw0_e60 := hwr.1
      have e61 : (cf56 33).toInt = (cf 33).toInt := e61
      have e62 : (cf56 38).toInt = (cf 38).toInt := e62
      have e63 : (cf56 48).toInt = (cf 48).toInt := e63
      have e64 : (cf56 57).toInt = (cf 57).toInt := e64
      have e65 : (cf56 47).toInt = 1 → (cf 47).toInt = 1 ∨ 1 ≤ (cf56 30).toInt := e65
      have e66 : 0 ≤ (cf56 46).toInt := e66
      have e67 : (cf56 46).toInt ≤ 1 := e67
      have e68 : 0 ≤ (cf56 47).toInt := e68
      have e69 : (cf56 47).toInt ≤ 1 := e69
      have e70 : (cf56 46).toInt = 0 → (cf 46).toInt = 0 := e70
      have e71 : (cf56 47).toInt = 0 → (cf 47).toInt = 0 := e71
      have e72 : Ann na ma0 ma55 := e72
      have han := e72
      have e73 : FrC lo hi ma ma55 := e73
      have hfc := hfc.tr e73 (by omega) (by omega)
      have e74 : MtF cf56 ta ca na kn p0 := e74
      have hmtf := e74
      have e75 : R_mp_meetName ta na ca p0 ma cf ma55 cf56 := e75
      refine lv_goto (tgt := 180) S.x S.b d_Mpg_meet_60 (by decide) ?_
      first | exact px_vret S hr hlk hAe hw (Nat.le_of_ble_eq_true rfl) (Nat.le_of_ble_eq_true rfl) (⟨ma55, cf56, rfl, (show KpE cf cf56 from hke), (show WrV cf56 (tf 6).toInt from hwr), (show (cf56 33).toInt = (cf 33).toInt from e61), (show (cf56 38).toInt = (cf 38).toInt from e62), (show (cf56 48).toInt = (cf 48).toInt from e63), (show (cf56 57).toInt = (cf 57).toInt from e64), (show (cf56 47).toInt = 1 → (cf 47).toInt = 1 ∨ 1 ≤ (cf56 30).toInt from e65), (show 0 ≤ (cf56 46).toInt from e66), (show (cf56 46).toInt ≤ 1 from e67), (show 0 ≤ (cf56 47).toInt from e68), (show (cf56 47).toInt ≤ 1 from e69), (show (cf56 46).toInt = 0 → (cf 46).toInt = 0 from e70), (show (cf56 47).toInt = 0 → (cf 47).toInt = 0 from e71), (show Ann na ma0 ma55 from han), (show FrC lo hi ma ma55 from hfc), (show MtR cf56 ta ca na ma0 kn (d + 1) p0 from (fun a9 b9 => Or.inr (Or.inl ⟨by omega, hmtf a9 b9⟩))), (show R_mp_meet (RL_mp_meet d) tf ta na ca p0 ma cf ma55 cf56 from (Exists.intro 1 (Or.inl ⟨rfl, z28, ez28, Or.inr (Or.inr (Or.inl ⟨c52, ma55, cf56, e75, rfl, rfl⟩))⟩)))⟩) d_Mpg_meet_180 | (exact px_vret S hr hlk hAe hw (Nat.le_of_ble_eq_true rfl) (Nat.le_of_ble_eq_true rfl) (⟨ma55, cf56, rfl, (show KpE cf cf56 from hke), (show WrV cf56 (tf 6).toInt from hwr), (show (cf56 33).toInt = (cf 33).toInt from by first | exact e61 | omega), (show (cf56 38).toInt = (cf 38).toInt from by first | exact e62 | omega), (show (cf56 48).toInt = (cf 48).toInt from by first | exact e63 | omega), (show (cf56 57).toInt = (cf 57).toInt from by first | exact e64 | omega), (show (cf56 47).toInt = 1 → (cf 47).toInt = 1 ∨ 1 ≤ (cf56 30).toInt from by first | exact e65 | omega), (show 0 ≤ (cf56 46).toInt from by first | exact e66 | omega), (show (cf56 46).toInt ≤ 1 from by first | exact e67 | omega), (show 0 ≤ (cf56 47).toInt from by first | exact e68 | omega), (show (cf56 47).toInt ≤ 1 from by first | exact e69 | omega), (show (cf56 46).toInt = 0 → (cf 46).toInt = 0 from by first | exact e70 | omega), (show (cf56 47).toInt = 0 → (cf 47).toInt = 0 from by first | exact e71 | omega), (show Ann na ma0 ma55 from han), (show FrC lo hi ma ma55 from hfc), (show MtR cf56 ta ca na ma0 kn (d + 1) p0 from (fun a9 b9 => Or.inr (Or.inl ⟨by omega, hmtf a9 b9⟩))), (show R_mp_meet (RL_mp_meet d) tf ta na ca p0 ma cf ma55 cf56 from (Exists.intro 1 (Or.inl ⟨rfl, z28, ez28, Or.inr (Or.inr (Or.inl ⟨c52, ma55, cf56, e75, rfl, rfl⟩))⟩)))⟩) d_Mpg_meet_180)
    · simp only [List.mem_cons, List.not_mem_nil, or_false] at c52
      refine lv_aload_n S.x S.b d_Mpg_meet_168 rfl (lv_at hl 0 rfl) ?_
      refine lv_iload_n S.x S.b d_Mpg_meet_169 rfl (lv_at hl 1 rfl) ?_
      refine lv_iconst (v := 1) S.x S.b d_Mpg_meet_170 (by decide) ?_
      first | refine px_calli (pr := []) (px_runV (As := [.int p0, .int 1]) (rest := []) S (c_S_check l D cs ma0 ys ns nf kn (d + 1) lo hi h r g tf ta pf na wa ca ef ea xf xa ma cf p0 1  (show 0 ≤ lo from g0) (show hi ≤ (pf 13).toInt from g1) (show (pf 13).toInt ≤ 2100 from g2) (show (tf 6).toInt ≤ 2049 from g3) (show (cf 33).toInt = kn from g4) (show 0 ≤ kn from g5) (show (cf 48).toInt = ns from g6) (show (cf 38).toInt = nf from g7) (show 0 ≤ nf from g8) (show 0 ≤ (1 : Int) from oz_19c3a41681) (show (1 : Int) ≤ 1 from oz_f9181dc4bb) htk (FsI.le (N' := (pf 13).toInt) hfs (by omega)) hwr (KnT.eq hkt (by omega)) (FnT.eq hft (by omega)) hks hfp han hec_p0 _) hT (pr := []) (pcs := [wdP cs h r g tf ta pf na ma wa cf ca ef ea xf xa]) hw (oX_call (P := (fun A U H => (oP A g U H))) (pr := []) oG_P hw hA hP) (px_recv hT hw 0 0 rfl rfl rfl) m12_217 m12_214 m12_216 ms_12_7 m1_21 q_Mpg_check ⟨show (4 * (d + 1) + 12) + 1 ≤ (4 * (d + 1) + 16) from (oz_4ecef96d6e), show 8 + (8 + 11) + (200 * (d + 1) + 420) ≤ (200 * (d + 1) + 560) from (oz_4f0eb2123f)⟩ hl.1 rfl (Nat.le_of_ble_eq_true rfl) d_Mpg_meet_171 ⟨Nat.le_of_ble_eq_true rfl, Nat.le_of_ble_eq_true rfl⟩) hw hA (fun v81 p80 H locs hp80 hw => ?_) | (refine px_calli (pr := []) (px_runV (As := [.int p0, .int 1]) (rest := []) S (c_S_check l D cs ma0 ys ns nf kn (d + 1) lo hi h r g tf ta pf na wa ca ef ea xf xa ma cf p0 1  (show 0 ≤ lo from by first | exact g0 | omega) (show hi ≤ (pf 13).toInt from by first | exact g1 | omega) (show (pf 13).toInt ≤ 2100 from by first | exact g2 | omega) (show (tf 6).toInt ≤ 2049 from by first | exact g3 | omega) (show (cf 33).toInt = kn from by first | exact g4 | omega) (show 0 ≤ kn from by first | exact g5 | omega) (show (cf 48).toInt = ns from by first | exact g6 | omega) (show (cf 38).toInt = nf from by first | exact g7 | omega) (show 0 ≤ nf from by first | exact g8 | omega) (show 0 ≤ (1 : Int) from by first | exact oz_19c3a41681 | omega) (show (1 : Int) ≤ 1 from by first | exact oz_f9181dc4bb | omega) htk (FsI.le (N' := (pf 13).toInt) hfs (by omega)) hwr (KnT.eq hkt (by omega)) (FnT.eq hft (by omega)) hks hfp han hec_p0 _) hT (pr := []) (pcs := [wdP cs h r g tf ta pf na ma wa cf ca ef ea xf xa]) hw (oX_call (P := (fun A U H => (oP A g U H))) (pr := []) oG_P hw hA hP) (px_recv hT hw 0 0 rfl rfl rfl) m12_217 m12_214 m12_216 ms_12_7 m1_21 q_Mpg_check ⟨show (4 * (d + 1) + 12) + 1 ≤ (4 * (d + 1) + 16) from (by first | exact oz_4ecef96d6e | omega), show 8 + (8 + 11) + (200 * (d + 1) + 420) ≤ (200 * (d + 1) + 560) from (by first | exact oz_4f0eb2123f | omega)⟩ hl.1 rfl (Nat.le_of_ble_eq_true rfl) d_Mpg_meet_171 ⟨Nat.le_of_ble_eq_true rfl, Nat.le_of_ble_eq_true rfl⟩) hw hA (fun v81 p80 H locs hp80 hw => ?_))
      obtain ⟨ma78, cf79, rfl, e82, e83, e84, e85, e86, e87, e88, e89, e90, e91, e92, e93, e94, e95, e96, e97⟩ := hp80
      have e82 : KpE cf cf79 := e82
      have hke := (hke).tr e82
      have hkz_e82 := e82.2
      have e83 : WrV cf79 (tf 6).toInt := e83
      have hwr := e83
      have hw0_e83 := hwr.1
      have e84 : (cf79 33).toInt = (cf 33).toInt := e84
      have e85 : (cf79 38).toInt = (cf 38).toInt := e85
      have e86 : (cf79 48).toInt = (cf 48).toInt := e86
      have e87 : (cf79 46).toInt = (cf 46).toInt := e87
      have e88 : (cf79 47).toInt = (cf 47).toInt := e88
      have e89 : (cf79 57).toInt = (cf 57).toInt := e89
      have e90 : Ann na ma0 ma78 := e90
      have han := e90
      have e91 : FrC lo hi ma ma78 := e91
      have hfc := hfc.tr e91 (by omega) (by omega)
      have e92 : 0 ≤ v81.toInt := e92
      have e93 : v81.toInt ≤ 4 := e93
      have e94 : NmJ ta ca na ma78 kn p0 v81.toInt := e94
      have hnm_p0 := e94
      have e95 : ZTy cf79 (Gk ta ca na ma0 ns ys nf) na ma78 lo hi p0 v81.toInt := e95
      have hzt_p0 := e95
      have e96 : ZNm cf79 (1 : Int) v81.toInt := e96
      have hty_p0 := ZTy.num hzt_p0 e96
      have e97 : RL_mp_check (d + 1) tf ta na ca p0 (1 : Int32) ma cf ma78 cf79 v81 := e97
      have e97X : RX_mp_check tf ta na ca p0 (1 : Int32) ma cf ma78 cf79 v81 := ⟨(d + 1), e97⟩
      have lv81 := Int32.le_toInt v81
      have uv81 := Int32.toInt_lt v81
      refine lv_pop S.x S.b d_Mpg_meet_174 rfl ?_
      refine lv_aload_n S.x S.b d_Mpg_meet_175 rfl (lv_at hl 0 rfl) ?_
      refine lv_iconst (v := 1) S.x S.b d_Mpg_meet_176 (by decide) ?_
      refine pP_46 S hT hw 0 rfl m10_37 rfl rfl rfl d_Mpg_meet_177 (ps' := [wdP cs h r g tf ta pf na ma78 wa (upd cf79 46 1) ca ef ea xf xa]) rfl (fun H locs hw => ?_)
      first | exact px_vret S hr hlk hAe hw (Nat.le_of_ble_eq_true rfl) (Nat.le_of_ble_eq_true rfl) (⟨ma78, (upd cf79 46 1), rfl, (show KpE cf (upd cf79 46 1) from (KpE.u46 hke)), (show WrV (upd cf79 46 1) (tf 6).toInt from (WrV.u hwr (by decide) (by decide))), (show (cf79 33).toInt = (cf 33).toInt from e84), (show (cf79 38).toInt = (cf 38).toInt from e85), (show (cf79 48).toInt = (cf 48).toInt from e86), (show (cf79 57).toInt = (cf 57).toInt from e89), (show (cf79 47).toInt = 1 → (cf 47).toInt = 1 ∨ 1 ≤ (cf79 30).toInt from by omega), (show 0 ≤ (1 : Int) from oz_19c3a41681), (show (1 : Int) ≤ 1 from oz_f9181dc4bb), (show 0 ≤ (cf79 47).toInt from (oz_f3ebed1ad0 e88 g11)), (show (cf79 47).toInt ≤ 1 from (oz_878017becc e88 g12)), (show (1 : Int) = 0 → (cf 46).toInt = 0 from by omega), (show (cf79 47).toInt = 0 → (cf 47).toInt = 0 from (fun q9 => oz_2c3e9075ce e88 q9 g11)), (show Ann na ma0 ma78 from han), (show FrC lo hi ma ma78 from hfc), (show MtR (upd cf79 46 1) ta ca na ma0 kn (d + 1) p0 from (rko_no (Or.inl rfl))), (show R_mp_meet (RL_mp_meet d) tf ta na ca p0 ma cf ma78 (upd cf79 46 1) from (Exists.intro 1 (Or.inl ⟨rfl, z28, ez28, Or.inr (Or.inr (Or.inr (Or.inl ⟨c52, ma78, cf79, v81, e97X, rfl, rfl⟩)))⟩)))⟩) d_Mpg_meet_180 | (exact px_vret S hr hlk hAe hw (Nat.le_of_ble_eq_true rfl) (Nat.le_of_ble_eq_true rfl) (⟨ma78, (upd cf79 46 1), rfl, (show KpE cf (upd cf79 46 1) from (KpE.u46 hke)), (show WrV (upd cf79 46 1) (tf 6).toInt from (WrV.u hwr (by decide) (by decide))), (show (cf79 33).toInt = (cf 33).toInt from by first | exact e84 | omega), (show (cf79 38).toInt = (cf 38).toInt from by first | exact e85 | omega), (show (cf79 48).toInt = (cf 48).toInt from by first | exact e86 | omega), (show (cf79 57).toInt = (cf 57).toInt from by first | exact e89 | omega), (show (cf79 47).toInt = 1 → (cf 47).toInt = 1 ∨ 1 ≤ (cf79 30).toInt from by omega), (show 0 ≤ (1 : Int) from by first | exact oz_19c3a41681 | omega), (show (1 : Int) ≤ 1 from by first | exact oz_f9181dc4bb | omega), (show 0 ≤ (cf79 47).toInt from by first | exact oz_f3ebed1ad0 e88 g11 | omega), (show (cf79 47).toInt ≤ 1 from by first | exact oz_878017becc e88 g12 | omega), (show (1 : Int) = 0 → (cf 46).toInt = 0 from by omega), (show (cf79 47).toInt = 0 → (cf 47).toInt = 0 from by first | exact fun q9 => oz_2c3e9075ce e88 q9 g11 | omega), (show Ann na ma0 ma78 from han), (show FrC lo hi ma ma78 from hfc), (show MtR (upd cf79 46 1) ta ca na ma0 kn (d + 1) p0 from (rko_no (Or.inl rfl))), (show R_mp_meet (RL_mp_meet d) tf ta na ca p0 ma cf ma78 (upd cf79 46 1) from (Exists.intro 1 (Or.inl ⟨rfl, z28, ez28, Or.inr (Or.inr (Or.inr (Or.inl ⟨c52, ma78, cf79, v81, e97X, rfl, rfl⟩)))⟩)))⟩) d_Mpg_meet_180)
    · simp only [List.mem_cons, List.not_mem_nil, or_false] at c52
      refine lv_aload_n S.x S.b d_Mpg_meet_125 rfl (lv_at hl 0 rfl) ?_
      refine gP_8 S hT hw 0 rfl m9_232 d_Mpg_meet_126 ?_
      refine lv_aload_n S.x S.b d_Mpg_meet_129 rfl (lv_at hl 0 rfl) ?_
      refine gP_15 S hT hw 0 rfl m9_239 d_Mpg_meet_130 ?_
      refine lv_iload_n S.x S.b d_Mpg_meet_133 rfl (lv_at hl 1 rfl) ?_
      refine px_iald S hT hw 0 11 (n := 2100) (f := (na 15)) rfl gp_15 (x := p0) (vp_in_iff.mpr (by first | exact oz_a7e05de1cd hrg.2.2 hrg.2.1 g1 g2 | (constructor <;> omega))) d_Mpg_meet_134 ?_
      refine lv_topi (fun z98 ez98 => ?_)
      have lz98 := Int32.le_toInt z98
      have uz98 := Int32.toInt_lt z98
      have rz98 := EcV.tok hec_p0 ez98
      refine px_iald S hT hw 0 7 (n := 2060) (f := (ta 8)) rfl gp_8 (x := z98) (vp_in_iff.mpr (by first | exact oz_b607b04d7a rz98.1 rz98.2 g3 | (constructor <;> omega))) d_Mpg_meet_135 ?_
      refine lv_topi (fun z99 ez99 => ?_)
      have lz99 := Int32.le_toInt z99
      have uz99 := Int32.toInt_lt z99
      have rz99 : z99.toInt = sz ta z98 := by rw [ez99]; rfl
      refine lv_iconst (v := 2) S.x S.b d_Mpg_meet_136 (by decide) ?_
      refine lv_icmp_ne (tgt := 155) S.x S.b d_Mpg_meet_137 (by decide) (fun c100 => ?_) (fun c100 => ?_)
      · have nc100 : ¬ z99.toInt = (2 : Int) := mt (i_eq (x := z99) (y := 2)).mpr c100
        refine lv_aload_n S.x S.b d_Mpg_meet_155 rfl (lv_at hl 0 rfl) ?_
        refine lv_aload_n S.x S.b d_Mpg_meet_156 rfl (lv_at hl 0 rfl) ?_
        refine gP_17 S hT hw 0 rfl m10_1 d_Mpg_meet_157 ?_
        refine lv_iload_n S.x S.b d_Mpg_meet_160 rfl (lv_at hl 1 rfl) ?_
        refine px_iald S hT hw 0 13 (n := 2100) (f := (na 17)) rfl gp_17 (x := p0) (vp_in_iff.mpr (by first | exact oz_a7e05de1cd hrg.2.2 hrg.2.1 g1 g2 | (constructor <;> omega))) d_Mpg_meet_161 ?_
        refine lv_topi (fun z102 ez102 => ?_)
        have lz102 := Int32.le_toInt z102
        have uz102 := Int32.toInt_lt z102
        have hec_z102 := EcV.k56 hec_p0 (by omega) ez102; have hrg_z102 := EcV.rng hec_z102
        first | refine px_callv (pr := []) (px_runV (As := [.int z102]) (rest := []) S (hLM ma0 ys ns nf kn lo p0.toInt h r g tf ta pf na wa ca ef ea xf xa ma cf z102 (show 0 ≤ lo from g0) (show p0.toInt ≤ (pf 13).toInt from (oz_6996e0781a g1 hrg.2.1)) (show (pf 13).toInt ≤ 2100 from g2) (show (tf 6).toInt ≤ 2049 from g3) (show (cf 33).toInt = kn from g4) (show 0 ≤ kn from g5) (show (cf 48).toInt = ns from g6) (show (cf 38).toInt = nf from g7) (show 0 ≤ nf from g8) (show 0 ≤ (cf 46).toInt from g9) (show (cf 46).toInt ≤ 1 from g10) (show 0 ≤ (cf 47).toInt from g11) (show (cf 47).toInt ≤ 1 from g12) htk (FsI.le (N' := (pf 13).toInt) hfs (by omega)) hwr (KnT.eq hkt (by omega)) (FnT.eq hft (by omega)) hks hfp han hec_z102 _) hT (pr := []) (pcs := [wdP cs h r g tf ta pf na ma wa cf ca ef ea xf xa]) hw (oX_call (P := (fun A U H => (oP A g U H))) (pr := []) oG_P hw hA hP) (px_recv hT hw 0 0 rfl rfl rfl) m13_1 m12_238 m13_0 ms_12_13 m1_21 q_Mpg_meet ⟨show (4 * d + 16) + 1 ≤ (4 * (d + 1) + 16) from (oz_aa90c3e733), show 8 + (3 + 11) + (200 * d + 560) ≤ (200 * (d + 1) + 560) from (oz_9ec61a0b30)⟩ hl.1 rfl (Nat.le_of_ble_eq_true rfl) d_Mpg_meet_162 ⟨Nat.le_of_ble_eq_true rfl, Nat.le_of_ble_eq_true rfl⟩) hw hA (fun p107 H locs hp107 hw => ?_) | (refine px_callv (pr := []) (px_runV (As := [.int z102]) (rest := []) S (hLM ma0 ys ns nf kn lo p0.toInt h r g tf ta pf na wa ca ef ea xf xa ma cf z102 (show 0 ≤ lo from by first | exact g0 | omega) (show p0.toInt ≤ (pf 13).toInt from by first | exact oz_6996e0781a g1 hrg.2.1 | omega) (show (pf 13).toInt ≤ 2100 from by first | exact g2 | omega) (show (tf 6).toInt ≤ 2049 from by first | exact g3 | omega) (show (cf 33).toInt = kn from by first | exact g4 | omega) (show 0 ≤ kn from by first | exact g5 | omega) (show (cf 48).toInt = ns from by first | exact g6 | omega) (show (cf 38).toInt = nf from by first | exact g7 | omega) (show 0 ≤ nf from by first | exact g8 | omega) (show 0 ≤ (cf 46).toInt from by first | exact g9 | omega) (show (cf 46).toInt ≤ 1 from by first | exact g10 | omega) (show 0 ≤ (cf 47).toInt from by first | exact g11 | omega) (show (cf 47).toInt ≤ 1 from by first | exact g12 | omega) htk (FsI.le (N' := (pf 13).toInt) hfs (by omega)) hwr (KnT.eq hkt (by omega)) (FnT.eq hft (by omega)) hks hfp han hec_z102 _) hT (pr := []) (pcs := [wdP cs h r g tf ta pf na ma wa cf ca ef ea xf xa]) hw (oX_call (P := (fun A U H => (oP A g U H))) (pr := []) oG_P hw hA hP) (px_recv hT hw 0 0 rfl rfl rfl) m13_1 m12_238 m13_0 ms_12_13 m1_21 q_Mpg_meet ⟨show (4 * d + 16) + 1 ≤ (4 * (d + 1) + 16) from (by first | exact oz_aa90c3e733 | omega), show 8 + (3 + 11) + (200 * d + 560) ≤ (200 * (d + 1) + 560) from (by first | exact oz_9ec61a0b30 | omega)⟩ hl.1 rfl (Nat.le_of_ble_eq_true rfl) d_Mpg_meet_162 ⟨Nat.le_of_ble_eq_true rfl, Nat.le_of_ble_eq_true rfl⟩) hw hA (fun p107 H locs hp107 hw => ?_))
        obtain ⟨ma105, cf106, rfl, e109, e110, e111, e112, e113, e114, e115, e116, e117, e118, e119, e120, e121, e122, e123, e124, e125⟩ := hp107
        have e109 : KpE cf cf106 := e109
        have hke := (hke).tr e109
        have hkz_e109 := e109.2
        have e110 : WrV cf106 (tf 6).toInt := e110
        have hwr := e110
        have hw0_e110 := hwr.1
        have e111 : (cf106 33).toInt = (cf 33).toInt := e111
        have e112 : (cf106 38).toInt = (cf 38).toInt := e112
        have e113 : (cf106 48).toInt = (cf 48).toInt := e113
        have e114 : (cf106 57).toInt = (cf 57).toInt := e114
        have e115 : (cf106 47).toInt = 1 → (cf 47).toInt = 1 ∨ 1 ≤ (cf106 30).toInt := e115
        have e116 : 0 ≤ (cf106 46).toInt := e116
        have e117 : (cf106 46).toInt ≤ 1 := e117
        have e118 : 0 ≤ (cf106 47).toInt := e118
        have e119 : (cf106 47).toInt ≤ 1 := e119
        have e120 : (cf106 46).toInt = 0 → (cf 46).toInt = 0 := e120
        have e121 : (cf106 47).toInt = 0 → (cf 47).toInt = 0 := e121
        have e122 : Ann na ma0 ma105 := e122
        have han := e122
        have e123 : FrC lo p0.toInt ma ma105 := e123
        have hfc := hfc.tr e123 (by omega) (by omega)
        have e124 : MtR cf106 ta ca na ma0 kn d z102 := e124
        have hmt_z102 := e124
        have e125 : RL_mp_meet d tf ta na ca z102 ma cf ma105 cf106 := e125
        refine lv_goto (tgt := 180) S.x S.b d_Mpg_meet_165 (by decide) ?_
        first | exact px_vret S hr hlk hAe hw (Nat.le_of_ble_eq_true rfl) (Nat.le_of_ble_eq_true rfl) (⟨ma105, cf106, rfl, (show KpE cf cf106 from hke), (show WrV cf106 (tf 6).toInt from hwr), (show (cf106 33).toInt = (cf 33).toInt from e111), (show (cf106 38).toInt = (cf 38).toInt from e112), (show (cf106 48).toInt = (cf 48).toInt from e113), (show (cf106 57).toInt = (cf 57).toInt from e114), (show (cf106 47).toInt = 1 → (cf 47).toInt = 1 ∨ 1 ≤ (cf106 30).toInt from e115), (show 0 ≤ (cf106 46).toInt from e116), (show (cf106 46).toInt ≤ 1 from e117), (show 0 ≤ (cf106 47).toInt from e118), (show (cf106 47).toInt ≤ 1 from e119), (show (cf106 46).toInt = 0 → (cf 46).toInt = 0 from e120), (show (cf106 47).toInt = 0 → (cf 47).toInt = 0 from e121), (show Ann na ma0 ma105 from han), (show FrC lo hi ma ma105 from hfc), (show MtR cf106 ta ca na ma0 kn (d + 1) p0 from (fun a9 b9 => Or.inr (Or.inr (Or.inl ⟨by omega, by rw [← ez102]; exact hmt_z102 a9 b9⟩)))), (show R_mp_meet (RL_mp_meet d) tf ta na ca p0 ma cf ma105 cf106 from (Exists.intro 1 (Or.inl ⟨rfl, z28, ez28, Or.inr (Or.inr (Or.inr (Or.inr (Or.inl ⟨c52, z98, ez98, z99, ez99, Or.inl ⟨nc100, z102, ez102, ma105, cf106, e125, rfl, rfl⟩⟩))))⟩)))⟩) d_Mpg_meet_180 | (exact px_vret S hr hlk hAe hw (Nat.le_of_ble_eq_true rfl) (Nat.le_of_ble_eq_true rfl) (⟨ma105, cf106, rfl, (show KpE cf cf106 from hke), (show WrV cf106 (tf 6).toInt from hwr), (show (cf106 33).toInt = (cf 33).toInt from by first | exact e111 | omega), (show (cf106 38).toInt = (cf 38).toInt from by first | exact e112 | omega), (show (cf106 48).toInt = (cf 48).toInt from by first | exact e113 | omega), (show (cf106 57).toInt = (cf 57).toInt from by first | exact e114 | omega), (show (cf106 47).toInt = 1 → (cf 47).toInt = 1 ∨ 1 ≤ (cf106 30).toInt from by first | exact e115 | omega), (show 0 ≤ (cf106 46).toInt from by first | exact e116 | omega), (show (cf106 46).toInt ≤ 1 from by first | exact e117 | omega), (show 0 ≤ (cf106 47).toInt from by first | exact e118 | omega), (show (cf106 47).toInt ≤ 1 from by first | exact e119 | omega), (show (cf106 46).toInt = 0 → (cf 46).toInt = 0 from by first | exact e120 | omega), (show (cf106 47).toInt = 0 → (cf 47).toInt = 0 from by first | exact e121 | omega), (show Ann na ma0 ma105 from han), (show FrC lo hi ma ma105 from hfc), (show MtR cf106 ta ca na ma0 kn (d + 1) p0 from (fun a9 b9 => Or.inr (Or.inr (Or.inl ⟨by omega, by rw [← ez102]; exact hmt_z102 a9 b9⟩)))), (show R_mp_meet (RL_mp_meet d) tf ta na ca p0 ma cf ma105 cf106 from (Exists.intro 1 (Or.inl ⟨rfl, z28, ez28, Or.inr (Or.inr (Or.inr (Or.inr (Or.inl ⟨c52, z98, ez98, z99, ez99, Or.inl ⟨nc100, z102, ez102, ma105, cf106, e125, rfl, rfl⟩⟩))))⟩)))⟩) d_Mpg_meet_180)
      · have nc100 : z99.toInt = (2 : Int) := (i_eq (x := z99) (y := 2)).mp c100
        refine lv_aload_n S.x S.b d_Mpg_meet_140 rfl (lv_at hl 0 rfl) ?_
        refine lv_iload_n S.x S.b d_Mpg_meet_141 rfl (lv_at hl 1 rfl) ?_
        refine lv_iconst (v := 1) S.x S.b d_Mpg_meet_142 (by decide) ?_
        first | refine px_calli (pr := []) (px_runV (As := [.int p0, .int 1]) (rest := []) S (c_S_check l D cs ma0 ys ns nf kn (d + 1) lo hi h r g tf ta pf na wa ca ef ea xf xa ma cf p0 1  (show 0 ≤ lo from g0) (show hi ≤ (pf 13).toInt from g1) (show (pf 13).toInt ≤ 2100 from g2) (show (tf 6).toInt ≤ 2049 from g3) (show (cf 33).toInt = kn from g4) (show 0 ≤ kn from g5) (show (cf 48).toInt = ns from g6) (show (cf 38).toInt = nf from g7) (show 0 ≤ nf from g8) (show 0 ≤ (1 : Int) from oz_19c3a41681) (show (1 : Int) ≤ 1 from oz_f9181dc4bb) htk (FsI.le (N' := (pf 13).toInt) hfs (by omega)) hwr (KnT.eq hkt (by omega)) (FnT.eq hft (by omega)) hks hfp han hec_p0 _) hT (pr := []) (pcs := [wdP cs h r g tf ta pf na ma wa cf ca ef ea xf xa]) hw (oX_call (P := (fun A U H => (oP A g U H))) (pr := []) oG_P hw hA hP) (px_recv hT hw 0 0 rfl rfl rfl) m12_217 m12_214 m12_216 ms_12_7 m1_21 q_Mpg_check ⟨show (4 * (d + 1) + 12) + 1 ≤ (4 * (d + 1) + 16) from (oz_4ecef96d6e), show 8 + (8 + 11) + (200 * (d + 1) + 420) ≤ (200 * (d + 1) + 560) from (oz_4f0eb2123f)⟩ hl.1 rfl (Nat.le_of_ble_eq_true rfl) d_Mpg_meet_143 ⟨Nat.le_of_ble_eq_true rfl, Nat.le_of_ble_eq_true rfl⟩) hw hA (fun v131 p130 H locs hp130 hw => ?_) | (refine px_calli (pr := []) (px_runV (As := [.int p0, .int 1]) (rest := []) S (c_S_check l D cs ma0 ys ns nf kn (d + 1) lo hi h r g tf ta pf na wa ca ef ea xf xa ma cf p0 1  (show 0 ≤ lo from by first | exact g0 | omega) (show hi ≤ (pf 13).toInt from by first | exact g1 | omega) (show (pf 13).toInt ≤ 2100 from by first | exact g2 | omega) (show (tf 6).toInt ≤ 2049 from by first | exact g3 | omega) (show (cf 33).toInt = kn from by first | exact g4 | omega) (show 0 ≤ kn from by first | exact g5 | omega) (show (cf 48).toInt = ns from by first | exact g6 | omega) (show (cf 38).toInt = nf from by first | exact g7 | omega) (show 0 ≤ nf from by first | exact g8 | omega) (show 0 ≤ (1 : Int) from by first | exact oz_19c3a41681 | omega) (show (1 : Int) ≤ 1 from by first | exact oz_f9181dc4bb | omega) htk (FsI.le (N' := (pf 13).toInt) hfs (by omega)) hwr (KnT.eq hkt (by omega)) (FnT.eq hft (by omega)) hks hfp han hec_p0 _) hT (pr := []) (pcs := [wdP cs h r g tf ta pf na ma wa cf ca ef ea xf xa]) hw (oX_call (P := (fun A U H => (oP A g U H))) (pr := []) oG_P hw hA hP) (px_recv hT hw 0 0 rfl rfl rfl) m12_217 m12_214 m12_216 ms_12_7 m1_21 q_Mpg_check ⟨show (4 * (d + 1) + 12) + 1 ≤ (4 * (d + 1) + 16) from (by first | exact oz_4ecef96d6e | omega), show 8 + (8 + 11) + (200 * (d + 1) + 420) ≤ (200 * (d + 1) + 560) from (by first | exact oz_4f0eb2123f | omega)⟩ hl.1 rfl (Nat.le_of_ble_eq_true rfl) d_Mpg_meet_143 ⟨Nat.le_of_ble_eq_true rfl, Nat.le_of_ble_eq_true rfl⟩) hw hA (fun v131 p130 H locs hp130 hw => ?_))
        obtain ⟨ma128, cf129, rfl, e132, e133, e134, e135, e136, e137, e138, e139, e140, e141, e142, e143, e144, e145, e146, e147⟩ := hp130
        have e132 : KpE cf cf129 := e132
        have hke := (hke).tr e132
        have hkz_e132 := e132.2
        have e133 : WrV cf129 (tf 6).toInt := e133
        have hwr := e133
        have hw0_e133 := hwr.1
        have e134 : (cf129 33).toInt = (cf 33).toInt := e134
        have e135 : (cf129 38).toInt = (cf 38).toInt := e135
        have e136 : (cf129 48).toInt = (cf 48).toInt := e136
        have e137 : (cf129 46).toInt = (cf 46).toInt := e137
        have e138 : (cf129 47).toInt = (cf 47).toInt := e138
        have e139 : (cf129 57).toInt = (cf 57).toInt := e139
        have e140 : Ann na ma0 ma128 := e140
        have han := e140
        have e141 : FrC lo hi ma ma128 := e141
        have hfc := hfc.tr e141 (by omega) (by omega)
        have e142 : 0 ≤ v131.toInt := e142
        have e143 : v131.toInt ≤ 4 := e143
        have e144 : NmJ ta ca na ma128 kn p0 v131.toInt := e144
        have hnm_p0 := e144
        have e145 : ZTy cf129 (Gk ta ca na ma0 ns ys nf) na ma128 lo hi p0 v131.toInt := e145
        have hzt_p0 := e145
        have e146 : ZNm cf129 (1 : Int) v131.toInt := e146
        have hty_p0 := ZTy.num hzt_p0 e146
        have e147 : RL_mp_check (d + 1) tf ta na ca p0 (1 : Int32) ma cf ma128 cf129 v131 := e147
        have e147X : RX_mp_check tf ta na ca p0 (1 : Int32) ma cf ma128 cf129 v131 := ⟨(d + 1), e147⟩
        have lv131 := Int32.le_toInt v131
        have uv131 := Int32.toInt_lt v131
        refine lv_pop S.x S.b d_Mpg_meet_146 rfl ?_
        refine lv_aload_n S.x S.b d_Mpg_meet_147 rfl (lv_at hl 0 rfl) ?_
        refine lv_iconst (v := 1) S.x S.b d_Mpg_meet_148 (by decide) ?_
        refine pP_46 S hT hw 0 rfl m10_37 rfl rfl rfl d_Mpg_meet_149 (ps' := [wdP cs h r g tf ta pf na ma128 wa (upd cf129 46 1) ca ef ea xf xa]) rfl (fun H locs hw => ?_)
        refine lv_goto (tgt := 180) S.x S.b d_Mpg_meet_152 (by decide) ?_
        first | exact px_vret S hr hlk hAe hw (Nat.le_of_ble_eq_true rfl) (Nat.le_of_ble_eq_true rfl) (⟨ma128, (upd cf129 46 1), rfl, (show KpE cf (upd cf129 46 1) from (KpE.u46 hke)), (show WrV (upd cf129 46 1) (tf 6).toInt from (WrV.u hwr (by decide) (by decide))), (show (cf129 33).toInt = (cf 33).toInt from e134), (show (cf129 38).toInt = (cf 38).toInt from e135), (show (cf129 48).toInt = (cf 48).toInt from e136), (show (cf129 57).toInt = (cf 57).toInt from e139), (show (cf129 47).toInt = 1 → (cf 47).toInt = 1 ∨ 1 ≤ (cf129 30).toInt from by omega), (show 0 ≤ (1 : Int) from oz_19c3a41681), (show (1 : Int) ≤ 1 from oz_f9181dc4bb), (show 0 ≤ (cf129 47).toInt from (oz_f3ebed1ad0 e138 g11)), (show (cf129 47).toInt ≤ 1 from (oz_878017becc e138 g12)), (show (1 : Int) = 0 → (cf 46).toInt = 0 from by omega), (show (cf129 47).toInt = 0 → (cf 47).toInt = 0 from (fun q9 => oz_2c3e9075ce e138 q9 g11)), (show Ann na ma0 ma128 from han), (show FrC lo hi ma ma128 from hfc), (show MtR (upd cf129 46 1) ta ca na ma0 kn (d + 1) p0 from (rko_no (Or.inl rfl))), (show R_mp_meet (RL_mp_meet d) tf ta na ca p0 ma cf ma128 (upd cf129 46 1) from (Exists.intro 1 (Or.inl ⟨rfl, z28, ez28, Or.inr (Or.inr (Or.inr (Or.inr (Or.inl ⟨c52, z98, ez98, z99, ez99, Or.inr ⟨nc100, ma128, cf129, v131, e147X, rfl, rfl⟩⟩))))⟩)))⟩) d_Mpg_meet_180 | (exact px_vret S hr hlk hAe hw (Nat.le_of_ble_eq_true rfl) (Nat.le_of_ble_eq_true rfl) (⟨ma128, (upd cf129 46 1), rfl, (show KpE cf (upd cf129 46 1) from (KpE.u46 hke)), (show WrV (upd cf129 46 1) (tf 6).toInt from (WrV.u hwr (by decide) (by decide))), (show (cf129 33).toInt = (cf 33).toInt from by first | exact e134 | omega), (show (cf129 38).toInt = (cf 38).toInt from by first | exact e135 | omega), (show (cf129 48).toInt = (cf 48).toInt from by first | exact e136 | omega), (show (cf129 57).toInt = (cf 57).toInt from by first | exact e139 | omega), (show (cf129 47).toInt = 1 → (cf 47).toInt = 1 ∨ 1 ≤ (cf129 30).toInt from by omega), (show 0 ≤ (1 : Int) from by first | exact oz_19c3a41681 | omega), (show (1 : Int) ≤ 1 from by first | exact oz_f9181dc4bb | omega), (show 0 ≤ (cf129 47).toInt from by first | exact oz_f3ebed1ad0 e138 g11 | omega), (show (cf129 47).toInt ≤ 1 from by first | exact oz_878017becc e138 g12 | omega), (show (1 : Int) = 0 → (cf 46).toInt = 0 from by omega), (show (cf129 47).toInt = 0 → (cf 47).toInt = 0 from by first | exact fun q9 => oz_2c3e9075ce e138 q9 g11 | omega), (show Ann na ma0 ma128 from han), (show FrC lo hi ma ma128 from hfc), (show MtR (upd cf129 46 1) ta ca na ma0 kn (d + 1) p0 from (rko_no (Or.inl rfl))), (show R_mp_meet (RL_mp_meet d) tf ta na ca p0 ma cf ma128 (upd cf129 46 1) from (Exists.intro 1 (Or.inl ⟨rfl, z28, ez28, Or.inr (Or.inr (Or.inr (Or.inr (Or.inl ⟨c52, z98, ez98, z99, ez99, Or.inr ⟨nc100, ma128, cf129, v131, e147X, rfl, rfl⟩⟩))))⟩)))⟩) d_Mpg_meet_180)
    · simp only [List.mem_cons, List.not_mem_nil, or_false] at c52
      refine lv_aload_n S.x S.b d_Mpg_meet_63 rfl (lv_at hl 0 rfl) ?_
      refine gP_17 S hT hw 0 rfl m10_1 d_Mpg_meet_64 ?_
      refine lv_iload_n S.x S.b d_Mpg_meet_67 rfl (lv_at hl 1 rfl) ?_
      refine px_iald S hT hw 0 13 (n := 2100) (f := (na 17)) rfl gp_17 (x := p0) (vp_in_iff.mpr (by first | exact oz_a7e05de1cd hrg.2.2 hrg.2.1 g1 g2 | (constructor <;> omega))) d_Mpg_meet_68 ?_
      refine lv_topi (fun z148 ez148 => ?_)
      have lz148 := Int32.le_toInt z148
      have uz148 := Int32.toInt_lt z148
      have hrr := EcV.k7 hec_p0 (by omega) ez148
      refine lv_istore_n (lv' := [(2, .int z148), (0, .ref h), (1, .int p0)]) S.x S.b d_Mpg_meet_69 rfl hl (by decide) rfl (fun ls hl => ?_)
      first | exact J70 ((hi - lo).toNat + 1) ma cf lo z148 _ _ ls (show KpE cf cf from hke) (show WrV cf (tf 6).toInt from hwr) (show (cf 33).toInt = (cf 33).toInt from rfl) (show (cf 38).toInt = (cf 38).toInt from rfl) (show (cf 48).toInt = (cf 48).toInt from rfl) (show (cf 57).toInt = (cf 57).toInt from rfl) (show (cf 47).toInt = 1 → (cf 47).toInt = 1 ∨ 1 ≤ (cf 30).toInt from by omega) (show 0 ≤ (cf 46).toInt from g9) (show (cf 46).toInt ≤ 1 from g10) (show 0 ≤ (cf 47).toInt from g11) (show (cf 47).toInt ≤ 1 from g12) (show (cf 46).toInt = 0 → (cf 46).toInt = 0 from (fun q9 => q9)) (show (cf 47).toInt = 0 → (cf 47).toInt = 0 from (fun q9 => q9)) (show Ann na ma0 ma from han) (show FrC lo hi ma ma from hfc) (show lo ≤ lo from oz_1cb5f934a5) (show lo ≤ hi from (oz_dec8fc8b31 hrg.1 hrg.2.1)) (show (na 14 p0.toNatClampNeg).toInt = 7 from by omega) (show RcN ta (tf 6).toInt na ma0 d p0 lo hi z148 from hrr) (show MtS cf ta ca na ma0 kn d (na 17 p0.toNatClampNeg) z148 from (fun _ _ => ⟨0, (ez148).symm⟩)) (show K_mp_meet_70 (RL_mp_meet d) tf ta na ca p0 ma cf ma cf z148 from (fun y_f0 y_f1 k hE => Exists.intro (k + 1) (Or.inl ⟨rfl, z28, ez28, Or.inr (Or.inr (Or.inr (Or.inr (Or.inr (Or.inl ⟨c52, z148, ez148, hE⟩)))))⟩))) (show hi - lo < ((((hi - lo).toNat + 1 : Nat) : Int) : Int) from oz_natlt) hw (lv_sub hl [1, 2, 0] rfl) | (exact J70 ((hi - lo).toNat + 1) ma cf lo z148 _ _ ls (show KpE cf cf from hke) (show WrV cf (tf 6).toInt from hwr) (show (cf 33).toInt = (cf 33).toInt from rfl) (show (cf 38).toInt = (cf 38).toInt from rfl) (show (cf 48).toInt = (cf 48).toInt from rfl) (show (cf 57).toInt = (cf 57).toInt from rfl) (show (cf 47).toInt = 1 → (cf 47).toInt = 1 ∨ 1 ≤ (cf 30).toInt from by omega) (show 0 ≤ (cf 46).toInt from by first | exact g9 | omega) (show (cf 46).toInt ≤ 1 from by first | exact g10 | omega) (show 0 ≤ (cf 47).toInt from by first | exact g11 | omega) (show (cf 47).toInt ≤ 1 from by first | exact g12 | omega) (show (cf 46).toInt = 0 → (cf 46).toInt = 0 from by first | exact fun q9 => q9 | omega) (show (cf 47).toInt = 0 → (cf 47).toInt = 0 from by first | exact fun q9 => q9 | omega) (show Ann na ma0 ma from han) (show FrC lo hi ma ma from hfc) (show lo ≤ lo from by first | exact oz_1cb5f934a5 | omega) (show lo ≤ hi from by first | exact oz_dec8fc8b31 hrg.1 hrg.2.1 | omega) (show (na 14 p0.toNatClampNeg).toInt = 7 from by omega) (show RcN ta (tf 6).toInt na ma0 d p0 lo hi z148 from hrr) (show MtS cf ta ca na ma0 kn d (na 17 p0.toNatClampNeg) z148 from (fun _ _ => ⟨0, (ez148).symm⟩)) (show K_mp_meet_70 (RL_mp_meet d) tf ta na ca p0 ma cf ma cf z148 from (fun y_f0 y_f1 k hE => Exists.intro (k + 1) (Or.inl ⟨rfl, z28, ez28, Or.inr (Or.inr (Or.inr (Or.inr (Or.inr (Or.inl ⟨c52, z148, ez148, hE⟩)))))⟩))) (show hi - lo < ((((hi - lo).toNat + 1 : Nat) : Int) : Int) from by first | exact oz_natlt | omega) hw (lv_sub hl [1, 2, 0] rfl))
    · simp only [List.mem_cons, List.not_mem_nil, or_false] at c52
      refine lv_aload_n S.x S.b d_Mpg_meet_92 rfl (lv_at hl 0 rfl) ?_
      refine lv_aload_n S.x S.b d_Mpg_meet_93 rfl (lv_at hl 0 rfl) ?_
      refine gP_17 S hT hw 0 rfl m10_1 d_Mpg_meet_94 ?_
      refine lv_iload_n S.x S.b d_Mpg_meet_97 rfl (lv_at hl 1 rfl) ?_
      refine px_iald S hT hw 0 13 (n := 2100) (f := (na 17)) rfl gp_17 (x := p0) (vp_in_iff.mpr (by first | exact oz_a7e05de1cd hrg.2.2 hrg.2.1 g1 g2 | (constructor <;> omega))) d_Mpg_meet_98 ?_
      refine lv_topi (fun z149 ez149 => ?_)
      have lz149 := Int32.le_toInt z149
      have uz149 := Int32.toInt_lt z149
      obtain ⟨m1, m2, hm1, hm2, hec_z149, hec_y8, hec_x8⟩ := EcV.k8 hec_p0 (by omega) ez149 rfl rfl; have hrg_z149 := EcV.rng hec_z149; have hrg_y8 := EcV.rng hec_y8; have hrg_x8 := EcV.rng hec_x8
      first | refine px_callv (pr := []) (px_runV (As := [.int z149]) (rest := []) S (hLM ma0 ys ns nf kn lo m1 h r g tf ta pf na wa ca ef ea xf xa ma cf z149 (show 0 ≤ lo from g0) (show m1 ≤ (pf 13).toInt from (oz_f3248735d7 g1 hrg_y8.1 hrg.2.1 hrg_y8.2.1 hrg_x8.1 hrg_x8.2.1)) (show (pf 13).toInt ≤ 2100 from g2) (show (tf 6).toInt ≤ 2049 from g3) (show (cf 33).toInt = kn from g4) (show 0 ≤ kn from g5) (show (cf 48).toInt = ns from g6) (show (cf 38).toInt = nf from g7) (show 0 ≤ nf from g8) (show 0 ≤ (cf 46).toInt from g9) (show (cf 46).toInt ≤ 1 from g10) (show 0 ≤ (cf 47).toInt from g11) (show (cf 47).toInt ≤ 1 from g12) htk (FsI.le (N' := (pf 13).toInt) hfs (by omega)) hwr (KnT.eq hkt (by omega)) (FnT.eq hft (by omega)) hks hfp han hec_z149 _) hT (pr := []) (pcs := [wdP cs h r g tf ta pf na ma wa cf ca ef ea xf xa]) hw (oX_call (P := (fun A U H => (oP A g U H))) (pr := []) oG_P hw hA hP) (px_recv hT hw 0 0 rfl rfl rfl) m13_1 m12_238 m13_0 ms_12_13 m1_21 q_Mpg_meet ⟨show (4 * d + 16) + 1 ≤ (4 * (d + 1) + 16) from (oz_aa90c3e733), show 8 + (3 + 11) + (200 * d + 560) ≤ (200 * (d + 1) + 560) from (oz_9ec61a0b30)⟩ hl.1 rfl (Nat.le_of_ble_eq_true rfl) d_Mpg_meet_99 ⟨Nat.le_of_ble_eq_true rfl, Nat.le_of_ble_eq_true rfl⟩) hw hA (fun p154 H locs hp154 hw => ?_) | (refine px_callv (pr := []) (px_runV (As := [.int z149]) (rest := []) S (hLM ma0 ys ns nf kn lo m1 h r g tf ta pf na wa ca ef ea xf xa ma cf z149 (show 0 ≤ lo from by first | exact g0 | omega) (show m1 ≤ (pf 13).toInt from by first | exact oz_f3248735d7 g1 hrg_y8.1 hrg.2.1 hrg_y8.2.1 hrg_x8.1 hrg_x8.2.1 | omega) (show (pf 13).toInt ≤ 2100 from by first | exact g2 | omega) (show (tf 6).toInt ≤ 2049 from by first | exact g3 | omega) (show (cf 33).toInt = kn from by first | exact g4 | omega) (show 0 ≤ kn from by first | exact g5 | omega) (show (cf 48).toInt = ns from by first | exact g6 | omega) (show (cf 38).toInt = nf from by first | exact g7 | omega) (show 0 ≤ nf from by first | exact g8 | omega) (show 0 ≤ (cf 46).toInt from by first | exact g9 | omega) (show (cf 46).toInt ≤ 1 from by first | exact g10 | omega) (show 0 ≤ (cf 47).toInt from by first | exact g11 | omega) (show (cf 47).toInt ≤ 1 from by first | exact g12 | omega) htk (FsI.le (N' := (pf 13).toInt) hfs (by omega)) hwr (KnT.eq hkt (by omega)) (FnT.eq hft (by omega)) hks hfp han hec_z149 _) hT (pr := []) (pcs := [wdP cs h r g tf ta pf na ma wa cf ca ef ea xf xa]) hw (oX_call (P := (fun A U H => (oP A g U H))) (pr := []) oG_P hw hA hP) (px_recv hT hw 0 0 rfl rfl rfl) m13_1 m12_238 m13_0 ms_12_13 m1_21 q_Mpg_meet ⟨show (4 * d + 16) + 1 ≤ (4 * (d + 1) + 16) from (by first | exact oz_aa90c3e733 | omega), show 8 + (3 + 11) + (200 * d + 560) ≤ (200 * (d + 1) + 560) from (by first | exact oz_9ec61a0b30 | omega)⟩ hl.1 rfl (Nat.le_of_ble_eq_true rfl) d_Mpg_meet_99 ⟨Nat.le_of_ble_eq_true rfl, Nat.le_of_ble_eq_true rfl⟩) hw hA (fun p154 H locs hp154 hw => ?_))
      obtain ⟨ma152, cf153, rfl, e156, e157, e158, e159, e160, e161, e162, e163, e164, e165, e166, e167, e168, e169, e170, e171, e172⟩ := hp154
      have e156 : KpE cf cf153 := e156
      have hke := (hke).tr e156
      have hkz_e156 := e156.2
      have e157 : WrV cf153 (tf 6).toInt := e157
      have hwr := e157
      have hw0_e157 := hwr.1
      have e158 : (cf153 33).toInt = (cf 33).toInt := e158
      have e159 : (cf153 38).toInt = (cf 38).toInt := e159
      have e160 : (cf153 48).toInt = (cf 48).toInt := e160
      have e161 : (cf153 57).toInt = (cf 57).toInt := e161
      have e162 : (cf153 47).toInt = 1 → (cf 47).toInt = 1 ∨ 1 ≤ (cf153 30).toInt := e162
      have e163 : 0 ≤ (cf153 46).toInt := e163
      have e164 : (cf153 46).toInt ≤ 1 := e164
      have e165 : 0 ≤ (cf153 47).toInt := e165
      have e166 : (cf153 47).toInt ≤ 1 := e166
      have e167 : (cf153 46).toInt = 0 → (cf 46).toInt = 0 := e167
      have e168 : (cf153 47).toInt = 0 → (cf 47).toInt = 0 := e168
      have e169 : Ann na ma0 ma152 := e169
      have han := e169
      have e170 : FrC lo m1 ma ma152 := e170
      have hfc := hfc.tr e170 (by omega) (by omega)
      have e171 : MtR cf153 ta ca na ma0 kn d z149 := e171
      have hmt_z149 := e171
      have e172 : RL_mp_meet d tf ta na ca z149 ma cf ma152 cf153 := e172
      refine lv_aload_n S.x S.b d_Mpg_meet_102 rfl (lv_at hl 0 rfl) ?_
      refine lv_aload_n S.x S.b d_Mpg_meet_103 rfl (lv_at hl 0 rfl) ?_
      refine gP_18 S hT hw 0 rfl m10_3 d_Mpg_meet_104 ?_
      refine lv_iload_n S.x S.b d_Mpg_meet_107 rfl (lv_at hl 1 rfl) ?_
      refine px_iald S hT hw 0 14 (n := 2100) (f := (ma152 18)) rfl gp_18 (x := p0) (vp_in_iff.mpr (by first | exact oz_18f227bc52 hrg_x8.2.1 hrg_x8.2.2 hrg.2.1 g1 g2 | (constructor <;> omega))) d_Mpg_meet_108 ?_
      refine lv_topi (fun z173 ez173 => ?_)
      have lz173 := Int32.le_toInt z173
      have uz173 := Int32.toInt_lt z173
      have ha_z173 : z173 = ma0 18 p0.toNatClampNeg := ez173.trans (Ann.b18 han (by omega)); have hec_z173 : EcV ta (tf 6).toInt na ma0 d m1 m2 z173 := (by rw [ha_z173]; exact hec_y8)
      first | refine px_callv (pr := []) (px_runV (As := [.int z173]) (rest := []) S (hLM ma0 ys ns nf kn m1 m2 h r g tf ta pf na wa ca ef ea xf xa ma152 cf153 z173 (show 0 ≤ m1 from (oz_0a7da9c4d6 hrg_z149.2.1 hrg_z149.2.2)) (show m2 ≤ (pf 13).toInt from (oz_dc2da80b19 g1 hrg_x8.1 hrg.2.1 hrg_x8.2.1)) (show (pf 13).toInt ≤ 2100 from g2) (show (tf 6).toInt ≤ 2049 from g3) (show (cf153 33).toInt = kn from (oz_1687f4cc65 g4 e158)) (show 0 ≤ kn from g5) (show (cf153 48).toInt = ns from (oz_1687f4cc65 g6 e160)) (show (cf153 38).toInt = nf from (oz_1687f4cc65 g7 e159)) (show 0 ≤ nf from g8) (show 0 ≤ (cf153 46).toInt from e163) (show (cf153 46).toInt ≤ 1 from e164) (show 0 ≤ (cf153 47).toInt from e165) (show (cf153 47).toInt ≤ 1 from e166) htk (FsI.le (N' := (pf 13).toInt) hfs (by omega)) hwr (KnT.eq hkt (by omega)) (FnT.eq hft (by omega)) hks hfp han hec_z173 _) hT (pr := []) (pcs := [wdP cs h r g tf ta pf na ma152 wa cf153 ca ef ea xf xa]) hw (oX_call (P := (fun A U H => (oP A g U H))) (pr := []) oG_P hw hA hP) (px_recv hT hw 0 0 rfl rfl rfl) m13_1 m12_238 m13_0 ms_12_13 m1_21 q_Mpg_meet ⟨show (4 * d + 16) + 1 ≤ (4 * (d + 1) + 16) from (oz_aa90c3e733), show 8 + (3 + 11) + (200 * d + 560) ≤ (200 * (d + 1) + 560) from (oz_9ec61a0b30)⟩ hl.1 rfl (Nat.le_of_ble_eq_true rfl) d_Mpg_meet_109 ⟨Nat.le_of_ble_eq_true rfl, Nat.le_of_ble_eq_true rfl⟩) hw hA (fun p178 H locs hp178 hw => ?_) | (refine px_callv (pr := []) (px_runV (As := [.int z173]) (rest := []) S (hLM ma0 ys ns nf kn m1 m2 h r g tf ta pf na wa ca ef ea xf xa ma152 cf153 z173 (show 0 ≤ m1 from by first | exact oz_0a7da9c4d6 hrg_z149.2.1 hrg_z149.2.2 | omega) (show m2 ≤ (pf 13).toInt from by first | exact oz_dc2da80b19 g1 hrg_x8.1 hrg.2.1 hrg_x8.2.1 | omega) (show (pf 13).toInt ≤ 2100 from by first | exact g2 | omega) (show (tf 6).toInt ≤ 2049 from by first | exact g3 | omega) (show (cf153 33).toInt = kn from by first | exact oz_1687f4cc65 g4 e158 | omega) (show 0 ≤ kn from by first | exact g5 | omega) (show (cf153 48).toInt = ns from by first | exact oz_1687f4cc65 g6 e160 | omega) (show (cf153 38).toInt = nf from by first | exact oz_1687f4cc65 g7 e159 | omega) (show 0 ≤ nf from by first | exact g8 | omega) (show 0 ≤ (cf153 46).toInt from by first | exact e163 | omega) (show (cf153 46).toInt ≤ 1 from by first | exact e164 | omega) (show 0 ≤ (cf153 47).toInt from by first | exact e165 | omega) (show (cf153 47).toInt ≤ 1 from by first | exact e166 | omega) htk (FsI.le (N' := (pf 13).toInt) hfs (by omega)) hwr (KnT.eq hkt (by omega)) (FnT.eq hft (by omega)) hks hfp han hec_z173 _) hT (pr := []) (pcs := [wdP cs h r g tf ta pf na ma152 wa cf153 ca ef ea xf xa]) hw (oX_call (P := (fun A U H => (oP A g U H))) (pr := []) oG_P hw hA hP) (px_recv hT hw 0 0 rfl rfl rfl) m13_1 m12_238 m13_0 ms_12_13 m1_21 q_Mpg_meet ⟨show (4 * d + 16) + 1 ≤ (4 * (d + 1) + 16) from (by first | exact oz_aa90c3e733 | omega), show 8 + (3 + 11) + (200 * d + 560) ≤ (200 * (d + 1) + 560) from (by first | exact oz_9ec61a0b30 | omega)⟩ hl.1 rfl (Nat.le_of_ble_eq_true rfl) d_Mpg_meet_109 ⟨Nat.le_of_ble_eq_true rfl, Nat.le_of_ble_eq_true rfl⟩) hw hA (fun p178 H locs hp178 hw => ?_))
      obtain ⟨ma176, cf177, rfl, e180, e181, e182, e183, e184, e185, e186, e187, e188, e189, e190, e191, e192, e193, e194, e195, e196⟩ := hp178
      have e180 : KpE cf153 cf177 := e180
      have hke := (hke).tr e180
      have hkz_e180 := e180.2
      have e181 : WrV cf177 (tf 6).toInt := e181
      have hwr := e181
      have hw0_e181 := hwr.1
      have e182 : (cf177 33).toInt = (cf153 33).toInt := e182
      have e183 : (cf177 38).toInt = (cf153 38).toInt := e183
      have e184 : (cf177 48).toInt = (cf153 48).toInt := e184
      have e185 : (cf177 57).toInt = (cf153 57).toInt := e185
      have e186 : (cf177 47).toInt = 1 → (cf153 47).toInt = 1 ∨ 1 ≤ (cf177 30).toInt := e186
      have e187 : 0 ≤ (cf177 46).toInt := e187
      have e188 : (cf177 46).toInt ≤ 1 := e188
      have e189 : 0 ≤ (cf177 47).toInt := e189
      have e190 : (cf177 47).toInt ≤ 1 := e190
      have e191 : (cf177 46).toInt = 0 → (cf153 46).toInt = 0 := e191
      have e192 : (cf177 47).toInt = 0 → (cf153 47).toInt = 0 := e192
      have e193 : Ann na ma0 ma176 := e193
      have han := e193
      have e194 : FrC m1 m2 ma152 ma176 := e194
      have hfc := hfc.tr e194 (by omega) (by omega)
      have hmt_z149 := RkO.tr hmt_z149 (by omega) (by omega)
      have e195 : MtR cf177 ta ca na ma0 kn d z173 := e195
      have hmt_z173 := e195
      have e196 : RL_mp_meet d tf ta na ca z173 ma152 cf153 ma176 cf177 := e196
      refine lv_aload_n S.x S.b d_Mpg_meet_112 rfl (lv_at hl 0 rfl) ?_
      refine lv_aload_n S.x S.b d_Mpg_meet_113 rfl (lv_at hl 0 rfl) ?_
      refine gP_19 S hT hw 0 rfl m10_5 d_Mpg_meet_114 ?_
      refine lv_iload_n S.x S.b d_Mpg_meet_117 rfl (lv_at hl 1 rfl) ?_
      refine px_iald S hT hw 0 15 (n := 2100) (f := (ma176 19)) rfl gp_19 (x := p0) (vp_in_iff.mpr (by first | exact oz_18f227bc52 hrg_x8.2.1 hrg_x8.2.2 hrg.2.1 g1 g2 | (constructor <;> omega))) d_Mpg_meet_118 ?_
      refine lv_topi (fun z197 ez197 => ?_)
      have lz197 := Int32.le_toInt z197
      have uz197 := Int32.toInt_lt z197
      have ha_z197 : z197 = ma0 19 p0.toNatClampNeg := ez197.trans (Ann.b19 han (by omega)); have hec_z197 : EcV ta (tf 6).toInt na ma0 d m2 p0.toInt z197 := (by rw [ha_z197]; exact hec_x8)
      first | refine px_callv (pr := []) (px_runV (As := [.int z197]) (rest := []) S (hLM ma0 ys ns nf kn m2 p0.toInt h r g tf ta pf na wa ca ef ea xf xa ma176 cf177 z197 (show 0 ≤ m2 from (oz_0a7da9c4d6 hrg_y8.2.1 hrg_y8.2.2)) (show p0.toInt ≤ (pf 13).toInt from (oz_6996e0781a g1 hrg.2.1)) (show (pf 13).toInt ≤ 2100 from g2) (show (tf 6).toInt ≤ 2049 from g3) (show (cf177 33).toInt = kn from (oz_e13fc83238 g4 e182 e158)) (show 0 ≤ kn from g5) (show (cf177 48).toInt = ns from (oz_e13fc83238 g6 e184 e160)) (show (cf177 38).toInt = nf from (oz_e13fc83238 g7 e183 e159)) (show 0 ≤ nf from g8) (show 0 ≤ (cf177 46).toInt from e187) (show (cf177 46).toInt ≤ 1 from e188) (show 0 ≤ (cf177 47).toInt from e189) (show (cf177 47).toInt ≤ 1 from e190) htk (FsI.le (N' := (pf 13).toInt) hfs (by omega)) hwr (KnT.eq hkt (by omega)) (FnT.eq hft (by omega)) hks hfp han hec_z197 _) hT (pr := []) (pcs := [wdP cs h r g tf ta pf na ma176 wa cf177 ca ef ea xf xa]) hw (oX_call (P := (fun A U H => (oP A g U H))) (pr := []) oG_P hw hA hP) (px_recv hT hw 0 0 rfl rfl rfl) m13_1 m12_238 m13_0 ms_12_13 m1_21 q_Mpg_meet ⟨show (4 * d + 16) + 1 ≤ (4 * (d + 1) + 16) from (oz_aa90c3e733), show 8 + (3 + 11) + (200 * d + 560) ≤ (200 * (d + 1) + 560) from (oz_9ec61a0b30)⟩ hl.1 rfl (Nat.le_of_ble_eq_true rfl) d_Mpg_meet_119 ⟨Nat.le_of_ble_eq_true rfl, Nat.le_of_ble_eq_true rfl⟩) hw hA (fun p202 H locs hp202 hw => ?_) | (refine px_callv (pr := []) (px_runV (As := [.int z197]) (rest := []) S (hLM ma0 ys ns nf kn m2 p0.toInt h r g tf ta pf na wa ca ef ea xf xa ma176 cf177 z197 (show 0 ≤ m2 from by first | exact oz_0a7da9c4d6 hrg_y8.2.1 hrg_y8.2.2 | omega) (show p0.toInt ≤ (pf 13).toInt from by first | exact oz_6996e0781a g1 hrg.2.1 | omega) (show (pf 13).toInt ≤ 2100 from by first | exact g2 | omega) (show (tf 6).toInt ≤ 2049 from by first | exact g3 | omega) (show (cf177 33).toInt = kn from by first | exact oz_e13fc83238 g4 e182 e158 | omega) (show 0 ≤ kn from by first | exact g5 | omega) (show (cf177 48).toInt = ns from by first | exact oz_e13fc83238 g6 e184 e160 | omega) (show (cf177 38).toInt = nf from by first | exact oz_e13fc83238 g7 e183 e159 | omega) (show 0 ≤ nf from by first | exact g8 | omega) (show 0 ≤ (cf177 46).toInt from by first | exact e187 | omega) (show (cf177 46).toInt ≤ 1 from by first | exact e188 | omega) (show 0 ≤ (cf177 47).toInt from by first | exact e189 | omega) (show (cf177 47).toInt ≤ 1 from by first | exact e190 | omega) htk (FsI.le (N' := (pf 13).toInt) hfs (by omega)) hwr (KnT.eq hkt (by omega)) (FnT.eq hft (by omega)) hks hfp han hec_z197 _) hT (pr := []) (pcs := [wdP cs h r g tf ta pf na ma176 wa cf177 ca ef ea xf xa]) hw (oX_call (P := (fun A U H => (oP A g U H))) (pr := []) oG_P hw hA hP) (px_recv hT hw 0 0 rfl rfl rfl) m13_1 m12_238 m13_0 ms_12_13 m1_21 q_Mpg_meet ⟨show (4 * d + 16) + 1 ≤ (4 * (d + 1) + 16) from (by first | exact oz_aa90c3e733 | omega), show 8 + (3 + 11) + (200 * d + 560) ≤ (200 * (d + 1) + 560) from (by first | exact oz_9ec61a0b30 | omega)⟩ hl.1 rfl (Nat.le_of_ble_eq_true rfl) d_Mpg_meet_119 ⟨Nat.le_of_ble_eq_true rfl, Nat.le_of_ble_eq_true rfl⟩) hw hA (fun p202 H locs hp202 hw => ?_))
      obtain ⟨ma200, cf201, rfl, e204, e205, e206, e207, e208, e209, e210, e211, e212, e213, e214, e215, e216, e217, e218, e219, e220⟩ := hp202
      have e204 : KpE cf177 cf201 := e204
      have hke := (hke).tr e204
      have hkz_e204 := e204.2
      have e205 : WrV cf201 (tf 6).toInt := e205
      have hwr := e205
      have hw0_e205 := hwr.1
      have e206 : (cf201 33).toInt = (cf177 33).toInt := e206
      have e207 : (cf201 38).toInt = (cf177 38).toInt := e207
      have e208 : (cf201 48).toInt = (cf177 48).toInt := e208
      have e209 : (cf201 57).toInt = (cf177 57).toInt := e209
      have e210 : (cf201 47).toInt = 1 → (cf177 47).toInt = 1 ∨ 1 ≤ (cf201 30).toInt := e210
      have e211 : 0 ≤ (cf201 46).toInt := e211
      have e212 : (cf201 46).toInt ≤ 1 := e212
      have e213 : 0 ≤ (cf201 47).toInt := e213
      have e214 : (cf201 47).toInt ≤ 1 := e214
      have e215 : (cf201 46).toInt = 0 → (cf177 46).toInt = 0 := e215
      have e216 : (cf201 47).toInt = 0 → (cf177 47).toInt = 0 := e216
      have e217 : Ann na ma0 ma200 := e217
      have han := e217
      have e218 : FrC m2 p0.toInt ma176 ma200 := e218
      have hfc := hfc.tr e218 (by omega) (by omega)
      have hmt_z149 := RkO.tr hmt_z149 (by omega) (by omega)
      have hmt_z173 := RkO.tr hmt_z173 (by omega) (by omega)
      have e219 : MtR cf201 ta ca na ma0 kn d z197 := e219
      have hmt_z197 := e219
      have e220 : RL_mp_meet d tf ta na ca z197 ma176 cf177 ma200 cf201 := e220
      refine lv_goto (tgt := 180) S.x S.b d_Mpg_meet_122 (by decide) ?_
      first | exact px_vret S hr hlk hAe hw (Nat.le_of_ble_eq_true rfl) (Nat.le_of_ble_eq_true rfl) (⟨ma200, cf201, rfl, (show KpE cf cf201 from hke), (show WrV cf201 (tf 6).toInt from hwr), (show (cf201 33).toInt = (cf 33).toInt from (oz_e13fc83238 e158 e206 e182)), (show (cf201 38).toInt = (cf 38).toInt from (oz_e13fc83238 e159 e207 e183)), (show (cf201 48).toInt = (cf 48).toInt from (oz_e13fc83238 e160 e208 e184)), (show (cf201 57).toInt = (cf 57).toInt from (oz_e13fc83238 e161 e209 e185)), (show (cf201 47).toInt = 1 → (cf 47).toInt = 1 ∨ 1 ≤ (cf201 30).toInt from by omega), (show 0 ≤ (cf201 46).toInt from e211), (show (cf201 46).toInt ≤ 1 from e212), (show 0 ≤ (cf201 47).toInt from e213), (show (cf201 47).toInt ≤ 1 from e214), (show (cf201 46).toInt = 0 → (cf 46).toInt = 0 from by omega), (show (cf201 47).toInt = 0 → (cf 47).toInt = 0 from by omega), (show Ann na ma0 ma200 from han), (show FrC lo hi ma ma200 from hfc), (show MtR cf201 ta ca na ma0 kn (d + 1) p0 from (fun a9 b9 => Or.inr (Or.inr (Or.inr (Or.inr ⟨by omega, by rw [← ez149]; exact hmt_z149 a9 b9, by rw [← ha_z173]; exact hmt_z173 a9 b9, by rw [← ha_z197]; exact hmt_z197 a9 b9⟩))))), (show R_mp_meet (RL_mp_meet d) tf ta na ca p0 ma cf ma200 cf201 from (Exists.intro 1 (Or.inl ⟨rfl, z28, ez28, Or.inr (Or.inr (Or.inr (Or.inr (Or.inr (Or.inr ⟨c52, z149, ez149, ma152, cf153, e172, z173, ez173, ma176, cf177, e196, z197, ez197, ma200, cf201, e220, rfl, rfl⟩)))))⟩)))⟩) d_Mpg_meet_180 | (exact px_vret S hr hlk hAe hw (Nat.le_of_ble_eq_true rfl) (Nat.le_of_ble_eq_true rfl) (⟨ma200, cf201, rfl, (show KpE cf cf201 from hke), (show WrV cf201 (tf 6).toInt from hwr), (show (cf201 33).toInt = (cf 33).toInt from by first | exact oz_e13fc83238 e158 e206 e182 | omega), (show (cf201 38).toInt = (cf 38).toInt from by first | exact oz_e13fc83238 e159 e207 e183 | omega), (show (cf201 48).toInt = (cf 48).toInt from by first | exact oz_e13fc83238 e160 e208 e184 | omega), (show (cf201 57).toInt = (cf 57).toInt from by first | exact oz_e13fc83238 e161 e209 e185 | omega), (show (cf201 47).toInt = 1 → (cf 47).toInt = 1 ∨ 1 ≤ (cf201 30).toInt from by omega), (show 0 ≤ (cf201 46).toInt from by first | exact e211 | omega), (show (cf201 46).toInt ≤ 1 from by first | exact e212 | omega), (show 0 ≤ (cf201 47).toInt from by first | exact e213 | omega), (show (cf201 47).toInt ≤ 1 from by first | exact e214 | omega), (show (cf201 46).toInt = 0 → (cf 46).toInt = 0 from by omega), (show (cf201 47).toInt = 0 → (cf 47).toInt = 0 from by omega), (show Ann na ma0 ma200 from han), (show FrC lo hi ma ma200 from hfc), (show MtR cf201 ta ca na ma0 kn (d + 1) p0 from (fun a9 b9 => Or.inr (Or.inr (Or.inr (Or.inr ⟨by omega, by rw [← ez149]; exact hmt_z149 a9 b9, by rw [← ha_z173]; exact hmt_z173 a9 b9, by rw [← ha_z197]; exact hmt_z197 a9 b9⟩))))), (show R_mp_meet (RL_mp_meet d) tf ta na ca p0 ma cf ma200 cf201 from (Exists.intro 1 (Or.inl ⟨rfl, z28, ez28, Or.inr (Or.inr (Or.inr (Or.inr (Or.inr (Or.inr ⟨c52, z149, ez149, ma152, cf153, e172, z173, ez173, ma176, cf177, e196, z197, ez197, ma200, cf201, e220, rfl, rfl⟩)))))⟩)))⟩) d_Mpg_meet_180)
theorem mtc_all (l : Launch) (D : va_G) (cs : Nat → ClassId) : ∀ d : Nat, MtC l D cs d := by
  intro d
  induction d with
  | zero => intro ma0 ys ns nf kn lo hi h r g tf ta pf na wa ca ef ea xf xa ma cf p0 g0 g1 g2 g3 g4 g5 g6 g7 g8 g9 g10 g11 g12 htk hfs hwr hkt hft hks hfp han hec; exact (ec_0 hec).elim
  | succ d ih => intro ma0 ys ns nf kn lo hi h r g tf ta pf na wa ca ef ea xf xa ma cf p0 g0 g1 g2 g3 g4 g5 g6 g7 g8 g9 g10 g11 g12 htk hfs hwr hkt hft hks hfp han hec; exact c_mp_meet l D cs ma0 ys ns nf kn d lo hi h r g tf ta pf na wa ca ef ea xf xa ma cf p0 g0 g1 g2 g3 g4 g5 g6 g7 g8 g9 g10 g11 g12 htk hfs hwr hkt hft hks hfp han hec ih
set_option maxHeartbeats 4000000 in
set_option maxRecDepth 100000 in
theorem c_S_meet (l : Launch) (D : va_G) (cs : Nat → ClassId) (ma0 : Nat → Nat → Int32) (ys : Int) (ns : Int) (nf : Int) (kn : Int) (d : Nat) (lo : Int) (hi : Int) (h : Nat) (r : Nat → Nat) (g : Nat → Nat → Option Nat) (tf : Nat → Int32) (ta : Nat → Nat → Int32) (pf : Nat → Int32) (na : Nat → Nat → Int32) (wa : Nat → Nat → Int32) (ca : Nat → Nat → Int32) (ef : Nat → Int32) (ea : Nat → Nat → Int32) (xf : Nat → Int32) (xa : Nat → Nat → Int32) (ma : Nat → Nat → Int32) (cf : Nat → Int32) (p0 : Int32)  (g0 : 0 ≤ lo) (g1 : hi ≤ (pf 13).toInt) (g2 : (pf 13).toInt ≤ 2100) (g3 : (tf 6).toInt ≤ 2049) (g4 : (cf 33).toInt = kn) (g5 : 0 ≤ kn) (g6 : (cf 48).toInt = ns) (g7 : (cf 38).toInt = nf) (g8 : 0 ≤ nf) (g9 : 0 ≤ (cf 46).toInt) (g10 : (cf 46).toInt ≤ 1) (g11 : 0 ≤ (cf 47).toInt) (g12 : (cf 47).toInt ≤ 1) (htk : TkI tf ta) (hfs : FsI (tf 6).toInt (pf 13).toInt na) (hwr : WrV cf (tf 6).toInt) (hkt : KnT (tf 6).toInt ca (cf 33).toInt) (hft : FnT (tf 6).toInt na ca (cf 38).toInt) (hks : KnS ca kn ns ys) (hfp : FnP na ca nf) (han : Ann na ma0 ma) (hec : EcV ta (tf 6).toInt na ma0 d lo hi p0) : MetV l y_Mpg_meet b_Mpg_meet 3 D cs (4 * d + 16) (200 * d + 560) (0) (0) [.ref h, .int p0] [wdP cs h r g tf ta pf na ma wa cf ca ef ea xf xa] (oX (fun A U H => (oP A g U H)) [wdP cs h r g tf ta pf na ma wa cf ca ef ea xf xa]) (fun ps => ∃ (ma' : Nat → Nat → Int32) (cf' : Nat → Int32), (ps = [wdP cs h r g tf ta pf na ma' wa cf' ca ef ea xf xa]) ∧ (KpE cf cf') ∧ (WrV cf' (tf 6).toInt) ∧ ((cf' 33).toInt = (cf 33).toInt) ∧ ((cf' 38).toInt = (cf 38).toInt) ∧ ((cf' 48).toInt = (cf 48).toInt) ∧ ((cf' 57).toInt = (cf 57).toInt) ∧ ((cf' 47).toInt = 1 → (cf 47).toInt = 1 ∨ 1 ≤ (cf' 30).toInt) ∧ (0 ≤ (cf' 46).toInt) ∧ ((cf' 46).toInt ≤ 1) ∧ (0 ≤ (cf' 47).toInt) ∧ ((cf' 47).toInt ≤ 1) ∧ ((cf' 46).toInt = 0 → (cf 46).toInt = 0) ∧ ((cf' 47).toInt = 0 → (cf 47).toInt = 0) ∧ (Ann na ma0 ma') ∧ (FrC lo hi ma ma') ∧ (MtR cf' ta ca na ma0 kn d p0) ∧ (RL_mp_meet d tf ta na ca p0 ma cf ma' cf')) := by
  exact mtc_all l D cs d ma0 ys ns nf kn lo hi h r g tf ta pf na wa ca ef ea xf xa ma cf p0 g0 g1 g2 g3 g4 g5 g6 g7 g8 g9 g10 g11 g12 htk hfs hwr hkt hft hks hfp han hec
