theorem oz_2c3e9075ce {a0 a1 : Int} (h0 : a1 = a0) (h1 : a1 = 0) (h2 : 0 ≤ a0) : a0 = 0 := by omega
theorem oz_916d756328 {a0 a1 a2 : Int} (h0 : a0 = a1) (h1 : a1 = a2) (h2 : a2 ≤ 1) : a0 ≤ 1 := by omega
theorem oz_e6e07d6050 {a0 a1 a2 : Int} (h0 : a1 = a0) (h1 : a2 = a1) (h2 : a2 = 0) (h3 : 0 ≤ a0) : a0 = 0 := by omega
theorem oz_f3248735d7 {a0 a1 a2 a3 a4 a5 a6 : Int} (h0 : a2 ≤ a1) (h1 : a0 ≤ a3) (h2 : a4 < a2) (h3 : a3 < a5) (h4 : a5 ≤ a6) (h5 : a6 < (a4)) : a0 ≤ a1 := by omega
theorem m10_38 : Cond.fieldLink "HomeSystemModel$Program" 606 "HomeSystemModel$Program" "openK" "Z" ∈ AL := AL_10 (List.mem_of_getElem? (i := 38) rfl) rfl
theorem m12_238 : Cond.methodLink "HomeSystemModel$Program" 599 ⟨"HomeSystemModel$Program", "meet", "(I)V"⟩ ∈ AL := AL_12 (List.mem_of_getElem? (i := 238) rfl) rfl
theorem m13_1 : Cond.code ⟨"HomeSystemModel$Program", "meet", "(I)V"⟩ prog_16_method_81_code 3 (Option.none : Option Jvm.ClassFile.FieldType) ∈ AL := AL_13 (List.mem_of_getElem? (i := 1) rfl) rfl
theorem ms_12_13 : Cond.selects "HomeSystemModel$Program" ⟨"HomeSystemModel$Program", "meet", "(I)V"⟩ ⟨"HomeSystemModel$Program", "meet", "(I)V"⟩ ∈ AL := AL_p (q := (⟨"HomeSystemModel$Program", "meet", "(I)V"⟩, 69)) (by unfold lw_privs; exact List.mem_append_right _ (List.mem_append_right _ (List.mem_append_right _ (List.mem_append_right _ (List.mem_append_right _ (List.mem_append_right _ (List.mem_append_right _ (List.mem_append_right _ (List.mem_append_right _ (List.mem_append_right _ (List.mem_append_right _ (List.mem_append_left _ (List.mem_of_getElem? (i := 13) rfl)))))))))))))
theorem m13_0 : Cond.instanceMethod ⟨"HomeSystemModel$Program", "meet", "(I)V"⟩ ∈ AL := AL_13 (List.mem_of_getElem? (i := 0) rfl) rfl
theorem m13_2 : Cond.methodLink "HomeSystemModel$Program" 596 ⟨"HomeSystemModel$Program", "meetName", "(I)V"⟩ ∈ AL := AL_13 (List.mem_of_getElem? (i := 2) rfl) rfl
theorem m13_5 : Cond.code ⟨"HomeSystemModel$Program", "meetName", "(I)V"⟩ prog_16_method_82_code 3 (Option.none : Option Jvm.ClassFile.FieldType) ∈ AL := AL_13 (List.mem_of_getElem? (i := 5) rfl) rfl
theorem ms_12_14 : Cond.selects "HomeSystemModel$Program" ⟨"HomeSystemModel$Program", "meetName", "(I)V"⟩ ⟨"HomeSystemModel$Program", "meetName", "(I)V"⟩ ∈ AL := AL_p (q := (⟨"HomeSystemModel$Program", "meetName", "(I)V"⟩, 69)) (by unfold lw_privs; exact List.mem_append_right _ (List.mem_append_right _ (List.mem_append_right _ (List.mem_append_right _ (List.mem_append_right _ (List.mem_append_right _ (List.mem_append_right _ (List.mem_append_right _ (List.mem_append_right _ (List.mem_append_right _ (List.mem_append_right _ (List.mem_append_left _ (List.mem_of_getElem? (i := 14) rfl)))))))))))))
theorem m13_4 : Cond.instanceMethod ⟨"HomeSystemModel$Program", "meetName", "(I)V"⟩ ∈ AL := AL_13 (List.mem_of_getElem? (i := 4) rfl) rfl
/-! CONSTANTS -/
def RwI (na : Nat → Nat → Int32) (P : Int32 → Prop) : Nat → Int32 → Prop
  | 0 => fun e => e.toInt < 0
  | m + 1 => fun e => e.toInt < 0 ∨ (P e ∧ RwI na P m (na 21 e.toNatClampNeg))
def SgI (na : Nat → Nat → Int32) (P : Int32 → Prop) : Nat → Int32 → Int32 → Prop
  | 0 => fun z k => z = k
  | m + 1 => fun z k => P z ∧ SgI na P m (na 21 z.toNatClampNeg) k
theorem SgI.app {na : Nat → Nat → Int32} {P : Int32 → Prop} : ∀ {m : Nat} {z k k' : Int32}, SgI na P m z k → P k → k' = na 21 k.toNatClampNeg → SgI na P (m + 1) z k'
  | 0, z, k, k', g, h1, e => by
    have g : z = k := g
    subst g
    exact ⟨h1, e.symm⟩
  | _ + 1, _, _, _, g, h1, e => ⟨g.1, SgI.app g.2 h1 e⟩
theorem SgI.row {na : Nat → Nat → Int32} {P : Int32 → Prop} : ∀ {m : Nat} {z k : Int32}, SgI na P m z k → k.toInt < 0 → RwI na P m z
  | 0, z, k, g, h => by
    have g : z = k := g
    subst g; exact h
  | _ + 1, _, _, g, h => Or.inr ⟨g.1, SgI.row g.2 h⟩
/-- what can be reckoned -/
def Rk (ta ca na ma0 : Nat → Nat → Int32) (kn : Int) : Nat → Int32 → Prop
  | 0 => fun _ => False
  | d + 1 => fun n => (na 14 n.toNatClampNeg).toInt = 1 ∨ ((na 14 n.toNatClampNeg).toInt = 2 ∧ ∃ j : Int, 0 ≤ j ∧ FndV ta ca kn (na 15 n.toNatClampNeg) 0 j) ∨ ((na 14 n.toNatClampNeg).toInt = 5 ∧ Rk ta ca na ma0 kn d (na 17 n.toNatClampNeg)) ∨
      ((na 14 n.toNatClampNeg).toInt = 7 ∧ ∃ m, RwI na (Rk ta ca na ma0 kn d) m (na 17 n.toNatClampNeg)) ∨ ((na 14 n.toNatClampNeg).toInt = 8 ∧ Rk ta ca na ma0 kn d (na 17 n.toNatClampNeg) ∧ Rk ta ca na ma0 kn d (ma0 18 n.toNatClampNeg) ∧ Rk ta ca na ma0 kn d (ma0 19 n.toNatClampNeg))
def RkO (cf : Nat → Int32) (P : Prop) : Prop := (cf 46).toInt = 0 → (cf 47).toInt = 0 → P
def MtR (cf : Nat → Int32) (ta ca na ma0 : Nat → Nat → Int32) (kn : Int) (d : Nat) (n : Int32) : Prop := RkO cf (Rk ta ca na ma0 kn d n)
def MtF (cf : Nat → Int32) (ta ca na : Nat → Nat → Int32) (kn : Int) (n : Int32) : Prop := RkO cf (∃ j : Int, 0 ≤ j ∧ FndV ta ca kn (na 15 n.toNatClampNeg) 0 j)
def MtS (cf : Nat → Int32) (ta ca na ma0 : Nat → Nat → Int32) (kn : Int) (d : Nat) (z k : Int32) : Prop := RkO cf (∃ m, SgI na (Rk ta ca na ma0 kn d) m z k)
theorem rko_no {cf : Nat → Int32} {P : Prop} (h : (cf 46).toInt = 1 ∨ (cf 47).toInt = 1) : RkO cf P := fun a b => absurd h (by first | with_reducible rfl | with_reducible assumption | omega)
theorem RkO.tr {cf cf' : Nat → Int32} {P : Prop} (h : RkO cf P) (a : (cf' 46).toInt = 0 → (cf 46).toInt = 0) (b : (cf' 47).toInt = 0 → (cf 47).toInt = 0) : RkO cf' P := fun x y => h (a x) (b y)
section RK
variable {ta ca na ma0 ma : Nat → Nat → Int32} {kn c lo hi : Int} {d : Nat} {n z : Int32} {cf : Nat → Int32}
theorem MtS.s {k k' : Int32} (h : MtS cf ta ca na ma0 kn d z k) (q : MtR cf ta ca na ma0 kn d k) (e : k' = na 21 k.toNatClampNeg) : MtS cf ta ca na ma0 kn d z k' := fun a b => by
  obtain ⟨m, h⟩ := h a b
  exact ⟨m + 1, h.app (q a b) e⟩
theorem Rk.f2 (h : Rk ta ca na ma0 kn (d + 1) n) (k : (na 14 n.toNatClampNeg).toInt = 2) {v : Int32} {n' : Int} (e : z = na 15 n.toNatClampNeg) (f : FndV ta ca n' z 0 v.toInt) (en : n' = kn) : 0 ≤ v.toInt := by
  subst en
  rcases h with h | ⟨-, j, h1, h2⟩ | ⟨h, -⟩ | ⟨h, -⟩ | ⟨h, -⟩
  · omega
  · rw [← e] at h2; have := h2.uniq f; omega
  · omega
  · omega
  · omega
theorem Rk.f5 (h : Rk ta ca na ma0 kn (d + 1) n) (k : (na 14 n.toNatClampNeg).toInt = 5) (e : z = na 17 n.toNatClampNeg) : Rk ta ca na ma0 kn d z := by
  rcases h with h | ⟨h, -⟩ | ⟨-, h⟩ | ⟨h, -⟩ | ⟨h, -⟩
  · omega
  · omega
  · rw [e]; exact h
  · omega
  · omega
theorem Rk.f8 (h : Rk ta ca na ma0 kn (d + 1) n) (k : (na 14 n.toNatClampNeg).toInt = 8) (e : z = na 17 n.toNatClampNeg) : Rk ta ca na ma0 kn d z ∧ Rk ta ca na ma0 kn d (ma0 18 n.toNatClampNeg) ∧ Rk ta ca na ma0 kn d (ma0 19 n.toNatClampNeg) := by
  rcases h with h | ⟨h, -⟩ | ⟨h, -⟩ | ⟨h, -⟩ | ⟨-, h⟩
  · omega
  · omega
  · omega
  · omega
  · rw [e]; exact h
theorem Rk.f7 (h : Rk ta ca na ma0 kn (d + 1) n) (k : (na 14 n.toNatClampNeg).toInt ≠ 1 ∧ (na 14 n.toNatClampNeg).toInt ≠ 2 ∧ (na 14 n.toNatClampNeg).toInt ≠ 5 ∧ (na 14 n.toNatClampNeg).toInt ≠ 8) : (na 14 n.toNatClampNeg).toInt = 7 ∧ ∃ m, RwI na (Rk ta ca na ma0 kn d) m (na 17 n.toNatClampNeg) := by
  rcases h with h | ⟨h, -⟩ | ⟨h, -⟩ | h | ⟨h, -⟩
  · omega
  · omega
  · omega
  · exact h
  · omega
/-- a row of what can be reckoned -/
def RwJ (na : Nat → Nat → Int32) (P : Int32 → Prop) (k : Int32) : Prop := ∃ m, RwI na P m k
theorem RwJ.go {P : Int32 → Prop} {k : Int32} (h : RwJ na P k) (h0 : 0 ≤ k.toInt) (e : z = na 21 k.toNatClampNeg) : P k ∧ RwJ na P z := by
  obtain ⟨m, h⟩ := h
  cases m with
  | zero => exact absurd h (by show ¬ k.toInt < 0; omega)
  | succ m =>
    rcases h with h | ⟨h1, h2⟩
    · exact absurd h (by first | with_reducible rfl | with_reducible assumption | omega)
    · exact ⟨h1, m, by rw [e]; exact h2⟩
/-- a chain: its first, and the row behind it with its marks -/
def RcM (ta : Nat → Nat → Int32) (c : Int) (na ma0 : Nat → Nat → Int32) (d : Nat) (n : Int32) (lo hi : Int) (k : Int32) : Prop := RcE na (fun l h x => EcV ta c na ma0 d l h x ∧ x.toInt ≠ n.toInt ∧ MkD ta c ma0 x.toNatClampNeg) lo hi k
theorem EcV.k7m (h : EcV ta c na ma0 (d + 1) lo hi n) (k : (na 14 n.toNatClampNeg).toInt = 7) (e : z = na 17 n.toNatClampNeg) : ∃ mid : Int, mid ≤ hi ∧ mid ≤ n.toInt ∧ EcV ta c na ma0 d lo mid z ∧ z.toInt ≠ n.toInt ∧ RcM ta c na ma0 d n mid hi (na 21 z.toNatClampNeg) := by
  obtain ⟨h0, l, hh, w, q1, q2, r, h1⟩ := h
  have hc := cl_nat h0
  rcases h1 with ⟨g, -⟩ | ⟨g, -⟩ | ⟨g, -⟩ | ⟨g, -⟩ | ⟨g, -⟩ | ⟨g, g1, a, mid, wa, m, wr, g2, g3, g4, g5, g6⟩ | ⟨g, -⟩ | ⟨g, -⟩
  all_goals first | exact absurd g (by first | with_reducible rfl | with_reducible assumption | omega) | skip
  subst e
  have ra := g4.rng
  have hz := cl_nat (x := na 17 n.toNatClampNeg) (by first | with_reducible rfl | with_reducible assumption | omega)
  have ea : (na 17 n.toNatClampNeg).toNatClampNeg = a := by omega
  have q : Rc na (fun l h x => EcV ta c na ma0 d l h x ∧ x.toInt ≠ n.toInt ∧ MkD ta c ma0 x.toNatClampNeg) (m + 1) (mid : Int) (hi.toNat : Int) (na 21 a) := rc_lq (P := fun l h x => EcV ta c na ma0 d l h x ∧ x.toInt ≠ n.toInt ∧ MkD ta c ma0 x.toNatClampNeg) (P' := Pc ta c ma0 (Ex ta c na ma0 d) n.toNatClampNeg) (fun b l h v x ex p => by
      obtain ⟨l', v', p1, p2, p3, p4, p5⟩ := p
      have rb := p3.rng
      have hx := cl_nat (x := x) (by first | exact oz_016f458179 hc | omega)
      exact ⟨ec_of ex p3 (by first | with_reducible rfl | with_reducible assumption | omega) (Int.le_refl _), by first | with_reducible rfl | with_reducible assumption | omega, by rw [show x.toNatClampNeg = b by omega]; exact p5⟩) (g5.wid (P' := Pc ta c ma0 (Ex ta c na ma0 d) n.toNatClampNeg) (fun b l l' h v hl p => by
      obtain ⟨l1, v1, p1, p2, p3⟩ := p
      exact ⟨l1, v1, by first | with_reducible rfl | with_reducible assumption | omega, p2, p3⟩) (Nat.le_refl _) (Nat.le_refl _) (show hh ≤ hi.toNat by omega) (Nat.le_refl _))
  have e2 : ((hi.toNat : Nat) : Int) = hi := by omega
  rw [e2] at q
  obtain ⟨b', k1, k2, k3, k4⟩ := g5.last
  exact ⟨(mid : Int), by first | with_reducible rfl | with_reducible assumption | omega, by first | with_reducible rfl | with_reducible assumption | omega, ec_of g2 g4 q1 (Int.le_refl _), by first | with_reducible rfl | with_reducible assumption | omega, m + 1, by rw [ea]; exact q⟩
theorem MkD.at {x : Nat} (h : MkD ta c ma0 x) (a : Ann na ma0 ma) (hk : (na 14 x).toInt ≠ 40) (e : z = ma 20 x) : 0 ≤ z.toInt ∧ z.toInt < c ∧ so ta z = 5 := by
  have e1 : z = ma0 20 x := e.trans ((a x).2.2.1 hk h.1)
  rw [e1]; exact ⟨h.1, h.2.1, h.2.2⟩
theorem EcV.n5 (h : EcV ta c na ma0 d lo hi n) (k : (na 14 n.toNatClampNeg).toInt = 5) (e : z = na 15 n.toNatClampNeg) : so ta z = 5 := by
  obtain ⟨h0, l, hh, w, q1, q2, q3⟩ := h
  cases d with
  | zero => exact q3.elim
  | succ d =>
    obtain ⟨r, h1⟩ := q3
    rcases h1 with ⟨g, -⟩ | ⟨g, -⟩ | ⟨g, -⟩ | ⟨g, -⟩ | ⟨g, g1, -⟩ | ⟨g, -⟩ | ⟨g, -⟩ | ⟨g, -⟩
    all_goals first | exact absurd g (by first | with_reducible rfl | with_reducible assumption | omega) | skip
    rw [e]; exact g1.2.2
theorem tk_z5 {tf : Nat → Int32} (h : TkI tf ta) {x : Int32} (h0 : 0 ≤ x.toInt) (h1 : x.toInt < (tf 6).toInt) (h5 : so ta x = 5) : 1 ≤ sz ta x := by
  obtain ⟨a, b, e⟩ := tk_w5 h h0 h1 rfl h5
  have hz := cl_nat a
  have := len_1 (i := (ta 10 x.toNatClampNeg).toNatClampNeg) (by first | with_reducible rfl | with_reducible assumption | omega)
  omega
end RK
abbrev b_Mpg_meetName : ByteArray := prog_16_method_82_code
def y_Mpg_meetName : MethodName := ⟨"HomeSystemModel$Program", "meetName", "(I)V"⟩
theorem d_Mpg_meetName_0 : decode b_Mpg_meetName 0 = .ok (.aload_n 0, 1) := by decide +kernel
theorem d_Mpg_meetName_1 : decode b_Mpg_meetName 1 = .ok (.iload_n 1, 1) := by decide +kernel
theorem d_Mpg_meetName_2 : decode b_Mpg_meetName 2 = .ok (.invokevirtual 568, 3) := by decide +kernel
theorem d_Mpg_meetName_5 : decode b_Mpg_meetName 5 = .ok (.istore_n 2, 1) := by decide +kernel
theorem d_Mpg_meetName_6 : decode b_Mpg_meetName 6 = .ok (.iload_n 2, 1) := by decide +kernel
theorem d_Mpg_meetName_7 : decode b_Mpg_meetName 7 = .ok (.ifCond .ne 9, 3) := by decide +kernel
theorem d_Mpg_meetName_10 : decode b_Mpg_meetName 10 = .ok (.aload_n 0, 1) := by decide +kernel
theorem d_Mpg_meetName_11 : decode b_Mpg_meetName 11 = .ok (.iconst 1, 1) := by decide +kernel
theorem d_Mpg_meetName_12 : decode b_Mpg_meetName 12 = .ok (.putfield 606, 3) := by decide +kernel
theorem d_Mpg_meetName_15 : decode b_Mpg_meetName 15 = .ok (.return_, 1) := by decide +kernel
theorem d_Mpg_meetName_16 : decode b_Mpg_meetName 16 = .ok (.iload_n 2, 1) := by decide +kernel
theorem d_Mpg_meetName_17 : decode b_Mpg_meetName 17 = .ok (.iconst 1, 1) := by decide +kernel
theorem d_Mpg_meetName_18 : decode b_Mpg_meetName 18 = .ok (.if_icmp .eq 13, 3) := by decide +kernel
theorem d_Mpg_meetName_21 : decode b_Mpg_meetName 21 = .ok (.aload_n 0, 1) := by decide +kernel
theorem d_Mpg_meetName_22 : decode b_Mpg_meetName 22 = .ok (.iconst 3, 1) := by decide +kernel
theorem d_Mpg_meetName_23 : decode b_Mpg_meetName 23 = .ok (.aload_n 0, 1) := by decide +kernel
theorem d_Mpg_meetName_24 : decode b_Mpg_meetName 24 = .ok (.iload_n 1, 1) := by decide +kernel
theorem d_Mpg_meetName_25 : decode b_Mpg_meetName 25 = .ok (.invokevirtual 584, 3) := by decide +kernel
theorem d_Mpg_meetName_28 : decode b_Mpg_meetName 28 = .ok (.invokevirtual 565, 3) := by decide +kernel
theorem d_Mpg_meetName_31 : decode b_Mpg_meetName 31 = .ok (.aload_n 0, 1) := by decide +kernel
theorem d_Mpg_meetName_32 : decode b_Mpg_meetName 32 = .ok (.aload_n 0, 1) := by decide +kernel
theorem d_Mpg_meetName_33 : decode b_Mpg_meetName 33 = .ok (.getfield 602, 3) := by decide +kernel
theorem d_Mpg_meetName_36 : decode b_Mpg_meetName 36 = .ok (.ifCond .ne 23, 3) := by decide +kernel
theorem d_Mpg_meetName_39 : decode b_Mpg_meetName 39 = .ok (.aload_n 0, 1) := by decide +kernel
theorem d_Mpg_meetName_40 : decode b_Mpg_meetName 40 = .ok (.getfield 249, 3) := by decide +kernel
theorem d_Mpg_meetName_43 : decode b_Mpg_meetName 43 = .ok (.aload_n 0, 1) := by decide +kernel
theorem d_Mpg_meetName_44 : decode b_Mpg_meetName 44 = .ok (.aload_n 0, 1) := by decide +kernel
theorem d_Mpg_meetName_45 : decode b_Mpg_meetName 45 = .ok (.getfield 210, 3) := by decide +kernel
theorem d_Mpg_meetName_48 : decode b_Mpg_meetName 48 = .ok (.iload_n 1, 1) := by decide +kernel
theorem d_Mpg_meetName_49 : decode b_Mpg_meetName 49 = .ok (.iaload, 1) := by decide +kernel
theorem d_Mpg_meetName_50 : decode b_Mpg_meetName 50 = .ok (.iconst 0, 1) := by decide +kernel
theorem d_Mpg_meetName_51 : decode b_Mpg_meetName 51 = .ok (.invokevirtual 559, 3) := by decide +kernel
theorem d_Mpg_meetName_54 : decode b_Mpg_meetName 54 = .ok (.iaload, 1) := by decide +kernel
theorem d_Mpg_meetName_55 : decode b_Mpg_meetName 55 = .ok (.iconst 4, 1) := by decide +kernel
theorem d_Mpg_meetName_56 : decode b_Mpg_meetName 56 = .ok (.if_icmp .eq 7, 3) := by decide +kernel
theorem d_Mpg_meetName_59 : decode b_Mpg_meetName 59 = .ok (.iconst 1, 1) := by decide +kernel
theorem d_Mpg_meetName_60 : decode b_Mpg_meetName 60 = .ok (.goto 4, 3) := by decide +kernel
theorem d_Mpg_meetName_63 : decode b_Mpg_meetName 63 = .ok (.iconst 0, 1) := by decide +kernel
theorem d_Mpg_meetName_64 : decode b_Mpg_meetName 64 = .ok (.putfield 602, 3) := by decide +kernel
theorem d_Mpg_meetName_67 : decode b_Mpg_meetName 67 = .ok (.return_, 1) := by decide +kernel
theorem q_Mpg_meetName : px_y y_Mpg_meetName 1 := by unfold px_y; decide +kernel
set_option maxHeartbeats 4000000 in
set_option maxRecDepth 100000 in
theorem c_mp_meetName (l : Launch) (D : va_G) (cs : Nat → ClassId) (ma0 : Nat → Nat → Int32) (ys : Int) (ns : Int) (nf : Int) (kn : Int) (d : Nat) (lo : Int) (hi : Int) (h : Nat) (r : Nat → Nat) (g : Nat → Nat → Option Nat) (tf : Nat → Int32) (ta : Nat → Nat → Int32) (pf : Nat → Int32) (na : Nat → Nat → Int32) (wa : Nat → Nat → Int32) (ca : Nat → Nat → Int32) (ef : Nat → Int32) (ea : Nat → Nat → Int32) (xf : Nat → Int32) (xa : Nat → Nat → Int32) (ma : Nat → Nat → Int32) (cf : Nat → Int32) (p0 : Int32)  (g0 : 0 ≤ lo) (g1 : hi ≤ (pf 13).toInt) (g2 : (pf 13).toInt ≤ 2100) (g3 : (tf 6).toInt ≤ 2049) (g4 : (cf 33).toInt = kn) (g5 : 0 ≤ kn) (g6 : (cf 48).toInt = ns) (g7 : (cf 38).toInt = nf) (g8 : 0 ≤ nf) (g9 : (na 14 p0.toNatClampNeg).toInt = 2) (g10 : 0 ≤ (cf 46).toInt) (g11 : (cf 46).toInt ≤ 1) (g12 : 0 ≤ (cf 47).toInt) (g13 : (cf 47).toInt ≤ 1) (htk : TkI tf ta) (hfs : FsI (tf 6).toInt (pf 13).toInt na) (hwr : WrV cf (tf 6).toInt) (hkt : KnT (tf 6).toInt ca (cf 33).toInt) (hft : FnT (tf 6).toInt na ca (cf 38).toInt) (hks : KnS ca kn ns ys) (han : Ann na ma0 ma) (hec : EcV ta (tf 6).toInt na ma0 d lo hi p0) : MetV l y_Mpg_meetName b_Mpg_meetName 3 D cs 4 160 (0) (0) [.ref h, .int p0] [wdP cs h r g tf ta pf na ma wa cf ca ef ea xf xa] (oX (fun A U H => (oP A g U H)) [wdP cs h r g tf ta pf na ma wa cf ca ef ea xf xa]) (fun ps => ∃ (ma' : Nat → Nat → Int32) (cf' : Nat → Int32), (ps = [wdP cs h r g tf ta pf na ma' wa cf' ca ef ea xf xa]) ∧ (KpE cf cf') ∧ (WrV cf' (tf 6).toInt) ∧ ((cf' 33).toInt = (cf 33).toInt) ∧ ((cf' 38).toInt = (cf 38).toInt) ∧ ((cf' 48).toInt = (cf 48).toInt) ∧ ((cf' 57).toInt = (cf 57).toInt) ∧ ((cf' 47).toInt = 1 → (cf 47).toInt = 1 ∨ 1 ≤ (cf' 30).toInt) ∧ (0 ≤ (cf' 46).toInt) ∧ ((cf' 46).toInt ≤ 1) ∧ (0 ≤ (cf' 47).toInt) ∧ ((cf' 47).toInt ≤ 1) ∧ ((cf' 46).toInt = 0 → (cf 46).toInt = 0) ∧ ((cf' 47).toInt = 0 → (cf 47).toInt = 0) ∧ (Ann na ma0 ma') ∧ (FrC lo hi ma ma') ∧ (MtF cf' ta ca na kn p0)) := by
  refine px_enter (by decide) (Nat.le_of_ble_eq_true rfl) ?_
  intro p e s m below meth c A ls hAe S hr hlk hnm hA hT hX hw hl
  have hl : lv_has ls 3 [(0, .ref h), (1, .int p0)] := hl
  have lp0 := Int32.le_toInt p0
  have up0 := Int32.toInt_lt p0
  have cst0 : (0 : Int32).toInt = 0 := rfl
  have cst1 : (1 : Int32).toInt = 1 := rfl
  have cst3 : (3 : Int32).toInt = 3 := rfl
  have cst4 : (4 : Int32).toInt = 4 := rfl
  have hX : (fun A U H => (oP A g U H)) A s s.heap := by rw [hAe]; exact hX
  have hP := hX
  have hZ := hP.1
  have hF0 := hP.2.1
  have hke : KpE cf cf := KpE.rf
  have hfc : FrC lo hi ma ma := FrC.rf
  have hwr0 := hwr.1
  have hk11 := hkt.1
  have hf11 := hft.1
  have hec_p0 := hec
  have hrg := EcV.rng hec
  refine lv_aload_n S.x S.b d_Mpg_meetName_0 rfl (lv_at hl 0 rfl) ?_
  refine lv_iload_n S.x S.b d_Mpg_meetName_1 rfl (lv_at hl 1 rfl) ?_
  refine px_calli (pr := []) (px_runV (As := [.int p0]) (rest := []) S (c_mp_checkName l D cs ma0 ys ns nf kn d lo hi h r g tf ta pf na wa ca ef ea xf xa ma cf p0  (show 0 ≤ lo from by first | exact g0 | omega) (show hi ≤ (pf 13).toInt from by first | exact g1 | omega) (show (pf 13).toInt ≤ 2100 from by first | exact g2 | omega) (show (tf 6).toInt ≤ 2049 from by first | exact g3 | omega) (show (cf 33).toInt = kn from by first | exact g4 | omega) (show 0 ≤ kn from by first | exact g5 | omega) (show (cf 48).toInt = ns from by first | exact g6 | omega) (show (cf 38).toInt = nf from by first | exact g7 | omega) (show 0 ≤ nf from by first | exact g8 | omega) (show (na 14 p0.toNatClampNeg).toInt = 2 from by first | exact g9 | omega) htk (FsI.le (N' := (pf 13).toInt) hfs (by first | with_reducible rfl | with_reducible assumption | omega)) hwr (KnT.eq hkt (by first | with_reducible rfl | with_reducible assumption | omega)) (FnT.eq hft (by first | with_reducible rfl | with_reducible assumption | omega)) hks han hec_p0 _) hT (pr := []) (pcs := [wdP cs h r g tf ta pf na ma wa cf ca ef ea xf xa]) hw (oX_call (P := (fun A U H => (oP A g U H))) (pr := []) oG_P hw hA hP) (px_recv hT hw 0 0 rfl rfl rfl) m12_221 m12_218 m12_220 ms_12_8 m1_21 q_Mpg_checkName ⟨Nat.le_of_ble_eq_true rfl, Nat.le_of_ble_eq_true rfl⟩ hl.1 rfl (Nat.le_of_ble_eq_true rfl) d_Mpg_meetName_2 ⟨Nat.le_of_ble_eq_true rfl, Nat.le_of_ble_eq_true rfl⟩) hw hA (fun v6 p5 H locs hp5 hw => ?_)
  obtain ⟨ma3, cf4, rfl, e7, e8, e9, e10, e11, e12, e13, e14, e15, e16, e17, e18, e19, e20⟩ := hp5
  have e7 : KpE cf cf4 := e7
  have hke := (hke).tr e7
  have hkz_e7 := e7.2
  have e8 : WrV cf4 (tf 6).toInt := e8
  have hwr := e8
  have hw0_e8 := hwr.1
  have e9 : (cf4 33).toInt = (cf 33).toInt := e9
  have e10 : (cf4 38).toInt = (cf 38).toInt := e10
  have e11 : (cf4 48).toInt = (cf 48).toInt := e11
  have e12 : (cf4 46).toInt = (cf 46).toInt := e12
  have e13 : (cf4 47).toInt = (cf 47).toInt := e13
  have e14 : (cf4 57).toInt = (cf 57).toInt := e14
  have e15 : Ann na ma0 ma3 := e15
  have han := e15
  have e16 : FrC lo hi ma ma3 := e16
  have hfc := hfc.tr e16 (by first | with_reducible rfl | with_reducible assumption | omega) (by first | with_reducible rfl | with_reducible assumption | omega)
  have e17 : 0 ≤ v6.toInt := e17
  have e18 : v6.toInt ≤ 3 := e18
  have e19 : NmO ta ca na ma3 kn p0 v6.toInt := e19
  have hnmo := e19
  have e20 : ZTy cf4 (Gk ta ca na ma0 ns ys nf) na ma3 lo hi p0 v6.toInt := e20
  have hzt_p0 := e20
  have hnz_e20 := fun q => ZTy.n0 e20 q
  have hw : pw D A s.heap H locs [wdP cs h r g tf ta pf na ma3 wa cf4 ca ef ea xf xa] := hw
  have lv6 := Int32.le_toInt v6
  have uv6 := Int32.toInt_lt v6
  refine lv_istore_n (lv' := [(2, .int v6), (0, .ref h), (1, .int p0)]) S.x S.b d_Mpg_meetName_5 rfl hl (by decide) rfl (fun ls hl => ?_)
  refine lv_iload_n S.x S.b d_Mpg_meetName_6 rfl (lv_at hl 0 rfl) ?_
  refine lv_if_ne (tgt := 16) S.x S.b d_Mpg_meetName_7 (by decide) (fun c21 => ?_) (fun c21 => ?_)
  · have nc21 : ¬ v6.toInt = (0 : Int) := mt (i_eq (x := v6) (y := 0)).mpr c21
    refine lv_iload_n S.x S.b d_Mpg_meetName_16 rfl (lv_at hl 0 rfl) ?_
    refine lv_iconst (v := 1) S.x S.b d_Mpg_meetName_17 (by decide) ?_
    refine lv_icmp_eq (tgt := 31) S.x S.b d_Mpg_meetName_18 (by decide) (fun c22 => ?_) (fun c22 => ?_)
    · have nc22 : v6.toInt = (1 : Int) := (i_eq (x := v6) (y := 1)).mp c22
      refine lv_aload_n S.x S.b d_Mpg_meetName_31 rfl (lv_at hl 1 rfl) ?_
      refine lv_aload_n S.x S.b d_Mpg_meetName_32 rfl (lv_at hl 1 rfl) ?_
      refine px_get S k_Mpg hT hw 0 0 46 (v := .int (cf4 46)) rfl rfl rfl (by decide) m10_37 d_Mpg_meetName_33 ?_
      refine lv_if_ne (tgt := 59) S.x S.b d_Mpg_meetName_36 (by decide) (fun c23 => ?_) (fun c23 => ?_)
      · have nc23 : ¬ (cf4 46).toInt = (0 : Int) := mt (i_eq (x := (cf4 46)) (y := 0)).mpr c23
        refine lv_iconst (v := 1) S.x S.b d_Mpg_meetName_59 (by decide) ?_
        refine lv_goto (tgt := 64) S.x S.b d_Mpg_meetName_60 (by decide) ?_
        refine px_put S k_Mpg hT hw 0 0 46 rfl rfl (by decide) m10_37 rfl rfl rfl (Nat.le_of_ble_eq_true rfl) d_Mpg_meetName_64 (w' := wdP cs h r g tf ta pf na ma3 wa (upd cf4 46 1) ca ef ea xf xa) (ps' := [wdP cs h r g tf ta pf na ma3 wa (upd cf4 46 1) ca ef ea xf xa]) rfl rfl (fun H locs hw => ?_)
        exact px_vret S hr hlk hAe hw (Nat.le_of_ble_eq_true rfl) (Nat.le_of_ble_eq_true rfl) (⟨ma3, (upd cf4 46 1), rfl, (show KpE cf (upd cf4 46 1) from (KpE.u46 hke)), (show WrV (upd cf4 46 1) (tf 6).toInt from (WrV.u hwr (by decide) (by decide))), (show (cf4 33).toInt = (cf 33).toInt from by first | exact e9 | omega), (show (cf4 38).toInt = (cf 38).toInt from by first | exact e10 | omega), (show (cf4 48).toInt = (cf 48).toInt from by first | exact e11 | omega), (show (cf4 57).toInt = (cf 57).toInt from by first | exact e14 | omega), (show (cf4 47).toInt = 1 → (cf 47).toInt = 1 ∨ 1 ≤ (cf4 30).toInt from by first | with_reducible rfl | with_reducible assumption | omega), (show 0 ≤ (1 : Int) from by first | decide | omega), (show (1 : Int) ≤ 1 from by first | decide | omega), (show 0 ≤ (cf4 47).toInt from by first | exact oz_f3ebed1ad0 e13 g12 | omega), (show (cf4 47).toInt ≤ 1 from by first | exact oz_878017becc e13 g13 | omega), (show (1 : Int) = 0 → (cf 46).toInt = 0 from by first | with_reducible rfl | with_reducible assumption | omega), (show (cf4 47).toInt = 0 → (cf 47).toInt = 0 from by first | exact fun q9 => oz_2c3e9075ce e13 q9 g12 | omega), (show Ann na ma0 ma3 from han), (show FrC lo hi ma ma3 from hfc), (show MtF (upd cf4 46 1) ta ca na kn p0 from (fun _ _ => nm_fd hnmo (by first | with_reducible rfl | with_reducible assumption | omega)))⟩) d_Mpg_meetName_67
      · have nc23 : (cf4 46).toInt = (0 : Int) := (i_eq (x := (cf4 46)) (y := 0)).mp c23
        refine lv_aload_n S.x S.b d_Mpg_meetName_39 rfl (lv_at hl 1 rfl) ?_
        refine px_get S k_Mpg hT hw 0 0 35 (v := .ref (r 35)) rfl rfl rfl (by decide) m10_24 d_Mpg_meetName_40 ?_
        refine lv_aload_n S.x S.b d_Mpg_meetName_43 rfl (lv_at hl 1 rfl) ?_
        refine lv_aload_n S.x S.b d_Mpg_meetName_44 rfl (lv_at hl 1 rfl) ?_
        refine px_get S k_Mpg hT hw 0 0 15 (v := .ref (r 15)) rfl rfl rfl (by decide) m9_239 d_Mpg_meetName_45 ?_
        refine lv_iload_n S.x S.b d_Mpg_meetName_48 rfl (lv_at hl 2 rfl) ?_
        refine px_iald S hT hw 0 11 (n := 2100) (f := (na 15)) rfl gp_15 (x := p0) (vp_in_iff.mpr (by first | exact oz_a7e05de1cd hrg.2.2 hrg.2.1 g1 g2 | (constructor <;> omega))) d_Mpg_meetName_49 ?_
        refine lv_topi (fun z24 ez24 => ?_)
        have lz24 := Int32.le_toInt z24
        have uz24 := Int32.toInt_lt z24
        have rz24 := EcV.tok hec_p0 ez24
        refine lv_iconst (v := 0) S.x S.b d_Mpg_meetName_50 (by decide) ?_
        refine px_calli (pr := []) (px_runV (As := [.int z24, .int 0]) (rest := [.ref (r 35), .ref h]) S (c_mp_find l D cs h r g tf ta pf na ma3 wa cf4 ca ef ea xf xa z24 0  (show 0 ≤ z24.toInt from by first | exact rz24.1 | omega) (show z24.toInt < (tf 6).toInt from by first | exact oz_7fe81129bf rz24.2 | omega) (show (tf 6).toInt ≤ 2049 from by first | exact g3 | omega) (show 0 ≤ (0 : Int) from by first | decide | omega) (show 0 ≤ (cf4 33).toInt from by first | exact oz_e2fef14871 e9 g4 g5 | omega) htk (KnT.eq hkt (by first | with_reducible rfl | with_reducible assumption | omega)) _) hT (pr := []) (pcs := [wdP cs h r g tf ta pf na ma3 wa cf4 ca ef ea xf xa]) hw px_X.tt (px_recv hT hw 0 0 rfl rfl rfl) m12_181 m12_178 m12_180 ms_11_14 m1_21 q_Mpg_find ⟨Nat.le_of_ble_eq_true rfl, Nat.le_of_ble_eq_true rfl⟩ hl.1 rfl (Nat.le_of_ble_eq_true rfl) d_Mpg_meetName_51 ⟨Nat.le_of_ble_eq_true rfl, Nat.le_of_ble_eq_true rfl⟩) hw hA (fun v26 p25 H locs hp25 hw => ?_)
        obtain ⟨rfl, e27, e28, e29, e30⟩ := hp25
        have e27 : -1 ≤ v26.toInt := e27
        have e28 : v26.toInt < (cf4 33).toInt := e28
        have e29 : 0 ≤ v26.toInt → (0 : Int) ≤ v26.toInt := e29
        have e30 : FndV ta ca (cf4 33).toInt z24 (0 : Int) v26.toInt := e30
        have hfd := e30
        have hw : pw D A s.heap H locs [wdP cs h r g tf ta pf na ma3 wa cf4 ca ef ea xf xa] := hw
        have lv26 := Int32.le_toInt v26
        have uv26 := Int32.toInt_lt v26
        have hps := nm_pos hnmo (by first | with_reducible rfl | with_reducible assumption | omega) hfd ez24 (by first | with_reducible rfl | with_reducible assumption | omega)
        refine px_iald S hT hw 0 24 (n := 1100) (f := (ca 35)) rfl gp_35 (x := v26) (vp_in_iff.mpr (by constructor <;> omega)) d_Mpg_meetName_54 ?_
        refine lv_topi (fun z31 ez31 => ?_)
        have lz31 := Int32.le_toInt z31
        have uz31 := Int32.toInt_lt z31
        refine lv_iconst (v := 4) S.x S.b d_Mpg_meetName_55 (by decide) ?_
        refine lv_icmp_eq (tgt := 63) S.x S.b d_Mpg_meetName_56 (by decide) (fun c32 => ?_) (fun c32 => ?_)
        · have nc32 : z31.toInt = (4 : Int) := (i_eq (x := z31) (y := 4)).mp c32
          refine lv_iconst (v := 0) S.x S.b d_Mpg_meetName_63 (by decide) ?_
          refine px_put S k_Mpg hT hw 0 0 46 rfl rfl (by decide) m10_37 rfl rfl rfl (Nat.le_of_ble_eq_true rfl) d_Mpg_meetName_64 (w' := wdP cs h r g tf ta pf na ma3 wa (upd cf4 46 0) ca ef ea xf xa) (ps' := [wdP cs h r g tf ta pf na ma3 wa (upd cf4 46 0) ca ef ea xf xa]) rfl rfl (fun H locs hw => ?_)
          exact px_vret S hr hlk hAe hw (Nat.le_of_ble_eq_true rfl) (Nat.le_of_ble_eq_true rfl) (⟨ma3, (upd cf4 46 0), rfl, (show KpE cf (upd cf4 46 0) from (KpE.u46 hke)), (show WrV (upd cf4 46 0) (tf 6).toInt from (WrV.u hwr (by decide) (by decide))), (show (cf4 33).toInt = (cf 33).toInt from by first | exact e9 | omega), (show (cf4 38).toInt = (cf 38).toInt from by first | exact e10 | omega), (show (cf4 48).toInt = (cf 48).toInt from by first | exact e11 | omega), (show (cf4 57).toInt = (cf 57).toInt from by first | exact e14 | omega), (show (cf4 47).toInt = 1 → (cf 47).toInt = 1 ∨ 1 ≤ (cf4 30).toInt from by first | with_reducible rfl | with_reducible assumption | omega), (show 0 ≤ (0 : Int) from by first | decide | omega), (show (0 : Int) ≤ 1 from by first | decide | omega), (show 0 ≤ (cf4 47).toInt from by first | exact oz_f3ebed1ad0 e13 g12 | omega), (show (cf4 47).toInt ≤ 1 from by first | exact oz_878017becc e13 g13 | omega), (show (0 : Int) = 0 → (cf 46).toInt = 0 from by first | with_reducible rfl | with_reducible assumption | omega), (show (cf4 47).toInt = 0 → (cf 47).toInt = 0 from by first | exact fun q9 => oz_2c3e9075ce e13 q9 g12 | omega), (show Ann na ma0 ma3 from han), (show FrC lo hi ma ma3 from hfc), (show MtF (upd cf4 46 0) ta ca na kn p0 from (fun _ _ => nm_fd hnmo (by first | with_reducible rfl | with_reducible assumption | omega)))⟩) d_Mpg_meetName_67
        · have nc32 : ¬ z31.toInt = (4 : Int) := mt (i_eq (x := z31) (y := 4)).mpr c32
          refine lv_iconst (v := 1) S.x S.b d_Mpg_meetName_59 (by decide) ?_
          refine lv_goto (tgt := 64) S.x S.b d_Mpg_meetName_60 (by decide) ?_
          refine px_put S k_Mpg hT hw 0 0 46 rfl rfl (by decide) m10_37 rfl rfl rfl (Nat.le_of_ble_eq_true rfl) d_Mpg_meetName_64 (w' := wdP cs h r g tf ta pf na ma3 wa (upd cf4 46 1) ca ef ea xf xa) (ps' := [wdP cs h r g tf ta pf na ma3 wa (upd cf4 46 1) ca ef ea xf xa]) rfl rfl (fun H locs hw => ?_)
          exact px_vret S hr hlk hAe hw (Nat.le_of_ble_eq_true rfl) (Nat.le_of_ble_eq_true rfl) (⟨ma3, (upd cf4 46 1), rfl, (show KpE cf (upd cf4 46 1) from (KpE.u46 hke)), (show WrV (upd cf4 46 1) (tf 6).toInt from (WrV.u hwr (by decide) (by decide))), (show (cf4 33).toInt = (cf 33).toInt from by first | exact e9 | omega), (show (cf4 38).toInt = (cf 38).toInt from by first | exact e10 | omega), (show (cf4 48).toInt = (cf 48).toInt from by first | exact e11 | omega), (show (cf4 57).toInt = (cf 57).toInt from by first | exact e14 | omega), (show (cf4 47).toInt = 1 → (cf 47).toInt = 1 ∨ 1 ≤ (cf4 30).toInt from by first | with_reducible rfl | with_reducible assumption | omega), (show 0 ≤ (1 : Int) from by first | decide | omega), (show (1 : Int) ≤ 1 from by first | decide | omega), (show 0 ≤ (cf4 47).toInt from by first | exact oz_f3ebed1ad0 e13 g12 | omega), (show (cf4 47).toInt ≤ 1 from by first | exact oz_878017becc e13 g13 | omega), (show (1 : Int) = 0 → (cf 46).toInt = 0 from by first | with_reducible rfl | with_reducible assumption | omega), (show (cf4 47).toInt = 0 → (cf 47).toInt = 0 from by first | exact fun q9 => oz_2c3e9075ce e13 q9 g12 | omega), (show Ann na ma0 ma3 from han), (show FrC lo hi ma ma3 from hfc), (show MtF (upd cf4 46 1) ta ca na kn p0 from (fun _ _ => nm_fd hnmo (by first | with_reducible rfl | with_reducible assumption | omega)))⟩) d_Mpg_meetName_67
    · have nc22 : ¬ v6.toInt = (1 : Int) := mt (i_eq (x := v6) (y := 1)).mpr c22
      refine lv_aload_n S.x S.b d_Mpg_meetName_21 rfl (lv_at hl 1 rfl) ?_
      refine lv_iconst (v := 3) S.x S.b d_Mpg_meetName_22 (by decide) ?_
      refine lv_aload_n S.x S.b d_Mpg_meetName_23 rfl (lv_at hl 1 rfl) ?_
      refine lv_iload_n S.x S.b d_Mpg_meetName_24 rfl (lv_at hl 2 rfl) ?_
      refine px_calli (pr := []) (px_runV (As := [.int p0]) (rest := [.int 3, .ref h]) S (c_mp_first l D cs h r g tf ta pf na ma3 wa cf4 ca ef ea xf xa p0  (show 0 ≤ p0.toInt from by first | exact hrg.2.2 | omega) (show p0.toInt < (pf 13).toInt from by first | exact oz_7319c2f99d g1 hrg.2.1 | omega) (show (pf 13).toInt ≤ 2100 from by first | exact g2 | omega) htk (FsI.le (N' := (pf 13).toInt) hfs (by first | with_reducible rfl | with_reducible assumption | omega)) _) hT (pr := []) (pcs := [wdP cs h r g tf ta pf na ma3 wa cf4 ca ef ea xf xa]) hw px_X.tt (px_recv hT hw 0 0 rfl rfl rfl) m13_9 m13_6 m13_8 ms_12_15 m1_21 q_Mpg_first ⟨Nat.le_of_ble_eq_true rfl, Nat.le_of_ble_eq_true rfl⟩ hl.1 rfl (Nat.le_of_ble_eq_true rfl) d_Mpg_meetName_25 ⟨Nat.le_of_ble_eq_true rfl, Nat.le_of_ble_eq_true rfl⟩) hw hA (fun v34 p33 H locs hp33 hw => ?_)
      obtain ⟨rfl, e35, e36⟩ := hp33
      have e35 : 0 ≤ v34.toInt := e35
      have e36 : v34.toInt < (tf 6).toInt := e36
      have hw : pw D A s.heap H locs [wdP cs h r g tf ta pf na ma3 wa cf4 ca ef ea xf xa] := hw
      have lv34 := Int32.le_toInt v34
      have uv34 := Int32.toInt_lt v34
      refine px_callv (pr := []) (px_runV (As := [.int 3, .int v34]) (rest := []) S (c_mp_bad l D cs h r g tf ta pf na ma3 wa ca ef ea xf xa cf4 3 v34  (show 1 ≤ (3 : Int) from by first | decide | omega) (show 0 ≤ v34.toInt from by first | exact e35 | omega) (show v34.toInt < (tf 6).toInt from by first | exact e36 | omega) htk hwr _) hT (pr := []) (pcs := [wdP cs h r g tf ta pf na ma3 wa cf4 ca ef ea xf xa]) hw px_X.tt (px_recv hT hw 0 0 rfl rfl rfl) m12_173 m12_170 m12_172 ms_11_12 m1_21 q_Mpg_bad ⟨Nat.le_of_ble_eq_true rfl, Nat.le_of_ble_eq_true rfl⟩ hl.1 rfl (Nat.le_of_ble_eq_true rfl) d_Mpg_meetName_28 ⟨Nat.le_of_ble_eq_true rfl, Nat.le_of_ble_eq_true rfl⟩) hw hA (fun p39 H locs hp39 hw => ?_)
      obtain ⟨cf38, rfl, e41, e42, e43, e44, e45, e46, e47, e48, e49, e50, e51, e52, e53, e54, e55, e56, e57, e58, e59⟩ := hp39
      have e41 : KpE cf4 cf38 := e41
      have hke := (hke).tr e41
      have hkz_e41 := e41.2
      have hzt_p0 := Zr.kp hzt_p0 e41 id
      have e42 : WrV cf38 (tf 6).toInt := e42
      have hwr := e42
      have hw0_e42 := hwr.1
      have e43 : 1 ≤ (cf38 30).toInt := e43
      have e44 : (cf38 33).toInt = (cf4 33).toInt := e44
      have e45 : (cf38 38).toInt = (cf4 38).toInt := e45
      have e46 : (cf38 48).toInt = (cf4 48).toInt := e46
      have e47 : (cf38 46).toInt = (cf4 46).toInt := e47
      have e48 : (cf38 47).toInt = (cf4 47).toInt := e48
      have e49 : (cf38 57).toInt = (cf4 57).toInt := e49
      have e50 : (cf38 37).toInt = (cf4 37).toInt := e50
      have e51 : (cf38 42).toInt = (cf4 42).toInt := e51
      have e52 : (cf38 43).toInt = (cf4 43).toInt := e52
      have e53 : (cf38 44).toInt = (cf4 44).toInt := e53
      have e54 : (cf38 45).toInt = (cf4 45).toInt := e54
      have e55 : (cf38 54).toInt = (cf4 54).toInt := e55
      have e56 : (cf38 55).toInt = (cf4 55).toInt := e56
      have e57 : (cf38 58).toInt = (cf4 58).toInt := e57
      have e58 : (cf38 59).toInt = (cf4 59).toInt := e58
      have e59 : (cf38 41).toInt = (cf4 41).toInt := e59
      have hw : pw D A s.heap H locs [wdP cs h r g tf ta pf na ma3 wa cf38 ca ef ea xf xa] := hw
      refine lv_aload_n S.x S.b d_Mpg_meetName_31 rfl (lv_at hl 1 rfl) ?_
      refine lv_aload_n S.x S.b d_Mpg_meetName_32 rfl (lv_at hl 1 rfl) ?_
      refine px_get S k_Mpg hT hw 0 0 46 (v := .int (cf38 46)) rfl rfl rfl (by decide) m10_37 d_Mpg_meetName_33 ?_
      refine lv_if_ne (tgt := 59) S.x S.b d_Mpg_meetName_36 (by decide) (fun c60 => ?_) (fun c60 => ?_)
      · have nc60 : ¬ (cf38 46).toInt = (0 : Int) := mt (i_eq (x := (cf38 46)) (y := 0)).mpr c60
        refine lv_iconst (v := 1) S.x S.b d_Mpg_meetName_59 (by decide) ?_
        refine lv_goto (tgt := 64) S.x S.b d_Mpg_meetName_60 (by decide) ?_
        refine px_put S k_Mpg hT hw 0 0 46 rfl rfl (by decide) m10_37 rfl rfl rfl (Nat.le_of_ble_eq_true rfl) d_Mpg_meetName_64 (w' := wdP cs h r g tf ta pf na ma3 wa (upd cf38 46 1) ca ef ea xf xa) (ps' := [wdP cs h r g tf ta pf na ma3 wa (upd cf38 46 1) ca ef ea xf xa]) rfl rfl (fun H locs hw => ?_)
        exact px_vret S hr hlk hAe hw (Nat.le_of_ble_eq_true rfl) (Nat.le_of_ble_eq_true rfl) (⟨ma3, (upd cf38 46 1), rfl, (show KpE cf (upd cf38 46 1) from (KpE.u46 hke)), (show WrV (upd cf38 46 1) (tf 6).toInt from (WrV.u hwr (by decide) (by decide))), (show (cf38 33).toInt = (cf 33).toInt from by first | exact oz_1687f4cc65 e9 e44 | omega), (show (cf38 38).toInt = (cf 38).toInt from by first | exact oz_1687f4cc65 e10 e45 | omega), (show (cf38 48).toInt = (cf 48).toInt from by first | exact oz_1687f4cc65 e11 e46 | omega), (show (cf38 57).toInt = (cf 57).toInt from by first | exact oz_1687f4cc65 e14 e49 | omega), (show (cf38 47).toInt = 1 → (cf 47).toInt = 1 ∨ 1 ≤ (cf38 30).toInt from by first | with_reducible rfl | with_reducible assumption | omega), (show 0 ≤ (1 : Int) from by first | decide | omega), (show (1 : Int) ≤ 1 from by first | decide | omega), (show 0 ≤ (cf38 47).toInt from by first | exact oz_e2fef14871 e48 e13 g12 | omega), (show (cf38 47).toInt ≤ 1 from by first | exact oz_916d756328 e48 e13 g13 | omega), (show (1 : Int) = 0 → (cf 46).toInt = 0 from by first | with_reducible rfl | with_reducible assumption | omega), (show (cf38 47).toInt = 0 → (cf 47).toInt = 0 from by first | exact fun q9 => oz_e6e07d6050 e13 e48 q9 g12 | omega), (show Ann na ma0 ma3 from han), (show FrC lo hi ma ma3 from hfc), (show MtF (upd cf38 46 1) ta ca na kn p0 from (fun _ _ => nm_fd hnmo (by first | with_reducible rfl | with_reducible assumption | omega)))⟩) d_Mpg_meetName_67
      · have nc60 : (cf38 46).toInt = (0 : Int) := (i_eq (x := (cf38 46)) (y := 0)).mp c60
        refine lv_aload_n S.x S.b d_Mpg_meetName_39 rfl (lv_at hl 1 rfl) ?_
        refine px_get S k_Mpg hT hw 0 0 35 (v := .ref (r 35)) rfl rfl rfl (by decide) m10_24 d_Mpg_meetName_40 ?_
        refine lv_aload_n S.x S.b d_Mpg_meetName_43 rfl (lv_at hl 1 rfl) ?_
        refine lv_aload_n S.x S.b d_Mpg_meetName_44 rfl (lv_at hl 1 rfl) ?_
        refine px_get S k_Mpg hT hw 0 0 15 (v := .ref (r 15)) rfl rfl rfl (by decide) m9_239 d_Mpg_meetName_45 ?_
        refine lv_iload_n S.x S.b d_Mpg_meetName_48 rfl (lv_at hl 2 rfl) ?_
        refine px_iald S hT hw 0 11 (n := 2100) (f := (na 15)) rfl gp_15 (x := p0) (vp_in_iff.mpr (by first | exact oz_a7e05de1cd hrg.2.2 hrg.2.1 g1 g2 | (constructor <;> omega))) d_Mpg_meetName_49 ?_
        refine lv_topi (fun z61 ez61 => ?_)
        have lz61 := Int32.le_toInt z61
        have uz61 := Int32.toInt_lt z61
        have rz61 := EcV.tok hec_p0 ez61
        refine lv_iconst (v := 0) S.x S.b d_Mpg_meetName_50 (by decide) ?_
        refine px_calli (pr := []) (px_runV (As := [.int z61, .int 0]) (rest := [.ref (r 35), .ref h]) S (c_mp_find l D cs h r g tf ta pf na ma3 wa cf38 ca ef ea xf xa z61 0  (show 0 ≤ z61.toInt from by first | exact rz61.1 | omega) (show z61.toInt < (tf 6).toInt from by first | exact oz_7fe81129bf rz61.2 | omega) (show (tf 6).toInt ≤ 2049 from by first | exact g3 | omega) (show 0 ≤ (0 : Int) from by first | decide | omega) (show 0 ≤ (cf38 33).toInt from by first | exact oz_11e71ee49a e44 e9 g4 g5 | omega) htk (KnT.eq hkt (by first | with_reducible rfl | with_reducible assumption | omega)) _) hT (pr := []) (pcs := [wdP cs h r g tf ta pf na ma3 wa cf38 ca ef ea xf xa]) hw px_X.tt (px_recv hT hw 0 0 rfl rfl rfl) m12_181 m12_178 m12_180 ms_11_14 m1_21 q_Mpg_find ⟨Nat.le_of_ble_eq_true rfl, Nat.le_of_ble_eq_true rfl⟩ hl.1 rfl (Nat.le_of_ble_eq_true rfl) d_Mpg_meetName_51 ⟨Nat.le_of_ble_eq_true rfl, Nat.le_of_ble_eq_true rfl⟩) hw hA (fun v63 p62 H locs hp62 hw => ?_)
        obtain ⟨rfl, e64, e65, e66, e67⟩ := hp62
        have e64 : -1 ≤ v63.toInt := e64
        have e65 : v63.toInt < (cf38 33).toInt := e65
        have e66 : 0 ≤ v63.toInt → (0 : Int) ≤ v63.toInt := e66
        have e67 : FndV ta ca (cf38 33).toInt z61 (0 : Int) v63.toInt := e67
        have hfd := e67
        have hw : pw D A s.heap H locs [wdP cs h r g tf ta pf na ma3 wa cf38 ca ef ea xf xa] := hw
        have lv63 := Int32.le_toInt v63
        have uv63 := Int32.toInt_lt v63
        have hps := nm_pos hnmo (by first | with_reducible rfl | with_reducible assumption | omega) hfd ez61 (by first | with_reducible rfl | with_reducible assumption | omega)
        refine px_iald S hT hw 0 24 (n := 1100) (f := (ca 35)) rfl gp_35 (x := v63) (vp_in_iff.mpr (by constructor <;> omega)) d_Mpg_meetName_54 ?_
        refine lv_topi (fun z68 ez68 => ?_)
        have lz68 := Int32.le_toInt z68
        have uz68 := Int32.toInt_lt z68
        refine lv_iconst (v := 4) S.x S.b d_Mpg_meetName_55 (by decide) ?_
        refine lv_icmp_eq (tgt := 63) S.x S.b d_Mpg_meetName_56 (by decide) (fun c69 => ?_) (fun c69 => ?_)
        · have nc69 : z68.toInt = (4 : Int) := (i_eq (x := z68) (y := 4)).mp c69
          refine lv_iconst (v := 0) S.x S.b d_Mpg_meetName_63 (by decide) ?_
          refine px_put S k_Mpg hT hw 0 0 46 rfl rfl (by decide) m10_37 rfl rfl rfl (Nat.le_of_ble_eq_true rfl) d_Mpg_meetName_64 (w' := wdP cs h r g tf ta pf na ma3 wa (upd cf38 46 0) ca ef ea xf xa) (ps' := [wdP cs h r g tf ta pf na ma3 wa (upd cf38 46 0) ca ef ea xf xa]) rfl rfl (fun H locs hw => ?_)
          exact px_vret S hr hlk hAe hw (Nat.le_of_ble_eq_true rfl) (Nat.le_of_ble_eq_true rfl) (⟨ma3, (upd cf38 46 0), rfl, (show KpE cf (upd cf38 46 0) from (KpE.u46 hke)), (show WrV (upd cf38 46 0) (tf 6).toInt from (WrV.u hwr (by decide) (by decide))), (show (cf38 33).toInt = (cf 33).toInt from by first | exact oz_1687f4cc65 e9 e44 | omega), (show (cf38 38).toInt = (cf 38).toInt from by first | exact oz_1687f4cc65 e10 e45 | omega), (show (cf38 48).toInt = (cf 48).toInt from by first | exact oz_1687f4cc65 e11 e46 | omega), (show (cf38 57).toInt = (cf 57).toInt from by first | exact oz_1687f4cc65 e14 e49 | omega), (show (cf38 47).toInt = 1 → (cf 47).toInt = 1 ∨ 1 ≤ (cf38 30).toInt from by first | with_reducible rfl | with_reducible assumption | omega), (show 0 ≤ (0 : Int) from by first | decide | omega), (show (0 : Int) ≤ 1 from by first | decide | omega), (show 0 ≤ (cf38 47).toInt from by first | exact oz_e2fef14871 e48 e13 g12 | omega), (show (cf38 47).toInt ≤ 1 from by first | exact oz_916d756328 e48 e13 g13 | omega), (show (0 : Int) = 0 → (cf 46).toInt = 0 from by first | with_reducible rfl | with_reducible assumption | omega), (show (cf38 47).toInt = 0 → (cf 47).toInt = 0 from by first | exact fun q9 => oz_e6e07d6050 e13 e48 q9 g12 | omega), (show Ann na ma0 ma3 from han), (show FrC lo hi ma ma3 from hfc), (show MtF (upd cf38 46 0) ta ca na kn p0 from (fun _ _ => nm_fd hnmo (by first | with_reducible rfl | with_reducible assumption | omega)))⟩) d_Mpg_meetName_67
        · have nc69 : ¬ z68.toInt = (4 : Int) := mt (i_eq (x := z68) (y := 4)).mpr c69
          refine lv_iconst (v := 1) S.x S.b d_Mpg_meetName_59 (by decide) ?_
          refine lv_goto (tgt := 64) S.x S.b d_Mpg_meetName_60 (by decide) ?_
          refine px_put S k_Mpg hT hw 0 0 46 rfl rfl (by decide) m10_37 rfl rfl rfl (Nat.le_of_ble_eq_true rfl) d_Mpg_meetName_64 (w' := wdP cs h r g tf ta pf na ma3 wa (upd cf38 46 1) ca ef ea xf xa) (ps' := [wdP cs h r g tf ta pf na ma3 wa (upd cf38 46 1) ca ef ea xf xa]) rfl rfl (fun H locs hw => ?_)
          exact px_vret S hr hlk hAe hw (Nat.le_of_ble_eq_true rfl) (Nat.le_of_ble_eq_true rfl) (⟨ma3, (upd cf38 46 1), rfl, (show KpE cf (upd cf38 46 1) from (KpE.u46 hke)), (show WrV (upd cf38 46 1) (tf 6).toInt from (WrV.u hwr (by decide) (by decide))), (show (cf38 33).toInt = (cf 33).toInt from by first | exact oz_1687f4cc65 e9 e44 | omega), (show (cf38 38).toInt = (cf 38).toInt from by first | exact oz_1687f4cc65 e10 e45 | omega), (show (cf38 48).toInt = (cf 48).toInt from by first | exact oz_1687f4cc65 e11 e46 | omega), (show (cf38 57).toInt = (cf 57).toInt from by first | exact oz_1687f4cc65 e14 e49 | omega), (show (cf38 47).toInt = 1 → (cf 47).toInt = 1 ∨ 1 ≤ (cf38 30).toInt from by first | with_reducible rfl | with_reducible assumption | omega), (show 0 ≤ (1 : Int) from by first | decide | omega), (show (1 : Int) ≤ 1 from by first | decide | omega), (show 0 ≤ (cf38 47).toInt from by first | exact oz_e2fef14871 e48 e13 g12 | omega), (show (cf38 47).toInt ≤ 1 from by first | exact oz_916d756328 e48 e13 g13 | omega), (show (1 : Int) = 0 → (cf 46).toInt = 0 from by first | with_reducible rfl | with_reducible assumption | omega), (show (cf38 47).toInt = 0 → (cf 47).toInt = 0 from by first | exact fun q9 => oz_e6e07d6050 e13 e48 q9 g12 | omega), (show Ann na ma0 ma3 from han), (show FrC lo hi ma ma3 from hfc), (show MtF (upd cf38 46 1) ta ca na kn p0 from (fun _ _ => nm_fd hnmo (by first | with_reducible rfl | with_reducible assumption | omega)))⟩) d_Mpg_meetName_67
  · have nc21 : v6.toInt = (0 : Int) := (i_eq (x := v6) (y := 0)).mp c21
    refine lv_aload_n S.x S.b d_Mpg_meetName_10 rfl (lv_at hl 1 rfl) ?_
    refine lv_iconst (v := 1) S.x S.b d_Mpg_meetName_11 (by decide) ?_
    refine px_put S k_Mpg hT hw 0 0 47 rfl rfl (by decide) m10_38 rfl rfl rfl (Nat.le_of_ble_eq_true rfl) d_Mpg_meetName_12 (w' := wdP cs h r g tf ta pf na ma3 wa (upd cf4 47 1) ca ef ea xf xa) (ps' := [wdP cs h r g tf ta pf na ma3 wa (upd cf4 47 1) ca ef ea xf xa]) rfl rfl (fun H locs hw => ?_)
    exact px_vret S hr hlk hAe hw (Nat.le_of_ble_eq_true rfl) (Nat.le_of_ble_eq_true rfl) (⟨ma3, (upd cf4 47 1), rfl, (show KpE cf (upd cf4 47 1) from (KpE.u47 hke)), (show WrV (upd cf4 47 1) (tf 6).toInt from (WrV.u hwr (by decide) (by decide))), (show (cf4 33).toInt = (cf 33).toInt from by first | exact e9 | omega), (show (cf4 38).toInt = (cf 38).toInt from by first | exact e10 | omega), (show (cf4 48).toInt = (cf 48).toInt from by first | exact e11 | omega), (show (cf4 57).toInt = (cf 57).toInt from by first | exact e14 | omega), (show (1 : Int) = 1 → (cf 47).toInt = 1 ∨ 1 ≤ (cf4 30).toInt from by first | with_reducible rfl | with_reducible assumption | omega), (show 0 ≤ (cf4 46).toInt from by first | exact oz_f3ebed1ad0 e12 g10 | omega), (show (cf4 46).toInt ≤ 1 from by first | exact oz_878017becc e12 g11 | omega), (show 0 ≤ (1 : Int) from by first | decide | omega), (show (1 : Int) ≤ 1 from by first | decide | omega), (show (cf4 46).toInt = 0 → (cf 46).toInt = 0 from by first | exact fun q9 => oz_2c3e9075ce e12 q9 g10 | omega), (show (1 : Int) = 0 → (cf 47).toInt = 0 from by first | with_reducible rfl | with_reducible assumption | omega), (show Ann na ma0 ma3 from han), (show FrC lo hi ma ma3 from hfc), (show MtF (upd cf4 47 1) ta ca na kn p0 from (rko_no (Or.inr rfl)))⟩) d_Mpg_meetName_15
abbrev b_Mpg_meet : ByteArray := prog_16_method_81_code
def y_Mpg_meet : MethodName := ⟨"HomeSystemModel$Program", "meet", "(I)V"⟩
theorem d_Mpg_meet_0 : decode b_Mpg_meet 0 = .ok (.aload_n 0, 1) := by decide +kernel
theorem d_Mpg_meet_1 : decode b_Mpg_meet 1 = .ok (.getfield 207, 3) := by decide +kernel
theorem d_Mpg_meet_4 : decode b_Mpg_meet 4 = .ok (.iload_n 1, 1) := by decide +kernel
theorem d_Mpg_meet_5 : decode b_Mpg_meet 5 = .ok (.baload, 1) := by decide +kernel
theorem d_Mpg_meet_6 : decode b_Mpg_meet 6 = .ok (.tableswitch 162 1 8 #[46, 49, 162, 162, 119, 162, 57, 86], 46) := by decide +kernel
theorem d_Mpg_meet_52 : decode b_Mpg_meet 52 = .ok (.goto 128, 3) := by decide +kernel
theorem d_Mpg_meet_55 : decode b_Mpg_meet 55 = .ok (.aload_n 0, 1) := by decide +kernel
theorem d_Mpg_meet_56 : decode b_Mpg_meet 56 = .ok (.iload_n 1, 1) := by decide +kernel
theorem d_Mpg_meet_57 : decode b_Mpg_meet 57 = .ok (.invokevirtual 596, 3) := by decide +kernel
theorem d_Mpg_meet_60 : decode b_Mpg_meet 60 = .ok (.goto 120, 3) := by decide +kernel
theorem d_Mpg_meet_63 : decode b_Mpg_meet 63 = .ok (.aload_n 0, 1) := by decide +kernel
theorem d_Mpg_meet_64 : decode b_Mpg_meet 64 = .ok (.getfield 216, 3) := by decide +kernel
theorem d_Mpg_meet_67 : decode b_Mpg_meet 67 = .ok (.iload_n 1, 1) := by decide +kernel
theorem d_Mpg_meet_68 : decode b_Mpg_meet 68 = .ok (.iaload, 1) := by decide +kernel
theorem d_Mpg_meet_69 : decode b_Mpg_meet 69 = .ok (.istore_n 2, 1) := by decide +kernel
theorem d_Mpg_meet_70 : decode b_Mpg_meet 70 = .ok (.iload_n 2, 1) := by decide +kernel
theorem d_Mpg_meet_71 : decode b_Mpg_meet 71 = .ok (.ifCond .lt 18, 3) := by decide +kernel
theorem d_Mpg_meet_74 : decode b_Mpg_meet 74 = .ok (.aload_n 0, 1) := by decide +kernel
theorem d_Mpg_meet_75 : decode b_Mpg_meet 75 = .ok (.iload_n 2, 1) := by decide +kernel
theorem d_Mpg_meet_76 : decode b_Mpg_meet 76 = .ok (.invokevirtual 599, 3) := by decide +kernel
theorem d_Mpg_meet_79 : decode b_Mpg_meet 79 = .ok (.aload_n 0, 1) := by decide +kernel
theorem d_Mpg_meet_80 : decode b_Mpg_meet 80 = .ok (.getfield 228, 3) := by decide +kernel
theorem d_Mpg_meet_83 : decode b_Mpg_meet 83 = .ok (.iload_n 2, 1) := by decide +kernel
theorem d_Mpg_meet_84 : decode b_Mpg_meet 84 = .ok (.iaload, 1) := by decide +kernel
theorem d_Mpg_meet_85 : decode b_Mpg_meet 85 = .ok (.istore_n 2, 1) := by decide +kernel
theorem d_Mpg_meet_86 : decode b_Mpg_meet 86 = .ok (.goto (-16), 3) := by decide +kernel
theorem d_Mpg_meet_89 : decode b_Mpg_meet 89 = .ok (.goto 91, 3) := by decide +kernel
theorem d_Mpg_meet_92 : decode b_Mpg_meet 92 = .ok (.aload_n 0, 1) := by decide +kernel
theorem d_Mpg_meet_93 : decode b_Mpg_meet 93 = .ok (.aload_n 0, 1) := by decide +kernel
theorem d_Mpg_meet_94 : decode b_Mpg_meet 94 = .ok (.getfield 216, 3) := by decide +kernel
theorem d_Mpg_meet_97 : decode b_Mpg_meet 97 = .ok (.iload_n 1, 1) := by decide +kernel
theorem d_Mpg_meet_98 : decode b_Mpg_meet 98 = .ok (.iaload, 1) := by decide +kernel
theorem d_Mpg_meet_99 : decode b_Mpg_meet 99 = .ok (.invokevirtual 599, 3) := by decide +kernel
theorem d_Mpg_meet_102 : decode b_Mpg_meet 102 = .ok (.aload_n 0, 1) := by decide +kernel
theorem d_Mpg_meet_103 : decode b_Mpg_meet 103 = .ok (.aload_n 0, 1) := by decide +kernel
theorem d_Mpg_meet_104 : decode b_Mpg_meet 104 = .ok (.getfield 219, 3) := by decide +kernel
theorem d_Mpg_meet_107 : decode b_Mpg_meet 107 = .ok (.iload_n 1, 1) := by decide +kernel
theorem d_Mpg_meet_108 : decode b_Mpg_meet 108 = .ok (.iaload, 1) := by decide +kernel
theorem d_Mpg_meet_109 : decode b_Mpg_meet 109 = .ok (.invokevirtual 599, 3) := by decide +kernel
theorem d_Mpg_meet_112 : decode b_Mpg_meet 112 = .ok (.aload_n 0, 1) := by decide +kernel
theorem d_Mpg_meet_113 : decode b_Mpg_meet 113 = .ok (.aload_n 0, 1) := by decide +kernel
theorem d_Mpg_meet_114 : decode b_Mpg_meet 114 = .ok (.getfield 222, 3) := by decide +kernel
theorem d_Mpg_meet_117 : decode b_Mpg_meet 117 = .ok (.iload_n 1, 1) := by decide +kernel
theorem d_Mpg_meet_118 : decode b_Mpg_meet 118 = .ok (.iaload, 1) := by decide +kernel
theorem d_Mpg_meet_119 : decode b_Mpg_meet 119 = .ok (.invokevirtual 599, 3) := by decide +kernel
theorem d_Mpg_meet_122 : decode b_Mpg_meet 122 = .ok (.goto 58, 3) := by decide +kernel
theorem d_Mpg_meet_125 : decode b_Mpg_meet 125 = .ok (.aload_n 0, 1) := by decide +kernel
theorem d_Mpg_meet_126 : decode b_Mpg_meet 126 = .ok (.getfield 198, 3) := by decide +kernel
theorem d_Mpg_meet_129 : decode b_Mpg_meet 129 = .ok (.aload_n 0, 1) := by decide +kernel
theorem d_Mpg_meet_130 : decode b_Mpg_meet 130 = .ok (.getfield 210, 3) := by decide +kernel
theorem d_Mpg_meet_133 : decode b_Mpg_meet 133 = .ok (.iload_n 1, 1) := by decide +kernel
theorem d_Mpg_meet_134 : decode b_Mpg_meet 134 = .ok (.iaload, 1) := by decide +kernel
theorem d_Mpg_meet_135 : decode b_Mpg_meet 135 = .ok (.iaload, 1) := by decide +kernel
theorem d_Mpg_meet_136 : decode b_Mpg_meet 136 = .ok (.iconst 2, 1) := by decide +kernel
theorem d_Mpg_meet_137 : decode b_Mpg_meet 137 = .ok (.if_icmp .ne 18, 3) := by decide +kernel
theorem d_Mpg_meet_140 : decode b_Mpg_meet 140 = .ok (.aload_n 0, 1) := by decide +kernel
theorem d_Mpg_meet_141 : decode b_Mpg_meet 141 = .ok (.iload_n 1, 1) := by decide +kernel
theorem d_Mpg_meet_142 : decode b_Mpg_meet 142 = .ok (.iconst 1, 1) := by decide +kernel
theorem d_Mpg_meet_143 : decode b_Mpg_meet 143 = .ok (.invokevirtual 577, 3) := by decide +kernel
theorem d_Mpg_meet_146 : decode b_Mpg_meet 146 = .ok (.pop, 1) := by decide +kernel
theorem d_Mpg_meet_147 : decode b_Mpg_meet 147 = .ok (.aload_n 0, 1) := by decide +kernel
theorem d_Mpg_meet_148 : decode b_Mpg_meet 148 = .ok (.iconst 1, 1) := by decide +kernel
theorem d_Mpg_meet_149 : decode b_Mpg_meet 149 = .ok (.putfield 602, 3) := by decide +kernel
theorem d_Mpg_meet_152 : decode b_Mpg_meet 152 = .ok (.goto 28, 3) := by decide +kernel
theorem d_Mpg_meet_155 : decode b_Mpg_meet 155 = .ok (.aload_n 0, 1) := by decide +kernel
theorem d_Mpg_meet_156 : decode b_Mpg_meet 156 = .ok (.aload_n 0, 1) := by decide +kernel
theorem d_Mpg_meet_157 : decode b_Mpg_meet 157 = .ok (.getfield 216, 3) := by decide +kernel
theorem d_Mpg_meet_160 : decode b_Mpg_meet 160 = .ok (.iload_n 1, 1) := by decide +kernel
theorem d_Mpg_meet_161 : decode b_Mpg_meet 161 = .ok (.iaload, 1) := by decide +kernel
theorem d_Mpg_meet_162 : decode b_Mpg_meet 162 = .ok (.invokevirtual 599, 3) := by decide +kernel
theorem d_Mpg_meet_165 : decode b_Mpg_meet 165 = .ok (.goto 15, 3) := by decide +kernel
theorem d_Mpg_meet_168 : decode b_Mpg_meet 168 = .ok (.aload_n 0, 1) := by decide +kernel
theorem d_Mpg_meet_169 : decode b_Mpg_meet 169 = .ok (.iload_n 1, 1) := by decide +kernel
theorem d_Mpg_meet_170 : decode b_Mpg_meet 170 = .ok (.iconst 1, 1) := by decide +kernel
theorem d_Mpg_meet_171 : decode b_Mpg_meet 171 = .ok (.invokevirtual 577, 3) := by decide +kernel
theorem d_Mpg_meet_174 : decode b_Mpg_meet 174 = .ok (.pop, 1) := by decide +kernel
theorem d_Mpg_meet_175 : decode b_Mpg_meet 175 = .ok (.aload_n 0, 1) := by decide +kernel
theorem d_Mpg_meet_176 : decode b_Mpg_meet 176 = .ok (.iconst 1, 1) := by decide +kernel
theorem d_Mpg_meet_177 : decode b_Mpg_meet 177 = .ok (.putfield 602, 3) := by decide +kernel
theorem d_Mpg_meet_180 : decode b_Mpg_meet 180 = .ok (.return_, 1) := by decide +kernel
theorem q_Mpg_meet : px_y y_Mpg_meet 1 := by unfold px_y; decide +kernel
def MtC (l : Launch) (D : va_G) (cs : Nat → ClassId) (d : Nat) : Prop := ∀ (ma0 : Nat → Nat → Int32) (ys : Int) (ns : Int) (nf : Int) (kn : Int) (lo : Int) (hi : Int) (h : Nat) (r : Nat → Nat) (g : Nat → Nat → Option Nat) (tf : Nat → Int32) (ta : Nat → Nat → Int32) (pf : Nat → Int32) (na : Nat → Nat → Int32) (wa : Nat → Nat → Int32) (ca : Nat → Nat → Int32) (ef : Nat → Int32) (ea : Nat → Nat → Int32) (xf : Nat → Int32) (xa : Nat → Nat → Int32) (ma : Nat → Nat → Int32) (cf : Nat → Int32) (p0 : Int32)  (g0 : 0 ≤ lo) (g1 : hi ≤ (pf 13).toInt) (g2 : (pf 13).toInt ≤ 2100) (g3 : (tf 6).toInt ≤ 2049) (g4 : (cf 33).toInt = kn) (g5 : 0 ≤ kn) (g6 : (cf 48).toInt = ns) (g7 : (cf 38).toInt = nf) (g8 : 0 ≤ nf) (g9 : 0 ≤ (cf 46).toInt) (g10 : (cf 46).toInt ≤ 1) (g11 : 0 ≤ (cf 47).toInt) (g12 : (cf 47).toInt ≤ 1) (htk : TkI tf ta) (hfs : FsI (tf 6).toInt (pf 13).toInt na) (hwr : WrV cf (tf 6).toInt) (hkt : KnT (tf 6).toInt ca (cf 33).toInt) (hft : FnT (tf 6).toInt na ca (cf 38).toInt) (hks : KnS ca kn ns ys) (hfp : FnP na ca nf) (han : Ann na ma0 ma) (hec : EcV ta (tf 6).toInt na ma0 d lo hi p0), MetV l y_Mpg_meet b_Mpg_meet 3 D cs (4 * d + 16) (200 * d + 560) (0) (0) [.ref h, .int p0] [wdP cs h r g tf ta pf na ma wa cf ca ef ea xf xa] (oX (fun A U H => (oP A g U H)) [wdP cs h r g tf ta pf na ma wa cf ca ef ea xf xa]) (fun ps => ∃ (ma' : Nat → Nat → Int32) (cf' : Nat → Int32), (ps = [wdP cs h r g tf ta pf na ma' wa cf' ca ef ea xf xa]) ∧ (KpE cf cf') ∧ (WrV cf' (tf 6).toInt) ∧ ((cf' 33).toInt = (cf 33).toInt) ∧ ((cf' 38).toInt = (cf 38).toInt) ∧ ((cf' 48).toInt = (cf 48).toInt) ∧ ((cf' 57).toInt = (cf 57).toInt) ∧ ((cf' 47).toInt = 1 → (cf 47).toInt = 1 ∨ 1 ≤ (cf' 30).toInt) ∧ (0 ≤ (cf' 46).toInt) ∧ ((cf' 46).toInt ≤ 1) ∧ (0 ≤ (cf' 47).toInt) ∧ ((cf' 47).toInt ≤ 1) ∧ ((cf' 46).toInt = 0 → (cf 46).toInt = 0) ∧ ((cf' 47).toInt = 0 → (cf 47).toInt = 0) ∧ (Ann na ma0 ma') ∧ (FrC lo hi ma ma') ∧ (MtR cf' ta ca na ma0 kn d p0))
set_option maxHeartbeats 4000000 in
set_option maxRecDepth 100000 in
theorem c_mp_meet (l : Launch) (D : va_G) (cs : Nat → ClassId) (ma0 : Nat → Nat → Int32) (ys : Int) (ns : Int) (nf : Int) (kn : Int) (d : Nat) (lo : Int) (hi : Int) (h : Nat) (r : Nat → Nat) (g : Nat → Nat → Option Nat) (tf : Nat → Int32) (ta : Nat → Nat → Int32) (pf : Nat → Int32) (na : Nat → Nat → Int32) (wa : Nat → Nat → Int32) (ca : Nat → Nat → Int32) (ef : Nat → Int32) (ea : Nat → Nat → Int32) (xf : Nat → Int32) (xa : Nat → Nat → Int32) (ma : Nat → Nat → Int32) (cf : Nat → Int32) (p0 : Int32)  (g0 : 0 ≤ lo) (g1 : hi ≤ (pf 13).toInt) (g2 : (pf 13).toInt ≤ 2100) (g3 : (tf 6).toInt ≤ 2049) (g4 : (cf 33).toInt = kn) (g5 : 0 ≤ kn) (g6 : (cf 48).toInt = ns) (g7 : (cf 38).toInt = nf) (g8 : 0 ≤ nf) (g9 : 0 ≤ (cf 46).toInt) (g10 : (cf 46).toInt ≤ 1) (g11 : 0 ≤ (cf 47).toInt) (g12 : (cf 47).toInt ≤ 1) (htk : TkI tf ta) (hfs : FsI (tf 6).toInt (pf 13).toInt na) (hwr : WrV cf (tf 6).toInt) (hkt : KnT (tf 6).toInt ca (cf 33).toInt) (hft : FnT (tf 6).toInt na ca (cf 38).toInt) (hks : KnS ca kn ns ys) (hfp : FnP na ca nf) (han : Ann na ma0 ma) (hec : EcV ta (tf 6).toInt na ma0 (d + 1) lo hi p0) (hLM : MtC l D cs d) : MetV l y_Mpg_meet b_Mpg_meet 3 D cs (4 * (d + 1) + 16) (200 * (d + 1) + 560) (0) (0) [.ref h, .int p0] [wdP cs h r g tf ta pf na ma wa cf ca ef ea xf xa] (oX (fun A U H => (oP A g U H)) [wdP cs h r g tf ta pf na ma wa cf ca ef ea xf xa]) (fun ps => ∃ (ma' : Nat → Nat → Int32) (cf' : Nat → Int32), (ps = [wdP cs h r g tf ta pf na ma' wa cf' ca ef ea xf xa]) ∧ (KpE cf cf') ∧ (WrV cf' (tf 6).toInt) ∧ ((cf' 33).toInt = (cf 33).toInt) ∧ ((cf' 38).toInt = (cf 38).toInt) ∧ ((cf' 48).toInt = (cf 48).toInt) ∧ ((cf' 57).toInt = (cf 57).toInt) ∧ ((cf' 47).toInt = 1 → (cf 47).toInt = 1 ∨ 1 ≤ (cf' 30).toInt) ∧ (0 ≤ (cf' 46).toInt) ∧ ((cf' 46).toInt ≤ 1) ∧ (0 ≤ (cf' 47).toInt) ∧ ((cf' 47).toInt ≤ 1) ∧ ((cf' 46).toInt = 0 → (cf 46).toInt = 0) ∧ ((cf' 47).toInt = 0 → (cf 47).toInt = 0) ∧ (Ann na ma0 ma') ∧ (FrC lo hi ma ma') ∧ (MtR cf' ta ca na ma0 kn (d + 1) p0)) := by
  refine px_enter (by decide) (Nat.le_of_ble_eq_true rfl) ?_
  intro p e s m below meth c A ls hAe S hr hlk hnm hA hT hX hw hl
  have hl : lv_has ls 3 [(0, .ref h), (1, .int p0)] := hl
  have lp0 := Int32.le_toInt p0
  have up0 := Int32.toInt_lt p0
  have cst1 : (1 : Int32).toInt = 1 := rfl
  have cst2 : (2 : Int32).toInt = 2 := rfl
  have hX : (fun A U H => (oP A g U H)) A s s.heap := by rw [hAe]; exact hX
  have hP := hX
  have hZ := hP.1
  have hF0 := hP.2.1
  have hke : KpE cf cf := KpE.rf
  have hfc : FrC lo hi ma ma := FrC.rf
  have hwr0 := hwr.1
  have hk11 := hkt.1
  have hf11 := hft.1
  have hec_p0 := hec
  have hrg := EcV.rng hec
  have J70 : ∀ (n_70 : Nat) (ma_70 : Nat → Nat → Int32) (cf_70 : Nat → Int32) (mid_70 : Int) (x70_2 : Int32) (H : Heap) (locs : List Loc) (ls : Array Slot), (KpE cf cf_70) → (WrV cf_70 (tf 6).toInt) → ((cf_70 33).toInt = (cf 33).toInt) → ((cf_70 38).toInt = (cf 38).toInt) → ((cf_70 48).toInt = (cf 48).toInt) → ((cf_70 57).toInt = (cf 57).toInt) → ((cf_70 47).toInt = 1 → (cf 47).toInt = 1 ∨ 1 ≤ (cf_70 30).toInt) → (0 ≤ (cf_70 46).toInt) → ((cf_70 46).toInt ≤ 1) → (0 ≤ (cf_70 47).toInt) → ((cf_70 47).toInt ≤ 1) → ((cf_70 46).toInt = 0 → (cf 46).toInt = 0) → ((cf_70 47).toInt = 0 → (cf 47).toInt = 0) → (Ann na ma0 ma_70) → (FrC lo hi ma ma_70) → (lo ≤ mid_70) → (mid_70 ≤ hi) → ((na 14 p0.toNatClampNeg).toInt = 7) → (RcN ta (tf 6).toInt na ma0 d p0 mid_70 hi x70_2) → (MtS cf_70 ta ca na ma0 kn d (na 17 p0.toNatClampNeg) x70_2) → hi - mid_70 < (n_70 : Int) → pw D A s.heap H locs [wdP cs h r g tf ta pf na ma_70 wa cf_70 ca ef ea xf xa] → lv_has ls 3 [(0, .ref h), (1, .int p0), (2, .int x70_2)] → W p l e { frames := (4 * (d + 1) + 16), cells := 0, slots := 0, locals := (200 * (d + 1) + 560) } s m [.ref h, .int p0].toArray below meth c H locs 0 0 (MQ below (va_Qv (fun ps => ∃ (ma' : Nat → Nat → Int32) (cf' : Nat → Int32), (ps = [wdP cs h r g tf ta pf na ma' wa cf' ca ef ea xf xa]) ∧ (KpE cf cf') ∧ (WrV cf' (tf 6).toInt) ∧ ((cf' 33).toInt = (cf 33).toInt) ∧ ((cf' 38).toInt = (cf 38).toInt) ∧ ((cf' 48).toInt = (cf 48).toInt) ∧ ((cf' 57).toInt = (cf 57).toInt) ∧ ((cf' 47).toInt = 1 → (cf 47).toInt = 1 ∨ 1 ≤ (cf' 30).toInt) ∧ (0 ≤ (cf' 46).toInt) ∧ ((cf' 46).toInt ≤ 1) ∧ (0 ≤ (cf' 47).toInt) ∧ ((cf' 47).toInt ≤ 1) ∧ ((cf' 46).toInt = 0 → (cf 46).toInt = 0) ∧ ((cf' 47).toInt = 0 → (cf 47).toInt = 0) ∧ (Ann na ma0 ma') ∧ (FrC lo hi ma ma') ∧ (MtR cf' ta ca na ma0 kn (d + 1) p0)) (pc_B D (va_A ([wdP cs h r g tf ta pf na ma wa cf ca ef ea xf xa] : List va_W).flatten s.heap.size)) (va_A ([wdP cs h r g tf ta pf na ma wa cf ca ef ea xf xa] : List va_W).flatten s.heap.size)) [.ref h, .int p0].toArray s 0 0 A) (F0 m 70 ls []) := by
    intro  n_70
    induction n_70 with
    | zero =>
      intro ma_70 cf_70 mid_70 x70_2 H locs ls k70_0 k70_1 k70_2 k70_3 k70_4 k70_5 k70_6 k70_7 k70_8 k70_9 k70_10 k70_11 k70_12 k70_13 k70_14 k70_15 k70_16 k70_17 k70_18 k70_19 hm hw hl
      have lx70_2 := Int32.le_toInt x70_2
      have ux70_2 := Int32.toInt_lt x70_2
      have hke := k70_0
      have hwr := k70_1
      have hw0_k70_1 := hwr.1
      have han := k70_13
      have hfc := k70_14
      have hrr := k70_18
      have hmts := k70_19
      exact absurd hm (by first | with_reducible rfl | with_reducible assumption | omega)
    | succ n_70 ih70 =>
      intro ma_70 cf_70 mid_70 x70_2 H locs ls k70_0 k70_1 k70_2 k70_3 k70_4 k70_5 k70_6 k70_7 k70_8 k70_9 k70_10 k70_11 k70_12 k70_13 k70_14 k70_15 k70_16 k70_17 k70_18 k70_19 hm hw hl
      have lx70_2 := Int32.le_toInt x70_2
      have ux70_2 := Int32.toInt_lt x70_2
      have hke := k70_0
      have hwr := k70_1
      have hw0_k70_1 := hwr.1
      have han := k70_13
      have hfc := k70_14
      have hrr := k70_18
      have hmts := k70_19
      refine lv_iload_n S.x S.b d_Mpg_meet_70 rfl (lv_at hl 2 rfl) ?_
      refine lv_if_lt (tgt := 89) S.x S.b d_Mpg_meet_71 (by decide) (fun c1 => ?_) (fun c1 => ?_)
      · have nc1 : x70_2.toInt < (0 : Int) := (i_lt (x := x70_2) (y := 0)).mp c1
        refine lv_goto (tgt := 180) S.x S.b d_Mpg_meet_89 (by decide) ?_
        exact px_vret S hr hlk hAe hw (Nat.le_of_ble_eq_true rfl) (Nat.le_of_ble_eq_true rfl) (⟨ma_70, cf_70, rfl, (show KpE cf cf_70 from hke), (show WrV cf_70 (tf 6).toInt from hwr), (show (cf_70 33).toInt = (cf 33).toInt from by first | exact k70_2 | omega), (show (cf_70 38).toInt = (cf 38).toInt from by first | exact k70_3 | omega), (show (cf_70 48).toInt = (cf 48).toInt from by first | exact k70_4 | omega), (show (cf_70 57).toInt = (cf 57).toInt from by first | exact k70_5 | omega), (show (cf_70 47).toInt = 1 → (cf 47).toInt = 1 ∨ 1 ≤ (cf_70 30).toInt from by first | exact k70_6 | omega), (show 0 ≤ (cf_70 46).toInt from by first | exact k70_7 | omega), (show (cf_70 46).toInt ≤ 1 from by first | exact k70_8 | omega), (show 0 ≤ (cf_70 47).toInt from by first | exact k70_9 | omega), (show (cf_70 47).toInt ≤ 1 from by first | exact k70_10 | omega), (show (cf_70 46).toInt = 0 → (cf 46).toInt = 0 from by first | exact k70_11 | omega), (show (cf_70 47).toInt = 0 → (cf 47).toInt = 0 from by first | exact k70_12 | omega), (show Ann na ma0 ma_70 from han), (show FrC lo hi ma ma_70 from hfc), (show MtR cf_70 ta ca na ma0 kn (d + 1) p0 from (fun a9 b9 => (hmts a9 b9).elim fun m9 g9 => Or.inr (Or.inr (Or.inr (Or.inl ⟨by first | with_reducible rfl | with_reducible assumption | omega, m9, g9.row (by first | with_reducible rfl | with_reducible assumption | omega)⟩)))))⟩) d_Mpg_meet_180
      · have nc1 : ¬ x70_2.toInt < (0 : Int) := mt (i_lt (x := x70_2) (y := 0)).mpr c1
        refine lv_aload_n S.x S.b d_Mpg_meet_74 rfl (lv_at hl 0 rfl) ?_
        obtain ⟨md2, hm1_md2, hm2_md2, ⟨hec_x70_2, hne_md2⟩, hx3_md2, hrr2⟩ := RcE.step hrr (by first | with_reducible rfl | with_reducible assumption | omega)
        refine lv_iload_n S.x S.b d_Mpg_meet_75 rfl (lv_at hl 2 rfl) ?_
        refine px_callv (pr := []) (px_runV (As := [.int x70_2]) (rest := []) S (hLM ma0 ys ns nf kn mid_70 md2 h r g tf ta pf na wa ca ef ea xf xa ma_70 cf_70 x70_2 (show 0 ≤ mid_70 from by first | exact oz_16d7fa9f32 k70_15 g0 | omega) (show md2 ≤ (pf 13).toInt from by first | exact oz_bbb5b20c1a g1 hm2_md2 | omega) (show (pf 13).toInt ≤ 2100 from by first | exact g2 | omega) (show (tf 6).toInt ≤ 2049 from by first | exact g3 | omega) (show (cf_70 33).toInt = kn from by first | exact oz_1687f4cc65 g4 k70_2 | omega) (show 0 ≤ kn from by first | exact g5 | omega) (show (cf_70 48).toInt = ns from by first | exact oz_1687f4cc65 g6 k70_4 | omega) (show (cf_70 38).toInt = nf from by first | exact oz_1687f4cc65 g7 k70_3 | omega) (show 0 ≤ nf from by first | exact g8 | omega) (show 0 ≤ (cf_70 46).toInt from by first | exact k70_7 | omega) (show (cf_70 46).toInt ≤ 1 from by first | exact k70_8 | omega) (show 0 ≤ (cf_70 47).toInt from by first | exact k70_9 | omega) (show (cf_70 47).toInt ≤ 1 from by first | exact k70_10 | omega) htk (FsI.le (N' := (pf 13).toInt) hfs (by first | with_reducible rfl | with_reducible assumption | omega)) hwr (KnT.eq hkt (by first | with_reducible rfl | with_reducible assumption | omega)) (FnT.eq hft (by first | with_reducible rfl | with_reducible assumption | omega)) hks hfp han hec_x70_2 _) hT (pr := []) (pcs := [wdP cs h r g tf ta pf na ma_70 wa cf_70 ca ef ea xf xa]) hw (oX_call (P := (fun A U H => (oP A g U H))) (pr := []) oG_P hw hA hP) (px_recv hT hw 0 0 rfl rfl rfl) m13_1 m12_238 m13_0 ms_12_13 m1_21 q_Mpg_meet ⟨show (4 * d + 16) + 1 ≤ (4 * (d + 1) + 16) from by first | with_reducible rfl | with_reducible assumption | omega, show 8 + (3 + 11) + (200 * d + 560) ≤ (200 * (d + 1) + 560) from by first | with_reducible rfl | with_reducible assumption | omega⟩ hl.1 rfl (Nat.le_of_ble_eq_true rfl) d_Mpg_meet_76 ⟨Nat.le_of_ble_eq_true rfl, Nat.le_of_ble_eq_true rfl⟩) hw hA (fun p7 H locs hp7 hw => ?_)
        obtain ⟨ma5, cf6, rfl, e9, e10, e11, e12, e13, e14, e15, e16, e17, e18, e19, e20, e21, e22, e23, e24⟩ := hp7
        have e9 : KpE cf_70 cf6 := e9
        have hke := (hke).tr e9
        have hkz_e9 := e9.2
        have e10 : WrV cf6 (tf 6).toInt := e10
        have hwr := e10
        have hw0_e10 := hwr.1
        have e11 : (cf6 33).toInt = (cf_70 33).toInt := e11
        have e12 : (cf6 38).toInt = (cf_70 38).toInt := e12
        have e13 : (cf6 48).toInt = (cf_70 48).toInt := e13
        have e14 : (cf6 57).toInt = (cf_70 57).toInt := e14
        have e15 : (cf6 47).toInt = 1 → (cf_70 47).toInt = 1 ∨ 1 ≤ (cf6 30).toInt := e15
        have e16 : 0 ≤ (cf6 46).toInt := e16
        have e17 : (cf6 46).toInt ≤ 1 := e17
        have e18 : 0 ≤ (cf6 47).toInt := e18
        have e19 : (cf6 47).toInt ≤ 1 := e19
        have e20 : (cf6 46).toInt = 0 → (cf_70 46).toInt = 0 := e20
        have e21 : (cf6 47).toInt = 0 → (cf_70 47).toInt = 0 := e21
        have e22 : Ann na ma0 ma5 := e22
        have han := e22
        have e23 : FrC mid_70 md2 ma_70 ma5 := e23
        have hfc := hfc.tr e23 (by first | with_reducible rfl | with_reducible assumption | omega) (by first | with_reducible rfl | with_reducible assumption | omega)
        have hmts := RkO.tr hmts (by first | with_reducible rfl | with_reducible assumption | omega) (by first | with_reducible rfl | with_reducible assumption | omega)
        have e24 : MtR cf6 ta ca na ma0 kn d x70_2 := e24
        have hmt_x70_2 := e24
        have hw : pw D A s.heap H locs [wdP cs h r g tf ta pf na ma5 wa cf6 ca ef ea xf xa] := hw
        refine lv_aload_n S.x S.b d_Mpg_meet_79 rfl (lv_at hl 0 rfl) ?_
        refine px_get S k_Mpg hT hw 0 0 21 (v := .ref (r 21)) rfl rfl rfl (by decide) m10_7 d_Mpg_meet_80 ?_
        refine lv_iload_n S.x S.b d_Mpg_meet_83 rfl (lv_at hl 2 rfl) ?_
        refine px_iald S hT hw 0 17 (n := 2100) (f := (na 21)) rfl gp_21 (x := x70_2) (vp_in_iff.mpr (by constructor <;> omega)) d_Mpg_meet_84 ?_
        refine lv_topi (fun z25 ez25 => ?_)
        have lz25 := Int32.le_toInt z25
        have uz25 := Int32.toInt_lt z25
        refine lv_istore_n (lv' := [(2, .int z25), (0, .ref h), (1, .int p0)]) S.x S.b d_Mpg_meet_85 rfl hl (by decide) rfl (fun ls hl => ?_)
        refine lv_goto (tgt := 70) S.x S.b d_Mpg_meet_86 (by decide) ?_
        exact ih70 ma5 cf6 md2 z25 _ _ ls (show KpE cf cf6 from hke) (show WrV cf6 (tf 6).toInt from hwr) (show (cf6 33).toInt = (cf 33).toInt from by first | exact oz_1687f4cc65 k70_2 e11 | omega) (show (cf6 38).toInt = (cf 38).toInt from by first | exact oz_1687f4cc65 k70_3 e12 | omega) (show (cf6 48).toInt = (cf 48).toInt from by first | exact oz_1687f4cc65 k70_4 e13 | omega) (show (cf6 57).toInt = (cf 57).toInt from by first | exact oz_1687f4cc65 k70_5 e14 | omega) (show (cf6 47).toInt = 1 → (cf 47).toInt = 1 ∨ 1 ≤ (cf6 30).toInt from by first | with_reducible rfl | with_reducible assumption | omega) (show 0 ≤ (cf6 46).toInt from by first | exact e16 | omega) (show (cf6 46).toInt ≤ 1 from by first | exact e17 | omega) (show 0 ≤ (cf6 47).toInt from by first | exact e18 | omega) (show (cf6 47).toInt ≤ 1 from by first | exact e19 | omega) (show (cf6 46).toInt = 0 → (cf 46).toInt = 0 from by first | with_reducible rfl | with_reducible assumption | omega) (show (cf6 47).toInt = 0 → (cf 47).toInt = 0 from by first | with_reducible rfl | with_reducible assumption | omega) (show Ann na ma0 ma5 from han) (show FrC lo hi ma ma5 from hfc) (show lo ≤ md2 from by first | exact hm1_md2 | omega) (show md2 ≤ hi from by first | exact hm2_md2 | omega) (show (na 14 p0.toNatClampNeg).toInt = 7 from by first | exact k70_17 | omega) (show RcN ta (tf 6).toInt na ma0 d p0 md2 hi z25 from (by rw [ez25]; exact hrr2)) (show MtS cf6 ta ca na ma0 kn d (na 17 p0.toNatClampNeg) z25 from (MtS.s hmts hmt_x70_2 ez25)) (show hi - md2 < (n_70 : Int) from by first | with_reducible rfl | with_reducible assumption | omega) hw (lv_sub hl [1, 2, 0] rfl)
  refine lv_aload_n S.x S.b d_Mpg_meet_0 rfl (lv_at hl 0 rfl) ?_
  refine px_get S k_Mpg hT hw 0 0 14 (v := .ref (r 14)) rfl rfl rfl (by decide) m9_238 d_Mpg_meet_1 ?_
  refine lv_iload_n S.x S.b d_Mpg_meet_4 rfl (lv_at hl 1 rfl) ?_
  refine px_bald S hT hw 0 10 (n := 2100) (f := (na 14)) rfl gp_14 (x := p0) (vp_in_iff.mpr (by first | exact oz_a7e05de1cd hrg.2.2 hrg.2.1 g1 g2 | (constructor <;> omega))) d_Mpg_meet_5 ?_
  refine lv_topi (fun z26 ez26 => ?_)
  have lz26 := Int32.le_toInt z26
  have uz26 := Int32.toInt_lt z26
  have rz26 := EcV.kd hec_p0 ez26
  refine px_tableD S (dt := 168) [(52, [1]), (55, [2]), (168, [3, 4, 6]), (125, [5]), (63, [7]), (92, [8])] d_Mpg_meet_6 (by decide +kernel) (by decide) (by decide +kernel) ?_ ?_
  · intro hdf_6
    refine lv_aload_n S.x S.b d_Mpg_meet_168 rfl (lv_at hl 0 rfl) ?_
    refine lv_iload_n S.x S.b d_Mpg_meet_169 rfl (lv_at hl 1 rfl) ?_
    refine lv_iconst (v := 1) S.x S.b d_Mpg_meet_170 (by decide) ?_
    refine px_calli (pr := []) (px_runV (As := [.int p0, .int 1]) (rest := []) S (c_S_check l D cs ma0 ys ns nf kn (d + 1) lo hi h r g tf ta pf na wa ca ef ea xf xa ma cf p0 1  (show 0 ≤ lo from by first | exact g0 | omega) (show hi ≤ (pf 13).toInt from by first | exact g1 | omega) (show (pf 13).toInt ≤ 2100 from by first | exact g2 | omega) (show (tf 6).toInt ≤ 2049 from by first | exact g3 | omega) (show (cf 33).toInt = kn from by first | exact g4 | omega) (show 0 ≤ kn from by first | exact g5 | omega) (show (cf 48).toInt = ns from by first | exact g6 | omega) (show (cf 38).toInt = nf from by first | exact g7 | omega) (show 0 ≤ nf from by first | exact g8 | omega) (show 0 ≤ (1 : Int) from by first | decide | omega) (show (1 : Int) ≤ 1 from by first | decide | omega) htk (FsI.le (N' := (pf 13).toInt) hfs (by first | with_reducible rfl | with_reducible assumption | omega)) hwr (KnT.eq hkt (by first | with_reducible rfl | with_reducible assumption | omega)) (FnT.eq hft (by first | with_reducible rfl | with_reducible assumption | omega)) hks hfp han hec_p0 _) hT (pr := []) (pcs := [wdP cs h r g tf ta pf na ma wa cf ca ef ea xf xa]) hw (oX_call (P := (fun A U H => (oP A g U H))) (pr := []) oG_P hw hA hP) (px_recv hT hw 0 0 rfl rfl rfl) m12_217 m12_214 m12_216 ms_12_7 m1_21 q_Mpg_check ⟨show (4 * (d + 1) + 12) + 1 ≤ (4 * (d + 1) + 16) from by first | with_reducible rfl | with_reducible assumption | omega, show 8 + (8 + 11) + (200 * (d + 1) + 420) ≤ (200 * (d + 1) + 560) from by first | with_reducible rfl | with_reducible assumption | omega⟩ hl.1 rfl (Nat.le_of_ble_eq_true rfl) d_Mpg_meet_171 ⟨Nat.le_of_ble_eq_true rfl, Nat.le_of_ble_eq_true rfl⟩) hw hA (fun v32 p31 H locs hp31 hw => ?_)
    obtain ⟨ma29, cf30, rfl, e33, e34, e35, e36, e37, e38, e39, e40, e41, e42, e43, e44, e45, e46, e47⟩ := hp31
    have e33 : KpE cf cf30 := e33
    have hke := (hke).tr e33
    have hkz_e33 := e33.2
    have e34 : WrV cf30 (tf 6).toInt := e34
    have hwr := e34
    have hw0_e34 := hwr.1
    have e35 : (cf30 33).toInt = (cf 33).toInt := e35
    have e36 : (cf30 38).toInt = (cf 38).toInt := e36
    have e37 : (cf30 48).toInt = (cf 48).toInt := e37
    have e38 : (cf30 46).toInt = (cf 46).toInt := e38
    have e39 : (cf30 47).toInt = (cf 47).toInt := e39
    have e40 : (cf30 57).toInt = (cf 57).toInt := e40
    have e41 : Ann na ma0 ma29 := e41
    have han := e41
    have e42 : FrC lo hi ma ma29 := e42
    have hfc := hfc.tr e42 (by first | with_reducible rfl | with_reducible assumption | omega) (by first | with_reducible rfl | with_reducible assumption | omega)
    have e43 : 0 ≤ v32.toInt := e43
    have e44 : v32.toInt ≤ 4 := e44
    have e45 : NmJ ta ca na ma29 kn p0 v32.toInt := e45
    have hnm_p0 := e45
    have e46 : ZTy cf30 (Gk ta ca na ma0 ns ys nf) na ma29 lo hi p0 v32.toInt := e46
    have hzt_p0 := e46
    have e47 : ZNm cf30 (1 : Int) v32.toInt := e47
    have hty_p0 := ZTy.num hzt_p0 e47
    have hw : pw D A s.heap H locs [wdP cs h r g tf ta pf na ma29 wa cf30 ca ef ea xf xa] := hw
    have lv32 := Int32.le_toInt v32
    have uv32 := Int32.toInt_lt v32
    refine lv_pop S.x S.b d_Mpg_meet_174 rfl ?_
    refine lv_aload_n S.x S.b d_Mpg_meet_175 rfl (lv_at hl 0 rfl) ?_
    refine lv_iconst (v := 1) S.x S.b d_Mpg_meet_176 (by decide) ?_
    refine px_put S k_Mpg hT hw 0 0 46 rfl rfl (by decide) m10_37 rfl rfl rfl (Nat.le_of_ble_eq_true rfl) d_Mpg_meet_177 (w' := wdP cs h r g tf ta pf na ma29 wa (upd cf30 46 1) ca ef ea xf xa) (ps' := [wdP cs h r g tf ta pf na ma29 wa (upd cf30 46 1) ca ef ea xf xa]) rfl rfl (fun H locs hw => ?_)
    exact px_vret S hr hlk hAe hw (Nat.le_of_ble_eq_true rfl) (Nat.le_of_ble_eq_true rfl) (⟨ma29, (upd cf30 46 1), rfl, (show KpE cf (upd cf30 46 1) from (KpE.u46 hke)), (show WrV (upd cf30 46 1) (tf 6).toInt from (WrV.u hwr (by decide) (by decide))), (show (cf30 33).toInt = (cf 33).toInt from by first | exact e35 | omega), (show (cf30 38).toInt = (cf 38).toInt from by first | exact e36 | omega), (show (cf30 48).toInt = (cf 48).toInt from by first | exact e37 | omega), (show (cf30 57).toInt = (cf 57).toInt from by first | exact e40 | omega), (show (cf30 47).toInt = 1 → (cf 47).toInt = 1 ∨ 1 ≤ (cf30 30).toInt from by first | with_reducible rfl | with_reducible assumption | omega), (show 0 ≤ (1 : Int) from by first | decide | omega), (show (1 : Int) ≤ 1 from by first | decide | omega), (show 0 ≤ (cf30 47).toInt from by first | exact oz_f3ebed1ad0 e39 g11 | omega), (show (cf30 47).toInt ≤ 1 from by first | exact oz_878017becc e39 g12 | omega), (show (1 : Int) = 0 → (cf 46).toInt = 0 from by first | with_reducible rfl | with_reducible assumption | omega), (show (cf30 47).toInt = 0 → (cf 47).toInt = 0 from by first | exact fun q9 => oz_2c3e9075ce e39 q9 g11 | omega), (show Ann na ma0 ma29 from han), (show FrC lo hi ma ma29 from hfc), (show MtR (upd cf30 46 1) ta ca na ma0 kn (d + 1) p0 from (rko_no (Or.inl rfl)))⟩) d_Mpg_meet_180
  · refine List.forall_mem_cons.mpr ⟨fun c48 => ?_, List.forall_mem_cons.mpr ⟨fun c48 => ?_, List.forall_mem_cons.mpr ⟨fun c48 => ?_, List.forall_mem_cons.mpr ⟨fun c48 => ?_, List.forall_mem_cons.mpr ⟨fun c48 => ?_, List.forall_mem_cons.mpr ⟨fun c48 => ?_, fun _ h => absurd h List.not_mem_nil⟩⟩⟩⟩⟩⟩
    · simp only [List.mem_cons, List.not_mem_nil, or_false] at c48
      refine lv_goto (tgt := 180) S.x S.b d_Mpg_meet_52 (by decide) ?_
      exact px_vret S hr hlk hAe hw (Nat.le_of_ble_eq_true rfl) (Nat.le_of_ble_eq_true rfl) (⟨ma, cf, rfl, (show KpE cf cf from hke), (show WrV cf (tf 6).toInt from hwr), (show (cf 33).toInt = (cf 33).toInt from rfl), (show (cf 38).toInt = (cf 38).toInt from rfl), (show (cf 48).toInt = (cf 48).toInt from rfl), (show (cf 57).toInt = (cf 57).toInt from rfl), (show (cf 47).toInt = 1 → (cf 47).toInt = 1 ∨ 1 ≤ (cf 30).toInt from by first | with_reducible rfl | with_reducible assumption | omega), (show 0 ≤ (cf 46).toInt from by first | exact g9 | omega), (show (cf 46).toInt ≤ 1 from by first | exact g10 | omega), (show 0 ≤ (cf 47).toInt from by first | exact g11 | omega), (show (cf 47).toInt ≤ 1 from by first | exact g12 | omega), (show (cf 46).toInt = 0 → (cf 46).toInt = 0 from by first | exact fun q9 => q9 | omega), (show (cf 47).toInt = 0 → (cf 47).toInt = 0 from by first | exact fun q9 => q9 | omega), (show Ann na ma0 ma from han), (show FrC lo hi ma ma from hfc), (show MtR cf ta ca na ma0 kn (d + 1) p0 from (fun a9 b9 => Or.inl (by first | with_reducible rfl | with_reducible assumption | omega)))⟩) d_Mpg_meet_180
    · simp only [List.mem_cons, List.not_mem_nil, or_false] at c48
      refine lv_aload_n S.x S.b d_Mpg_meet_55 rfl (lv_at hl 0 rfl) ?_
      refine lv_iload_n S.x S.b d_Mpg_meet_56 rfl (lv_at hl 1 rfl) ?_
      refine px_callv (pr := []) (px_runV (As := [.int p0]) (rest := []) S (c_mp_meetName l D cs ma0 ys ns nf kn (d + 1) lo hi h r g tf ta pf na wa ca ef ea xf xa ma cf p0  (show 0 ≤ lo from by first | exact g0 | omega) (show hi ≤ (pf 13).toInt from by first | exact g1 | omega) (show (pf 13).toInt ≤ 2100 from by first | exact g2 | omega) (show (tf 6).toInt ≤ 2049 from by first | exact g3 | omega) (show (cf 33).toInt = kn from by first | exact g4 | omega) (show 0 ≤ kn from by first | exact g5 | omega) (show (cf 48).toInt = ns from by first | exact g6 | omega) (show (cf 38).toInt = nf from by first | exact g7 | omega) (show 0 ≤ nf from by first | exact g8 | omega) (show (na 14 p0.toNatClampNeg).toInt = 2 from by first | with_reducible rfl | with_reducible assumption | omega) (show 0 ≤ (cf 46).toInt from by first | exact g9 | omega) (show (cf 46).toInt ≤ 1 from by first | exact g10 | omega) (show 0 ≤ (cf 47).toInt from by first | exact g11 | omega) (show (cf 47).toInt ≤ 1 from by first | exact g12 | omega) htk (FsI.le (N' := (pf 13).toInt) hfs (by first | with_reducible rfl | with_reducible assumption | omega)) hwr (KnT.eq hkt (by first | with_reducible rfl | with_reducible assumption | omega)) (FnT.eq hft (by first | with_reducible rfl | with_reducible assumption | omega)) hks han hec_p0 _) hT (pr := []) (pcs := [wdP cs h r g tf ta pf na ma wa cf ca ef ea xf xa]) hw (oX_call (P := (fun A U H => (oP A g U H))) (pr := []) oG_P hw hA hP) (px_recv hT hw 0 0 rfl rfl rfl) m13_5 m13_2 m13_4 ms_12_14 m1_21 q_Mpg_meetName ⟨show 4 + 1 ≤ (4 * (d + 1) + 16) from by first | with_reducible rfl | with_reducible assumption | omega, show 8 + (3 + 11) + 160 ≤ (200 * (d + 1) + 560) from by first | with_reducible rfl | with_reducible assumption | omega⟩ hl.1 rfl (Nat.le_of_ble_eq_true rfl) d_Mpg_meet_57 ⟨Nat.le_of_ble_eq_true rfl, Nat.le_of_ble_eq_true rfl⟩) hw hA (fun p53 H locs hp53 hw => ?_)
      obtain ⟨ma51, cf52, rfl, e55, e56, e57, e58, e59, e60, e61, e62, e63, e64, e65, e66, e67, e68, e69, e70⟩ := hp53
      have e55 : KpE cf cf52 := e55
      have hke := (hke).tr e55
      have hkz_e55 := e55.2
      have e56 : WrV cf52 (tf 6).toInt := e56
      have hwr := e56
      have hw0_e56 := hwr.1
      have e57 : (cf52 33).toInt = (cf 33).toInt := e57
      have e58 : (cf52 38).toInt = (cf 38).toInt := e58
      have e59 : (cf52 48).toInt = (cf 48).toInt := e59
      have e60 : (cf52 57).toInt = (cf 57).toInt := e60
      have e61 : (cf52 47).toInt = 1 → (cf 47).toInt = 1 ∨ 1 ≤ (cf52 30).toInt := e61
      have e62 : 0 ≤ (cf52 46).toInt := e62
      have e63 : (cf52 46).toInt ≤ 1 := e63
      have e64 : 0 ≤ (cf52 47).toInt := e64
      have e65 : (cf52 47).toInt ≤ 1 := e65
      have e66 : (cf52 46).toInt = 0 → (cf 46).toInt = 0 := e66
      have e67 : (cf52 47).toInt = 0 → (cf 47).toInt = 0 := e67
      have e68 : Ann na ma0 ma51 := e68
      have han := e68
      have e69 : FrC lo hi ma ma51 := e69
      have hfc := hfc.tr e69 (by first | with_reducible rfl | with_reducible assumption | omega) (by first | with_reducible rfl | with_reducible assumption | omega)
      have e70 : MtF cf52 ta ca na kn p0 := e70
      have hmtf := e70
      have hw : pw D A s.heap H locs [wdP cs h r g tf ta pf na ma51 wa cf52 ca ef ea xf xa] := hw
      refine lv_goto (tgt := 180) S.x S.b d_Mpg_meet_60 (by decide) ?_
      exact px_vret S hr hlk hAe hw (Nat.le_of_ble_eq_true rfl) (Nat.le_of_ble_eq_true rfl) (⟨ma51, cf52, rfl, (show KpE cf cf52 from hke), (show WrV cf52 (tf 6).toInt from hwr), (show (cf52 33).toInt = (cf 33).toInt from by first | exact e57 | omega), (show (cf52 38).toInt = (cf 38).toInt from by first | exact e58 | omega), (show (cf52 48).toInt = (cf 48).toInt from by first | exact e59 | omega), (show (cf52 57).toInt = (cf 57).toInt from by first | exact e60 | omega), (show (cf52 47).toInt = 1 → (cf 47).toInt = 1 ∨ 1 ≤ (cf52 30).toInt from by first | exact e61 | omega), (show 0 ≤ (cf52 46).toInt from by first | exact e62 | omega), (show (cf52 46).toInt ≤ 1 from by first | exact e63 | omega), (show 0 ≤ (cf52 47).toInt from by first | exact e64 | omega), (show (cf52 47).toInt ≤ 1 from by first | exact e65 | omega), (show (cf52 46).toInt = 0 → (cf 46).toInt = 0 from by first | exact e66 | omega), (show (cf52 47).toInt = 0 → (cf 47).toInt = 0 from by first | exact e67 | omega), (show Ann na ma0 ma51 from han), (show FrC lo hi ma ma51 from hfc), (show MtR cf52 ta ca na ma0 kn (d + 1) p0 from (fun a9 b9 => Or.inr (Or.inl ⟨by first | with_reducible rfl | with_reducible assumption | omega, hmtf a9 b9⟩)))⟩) d_Mpg_meet_180
    · simp only [List.mem_cons, List.not_mem_nil, or_false] at c48
      refine lv_aload_n S.x S.b d_Mpg_meet_168 rfl (lv_at hl 0 rfl) ?_
      refine lv_iload_n S.x S.b d_Mpg_meet_169 rfl (lv_at hl 1 rfl) ?_
      refine lv_iconst (v := 1) S.x S.b d_Mpg_meet_170 (by decide) ?_
      refine px_calli (pr := []) (px_runV (As := [.int p0, .int 1]) (rest := []) S (c_S_check l D cs ma0 ys ns nf kn (d + 1) lo hi h r g tf ta pf na wa ca ef ea xf xa ma cf p0 1  (show 0 ≤ lo from by first | exact g0 | omega) (show hi ≤ (pf 13).toInt from by first | exact g1 | omega) (show (pf 13).toInt ≤ 2100 from by first | exact g2 | omega) (show (tf 6).toInt ≤ 2049 from by first | exact g3 | omega) (show (cf 33).toInt = kn from by first | exact g4 | omega) (show 0 ≤ kn from by first | exact g5 | omega) (show (cf 48).toInt = ns from by first | exact g6 | omega) (show (cf 38).toInt = nf from by first | exact g7 | omega) (show 0 ≤ nf from by first | exact g8 | omega) (show 0 ≤ (1 : Int) from by first | decide | omega) (show (1 : Int) ≤ 1 from by first | decide | omega) htk (FsI.le (N' := (pf 13).toInt) hfs (by first | with_reducible rfl | with_reducible assumption | omega)) hwr (KnT.eq hkt (by first | with_reducible rfl | with_reducible assumption | omega)) (FnT.eq hft (by first | with_reducible rfl | with_reducible assumption | omega)) hks hfp han hec_p0 _) hT (pr := []) (pcs := [wdP cs h r g tf ta pf na ma wa cf ca ef ea xf xa]) hw (oX_call (P := (fun A U H => (oP A g U H))) (pr := []) oG_P hw hA hP) (px_recv hT hw 0 0 rfl rfl rfl) m12_217 m12_214 m12_216 ms_12_7 m1_21 q_Mpg_check ⟨show (4 * (d + 1) + 12) + 1 ≤ (4 * (d + 1) + 16) from by first | with_reducible rfl | with_reducible assumption | omega, show 8 + (8 + 11) + (200 * (d + 1) + 420) ≤ (200 * (d + 1) + 560) from by first | with_reducible rfl | with_reducible assumption | omega⟩ hl.1 rfl (Nat.le_of_ble_eq_true rfl) d_Mpg_meet_171 ⟨Nat.le_of_ble_eq_true rfl, Nat.le_of_ble_eq_true rfl⟩) hw hA (fun v76 p75 H locs hp75 hw => ?_)
      obtain ⟨ma73, cf74, rfl, e77, e78, e79, e80, e81, e82, e83, e84, e85, e86, e87, e88, e89, e90, e91⟩ := hp75
      have e77 : KpE cf cf74 := e77
      have hke := (hke).tr e77
      have hkz_e77 := e77.2
      have e78 : WrV cf74 (tf 6).toInt := e78
      have hwr := e78
      have hw0_e78 := hwr.1
      have e79 : (cf74 33).toInt = (cf 33).toInt := e79
      have e80 : (cf74 38).toInt = (cf 38).toInt := e80
      have e81 : (cf74 48).toInt = (cf 48).toInt := e81
      have e82 : (cf74 46).toInt = (cf 46).toInt := e82
      have e83 : (cf74 47).toInt = (cf 47).toInt := e83
      have e84 : (cf74 57).toInt = (cf 57).toInt := e84
      have e85 : Ann na ma0 ma73 := e85
      have han := e85
      have e86 : FrC lo hi ma ma73 := e86
      have hfc := hfc.tr e86 (by first | with_reducible rfl | with_reducible assumption | omega) (by first | with_reducible rfl | with_reducible assumption | omega)
      have e87 : 0 ≤ v76.toInt := e87
      have e88 : v76.toInt ≤ 4 := e88
      have e89 : NmJ ta ca na ma73 kn p0 v76.toInt := e89
      have hnm_p0 := e89
      have e90 : ZTy cf74 (Gk ta ca na ma0 ns ys nf) na ma73 lo hi p0 v76.toInt := e90
      have hzt_p0 := e90
      have e91 : ZNm cf74 (1 : Int) v76.toInt := e91
      have hty_p0 := ZTy.num hzt_p0 e91
      have hw : pw D A s.heap H locs [wdP cs h r g tf ta pf na ma73 wa cf74 ca ef ea xf xa] := hw
      have lv76 := Int32.le_toInt v76
      have uv76 := Int32.toInt_lt v76
      refine lv_pop S.x S.b d_Mpg_meet_174 rfl ?_
      refine lv_aload_n S.x S.b d_Mpg_meet_175 rfl (lv_at hl 0 rfl) ?_
      refine lv_iconst (v := 1) S.x S.b d_Mpg_meet_176 (by decide) ?_
      refine px_put S k_Mpg hT hw 0 0 46 rfl rfl (by decide) m10_37 rfl rfl rfl (Nat.le_of_ble_eq_true rfl) d_Mpg_meet_177 (w' := wdP cs h r g tf ta pf na ma73 wa (upd cf74 46 1) ca ef ea xf xa) (ps' := [wdP cs h r g tf ta pf na ma73 wa (upd cf74 46 1) ca ef ea xf xa]) rfl rfl (fun H locs hw => ?_)
      exact px_vret S hr hlk hAe hw (Nat.le_of_ble_eq_true rfl) (Nat.le_of_ble_eq_true rfl) (⟨ma73, (upd cf74 46 1), rfl, (show KpE cf (upd cf74 46 1) from (KpE.u46 hke)), (show WrV (upd cf74 46 1) (tf 6).toInt from (WrV.u hwr (by decide) (by decide))), (show (cf74 33).toInt = (cf 33).toInt from by first | exact e79 | omega), (show (cf74 38).toInt = (cf 38).toInt from by first | exact e80 | omega), (show (cf74 48).toInt = (cf 48).toInt from by first | exact e81 | omega), (show (cf74 57).toInt = (cf 57).toInt from by first | exact e84 | omega), (show (cf74 47).toInt = 1 → (cf 47).toInt = 1 ∨ 1 ≤ (cf74 30).toInt from by first | with_reducible rfl | with_reducible assumption | omega), (show 0 ≤ (1 : Int) from by first | decide | omega), (show (1 : Int) ≤ 1 from by first | decide | omega), (show 0 ≤ (cf74 47).toInt from by first | exact oz_f3ebed1ad0 e83 g11 | omega), (show (cf74 47).toInt ≤ 1 from by first | exact oz_878017becc e83 g12 | omega), (show (1 : Int) = 0 → (cf 46).toInt = 0 from by first | with_reducible rfl | with_reducible assumption | omega), (show (cf74 47).toInt = 0 → (cf 47).toInt = 0 from by first | exact fun q9 => oz_2c3e9075ce e83 q9 g11 | omega), (show Ann na ma0 ma73 from han), (show FrC lo hi ma ma73 from hfc), (show MtR (upd cf74 46 1) ta ca na ma0 kn (d + 1) p0 from (rko_no (Or.inl rfl)))⟩) d_Mpg_meet_180
    · simp only [List.mem_cons, List.not_mem_nil, or_false] at c48
      refine lv_aload_n S.x S.b d_Mpg_meet_125 rfl (lv_at hl 0 rfl) ?_
      refine px_get S k_Mpg hT hw 0 0 8 (v := .ref (r 8)) rfl rfl rfl (by decide) m9_232 d_Mpg_meet_126 ?_
      refine lv_aload_n S.x S.b d_Mpg_meet_129 rfl (lv_at hl 0 rfl) ?_
      refine px_get S k_Mpg hT hw 0 0 15 (v := .ref (r 15)) rfl rfl rfl (by decide) m9_239 d_Mpg_meet_130 ?_
      refine lv_iload_n S.x S.b d_Mpg_meet_133 rfl (lv_at hl 1 rfl) ?_
      refine px_iald S hT hw 0 11 (n := 2100) (f := (na 15)) rfl gp_15 (x := p0) (vp_in_iff.mpr (by first | exact oz_a7e05de1cd hrg.2.2 hrg.2.1 g1 g2 | (constructor <;> omega))) d_Mpg_meet_134 ?_
      refine lv_topi (fun z92 ez92 => ?_)
      have lz92 := Int32.le_toInt z92
      have uz92 := Int32.toInt_lt z92
      have rz92 := EcV.tok hec_p0 ez92
      refine px_iald S hT hw 0 7 (n := 2060) (f := (ta 8)) rfl gp_8 (x := z92) (vp_in_iff.mpr (by first | exact oz_b607b04d7a rz92.1 rz92.2 g3 | (constructor <;> omega))) d_Mpg_meet_135 ?_
      refine lv_topi (fun z93 ez93 => ?_)
      have lz93 := Int32.le_toInt z93
      have uz93 := Int32.toInt_lt z93
      have rz93 : z93.toInt = sz ta z92 := by rw [ez93]; rfl
      refine lv_iconst (v := 2) S.x S.b d_Mpg_meet_136 (by decide) ?_
      refine lv_icmp_ne (tgt := 155) S.x S.b d_Mpg_meet_137 (by decide) (fun c94 => ?_) (fun c94 => ?_)
      · have nc94 : ¬ z93.toInt = (2 : Int) := mt (i_eq (x := z93) (y := 2)).mpr c94
        refine lv_aload_n S.x S.b d_Mpg_meet_155 rfl (lv_at hl 0 rfl) ?_
        refine lv_aload_n S.x S.b d_Mpg_meet_156 rfl (lv_at hl 0 rfl) ?_
        refine px_get S k_Mpg hT hw 0 0 17 (v := .ref (r 17)) rfl rfl rfl (by decide) m10_1 d_Mpg_meet_157 ?_
        refine lv_iload_n S.x S.b d_Mpg_meet_160 rfl (lv_at hl 1 rfl) ?_
        refine px_iald S hT hw 0 13 (n := 2100) (f := (na 17)) rfl gp_17 (x := p0) (vp_in_iff.mpr (by first | exact oz_a7e05de1cd hrg.2.2 hrg.2.1 g1 g2 | (constructor <;> omega))) d_Mpg_meet_161 ?_
        refine lv_topi (fun z95 ez95 => ?_)
        have lz95 := Int32.le_toInt z95
        have uz95 := Int32.toInt_lt z95
        have hec_z95 := EcV.k56 hec_p0 (by first | with_reducible rfl | with_reducible assumption | omega) ez95; have hrg_z95 := EcV.rng hec_z95
        refine px_callv (pr := []) (px_runV (As := [.int z95]) (rest := []) S (hLM ma0 ys ns nf kn lo p0.toInt h r g tf ta pf na wa ca ef ea xf xa ma cf z95 (show 0 ≤ lo from by first | exact g0 | omega) (show p0.toInt ≤ (pf 13).toInt from by first | exact oz_6996e0781a g1 hrg.2.1 | omega) (show (pf 13).toInt ≤ 2100 from by first | exact g2 | omega) (show (tf 6).toInt ≤ 2049 from by first | exact g3 | omega) (show (cf 33).toInt = kn from by first | exact g4 | omega) (show 0 ≤ kn from by first | exact g5 | omega) (show (cf 48).toInt = ns from by first | exact g6 | omega) (show (cf 38).toInt = nf from by first | exact g7 | omega) (show 0 ≤ nf from by first | exact g8 | omega) (show 0 ≤ (cf 46).toInt from by first | exact g9 | omega) (show (cf 46).toInt ≤ 1 from by first | exact g10 | omega) (show 0 ≤ (cf 47).toInt from by first | exact g11 | omega) (show (cf 47).toInt ≤ 1 from by first | exact g12 | omega) htk (FsI.le (N' := (pf 13).toInt) hfs (by first | with_reducible rfl | with_reducible assumption | omega)) hwr (KnT.eq hkt (by first | with_reducible rfl | with_reducible assumption | omega)) (FnT.eq hft (by first | with_reducible rfl | with_reducible assumption | omega)) hks hfp han hec_z95 _) hT (pr := []) (pcs := [wdP cs h r g tf ta pf na ma wa cf ca ef ea xf xa]) hw (oX_call (P := (fun A U H => (oP A g U H))) (pr := []) oG_P hw hA hP) (px_recv hT hw 0 0 rfl rfl rfl) m13_1 m12_238 m13_0 ms_12_13 m1_21 q_Mpg_meet ⟨show (4 * d + 16) + 1 ≤ (4 * (d + 1) + 16) from by first | with_reducible rfl | with_reducible assumption | omega, show 8 + (3 + 11) + (200 * d + 560) ≤ (200 * (d + 1) + 560) from by first | with_reducible rfl | with_reducible assumption | omega⟩ hl.1 rfl (Nat.le_of_ble_eq_true rfl) d_Mpg_meet_162 ⟨Nat.le_of_ble_eq_true rfl, Nat.le_of_ble_eq_true rfl⟩) hw hA (fun p100 H locs hp100 hw => ?_)
        obtain ⟨ma98, cf99, rfl, e102, e103, e104, e105, e106, e107, e108, e109, e110, e111, e112, e113, e114, e115, e116, e117⟩ := hp100
        have e102 : KpE cf cf99 := e102
        have hke := (hke).tr e102
        have hkz_e102 := e102.2
        have e103 : WrV cf99 (tf 6).toInt := e103
        have hwr := e103
        have hw0_e103 := hwr.1
        have e104 : (cf99 33).toInt = (cf 33).toInt := e104
        have e105 : (cf99 38).toInt = (cf 38).toInt := e105
        have e106 : (cf99 48).toInt = (cf 48).toInt := e106
        have e107 : (cf99 57).toInt = (cf 57).toInt := e107
        have e108 : (cf99 47).toInt = 1 → (cf 47).toInt = 1 ∨ 1 ≤ (cf99 30).toInt := e108
        have e109 : 0 ≤ (cf99 46).toInt := e109
        have e110 : (cf99 46).toInt ≤ 1 := e110
        have e111 : 0 ≤ (cf99 47).toInt := e111
        have e112 : (cf99 47).toInt ≤ 1 := e112
        have e113 : (cf99 46).toInt = 0 → (cf 46).toInt = 0 := e113
        have e114 : (cf99 47).toInt = 0 → (cf 47).toInt = 0 := e114
        have e115 : Ann na ma0 ma98 := e115
        have han := e115
        have e116 : FrC lo p0.toInt ma ma98 := e116
        have hfc := hfc.tr e116 (by first | with_reducible rfl | with_reducible assumption | omega) (by first | with_reducible rfl | with_reducible assumption | omega)
        have e117 : MtR cf99 ta ca na ma0 kn d z95 := e117
        have hmt_z95 := e117
        have hw : pw D A s.heap H locs [wdP cs h r g tf ta pf na ma98 wa cf99 ca ef ea xf xa] := hw
        refine lv_goto (tgt := 180) S.x S.b d_Mpg_meet_165 (by decide) ?_
        exact px_vret S hr hlk hAe hw (Nat.le_of_ble_eq_true rfl) (Nat.le_of_ble_eq_true rfl) (⟨ma98, cf99, rfl, (show KpE cf cf99 from hke), (show WrV cf99 (tf 6).toInt from hwr), (show (cf99 33).toInt = (cf 33).toInt from by first | exact e104 | omega), (show (cf99 38).toInt = (cf 38).toInt from by first | exact e105 | omega), (show (cf99 48).toInt = (cf 48).toInt from by first | exact e106 | omega), (show (cf99 57).toInt = (cf 57).toInt from by first | exact e107 | omega), (show (cf99 47).toInt = 1 → (cf 47).toInt = 1 ∨ 1 ≤ (cf99 30).toInt from by first | exact e108 | omega), (show 0 ≤ (cf99 46).toInt from by first | exact e109 | omega), (show (cf99 46).toInt ≤ 1 from by first | exact e110 | omega), (show 0 ≤ (cf99 47).toInt from by first | exact e111 | omega), (show (cf99 47).toInt ≤ 1 from by first | exact e112 | omega), (show (cf99 46).toInt = 0 → (cf 46).toInt = 0 from by first | exact e113 | omega), (show (cf99 47).toInt = 0 → (cf 47).toInt = 0 from by first | exact e114 | omega), (show Ann na ma0 ma98 from han), (show FrC lo hi ma ma98 from hfc), (show MtR cf99 ta ca na ma0 kn (d + 1) p0 from (fun a9 b9 => Or.inr (Or.inr (Or.inl ⟨by first | with_reducible rfl | with_reducible assumption | omega, by rw [← ez95]; exact hmt_z95 a9 b9⟩))))⟩) d_Mpg_meet_180
      · have nc94 : z93.toInt = (2 : Int) := (i_eq (x := z93) (y := 2)).mp c94
        refine lv_aload_n S.x S.b d_Mpg_meet_140 rfl (lv_at hl 0 rfl) ?_
        refine lv_iload_n S.x S.b d_Mpg_meet_141 rfl (lv_at hl 1 rfl) ?_
        refine lv_iconst (v := 1) S.x S.b d_Mpg_meet_142 (by decide) ?_
        refine px_calli (pr := []) (px_runV (As := [.int p0, .int 1]) (rest := []) S (c_S_check l D cs ma0 ys ns nf kn (d + 1) lo hi h r g tf ta pf na wa ca ef ea xf xa ma cf p0 1  (show 0 ≤ lo from by first | exact g0 | omega) (show hi ≤ (pf 13).toInt from by first | exact g1 | omega) (show (pf 13).toInt ≤ 2100 from by first | exact g2 | omega) (show (tf 6).toInt ≤ 2049 from by first | exact g3 | omega) (show (cf 33).toInt = kn from by first | exact g4 | omega) (show 0 ≤ kn from by first | exact g5 | omega) (show (cf 48).toInt = ns from by first | exact g6 | omega) (show (cf 38).toInt = nf from by first | exact g7 | omega) (show 0 ≤ nf from by first | exact g8 | omega) (show 0 ≤ (1 : Int) from by first | decide | omega) (show (1 : Int) ≤ 1 from by first | decide | omega) htk (FsI.le (N' := (pf 13).toInt) hfs (by first | with_reducible rfl | with_reducible assumption | omega)) hwr (KnT.eq hkt (by first | with_reducible rfl | with_reducible assumption | omega)) (FnT.eq hft (by first | with_reducible rfl | with_reducible assumption | omega)) hks hfp han hec_p0 _) hT (pr := []) (pcs := [wdP cs h r g tf ta pf na ma wa cf ca ef ea xf xa]) hw (oX_call (P := (fun A U H => (oP A g U H))) (pr := []) oG_P hw hA hP) (px_recv hT hw 0 0 rfl rfl rfl) m12_217 m12_214 m12_216 ms_12_7 m1_21 q_Mpg_check ⟨show (4 * (d + 1) + 12) + 1 ≤ (4 * (d + 1) + 16) from by first | with_reducible rfl | with_reducible assumption | omega, show 8 + (8 + 11) + (200 * (d + 1) + 420) ≤ (200 * (d + 1) + 560) from by first | with_reducible rfl | with_reducible assumption | omega⟩ hl.1 rfl (Nat.le_of_ble_eq_true rfl) d_Mpg_meet_143 ⟨Nat.le_of_ble_eq_true rfl, Nat.le_of_ble_eq_true rfl⟩) hw hA (fun v123 p122 H locs hp122 hw => ?_)
        obtain ⟨ma120, cf121, rfl, e124, e125, e126, e127, e128, e129, e130, e131, e132, e133, e134, e135, e136, e137, e138⟩ := hp122
        have e124 : KpE cf cf121 := e124
        have hke := (hke).tr e124
        have hkz_e124 := e124.2
        have e125 : WrV cf121 (tf 6).toInt := e125
        have hwr := e125
        have hw0_e125 := hwr.1
        have e126 : (cf121 33).toInt = (cf 33).toInt := e126
        have e127 : (cf121 38).toInt = (cf 38).toInt := e127
        have e128 : (cf121 48).toInt = (cf 48).toInt := e128
        have e129 : (cf121 46).toInt = (cf 46).toInt := e129
        have e130 : (cf121 47).toInt = (cf 47).toInt := e130
        have e131 : (cf121 57).toInt = (cf 57).toInt := e131
        have e132 : Ann na ma0 ma120 := e132
        have han := e132
        have e133 : FrC lo hi ma ma120 := e133
        have hfc := hfc.tr e133 (by first | with_reducible rfl | with_reducible assumption | omega) (by first | with_reducible rfl | with_reducible assumption | omega)
        have e134 : 0 ≤ v123.toInt := e134
        have e135 : v123.toInt ≤ 4 := e135
        have e136 : NmJ ta ca na ma120 kn p0 v123.toInt := e136
        have hnm_p0 := e136
        have e137 : ZTy cf121 (Gk ta ca na ma0 ns ys nf) na ma120 lo hi p0 v123.toInt := e137
        have hzt_p0 := e137
        have e138 : ZNm cf121 (1 : Int) v123.toInt := e138
        have hty_p0 := ZTy.num hzt_p0 e138
        have hw : pw D A s.heap H locs [wdP cs h r g tf ta pf na ma120 wa cf121 ca ef ea xf xa] := hw
        have lv123 := Int32.le_toInt v123
        have uv123 := Int32.toInt_lt v123
        refine lv_pop S.x S.b d_Mpg_meet_146 rfl ?_
        refine lv_aload_n S.x S.b d_Mpg_meet_147 rfl (lv_at hl 0 rfl) ?_
        refine lv_iconst (v := 1) S.x S.b d_Mpg_meet_148 (by decide) ?_
        refine px_put S k_Mpg hT hw 0 0 46 rfl rfl (by decide) m10_37 rfl rfl rfl (Nat.le_of_ble_eq_true rfl) d_Mpg_meet_149 (w' := wdP cs h r g tf ta pf na ma120 wa (upd cf121 46 1) ca ef ea xf xa) (ps' := [wdP cs h r g tf ta pf na ma120 wa (upd cf121 46 1) ca ef ea xf xa]) rfl rfl (fun H locs hw => ?_)
        refine lv_goto (tgt := 180) S.x S.b d_Mpg_meet_152 (by decide) ?_
        exact px_vret S hr hlk hAe hw (Nat.le_of_ble_eq_true rfl) (Nat.le_of_ble_eq_true rfl) (⟨ma120, (upd cf121 46 1), rfl, (show KpE cf (upd cf121 46 1) from (KpE.u46 hke)), (show WrV (upd cf121 46 1) (tf 6).toInt from (WrV.u hwr (by decide) (by decide))), (show (cf121 33).toInt = (cf 33).toInt from by first | exact e126 | omega), (show (cf121 38).toInt = (cf 38).toInt from by first | exact e127 | omega), (show (cf121 48).toInt = (cf 48).toInt from by first | exact e128 | omega), (show (cf121 57).toInt = (cf 57).toInt from by first | exact e131 | omega), (show (cf121 47).toInt = 1 → (cf 47).toInt = 1 ∨ 1 ≤ (cf121 30).toInt from by first | with_reducible rfl | with_reducible assumption | omega), (show 0 ≤ (1 : Int) from by first | decide | omega), (show (1 : Int) ≤ 1 from by first | decide | omega), (show 0 ≤ (cf121 47).toInt from by first | exact oz_f3ebed1ad0 e130 g11 | omega), (show (cf121 47).toInt ≤ 1 from by first | exact oz_878017becc e130 g12 | omega), (show (1 : Int) = 0 → (cf 46).toInt = 0 from by first | with_reducible rfl | with_reducible assumption | omega), (show (cf121 47).toInt = 0 → (cf 47).toInt = 0 from by first | exact fun q9 => oz_2c3e9075ce e130 q9 g11 | omega), (show Ann na ma0 ma120 from han), (show FrC lo hi ma ma120 from hfc), (show MtR (upd cf121 46 1) ta ca na ma0 kn (d + 1) p0 from (rko_no (Or.inl rfl)))⟩) d_Mpg_meet_180
    · simp only [List.mem_cons, List.not_mem_nil, or_false] at c48
      refine lv_aload_n S.x S.b d_Mpg_meet_63 rfl (lv_at hl 0 rfl) ?_
      refine px_get S k_Mpg hT hw 0 0 17 (v := .ref (r 17)) rfl rfl rfl (by decide) m10_1 d_Mpg_meet_64 ?_
      refine lv_iload_n S.x S.b d_Mpg_meet_67 rfl (lv_at hl 1 rfl) ?_
      refine px_iald S hT hw 0 13 (n := 2100) (f := (na 17)) rfl gp_17 (x := p0) (vp_in_iff.mpr (by first | exact oz_a7e05de1cd hrg.2.2 hrg.2.1 g1 g2 | (constructor <;> omega))) d_Mpg_meet_68 ?_
      refine lv_topi (fun z139 ez139 => ?_)
      have lz139 := Int32.le_toInt z139
      have uz139 := Int32.toInt_lt z139
      have hrr := EcV.k7 hec_p0 (by first | with_reducible rfl | with_reducible assumption | omega) ez139
      refine lv_istore_n (lv' := [(2, .int z139), (0, .ref h), (1, .int p0)]) S.x S.b d_Mpg_meet_69 rfl hl (by decide) rfl (fun ls hl => ?_)
      exact J70 ((hi - lo).toNat + 1) ma cf lo z139 _ _ ls (show KpE cf cf from hke) (show WrV cf (tf 6).toInt from hwr) (show (cf 33).toInt = (cf 33).toInt from rfl) (show (cf 38).toInt = (cf 38).toInt from rfl) (show (cf 48).toInt = (cf 48).toInt from rfl) (show (cf 57).toInt = (cf 57).toInt from rfl) (show (cf 47).toInt = 1 → (cf 47).toInt = 1 ∨ 1 ≤ (cf 30).toInt from by first | with_reducible rfl | with_reducible assumption | omega) (show 0 ≤ (cf 46).toInt from by first | exact g9 | omega) (show (cf 46).toInt ≤ 1 from by first | exact g10 | omega) (show 0 ≤ (cf 47).toInt from by first | exact g11 | omega) (show (cf 47).toInt ≤ 1 from by first | exact g12 | omega) (show (cf 46).toInt = 0 → (cf 46).toInt = 0 from by first | exact fun q9 => q9 | omega) (show (cf 47).toInt = 0 → (cf 47).toInt = 0 from by first | exact fun q9 => q9 | omega) (show Ann na ma0 ma from han) (show FrC lo hi ma ma from hfc) (show lo ≤ lo from by first | exact oz_1cb5f934a5 | omega) (show lo ≤ hi from by first | exact oz_dec8fc8b31 hrg.1 hrg.2.1 | omega) (show (na 14 p0.toNatClampNeg).toInt = 7 from by first | with_reducible rfl | with_reducible assumption | omega) (show RcN ta (tf 6).toInt na ma0 d p0 lo hi z139 from hrr) (show MtS cf ta ca na ma0 kn d (na 17 p0.toNatClampNeg) z139 from (fun _ _ => ⟨0, (ez139).symm⟩)) (show hi - lo < ((((hi - lo).toNat + 1 : Nat) : Int) : Int) from by first | exact oz_natlt | omega) hw (lv_sub hl [1, 2, 0] rfl)
    · simp only [List.mem_cons, List.not_mem_nil, or_false] at c48
      refine lv_aload_n S.x S.b d_Mpg_meet_92 rfl (lv_at hl 0 rfl) ?_
      refine lv_aload_n S.x S.b d_Mpg_meet_93 rfl (lv_at hl 0 rfl) ?_
      refine px_get S k_Mpg hT hw 0 0 17 (v := .ref (r 17)) rfl rfl rfl (by decide) m10_1 d_Mpg_meet_94 ?_
      refine lv_iload_n S.x S.b d_Mpg_meet_97 rfl (lv_at hl 1 rfl) ?_
      refine px_iald S hT hw 0 13 (n := 2100) (f := (na 17)) rfl gp_17 (x := p0) (vp_in_iff.mpr (by first | exact oz_a7e05de1cd hrg.2.2 hrg.2.1 g1 g2 | (constructor <;> omega))) d_Mpg_meet_98 ?_
      refine lv_topi (fun z140 ez140 => ?_)
      have lz140 := Int32.le_toInt z140
      have uz140 := Int32.toInt_lt z140
      obtain ⟨m1, m2, hm1, hm2, hec_z140, hec_y8, hec_x8⟩ := EcV.k8 hec_p0 (by first | with_reducible rfl | with_reducible assumption | omega) ez140 rfl rfl; have hrg_z140 := EcV.rng hec_z140; have hrg_y8 := EcV.rng hec_y8; have hrg_x8 := EcV.rng hec_x8
      refine px_callv (pr := []) (px_runV (As := [.int z140]) (rest := []) S (hLM ma0 ys ns nf kn lo m1 h r g tf ta pf na wa ca ef ea xf xa ma cf z140 (show 0 ≤ lo from by first | exact g0 | omega) (show m1 ≤ (pf 13).toInt from by first | exact oz_f3248735d7 g1 hrg_y8.1 hrg.2.1 hrg_y8.2.1 hrg_x8.1 hrg_x8.2.1 | omega) (show (pf 13).toInt ≤ 2100 from by first | exact g2 | omega) (show (tf 6).toInt ≤ 2049 from by first | exact g3 | omega) (show (cf 33).toInt = kn from by first | exact g4 | omega) (show 0 ≤ kn from by first | exact g5 | omega) (show (cf 48).toInt = ns from by first | exact g6 | omega) (show (cf 38).toInt = nf from by first | exact g7 | omega) (show 0 ≤ nf from by first | exact g8 | omega) (show 0 ≤ (cf 46).toInt from by first | exact g9 | omega) (show (cf 46).toInt ≤ 1 from by first | exact g10 | omega) (show 0 ≤ (cf 47).toInt from by first | exact g11 | omega) (show (cf 47).toInt ≤ 1 from by first | exact g12 | omega) htk (FsI.le (N' := (pf 13).toInt) hfs (by first | with_reducible rfl | with_reducible assumption | omega)) hwr (KnT.eq hkt (by first | with_reducible rfl | with_reducible assumption | omega)) (FnT.eq hft (by first | with_reducible rfl | with_reducible assumption | omega)) hks hfp han hec_z140 _) hT (pr := []) (pcs := [wdP cs h r g tf ta pf na ma wa cf ca ef ea xf xa]) hw (oX_call (P := (fun A U H => (oP A g U H))) (pr := []) oG_P hw hA hP) (px_recv hT hw 0 0 rfl rfl rfl) m13_1 m12_238 m13_0 ms_12_13 m1_21 q_Mpg_meet ⟨show (4 * d + 16) + 1 ≤ (4 * (d + 1) + 16) from by first | with_reducible rfl | with_reducible assumption | omega, show 8 + (3 + 11) + (200 * d + 560) ≤ (200 * (d + 1) + 560) from by first | with_reducible rfl | with_reducible assumption | omega⟩ hl.1 rfl (Nat.le_of_ble_eq_true rfl) d_Mpg_meet_99 ⟨Nat.le_of_ble_eq_true rfl, Nat.le_of_ble_eq_true rfl⟩) hw hA (fun p145 H locs hp145 hw => ?_)
      obtain ⟨ma143, cf144, rfl, e147, e148, e149, e150, e151, e152, e153, e154, e155, e156, e157, e158, e159, e160, e161, e162⟩ := hp145
      have e147 : KpE cf cf144 := e147
      have hke := (hke).tr e147
      have hkz_e147 := e147.2
      have e148 : WrV cf144 (tf 6).toInt := e148
      have hwr := e148
      have hw0_e148 := hwr.1
      have e149 : (cf144 33).toInt = (cf 33).toInt := e149
      have e150 : (cf144 38).toInt = (cf 38).toInt := e150
      have e151 : (cf144 48).toInt = (cf 48).toInt := e151
      have e152 : (cf144 57).toInt = (cf 57).toInt := e152
      have e153 : (cf144 47).toInt = 1 → (cf 47).toInt = 1 ∨ 1 ≤ (cf144 30).toInt := e153
      have e154 : 0 ≤ (cf144 46).toInt := e154
      have e155 : (cf144 46).toInt ≤ 1 := e155
      have e156 : 0 ≤ (cf144 47).toInt := e156
      have e157 : (cf144 47).toInt ≤ 1 := e157
      have e158 : (cf144 46).toInt = 0 → (cf 46).toInt = 0 := e158
      have e159 : (cf144 47).toInt = 0 → (cf 47).toInt = 0 := e159
      have e160 : Ann na ma0 ma143 := e160
      have han := e160
      have e161 : FrC lo m1 ma ma143 := e161
      have hfc := hfc.tr e161 (by first | with_reducible rfl | with_reducible assumption | omega) (by first | with_reducible rfl | with_reducible assumption | omega)
      have e162 : MtR cf144 ta ca na ma0 kn d z140 := e162
      have hmt_z140 := e162
      have hw : pw D A s.heap H locs [wdP cs h r g tf ta pf na ma143 wa cf144 ca ef ea xf xa] := hw
      refine lv_aload_n S.x S.b d_Mpg_meet_102 rfl (lv_at hl 0 rfl) ?_
      refine lv_aload_n S.x S.b d_Mpg_meet_103 rfl (lv_at hl 0 rfl) ?_
      refine px_get S k_Mpg hT hw 0 0 18 (v := .ref (r 18)) rfl rfl rfl (by decide) m10_3 d_Mpg_meet_104 ?_
      refine lv_iload_n S.x S.b d_Mpg_meet_107 rfl (lv_at hl 1 rfl) ?_
      refine px_iald S hT hw 0 14 (n := 2100) (f := (ma143 18)) rfl gp_18 (x := p0) (vp_in_iff.mpr (by first | exact oz_18f227bc52 hrg_x8.2.1 hrg_x8.2.2 hrg.2.1 g1 g2 | (constructor <;> omega))) d_Mpg_meet_108 ?_
      refine lv_topi (fun z163 ez163 => ?_)
      have lz163 := Int32.le_toInt z163
      have uz163 := Int32.toInt_lt z163
      have ha_z163 : z163 = ma0 18 p0.toNatClampNeg := ez163.trans (Ann.b18 han (by first | with_reducible rfl | with_reducible assumption | omega)); have hec_z163 : EcV ta (tf 6).toInt na ma0 d m1 m2 z163 := (by rw [ha_z163]; exact hec_y8)
      refine px_callv (pr := []) (px_runV (As := [.int z163]) (rest := []) S (hLM ma0 ys ns nf kn m1 m2 h r g tf ta pf na wa ca ef ea xf xa ma143 cf144 z163 (show 0 ≤ m1 from by first | exact oz_0a7da9c4d6 hrg_z140.2.1 hrg_z140.2.2 | omega) (show m2 ≤ (pf 13).toInt from by first | exact oz_dc2da80b19 g1 hrg_x8.1 hrg.2.1 hrg_x8.2.1 | omega) (show (pf 13).toInt ≤ 2100 from by first | exact g2 | omega) (show (tf 6).toInt ≤ 2049 from by first | exact g3 | omega) (show (cf144 33).toInt = kn from by first | exact oz_1687f4cc65 g4 e149 | omega) (show 0 ≤ kn from by first | exact g5 | omega) (show (cf144 48).toInt = ns from by first | exact oz_1687f4cc65 g6 e151 | omega) (show (cf144 38).toInt = nf from by first | exact oz_1687f4cc65 g7 e150 | omega) (show 0 ≤ nf from by first | exact g8 | omega) (show 0 ≤ (cf144 46).toInt from by first | exact e154 | omega) (show (cf144 46).toInt ≤ 1 from by first | exact e155 | omega) (show 0 ≤ (cf144 47).toInt from by first | exact e156 | omega) (show (cf144 47).toInt ≤ 1 from by first | exact e157 | omega) htk (FsI.le (N' := (pf 13).toInt) hfs (by first | with_reducible rfl | with_reducible assumption | omega)) hwr (KnT.eq hkt (by first | with_reducible rfl | with_reducible assumption | omega)) (FnT.eq hft (by first | with_reducible rfl | with_reducible assumption | omega)) hks hfp han hec_z163 _) hT (pr := []) (pcs := [wdP cs h r g tf ta pf na ma143 wa cf144 ca ef ea xf xa]) hw (oX_call (P := (fun A U H => (oP A g U H))) (pr := []) oG_P hw hA hP) (px_recv hT hw 0 0 rfl rfl rfl) m13_1 m12_238 m13_0 ms_12_13 m1_21 q_Mpg_meet ⟨show (4 * d + 16) + 1 ≤ (4 * (d + 1) + 16) from by first | with_reducible rfl | with_reducible assumption | omega, show 8 + (3 + 11) + (200 * d + 560) ≤ (200 * (d + 1) + 560) from by first | with_reducible rfl | with_reducible assumption | omega⟩ hl.1 rfl (Nat.le_of_ble_eq_true rfl) d_Mpg_meet_109 ⟨Nat.le_of_ble_eq_true rfl, Nat.le_of_ble_eq_true rfl⟩) hw hA (fun p168 H locs hp168 hw => ?_)
      obtain ⟨ma166, cf167, rfl, e170, e171, e172, e173, e174, e175, e176, e177, e178, e179, e180, e181, e182, e183, e184, e185⟩ := hp168
      have e170 : KpE cf144 cf167 := e170
      have hke := (hke).tr e170
      have hkz_e170 := e170.2
      have e171 : WrV cf167 (tf 6).toInt := e171
      have hwr := e171
      have hw0_e171 := hwr.1
      have e172 : (cf167 33).toInt = (cf144 33).toInt := e172
      have e173 : (cf167 38).toInt = (cf144 38).toInt := e173
      have e174 : (cf167 48).toInt = (cf144 48).toInt := e174
      have e175 : (cf167 57).toInt = (cf144 57).toInt := e175
      have e176 : (cf167 47).toInt = 1 → (cf144 47).toInt = 1 ∨ 1 ≤ (cf167 30).toInt := e176
      have e177 : 0 ≤ (cf167 46).toInt := e177
      have e178 : (cf167 46).toInt ≤ 1 := e178
      have e179 : 0 ≤ (cf167 47).toInt := e179
      have e180 : (cf167 47).toInt ≤ 1 := e180
      have e181 : (cf167 46).toInt = 0 → (cf144 46).toInt = 0 := e181
      have e182 : (cf167 47).toInt = 0 → (cf144 47).toInt = 0 := e182
      have e183 : Ann na ma0 ma166 := e183
      have han := e183
      have e184 : FrC m1 m2 ma143 ma166 := e184
      have hfc := hfc.tr e184 (by first | with_reducible rfl | with_reducible assumption | omega) (by first | with_reducible rfl | with_reducible assumption | omega)
      have hmt_z140 := RkO.tr hmt_z140 (by first | with_reducible rfl | with_reducible assumption | omega) (by first | with_reducible rfl | with_reducible assumption | omega)
      have e185 : MtR cf167 ta ca na ma0 kn d z163 := e185
      have hmt_z163 := e185
      have hw : pw D A s.heap H locs [wdP cs h r g tf ta pf na ma166 wa cf167 ca ef ea xf xa] := hw
      refine lv_aload_n S.x S.b d_Mpg_meet_112 rfl (lv_at hl 0 rfl) ?_
      refine lv_aload_n S.x S.b d_Mpg_meet_113 rfl (lv_at hl 0 rfl) ?_
      refine px_get S k_Mpg hT hw 0 0 19 (v := .ref (r 19)) rfl rfl rfl (by decide) m10_5 d_Mpg_meet_114 ?_
      refine lv_iload_n S.x S.b d_Mpg_meet_117 rfl (lv_at hl 1 rfl) ?_
      refine px_iald S hT hw 0 15 (n := 2100) (f := (ma166 19)) rfl gp_19 (x := p0) (vp_in_iff.mpr (by first | exact oz_18f227bc52 hrg_x8.2.1 hrg_x8.2.2 hrg.2.1 g1 g2 | (constructor <;> omega))) d_Mpg_meet_118 ?_
      refine lv_topi (fun z186 ez186 => ?_)
      have lz186 := Int32.le_toInt z186
      have uz186 := Int32.toInt_lt z186
      have ha_z186 : z186 = ma0 19 p0.toNatClampNeg := ez186.trans (Ann.b19 han (by first | with_reducible rfl | with_reducible assumption | omega)); have hec_z186 : EcV ta (tf 6).toInt na ma0 d m2 p0.toInt z186 := (by rw [ha_z186]; exact hec_x8)
      refine px_callv (pr := []) (px_runV (As := [.int z186]) (rest := []) S (hLM ma0 ys ns nf kn m2 p0.toInt h r g tf ta pf na wa ca ef ea xf xa ma166 cf167 z186 (show 0 ≤ m2 from by first | exact oz_0a7da9c4d6 hrg_y8.2.1 hrg_y8.2.2 | omega) (show p0.toInt ≤ (pf 13).toInt from by first | exact oz_6996e0781a g1 hrg.2.1 | omega) (show (pf 13).toInt ≤ 2100 from by first | exact g2 | omega) (show (tf 6).toInt ≤ 2049 from by first | exact g3 | omega) (show (cf167 33).toInt = kn from by first | exact oz_e13fc83238 g4 e172 e149 | omega) (show 0 ≤ kn from by first | exact g5 | omega) (show (cf167 48).toInt = ns from by first | exact oz_e13fc83238 g6 e174 e151 | omega) (show (cf167 38).toInt = nf from by first | exact oz_e13fc83238 g7 e173 e150 | omega) (show 0 ≤ nf from by first | exact g8 | omega) (show 0 ≤ (cf167 46).toInt from by first | exact e177 | omega) (show (cf167 46).toInt ≤ 1 from by first | exact e178 | omega) (show 0 ≤ (cf167 47).toInt from by first | exact e179 | omega) (show (cf167 47).toInt ≤ 1 from by first | exact e180 | omega) htk (FsI.le (N' := (pf 13).toInt) hfs (by first | with_reducible rfl | with_reducible assumption | omega)) hwr (KnT.eq hkt (by first | with_reducible rfl | with_reducible assumption | omega)) (FnT.eq hft (by first | with_reducible rfl | with_reducible assumption | omega)) hks hfp han hec_z186 _) hT (pr := []) (pcs := [wdP cs h r g tf ta pf na ma166 wa cf167 ca ef ea xf xa]) hw (oX_call (P := (fun A U H => (oP A g U H))) (pr := []) oG_P hw hA hP) (px_recv hT hw 0 0 rfl rfl rfl) m13_1 m12_238 m13_0 ms_12_13 m1_21 q_Mpg_meet ⟨show (4 * d + 16) + 1 ≤ (4 * (d + 1) + 16) from by first | with_reducible rfl | with_reducible assumption | omega, show 8 + (3 + 11) + (200 * d + 560) ≤ (200 * (d + 1) + 560) from by first | with_reducible rfl | with_reducible assumption | omega⟩ hl.1 rfl (Nat.le_of_ble_eq_true rfl) d_Mpg_meet_119 ⟨Nat.le_of_ble_eq_true rfl, Nat.le_of_ble_eq_true rfl⟩) hw hA (fun p191 H locs hp191 hw => ?_)
      obtain ⟨ma189, cf190, rfl, e193, e194, e195, e196, e197, e198, e199, e200, e201, e202, e203, e204, e205, e206, e207, e208⟩ := hp191
      have e193 : KpE cf167 cf190 := e193
      have hke := (hke).tr e193
      have hkz_e193 := e193.2
      have e194 : WrV cf190 (tf 6).toInt := e194
      have hwr := e194
      have hw0_e194 := hwr.1
      have e195 : (cf190 33).toInt = (cf167 33).toInt := e195
      have e196 : (cf190 38).toInt = (cf167 38).toInt := e196
      have e197 : (cf190 48).toInt = (cf167 48).toInt := e197
      have e198 : (cf190 57).toInt = (cf167 57).toInt := e198
      have e199 : (cf190 47).toInt = 1 → (cf167 47).toInt = 1 ∨ 1 ≤ (cf190 30).toInt := e199
      have e200 : 0 ≤ (cf190 46).toInt := e200
      have e201 : (cf190 46).toInt ≤ 1 := e201
      have e202 : 0 ≤ (cf190 47).toInt := e202
      have e203 : (cf190 47).toInt ≤ 1 := e203
      have e204 : (cf190 46).toInt = 0 → (cf167 46).toInt = 0 := e204
      have e205 : (cf190 47).toInt = 0 → (cf167 47).toInt = 0 := e205
      have e206 : Ann na ma0 ma189 := e206
      have han := e206
      have e207 : FrC m2 p0.toInt ma166 ma189 := e207
      have hfc := hfc.tr e207 (by first | with_reducible rfl | with_reducible assumption | omega) (by first | with_reducible rfl | with_reducible assumption | omega)
      have hmt_z140 := RkO.tr hmt_z140 (by first | with_reducible rfl | with_reducible assumption | omega) (by first | with_reducible rfl | with_reducible assumption | omega)
      have hmt_z163 := RkO.tr hmt_z163 (by first | with_reducible rfl | with_reducible assumption | omega) (by first | with_reducible rfl | with_reducible assumption | omega)
      have e208 : MtR cf190 ta ca na ma0 kn d z186 := e208
      have hmt_z186 := e208
      have hw : pw D A s.heap H locs [wdP cs h r g tf ta pf na ma189 wa cf190 ca ef ea xf xa] := hw
      refine lv_goto (tgt := 180) S.x S.b d_Mpg_meet_122 (by decide) ?_
      exact px_vret S hr hlk hAe hw (Nat.le_of_ble_eq_true rfl) (Nat.le_of_ble_eq_true rfl) (⟨ma189, cf190, rfl, (show KpE cf cf190 from hke), (show WrV cf190 (tf 6).toInt from hwr), (show (cf190 33).toInt = (cf 33).toInt from by first | exact oz_e13fc83238 e149 e195 e172 | omega), (show (cf190 38).toInt = (cf 38).toInt from by first | exact oz_e13fc83238 e150 e196 e173 | omega), (show (cf190 48).toInt = (cf 48).toInt from by first | exact oz_e13fc83238 e151 e197 e174 | omega), (show (cf190 57).toInt = (cf 57).toInt from by first | exact oz_e13fc83238 e152 e198 e175 | omega), (show (cf190 47).toInt = 1 → (cf 47).toInt = 1 ∨ 1 ≤ (cf190 30).toInt from by first | with_reducible rfl | with_reducible assumption | omega), (show 0 ≤ (cf190 46).toInt from by first | exact e200 | omega), (show (cf190 46).toInt ≤ 1 from by first | exact e201 | omega), (show 0 ≤ (cf190 47).toInt from by first | exact e202 | omega), (show (cf190 47).toInt ≤ 1 from by first | exact e203 | omega), (show (cf190 46).toInt = 0 → (cf 46).toInt = 0 from by first | with_reducible rfl | with_reducible assumption | omega), (show (cf190 47).toInt = 0 → (cf 47).toInt = 0 from by first | with_reducible rfl | with_reducible assumption | omega), (show Ann na ma0 ma189 from han), (show FrC lo hi ma ma189 from hfc), (show MtR cf190 ta ca na ma0 kn (d + 1) p0 from (fun a9 b9 => Or.inr (Or.inr (Or.inr (Or.inr ⟨by first | with_reducible rfl | with_reducible assumption | omega, by rw [← ez140]; exact hmt_z140 a9 b9, by rw [← ha_z163]; exact hmt_z163 a9 b9, by rw [← ha_z186]; exact hmt_z186 a9 b9⟩)))))⟩) d_Mpg_meet_180
theorem mtc_all (l : Launch) (D : va_G) (cs : Nat → ClassId) : ∀ d : Nat, MtC l D cs d := by
  intro d
  induction d with
  | zero => intro ma0 ys ns nf kn lo hi h r g tf ta pf na wa ca ef ea xf xa ma cf p0 g0 g1 g2 g3 g4 g5 g6 g7 g8 g9 g10 g11 g12 htk hfs hwr hkt hft hks hfp han hec; exact (ec_0 hec).elim
  | succ d ih => intro ma0 ys ns nf kn lo hi h r g tf ta pf na wa ca ef ea xf xa ma cf p0 g0 g1 g2 g3 g4 g5 g6 g7 g8 g9 g10 g11 g12 htk hfs hwr hkt hft hks hfp han hec; exact c_mp_meet l D cs ma0 ys ns nf kn d lo hi h r g tf ta pf na wa ca ef ea xf xa ma cf p0 g0 g1 g2 g3 g4 g5 g6 g7 g8 g9 g10 g11 g12 htk hfs hwr hkt hft hks hfp han hec ih
set_option maxHeartbeats 4000000 in
set_option maxRecDepth 100000 in
theorem c_S_meet (l : Launch) (D : va_G) (cs : Nat → ClassId) (ma0 : Nat → Nat → Int32) (ys : Int) (ns : Int) (nf : Int) (kn : Int) (d : Nat) (lo : Int) (hi : Int) (h : Nat) (r : Nat → Nat) (g : Nat → Nat → Option Nat) (tf : Nat → Int32) (ta : Nat → Nat → Int32) (pf : Nat → Int32) (na : Nat → Nat → Int32) (wa : Nat → Nat → Int32) (ca : Nat → Nat → Int32) (ef : Nat → Int32) (ea : Nat → Nat → Int32) (xf : Nat → Int32) (xa : Nat → Nat → Int32) (ma : Nat → Nat → Int32) (cf : Nat → Int32) (p0 : Int32)  (g0 : 0 ≤ lo) (g1 : hi ≤ (pf 13).toInt) (g2 : (pf 13).toInt ≤ 2100) (g3 : (tf 6).toInt ≤ 2049) (g4 : (cf 33).toInt = kn) (g5 : 0 ≤ kn) (g6 : (cf 48).toInt = ns) (g7 : (cf 38).toInt = nf) (g8 : 0 ≤ nf) (g9 : 0 ≤ (cf 46).toInt) (g10 : (cf 46).toInt ≤ 1) (g11 : 0 ≤ (cf 47).toInt) (g12 : (cf 47).toInt ≤ 1) (htk : TkI tf ta) (hfs : FsI (tf 6).toInt (pf 13).toInt na) (hwr : WrV cf (tf 6).toInt) (hkt : KnT (tf 6).toInt ca (cf 33).toInt) (hft : FnT (tf 6).toInt na ca (cf 38).toInt) (hks : KnS ca kn ns ys) (hfp : FnP na ca nf) (han : Ann na ma0 ma) (hec : EcV ta (tf 6).toInt na ma0 d lo hi p0) : MetV l y_Mpg_meet b_Mpg_meet 3 D cs (4 * d + 16) (200 * d + 560) (0) (0) [.ref h, .int p0] [wdP cs h r g tf ta pf na ma wa cf ca ef ea xf xa] (oX (fun A U H => (oP A g U H)) [wdP cs h r g tf ta pf na ma wa cf ca ef ea xf xa]) (fun ps => ∃ (ma' : Nat → Nat → Int32) (cf' : Nat → Int32), (ps = [wdP cs h r g tf ta pf na ma' wa cf' ca ef ea xf xa]) ∧ (KpE cf cf') ∧ (WrV cf' (tf 6).toInt) ∧ ((cf' 33).toInt = (cf 33).toInt) ∧ ((cf' 38).toInt = (cf 38).toInt) ∧ ((cf' 48).toInt = (cf 48).toInt) ∧ ((cf' 57).toInt = (cf 57).toInt) ∧ ((cf' 47).toInt = 1 → (cf 47).toInt = 1 ∨ 1 ≤ (cf' 30).toInt) ∧ (0 ≤ (cf' 46).toInt) ∧ ((cf' 46).toInt ≤ 1) ∧ (0 ≤ (cf' 47).toInt) ∧ ((cf' 47).toInt ≤ 1) ∧ ((cf' 46).toInt = 0 → (cf 46).toInt = 0) ∧ ((cf' 47).toInt = 0 → (cf 47).toInt = 0) ∧ (Ann na ma0 ma') ∧ (FrC lo hi ma ma') ∧ (MtR cf' ta ca na ma0 kn d p0)) := by
  exact mtc_all l D cs d ma0 ys ns nf kn lo hi h r g tf ta pf na wa ca ef ea xf xa ma cf p0 g0 g1 g2 g3 g4 g5 g6 g7 g8 g9 g10 g11 g12 htk hfs hwr hkt hft hks hfp han hec
