theorem oz_c63343e2a8 {a0 a1 : Int} (h0 : a0 = a1) (h1 : a1 = -2) : a0 = -2 := by omega
theorem m14_128 : Cond.methodLink "HomeSystemModel$Process" 149 ⟨"HomeSystemModel$Process", "elementAt", "(II)I"⟩ ∈ AL := AL_14 (List.mem_of_getElem? (i := 128) rfl) rfl
theorem m14_131 : Cond.code ⟨"HomeSystemModel$Process", "elementAt", "(II)I"⟩ prog_15_method_14_code 3 (Option.some FieldType.int) ∈ AL := AL_14 (List.mem_of_getElem? (i := 131) rfl) rfl
theorem ms_16_13 : Cond.selects "HomeSystemModel$Process" ⟨"HomeSystemModel$Process", "elementAt", "(II)I"⟩ ⟨"HomeSystemModel$Process", "elementAt", "(II)I"⟩ ∈ AL := AL_p (q := (⟨"HomeSystemModel$Process", "elementAt", "(II)I"⟩, 26)) (by unfold lw_privs; exact List.mem_append_right _ (List.mem_append_right _ (List.mem_append_right _ (List.mem_append_right _ (List.mem_append_right _ (List.mem_append_right _ (List.mem_append_right _ (List.mem_append_right _ (List.mem_append_right _ (List.mem_append_right _ (List.mem_append_right _ (List.mem_append_right _ (List.mem_append_right _ (List.mem_append_right _ (List.mem_append_right _ (List.mem_append_left _ (List.mem_of_getElem? (i := 13) rfl)))))))))))))))))
theorem m14_130 : Cond.instanceMethod ⟨"HomeSystemModel$Process", "elementAt", "(II)I"⟩ ∈ AL := AL_14 (List.mem_of_getElem? (i := 130) rfl) rfl
theorem m14_144 : Cond.methodLink "HomeSystemModel$Process" 152 ⟨"HomeSystemModel$Process", "change", "(IIII)V"⟩ ∈ AL := AL_14 (List.mem_of_getElem? (i := 144) rfl) rfl
theorem m14_147 : Cond.code ⟨"HomeSystemModel$Process", "change", "(IIII)V"⟩ prog_15_method_16_code 5 (Option.none : Option Jvm.ClassFile.FieldType) ∈ AL := AL_14 (List.mem_of_getElem? (i := 147) rfl) rfl
theorem ms_17_1 : Cond.selects "HomeSystemModel$Process" ⟨"HomeSystemModel$Process", "change", "(IIII)V"⟩ ⟨"HomeSystemModel$Process", "change", "(IIII)V"⟩ ∈ AL := AL_p (q := (⟨"HomeSystemModel$Process", "change", "(IIII)V"⟩, 26)) (by unfold lw_privs; exact List.mem_append_right _ (List.mem_append_right _ (List.mem_append_right _ (List.mem_append_right _ (List.mem_append_right _ (List.mem_append_right _ (List.mem_append_right _ (List.mem_append_right _ (List.mem_append_right _ (List.mem_append_right _ (List.mem_append_right _ (List.mem_append_right _ (List.mem_append_right _ (List.mem_append_right _ (List.mem_append_right _ (List.mem_append_right _ (List.mem_of_getElem? (i := 1) rfl)))))))))))))))))
theorem m14_146 : Cond.instanceMethod ⟨"HomeSystemModel$Process", "change", "(IIII)V"⟩ ∈ AL := AL_14 (List.mem_of_getElem? (i := 146) rfl) rfl
theorem m14_157 : Cond.methodLink "HomeSystemModel$Process" 156 ⟨"HomeSystemModel$Process", "move", "(III)V"⟩ ∈ AL := AL_14 (List.mem_of_getElem? (i := 157) rfl) rfl
theorem m14_160 : Cond.code ⟨"HomeSystemModel$Process", "move", "(III)V"⟩ prog_15_method_17_code 5 (Option.none : Option Jvm.ClassFile.FieldType) ∈ AL := AL_14 (List.mem_of_getElem? (i := 160) rfl) rfl
theorem ms_17_3 : Cond.selects "HomeSystemModel$Process" ⟨"HomeSystemModel$Process", "move", "(III)V"⟩ ⟨"HomeSystemModel$Process", "move", "(III)V"⟩ ∈ AL := AL_p (q := (⟨"HomeSystemModel$Process", "move", "(III)V"⟩, 26)) (by unfold lw_privs; exact List.mem_append_right _ (List.mem_append_right _ (List.mem_append_right _ (List.mem_append_right _ (List.mem_append_right _ (List.mem_append_right _ (List.mem_append_right _ (List.mem_append_right _ (List.mem_append_right _ (List.mem_append_right _ (List.mem_append_right _ (List.mem_append_right _ (List.mem_append_right _ (List.mem_append_right _ (List.mem_append_right _ (List.mem_append_right _ (List.mem_of_getElem? (i := 3) rfl)))))))))))))))))
theorem m14_159 : Cond.instanceMethod ⟨"HomeSystemModel$Process", "move", "(III)V"⟩ ∈ AL := AL_14 (List.mem_of_getElem? (i := 159) rfl) rfl
theorem m14_161 : Cond.methodLink "HomeSystemModel$Process" 163 ⟨"HomeSystemModel$Process", "call", "(I)V"⟩ ∈ AL := AL_14 (List.mem_of_getElem? (i := 161) rfl) rfl
theorem m14_164 : Cond.code ⟨"HomeSystemModel$Process", "call", "(I)V"⟩ prog_15_method_20_code 5 (Option.none : Option Jvm.ClassFile.FieldType) ∈ AL := AL_14 (List.mem_of_getElem? (i := 164) rfl) rfl
theorem ms_17_4 : Cond.selects "HomeSystemModel$Process" ⟨"HomeSystemModel$Process", "call", "(I)V"⟩ ⟨"HomeSystemModel$Process", "call", "(I)V"⟩ ∈ AL := AL_p (q := (⟨"HomeSystemModel$Process", "call", "(I)V"⟩, 26)) (by unfold lw_privs; exact List.mem_append_right _ (List.mem_append_right _ (List.mem_append_right _ (List.mem_append_right _ (List.mem_append_right _ (List.mem_append_right _ (List.mem_append_right _ (List.mem_append_right _ (List.mem_append_right _ (List.mem_append_right _ (List.mem_append_right _ (List.mem_append_right _ (List.mem_append_right _ (List.mem_append_right _ (List.mem_append_right _ (List.mem_append_right _ (List.mem_of_getElem? (i := 4) rfl)))))))))))))))))
theorem m14_163 : Cond.instanceMethod ⟨"HomeSystemModel$Process", "call", "(I)V"⟩ ∈ AL := AL_14 (List.mem_of_getElem? (i := 163) rfl) rfl
theorem m14_166 : Cond.methodLink "HomeSystemModel$Process" 166 ⟨"HomeSystemModel$Process", "giveBack", "()V"⟩ ∈ AL := AL_14 (List.mem_of_getElem? (i := 166) rfl) rfl
theorem m14_169 : Cond.code ⟨"HomeSystemModel$Process", "giveBack", "()V"⟩ prog_15_method_21_code 3 (Option.none : Option Jvm.ClassFile.FieldType) ∈ AL := AL_14 (List.mem_of_getElem? (i := 169) rfl) rfl
theorem ms_17_5 : Cond.selects "HomeSystemModel$Process" ⟨"HomeSystemModel$Process", "giveBack", "()V"⟩ ⟨"HomeSystemModel$Process", "giveBack", "()V"⟩ ∈ AL := AL_p (q := (⟨"HomeSystemModel$Process", "giveBack", "()V"⟩, 26)) (by unfold lw_privs; exact List.mem_append_right _ (List.mem_append_right _ (List.mem_append_right _ (List.mem_append_right _ (List.mem_append_right _ (List.mem_append_right _ (List.mem_append_right _ (List.mem_append_right _ (List.mem_append_right _ (List.mem_append_right _ (List.mem_append_right _ (List.mem_append_right _ (List.mem_append_right _ (List.mem_append_right _ (List.mem_append_right _ (List.mem_append_right _ (List.mem_of_getElem? (i := 5) rfl)))))))))))))))))
theorem m14_168 : Cond.instanceMethod ⟨"HomeSystemModel$Process", "giveBack", "()V"⟩ ∈ AL := AL_14 (List.mem_of_getElem? (i := 168) rfl) rfl
def ClU (qa qa' : Nat → Nat → Int32) (P : Int → Prop) : Prop := qa' 9 = qa 9 ∧ (∀ i : Nat, ¬ P (i : Int) → qa' 8 i = qa 8 i) ∧ ∀ k : Nat, k ≠ 8 → k ≠ 9 → qa' k = qa k
theorem clu_0 {qa : Nat → Nat → Int32} {P : Int → Prop} : ClU qa qa P := ⟨rfl, fun _ _ => rfl, fun _ _ _ => rfl⟩
theorem ClU.w {qa q1 q2 : Nat → Nat → Int32} {P : Int → Prop} {i x : Int32} (h : ClU qa q1 P) (u : q2 = va_up q1 8 (upd (q1 8) i.toNatClampNeg x)) (h0 : 0 ≤ i.toInt) (hp : P i.toInt) : ClU qa q2 P := by
  have c := cl_nat h0
  subst u
  refine ⟨by rw [va_up_n (by decide)]; exact h.1, fun j hj => ?_, fun k a b => by rw [va_up_n a]; exact h.2.2 k a b⟩
  rw [va_up_s, pk_un (fun e => hj (by rw [show (j : Int) = i.toInt by omega]; exact hp))]; exact h.2.1 j hj
/-- what may be cleared -/
theorem MdI.pl {X : Cx} {K : KP} {ca na ma qa : Nat → Nat → Int32} {c en pa : Nat → Int32} {tc nf steps st0 m p found base top st wk f nb : Int} {S : List Nat} {v : Nat} {P : Int → Prop} {y : Int32} (h : MdI X K ca na ma c en pa qa tc nf steps st0 m p found base top st wk f S v P nb) (s : SyV X.ca (X.ye f) (X.ys f) y ∨ (SyA X.ca (X.ye f) (X.ys f) y ∧ (X.ca 49 y.toNatClampNeg).toInt ≤ 3)) : (∀ c, clo ca base y ≤ c → c < clo ca base y + (ca 52 y.toNatClampNeg).toInt → P c) ∧ (0 ≤ y.toInt ∧ y.toInt < 1100) ∧ (0 ≤ clo ca base y ∧ clo ca base y ≤ 34816) ∧ 0 ≤ (ca 52 y.toNatClampNeg).toInt ∧ (ca 52 y.toNatClampNeg).toInt ≤ 34816 := by
  have nm := h.num
  have hsz : (∀ c, clo ca base y ≤ c → c < clo ca base y + (ca 52 y.toNatClampNeg).toInt → P c) → 0 ≤ (ca 52 y.toNatClampNeg).toInt → 0 ≤ clo ca base y → (ca 52 y.toNatClampNeg).toInt ≤ 34816 := fun q q0 q1 => by
    by_cases e : 1 ≤ (ca 52 y.toNatClampNeg).toInt
    · have := nm.2.2.2.1 _ (q (clo ca base y + (ca 52 y.toNatClampNeg).toInt - 1) (by omega) (by omega)); omega
    · omega
  rcases s with s | ⟨s, k3⟩
  · have r := h.sv s
    obtain ⟨⟨ta, ma0, mb, d, ns, hy, h2, ht, hk, he, hpa, hn⟩, fr, sv, lc, q⟩ := h
    rw [h2.2.2.2.1] at s
    obtain ⟨⟨⟨g0, g1⟩, g2⟩, k0, k1⟩ := s
    have cy := cl_nat g0
    have hye : X.ye f ≤ ns := by
      by_cases e : 0 ≤ f
      · have := (hy f.toNat (by omega)).fr.2.2
        rw [show ((f.toNat : Nat) : Int) = f by omega] at this; omega
      · rw [show f = -1 by omega, h2.2.2.1]; omega
    have w1 : (ca 52 y.toNatClampNeg).toInt = 1 := by
      by_cases e : (ca 50 y.toNatClampNeg).toInt = 1
      · exact (ht y.toNatClampNeg (by omega) e).2.2.2 k1
      · exact (fr.own hy h2.2.1 (by omega) (y := y.toNatClampNeg) (by have := g2.elim (fun q => absurd q e) id; omega) (by omega)).2.2.2.2.2.1 k1
    have pl : ∀ c, clo ca base y ≤ c → c < clo ca base y + (ca 52 y.toNatClampNeg).toInt → P c := fun c c1 c2 => by rw [show c = clo ca base y by omega]; exact r.1
    exact ⟨pl, r.2.1, by omega, by omega, by omega⟩
  · have e49 : (ca 49 y.toNatClampNeg).toInt ≤ 3 := by rw [← nm.2.2.2.2.1]; exact k3
    obtain ⟨a1, a2, a3, a4, a5, a6⟩ := h.sa s
    exact ⟨a5 e49, a2, by omega, a6, hsz (a5 e49) a6 a3.1⟩
/-- an array is laid upon the stack -/
theorem MdI.ar {X : Cx} {K : KP} {ca na ma qa q1 q2 : Nat → Nat → Int32} {c en pa : Nat → Int32} {tc nf steps st0 m p found base top st wk f nb n n' base1 base2 : Int} {S : List Nat} {v : Nat} {P : Int → Prop} {y v1 v2 : Int32} (h : MdI X K ca na ma c en pa qa tc nf steps st0 m p found base top st wk f S v P nb) (hK : K (p.toNat + 1) f (2 :: 1 :: S) v) (hd : HdV P (arA ca qa base y) (arN ca qa base y)) (u1 : NuU qa q1 9 n v1) (u2 : NuU q1 q2 9 n' v2) (hn : n = found) (hn' : n' = found + 1) (e1 : v1.toInt = arA ca qa base1 y) (e2 : v2.toInt = arN ca q1 base2 y) (b1 : base1 = base) (b2 : base2 = base) : RuZ X K ca q2 tc nf st0 m (p + 1) (found + 2) base top st wk (rkN wk m v p) := by
  have nm := h.num
  have q := h.2.2.2.2
  have hs := h.2.2.1
  subst hn; subst hn'; subst b1; subst b2
  have c8 : q1 8 = qa 8 := u1.1 8 (by decide)
  have e2' : v2.toInt = arN ca qa base2 y := by rw [e2]; unfold arN; rw [c8]
  have z1 : q2 9 n.toNat = v1 := by rw [u2.2.1 _ (by omega)]; exact u1.2.2
  have z2 : q2 9 (n + 1).toNat = v2 := u2.2.2
  have old : ∀ i : Nat, (i : Int) < n → q2 9 i = qa 9 i := fun i hi => by rw [u2.2.1 i (by omega), u1.2.1 i (by omega)]
  refine h.go (T := 2 :: 1 :: S) (u := v) (by rw [show (p + 1).toNat = p.toNat + 1 by omega]; exact hK) (by omega) (hs.arr (by omega) old (by rw [z1, z2, e1, e2']; exact hd) rfl) (fun i hi => old i (by omega)) (fun i _ => by rw [u2.1 8 (by decide), c8]) (fun k a b => by rw [u2.1 k b, u1.1 k b]) (Or.inr ⟨rfl, by omega⟩)
abbrev b_Mpr_step : ByteArray := prog_15_method_15_code
def y_Mpr_step : MethodName := ⟨"HomeSystemModel$Process", "step", "(III)V"⟩
theorem d_Mpr_step_0 : decode b_Mpr_step 0 = .ok (.iload_n 1, 1) := by decide +kernel
theorem d_Mpr_step_1 : decode b_Mpr_step 1 = .ok (.tableswitch 543 1 23 #[107, 115, 132, 164, 194, 229, 194, 247, 261, 279, 338, 358, 366, 388, 443, 543, 451, 464, 471, 479, 519, 543, 410], 107) := by decide +kernel
theorem d_Mpr_step_108 : decode b_Mpr_step 108 = .ok (.aload_n 0, 1) := by decide +kernel
theorem d_Mpr_step_109 : decode b_Mpr_step 109 = .ok (.iload_n 2, 1) := by decide +kernel
theorem d_Mpr_step_110 : decode b_Mpr_step 110 = .ok (.invokevirtual 105, 3) := by decide +kernel
theorem d_Mpr_step_113 : decode b_Mpr_step 113 = .ok (.goto 449, 3) := by decide +kernel
theorem d_Mpr_step_116 : decode b_Mpr_step 116 = .ok (.aload_n 0, 1) := by decide +kernel
theorem d_Mpr_step_117 : decode b_Mpr_step 117 = .ok (.aload_n 0, 1) := by decide +kernel
theorem d_Mpr_step_118 : decode b_Mpr_step 118 = .ok (.getfield 10, 3) := by decide +kernel
theorem d_Mpr_step_121 : decode b_Mpr_step 121 = .ok (.aload_n 0, 1) := by decide +kernel
theorem d_Mpr_step_122 : decode b_Mpr_step 122 = .ok (.iload_n 2, 1) := by decide +kernel
theorem d_Mpr_step_123 : decode b_Mpr_step 123 = .ok (.invokevirtual 124, 3) := by decide +kernel
theorem d_Mpr_step_126 : decode b_Mpr_step 126 = .ok (.iaload, 1) := by decide +kernel
theorem d_Mpr_step_127 : decode b_Mpr_step 127 = .ok (.invokevirtual 105, 3) := by decide +kernel
theorem d_Mpr_step_130 : decode b_Mpr_step 130 = .ok (.goto 432, 3) := by decide +kernel
theorem d_Mpr_step_133 : decode b_Mpr_step 133 = .ok (.aload_n 0, 1) := by decide +kernel
theorem d_Mpr_step_134 : decode b_Mpr_step 134 = .ok (.iload_n 2, 1) := by decide +kernel
theorem d_Mpr_step_135 : decode b_Mpr_step 135 = .ok (.aload_n 0, 1) := by decide +kernel
theorem d_Mpr_step_136 : decode b_Mpr_step 136 = .ok (.invokevirtual 141, 3) := by decide +kernel
theorem d_Mpr_step_139 : decode b_Mpr_step 139 = .ok (.invokevirtual 145, 3) := by decide +kernel
theorem d_Mpr_step_142 : decode b_Mpr_step 142 = .ok (.istore 4, 2) := by decide +kernel
theorem d_Mpr_step_144 : decode b_Mpr_step 144 = .ok (.aload_n 0, 1) := by decide +kernel
theorem d_Mpr_step_145 : decode b_Mpr_step 145 = .ok (.getfield 10, 3) := by decide +kernel
theorem d_Mpr_step_148 : decode b_Mpr_step 148 = .ok (.aload_n 0, 1) := by decide +kernel
theorem d_Mpr_step_149 : decode b_Mpr_step 149 = .ok (.iload_n 2, 1) := by decide +kernel
theorem d_Mpr_step_150 : decode b_Mpr_step 150 = .ok (.invokevirtual 124, 3) := by decide +kernel
theorem d_Mpr_step_153 : decode b_Mpr_step 153 = .ok (.iload 4, 2) := by decide +kernel
theorem d_Mpr_step_155 : decode b_Mpr_step 155 = .ok (.iastore, 1) := by decide +kernel
theorem d_Mpr_step_156 : decode b_Mpr_step 156 = .ok (.aload_n 0, 1) := by decide +kernel
theorem d_Mpr_step_157 : decode b_Mpr_step 157 = .ok (.iload 4, 2) := by decide +kernel
theorem d_Mpr_step_159 : decode b_Mpr_step 159 = .ok (.invokevirtual 105, 3) := by decide +kernel
theorem d_Mpr_step_162 : decode b_Mpr_step 162 = .ok (.goto 400, 3) := by decide +kernel
theorem d_Mpr_step_165 : decode b_Mpr_step 165 = .ok (.aload_n 0, 1) := by decide +kernel
theorem d_Mpr_step_166 : decode b_Mpr_step 166 = .ok (.iload_n 2, 1) := by decide +kernel
theorem d_Mpr_step_167 : decode b_Mpr_step 167 = .ok (.aload_n 0, 1) := by decide +kernel
theorem d_Mpr_step_168 : decode b_Mpr_step 168 = .ok (.invokevirtual 141, 3) := by decide +kernel
theorem d_Mpr_step_171 : decode b_Mpr_step 171 = .ok (.invokevirtual 149, 3) := by decide +kernel
theorem d_Mpr_step_174 : decode b_Mpr_step 174 = .ok (.istore 5, 2) := by decide +kernel
theorem d_Mpr_step_176 : decode b_Mpr_step 176 = .ok (.iload 5, 2) := by decide +kernel
theorem d_Mpr_step_178 : decode b_Mpr_step 178 = .ok (.ifCond .lt 384, 3) := by decide +kernel
theorem d_Mpr_step_181 : decode b_Mpr_step 181 = .ok (.aload_n 0, 1) := by decide +kernel
theorem d_Mpr_step_182 : decode b_Mpr_step 182 = .ok (.aload_n 0, 1) := by decide +kernel
theorem d_Mpr_step_183 : decode b_Mpr_step 183 = .ok (.getfield 10, 3) := by decide +kernel
theorem d_Mpr_step_186 : decode b_Mpr_step 186 = .ok (.iload 5, 2) := by decide +kernel
theorem d_Mpr_step_188 : decode b_Mpr_step 188 = .ok (.iaload, 1) := by decide +kernel
theorem d_Mpr_step_189 : decode b_Mpr_step 189 = .ok (.invokevirtual 105, 3) := by decide +kernel
theorem d_Mpr_step_192 : decode b_Mpr_step 192 = .ok (.goto 370, 3) := by decide +kernel
theorem d_Mpr_step_195 : decode b_Mpr_step 195 = .ok (.aload_n 0, 1) := by decide +kernel
theorem d_Mpr_step_196 : decode b_Mpr_step 196 = .ok (.invokevirtual 141, 3) := by decide +kernel
theorem d_Mpr_step_199 : decode b_Mpr_step 199 = .ok (.istore 6, 2) := by decide +kernel
theorem d_Mpr_step_201 : decode b_Mpr_step 201 = .ok (.aload_n 0, 1) := by decide +kernel
theorem d_Mpr_step_202 : decode b_Mpr_step 202 = .ok (.iload_n 2, 1) := by decide +kernel
theorem d_Mpr_step_203 : decode b_Mpr_step 203 = .ok (.aload_n 0, 1) := by decide +kernel
theorem d_Mpr_step_204 : decode b_Mpr_step 204 = .ok (.iload_n 2, 1) := by decide +kernel
theorem d_Mpr_step_205 : decode b_Mpr_step 205 = .ok (.aload_n 0, 1) := by decide +kernel
theorem d_Mpr_step_206 : decode b_Mpr_step 206 = .ok (.invokevirtual 141, 3) := by decide +kernel
theorem d_Mpr_step_209 : decode b_Mpr_step 209 = .ok (.invokevirtual 149, 3) := by decide +kernel
theorem d_Mpr_step_212 : decode b_Mpr_step 212 = .ok (.iload_n 1, 1) := by decide +kernel
theorem d_Mpr_step_213 : decode b_Mpr_step 213 = .ok (.iconst 5, 1) := by decide +kernel
theorem d_Mpr_step_214 : decode b_Mpr_step 214 = .ok (.if_icmp .ne 7, 3) := by decide +kernel
theorem d_Mpr_step_217 : decode b_Mpr_step 217 = .ok (.iconst (-1), 1) := by decide +kernel
theorem d_Mpr_step_218 : decode b_Mpr_step 218 = .ok (.goto 4, 3) := by decide +kernel
theorem d_Mpr_step_221 : decode b_Mpr_step 221 = .ok (.iload_n 3, 1) := by decide +kernel
theorem d_Mpr_step_222 : decode b_Mpr_step 222 = .ok (.iload 6, 2) := by decide +kernel
theorem d_Mpr_step_224 : decode b_Mpr_step 224 = .ok (.invokevirtual 152, 3) := by decide +kernel
theorem d_Mpr_step_227 : decode b_Mpr_step 227 = .ok (.goto 335, 3) := by decide +kernel
theorem d_Mpr_step_230 : decode b_Mpr_step 230 = .ok (.aload_n 0, 1) := by decide +kernel
theorem d_Mpr_step_231 : decode b_Mpr_step 231 = .ok (.iload_n 2, 1) := by decide +kernel
theorem d_Mpr_step_232 : decode b_Mpr_step 232 = .ok (.aload_n 0, 1) := by decide +kernel
theorem d_Mpr_step_233 : decode b_Mpr_step 233 = .ok (.iload_n 2, 1) := by decide +kernel
theorem d_Mpr_step_234 : decode b_Mpr_step 234 = .ok (.invokevirtual 124, 3) := by decide +kernel
theorem d_Mpr_step_237 : decode b_Mpr_step 237 = .ok (.iload_n 3, 1) := by decide +kernel
theorem d_Mpr_step_238 : decode b_Mpr_step 238 = .ok (.aload_n 0, 1) := by decide +kernel
theorem d_Mpr_step_239 : decode b_Mpr_step 239 = .ok (.invokevirtual 141, 3) := by decide +kernel
theorem d_Mpr_step_242 : decode b_Mpr_step 242 = .ok (.invokevirtual 152, 3) := by decide +kernel
theorem d_Mpr_step_245 : decode b_Mpr_step 245 = .ok (.goto 317, 3) := by decide +kernel
theorem d_Mpr_step_248 : decode b_Mpr_step 248 = .ok (.aload_n 0, 1) := by decide +kernel
theorem d_Mpr_step_249 : decode b_Mpr_step 249 = .ok (.iload_n 2, 1) := by decide +kernel
theorem d_Mpr_step_250 : decode b_Mpr_step 250 = .ok (.aload_n 0, 1) := by decide +kernel
theorem d_Mpr_step_251 : decode b_Mpr_step 251 = .ok (.iload_n 2, 1) := by decide +kernel
theorem d_Mpr_step_252 : decode b_Mpr_step 252 = .ok (.invokevirtual 124, 3) := by decide +kernel
theorem d_Mpr_step_255 : decode b_Mpr_step 255 = .ok (.iload_n 3, 1) := by decide +kernel
theorem d_Mpr_step_256 : decode b_Mpr_step 256 = .ok (.invokevirtual 156, 3) := by decide +kernel
theorem d_Mpr_step_259 : decode b_Mpr_step 259 = .ok (.goto 303, 3) := by decide +kernel
theorem d_Mpr_step_262 : decode b_Mpr_step 262 = .ok (.aload_n 0, 1) := by decide +kernel
theorem d_Mpr_step_263 : decode b_Mpr_step 263 = .ok (.iload_n 2, 1) := by decide +kernel
theorem d_Mpr_step_264 : decode b_Mpr_step 264 = .ok (.aload_n 0, 1) := by decide +kernel
theorem d_Mpr_step_265 : decode b_Mpr_step 265 = .ok (.iload_n 2, 1) := by decide +kernel
theorem d_Mpr_step_266 : decode b_Mpr_step 266 = .ok (.aload_n 0, 1) := by decide +kernel
theorem d_Mpr_step_267 : decode b_Mpr_step 267 = .ok (.invokevirtual 141, 3) := by decide +kernel
theorem d_Mpr_step_270 : decode b_Mpr_step 270 = .ok (.invokevirtual 149, 3) := by decide +kernel
theorem d_Mpr_step_273 : decode b_Mpr_step 273 = .ok (.iload_n 3, 1) := by decide +kernel
theorem d_Mpr_step_274 : decode b_Mpr_step 274 = .ok (.invokevirtual 156, 3) := by decide +kernel
theorem d_Mpr_step_277 : decode b_Mpr_step 277 = .ok (.goto 285, 3) := by decide +kernel
theorem d_Mpr_step_280 : decode b_Mpr_step 280 = .ok (.aload_n 0, 1) := by decide +kernel
theorem d_Mpr_step_281 : decode b_Mpr_step 281 = .ok (.invokevirtual 141, 3) := by decide +kernel
theorem d_Mpr_step_284 : decode b_Mpr_step 284 = .ok (.istore 7, 2) := by decide +kernel
theorem d_Mpr_step_286 : decode b_Mpr_step 286 = .ok (.aload_n 0, 1) := by decide +kernel
theorem d_Mpr_step_287 : decode b_Mpr_step 287 = .ok (.iload_n 2, 1) := by decide +kernel
theorem d_Mpr_step_288 : decode b_Mpr_step 288 = .ok (.bipush 45, 2) := by decide +kernel
theorem d_Mpr_step_290 : decode b_Mpr_step 290 = .ok (.if_icmp .ne 9, 3) := by decide +kernel
theorem d_Mpr_step_293 : decode b_Mpr_step 293 = .ok (.iload 7, 2) := by decide +kernel
theorem d_Mpr_step_295 : decode b_Mpr_step 295 = .ok (.ineg, 1) := by decide +kernel
theorem d_Mpr_step_296 : decode b_Mpr_step 296 = .ok (.goto 37, 3) := by decide +kernel
theorem d_Mpr_step_299 : decode b_Mpr_step 299 = .ok (.iload_n 2, 1) := by decide +kernel
theorem d_Mpr_step_300 : decode b_Mpr_step 300 = .ok (.bipush 33, 2) := by decide +kernel
theorem d_Mpr_step_302 : decode b_Mpr_step 302 = .ok (.if_icmp .ne 16, 3) := by decide +kernel
theorem d_Mpr_step_305 : decode b_Mpr_step 305 = .ok (.iload 7, 2) := by decide +kernel
theorem d_Mpr_step_307 : decode b_Mpr_step 307 = .ok (.ifCond .ne 7, 3) := by decide +kernel
theorem d_Mpr_step_310 : decode b_Mpr_step 310 = .ok (.iconst 1, 1) := by decide +kernel
theorem d_Mpr_step_311 : decode b_Mpr_step 311 = .ok (.goto 22, 3) := by decide +kernel
theorem d_Mpr_step_314 : decode b_Mpr_step 314 = .ok (.iconst 0, 1) := by decide +kernel
theorem d_Mpr_step_315 : decode b_Mpr_step 315 = .ok (.goto 18, 3) := by decide +kernel
theorem d_Mpr_step_318 : decode b_Mpr_step 318 = .ok (.iload_n 2, 1) := by decide +kernel
theorem d_Mpr_step_319 : decode b_Mpr_step 319 = .ok (.bipush 126, 2) := by decide +kernel
theorem d_Mpr_step_321 : decode b_Mpr_step 321 = .ok (.if_icmp .ne 10, 3) := by decide +kernel
theorem d_Mpr_step_324 : decode b_Mpr_step 324 = .ok (.iload 7, 2) := by decide +kernel
theorem d_Mpr_step_326 : decode b_Mpr_step 326 = .ok (.iconst (-1), 1) := by decide +kernel
theorem d_Mpr_step_327 : decode b_Mpr_step 327 = .ok (.ixor, 1) := by decide +kernel
theorem d_Mpr_step_328 : decode b_Mpr_step 328 = .ok (.goto 5, 3) := by decide +kernel
theorem d_Mpr_step_331 : decode b_Mpr_step 331 = .ok (.iload 7, 2) := by decide +kernel
theorem d_Mpr_step_333 : decode b_Mpr_step 333 = .ok (.invokevirtual 105, 3) := by decide +kernel
theorem d_Mpr_step_336 : decode b_Mpr_step 336 = .ok (.goto 226, 3) := by decide +kernel
theorem d_Mpr_step_339 : decode b_Mpr_step 339 = .ok (.aload_n 0, 1) := by decide +kernel
theorem d_Mpr_step_340 : decode b_Mpr_step 340 = .ok (.invokevirtual 141, 3) := by decide +kernel
theorem d_Mpr_step_343 : decode b_Mpr_step 343 = .ok (.istore 8, 2) := by decide +kernel
theorem d_Mpr_step_345 : decode b_Mpr_step 345 = .ok (.aload_n 0, 1) := by decide +kernel
theorem d_Mpr_step_346 : decode b_Mpr_step 346 = .ok (.iload_n 2, 1) := by decide +kernel
theorem d_Mpr_step_347 : decode b_Mpr_step 347 = .ok (.aload_n 0, 1) := by decide +kernel
theorem d_Mpr_step_348 : decode b_Mpr_step 348 = .ok (.invokevirtual 141, 3) := by decide +kernel
theorem d_Mpr_step_351 : decode b_Mpr_step 351 = .ok (.iload 8, 2) := by decide +kernel
theorem d_Mpr_step_353 : decode b_Mpr_step 353 = .ok (.invokevirtual 160, 3) := by decide +kernel
theorem d_Mpr_step_356 : decode b_Mpr_step 356 = .ok (.goto 206, 3) := by decide +kernel
theorem d_Mpr_step_359 : decode b_Mpr_step 359 = .ok (.aload_n 0, 1) := by decide +kernel
theorem d_Mpr_step_360 : decode b_Mpr_step 360 = .ok (.iload_n 2, 1) := by decide +kernel
theorem d_Mpr_step_361 : decode b_Mpr_step 361 = .ok (.putfield 95, 3) := by decide +kernel
theorem d_Mpr_step_364 : decode b_Mpr_step 364 = .ok (.goto 198, 3) := by decide +kernel
theorem d_Mpr_step_367 : decode b_Mpr_step 367 = .ok (.aload_n 0, 1) := by decide +kernel
theorem d_Mpr_step_368 : decode b_Mpr_step 368 = .ok (.aload_n 0, 1) := by decide +kernel
theorem d_Mpr_step_369 : decode b_Mpr_step 369 = .ok (.invokevirtual 141, 3) := by decide +kernel
theorem d_Mpr_step_372 : decode b_Mpr_step 372 = .ok (.ifCond .ne 7, 3) := by decide +kernel
theorem d_Mpr_step_375 : decode b_Mpr_step 375 = .ok (.iload_n 2, 1) := by decide +kernel
theorem d_Mpr_step_376 : decode b_Mpr_step 376 = .ok (.goto 7, 3) := by decide +kernel
theorem d_Mpr_step_379 : decode b_Mpr_step 379 = .ok (.aload_n 0, 1) := by decide +kernel
theorem d_Mpr_step_380 : decode b_Mpr_step 380 = .ok (.getfield 95, 3) := by decide +kernel
theorem d_Mpr_step_383 : decode b_Mpr_step 383 = .ok (.putfield 95, 3) := by decide +kernel
theorem d_Mpr_step_386 : decode b_Mpr_step 386 = .ok (.goto 176, 3) := by decide +kernel
theorem d_Mpr_step_389 : decode b_Mpr_step 389 = .ok (.aload_n 0, 1) := by decide +kernel
theorem d_Mpr_step_390 : decode b_Mpr_step 390 = .ok (.aload_n 0, 1) := by decide +kernel
theorem d_Mpr_step_391 : decode b_Mpr_step 391 = .ok (.invokevirtual 141, 3) := by decide +kernel
theorem d_Mpr_step_394 : decode b_Mpr_step 394 = .ok (.ifCond .eq 7, 3) := by decide +kernel
theorem d_Mpr_step_397 : decode b_Mpr_step 397 = .ok (.iload_n 2, 1) := by decide +kernel
theorem d_Mpr_step_398 : decode b_Mpr_step 398 = .ok (.goto 7, 3) := by decide +kernel
theorem d_Mpr_step_401 : decode b_Mpr_step 401 = .ok (.aload_n 0, 1) := by decide +kernel
theorem d_Mpr_step_402 : decode b_Mpr_step 402 = .ok (.getfield 95, 3) := by decide +kernel
theorem d_Mpr_step_405 : decode b_Mpr_step 405 = .ok (.putfield 95, 3) := by decide +kernel
theorem d_Mpr_step_408 : decode b_Mpr_step 408 = .ok (.goto 154, 3) := by decide +kernel
theorem d_Mpr_step_411 : decode b_Mpr_step 411 = .ok (.aload_n 0, 1) := by decide +kernel
theorem d_Mpr_step_412 : decode b_Mpr_step 412 = .ok (.getfield 17, 3) := by decide +kernel
theorem d_Mpr_step_415 : decode b_Mpr_step 415 = .ok (.aload_n 0, 1) := by decide +kernel
theorem d_Mpr_step_416 : decode b_Mpr_step 416 = .ok (.getfield 74, 3) := by decide +kernel
theorem d_Mpr_step_419 : decode b_Mpr_step 419 = .ok (.iconst 1, 1) := by decide +kernel
theorem d_Mpr_step_420 : decode b_Mpr_step 420 = .ok (.isub, 1) := by decide +kernel
theorem d_Mpr_step_421 : decode b_Mpr_step 421 = .ok (.iaload, 1) := by decide +kernel
theorem d_Mpr_step_422 : decode b_Mpr_step 422 = .ok (.iload_n 3, 1) := by decide +kernel
theorem d_Mpr_step_423 : decode b_Mpr_step 423 = .ok (.if_icmp .ne 139, 3) := by decide +kernel
theorem d_Mpr_step_426 : decode b_Mpr_step 426 = .ok (.aload_n 0, 1) := by decide +kernel
theorem d_Mpr_step_427 : decode b_Mpr_step 427 = .ok (.dup, 1) := by decide +kernel
theorem d_Mpr_step_428 : decode b_Mpr_step 428 = .ok (.getfield 74, 3) := by decide +kernel
theorem d_Mpr_step_431 : decode b_Mpr_step 431 = .ok (.iconst 1, 1) := by decide +kernel
theorem d_Mpr_step_432 : decode b_Mpr_step 432 = .ok (.isub, 1) := by decide +kernel
theorem d_Mpr_step_433 : decode b_Mpr_step 433 = .ok (.putfield 74, 3) := by decide +kernel
theorem d_Mpr_step_436 : decode b_Mpr_step 436 = .ok (.aload_n 0, 1) := by decide +kernel
theorem d_Mpr_step_437 : decode b_Mpr_step 437 = .ok (.iload_n 2, 1) := by decide +kernel
theorem d_Mpr_step_438 : decode b_Mpr_step 438 = .ok (.putfield 95, 3) := by decide +kernel
theorem d_Mpr_step_441 : decode b_Mpr_step 441 = .ok (.goto 121, 3) := by decide +kernel
theorem d_Mpr_step_444 : decode b_Mpr_step 444 = .ok (.aload_n 0, 1) := by decide +kernel
theorem d_Mpr_step_445 : decode b_Mpr_step 445 = .ok (.iload_n 2, 1) := by decide +kernel
theorem d_Mpr_step_446 : decode b_Mpr_step 446 = .ok (.invokevirtual 163, 3) := by decide +kernel
theorem d_Mpr_step_449 : decode b_Mpr_step 449 = .ok (.goto 113, 3) := by decide +kernel
theorem d_Mpr_step_452 : decode b_Mpr_step 452 = .ok (.aload_n 0, 1) := by decide +kernel
theorem d_Mpr_step_453 : decode b_Mpr_step 453 = .ok (.dup, 1) := by decide +kernel
theorem d_Mpr_step_454 : decode b_Mpr_step 454 = .ok (.getfield 74, 3) := by decide +kernel
theorem d_Mpr_step_457 : decode b_Mpr_step 457 = .ok (.iconst 1, 1) := by decide +kernel
theorem d_Mpr_step_458 : decode b_Mpr_step 458 = .ok (.isub, 1) := by decide +kernel
theorem d_Mpr_step_459 : decode b_Mpr_step 459 = .ok (.putfield 74, 3) := by decide +kernel
theorem d_Mpr_step_462 : decode b_Mpr_step 462 = .ok (.goto 100, 3) := by decide +kernel
theorem d_Mpr_step_465 : decode b_Mpr_step 465 = .ok (.aload_n 0, 1) := by decide +kernel
theorem d_Mpr_step_466 : decode b_Mpr_step 466 = .ok (.invokevirtual 166, 3) := by decide +kernel
theorem d_Mpr_step_469 : decode b_Mpr_step 469 = .ok (.goto 93, 3) := by decide +kernel
theorem d_Mpr_step_472 : decode b_Mpr_step 472 = .ok (.aload_n 0, 1) := by decide +kernel
theorem d_Mpr_step_473 : decode b_Mpr_step 473 = .ok (.invokevirtual 169, 3) := by decide +kernel
theorem d_Mpr_step_476 : decode b_Mpr_step 476 = .ok (.pop, 1) := by decide +kernel
theorem d_Mpr_step_477 : decode b_Mpr_step 477 = .ok (.goto 85, 3) := by decide +kernel
theorem d_Mpr_step_480 : decode b_Mpr_step 480 = .ok (.iconst 0, 1) := by decide +kernel
theorem d_Mpr_step_481 : decode b_Mpr_step 481 = .ok (.istore 9, 2) := by decide +kernel
theorem d_Mpr_step_483 : decode b_Mpr_step 483 = .ok (.iload 9, 2) := by decide +kernel
theorem d_Mpr_step_485 : decode b_Mpr_step 485 = .ok (.aload_n 0, 1) := by decide +kernel
theorem d_Mpr_step_486 : decode b_Mpr_step 486 = .ok (.getfield 52, 3) := by decide +kernel
theorem d_Mpr_step_489 : decode b_Mpr_step 489 = .ok (.getfield 128, 3) := by decide +kernel
theorem d_Mpr_step_492 : decode b_Mpr_step 492 = .ok (.iload_n 2, 1) := by decide +kernel
theorem d_Mpr_step_493 : decode b_Mpr_step 493 = .ok (.iaload, 1) := by decide +kernel
theorem d_Mpr_step_494 : decode b_Mpr_step 494 = .ok (.if_icmp .ge 23, 3) := by decide +kernel
theorem d_Mpr_step_497 : decode b_Mpr_step 497 = .ok (.aload_n 0, 1) := by decide +kernel
theorem d_Mpr_step_498 : decode b_Mpr_step 498 = .ok (.getfield 10, 3) := by decide +kernel
theorem d_Mpr_step_501 : decode b_Mpr_step 501 = .ok (.aload_n 0, 1) := by decide +kernel
theorem d_Mpr_step_502 : decode b_Mpr_step 502 = .ok (.iload_n 2, 1) := by decide +kernel
theorem d_Mpr_step_503 : decode b_Mpr_step 503 = .ok (.invokevirtual 124, 3) := by decide +kernel
theorem d_Mpr_step_506 : decode b_Mpr_step 506 = .ok (.iload 9, 2) := by decide +kernel
theorem d_Mpr_step_508 : decode b_Mpr_step 508 = .ok (.iadd, 1) := by decide +kernel
theorem d_Mpr_step_509 : decode b_Mpr_step 509 = .ok (.iconst 0, 1) := by decide +kernel
theorem d_Mpr_step_510 : decode b_Mpr_step 510 = .ok (.iastore, 1) := by decide +kernel
theorem d_Mpr_step_511 : decode b_Mpr_step 511 = .ok (.iinc 9 1, 3) := by decide +kernel
theorem d_Mpr_step_514 : decode b_Mpr_step 514 = .ok (.goto (-31), 3) := by decide +kernel
theorem d_Mpr_step_517 : decode b_Mpr_step 517 = .ok (.goto 45, 3) := by decide +kernel
theorem d_Mpr_step_520 : decode b_Mpr_step 520 = .ok (.aload_n 0, 1) := by decide +kernel
theorem d_Mpr_step_521 : decode b_Mpr_step 521 = .ok (.getfield 10, 3) := by decide +kernel
theorem d_Mpr_step_524 : decode b_Mpr_step 524 = .ok (.aload_n 0, 1) := by decide +kernel
theorem d_Mpr_step_525 : decode b_Mpr_step 525 = .ok (.iload_n 2, 1) := by decide +kernel
theorem d_Mpr_step_526 : decode b_Mpr_step 526 = .ok (.invokevirtual 124, 3) := by decide +kernel
theorem d_Mpr_step_529 : decode b_Mpr_step 529 = .ok (.iload_n 3, 1) := by decide +kernel
theorem d_Mpr_step_530 : decode b_Mpr_step 530 = .ok (.iadd, 1) := by decide +kernel
theorem d_Mpr_step_531 : decode b_Mpr_step 531 = .ok (.aload_n 0, 1) := by decide +kernel
theorem d_Mpr_step_532 : decode b_Mpr_step 532 = .ok (.iload_n 2, 1) := by decide +kernel
theorem d_Mpr_step_533 : decode b_Mpr_step 533 = .ok (.aload_n 0, 1) := by decide +kernel
theorem d_Mpr_step_534 : decode b_Mpr_step 534 = .ok (.invokevirtual 141, 3) := by decide +kernel
theorem d_Mpr_step_537 : decode b_Mpr_step 537 = .ok (.invokevirtual 145, 3) := by decide +kernel
theorem d_Mpr_step_540 : decode b_Mpr_step 540 = .ok (.iastore, 1) := by decide +kernel
theorem d_Mpr_step_541 : decode b_Mpr_step 541 = .ok (.goto 21, 3) := by decide +kernel
theorem d_Mpr_step_544 : decode b_Mpr_step 544 = .ok (.aload_n 0, 1) := by decide +kernel
theorem d_Mpr_step_545 : decode b_Mpr_step 545 = .ok (.aload_n 0, 1) := by decide +kernel
theorem d_Mpr_step_546 : decode b_Mpr_step 546 = .ok (.iload_n 2, 1) := by decide +kernel
theorem d_Mpr_step_547 : decode b_Mpr_step 547 = .ok (.invokevirtual 138, 3) := by decide +kernel
theorem d_Mpr_step_550 : decode b_Mpr_step 550 = .ok (.invokevirtual 105, 3) := by decide +kernel
theorem d_Mpr_step_553 : decode b_Mpr_step 553 = .ok (.aload_n 0, 1) := by decide +kernel
theorem d_Mpr_step_554 : decode b_Mpr_step 554 = .ok (.aload_n 0, 1) := by decide +kernel
theorem d_Mpr_step_555 : decode b_Mpr_step 555 = .ok (.iload_n 2, 1) := by decide +kernel
theorem d_Mpr_step_556 : decode b_Mpr_step 556 = .ok (.invokevirtual 131, 3) := by decide +kernel
theorem d_Mpr_step_559 : decode b_Mpr_step 559 = .ok (.invokevirtual 105, 3) := by decide +kernel
theorem d_Mpr_step_562 : decode b_Mpr_step 562 = .ok (.return_, 1) := by decide +kernel
theorem q_Mpr_step : px_y y_Mpr_step 3 := by unfold px_y; decide +kernel
set_option maxHeartbeats 4000000 in
set_option maxRecDepth 100000 in
theorem c_mr_step (l : Launch) (D : va_G) (cs : Nat → ClassId) (X9 : Cx) (K9 : KP) (st9 : Int) (f9 : Int) (S9 : List Nat) (v8 : Nat) (P9 : Int → Prop) (nb9 : Int) (q : Nat) (qr : Nat → Nat) (qg : Nat → Nat → Option Nat) (qf : Nat → Int32) (qa : Nat → Nat → Int32) (h : Nat) (r : Nat → Nat) (g : Nat → Nat → Option Nat) (tf : Nat → Int32) (ta : Nat → Nat → Int32) (pf : Nat → Int32) (na : Nat → Nat → Int32) (ma : Nat → Nat → Int32) (wa : Nat → Nat → Int32) (cf : Nat → Int32) (ca : Nat → Nat → Int32) (ef : Nat → Int32) (ea : Nat → Nat → Int32) (xf : Nat → Int32) (xa : Nat → Nat → Int32) (p0 p1 p2 : Int32)  (g0 : (qf 2).toInt = -2) (g1 : p0.toInt ≠ 16) (hmd : MdI X9 K9 ca na ma (ea 61) (ea 62) (ea 63) qa (cf 55).toInt (cf 38).toInt (ef 60).toInt st9 (qf 14).toInt ((qf 11).toInt - 1) (qf 10).toInt (qf 12).toInt (qf 13).toInt (qf 5).toInt (qf 4).toInt f9 S9 v8 P9 nb9) (hft : FnT (tf 6).toInt na ca (cf 38).toInt) (hfp : FnP na ca (cf 38).toInt) (hp0 : ea 61 (3 * ((qf 11).toInt - 1).toNat) = p0) (hp1 : ea 61 (3 * ((qf 11).toInt - 1).toNat + 1) = p1) (hp2 : ea 61 (3 * ((qf 11).toInt - 1).toNat + 2) = p2) : MetV l y_Mpr_step b_Mpr_step 10 D cs 9 400 (0) (0) [.ref q, .int p0, .int p1, .int p2] [wd_Mpr cs q qr (fun k => if k = 0 then (some h) else none) qf qa qg, wdP cs h r g tf ta pf na ma wa cf ca ef ea xf xa] (oX (fun A U H => (oP A g U H) ∧ (oLW A U H)) [wd_Mpr cs q qr (fun k => if k = 0 then (some h) else none) qf qa qg, wdP cs h r g tf ta pf na ma wa cf ca ef ea xf xa]) (fun ps => ∃ (qf' : Nat → Int32) (qa' : Nat → Nat → Int32), (ps = [wd_Mpr cs q qr (fun k => if k = 0 then (some h) else none) qf' qa' qg, wdP cs h r g tf ta pf na ma wa cf ca ef ea xf xa]) ∧ ((qf' 1).toInt = (qf 1).toInt) ∧ ((qf' 6).toInt = (qf 6).toInt) ∧ ((qf' 7).toInt = (qf 7).toInt) ∧ ((qf' 21).toInt = (qf 21).toInt) ∧ ((qf' 23).toInt = (qf 23).toInt) ∧ ((qf' 24).toInt = (qf 24).toInt) ∧ (RzO (qf' 2).toInt (RuZ X9 K9 ca qa' (cf 55).toInt (cf 38).toInt st9 (qf' 14).toInt (qf' 11).toInt (qf' 10).toInt (qf' 12).toInt (qf' 13).toInt (qf' 5).toInt (qf' 4).toInt (rkN (qf 4).toInt (qf 14).toInt (v8 : Int) ((qf 11).toInt - 1))))) := by
  refine px_enter (by decide) (Nat.le_of_ble_eq_true rfl) ?_
  intro p e s m below meth c A ls hAe S hr hlk hnm hA hT hX hw hl
  replace hl : lv_has ls 10 [(0, .ref q), (1, .int p0), (2, .int p1), (3, .int p2)] := hl
  have lp0 := Int32.le_toInt p0
  have up0 := Int32.toInt_lt p0
  have lp1 := Int32.le_toInt p1
  have up1 := Int32.toInt_lt p1
  have lp2 := Int32.le_toInt p2
  have up2 := Int32.toInt_lt p2
  have cstm1 : ((-1) : Int32).toInt = (-1) := rfl
  have cst0 : (0 : Int32).toInt = 0 := rfl
  have cst1 : (1 : Int32).toInt = 1 := rfl
  have cst5 : (5 : Int32).toInt = 5 := rfl
  have cst33 : (33 : Int32).toInt = 33 := rfl
  have cst45 : (45 : Int32).toInt = 45 := rfl
  have cst126 : (126 : Int32).toInt = 126 := rfl
  have hX : (fun A U H => (oP A g U H) ∧ (oLW A U H)) A s s.heap := by rw [hAe]; exact hX
  obtain ⟨hP, hSh⟩ := hX
  have hZ := hP.1
  have hF0 := hP.2.1
  have hnm := hmd.num
  have hst := hmd.2.2.1
  have hlc := hmd.2.2.2.1
  have hq9 := hmd.2.2.2.2
  have hop := hlc.op
  rw [hp0] at hop
  have J483 : ∀ (n_483 : Nat) (qf_483 : Nat → Int32) (qa_483 : Nat → Nat → Int32) (x483_9 : Int32) (H : Heap) (locs : List Loc) (ls : Array Slot), (p0.toInt = 20) → (0 ≤ x483_9.toInt) → (x483_9.toInt ≤ (ca 52 p1.toNatClampNeg).toInt) → ((qf_483 1).toInt = (qf 1).toInt) → ((qf_483 2).toInt = (qf 2).toInt) → ((qf_483 3).toInt = (qf 3).toInt) → ((qf_483 4).toInt = (qf 4).toInt) → ((qf_483 5).toInt = (qf 5).toInt) → ((qf_483 6).toInt = (qf 6).toInt) → ((qf_483 7).toInt = (qf 7).toInt) → ((qf_483 10).toInt = (qf 10).toInt) → ((qf_483 11).toInt = (qf 11).toInt) → ((qf_483 12).toInt = (qf 12).toInt) → ((qf_483 13).toInt = (qf 13).toInt) → ((qf_483 14).toInt = (qf 14).toInt) → ((qf_483 21).toInt = (qf 21).toInt) → ((qf_483 23).toInt = (qf 23).toInt) → ((qf_483 24).toInt = (qf 24).toInt) → (ClU qa qa_483 P9) → (ca 52 p1.toNatClampNeg).toInt - x483_9.toInt < (n_483 : Int) → pw D A s.heap H locs [wd_Mpr cs q qr (fun k => if k = 0 then (some h) else none) qf_483 qa_483 qg, wdP cs h r g tf ta pf na ma wa cf ca ef ea xf xa] → lv_has ls 10 [(0, .ref q), (1, .int p0), (2, .int p1), (3, .int p2), (9, .int x483_9)] → W p l e { frames := 9, cells := 0, slots := 0, locals := 400 } s m [.ref q, .int p0, .int p1, .int p2].toArray below meth c H locs 0 0 (MQ below (va_Qv (fun ps => ∃ (qf' : Nat → Int32) (qa' : Nat → Nat → Int32), (ps = [wd_Mpr cs q qr (fun k => if k = 0 then (some h) else none) qf' qa' qg, wdP cs h r g tf ta pf na ma wa cf ca ef ea xf xa]) ∧ ((qf' 1).toInt = (qf 1).toInt) ∧ ((qf' 6).toInt = (qf 6).toInt) ∧ ((qf' 7).toInt = (qf 7).toInt) ∧ ((qf' 21).toInt = (qf 21).toInt) ∧ ((qf' 23).toInt = (qf 23).toInt) ∧ ((qf' 24).toInt = (qf 24).toInt) ∧ (RzO (qf' 2).toInt (RuZ X9 K9 ca qa' (cf 55).toInt (cf 38).toInt st9 (qf' 14).toInt (qf' 11).toInt (qf' 10).toInt (qf' 12).toInt (qf' 13).toInt (qf' 5).toInt (qf' 4).toInt (rkN (qf 4).toInt (qf 14).toInt (v8 : Int) ((qf 11).toInt - 1))))) (pc_B D (va_A ([wd_Mpr cs q qr (fun k => if k = 0 then (some h) else none) qf qa qg, wdP cs h r g tf ta pf na ma wa cf ca ef ea xf xa] : List va_W).flatten s.heap.size)) (va_A ([wd_Mpr cs q qr (fun k => if k = 0 then (some h) else none) qf qa qg, wdP cs h r g tf ta pf na ma wa cf ca ef ea xf xa] : List va_W).flatten s.heap.size)) [.ref q, .int p0, .int p1, .int p2].toArray s 0 0 A) (F0 m 483 ls []) := by
    intro  n_483
    induction n_483 with
    | zero =>
      intro qf_483 qa_483 x483_9 H locs ls k483_0 k483_1 k483_2 k483_3 k483_4 k483_5 k483_6 k483_7 k483_8 k483_9 k483_10 k483_11 k483_12 k483_13 k483_14 k483_15 k483_16 k483_17 k483_18 hm hw hl
      have lx483_9 := Int32.le_toInt x483_9
      have ux483_9 := Int32.toInt_lt x483_9
      have hcu := k483_18
      exact absurd hm (by omega)
    | succ n_483 ih483 =>
      intro qf_483 qa_483 x483_9 H locs ls k483_0 k483_1 k483_2 k483_3 k483_4 k483_5 k483_6 k483_7 k483_8 k483_9 k483_10 k483_11 k483_12 k483_13 k483_14 k483_15 k483_16 k483_17 k483_18 hm hw hl
      have lx483_9 := Int32.le_toInt x483_9
      have ux483_9 := Int32.toInt_lt x483_9
      have hcu := k483_18
      refine lv_iload S.x S.b d_Mpr_step_483 (lv_at hl 4 rfl) ?_
      have ho := LcC.o20 hlc (by rw [hp0]; omega); try rw [hp1] at ho; obtain ⟨hsy, hK⟩ := ho; have hpl9 := hmd.pl hsy; have hpl := hpl9.1
      have hcl_qf_483 : clo ca (qf_483 12).toInt p1 = clo ca (qf 12).toInt p1 := (by rw [show (qf_483 12).toInt = (qf 12).toInt by omega])
      refine lv_aload_n S.x S.b d_Mpr_step_485 rfl (lv_at hl 0 rfl) ?_
      refine px_get S k_Mpr hT hw 0 0 0 (v := .ref h) rfl rfl rfl (by decide) m10_221 d_Mpr_step_486 ?_
      refine px_getN S k_Mpg hT hw 1 0 52 (v := .ref (r 52)) rfl rfl rfl (by decide) m10_47n d_Mpr_step_489 ?_
      refine lv_iload_n S.x S.b d_Mpr_step_492 rfl (lv_at hl 2 rfl) ?_
      refine px_iald S hT hw 1 31 (n := 1100) (f := (ca 52)) rfl gp_52 (x := p1) (vp_in_iff.mpr (by constructor <;> omega)) d_Mpr_step_493 ?_
      refine lv_topi (fun z1 ez1 => ?_)
      have lz1 := Int32.le_toInt z1
      have uz1 := Int32.toInt_lt z1
      have rz1 : z1.toInt = (ca 52 p1.toNatClampNeg).toInt := by rw [ez1]
      refine lv_icmp_ge (tgt := 517) S.x S.b d_Mpr_step_494 (by decide) (fun c2 => ?_) (fun c2 => ?_)
      · have nc2 : z1.toInt ≤ x483_9.toInt := (i_le (x := z1) (y := x483_9)).mp c2
        refine lv_goto (tgt := 562) S.x S.b d_Mpr_step_517 (by decide) ?_
        exact px_vret S hr hlk hAe hw (Nat.le_of_ble_eq_true rfl) (Nat.le_of_ble_eq_true rfl) (⟨qf_483, qa_483, rfl, (show (qf_483 1).toInt = (qf 1).toInt from by first | exact k483_3 | omega), (show (qf_483 6).toInt = (qf 6).toInt from by first | exact k483_8 | omega), (show (qf_483 7).toInt = (qf 7).toInt from by first | exact k483_9 | omega), (show (qf_483 21).toInt = (qf 21).toInt from by first | exact k483_15 | omega), (show (qf_483 23).toInt = (qf 23).toInt from by first | exact k483_16 | omega), (show (qf_483 24).toInt = (qf 24).toInt from by first | exact k483_17 | omega), (show RzO (qf_483 2).toInt (RuZ X9 K9 ca qa_483 (cf 55).toInt (cf 38).toInt st9 (qf_483 14).toInt (qf_483 11).toInt (qf_483 10).toInt (qf_483 12).toInt (qf_483 13).toInt (qf_483 5).toInt (qf_483 4).toInt (rkN (qf 4).toInt (qf 14).toInt (v8 : Int) ((qf 11).toInt - 1))) from (fun q9 => RuZ.tq (MdI.pp hmd hK hst hcu.1 hcu.2.1 hcu.2.2 rfl) (by omega) (by omega) (by omega) (by omega) (by omega) (by omega) (by omega)))⟩) d_Mpr_step_562
      · have nc2 : ¬ z1.toInt ≤ x483_9.toInt := mt (i_le (x := z1) (y := x483_9)).mpr c2
        refine lv_aload_n S.x S.b d_Mpr_step_497 rfl (lv_at hl 0 rfl) ?_
        refine px_get S k_Mpr hT hw 0 0 8 (v := .ref (qr 8)) rfl rfl rfl (by decide) m10_236 d_Mpr_step_498 ?_
        refine lv_aload_n S.x S.b d_Mpr_step_501 rfl (lv_at hl 0 rfl) ?_
        refine lv_iload_n S.x S.b d_Mpr_step_502 rfl (lv_at hl 2 rfl) ?_
        refine px_calli (pr := []) (px_runV (As := [.int p1]) (rest := [.ref (qr 8)]) S (c_mr_cellOf l D cs (0 : Int) q qr qg qf_483 qa_483 h r g tf ta pf na ma wa cf ca ef ea xf xa p1  (show 0 ≤ p1.toInt from by first | with_reducible rfl | with_reducible assumption | omega) (show p1.toInt < 1100 from by first | with_reducible rfl | with_reducible assumption | omega) (show 0 ≤ clo ca (qf_483 12).toInt p1 from by first | with_reducible rfl | with_reducible assumption | omega) (show clo ca (qf_483 12).toInt p1 ≤ 36990 from by first | with_reducible rfl | with_reducible assumption | omega) _) hT (pr := []) (pcs := [wd_Mpr cs q qr (fun k => if k = 0 then (some h) else none) qf_483 qa_483 qg, wdP cs h r g tf ta pf na ma wa cf ca ef ea xf xa]) hw (oX_call (P := (fun A U H => (oP A g U H))) (pr := []) oG_P hw hA hP) (px_recv hT hw 0 0 rfl rfl rfl) m14_119 m14_116 m14_118 ms_16_11 m1_22 q_Mpr_cellOf ⟨Nat.le_of_ble_eq_true rfl, Nat.le_of_ble_eq_true rfl⟩ hl.1 rfl (Nat.le_of_ble_eq_true rfl) d_Mpr_step_503 ⟨Nat.le_of_ble_eq_true rfl, Nat.le_of_ble_eq_true rfl⟩) hw hA (fun v4 p3 H locs hp3 hw => ?_)
        obtain ⟨rfl, e5⟩ := hp3
        replace e5 : v4.toInt = clo ca (qf_483 12).toInt p1 := e5
        replace hw : pw D A s.heap H locs [wd_Mpr cs q qr (fun k => if k = 0 then (some h) else none) qf_483 qa_483 qg, wdP cs h r g tf ta pf na ma wa cf ca ef ea xf xa] := hw
        have lv4 := Int32.le_toInt v4
        have uv4 := Int32.toInt_lt v4
        refine lv_iload S.x S.b d_Mpr_step_506 (lv_at hl 4 rfl) ?_
        have hix := hnm.2.2.2.1 _ (hpl ((clo ca (qf 12).toInt p1) + x483_9.toInt) (by omega) (by omega))
        refine lv_iadd S.x S.b d_Mpr_step_508 ?_
        refine lv_topi (fun z6 ez6 => ?_)
        have tz6 : z6.toInt = (v4.toInt + x483_9.toInt + 2147483648) % 4294967296 - 2147483648 := by rw [ez6]; exact i_add v4 x483_9
        have lz6 := Int32.le_toInt z6
        have uz6 := Int32.toInt_lt z6
        try replace tz6 : z6.toInt = v4.toInt + x483_9.toInt := by omega
        refine lv_iconst (v := 0) S.x S.b d_Mpr_step_509 (by decide) ?_
        refine px_iast S hT hw 0 1 (n := 37000) (f := (qa_483 8)) (x := z6) (y := 0) rfl (ga_Mpr_8 _ _ _ _ _ _ _) (vp_in_iff.mpr (by constructor <;> omega)) d_Mpr_step_510 (w' := wd_Mpr cs q qr (fun k => if k = 0 then (some h) else none) qf_483 (va_up qa_483 8 (upd (qa_483 8) z6.toNatClampNeg 0)) qg) (ps' := [wd_Mpr cs q qr (fun k => if k = 0 then (some h) else none) qf_483 (va_up qa_483 8 (upd (qa_483 8) z6.toNatClampNeg 0)) qg, wdP cs h r g tf ta pf na ma wa cf ca ef ea xf xa]) (sa_Mpr_8 _ _ _ _ _ _ _ _) rfl (fun H locs hw => ?_)
        obtain ⟨qa7, hu_qa7⟩ : ∃ y : Nat → Nat → Int32, y = va_up qa_483 8 (upd (qa_483 8) z6.toNatClampNeg 0) := ⟨_, rfl⟩; have hw : pw D A s.heap _ _ [wd_Mpr cs q qr (fun k => if k = 0 then (some h) else none) qf_483 qa7 qg, wdP cs h r g tf ta pf na ma wa cf ca ef ea xf xa] := (by rw [hu_qa7]; exact hw); have hcu : ClU qa qa7 P9 := ClU.w hcu hu_qa7 (by omega) (hpl _ (by omega) (by omega))
        obtain ⟨z8, ez8⟩ : ∃ y : Int32, y = x483_9 + 1 := ⟨_, rfl⟩
        have tz8 : z8.toInt = (x483_9.toInt + 1 + 2147483648) % 4294967296 - 2147483648 := by rw [ez8]; exact i_add x483_9 1
        have lz8 := Int32.le_toInt z8
        have uz8 := Int32.toInt_lt z8
        try replace tz8 : z8.toInt = x483_9.toInt + 1 := by omega
        refine lv_iinc (v := z8) (lv' := [(9, .int z8), (0, .ref q), (1, .int p0), (2, .int p1), (3, .int p2)]) S.x S.b d_Mpr_step_511 hl (k := 4) rfl (by rw [ez8]; rfl) (by decide) rfl (fun ls hl => ?_)
        refine lv_goto (tgt := 483) S.x S.b d_Mpr_step_514 (by decide) ?_
        exact ih483 qf_483 qa7 z8 _ _ ls (show p0.toInt = 20 from by first | exact k483_0 | omega) (show 0 ≤ z8.toInt from by first | exact oz_ae613611c0 tz8 k483_1 | omega) (show z8.toInt ≤ (ca 52 p1.toNatClampNeg).toInt from by first | exact oz_a6fd07f316 rz1 tz8 nc2 | omega) (show (qf_483 1).toInt = (qf 1).toInt from by first | exact k483_3 | omega) (show (qf_483 2).toInt = (qf 2).toInt from by first | exact k483_4 | omega) (show (qf_483 3).toInt = (qf 3).toInt from by first | exact k483_5 | omega) (show (qf_483 4).toInt = (qf 4).toInt from by first | exact k483_6 | omega) (show (qf_483 5).toInt = (qf 5).toInt from by first | exact k483_7 | omega) (show (qf_483 6).toInt = (qf 6).toInt from by first | exact k483_8 | omega) (show (qf_483 7).toInt = (qf 7).toInt from by first | exact k483_9 | omega) (show (qf_483 10).toInt = (qf 10).toInt from by first | exact k483_10 | omega) (show (qf_483 11).toInt = (qf 11).toInt from by first | exact k483_11 | omega) (show (qf_483 12).toInt = (qf 12).toInt from by first | exact k483_12 | omega) (show (qf_483 13).toInt = (qf 13).toInt from by first | exact k483_13 | omega) (show (qf_483 14).toInt = (qf 14).toInt from by first | exact k483_14 | omega) (show (qf_483 21).toInt = (qf 21).toInt from by first | exact k483_15 | omega) (show (qf_483 23).toInt = (qf 23).toInt from by first | exact k483_16 | omega) (show (qf_483 24).toInt = (qf 24).toInt from by first | exact k483_17 | omega) (show ClU qa qa7 P9 from hcu) (show (ca 52 p1.toNatClampNeg).toInt - z8.toInt < (n_483 : Int) from by first | exact oz_654393c63a hm tz8 | omega) hw (lv_sub hl [1, 2, 3, 4, 0] rfl)
  refine lv_iload_n S.x S.b d_Mpr_step_0 rfl (lv_at hl 1 rfl) ?_
  refine px_tableD S (dt := 544) [(108, [1]), (116, [2]), (133, [3]), (165, [4]), (195, [5, 7]), (230, [6]), (248, [8]), (262, [9]), (280, [10]), (339, [11]), (359, [12]), (367, [13]), (389, [14]), (444, [15]), (544, [16, 22]), (452, [17]), (465, [18]), (472, [19]), (480, [20]), (520, [21]), (411, [23])] d_Mpr_step_1 (by decide +kernel) (by decide) (by decide +kernel) ?_ ?_
  · intro hdf_1
    refine lv_aload_n S.x S.b d_Mpr_step_544 rfl (lv_at hl 0 rfl) ?_
    have ho := LcC.o22 hlc (by rw [hp0]; omega); try rw [hp1] at ho; obtain ⟨hsy, hK⟩ := ho; have hsa := hmd.sa hsy
    refine lv_aload_n S.x S.b d_Mpr_step_545 rfl (lv_at hl 0 rfl) ?_
    refine lv_iload_n S.x S.b d_Mpr_step_546 rfl (lv_at hl 2 rfl) ?_
    refine px_calli (pr := []) (px_runV (As := [.int p1]) (rest := [.ref q]) S (c_mr_arrayAt l D cs (0 : Int) q qr qg qf qa h r g tf ta pf na ma wa cf ca ef ea xf xa p1  (show 0 ≤ p1.toInt from by first | with_reducible rfl | with_reducible assumption | omega) (show p1.toInt < 1100 from by first | with_reducible rfl | with_reducible assumption | omega) (show 0 ≤ clo ca (qf 12).toInt p1 from by first | with_reducible rfl | with_reducible assumption | omega) (show clo ca (qf 12).toInt p1 ≤ 36990 from by first | with_reducible rfl | with_reducible assumption | omega) _) hT (pr := []) (pcs := [wd_Mpr cs q qr (fun k => if k = 0 then (some h) else none) qf qa qg, wdP cs h r g tf ta pf na ma wa cf ca ef ea xf xa]) hw (oX_call (P := (fun A U H => (oP A g U H))) (pr := []) oG_P hw hA hP) (px_recv hT hw 0 0 rfl rfl rfl) m14_143 m14_140 m14_142 ms_17_0 m1_22 q_Mpr_arrayAt ⟨Nat.le_of_ble_eq_true rfl, Nat.le_of_ble_eq_true rfl⟩ hl.1 rfl (Nat.le_of_ble_eq_true rfl) d_Mpr_step_547 ⟨Nat.le_of_ble_eq_true rfl, Nat.le_of_ble_eq_true rfl⟩) hw hA (fun v10 p9 H locs hp9 hw => ?_)
    obtain ⟨rfl, e11⟩ := hp9
    replace e11 : v10.toInt = arA ca qa (qf 12).toInt p1 := e11
    replace hw : pw D A s.heap H locs [wd_Mpr cs q qr (fun k => if k = 0 then (some h) else none) qf qa qg, wdP cs h r g tf ta pf na ma wa cf ca ef ea xf xa] := hw
    have lv10 := Int32.le_toInt v10
    have uv10 := Int32.toInt_lt v10
    refine px_callv (pr := []) (px_runV (As := [.int v10]) (rest := []) S (c_mr_give l D cs (0 : Int) q qr qg qf qa h r g tf ta pf na ma wa cf ca ef ea xf xa v10  (show 0 ≤ (qf 10).toInt from by first | with_reducible rfl | with_reducible assumption | omega) (show (qf 10).toInt < 62500 from by first | with_reducible rfl | with_reducible assumption | omega) _) hT (pr := []) (pcs := [wd_Mpr cs q qr (fun k => if k = 0 then (some h) else none) qf qa qg, wdP cs h r g tf ta pf na ma wa cf ca ef ea xf xa]) hw (oX_call (P := (fun A U H => (oP A g U H))) (pr := []) oG_P hw hA hP) (px_recv hT hw 0 0 rfl rfl rfl) m13_161 m13_158 m13_159 m13_160 m1_22 q_Mpr_give ⟨Nat.le_of_ble_eq_true rfl, Nat.le_of_ble_eq_true rfl⟩ hl.1 rfl (Nat.le_of_ble_eq_true rfl) d_Mpr_step_550 ⟨Nat.le_of_ble_eq_true rfl, Nat.le_of_ble_eq_true rfl⟩) hw hA (fun p16 H locs hp16 hw => ?_)
    obtain ⟨qf14, qa15, rfl, e18, e19, e20, e21, e22, e23, e24, e25, e26, e27, e28, e29, e30, e31, e32, e33⟩ := hp16
    replace e18 : (qf14 10).toInt = (qf 10).toInt + 1 := e18
    replace e19 : (qf14 1).toInt = (qf 1).toInt := e19
    replace e20 : (qf14 2).toInt = (qf 2).toInt := e20
    replace e21 : (qf14 3).toInt = (qf 3).toInt := e21
    replace e22 : (qf14 4).toInt = (qf 4).toInt := e22
    replace e23 : (qf14 5).toInt = (qf 5).toInt := e23
    replace e24 : (qf14 6).toInt = (qf 6).toInt := e24
    replace e25 : (qf14 7).toInt = (qf 7).toInt := e25
    replace e26 : (qf14 11).toInt = (qf 11).toInt := e26
    replace e27 : (qf14 12).toInt = (qf 12).toInt := e27
    replace e28 : (qf14 13).toInt = (qf 13).toInt := e28
    replace e29 : (qf14 14).toInt = (qf 14).toInt := e29
    replace e30 : (qf14 21).toInt = (qf 21).toInt := e30
    replace e31 : (qf14 23).toInt = (qf 23).toInt := e31
    replace e32 : (qf14 24).toInt = (qf 24).toInt := e32
    replace e33 : NuU qa qa15 9 (qf 10).toInt v10 := e33
    skip
    replace hw : pw D A s.heap H locs [wd_Mpr cs q qr (fun k => if k = 0 then (some h) else none) qf14 qa15 qg, wdP cs h r g tf ta pf na ma wa cf ca ef ea xf xa] := hw
    have hcl_qf14 : clo ca (qf14 12).toInt p1 = clo ca (qf 12).toInt p1 := (by rw [show (qf14 12).toInt = (qf 12).toInt by omega])
    refine lv_aload_n S.x S.b d_Mpr_step_553 rfl (lv_at hl 0 rfl) ?_
    refine lv_aload_n S.x S.b d_Mpr_step_554 rfl (lv_at hl 0 rfl) ?_
    refine lv_iload_n S.x S.b d_Mpr_step_555 rfl (lv_at hl 2 rfl) ?_
    refine px_calli (pr := []) (px_runV (As := [.int p1]) (rest := [.ref q]) S (c_mr_arraySize l D cs (0 : Int) q qr qg qf14 qa15 h r g tf ta pf na ma wa cf ca ef ea xf xa p1  (show 0 ≤ p1.toInt from by first | with_reducible rfl | with_reducible assumption | omega) (show p1.toInt < 1100 from by first | with_reducible rfl | with_reducible assumption | omega) (show 0 ≤ clo ca (qf14 12).toInt p1 from by first | with_reducible rfl | with_reducible assumption | omega) (show clo ca (qf14 12).toInt p1 ≤ 36990 from by first | with_reducible rfl | with_reducible assumption | omega) _) hT (pr := []) (pcs := [wd_Mpr cs q qr (fun k => if k = 0 then (some h) else none) qf14 qa15 qg, wdP cs h r g tf ta pf na ma wa cf ca ef ea xf xa]) hw (oX_call (P := (fun A U H => (oP A g U H))) (pr := []) oG_P hw hA hP) (px_recv hT hw 0 0 rfl rfl rfl) m14_135 m14_132 m14_134 ms_16_14 m1_22 q_Mpr_arraySize ⟨Nat.le_of_ble_eq_true rfl, Nat.le_of_ble_eq_true rfl⟩ hl.1 rfl (Nat.le_of_ble_eq_true rfl) d_Mpr_step_556 ⟨Nat.le_of_ble_eq_true rfl, Nat.le_of_ble_eq_true rfl⟩) hw hA (fun v35 p34 H locs hp34 hw => ?_)
    obtain ⟨rfl, e36⟩ := hp34
    replace e36 : v35.toInt = arN ca qa15 (qf14 12).toInt p1 := e36
    replace hw : pw D A s.heap H locs [wd_Mpr cs q qr (fun k => if k = 0 then (some h) else none) qf14 qa15 qg, wdP cs h r g tf ta pf na ma wa cf ca ef ea xf xa] := hw
    have lv35 := Int32.le_toInt v35
    have uv35 := Int32.toInt_lt v35
    refine px_callv (pr := []) (px_runV (As := [.int v35]) (rest := []) S (c_mr_give l D cs (0 : Int) q qr qg qf14 qa15 h r g tf ta pf na ma wa cf ca ef ea xf xa v35  (show 0 ≤ (qf14 10).toInt from by first | with_reducible rfl | with_reducible assumption | omega) (show (qf14 10).toInt < 62500 from by first | with_reducible rfl | with_reducible assumption | omega) _) hT (pr := []) (pcs := [wd_Mpr cs q qr (fun k => if k = 0 then (some h) else none) qf14 qa15 qg, wdP cs h r g tf ta pf na ma wa cf ca ef ea xf xa]) hw (oX_call (P := (fun A U H => (oP A g U H))) (pr := []) oG_P hw hA hP) (px_recv hT hw 0 0 rfl rfl rfl) m13_161 m13_158 m13_159 m13_160 m1_22 q_Mpr_give ⟨Nat.le_of_ble_eq_true rfl, Nat.le_of_ble_eq_true rfl⟩ hl.1 rfl (Nat.le_of_ble_eq_true rfl) d_Mpr_step_559 ⟨Nat.le_of_ble_eq_true rfl, Nat.le_of_ble_eq_true rfl⟩) hw hA (fun p41 H locs hp41 hw => ?_)
    obtain ⟨qf39, qa40, rfl, e43, e44, e45, e46, e47, e48, e49, e50, e51, e52, e53, e54, e55, e56, e57, e58⟩ := hp41
    replace e43 : (qf39 10).toInt = (qf14 10).toInt + 1 := e43
    replace e44 : (qf39 1).toInt = (qf14 1).toInt := e44
    replace e45 : (qf39 2).toInt = (qf14 2).toInt := e45
    replace e46 : (qf39 3).toInt = (qf14 3).toInt := e46
    replace e47 : (qf39 4).toInt = (qf14 4).toInt := e47
    replace e48 : (qf39 5).toInt = (qf14 5).toInt := e48
    replace e49 : (qf39 6).toInt = (qf14 6).toInt := e49
    replace e50 : (qf39 7).toInt = (qf14 7).toInt := e50
    replace e51 : (qf39 11).toInt = (qf14 11).toInt := e51
    replace e52 : (qf39 12).toInt = (qf14 12).toInt := e52
    replace e53 : (qf39 13).toInt = (qf14 13).toInt := e53
    replace e54 : (qf39 14).toInt = (qf14 14).toInt := e54
    replace e55 : (qf39 21).toInt = (qf14 21).toInt := e55
    replace e56 : (qf39 23).toInt = (qf14 23).toInt := e56
    replace e57 : (qf39 24).toInt = (qf14 24).toInt := e57
    replace e58 : NuU qa15 qa40 9 (qf14 10).toInt v35 := e58
    skip
    replace hw : pw D A s.heap H locs [wd_Mpr cs q qr (fun k => if k = 0 then (some h) else none) qf39 qa40 qg, wdP cs h r g tf ta pf na ma wa cf ca ef ea xf xa] := hw
    exact px_vret S hr hlk hAe hw (Nat.le_of_ble_eq_true rfl) (Nat.le_of_ble_eq_true rfl) (⟨qf39, qa40, rfl, (show (qf39 1).toInt = (qf 1).toInt from by first | exact oz_1687f4cc65 e19 e44 | omega), (show (qf39 6).toInt = (qf 6).toInt from by first | exact oz_1687f4cc65 e24 e49 | omega), (show (qf39 7).toInt = (qf 7).toInt from by first | exact oz_1687f4cc65 e25 e50 | omega), (show (qf39 21).toInt = (qf 21).toInt from by first | exact oz_1687f4cc65 e30 e55 | omega), (show (qf39 23).toInt = (qf 23).toInt from by first | exact oz_1687f4cc65 e31 e56 | omega), (show (qf39 24).toInt = (qf 24).toInt from by first | exact oz_1687f4cc65 e32 e57 | omega), (show RzO (qf39 2).toInt (RuZ X9 K9 ca qa40 (cf 55).toInt (cf 38).toInt st9 (qf39 14).toInt (qf39 11).toInt (qf39 10).toInt (qf39 12).toInt (qf39 13).toInt (qf39 5).toInt (qf39 4).toInt (rkN (qf 4).toInt (qf 14).toInt (v8 : Int) ((qf 11).toInt - 1))) from (fun q9 => RuZ.tq (MdI.ar (base1 := (qf 12).toInt) (base2 := (qf14 12).toInt) hmd hK hsa.1 e33 e58 (by omega) (by omega) (by omega) (by omega) (by omega) (by omega)) (by omega) (by omega) (by omega) (by omega) (by omega) (by omega) (by omega)))⟩) d_Mpr_step_562
  · refine List.forall_mem_cons.mpr ⟨fun c59 => ?_, List.forall_mem_cons.mpr ⟨fun c59 => ?_, List.forall_mem_cons.mpr ⟨fun c59 => ?_, List.forall_mem_cons.mpr ⟨fun c59 => ?_, List.forall_mem_cons.mpr ⟨fun c59 => ?_, List.forall_mem_cons.mpr ⟨fun c59 => ?_, List.forall_mem_cons.mpr ⟨fun c59 => ?_, List.forall_mem_cons.mpr ⟨fun c59 => ?_, List.forall_mem_cons.mpr ⟨fun c59 => ?_, List.forall_mem_cons.mpr ⟨fun c59 => ?_, List.forall_mem_cons.mpr ⟨fun c59 => ?_, List.forall_mem_cons.mpr ⟨fun c59 => ?_, List.forall_mem_cons.mpr ⟨fun c59 => ?_, List.forall_mem_cons.mpr ⟨fun c59 => ?_, List.forall_mem_cons.mpr ⟨fun c59 => ?_, List.forall_mem_cons.mpr ⟨fun c59 => ?_, List.forall_mem_cons.mpr ⟨fun c59 => ?_, List.forall_mem_cons.mpr ⟨fun c59 => ?_, List.forall_mem_cons.mpr ⟨fun c59 => ?_, List.forall_mem_cons.mpr ⟨fun c59 => ?_, List.forall_mem_cons.mpr ⟨fun c59 => ?_, fun _ h => absurd h List.not_mem_nil⟩⟩⟩⟩⟩⟩⟩⟩⟩⟩⟩⟩⟩⟩⟩⟩⟩⟩⟩⟩⟩
    · simp only [List.mem_cons, List.not_mem_nil, or_false] at c59
      refine lv_aload_n S.x S.b d_Mpr_step_108 rfl (lv_at hl 0 rfl) ?_
      have ho := LcC.o1 hlc (by rw [hp0]; omega); have hwr : WrU qa qa (qf 10).toInt (-1) := WrU.rf
      refine lv_iload_n S.x S.b d_Mpr_step_109 rfl (lv_at hl 2 rfl) ?_
      refine px_callv (pr := []) (px_runV (As := [.int p1]) (rest := []) S (c_mr_give l D cs (0 : Int) q qr qg qf qa h r g tf ta pf na ma wa cf ca ef ea xf xa p1  (show 0 ≤ (qf 10).toInt from by first | with_reducible rfl | with_reducible assumption | omega) (show (qf 10).toInt < 62500 from by first | with_reducible rfl | with_reducible assumption | omega) _) hT (pr := []) (pcs := [wd_Mpr cs q qr (fun k => if k = 0 then (some h) else none) qf qa qg, wdP cs h r g tf ta pf na ma wa cf ca ef ea xf xa]) hw (oX_call (P := (fun A U H => (oP A g U H))) (pr := []) oG_P hw hA hP) (px_recv hT hw 0 0 rfl rfl rfl) m13_161 m13_158 m13_159 m13_160 m1_22 q_Mpr_give ⟨Nat.le_of_ble_eq_true rfl, Nat.le_of_ble_eq_true rfl⟩ hl.1 rfl (Nat.le_of_ble_eq_true rfl) d_Mpr_step_110 ⟨Nat.le_of_ble_eq_true rfl, Nat.le_of_ble_eq_true rfl⟩) hw hA (fun p64 H locs hp64 hw => ?_)
      obtain ⟨qf62, qa63, rfl, e66, e67, e68, e69, e70, e71, e72, e73, e74, e75, e76, e77, e78, e79, e80, e81⟩ := hp64
      replace e66 : (qf62 10).toInt = (qf 10).toInt + 1 := e66
      replace e67 : (qf62 1).toInt = (qf 1).toInt := e67
      replace e68 : (qf62 2).toInt = (qf 2).toInt := e68
      replace e69 : (qf62 3).toInt = (qf 3).toInt := e69
      replace e70 : (qf62 4).toInt = (qf 4).toInt := e70
      replace e71 : (qf62 5).toInt = (qf 5).toInt := e71
      replace e72 : (qf62 6).toInt = (qf 6).toInt := e72
      replace e73 : (qf62 7).toInt = (qf 7).toInt := e73
      replace e74 : (qf62 11).toInt = (qf 11).toInt := e74
      replace e75 : (qf62 12).toInt = (qf 12).toInt := e75
      replace e76 : (qf62 13).toInt = (qf 13).toInt := e76
      replace e77 : (qf62 14).toInt = (qf 14).toInt := e77
      replace e78 : (qf62 21).toInt = (qf 21).toInt := e78
      replace e79 : (qf62 23).toInt = (qf 23).toInt := e79
      replace e80 : (qf62 24).toInt = (qf 24).toInt := e80
      replace e81 : NuU qa qa63 9 (qf 10).toInt p1 := e81
      have hwr := hwr.tr2 (c' := (-1)) (NuU.w (c := (-1)) e81) (by omega) (by omega)
      replace hw : pw D A s.heap H locs [wd_Mpr cs q qr (fun k => if k = 0 then (some h) else none) qf62 qa63 qg, wdP cs h r g tf ta pf na ma wa cf ca ef ea xf xa] := hw
      refine lv_goto (tgt := 562) S.x S.b d_Mpr_step_113 (by decide) ?_
      exact px_vret S hr hlk hAe hw (Nat.le_of_ble_eq_true rfl) (Nat.le_of_ble_eq_true rfl) (⟨qf62, qa63, rfl, (show (qf62 1).toInt = (qf 1).toInt from by first | exact e67 | omega), (show (qf62 6).toInt = (qf 6).toInt from by first | exact e72 | omega), (show (qf62 7).toInt = (qf 7).toInt from by first | exact e73 | omega), (show (qf62 21).toInt = (qf 21).toInt from by first | exact e78 | omega), (show (qf62 23).toInt = (qf 23).toInt from by first | exact e79 | omega), (show (qf62 24).toInt = (qf 24).toInt from by first | exact e80 | omega), (show RzO (qf62 2).toInt (RuZ X9 K9 ca qa63 (cf 55).toInt (cf 38).toInt st9 (qf62 14).toInt (qf62 11).toInt (qf62 10).toInt (qf62 12).toInt (qf62 13).toInt (qf62 5).toInt (qf62 4).toInt (rkN (qf 4).toInt (qf 14).toInt (v8 : Int) ((qf 11).toInt - 1))) from (fun q9 => RuZ.tq (MdI.w hmd ho hst hwr (Or.inr (by omega)) rfl rfl) (by omega) (by omega) (by omega) (by omega) (by omega) (by omega) (by omega)))⟩) d_Mpr_step_562
    · simp only [List.mem_cons, List.not_mem_nil, or_false] at c59
      refine lv_aload_n S.x S.b d_Mpr_step_116 rfl (lv_at hl 0 rfl) ?_
      have ho := LcC.o2 hlc (by rw [hp0]; omega); try rw [hp1] at ho; obtain ⟨hsy, hK⟩ := ho; have hwr : WrU qa qa (qf 10).toInt (-1) := WrU.rf; have hsv := hmd.sv hsy
      refine lv_aload_n S.x S.b d_Mpr_step_117 rfl (lv_at hl 0 rfl) ?_
      refine px_get S k_Mpr hT hw 0 0 8 (v := .ref (qr 8)) rfl rfl rfl (by decide) m10_236 d_Mpr_step_118 ?_
      refine lv_aload_n S.x S.b d_Mpr_step_121 rfl (lv_at hl 0 rfl) ?_
      refine lv_iload_n S.x S.b d_Mpr_step_122 rfl (lv_at hl 2 rfl) ?_
      refine px_calli (pr := []) (px_runV (As := [.int p1]) (rest := [.ref (qr 8), .ref q]) S (c_mr_cellOf l D cs (0 : Int) q qr qg qf qa h r g tf ta pf na ma wa cf ca ef ea xf xa p1  (show 0 ≤ p1.toInt from by first | with_reducible rfl | with_reducible assumption | omega) (show p1.toInt < 1100 from by first | with_reducible rfl | with_reducible assumption | omega) (show 0 ≤ clo ca (qf 12).toInt p1 from by first | with_reducible rfl | with_reducible assumption | omega) (show clo ca (qf 12).toInt p1 ≤ 36990 from by first | with_reducible rfl | with_reducible assumption | omega) _) hT (pr := []) (pcs := [wd_Mpr cs q qr (fun k => if k = 0 then (some h) else none) qf qa qg, wdP cs h r g tf ta pf na ma wa cf ca ef ea xf xa]) hw (oX_call (P := (fun A U H => (oP A g U H))) (pr := []) oG_P hw hA hP) (px_recv hT hw 0 0 rfl rfl rfl) m14_119 m14_116 m14_118 ms_16_11 m1_22 q_Mpr_cellOf ⟨Nat.le_of_ble_eq_true rfl, Nat.le_of_ble_eq_true rfl⟩ hl.1 rfl (Nat.le_of_ble_eq_true rfl) d_Mpr_step_123 ⟨Nat.le_of_ble_eq_true rfl, Nat.le_of_ble_eq_true rfl⟩) hw hA (fun v83 p82 H locs hp82 hw => ?_)
      obtain ⟨rfl, e84⟩ := hp82
      replace e84 : v83.toInt = clo ca (qf 12).toInt p1 := e84
      replace hw : pw D A s.heap H locs [wd_Mpr cs q qr (fun k => if k = 0 then (some h) else none) qf qa qg, wdP cs h r g tf ta pf na ma wa cf ca ef ea xf xa] := hw
      have lv83 := Int32.le_toInt v83
      have uv83 := Int32.toInt_lt v83
      refine px_iald S hT hw 0 1 (n := 37000) (f := (qa 8)) rfl (ga_Mpr_8 _ _ _ _ _ _ _) (x := v83) (vp_in_iff.mpr (by constructor <;> omega)) d_Mpr_step_126 ?_
      refine lv_topi (fun z85 ez85 => ?_)
      have lz85 := Int32.le_toInt z85
      have uz85 := Int32.toInt_lt z85
      refine px_callv (pr := []) (px_runV (As := [.int z85]) (rest := []) S (c_mr_give l D cs (0 : Int) q qr qg qf qa h r g tf ta pf na ma wa cf ca ef ea xf xa z85  (show 0 ≤ (qf 10).toInt from by first | with_reducible rfl | with_reducible assumption | omega) (show (qf 10).toInt < 62500 from by first | with_reducible rfl | with_reducible assumption | omega) _) hT (pr := []) (pcs := [wd_Mpr cs q qr (fun k => if k = 0 then (some h) else none) qf qa qg, wdP cs h r g tf ta pf na ma wa cf ca ef ea xf xa]) hw (oX_call (P := (fun A U H => (oP A g U H))) (pr := []) oG_P hw hA hP) (px_recv hT hw 0 0 rfl rfl rfl) m13_161 m13_158 m13_159 m13_160 m1_22 q_Mpr_give ⟨Nat.le_of_ble_eq_true rfl, Nat.le_of_ble_eq_true rfl⟩ hl.1 rfl (Nat.le_of_ble_eq_true rfl) d_Mpr_step_127 ⟨Nat.le_of_ble_eq_true rfl, Nat.le_of_ble_eq_true rfl⟩) hw hA (fun p90 H locs hp90 hw => ?_)
      obtain ⟨qf88, qa89, rfl, e92, e93, e94, e95, e96, e97, e98, e99, e100, e101, e102, e103, e104, e105, e106, e107⟩ := hp90
      replace e92 : (qf88 10).toInt = (qf 10).toInt + 1 := e92
      replace e93 : (qf88 1).toInt = (qf 1).toInt := e93
      replace e94 : (qf88 2).toInt = (qf 2).toInt := e94
      replace e95 : (qf88 3).toInt = (qf 3).toInt := e95
      replace e96 : (qf88 4).toInt = (qf 4).toInt := e96
      replace e97 : (qf88 5).toInt = (qf 5).toInt := e97
      replace e98 : (qf88 6).toInt = (qf 6).toInt := e98
      replace e99 : (qf88 7).toInt = (qf 7).toInt := e99
      replace e100 : (qf88 11).toInt = (qf 11).toInt := e100
      replace e101 : (qf88 12).toInt = (qf 12).toInt := e101
      replace e102 : (qf88 13).toInt = (qf 13).toInt := e102
      replace e103 : (qf88 14).toInt = (qf 14).toInt := e103
      replace e104 : (qf88 21).toInt = (qf 21).toInt := e104
      replace e105 : (qf88 23).toInt = (qf 23).toInt := e105
      replace e106 : (qf88 24).toInt = (qf 24).toInt := e106
      replace e107 : NuU qa qa89 9 (qf 10).toInt z85 := e107
      have hwr := hwr.tr2 (c' := (-1)) (NuU.w (c := (-1)) e107) (by omega) (by omega)
      replace hw : pw D A s.heap H locs [wd_Mpr cs q qr (fun k => if k = 0 then (some h) else none) qf88 qa89 qg, wdP cs h r g tf ta pf na ma wa cf ca ef ea xf xa] := hw
      refine lv_goto (tgt := 562) S.x S.b d_Mpr_step_130 (by decide) ?_
      exact px_vret S hr hlk hAe hw (Nat.le_of_ble_eq_true rfl) (Nat.le_of_ble_eq_true rfl) (⟨qf88, qa89, rfl, (show (qf88 1).toInt = (qf 1).toInt from by first | exact e93 | omega), (show (qf88 6).toInt = (qf 6).toInt from by first | exact e98 | omega), (show (qf88 7).toInt = (qf 7).toInt from by first | exact e99 | omega), (show (qf88 21).toInt = (qf 21).toInt from by first | exact e104 | omega), (show (qf88 23).toInt = (qf 23).toInt from by first | exact e105 | omega), (show (qf88 24).toInt = (qf 24).toInt from by first | exact e106 | omega), (show RzO (qf88 2).toInt (RuZ X9 K9 ca qa89 (cf 55).toInt (cf 38).toInt st9 (qf88 14).toInt (qf88 11).toInt (qf88 10).toInt (qf88 12).toInt (qf88 13).toInt (qf88 5).toInt (qf88 4).toInt (rkN (qf 4).toInt (qf 14).toInt (v8 : Int) ((qf 11).toInt - 1))) from (fun q9 => RuZ.tq (MdI.w hmd hK hst hwr (Or.inr (by omega)) rfl rfl) (by omega) (by omega) (by omega) (by omega) (by omega) (by omega) (by omega)))⟩) d_Mpr_step_562
    · simp only [List.mem_cons, List.not_mem_nil, or_false] at c59
      refine lv_aload_n S.x S.b d_Mpr_step_133 rfl (lv_at hl 0 rfl) ?_
      have ho := LcC.o3 hlc (by rw [hp0]; omega); try rw [hp1] at ho; rw [hp2] at ho; obtain ⟨S0, hS0, hsy, hb6, hK⟩ := ho; have hwr : WrU qa qa ((qf 10).toInt - 1) (clo ca (qf 12).toInt p1) := WrU.rf; have hl0 : (S9.length : Int) = S0.length + 1 := (by rw [hS0, List.length_cons]; omega); have hst0 : StV (qa 9) P9 S0 ((qf 10).toInt - 1) nb9 := (by have q8 := hst; rw [hS0] at q8; exact q8); have hsv := hmd.sv hsy
      refine lv_iload_n S.x S.b d_Mpr_step_134 rfl (lv_at hl 2 rfl) ?_
      refine lv_aload_n S.x S.b d_Mpr_step_135 rfl (lv_at hl 0 rfl) ?_
      refine px_calli (pr := []) (px_runV (As := []) (rest := [.int p1, .ref q]) S (c_mr_take l D cs (0 : Int) q qr qg qa qf h r g tf ta pf na ma wa cf ca ef ea xf xa   (show 1 ≤ (qf 10).toInt from by first | with_reducible rfl | with_reducible assumption | omega) (show (qf 10).toInt ≤ 62500 from by first | with_reducible rfl | with_reducible assumption | omega) _) hT (pr := []) (pcs := [wd_Mpr cs q qr (fun k => if k = 0 then (some h) else none) qf qa qg, wdP cs h r g tf ta pf na ma wa cf ca ef ea xf xa]) hw (oX_call (P := (fun A U H => (oP A g U H))) (pr := []) oG_P hw hA hP) (px_recv hT hw 0 0 rfl rfl rfl) m14_123 m14_120 m14_121 m14_122 m1_22 q_Mpr_take ⟨Nat.le_of_ble_eq_true rfl, Nat.le_of_ble_eq_true rfl⟩ hl.1 rfl (Nat.le_of_ble_eq_true rfl) d_Mpr_step_136 ⟨Nat.le_of_ble_eq_true rfl, Nat.le_of_ble_eq_true rfl⟩) hw hA (fun v111 p110 H locs hp110 hw => ?_)
      obtain ⟨qf109, rfl, e112, e113, e114, e115, e116, e117, e118, e119, e120, e121, e122, e123, e124, e125, e126⟩ := hp110
      replace e112 : (qf109 10).toInt = (qf 10).toInt - 1 := e112
      replace e113 : (qf109 1).toInt = (qf 1).toInt := e113
      replace e114 : (qf109 2).toInt = (qf 2).toInt := e114
      replace e115 : (qf109 3).toInt = (qf 3).toInt := e115
      replace e116 : (qf109 4).toInt = (qf 4).toInt := e116
      replace e117 : (qf109 5).toInt = (qf 5).toInt := e117
      replace e118 : (qf109 6).toInt = (qf 6).toInt := e118
      replace e119 : (qf109 7).toInt = (qf 7).toInt := e119
      replace e120 : (qf109 11).toInt = (qf 11).toInt := e120
      replace e121 : (qf109 12).toInt = (qf 12).toInt := e121
      replace e122 : (qf109 13).toInt = (qf 13).toInt := e122
      replace e123 : (qf109 14).toInt = (qf 14).toInt := e123
      replace e124 : (qf109 21).toInt = (qf 21).toInt := e124
      replace e125 : (qf109 23).toInt = (qf 23).toInt := e125
      replace e126 : (qf109 24).toInt = (qf 24).toInt := e126
      replace hw : pw D A s.heap H locs [wd_Mpr cs q qr (fun k => if k = 0 then (some h) else none) qf109 qa qg, wdP cs h r g tf ta pf na ma wa cf ca ef ea xf xa] := hw
      have lv111 := Int32.le_toInt v111
      have uv111 := Int32.toInt_lt v111
      have hcl_qf109 : clo ca (qf109 12).toInt p1 = clo ca (qf 12).toInt p1 := (by rw [show (qf109 12).toInt = (qf 12).toInt by omega])
      refine px_calli (pr := []) (px_runV (As := [.int p1, .int v111]) (rest := []) S (c_mr_stored l D cs (0 : Int) q qr qg qf109 qa h r g tf ta pf na ma wa cf ca ef ea xf xa p1 v111  (show 0 ≤ p1.toInt from by first | with_reducible rfl | with_reducible assumption | omega) (show p1.toInt < 1100 from by first | with_reducible rfl | with_reducible assumption | omega) _) hT (pr := []) (pcs := [wd_Mpr cs q qr (fun k => if k = 0 then (some h) else none) qf109 qa qg, wdP cs h r g tf ta pf na ma wa cf ca ef ea xf xa]) hw (oX_call (P := (fun A U H => (oP A g U H))) (pr := []) oG_P hw hA hP) (px_recv hT hw 0 0 rfl rfl rfl) m14_127 m14_124 m14_126 ms_16_12 m1_22 q_Mpr_stored ⟨Nat.le_of_ble_eq_true rfl, Nat.le_of_ble_eq_true rfl⟩ hl.1 rfl (Nat.le_of_ble_eq_true rfl) d_Mpr_step_139 ⟨Nat.le_of_ble_eq_true rfl, Nat.le_of_ble_eq_true rfl⟩) hw hA (fun v128 p127 H locs hp127 hw => ?_)
      subst hp127
      replace hw : pw D A s.heap H locs [wd_Mpr cs q qr (fun k => if k = 0 then (some h) else none) qf109 qa qg, wdP cs h r g tf ta pf na ma wa cf ca ef ea xf xa] := hw
      have lv128 := Int32.le_toInt v128
      have uv128 := Int32.toInt_lt v128
      have hcl_qf109 : clo ca (qf109 12).toInt p1 = clo ca (qf 12).toInt p1 := (by rw [show (qf109 12).toInt = (qf 12).toInt by omega])
      refine lv_istore (lv' := [(4, .int v128), (0, .ref q), (1, .int p0), (2, .int p1), (3, .int p2)]) S.x S.b d_Mpr_step_142 hl (by decide) rfl (fun ls hl => ?_)
      refine lv_aload_n S.x S.b d_Mpr_step_144 rfl (lv_at hl 1 rfl) ?_
      refine px_get S k_Mpr hT hw 0 0 8 (v := .ref (qr 8)) rfl rfl rfl (by decide) m10_236 d_Mpr_step_145 ?_
      refine lv_aload_n S.x S.b d_Mpr_step_148 rfl (lv_at hl 1 rfl) ?_
      refine lv_iload_n S.x S.b d_Mpr_step_149 rfl (lv_at hl 3 rfl) ?_
      refine px_calli (pr := []) (px_runV (As := [.int p1]) (rest := [.ref (qr 8)]) S (c_mr_cellOf l D cs (0 : Int) q qr qg qf109 qa h r g tf ta pf na ma wa cf ca ef ea xf xa p1  (show 0 ≤ p1.toInt from by first | with_reducible rfl | with_reducible assumption | omega) (show p1.toInt < 1100 from by first | with_reducible rfl | with_reducible assumption | omega) (show 0 ≤ clo ca (qf109 12).toInt p1 from by first | with_reducible rfl | with_reducible assumption | omega) (show clo ca (qf109 12).toInt p1 ≤ 36990 from by first | with_reducible rfl | with_reducible assumption | omega) _) hT (pr := []) (pcs := [wd_Mpr cs q qr (fun k => if k = 0 then (some h) else none) qf109 qa qg, wdP cs h r g tf ta pf na ma wa cf ca ef ea xf xa]) hw (oX_call (P := (fun A U H => (oP A g U H))) (pr := []) oG_P hw hA hP) (px_recv hT hw 0 0 rfl rfl rfl) m14_119 m14_116 m14_118 ms_16_11 m1_22 q_Mpr_cellOf ⟨Nat.le_of_ble_eq_true rfl, Nat.le_of_ble_eq_true rfl⟩ hl.1 rfl (Nat.le_of_ble_eq_true rfl) d_Mpr_step_150 ⟨Nat.le_of_ble_eq_true rfl, Nat.le_of_ble_eq_true rfl⟩) hw hA (fun v130 p129 H locs hp129 hw => ?_)
      obtain ⟨rfl, e131⟩ := hp129
      replace e131 : v130.toInt = clo ca (qf109 12).toInt p1 := e131
      replace hw : pw D A s.heap H locs [wd_Mpr cs q qr (fun k => if k = 0 then (some h) else none) qf109 qa qg, wdP cs h r g tf ta pf na ma wa cf ca ef ea xf xa] := hw
      have lv130 := Int32.le_toInt v130
      have uv130 := Int32.toInt_lt v130
      refine lv_iload S.x S.b d_Mpr_step_153 (lv_at hl 0 rfl) ?_
      refine px_iast S hT hw 0 1 (n := 37000) (f := (qa 8)) (x := v130) (y := v128) rfl (ga_Mpr_8 _ _ _ _ _ _ _) (vp_in_iff.mpr (by constructor <;> omega)) d_Mpr_step_155 (w' := wd_Mpr cs q qr (fun k => if k = 0 then (some h) else none) qf109 (va_up qa 8 (upd (qa 8) v130.toNatClampNeg v128)) qg) (ps' := [wd_Mpr cs q qr (fun k => if k = 0 then (some h) else none) qf109 (va_up qa 8 (upd (qa 8) v130.toNatClampNeg v128)) qg, wdP cs h r g tf ta pf na ma wa cf ca ef ea xf xa]) (sa_Mpr_8 _ _ _ _ _ _ _ _) rfl (fun H locs hw => ?_)
      obtain ⟨qa132, hu_qa132⟩ : ∃ y : Nat → Nat → Int32, y = va_up qa 8 (upd (qa 8) v130.toNatClampNeg v128) := ⟨_, rfl⟩; have hw : pw D A s.heap _ _ [wd_Mpr cs q qr (fun k => if k = 0 then (some h) else none) qf109 qa132 qg, wdP cs h r g tf ta pf na ma wa cf ca ef ea xf xa] := (by rw [hu_qa132]; exact hw); have hwr := hwr.tr2 (NuU.c (n := ((qf 10).toInt - 1)) (nuu_mk (n := (clo ca (qf 12).toInt p1)) hu_qa132 (by omega) (by omega))) (by omega) (by omega)
      refine lv_aload_n S.x S.b d_Mpr_step_156 rfl (lv_at hl 1 rfl) ?_
      refine lv_iload S.x S.b d_Mpr_step_157 (lv_at hl 0 rfl) ?_
      refine px_callv (pr := []) (px_runV (As := [.int v128]) (rest := []) S (c_mr_give l D cs (0 : Int) q qr qg qf109 qa132 h r g tf ta pf na ma wa cf ca ef ea xf xa v128  (show 0 ≤ (qf109 10).toInt from by first | with_reducible rfl | with_reducible assumption | omega) (show (qf109 10).toInt < 62500 from by first | with_reducible rfl | with_reducible assumption | omega) _) hT (pr := []) (pcs := [wd_Mpr cs q qr (fun k => if k = 0 then (some h) else none) qf109 qa132 qg, wdP cs h r g tf ta pf na ma wa cf ca ef ea xf xa]) hw (oX_call (P := (fun A U H => (oP A g U H))) (pr := []) oG_P hw hA hP) (px_recv hT hw 0 0 rfl rfl rfl) m13_161 m13_158 m13_159 m13_160 m1_22 q_Mpr_give ⟨Nat.le_of_ble_eq_true rfl, Nat.le_of_ble_eq_true rfl⟩ hl.1 rfl (Nat.le_of_ble_eq_true rfl) d_Mpr_step_159 ⟨Nat.le_of_ble_eq_true rfl, Nat.le_of_ble_eq_true rfl⟩) hw hA (fun p137 H locs hp137 hw => ?_)
      obtain ⟨qf135, qa136, rfl, e139, e140, e141, e142, e143, e144, e145, e146, e147, e148, e149, e150, e151, e152, e153, e154⟩ := hp137
      replace e139 : (qf135 10).toInt = (qf109 10).toInt + 1 := e139
      replace e140 : (qf135 1).toInt = (qf109 1).toInt := e140
      replace e141 : (qf135 2).toInt = (qf109 2).toInt := e141
      replace e142 : (qf135 3).toInt = (qf109 3).toInt := e142
      replace e143 : (qf135 4).toInt = (qf109 4).toInt := e143
      replace e144 : (qf135 5).toInt = (qf109 5).toInt := e144
      replace e145 : (qf135 6).toInt = (qf109 6).toInt := e145
      replace e146 : (qf135 7).toInt = (qf109 7).toInt := e146
      replace e147 : (qf135 11).toInt = (qf109 11).toInt := e147
      replace e148 : (qf135 12).toInt = (qf109 12).toInt := e148
      replace e149 : (qf135 13).toInt = (qf109 13).toInt := e149
      replace e150 : (qf135 14).toInt = (qf109 14).toInt := e150
      replace e151 : (qf135 21).toInt = (qf109 21).toInt := e151
      replace e152 : (qf135 23).toInt = (qf109 23).toInt := e152
      replace e153 : (qf135 24).toInt = (qf109 24).toInt := e153
      replace e154 : NuU qa132 qa136 9 (qf109 10).toInt v128 := e154
      have hwr := hwr.tr2 (c' := (clo ca (qf 12).toInt p1)) (NuU.w (c := (clo ca (qf 12).toInt p1)) e154) (by omega) (by omega)
      replace hw : pw D A s.heap H locs [wd_Mpr cs q qr (fun k => if k = 0 then (some h) else none) qf135 qa136 qg, wdP cs h r g tf ta pf na ma wa cf ca ef ea xf xa] := hw
      refine lv_goto (tgt := 562) S.x S.b d_Mpr_step_162 (by decide) ?_
      exact px_vret S hr hlk hAe hw (Nat.le_of_ble_eq_true rfl) (Nat.le_of_ble_eq_true rfl) (⟨qf135, qa136, rfl, (show (qf135 1).toInt = (qf 1).toInt from by first | exact oz_1687f4cc65 e113 e140 | omega), (show (qf135 6).toInt = (qf 6).toInt from by first | exact oz_1687f4cc65 e118 e145 | omega), (show (qf135 7).toInt = (qf 7).toInt from by first | exact oz_1687f4cc65 e119 e146 | omega), (show (qf135 21).toInt = (qf 21).toInt from by first | exact oz_1687f4cc65 e124 e151 | omega), (show (qf135 23).toInt = (qf 23).toInt from by first | exact oz_1687f4cc65 e125 e152 | omega), (show (qf135 24).toInt = (qf 24).toInt from by first | exact oz_1687f4cc65 e126 e153 | omega), (show RzO (qf135 2).toInt (RuZ X9 K9 ca qa136 (cf 55).toInt (cf 38).toInt st9 (qf135 14).toInt (qf135 11).toInt (qf135 10).toInt (qf135 12).toInt (qf135 13).toInt (qf135 5).toInt (qf135 4).toInt (rkN (qf 4).toInt (qf 14).toInt (v8 : Int) ((qf 11).toInt - 1))) from (fun q9 => RuZ.tq (MdI.w hmd hK hst0 hwr (Or.inl hsv.1) rfl rfl) (by omega) (by omega) (by omega) (by omega) (by omega) (by omega) (by omega)))⟩) d_Mpr_step_562
    · simp only [List.mem_cons, List.not_mem_nil, or_false] at c59
      refine lv_aload_n S.x S.b d_Mpr_step_165 rfl (lv_at hl 0 rfl) ?_
      have ho := LcC.o4 hlc (by rw [hp0]; omega); try rw [hp1] at ho; obtain ⟨S0, hS0, hsy, hK⟩ := ho; have hwr : WrU qa qa ((qf 10).toInt - 1) (-1) := WrU.rf; have hl0 : (S9.length : Int) = S0.length + 1 := (by rw [hS0, List.length_cons]; omega); have hst0 : StV (qa 9) P9 S0 ((qf 10).toInt - 1) nb9 := (by have q8 := hst; rw [hS0] at q8; exact q8); have hsa := hmd.sa hsy
      refine lv_iload_n S.x S.b d_Mpr_step_166 rfl (lv_at hl 2 rfl) ?_
      refine lv_aload_n S.x S.b d_Mpr_step_167 rfl (lv_at hl 0 rfl) ?_
      refine px_calli (pr := []) (px_runV (As := []) (rest := [.int p1, .ref q]) S (c_mr_take l D cs (0 : Int) q qr qg qa qf h r g tf ta pf na ma wa cf ca ef ea xf xa   (show 1 ≤ (qf 10).toInt from by first | with_reducible rfl | with_reducible assumption | omega) (show (qf 10).toInt ≤ 62500 from by first | with_reducible rfl | with_reducible assumption | omega) _) hT (pr := []) (pcs := [wd_Mpr cs q qr (fun k => if k = 0 then (some h) else none) qf qa qg, wdP cs h r g tf ta pf na ma wa cf ca ef ea xf xa]) hw (oX_call (P := (fun A U H => (oP A g U H))) (pr := []) oG_P hw hA hP) (px_recv hT hw 0 0 rfl rfl rfl) m14_123 m14_120 m14_121 m14_122 m1_22 q_Mpr_take ⟨Nat.le_of_ble_eq_true rfl, Nat.le_of_ble_eq_true rfl⟩ hl.1 rfl (Nat.le_of_ble_eq_true rfl) d_Mpr_step_168 ⟨Nat.le_of_ble_eq_true rfl, Nat.le_of_ble_eq_true rfl⟩) hw hA (fun v158 p157 H locs hp157 hw => ?_)
      obtain ⟨qf156, rfl, e159, e160, e161, e162, e163, e164, e165, e166, e167, e168, e169, e170, e171, e172, e173⟩ := hp157
      replace e159 : (qf156 10).toInt = (qf 10).toInt - 1 := e159
      replace e160 : (qf156 1).toInt = (qf 1).toInt := e160
      replace e161 : (qf156 2).toInt = (qf 2).toInt := e161
      replace e162 : (qf156 3).toInt = (qf 3).toInt := e162
      replace e163 : (qf156 4).toInt = (qf 4).toInt := e163
      replace e164 : (qf156 5).toInt = (qf 5).toInt := e164
      replace e165 : (qf156 6).toInt = (qf 6).toInt := e165
      replace e166 : (qf156 7).toInt = (qf 7).toInt := e166
      replace e167 : (qf156 11).toInt = (qf 11).toInt := e167
      replace e168 : (qf156 12).toInt = (qf 12).toInt := e168
      replace e169 : (qf156 13).toInt = (qf 13).toInt := e169
      replace e170 : (qf156 14).toInt = (qf 14).toInt := e170
      replace e171 : (qf156 21).toInt = (qf 21).toInt := e171
      replace e172 : (qf156 23).toInt = (qf 23).toInt := e172
      replace e173 : (qf156 24).toInt = (qf 24).toInt := e173
      replace hw : pw D A s.heap H locs [wd_Mpr cs q qr (fun k => if k = 0 then (some h) else none) qf156 qa qg, wdP cs h r g tf ta pf na ma wa cf ca ef ea xf xa] := hw
      have lv158 := Int32.le_toInt v158
      have uv158 := Int32.toInt_lt v158
      have hcl_qf156 : clo ca (qf156 12).toInt p1 = clo ca (qf 12).toInt p1 := (by rw [show (qf156 12).toInt = (qf 12).toInt by omega])
      refine px_calli (pr := []) (px_runV (As := [.int p1, .int v158]) (rest := []) S (c_mr_elementAt l D cs (0 : Int) q qr qg qa qf156 h r g tf ta pf na ma wa cf ca ef ea xf xa p1 v158  (show 0 ≤ p1.toInt from by first | with_reducible rfl | with_reducible assumption | omega) (show p1.toInt < 1100 from by first | with_reducible rfl | with_reducible assumption | omega) (show 0 ≤ clo ca (qf156 12).toInt p1 from by first | with_reducible rfl | with_reducible assumption | omega) (show clo ca (qf156 12).toInt p1 ≤ 36990 from by first | with_reducible rfl | with_reducible assumption | omega) (by rw [show (qf156 12).toInt = (qf 12).toInt by omega]; exact fun c9 a9 b9 => (fun q8 => ⟨q8.1, by omega⟩) (hnm.2.2.2.1 c9 (hsa.1 c9 a9 b9))) _) hT (pr := []) (pcs := [wd_Mpr cs q qr (fun k => if k = 0 then (some h) else none) qf156 qa qg, wdP cs h r g tf ta pf na ma wa cf ca ef ea xf xa]) hw (oX_call (P := (fun A U H => (oP A g U H))) (pr := []) oG_P hw hA hP) (px_recv hT hw 0 0 rfl rfl rfl) m14_131 m14_128 m14_130 ms_16_13 m1_22 q_Mpr_elementAt ⟨Nat.le_of_ble_eq_true rfl, Nat.le_of_ble_eq_true rfl⟩ hl.1 rfl (Nat.le_of_ble_eq_true rfl) d_Mpr_step_171 ⟨Nat.le_of_ble_eq_true rfl, Nat.le_of_ble_eq_true rfl⟩) hw hA (fun v177 p176 H locs hp176 hw => ?_)
      obtain ⟨qf175, rfl, e178, e179, e180, e181, e182, e183, e184, e185, e186, e187, e188, e189, e190, e191, e192, e193⟩ := hp176
      replace e178 : -1 ≤ v177.toInt := e178
      replace e179 : v177.toInt < 37000 := e179
      replace e180 : ElV v177.toInt (qf175 2).toInt (qf156 2).toInt (arA ca qa (qf156 12).toInt p1) (arN ca qa (qf156 12).toInt p1) v158.toInt := e180
      have hel := e180
      rw [show (qf156 12).toInt = (qf 12).toInt by omega] at hel
      unfold ElV at hel
      have hev : 0 ≤ v177.toInt ∨ (qf175 2).toInt = 2 := hel.elim (fun h8 => Or.inl (hnm.2.2.2.1 _ (hsa.1 v177.toInt (by omega) (by omega))).1) (fun h8 => Or.inr h8.2)
      replace e181 : (qf175 1).toInt = (qf156 1).toInt := e181
      replace e182 : (qf175 4).toInt = (qf156 4).toInt := e182
      replace e183 : (qf175 5).toInt = (qf156 5).toInt := e183
      replace e184 : (qf175 6).toInt = (qf156 6).toInt := e184
      replace e185 : (qf175 7).toInt = (qf156 7).toInt := e185
      replace e186 : (qf175 10).toInt = (qf156 10).toInt := e186
      replace e187 : (qf175 11).toInt = (qf156 11).toInt := e187
      replace e188 : (qf175 12).toInt = (qf156 12).toInt := e188
      replace e189 : (qf175 13).toInt = (qf156 13).toInt := e189
      replace e190 : (qf175 14).toInt = (qf156 14).toInt := e190
      replace e191 : (qf175 21).toInt = (qf156 21).toInt := e191
      replace e192 : (qf175 23).toInt = (qf156 23).toInt := e192
      replace e193 : (qf175 24).toInt = (qf156 24).toInt := e193
      replace hw : pw D A s.heap H locs [wd_Mpr cs q qr (fun k => if k = 0 then (some h) else none) qf175 qa qg, wdP cs h r g tf ta pf na ma wa cf ca ef ea xf xa] := hw
      have lv177 := Int32.le_toInt v177
      have uv177 := Int32.toInt_lt v177
      refine lv_istore (lv' := [(5, .int v177), (0, .ref q), (1, .int p0), (2, .int p1), (3, .int p2)]) S.x S.b d_Mpr_step_174 hl (by decide) rfl (fun ls hl => ?_)
      refine lv_iload S.x S.b d_Mpr_step_176 (lv_at hl 0 rfl) ?_
      refine lv_if_lt (tgt := 562) S.x S.b d_Mpr_step_178 (by decide) (fun c194 => ?_) (fun c194 => ?_)
      · have nc194 : v177.toInt < (0 : Int) := (i_lt (x := v177) (y := 0)).mp c194
        exact px_vret S hr hlk hAe hw (Nat.le_of_ble_eq_true rfl) (Nat.le_of_ble_eq_true rfl) (⟨qf175, qa, rfl, (show (qf175 1).toInt = (qf 1).toInt from by first | exact oz_1687f4cc65 e160 e181 | omega), (show (qf175 6).toInt = (qf 6).toInt from by first | exact oz_1687f4cc65 e165 e184 | omega), (show (qf175 7).toInt = (qf 7).toInt from by first | exact oz_1687f4cc65 e166 e185 | omega), (show (qf175 21).toInt = (qf 21).toInt from by first | exact oz_1687f4cc65 e171 e191 | omega), (show (qf175 23).toInt = (qf 23).toInt from by first | exact oz_1687f4cc65 e172 e192 | omega), (show (qf175 24).toInt = (qf 24).toInt from by first | exact oz_1687f4cc65 e173 e193 | omega), (show RzO (qf175 2).toInt (RuZ X9 K9 ca qa (cf 55).toInt (cf 38).toInt st9 (qf175 14).toInt (qf175 11).toInt (qf175 10).toInt (qf175 12).toInt (qf175 13).toInt (qf175 5).toInt (qf175 4).toInt (rkN (qf 4).toInt (qf 14).toInt (v8 : Int) ((qf 11).toInt - 1))) from (fun q9 => hel.elim (fun h8 => absurd (hnm.2.2.2.1 v177.toInt (hsa.1 v177.toInt (by omega) (by omega))).1 (by omega)) (fun h8 => absurd q9 (by omega))))⟩) d_Mpr_step_562
      · have nc194 : ¬ v177.toInt < (0 : Int) := mt (i_lt (x := v177) (y := 0)).mpr c194
        refine lv_aload_n S.x S.b d_Mpr_step_181 rfl (lv_at hl 1 rfl) ?_
        refine lv_aload_n S.x S.b d_Mpr_step_182 rfl (lv_at hl 1 rfl) ?_
        refine px_get S k_Mpr hT hw 0 0 8 (v := .ref (qr 8)) rfl rfl rfl (by decide) m10_236 d_Mpr_step_183 ?_
        refine lv_iload S.x S.b d_Mpr_step_186 (lv_at hl 0 rfl) ?_
        refine px_iald S hT hw 0 1 (n := 37000) (f := (qa 8)) rfl (ga_Mpr_8 _ _ _ _ _ _ _) (x := v177) (vp_in_iff.mpr (by first | exact oz_d1e68178d5 nc194 e179 | (constructor <;> omega))) d_Mpr_step_188 ?_
        refine lv_topi (fun z195 ez195 => ?_)
        have lz195 := Int32.le_toInt z195
        have uz195 := Int32.toInt_lt z195
        refine px_callv (pr := []) (px_runV (As := [.int z195]) (rest := []) S (c_mr_give l D cs (0 : Int) q qr qg qf175 qa h r g tf ta pf na ma wa cf ca ef ea xf xa z195  (show 0 ≤ (qf175 10).toInt from by first | with_reducible rfl | with_reducible assumption | omega) (show (qf175 10).toInt < 62500 from by first | with_reducible rfl | with_reducible assumption | omega) _) hT (pr := []) (pcs := [wd_Mpr cs q qr (fun k => if k = 0 then (some h) else none) qf175 qa qg, wdP cs h r g tf ta pf na ma wa cf ca ef ea xf xa]) hw (oX_call (P := (fun A U H => (oP A g U H))) (pr := []) oG_P hw hA hP) (px_recv hT hw 0 0 rfl rfl rfl) m13_161 m13_158 m13_159 m13_160 m1_22 q_Mpr_give ⟨Nat.le_of_ble_eq_true rfl, Nat.le_of_ble_eq_true rfl⟩ hl.1 rfl (Nat.le_of_ble_eq_true rfl) d_Mpr_step_189 ⟨Nat.le_of_ble_eq_true rfl, Nat.le_of_ble_eq_true rfl⟩) hw hA (fun p200 H locs hp200 hw => ?_)
        obtain ⟨qf198, qa199, rfl, e202, e203, e204, e205, e206, e207, e208, e209, e210, e211, e212, e213, e214, e215, e216, e217⟩ := hp200
        replace e202 : (qf198 10).toInt = (qf175 10).toInt + 1 := e202
        replace e203 : (qf198 1).toInt = (qf175 1).toInt := e203
        replace e204 : (qf198 2).toInt = (qf175 2).toInt := e204
        replace e205 : (qf198 3).toInt = (qf175 3).toInt := e205
        replace e206 : (qf198 4).toInt = (qf175 4).toInt := e206
        replace e207 : (qf198 5).toInt = (qf175 5).toInt := e207
        replace e208 : (qf198 6).toInt = (qf175 6).toInt := e208
        replace e209 : (qf198 7).toInt = (qf175 7).toInt := e209
        replace e210 : (qf198 11).toInt = (qf175 11).toInt := e210
        replace e211 : (qf198 12).toInt = (qf175 12).toInt := e211
        replace e212 : (qf198 13).toInt = (qf175 13).toInt := e212
        replace e213 : (qf198 14).toInt = (qf175 14).toInt := e213
        replace e214 : (qf198 21).toInt = (qf175 21).toInt := e214
        replace e215 : (qf198 23).toInt = (qf175 23).toInt := e215
        replace e216 : (qf198 24).toInt = (qf175 24).toInt := e216
        replace e217 : NuU qa qa199 9 (qf175 10).toInt z195 := e217
        have hwr := hwr.tr2 (c' := (-1)) (NuU.w (c := (-1)) e217) (by omega) (by omega)
        replace hw : pw D A s.heap H locs [wd_Mpr cs q qr (fun k => if k = 0 then (some h) else none) qf198 qa199 qg, wdP cs h r g tf ta pf na ma wa cf ca ef ea xf xa] := hw
        refine lv_goto (tgt := 562) S.x S.b d_Mpr_step_192 (by decide) ?_
        exact px_vret S hr hlk hAe hw (Nat.le_of_ble_eq_true rfl) (Nat.le_of_ble_eq_true rfl) (⟨qf198, qa199, rfl, (show (qf198 1).toInt = (qf 1).toInt from by first | exact oz_e13fc83238 e160 e203 e181 | omega), (show (qf198 6).toInt = (qf 6).toInt from by first | exact oz_e13fc83238 e165 e208 e184 | omega), (show (qf198 7).toInt = (qf 7).toInt from by first | exact oz_e13fc83238 e166 e209 e185 | omega), (show (qf198 21).toInt = (qf 21).toInt from by first | exact oz_e13fc83238 e171 e214 e191 | omega), (show (qf198 23).toInt = (qf 23).toInt from by first | exact oz_e13fc83238 e172 e215 e192 | omega), (show (qf198 24).toInt = (qf 24).toInt from by first | exact oz_e13fc83238 e173 e216 e193 | omega), (show RzO (qf198 2).toInt (RuZ X9 K9 ca qa199 (cf 55).toInt (cf 38).toInt st9 (qf198 14).toInt (qf198 11).toInt (qf198 10).toInt (qf198 12).toInt (qf198 13).toInt (qf198 5).toInt (qf198 4).toInt (rkN (qf 4).toInt (qf 14).toInt (v8 : Int) ((qf 11).toInt - 1))) from (fun q9 => RuZ.tq (MdI.w hmd hK hst0 hwr (Or.inr (by omega)) rfl rfl) (by omega) (by omega) (by omega) (by omega) (by omega) (by omega) (by omega)))⟩) d_Mpr_step_562
    · simp only [List.mem_cons, List.not_mem_nil, or_false] at c59
      refine lv_aload_n S.x S.b d_Mpr_step_195 rfl (lv_at hl 0 rfl) ?_
      have ho := LcC.o5 hlc (by rw [hp0]; omega); try rw [hp1] at ho; rw [hp2] at ho; obtain ⟨S0, hS0, hsy, hb7, hK⟩ := ho; have hl0 : (S9.length : Int) = S0.length + 2 := (by rw [hS0, List.length_cons, List.length_cons]; omega); have hst0 : StV (qa 9) P9 S0 ((qf 10).toInt - 2) nb9 := (by have q8 := hst; rw [hS0] at q8; have q7 : StV (qa 9) P9 S0 ((qf 10).toInt - 1 - 1) nb9 := q8; rw [show (qf 10).toInt - 1 - 1 = (qf 10).toInt - 2 by omega] at q7; exact q7); have hsa := hmd.sa hsy
      refine px_calli (pr := []) (px_runV (As := []) (rest := []) S (c_mr_take l D cs (0 : Int) q qr qg qa qf h r g tf ta pf na ma wa cf ca ef ea xf xa   (show 1 ≤ (qf 10).toInt from by first | with_reducible rfl | with_reducible assumption | omega) (show (qf 10).toInt ≤ 62500 from by first | with_reducible rfl | with_reducible assumption | omega) _) hT (pr := []) (pcs := [wd_Mpr cs q qr (fun k => if k = 0 then (some h) else none) qf qa qg, wdP cs h r g tf ta pf na ma wa cf ca ef ea xf xa]) hw (oX_call (P := (fun A U H => (oP A g U H))) (pr := []) oG_P hw hA hP) (px_recv hT hw 0 0 rfl rfl rfl) m14_123 m14_120 m14_121 m14_122 m1_22 q_Mpr_take ⟨Nat.le_of_ble_eq_true rfl, Nat.le_of_ble_eq_true rfl⟩ hl.1 rfl (Nat.le_of_ble_eq_true rfl) d_Mpr_step_196 ⟨Nat.le_of_ble_eq_true rfl, Nat.le_of_ble_eq_true rfl⟩) hw hA (fun v221 p220 H locs hp220 hw => ?_)
      obtain ⟨qf219, rfl, e222, e223, e224, e225, e226, e227, e228, e229, e230, e231, e232, e233, e234, e235, e236⟩ := hp220
      replace e222 : (qf219 10).toInt = (qf 10).toInt - 1 := e222
      replace e223 : (qf219 1).toInt = (qf 1).toInt := e223
      replace e224 : (qf219 2).toInt = (qf 2).toInt := e224
      replace e225 : (qf219 3).toInt = (qf 3).toInt := e225
      replace e226 : (qf219 4).toInt = (qf 4).toInt := e226
      replace e227 : (qf219 5).toInt = (qf 5).toInt := e227
      replace e228 : (qf219 6).toInt = (qf 6).toInt := e228
      replace e229 : (qf219 7).toInt = (qf 7).toInt := e229
      replace e230 : (qf219 11).toInt = (qf 11).toInt := e230
      replace e231 : (qf219 12).toInt = (qf 12).toInt := e231
      replace e232 : (qf219 13).toInt = (qf 13).toInt := e232
      replace e233 : (qf219 14).toInt = (qf 14).toInt := e233
      replace e234 : (qf219 21).toInt = (qf 21).toInt := e234
      replace e235 : (qf219 23).toInt = (qf 23).toInt := e235
      replace e236 : (qf219 24).toInt = (qf 24).toInt := e236
      replace hw : pw D A s.heap H locs [wd_Mpr cs q qr (fun k => if k = 0 then (some h) else none) qf219 qa qg, wdP cs h r g tf ta pf na ma wa cf ca ef ea xf xa] := hw
      have lv221 := Int32.le_toInt v221
      have uv221 := Int32.toInt_lt v221
      have hcl_qf219 : clo ca (qf219 12).toInt p1 = clo ca (qf 12).toInt p1 := (by rw [show (qf219 12).toInt = (qf 12).toInt by omega])
      refine lv_istore (lv' := [(6, .int v221), (0, .ref q), (1, .int p0), (2, .int p1), (3, .int p2)]) S.x S.b d_Mpr_step_199 hl (by decide) rfl (fun ls hl => ?_)
      refine lv_aload_n S.x S.b d_Mpr_step_201 rfl (lv_at hl 1 rfl) ?_
      refine lv_iload_n S.x S.b d_Mpr_step_202 rfl (lv_at hl 3 rfl) ?_
      refine lv_aload_n S.x S.b d_Mpr_step_203 rfl (lv_at hl 1 rfl) ?_
      refine lv_iload_n S.x S.b d_Mpr_step_204 rfl (lv_at hl 3 rfl) ?_
      refine lv_aload_n S.x S.b d_Mpr_step_205 rfl (lv_at hl 1 rfl) ?_
      refine px_calli (pr := []) (px_runV (As := []) (rest := [.int p1, .ref q, .int p1, .ref q]) S (c_mr_take l D cs (0 : Int) q qr qg qa qf219 h r g tf ta pf na ma wa cf ca ef ea xf xa   (show 1 ≤ (qf219 10).toInt from by first | with_reducible rfl | with_reducible assumption | omega) (show (qf219 10).toInt ≤ 62500 from by first | with_reducible rfl | with_reducible assumption | omega) _) hT (pr := []) (pcs := [wd_Mpr cs q qr (fun k => if k = 0 then (some h) else none) qf219 qa qg, wdP cs h r g tf ta pf na ma wa cf ca ef ea xf xa]) hw (oX_call (P := (fun A U H => (oP A g U H))) (pr := []) oG_P hw hA hP) (px_recv hT hw 0 0 rfl rfl rfl) m14_123 m14_120 m14_121 m14_122 m1_22 q_Mpr_take ⟨Nat.le_of_ble_eq_true rfl, Nat.le_of_ble_eq_true rfl⟩ hl.1 rfl (Nat.le_of_ble_eq_true rfl) d_Mpr_step_206 ⟨Nat.le_of_ble_eq_true rfl, Nat.le_of_ble_eq_true rfl⟩) hw hA (fun v240 p239 H locs hp239 hw => ?_)
      obtain ⟨qf238, rfl, e241, e242, e243, e244, e245, e246, e247, e248, e249, e250, e251, e252, e253, e254, e255⟩ := hp239
      replace e241 : (qf238 10).toInt = (qf219 10).toInt - 1 := e241
      replace e242 : (qf238 1).toInt = (qf219 1).toInt := e242
      replace e243 : (qf238 2).toInt = (qf219 2).toInt := e243
      replace e244 : (qf238 3).toInt = (qf219 3).toInt := e244
      replace e245 : (qf238 4).toInt = (qf219 4).toInt := e245
      replace e246 : (qf238 5).toInt = (qf219 5).toInt := e246
      replace e247 : (qf238 6).toInt = (qf219 6).toInt := e247
      replace e248 : (qf238 7).toInt = (qf219 7).toInt := e248
      replace e249 : (qf238 11).toInt = (qf219 11).toInt := e249
      replace e250 : (qf238 12).toInt = (qf219 12).toInt := e250
      replace e251 : (qf238 13).toInt = (qf219 13).toInt := e251
      replace e252 : (qf238 14).toInt = (qf219 14).toInt := e252
      replace e253 : (qf238 21).toInt = (qf219 21).toInt := e253
      replace e254 : (qf238 23).toInt = (qf219 23).toInt := e254
      replace e255 : (qf238 24).toInt = (qf219 24).toInt := e255
      replace hw : pw D A s.heap H locs [wd_Mpr cs q qr (fun k => if k = 0 then (some h) else none) qf238 qa qg, wdP cs h r g tf ta pf na ma wa cf ca ef ea xf xa] := hw
      have lv240 := Int32.le_toInt v240
      have uv240 := Int32.toInt_lt v240
      have hcl_qf238 : clo ca (qf238 12).toInt p1 = clo ca (qf 12).toInt p1 := (by rw [show (qf238 12).toInt = (qf 12).toInt by omega])
      refine px_calli (pr := []) (px_runV (As := [.int p1, .int v240]) (rest := [.int p1, .ref q]) S (c_mr_elementAt l D cs (0 : Int) q qr qg qa qf238 h r g tf ta pf na ma wa cf ca ef ea xf xa p1 v240  (show 0 ≤ p1.toInt from by first | with_reducible rfl | with_reducible assumption | omega) (show p1.toInt < 1100 from by first | with_reducible rfl | with_reducible assumption | omega) (show 0 ≤ clo ca (qf238 12).toInt p1 from by first | with_reducible rfl | with_reducible assumption | omega) (show clo ca (qf238 12).toInt p1 ≤ 36990 from by first | with_reducible rfl | with_reducible assumption | omega) (by rw [show (qf238 12).toInt = (qf 12).toInt by omega]; exact fun c9 a9 b9 => (fun q8 => ⟨q8.1, by omega⟩) (hnm.2.2.2.1 c9 (hsa.1 c9 a9 b9))) _) hT (pr := []) (pcs := [wd_Mpr cs q qr (fun k => if k = 0 then (some h) else none) qf238 qa qg, wdP cs h r g tf ta pf na ma wa cf ca ef ea xf xa]) hw (oX_call (P := (fun A U H => (oP A g U H))) (pr := []) oG_P hw hA hP) (px_recv hT hw 0 0 rfl rfl rfl) m14_131 m14_128 m14_130 ms_16_13 m1_22 q_Mpr_elementAt ⟨Nat.le_of_ble_eq_true rfl, Nat.le_of_ble_eq_true rfl⟩ hl.1 rfl (Nat.le_of_ble_eq_true rfl) d_Mpr_step_209 ⟨Nat.le_of_ble_eq_true rfl, Nat.le_of_ble_eq_true rfl⟩) hw hA (fun v259 p258 H locs hp258 hw => ?_)
      obtain ⟨qf257, rfl, e260, e261, e262, e263, e264, e265, e266, e267, e268, e269, e270, e271, e272, e273, e274, e275⟩ := hp258
      replace e260 : -1 ≤ v259.toInt := e260
      replace e261 : v259.toInt < 37000 := e261
      replace e262 : ElV v259.toInt (qf257 2).toInt (qf238 2).toInt (arA ca qa (qf238 12).toInt p1) (arN ca qa (qf238 12).toInt p1) v240.toInt := e262
      have hel := e262
      rw [show (qf238 12).toInt = (qf 12).toInt by omega] at hel
      unfold ElV at hel
      have hev : 0 ≤ v259.toInt ∨ (qf257 2).toInt = 2 := hel.elim (fun h8 => Or.inl (hnm.2.2.2.1 _ (hsa.1 v259.toInt (by omega) (by omega))).1) (fun h8 => Or.inr h8.2)
      replace e263 : (qf257 1).toInt = (qf238 1).toInt := e263
      replace e264 : (qf257 4).toInt = (qf238 4).toInt := e264
      replace e265 : (qf257 5).toInt = (qf238 5).toInt := e265
      replace e266 : (qf257 6).toInt = (qf238 6).toInt := e266
      replace e267 : (qf257 7).toInt = (qf238 7).toInt := e267
      replace e268 : (qf257 10).toInt = (qf238 10).toInt := e268
      replace e269 : (qf257 11).toInt = (qf238 11).toInt := e269
      replace e270 : (qf257 12).toInt = (qf238 12).toInt := e270
      replace e271 : (qf257 13).toInt = (qf238 13).toInt := e271
      replace e272 : (qf257 14).toInt = (qf238 14).toInt := e272
      replace e273 : (qf257 21).toInt = (qf238 21).toInt := e273
      replace e274 : (qf257 23).toInt = (qf238 23).toInt := e274
      replace e275 : (qf257 24).toInt = (qf238 24).toInt := e275
      replace hw : pw D A s.heap H locs [wd_Mpr cs q qr (fun k => if k = 0 then (some h) else none) qf257 qa qg, wdP cs h r g tf ta pf na ma wa cf ca ef ea xf xa] := hw
      have lv259 := Int32.le_toInt v259
      have uv259 := Int32.toInt_lt v259
      refine lv_iload_n S.x S.b d_Mpr_step_212 rfl (lv_at hl 2 rfl) ?_
      refine lv_iconst (v := 5) S.x S.b d_Mpr_step_213 (by decide) ?_
      refine lv_icmp_ne (tgt := 221) S.x S.b d_Mpr_step_214 (by decide) (fun c276 => ?_) (fun c276 => ?_)
      · have nc276 : ¬ p0.toInt = (5 : Int) := mt (i_eq (x := p0) (y := 5)).mpr c276
        refine lv_iload_n S.x S.b d_Mpr_step_221 rfl (lv_at hl 4 rfl) ?_
        have hb7 := hb7 (by rw [hp0]; omega)
        refine lv_iload S.x S.b d_Mpr_step_222 (lv_at hl 0 rfl) ?_
        refine px_callv (pr := []) (px_runV (As := [.int p1, .int v259, .int p2, .int v221]) (rest := []) S (c_mr_change l D cs (0 : Int) q qr qg qf257 qa h r g tf ta pf na ma wa cf ca ef ea xf xa p1 v259 p2 v221  (show 0 ≤ p1.toInt from by first | with_reducible rfl | with_reducible assumption | omega) (show p1.toInt < 1100 from by first | with_reducible rfl | with_reducible assumption | omega) (show -1 ≤ v259.toInt from by first | exact e260 | omega) (show v259.toInt < 37000 from by first | exact e261 | omega) (show 0 ≤ (qf257 10).toInt from by first | with_reducible rfl | with_reducible assumption | omega) (show (qf257 10).toInt < 62000 from by first | with_reducible rfl | with_reducible assumption | omega) (show 0 ≤ v259.toInt → (qf257 2).toInt = -2 from by first | with_reducible rfl | with_reducible assumption | omega) (show -1 ≤ p2.toInt from by first | with_reducible rfl | with_reducible assumption | omega) (show p2.toInt ≤ 42 from by first | with_reducible rfl | with_reducible assumption | omega) _) hT (pr := []) (pcs := [wd_Mpr cs q qr (fun k => if k = 0 then (some h) else none) qf257 qa qg, wdP cs h r g tf ta pf na ma wa cf ca ef ea xf xa]) hw (oX_call (P := (fun A U H => (oP A g U H) ∧ (oLW A U H))) (pr := []) (oG_and oG_P oG_LW) hw hA ⟨hP, hSh⟩) (px_recv hT hw 0 0 rfl rfl rfl) m14_147 m14_144 m14_146 ms_17_1 m1_22 q_Mpr_change ⟨Nat.le_of_ble_eq_true rfl, Nat.le_of_ble_eq_true rfl⟩ hl.1 rfl (Nat.le_of_ble_eq_true rfl) d_Mpr_step_224 ⟨Nat.le_of_ble_eq_true rfl, Nat.le_of_ble_eq_true rfl⟩) hw hA (fun p281 H locs hp281 hw => ?_)
        obtain ⟨qf279, qa280, rfl, e283, e284, e285, e286, e287, e288, e289, e290, e291, e292, e293, e294, e295, e296⟩ := hp281
        replace e283 : ChO v259.toInt (qf279 2).toInt (qf257 2).toInt (qf279 10).toInt (qf257 10).toInt := e283
        have hch := e283
        unfold ChO TwO at hch
        replace e284 : (qf279 1).toInt = (qf257 1).toInt := e284
        replace e285 : (qf279 4).toInt = (qf257 4).toInt := e285
        replace e286 : (qf279 5).toInt = (qf257 5).toInt := e286
        replace e287 : (qf279 6).toInt = (qf257 6).toInt := e287
        replace e288 : (qf279 7).toInt = (qf257 7).toInt := e288
        replace e289 : (qf279 11).toInt = (qf257 11).toInt := e289
        replace e290 : (qf279 12).toInt = (qf257 12).toInt := e290
        replace e291 : (qf279 13).toInt = (qf257 13).toInt := e291
        replace e292 : (qf279 14).toInt = (qf257 14).toInt := e292
        replace e293 : (qf279 21).toInt = (qf257 21).toInt := e293
        replace e294 : (qf279 23).toInt = (qf257 23).toInt := e294
        replace e295 : (qf279 24).toInt = (qf257 24).toInt := e295
        replace e296 : WrU qa qa280 (qf257 10).toInt v259.toInt := e296
        skip
        replace hw : pw D A s.heap H locs [wd_Mpr cs q qr (fun k => if k = 0 then (some h) else none) qf279 qa280 qg, wdP cs h r g tf ta pf na ma wa cf ca ef ea xf xa] := hw
        refine lv_goto (tgt := 562) S.x S.b d_Mpr_step_227 (by decide) ?_
        exact px_vret S hr hlk hAe hw (Nat.le_of_ble_eq_true rfl) (Nat.le_of_ble_eq_true rfl) (⟨qf279, qa280, rfl, (show (qf279 1).toInt = (qf 1).toInt from by first | exact oz_ff3084e3c1 e223 e284 e242 e263 | omega), (show (qf279 6).toInt = (qf 6).toInt from by first | exact oz_ff3084e3c1 e228 e287 e247 e266 | omega), (show (qf279 7).toInt = (qf 7).toInt from by first | exact oz_ff3084e3c1 e229 e288 e248 e267 | omega), (show (qf279 21).toInt = (qf 21).toInt from by first | exact oz_ff3084e3c1 e234 e293 e253 e273 | omega), (show (qf279 23).toInt = (qf 23).toInt from by first | exact oz_ff3084e3c1 e235 e294 e254 e274 | omega), (show (qf279 24).toInt = (qf 24).toInt from by first | exact oz_ff3084e3c1 e236 e295 e255 e275 | omega), (show RzO (qf279 2).toInt (RuZ X9 K9 ca qa280 (cf 55).toInt (cf 38).toInt st9 (qf279 14).toInt (qf279 11).toInt (qf279 10).toInt (qf279 12).toInt (qf279 13).toInt (qf279 5).toInt (qf279 4).toInt (rkN (qf 4).toInt (qf 14).toInt (v8 : Int) ((qf 11).toInt - 1))) from (fun q9 => RuZ.tq (MdI.w hmd hK hst0 (WrU.tr (n := ((qf 10).toInt - 2)) (c := v259.toInt) WrU.rf e296 (by omega) (by omega)) (hel.elim (fun h8 => Or.inl (hsa.1 _ (by omega) (by omega))) (fun h8 => Or.inr (by omega))) rfl rfl) (by omega) (by omega) (by omega) (by omega) (by omega) (by omega) (by omega)))⟩) d_Mpr_step_562
      · have nc276 : p0.toInt = (5 : Int) := (i_eq (x := p0) (y := 5)).mp c276
        refine lv_iconst (v := (-1)) S.x S.b d_Mpr_step_217 (by decide) ?_
        refine lv_goto (tgt := 222) S.x S.b d_Mpr_step_218 (by decide) ?_
        refine lv_iload S.x S.b d_Mpr_step_222 (lv_at hl 0 rfl) ?_
        refine px_callv (pr := []) (px_runV (As := [.int p1, .int v259, .int (-1), .int v221]) (rest := []) S (c_mr_change l D cs (0 : Int) q qr qg qf257 qa h r g tf ta pf na ma wa cf ca ef ea xf xa p1 v259 (-1) v221  (show 0 ≤ p1.toInt from by first | with_reducible rfl | with_reducible assumption | omega) (show p1.toInt < 1100 from by first | with_reducible rfl | with_reducible assumption | omega) (show -1 ≤ v259.toInt from by first | exact e260 | omega) (show v259.toInt < 37000 from by first | exact e261 | omega) (show 0 ≤ (qf257 10).toInt from by first | with_reducible rfl | with_reducible assumption | omega) (show (qf257 10).toInt < 62000 from by first | with_reducible rfl | with_reducible assumption | omega) (show 0 ≤ v259.toInt → (qf257 2).toInt = -2 from by first | with_reducible rfl | with_reducible assumption | omega) (show -1 ≤ (-1 : Int) from by first | decide | omega) (show (-1 : Int) ≤ 42 from by first | decide | omega) _) hT (pr := []) (pcs := [wd_Mpr cs q qr (fun k => if k = 0 then (some h) else none) qf257 qa qg, wdP cs h r g tf ta pf na ma wa cf ca ef ea xf xa]) hw (oX_call (P := (fun A U H => (oP A g U H) ∧ (oLW A U H))) (pr := []) (oG_and oG_P oG_LW) hw hA ⟨hP, hSh⟩) (px_recv hT hw 0 0 rfl rfl rfl) m14_147 m14_144 m14_146 ms_17_1 m1_22 q_Mpr_change ⟨Nat.le_of_ble_eq_true rfl, Nat.le_of_ble_eq_true rfl⟩ hl.1 rfl (Nat.le_of_ble_eq_true rfl) d_Mpr_step_224 ⟨Nat.le_of_ble_eq_true rfl, Nat.le_of_ble_eq_true rfl⟩) hw hA (fun p301 H locs hp301 hw => ?_)
        obtain ⟨qf299, qa300, rfl, e303, e304, e305, e306, e307, e308, e309, e310, e311, e312, e313, e314, e315, e316⟩ := hp301
        replace e303 : ChO v259.toInt (qf299 2).toInt (qf257 2).toInt (qf299 10).toInt (qf257 10).toInt := e303
        have hch := e303
        unfold ChO TwO at hch
        replace e304 : (qf299 1).toInt = (qf257 1).toInt := e304
        replace e305 : (qf299 4).toInt = (qf257 4).toInt := e305
        replace e306 : (qf299 5).toInt = (qf257 5).toInt := e306
        replace e307 : (qf299 6).toInt = (qf257 6).toInt := e307
        replace e308 : (qf299 7).toInt = (qf257 7).toInt := e308
        replace e309 : (qf299 11).toInt = (qf257 11).toInt := e309
        replace e310 : (qf299 12).toInt = (qf257 12).toInt := e310
        replace e311 : (qf299 13).toInt = (qf257 13).toInt := e311
        replace e312 : (qf299 14).toInt = (qf257 14).toInt := e312
        replace e313 : (qf299 21).toInt = (qf257 21).toInt := e313
        replace e314 : (qf299 23).toInt = (qf257 23).toInt := e314
        replace e315 : (qf299 24).toInt = (qf257 24).toInt := e315
        replace e316 : WrU qa qa300 (qf257 10).toInt v259.toInt := e316
        skip
        replace hw : pw D A s.heap H locs [wd_Mpr cs q qr (fun k => if k = 0 then (some h) else none) qf299 qa300 qg, wdP cs h r g tf ta pf na ma wa cf ca ef ea xf xa] := hw
        refine lv_goto (tgt := 562) S.x S.b d_Mpr_step_227 (by decide) ?_
        exact px_vret S hr hlk hAe hw (Nat.le_of_ble_eq_true rfl) (Nat.le_of_ble_eq_true rfl) (⟨qf299, qa300, rfl, (show (qf299 1).toInt = (qf 1).toInt from by first | exact oz_ff3084e3c1 e223 e304 e242 e263 | omega), (show (qf299 6).toInt = (qf 6).toInt from by first | exact oz_ff3084e3c1 e228 e307 e247 e266 | omega), (show (qf299 7).toInt = (qf 7).toInt from by first | exact oz_ff3084e3c1 e229 e308 e248 e267 | omega), (show (qf299 21).toInt = (qf 21).toInt from by first | exact oz_ff3084e3c1 e234 e313 e253 e273 | omega), (show (qf299 23).toInt = (qf 23).toInt from by first | exact oz_ff3084e3c1 e235 e314 e254 e274 | omega), (show (qf299 24).toInt = (qf 24).toInt from by first | exact oz_ff3084e3c1 e236 e315 e255 e275 | omega), (show RzO (qf299 2).toInt (RuZ X9 K9 ca qa300 (cf 55).toInt (cf 38).toInt st9 (qf299 14).toInt (qf299 11).toInt (qf299 10).toInt (qf299 12).toInt (qf299 13).toInt (qf299 5).toInt (qf299 4).toInt (rkN (qf 4).toInt (qf 14).toInt (v8 : Int) ((qf 11).toInt - 1))) from (fun q9 => RuZ.tq (MdI.w hmd hK hst0 (WrU.tr (n := ((qf 10).toInt - 2)) (c := v259.toInt) WrU.rf e316 (by omega) (by omega)) (hel.elim (fun h8 => Or.inl (hsa.1 _ (by omega) (by omega))) (fun h8 => Or.inr (by omega))) rfl rfl) (by omega) (by omega) (by omega) (by omega) (by omega) (by omega) (by omega)))⟩) d_Mpr_step_562
    · simp only [List.mem_cons, List.not_mem_nil, or_false] at c59
      refine lv_aload_n S.x S.b d_Mpr_step_230 rfl (lv_at hl 0 rfl) ?_
      have ho := LcC.o3 hlc (by rw [hp0]; omega); try rw [hp1] at ho; rw [hp2] at ho; obtain ⟨S0, hS0, hsy, hb6, hK⟩ := ho; have hl0 : (S9.length : Int) = S0.length + 1 := (by rw [hS0, List.length_cons]; omega); have hst0 : StV (qa 9) P9 S0 ((qf 10).toInt - 1) nb9 := (by have q8 := hst; rw [hS0] at q8; exact q8); have hsv := hmd.sv hsy
      refine lv_iload_n S.x S.b d_Mpr_step_231 rfl (lv_at hl 2 rfl) ?_
      refine lv_aload_n S.x S.b d_Mpr_step_232 rfl (lv_at hl 0 rfl) ?_
      refine lv_iload_n S.x S.b d_Mpr_step_233 rfl (lv_at hl 2 rfl) ?_
      refine px_calli (pr := []) (px_runV (As := [.int p1]) (rest := [.int p1, .ref q]) S (c_mr_cellOf l D cs (0 : Int) q qr qg qf qa h r g tf ta pf na ma wa cf ca ef ea xf xa p1  (show 0 ≤ p1.toInt from by first | with_reducible rfl | with_reducible assumption | omega) (show p1.toInt < 1100 from by first | with_reducible rfl | with_reducible assumption | omega) (show 0 ≤ clo ca (qf 12).toInt p1 from by first | with_reducible rfl | with_reducible assumption | omega) (show clo ca (qf 12).toInt p1 ≤ 36990 from by first | with_reducible rfl | with_reducible assumption | omega) _) hT (pr := []) (pcs := [wd_Mpr cs q qr (fun k => if k = 0 then (some h) else none) qf qa qg, wdP cs h r g tf ta pf na ma wa cf ca ef ea xf xa]) hw (oX_call (P := (fun A U H => (oP A g U H))) (pr := []) oG_P hw hA hP) (px_recv hT hw 0 0 rfl rfl rfl) m14_119 m14_116 m14_118 ms_16_11 m1_22 q_Mpr_cellOf ⟨Nat.le_of_ble_eq_true rfl, Nat.le_of_ble_eq_true rfl⟩ hl.1 rfl (Nat.le_of_ble_eq_true rfl) d_Mpr_step_234 ⟨Nat.le_of_ble_eq_true rfl, Nat.le_of_ble_eq_true rfl⟩) hw hA (fun v318 p317 H locs hp317 hw => ?_)
      obtain ⟨rfl, e319⟩ := hp317
      replace e319 : v318.toInt = clo ca (qf 12).toInt p1 := e319
      replace hw : pw D A s.heap H locs [wd_Mpr cs q qr (fun k => if k = 0 then (some h) else none) qf qa qg, wdP cs h r g tf ta pf na ma wa cf ca ef ea xf xa] := hw
      have lv318 := Int32.le_toInt v318
      have uv318 := Int32.toInt_lt v318
      refine lv_iload_n S.x S.b d_Mpr_step_237 rfl (lv_at hl 3 rfl) ?_
      have hb6 := hb6 (by rw [hp0]; omega)
      refine lv_aload_n S.x S.b d_Mpr_step_238 rfl (lv_at hl 0 rfl) ?_
      refine px_calli (pr := []) (px_runV (As := []) (rest := [.int p2, .int v318, .int p1, .ref q]) S (c_mr_take l D cs (0 : Int) q qr qg qa qf h r g tf ta pf na ma wa cf ca ef ea xf xa   (show 1 ≤ (qf 10).toInt from by first | with_reducible rfl | with_reducible assumption | omega) (show (qf 10).toInt ≤ 62500 from by first | with_reducible rfl | with_reducible assumption | omega) _) hT (pr := []) (pcs := [wd_Mpr cs q qr (fun k => if k = 0 then (some h) else none) qf qa qg, wdP cs h r g tf ta pf na ma wa cf ca ef ea xf xa]) hw (oX_call (P := (fun A U H => (oP A g U H))) (pr := []) oG_P hw hA hP) (px_recv hT hw 0 0 rfl rfl rfl) m14_123 m14_120 m14_121 m14_122 m1_22 q_Mpr_take ⟨Nat.le_of_ble_eq_true rfl, Nat.le_of_ble_eq_true rfl⟩ hl.1 rfl (Nat.le_of_ble_eq_true rfl) d_Mpr_step_239 ⟨Nat.le_of_ble_eq_true rfl, Nat.le_of_ble_eq_true rfl⟩) hw hA (fun v323 p322 H locs hp322 hw => ?_)
      obtain ⟨qf321, rfl, e324, e325, e326, e327, e328, e329, e330, e331, e332, e333, e334, e335, e336, e337, e338⟩ := hp322
      replace e324 : (qf321 10).toInt = (qf 10).toInt - 1 := e324
      replace e325 : (qf321 1).toInt = (qf 1).toInt := e325
      replace e326 : (qf321 2).toInt = (qf 2).toInt := e326
      replace e327 : (qf321 3).toInt = (qf 3).toInt := e327
      replace e328 : (qf321 4).toInt = (qf 4).toInt := e328
      replace e329 : (qf321 5).toInt = (qf 5).toInt := e329
      replace e330 : (qf321 6).toInt = (qf 6).toInt := e330
      replace e331 : (qf321 7).toInt = (qf 7).toInt := e331
      replace e332 : (qf321 11).toInt = (qf 11).toInt := e332
      replace e333 : (qf321 12).toInt = (qf 12).toInt := e333
      replace e334 : (qf321 13).toInt = (qf 13).toInt := e334
      replace e335 : (qf321 14).toInt = (qf 14).toInt := e335
      replace e336 : (qf321 21).toInt = (qf 21).toInt := e336
      replace e337 : (qf321 23).toInt = (qf 23).toInt := e337
      replace e338 : (qf321 24).toInt = (qf 24).toInt := e338
      replace hw : pw D A s.heap H locs [wd_Mpr cs q qr (fun k => if k = 0 then (some h) else none) qf321 qa qg, wdP cs h r g tf ta pf na ma wa cf ca ef ea xf xa] := hw
      have lv323 := Int32.le_toInt v323
      have uv323 := Int32.toInt_lt v323
      have hcl_qf321 : clo ca (qf321 12).toInt p1 = clo ca (qf 12).toInt p1 := (by rw [show (qf321 12).toInt = (qf 12).toInt by omega])
      refine px_callv (pr := []) (px_runV (As := [.int p1, .int v318, .int p2, .int v323]) (rest := []) S (c_mr_change l D cs (0 : Int) q qr qg qf321 qa h r g tf ta pf na ma wa cf ca ef ea xf xa p1 v318 p2 v323  (show 0 ≤ p1.toInt from by first | with_reducible rfl | with_reducible assumption | omega) (show p1.toInt < 1100 from by first | with_reducible rfl | with_reducible assumption | omega) (show -1 ≤ v318.toInt from by first | with_reducible rfl | with_reducible assumption | omega) (show v318.toInt < 37000 from by first | with_reducible rfl | with_reducible assumption | omega) (show 0 ≤ (qf321 10).toInt from by first | with_reducible rfl | with_reducible assumption | omega) (show (qf321 10).toInt < 62000 from by first | with_reducible rfl | with_reducible assumption | omega) (show 0 ≤ v318.toInt → (qf321 2).toInt = -2 from by first | exact fun q9 => oz_c63343e2a8 e326 g0 | omega) (show -1 ≤ p2.toInt from by first | with_reducible rfl | with_reducible assumption | omega) (show p2.toInt ≤ 42 from by first | with_reducible rfl | with_reducible assumption | omega) _) hT (pr := []) (pcs := [wd_Mpr cs q qr (fun k => if k = 0 then (some h) else none) qf321 qa qg, wdP cs h r g tf ta pf na ma wa cf ca ef ea xf xa]) hw (oX_call (P := (fun A U H => (oP A g U H) ∧ (oLW A U H))) (pr := []) (oG_and oG_P oG_LW) hw hA ⟨hP, hSh⟩) (px_recv hT hw 0 0 rfl rfl rfl) m14_147 m14_144 m14_146 ms_17_1 m1_22 q_Mpr_change ⟨Nat.le_of_ble_eq_true rfl, Nat.le_of_ble_eq_true rfl⟩ hl.1 rfl (Nat.le_of_ble_eq_true rfl) d_Mpr_step_242 ⟨Nat.le_of_ble_eq_true rfl, Nat.le_of_ble_eq_true rfl⟩) hw hA (fun p343 H locs hp343 hw => ?_)
      obtain ⟨qf341, qa342, rfl, e345, e346, e347, e348, e349, e350, e351, e352, e353, e354, e355, e356, e357, e358⟩ := hp343
      replace e345 : ChO v318.toInt (qf341 2).toInt (qf321 2).toInt (qf341 10).toInt (qf321 10).toInt := e345
      have hch := e345
      unfold ChO TwO at hch
      replace e346 : (qf341 1).toInt = (qf321 1).toInt := e346
      replace e347 : (qf341 4).toInt = (qf321 4).toInt := e347
      replace e348 : (qf341 5).toInt = (qf321 5).toInt := e348
      replace e349 : (qf341 6).toInt = (qf321 6).toInt := e349
      replace e350 : (qf341 7).toInt = (qf321 7).toInt := e350
      replace e351 : (qf341 11).toInt = (qf321 11).toInt := e351
      replace e352 : (qf341 12).toInt = (qf321 12).toInt := e352
      replace e353 : (qf341 13).toInt = (qf321 13).toInt := e353
      replace e354 : (qf341 14).toInt = (qf321 14).toInt := e354
      replace e355 : (qf341 21).toInt = (qf321 21).toInt := e355
      replace e356 : (qf341 23).toInt = (qf321 23).toInt := e356
      replace e357 : (qf341 24).toInt = (qf321 24).toInt := e357
      replace e358 : WrU qa qa342 (qf321 10).toInt v318.toInt := e358
      skip
      replace hw : pw D A s.heap H locs [wd_Mpr cs q qr (fun k => if k = 0 then (some h) else none) qf341 qa342 qg, wdP cs h r g tf ta pf na ma wa cf ca ef ea xf xa] := hw
      refine lv_goto (tgt := 562) S.x S.b d_Mpr_step_245 (by decide) ?_
      exact px_vret S hr hlk hAe hw (Nat.le_of_ble_eq_true rfl) (Nat.le_of_ble_eq_true rfl) (⟨qf341, qa342, rfl, (show (qf341 1).toInt = (qf 1).toInt from by first | exact oz_1687f4cc65 e325 e346 | omega), (show (qf341 6).toInt = (qf 6).toInt from by first | exact oz_1687f4cc65 e330 e349 | omega), (show (qf341 7).toInt = (qf 7).toInt from by first | exact oz_1687f4cc65 e331 e350 | omega), (show (qf341 21).toInt = (qf 21).toInt from by first | exact oz_1687f4cc65 e336 e355 | omega), (show (qf341 23).toInt = (qf 23).toInt from by first | exact oz_1687f4cc65 e337 e356 | omega), (show (qf341 24).toInt = (qf 24).toInt from by first | exact oz_1687f4cc65 e338 e357 | omega), (show RzO (qf341 2).toInt (RuZ X9 K9 ca qa342 (cf 55).toInt (cf 38).toInt st9 (qf341 14).toInt (qf341 11).toInt (qf341 10).toInt (qf341 12).toInt (qf341 13).toInt (qf341 5).toInt (qf341 4).toInt (rkN (qf 4).toInt (qf 14).toInt (v8 : Int) ((qf 11).toInt - 1))) from (fun q9 => RuZ.tq (MdI.w hmd hK hst0 (WrU.tr (n := ((qf 10).toInt - 1)) (c := v318.toInt) WrU.rf e358 (by omega) (by omega)) (Or.inl (by rw [show v318.toInt = (clo ca (qf 12).toInt p1) by omega]; exact hsv.1)) rfl rfl) (by omega) (by omega) (by omega) (by omega) (by omega) (by omega) (by omega)))⟩) d_Mpr_step_562
    · simp only [List.mem_cons, List.not_mem_nil, or_false] at c59
      refine lv_aload_n S.x S.b d_Mpr_step_248 rfl (lv_at hl 0 rfl) ?_
      have ho := LcC.o2 hlc (by rw [hp0]; omega); try rw [hp1] at ho; obtain ⟨hsy, hK⟩ := ho; have hsv := hmd.sv hsy
      refine lv_iload_n S.x S.b d_Mpr_step_249 rfl (lv_at hl 2 rfl) ?_
      refine lv_aload_n S.x S.b d_Mpr_step_250 rfl (lv_at hl 0 rfl) ?_
      refine lv_iload_n S.x S.b d_Mpr_step_251 rfl (lv_at hl 2 rfl) ?_
      refine px_calli (pr := []) (px_runV (As := [.int p1]) (rest := [.int p1, .ref q]) S (c_mr_cellOf l D cs (0 : Int) q qr qg qf qa h r g tf ta pf na ma wa cf ca ef ea xf xa p1  (show 0 ≤ p1.toInt from by first | with_reducible rfl | with_reducible assumption | omega) (show p1.toInt < 1100 from by first | with_reducible rfl | with_reducible assumption | omega) (show 0 ≤ clo ca (qf 12).toInt p1 from by first | with_reducible rfl | with_reducible assumption | omega) (show clo ca (qf 12).toInt p1 ≤ 36990 from by first | with_reducible rfl | with_reducible assumption | omega) _) hT (pr := []) (pcs := [wd_Mpr cs q qr (fun k => if k = 0 then (some h) else none) qf qa qg, wdP cs h r g tf ta pf na ma wa cf ca ef ea xf xa]) hw (oX_call (P := (fun A U H => (oP A g U H))) (pr := []) oG_P hw hA hP) (px_recv hT hw 0 0 rfl rfl rfl) m14_119 m14_116 m14_118 ms_16_11 m1_22 q_Mpr_cellOf ⟨Nat.le_of_ble_eq_true rfl, Nat.le_of_ble_eq_true rfl⟩ hl.1 rfl (Nat.le_of_ble_eq_true rfl) d_Mpr_step_252 ⟨Nat.le_of_ble_eq_true rfl, Nat.le_of_ble_eq_true rfl⟩) hw hA (fun v360 p359 H locs hp359 hw => ?_)
      obtain ⟨rfl, e361⟩ := hp359
      replace e361 : v360.toInt = clo ca (qf 12).toInt p1 := e361
      replace hw : pw D A s.heap H locs [wd_Mpr cs q qr (fun k => if k = 0 then (some h) else none) qf qa qg, wdP cs h r g tf ta pf na ma wa cf ca ef ea xf xa] := hw
      have lv360 := Int32.le_toInt v360
      have uv360 := Int32.toInt_lt v360
      refine lv_iload_n S.x S.b d_Mpr_step_255 rfl (lv_at hl 3 rfl) ?_
      refine px_callv (pr := []) (px_runV (As := [.int p1, .int v360, .int p2]) (rest := []) S (c_mr_move l D cs (0 : Int) q qr qg qf qa h r g tf ta pf na ma wa cf ca ef ea xf xa p1 v360 p2  (show 0 ≤ p1.toInt from by first | with_reducible rfl | with_reducible assumption | omega) (show p1.toInt < 1100 from by first | with_reducible rfl | with_reducible assumption | omega) (show -1 ≤ v360.toInt from by first | with_reducible rfl | with_reducible assumption | omega) (show v360.toInt < 37000 from by first | with_reducible rfl | with_reducible assumption | omega) (show 0 ≤ (qf 10).toInt from by first | with_reducible rfl | with_reducible assumption | omega) (show (qf 10).toInt < 62000 from by first | with_reducible rfl | with_reducible assumption | omega) (show 0 ≤ v360.toInt → (qf 2).toInt = -2 from by first | exact fun q9 => g0 | omega) _) hT (pr := []) (pcs := [wd_Mpr cs q qr (fun k => if k = 0 then (some h) else none) qf qa qg, wdP cs h r g tf ta pf na ma wa cf ca ef ea xf xa]) hw (oX_call (P := (fun A U H => (oP A g U H))) (pr := []) oG_P hw hA hP) (px_recv hT hw 0 0 rfl rfl rfl) m14_160 m14_157 m14_159 ms_17_3 m1_22 q_Mpr_move ⟨Nat.le_of_ble_eq_true rfl, Nat.le_of_ble_eq_true rfl⟩ hl.1 rfl (Nat.le_of_ble_eq_true rfl) d_Mpr_step_256 ⟨Nat.le_of_ble_eq_true rfl, Nat.le_of_ble_eq_true rfl⟩) hw hA (fun p366 H locs hp366 hw => ?_)
      obtain ⟨qf364, qa365, rfl, e368, e369, e370, e371, e372, e373, e374, e375, e376, e377, e378, e379, e380, e381⟩ := hp366
      replace e368 : ChO v360.toInt (qf364 2).toInt (qf 2).toInt (qf364 10).toInt (qf 10).toInt := e368
      have hch := e368
      unfold ChO TwO at hch
      replace e369 : (qf364 1).toInt = (qf 1).toInt := e369
      replace e370 : (qf364 4).toInt = (qf 4).toInt := e370
      replace e371 : (qf364 5).toInt = (qf 5).toInt := e371
      replace e372 : (qf364 6).toInt = (qf 6).toInt := e372
      replace e373 : (qf364 7).toInt = (qf 7).toInt := e373
      replace e374 : (qf364 11).toInt = (qf 11).toInt := e374
      replace e375 : (qf364 12).toInt = (qf 12).toInt := e375
      replace e376 : (qf364 13).toInt = (qf 13).toInt := e376
      replace e377 : (qf364 14).toInt = (qf 14).toInt := e377
      replace e378 : (qf364 21).toInt = (qf 21).toInt := e378
      replace e379 : (qf364 23).toInt = (qf 23).toInt := e379
      replace e380 : (qf364 24).toInt = (qf 24).toInt := e380
      replace e381 : WrU qa qa365 (qf 10).toInt v360.toInt := e381
      skip
      replace hw : pw D A s.heap H locs [wd_Mpr cs q qr (fun k => if k = 0 then (some h) else none) qf364 qa365 qg, wdP cs h r g tf ta pf na ma wa cf ca ef ea xf xa] := hw
      refine lv_goto (tgt := 562) S.x S.b d_Mpr_step_259 (by decide) ?_
      exact px_vret S hr hlk hAe hw (Nat.le_of_ble_eq_true rfl) (Nat.le_of_ble_eq_true rfl) (⟨qf364, qa365, rfl, (show (qf364 1).toInt = (qf 1).toInt from by first | exact e369 | omega), (show (qf364 6).toInt = (qf 6).toInt from by first | exact e372 | omega), (show (qf364 7).toInt = (qf 7).toInt from by first | exact e373 | omega), (show (qf364 21).toInt = (qf 21).toInt from by first | exact e378 | omega), (show (qf364 23).toInt = (qf 23).toInt from by first | exact e379 | omega), (show (qf364 24).toInt = (qf 24).toInt from by first | exact e380 | omega), (show RzO (qf364 2).toInt (RuZ X9 K9 ca qa365 (cf 55).toInt (cf 38).toInt st9 (qf364 14).toInt (qf364 11).toInt (qf364 10).toInt (qf364 12).toInt (qf364 13).toInt (qf364 5).toInt (qf364 4).toInt (rkN (qf 4).toInt (qf 14).toInt (v8 : Int) ((qf 11).toInt - 1))) from (fun q9 => RuZ.tq (MdI.w hmd hK hst (WrU.tr (n := (qf 10).toInt) (c := v360.toInt) WrU.rf e381 (by omega) (by omega)) (Or.inl (by rw [show v360.toInt = (clo ca (qf 12).toInt p1) by omega]; exact hsv.1)) rfl rfl) (by omega) (by omega) (by omega) (by omega) (by omega) (by omega) (by omega)))⟩) d_Mpr_step_562
    · simp only [List.mem_cons, List.not_mem_nil, or_false] at c59
      refine lv_aload_n S.x S.b d_Mpr_step_262 rfl (lv_at hl 0 rfl) ?_
      have ho := LcC.o4 hlc (by rw [hp0]; omega); try rw [hp1] at ho; obtain ⟨S0, hS0, hsy, hK⟩ := ho; have hl0 : (S9.length : Int) = S0.length + 1 := (by rw [hS0, List.length_cons]; omega); have hst0 : StV (qa 9) P9 S0 ((qf 10).toInt - 1) nb9 := (by have q8 := hst; rw [hS0] at q8; exact q8); have hsa := hmd.sa hsy
      refine lv_iload_n S.x S.b d_Mpr_step_263 rfl (lv_at hl 2 rfl) ?_
      refine lv_aload_n S.x S.b d_Mpr_step_264 rfl (lv_at hl 0 rfl) ?_
      refine lv_iload_n S.x S.b d_Mpr_step_265 rfl (lv_at hl 2 rfl) ?_
      refine lv_aload_n S.x S.b d_Mpr_step_266 rfl (lv_at hl 0 rfl) ?_
      refine px_calli (pr := []) (px_runV (As := []) (rest := [.int p1, .ref q, .int p1, .ref q]) S (c_mr_take l D cs (0 : Int) q qr qg qa qf h r g tf ta pf na ma wa cf ca ef ea xf xa   (show 1 ≤ (qf 10).toInt from by first | with_reducible rfl | with_reducible assumption | omega) (show (qf 10).toInt ≤ 62500 from by first | with_reducible rfl | with_reducible assumption | omega) _) hT (pr := []) (pcs := [wd_Mpr cs q qr (fun k => if k = 0 then (some h) else none) qf qa qg, wdP cs h r g tf ta pf na ma wa cf ca ef ea xf xa]) hw (oX_call (P := (fun A U H => (oP A g U H))) (pr := []) oG_P hw hA hP) (px_recv hT hw 0 0 rfl rfl rfl) m14_123 m14_120 m14_121 m14_122 m1_22 q_Mpr_take ⟨Nat.le_of_ble_eq_true rfl, Nat.le_of_ble_eq_true rfl⟩ hl.1 rfl (Nat.le_of_ble_eq_true rfl) d_Mpr_step_267 ⟨Nat.le_of_ble_eq_true rfl, Nat.le_of_ble_eq_true rfl⟩) hw hA (fun v385 p384 H locs hp384 hw => ?_)
      obtain ⟨qf383, rfl, e386, e387, e388, e389, e390, e391, e392, e393, e394, e395, e396, e397, e398, e399, e400⟩ := hp384
      replace e386 : (qf383 10).toInt = (qf 10).toInt - 1 := e386
      replace e387 : (qf383 1).toInt = (qf 1).toInt := e387
      replace e388 : (qf383 2).toInt = (qf 2).toInt := e388
      replace e389 : (qf383 3).toInt = (qf 3).toInt := e389
      replace e390 : (qf383 4).toInt = (qf 4).toInt := e390
      replace e391 : (qf383 5).toInt = (qf 5).toInt := e391
      replace e392 : (qf383 6).toInt = (qf 6).toInt := e392
      replace e393 : (qf383 7).toInt = (qf 7).toInt := e393
      replace e394 : (qf383 11).toInt = (qf 11).toInt := e394
      replace e395 : (qf383 12).toInt = (qf 12).toInt := e395
      replace e396 : (qf383 13).toInt = (qf 13).toInt := e396
      replace e397 : (qf383 14).toInt = (qf 14).toInt := e397
      replace e398 : (qf383 21).toInt = (qf 21).toInt := e398
      replace e399 : (qf383 23).toInt = (qf 23).toInt := e399
      replace e400 : (qf383 24).toInt = (qf 24).toInt := e400
      replace hw : pw D A s.heap H locs [wd_Mpr cs q qr (fun k => if k = 0 then (some h) else none) qf383 qa qg, wdP cs h r g tf ta pf na ma wa cf ca ef ea xf xa] := hw
      have lv385 := Int32.le_toInt v385
      have uv385 := Int32.toInt_lt v385
      have hcl_qf383 : clo ca (qf383 12).toInt p1 = clo ca (qf 12).toInt p1 := (by rw [show (qf383 12).toInt = (qf 12).toInt by omega])
      refine px_calli (pr := []) (px_runV (As := [.int p1, .int v385]) (rest := [.int p1, .ref q]) S (c_mr_elementAt l D cs (0 : Int) q qr qg qa qf383 h r g tf ta pf na ma wa cf ca ef ea xf xa p1 v385  (show 0 ≤ p1.toInt from by first | with_reducible rfl | with_reducible assumption | omega) (show p1.toInt < 1100 from by first | with_reducible rfl | with_reducible assumption | omega) (show 0 ≤ clo ca (qf383 12).toInt p1 from by first | with_reducible rfl | with_reducible assumption | omega) (show clo ca (qf383 12).toInt p1 ≤ 36990 from by first | with_reducible rfl | with_reducible assumption | omega) (by rw [show (qf383 12).toInt = (qf 12).toInt by omega]; exact fun c9 a9 b9 => (fun q8 => ⟨q8.1, by omega⟩) (hnm.2.2.2.1 c9 (hsa.1 c9 a9 b9))) _) hT (pr := []) (pcs := [wd_Mpr cs q qr (fun k => if k = 0 then (some h) else none) qf383 qa qg, wdP cs h r g tf ta pf na ma wa cf ca ef ea xf xa]) hw (oX_call (P := (fun A U H => (oP A g U H))) (pr := []) oG_P hw hA hP) (px_recv hT hw 0 0 rfl rfl rfl) m14_131 m14_128 m14_130 ms_16_13 m1_22 q_Mpr_elementAt ⟨Nat.le_of_ble_eq_true rfl, Nat.le_of_ble_eq_true rfl⟩ hl.1 rfl (Nat.le_of_ble_eq_true rfl) d_Mpr_step_270 ⟨Nat.le_of_ble_eq_true rfl, Nat.le_of_ble_eq_true rfl⟩) hw hA (fun v404 p403 H locs hp403 hw => ?_)
      obtain ⟨qf402, rfl, e405, e406, e407, e408, e409, e410, e411, e412, e413, e414, e415, e416, e417, e418, e419, e420⟩ := hp403
      replace e405 : -1 ≤ v404.toInt := e405
      replace e406 : v404.toInt < 37000 := e406
      replace e407 : ElV v404.toInt (qf402 2).toInt (qf383 2).toInt (arA ca qa (qf383 12).toInt p1) (arN ca qa (qf383 12).toInt p1) v385.toInt := e407
      have hel := e407
      rw [show (qf383 12).toInt = (qf 12).toInt by omega] at hel
      unfold ElV at hel
      have hev : 0 ≤ v404.toInt ∨ (qf402 2).toInt = 2 := hel.elim (fun h8 => Or.inl (hnm.2.2.2.1 _ (hsa.1 v404.toInt (by omega) (by omega))).1) (fun h8 => Or.inr h8.2)
      replace e408 : (qf402 1).toInt = (qf383 1).toInt := e408
      replace e409 : (qf402 4).toInt = (qf383 4).toInt := e409
      replace e410 : (qf402 5).toInt = (qf383 5).toInt := e410
      replace e411 : (qf402 6).toInt = (qf383 6).toInt := e411
      replace e412 : (qf402 7).toInt = (qf383 7).toInt := e412
      replace e413 : (qf402 10).toInt = (qf383 10).toInt := e413
      replace e414 : (qf402 11).toInt = (qf383 11).toInt := e414
      replace e415 : (qf402 12).toInt = (qf383 12).toInt := e415
      replace e416 : (qf402 13).toInt = (qf383 13).toInt := e416
      replace e417 : (qf402 14).toInt = (qf383 14).toInt := e417
      replace e418 : (qf402 21).toInt = (qf383 21).toInt := e418
      replace e419 : (qf402 23).toInt = (qf383 23).toInt := e419
      replace e420 : (qf402 24).toInt = (qf383 24).toInt := e420
      replace hw : pw D A s.heap H locs [wd_Mpr cs q qr (fun k => if k = 0 then (some h) else none) qf402 qa qg, wdP cs h r g tf ta pf na ma wa cf ca ef ea xf xa] := hw
      have lv404 := Int32.le_toInt v404
      have uv404 := Int32.toInt_lt v404
      refine lv_iload_n S.x S.b d_Mpr_step_273 rfl (lv_at hl 3 rfl) ?_
      refine px_callv (pr := []) (px_runV (As := [.int p1, .int v404, .int p2]) (rest := []) S (c_mr_move l D cs (0 : Int) q qr qg qf402 qa h r g tf ta pf na ma wa cf ca ef ea xf xa p1 v404 p2  (show 0 ≤ p1.toInt from by first | with_reducible rfl | with_reducible assumption | omega) (show p1.toInt < 1100 from by first | with_reducible rfl | with_reducible assumption | omega) (show -1 ≤ v404.toInt from by first | exact e405 | omega) (show v404.toInt < 37000 from by first | exact e406 | omega) (show 0 ≤ (qf402 10).toInt from by first | with_reducible rfl | with_reducible assumption | omega) (show (qf402 10).toInt < 62000 from by first | with_reducible rfl | with_reducible assumption | omega) (show 0 ≤ v404.toInt → (qf402 2).toInt = -2 from by first | with_reducible rfl | with_reducible assumption | omega) _) hT (pr := []) (pcs := [wd_Mpr cs q qr (fun k => if k = 0 then (some h) else none) qf402 qa qg, wdP cs h r g tf ta pf na ma wa cf ca ef ea xf xa]) hw (oX_call (P := (fun A U H => (oP A g U H))) (pr := []) oG_P hw hA hP) (px_recv hT hw 0 0 rfl rfl rfl) m14_160 m14_157 m14_159 ms_17_3 m1_22 q_Mpr_move ⟨Nat.le_of_ble_eq_true rfl, Nat.le_of_ble_eq_true rfl⟩ hl.1 rfl (Nat.le_of_ble_eq_true rfl) d_Mpr_step_274 ⟨Nat.le_of_ble_eq_true rfl, Nat.le_of_ble_eq_true rfl⟩) hw hA (fun p425 H locs hp425 hw => ?_)
      obtain ⟨qf423, qa424, rfl, e427, e428, e429, e430, e431, e432, e433, e434, e435, e436, e437, e438, e439, e440⟩ := hp425
      replace e427 : ChO v404.toInt (qf423 2).toInt (qf402 2).toInt (qf423 10).toInt (qf402 10).toInt := e427
      have hch := e427
      unfold ChO TwO at hch
      replace e428 : (qf423 1).toInt = (qf402 1).toInt := e428
      replace e429 : (qf423 4).toInt = (qf402 4).toInt := e429
      replace e430 : (qf423 5).toInt = (qf402 5).toInt := e430
      replace e431 : (qf423 6).toInt = (qf402 6).toInt := e431
      replace e432 : (qf423 7).toInt = (qf402 7).toInt := e432
      replace e433 : (qf423 11).toInt = (qf402 11).toInt := e433
      replace e434 : (qf423 12).toInt = (qf402 12).toInt := e434
      replace e435 : (qf423 13).toInt = (qf402 13).toInt := e435
      replace e436 : (qf423 14).toInt = (qf402 14).toInt := e436
      replace e437 : (qf423 21).toInt = (qf402 21).toInt := e437
      replace e438 : (qf423 23).toInt = (qf402 23).toInt := e438
      replace e439 : (qf423 24).toInt = (qf402 24).toInt := e439
      replace e440 : WrU qa qa424 (qf402 10).toInt v404.toInt := e440
      skip
      replace hw : pw D A s.heap H locs [wd_Mpr cs q qr (fun k => if k = 0 then (some h) else none) qf423 qa424 qg, wdP cs h r g tf ta pf na ma wa cf ca ef ea xf xa] := hw
      refine lv_goto (tgt := 562) S.x S.b d_Mpr_step_277 (by decide) ?_
      exact px_vret S hr hlk hAe hw (Nat.le_of_ble_eq_true rfl) (Nat.le_of_ble_eq_true rfl) (⟨qf423, qa424, rfl, (show (qf423 1).toInt = (qf 1).toInt from by first | exact oz_e13fc83238 e387 e428 e408 | omega), (show (qf423 6).toInt = (qf 6).toInt from by first | exact oz_e13fc83238 e392 e431 e411 | omega), (show (qf423 7).toInt = (qf 7).toInt from by first | exact oz_e13fc83238 e393 e432 e412 | omega), (show (qf423 21).toInt = (qf 21).toInt from by first | exact oz_e13fc83238 e398 e437 e418 | omega), (show (qf423 23).toInt = (qf 23).toInt from by first | exact oz_e13fc83238 e399 e438 e419 | omega), (show (qf423 24).toInt = (qf 24).toInt from by first | exact oz_e13fc83238 e400 e439 e420 | omega), (show RzO (qf423 2).toInt (RuZ X9 K9 ca qa424 (cf 55).toInt (cf 38).toInt st9 (qf423 14).toInt (qf423 11).toInt (qf423 10).toInt (qf423 12).toInt (qf423 13).toInt (qf423 5).toInt (qf423 4).toInt (rkN (qf 4).toInt (qf 14).toInt (v8 : Int) ((qf 11).toInt - 1))) from (fun q9 => RuZ.tq (MdI.w hmd hK hst0 (WrU.tr (n := ((qf 10).toInt - 1)) (c := v404.toInt) WrU.rf e440 (by omega) (by omega)) (hel.elim (fun h8 => Or.inl (hsa.1 _ (by omega) (by omega))) (fun h8 => Or.inr (by omega))) rfl rfl) (by omega) (by omega) (by omega) (by omega) (by omega) (by omega) (by omega)))⟩) d_Mpr_step_562
    · simp only [List.mem_cons, List.not_mem_nil, or_false] at c59
      refine lv_aload_n S.x S.b d_Mpr_step_280 rfl (lv_at hl 0 rfl) ?_
      have ho := LcC.o10 hlc (by rw [hp0]; omega); obtain ⟨S0, hS0, hK⟩ := ho; have hwr : WrU qa qa ((qf 10).toInt - 1) (-1) := WrU.rf; have hl0 : (S9.length : Int) = S0.length + 1 := (by rw [hS0, List.length_cons]; omega); have hst0 : StV (qa 9) P9 S0 ((qf 10).toInt - 1) nb9 := (by have q8 := hst; rw [hS0] at q8; exact q8)
      refine px_calli (pr := []) (px_runV (As := []) (rest := []) S (c_mr_take l D cs (0 : Int) q qr qg qa qf h r g tf ta pf na ma wa cf ca ef ea xf xa   (show 1 ≤ (qf 10).toInt from by first | with_reducible rfl | with_reducible assumption | omega) (show (qf 10).toInt ≤ 62500 from by first | with_reducible rfl | with_reducible assumption | omega) _) hT (pr := []) (pcs := [wd_Mpr cs q qr (fun k => if k = 0 then (some h) else none) qf qa qg, wdP cs h r g tf ta pf na ma wa cf ca ef ea xf xa]) hw (oX_call (P := (fun A U H => (oP A g U H))) (pr := []) oG_P hw hA hP) (px_recv hT hw 0 0 rfl rfl rfl) m14_123 m14_120 m14_121 m14_122 m1_22 q_Mpr_take ⟨Nat.le_of_ble_eq_true rfl, Nat.le_of_ble_eq_true rfl⟩ hl.1 rfl (Nat.le_of_ble_eq_true rfl) d_Mpr_step_281 ⟨Nat.le_of_ble_eq_true rfl, Nat.le_of_ble_eq_true rfl⟩) hw hA (fun v444 p443 H locs hp443 hw => ?_)
      obtain ⟨qf442, rfl, e445, e446, e447, e448, e449, e450, e451, e452, e453, e454, e455, e456, e457, e458, e459⟩ := hp443
      replace e445 : (qf442 10).toInt = (qf 10).toInt - 1 := e445
      replace e446 : (qf442 1).toInt = (qf 1).toInt := e446
      replace e447 : (qf442 2).toInt = (qf 2).toInt := e447
      replace e448 : (qf442 3).toInt = (qf 3).toInt := e448
      replace e449 : (qf442 4).toInt = (qf 4).toInt := e449
      replace e450 : (qf442 5).toInt = (qf 5).toInt := e450
      replace e451 : (qf442 6).toInt = (qf 6).toInt := e451
      replace e452 : (qf442 7).toInt = (qf 7).toInt := e452
      replace e453 : (qf442 11).toInt = (qf 11).toInt := e453
      replace e454 : (qf442 12).toInt = (qf 12).toInt := e454
      replace e455 : (qf442 13).toInt = (qf 13).toInt := e455
      replace e456 : (qf442 14).toInt = (qf 14).toInt := e456
      replace e457 : (qf442 21).toInt = (qf 21).toInt := e457
      replace e458 : (qf442 23).toInt = (qf 23).toInt := e458
      replace e459 : (qf442 24).toInt = (qf 24).toInt := e459
      replace hw : pw D A s.heap H locs [wd_Mpr cs q qr (fun k => if k = 0 then (some h) else none) qf442 qa qg, wdP cs h r g tf ta pf na ma wa cf ca ef ea xf xa] := hw
      have lv444 := Int32.le_toInt v444
      have uv444 := Int32.toInt_lt v444
      refine lv_istore (lv' := [(7, .int v444), (0, .ref q), (1, .int p0), (2, .int p1), (3, .int p2)]) S.x S.b d_Mpr_step_284 hl (by decide) rfl (fun ls hl => ?_)
      refine lv_aload_n S.x S.b d_Mpr_step_286 rfl (lv_at hl 1 rfl) ?_
      refine lv_iload_n S.x S.b d_Mpr_step_287 rfl (lv_at hl 3 rfl) ?_
      refine lv_bipush (v := 45) S.x S.b d_Mpr_step_288 (by decide) ?_
      refine lv_icmp_ne (tgt := 299) S.x S.b d_Mpr_step_290 (by decide) (fun c460 => ?_) (fun c460 => ?_)
      · have nc460 : ¬ p1.toInt = (45 : Int) := mt (i_eq (x := p1) (y := 45)).mpr c460
        refine lv_iload_n S.x S.b d_Mpr_step_299 rfl (lv_at hl 3 rfl) ?_
        refine lv_bipush (v := 33) S.x S.b d_Mpr_step_300 (by decide) ?_
        refine lv_icmp_ne (tgt := 318) S.x S.b d_Mpr_step_302 (by decide) (fun c461 => ?_) (fun c461 => ?_)
        · have nc461 : ¬ p1.toInt = (33 : Int) := mt (i_eq (x := p1) (y := 33)).mpr c461
          refine lv_iload_n S.x S.b d_Mpr_step_318 rfl (lv_at hl 3 rfl) ?_
          refine lv_bipush (v := 126) S.x S.b d_Mpr_step_319 (by decide) ?_
          refine lv_icmp_ne (tgt := 331) S.x S.b d_Mpr_step_321 (by decide) (fun c462 => ?_) (fun c462 => ?_)
          · have nc462 : ¬ p1.toInt = (126 : Int) := mt (i_eq (x := p1) (y := 126)).mpr c462
            refine lv_iload S.x S.b d_Mpr_step_331 (lv_at hl 0 rfl) ?_
            refine px_callv (pr := []) (px_runV (As := [.int v444]) (rest := []) S (c_mr_give l D cs (0 : Int) q qr qg qf442 qa h r g tf ta pf na ma wa cf ca ef ea xf xa v444  (show 0 ≤ (qf442 10).toInt from by first | with_reducible rfl | with_reducible assumption | omega) (show (qf442 10).toInt < 62500 from by first | with_reducible rfl | with_reducible assumption | omega) _) hT (pr := []) (pcs := [wd_Mpr cs q qr (fun k => if k = 0 then (some h) else none) qf442 qa qg, wdP cs h r g tf ta pf na ma wa cf ca ef ea xf xa]) hw (oX_call (P := (fun A U H => (oP A g U H))) (pr := []) oG_P hw hA hP) (px_recv hT hw 0 0 rfl rfl rfl) m13_161 m13_158 m13_159 m13_160 m1_22 q_Mpr_give ⟨Nat.le_of_ble_eq_true rfl, Nat.le_of_ble_eq_true rfl⟩ hl.1 rfl (Nat.le_of_ble_eq_true rfl) d_Mpr_step_333 ⟨Nat.le_of_ble_eq_true rfl, Nat.le_of_ble_eq_true rfl⟩) hw hA (fun p467 H locs hp467 hw => ?_)
            obtain ⟨qf465, qa466, rfl, e469, e470, e471, e472, e473, e474, e475, e476, e477, e478, e479, e480, e481, e482, e483, e484⟩ := hp467
            replace e469 : (qf465 10).toInt = (qf442 10).toInt + 1 := e469
            replace e470 : (qf465 1).toInt = (qf442 1).toInt := e470
            replace e471 : (qf465 2).toInt = (qf442 2).toInt := e471
            replace e472 : (qf465 3).toInt = (qf442 3).toInt := e472
            replace e473 : (qf465 4).toInt = (qf442 4).toInt := e473
            replace e474 : (qf465 5).toInt = (qf442 5).toInt := e474
            replace e475 : (qf465 6).toInt = (qf442 6).toInt := e475
            replace e476 : (qf465 7).toInt = (qf442 7).toInt := e476
            replace e477 : (qf465 11).toInt = (qf442 11).toInt := e477
            replace e478 : (qf465 12).toInt = (qf442 12).toInt := e478
            replace e479 : (qf465 13).toInt = (qf442 13).toInt := e479
            replace e480 : (qf465 14).toInt = (qf442 14).toInt := e480
            replace e481 : (qf465 21).toInt = (qf442 21).toInt := e481
            replace e482 : (qf465 23).toInt = (qf442 23).toInt := e482
            replace e483 : (qf465 24).toInt = (qf442 24).toInt := e483
            replace e484 : NuU qa qa466 9 (qf442 10).toInt v444 := e484
            have hwr := hwr.tr2 (c' := (-1)) (NuU.w (c := (-1)) e484) (by omega) (by omega)
            replace hw : pw D A s.heap H locs [wd_Mpr cs q qr (fun k => if k = 0 then (some h) else none) qf465 qa466 qg, wdP cs h r g tf ta pf na ma wa cf ca ef ea xf xa] := hw
            refine lv_goto (tgt := 562) S.x S.b d_Mpr_step_336 (by decide) ?_
            exact px_vret S hr hlk hAe hw (Nat.le_of_ble_eq_true rfl) (Nat.le_of_ble_eq_true rfl) (⟨qf465, qa466, rfl, (show (qf465 1).toInt = (qf 1).toInt from by first | exact oz_1687f4cc65 e446 e470 | omega), (show (qf465 6).toInt = (qf 6).toInt from by first | exact oz_1687f4cc65 e451 e475 | omega), (show (qf465 7).toInt = (qf 7).toInt from by first | exact oz_1687f4cc65 e452 e476 | omega), (show (qf465 21).toInt = (qf 21).toInt from by first | exact oz_1687f4cc65 e457 e481 | omega), (show (qf465 23).toInt = (qf 23).toInt from by first | exact oz_1687f4cc65 e458 e482 | omega), (show (qf465 24).toInt = (qf 24).toInt from by first | exact oz_1687f4cc65 e459 e483 | omega), (show RzO (qf465 2).toInt (RuZ X9 K9 ca qa466 (cf 55).toInt (cf 38).toInt st9 (qf465 14).toInt (qf465 11).toInt (qf465 10).toInt (qf465 12).toInt (qf465 13).toInt (qf465 5).toInt (qf465 4).toInt (rkN (qf 4).toInt (qf 14).toInt (v8 : Int) ((qf 11).toInt - 1))) from (fun q9 => RuZ.tq (MdI.w hmd hK hst0 hwr (Or.inr (by omega)) rfl rfl) (by omega) (by omega) (by omega) (by omega) (by omega) (by omega) (by omega)))⟩) d_Mpr_step_562
          · have nc462 : p1.toInt = (126 : Int) := (i_eq (x := p1) (y := 126)).mp c462
            refine lv_iload S.x S.b d_Mpr_step_324 (lv_at hl 0 rfl) ?_
            refine lv_iconst (v := (-1)) S.x S.b d_Mpr_step_326 (by decide) ?_
            refine lv_ixor S.x S.b d_Mpr_step_327 ?_
            refine lv_topi (fun z485 ez485 => ?_)
            have lz485 := Int32.le_toInt z485
            have uz485 := Int32.toInt_lt z485
            refine lv_goto (tgt := 333) S.x S.b d_Mpr_step_328 (by decide) ?_
            refine px_callv (pr := []) (px_runV (As := [.int z485]) (rest := []) S (c_mr_give l D cs (0 : Int) q qr qg qf442 qa h r g tf ta pf na ma wa cf ca ef ea xf xa z485  (show 0 ≤ (qf442 10).toInt from by first | with_reducible rfl | with_reducible assumption | omega) (show (qf442 10).toInt < 62500 from by first | with_reducible rfl | with_reducible assumption | omega) _) hT (pr := []) (pcs := [wd_Mpr cs q qr (fun k => if k = 0 then (some h) else none) qf442 qa qg, wdP cs h r g tf ta pf na ma wa cf ca ef ea xf xa]) hw (oX_call (P := (fun A U H => (oP A g U H))) (pr := []) oG_P hw hA hP) (px_recv hT hw 0 0 rfl rfl rfl) m13_161 m13_158 m13_159 m13_160 m1_22 q_Mpr_give ⟨Nat.le_of_ble_eq_true rfl, Nat.le_of_ble_eq_true rfl⟩ hl.1 rfl (Nat.le_of_ble_eq_true rfl) d_Mpr_step_333 ⟨Nat.le_of_ble_eq_true rfl, Nat.le_of_ble_eq_true rfl⟩) hw hA (fun p490 H locs hp490 hw => ?_)
            obtain ⟨qf488, qa489, rfl, e492, e493, e494, e495, e496, e497, e498, e499, e500, e501, e502, e503, e504, e505, e506, e507⟩ := hp490
            replace e492 : (qf488 10).toInt = (qf442 10).toInt + 1 := e492
            replace e493 : (qf488 1).toInt = (qf442 1).toInt := e493
            replace e494 : (qf488 2).toInt = (qf442 2).toInt := e494
            replace e495 : (qf488 3).toInt = (qf442 3).toInt := e495
            replace e496 : (qf488 4).toInt = (qf442 4).toInt := e496
            replace e497 : (qf488 5).toInt = (qf442 5).toInt := e497
            replace e498 : (qf488 6).toInt = (qf442 6).toInt := e498
            replace e499 : (qf488 7).toInt = (qf442 7).toInt := e499
            replace e500 : (qf488 11).toInt = (qf442 11).toInt := e500
            replace e501 : (qf488 12).toInt = (qf442 12).toInt := e501
            replace e502 : (qf488 13).toInt = (qf442 13).toInt := e502
            replace e503 : (qf488 14).toInt = (qf442 14).toInt := e503
            replace e504 : (qf488 21).toInt = (qf442 21).toInt := e504
            replace e505 : (qf488 23).toInt = (qf442 23).toInt := e505
            replace e506 : (qf488 24).toInt = (qf442 24).toInt := e506
            replace e507 : NuU qa qa489 9 (qf442 10).toInt z485 := e507
            have hwr := hwr.tr2 (c' := (-1)) (NuU.w (c := (-1)) e507) (by omega) (by omega)
            replace hw : pw D A s.heap H locs [wd_Mpr cs q qr (fun k => if k = 0 then (some h) else none) qf488 qa489 qg, wdP cs h r g tf ta pf na ma wa cf ca ef ea xf xa] := hw
            refine lv_goto (tgt := 562) S.x S.b d_Mpr_step_336 (by decide) ?_
            exact px_vret S hr hlk hAe hw (Nat.le_of_ble_eq_true rfl) (Nat.le_of_ble_eq_true rfl) (⟨qf488, qa489, rfl, (show (qf488 1).toInt = (qf 1).toInt from by first | exact oz_1687f4cc65 e446 e493 | omega), (show (qf488 6).toInt = (qf 6).toInt from by first | exact oz_1687f4cc65 e451 e498 | omega), (show (qf488 7).toInt = (qf 7).toInt from by first | exact oz_1687f4cc65 e452 e499 | omega), (show (qf488 21).toInt = (qf 21).toInt from by first | exact oz_1687f4cc65 e457 e504 | omega), (show (qf488 23).toInt = (qf 23).toInt from by first | exact oz_1687f4cc65 e458 e505 | omega), (show (qf488 24).toInt = (qf 24).toInt from by first | exact oz_1687f4cc65 e459 e506 | omega), (show RzO (qf488 2).toInt (RuZ X9 K9 ca qa489 (cf 55).toInt (cf 38).toInt st9 (qf488 14).toInt (qf488 11).toInt (qf488 10).toInt (qf488 12).toInt (qf488 13).toInt (qf488 5).toInt (qf488 4).toInt (rkN (qf 4).toInt (qf 14).toInt (v8 : Int) ((qf 11).toInt - 1))) from (fun q9 => RuZ.tq (MdI.w hmd hK hst0 hwr (Or.inr (by omega)) rfl rfl) (by omega) (by omega) (by omega) (by omega) (by omega) (by omega) (by omega)))⟩) d_Mpr_step_562
        · have nc461 : p1.toInt = (33 : Int) := (i_eq (x := p1) (y := 33)).mp c461
          refine lv_iload S.x S.b d_Mpr_step_305 (lv_at hl 0 rfl) ?_
          refine lv_if_ne (tgt := 314) S.x S.b d_Mpr_step_307 (by decide) (fun c508 => ?_) (fun c508 => ?_)
          · have nc508 : ¬ v444.toInt = (0 : Int) := mt (i_eq (x := v444) (y := 0)).mpr c508
            refine lv_iconst (v := 0) S.x S.b d_Mpr_step_314 (by decide) ?_
            refine lv_goto (tgt := 333) S.x S.b d_Mpr_step_315 (by decide) ?_
            refine px_callv (pr := []) (px_runV (As := [.int 0]) (rest := []) S (c_mr_give l D cs (0 : Int) q qr qg qf442 qa h r g tf ta pf na ma wa cf ca ef ea xf xa 0  (show 0 ≤ (qf442 10).toInt from by first | with_reducible rfl | with_reducible assumption | omega) (show (qf442 10).toInt < 62500 from by first | with_reducible rfl | with_reducible assumption | omega) _) hT (pr := []) (pcs := [wd_Mpr cs q qr (fun k => if k = 0 then (some h) else none) qf442 qa qg, wdP cs h r g tf ta pf na ma wa cf ca ef ea xf xa]) hw (oX_call (P := (fun A U H => (oP A g U H))) (pr := []) oG_P hw hA hP) (px_recv hT hw 0 0 rfl rfl rfl) m13_161 m13_158 m13_159 m13_160 m1_22 q_Mpr_give ⟨Nat.le_of_ble_eq_true rfl, Nat.le_of_ble_eq_true rfl⟩ hl.1 rfl (Nat.le_of_ble_eq_true rfl) d_Mpr_step_333 ⟨Nat.le_of_ble_eq_true rfl, Nat.le_of_ble_eq_true rfl⟩) hw hA (fun p513 H locs hp513 hw => ?_)
            obtain ⟨qf511, qa512, rfl, e515, e516, e517, e518, e519, e520, e521, e522, e523, e524, e525, e526, e527, e528, e529, e530⟩ := hp513
            replace e515 : (qf511 10).toInt = (qf442 10).toInt + 1 := e515
            replace e516 : (qf511 1).toInt = (qf442 1).toInt := e516
            replace e517 : (qf511 2).toInt = (qf442 2).toInt := e517
            replace e518 : (qf511 3).toInt = (qf442 3).toInt := e518
            replace e519 : (qf511 4).toInt = (qf442 4).toInt := e519
            replace e520 : (qf511 5).toInt = (qf442 5).toInt := e520
            replace e521 : (qf511 6).toInt = (qf442 6).toInt := e521
            replace e522 : (qf511 7).toInt = (qf442 7).toInt := e522
            replace e523 : (qf511 11).toInt = (qf442 11).toInt := e523
            replace e524 : (qf511 12).toInt = (qf442 12).toInt := e524
            replace e525 : (qf511 13).toInt = (qf442 13).toInt := e525
            replace e526 : (qf511 14).toInt = (qf442 14).toInt := e526
            replace e527 : (qf511 21).toInt = (qf442 21).toInt := e527
            replace e528 : (qf511 23).toInt = (qf442 23).toInt := e528
            replace e529 : (qf511 24).toInt = (qf442 24).toInt := e529
            replace e530 : NuU qa qa512 9 (qf442 10).toInt (0 : Int32) := e530
            have hwr := hwr.tr2 (c' := (-1)) (NuU.w (c := (-1)) e530) (by omega) (by omega)
            replace hw : pw D A s.heap H locs [wd_Mpr cs q qr (fun k => if k = 0 then (some h) else none) qf511 qa512 qg, wdP cs h r g tf ta pf na ma wa cf ca ef ea xf xa] := hw
            refine lv_goto (tgt := 562) S.x S.b d_Mpr_step_336 (by decide) ?_
            exact px_vret S hr hlk hAe hw (Nat.le_of_ble_eq_true rfl) (Nat.le_of_ble_eq_true rfl) (⟨qf511, qa512, rfl, (show (qf511 1).toInt = (qf 1).toInt from by first | exact oz_1687f4cc65 e446 e516 | omega), (show (qf511 6).toInt = (qf 6).toInt from by first | exact oz_1687f4cc65 e451 e521 | omega), (show (qf511 7).toInt = (qf 7).toInt from by first | exact oz_1687f4cc65 e452 e522 | omega), (show (qf511 21).toInt = (qf 21).toInt from by first | exact oz_1687f4cc65 e457 e527 | omega), (show (qf511 23).toInt = (qf 23).toInt from by first | exact oz_1687f4cc65 e458 e528 | omega), (show (qf511 24).toInt = (qf 24).toInt from by first | exact oz_1687f4cc65 e459 e529 | omega), (show RzO (qf511 2).toInt (RuZ X9 K9 ca qa512 (cf 55).toInt (cf 38).toInt st9 (qf511 14).toInt (qf511 11).toInt (qf511 10).toInt (qf511 12).toInt (qf511 13).toInt (qf511 5).toInt (qf511 4).toInt (rkN (qf 4).toInt (qf 14).toInt (v8 : Int) ((qf 11).toInt - 1))) from (fun q9 => RuZ.tq (MdI.w hmd hK hst0 hwr (Or.inr (by omega)) rfl rfl) (by omega) (by omega) (by omega) (by omega) (by omega) (by omega) (by omega)))⟩) d_Mpr_step_562
          · have nc508 : v444.toInt = (0 : Int) := (i_eq (x := v444) (y := 0)).mp c508
            refine lv_iconst (v := 1) S.x S.b d_Mpr_step_310 (by decide) ?_
            refine lv_goto (tgt := 333) S.x S.b d_Mpr_step_311 (by decide) ?_
            refine px_callv (pr := []) (px_runV (As := [.int 1]) (rest := []) S (c_mr_give l D cs (0 : Int) q qr qg qf442 qa h r g tf ta pf na ma wa cf ca ef ea xf xa 1  (show 0 ≤ (qf442 10).toInt from by first | with_reducible rfl | with_reducible assumption | omega) (show (qf442 10).toInt < 62500 from by first | with_reducible rfl | with_reducible assumption | omega) _) hT (pr := []) (pcs := [wd_Mpr cs q qr (fun k => if k = 0 then (some h) else none) qf442 qa qg, wdP cs h r g tf ta pf na ma wa cf ca ef ea xf xa]) hw (oX_call (P := (fun A U H => (oP A g U H))) (pr := []) oG_P hw hA hP) (px_recv hT hw 0 0 rfl rfl rfl) m13_161 m13_158 m13_159 m13_160 m1_22 q_Mpr_give ⟨Nat.le_of_ble_eq_true rfl, Nat.le_of_ble_eq_true rfl⟩ hl.1 rfl (Nat.le_of_ble_eq_true rfl) d_Mpr_step_333 ⟨Nat.le_of_ble_eq_true rfl, Nat.le_of_ble_eq_true rfl⟩) hw hA (fun p535 H locs hp535 hw => ?_)
            obtain ⟨qf533, qa534, rfl, e537, e538, e539, e540, e541, e542, e543, e544, e545, e546, e547, e548, e549, e550, e551, e552⟩ := hp535
            replace e537 : (qf533 10).toInt = (qf442 10).toInt + 1 := e537
            replace e538 : (qf533 1).toInt = (qf442 1).toInt := e538
            replace e539 : (qf533 2).toInt = (qf442 2).toInt := e539
            replace e540 : (qf533 3).toInt = (qf442 3).toInt := e540
            replace e541 : (qf533 4).toInt = (qf442 4).toInt := e541
            replace e542 : (qf533 5).toInt = (qf442 5).toInt := e542
            replace e543 : (qf533 6).toInt = (qf442 6).toInt := e543
            replace e544 : (qf533 7).toInt = (qf442 7).toInt := e544
            replace e545 : (qf533 11).toInt = (qf442 11).toInt := e545
            replace e546 : (qf533 12).toInt = (qf442 12).toInt := e546
            replace e547 : (qf533 13).toInt = (qf442 13).toInt := e547
            replace e548 : (qf533 14).toInt = (qf442 14).toInt := e548
            replace e549 : (qf533 21).toInt = (qf442 21).toInt := e549
            replace e550 : (qf533 23).toInt = (qf442 23).toInt := e550
            replace e551 : (qf533 24).toInt = (qf442 24).toInt := e551
            replace e552 : NuU qa qa534 9 (qf442 10).toInt (1 : Int32) := e552
            have hwr := hwr.tr2 (c' := (-1)) (NuU.w (c := (-1)) e552) (by omega) (by omega)
            replace hw : pw D A s.heap H locs [wd_Mpr cs q qr (fun k => if k = 0 then (some h) else none) qf533 qa534 qg, wdP cs h r g tf ta pf na ma wa cf ca ef ea xf xa] := hw
            refine lv_goto (tgt := 562) S.x S.b d_Mpr_step_336 (by decide) ?_
            exact px_vret S hr hlk hAe hw (Nat.le_of_ble_eq_true rfl) (Nat.le_of_ble_eq_true rfl) (⟨qf533, qa534, rfl, (show (qf533 1).toInt = (qf 1).toInt from by first | exact oz_1687f4cc65 e446 e538 | omega), (show (qf533 6).toInt = (qf 6).toInt from by first | exact oz_1687f4cc65 e451 e543 | omega), (show (qf533 7).toInt = (qf 7).toInt from by first | exact oz_1687f4cc65 e452 e544 | omega), (show (qf533 21).toInt = (qf 21).toInt from by first | exact oz_1687f4cc65 e457 e549 | omega), (show (qf533 23).toInt = (qf 23).toInt from by first | exact oz_1687f4cc65 e458 e550 | omega), (show (qf533 24).toInt = (qf 24).toInt from by first | exact oz_1687f4cc65 e459 e551 | omega), (show RzO (qf533 2).toInt (RuZ X9 K9 ca qa534 (cf 55).toInt (cf 38).toInt st9 (qf533 14).toInt (qf533 11).toInt (qf533 10).toInt (qf533 12).toInt (qf533 13).toInt (qf533 5).toInt (qf533 4).toInt (rkN (qf 4).toInt (qf 14).toInt (v8 : Int) ((qf 11).toInt - 1))) from (fun q9 => RuZ.tq (MdI.w hmd hK hst0 hwr (Or.inr (by omega)) rfl rfl) (by omega) (by omega) (by omega) (by omega) (by omega) (by omega) (by omega)))⟩) d_Mpr_step_562
      · have nc460 : p1.toInt = (45 : Int) := (i_eq (x := p1) (y := 45)).mp c460
        refine lv_iload S.x S.b d_Mpr_step_293 (lv_at hl 0 rfl) ?_
        refine lv_ineg S.x S.b d_Mpr_step_295 ?_
        refine lv_topi (fun z553 ez553 => ?_)
        have lz553 := Int32.le_toInt z553
        have uz553 := Int32.toInt_lt z553
        refine lv_goto (tgt := 333) S.x S.b d_Mpr_step_296 (by decide) ?_
        refine px_callv (pr := []) (px_runV (As := [.int z553]) (rest := []) S (c_mr_give l D cs (0 : Int) q qr qg qf442 qa h r g tf ta pf na ma wa cf ca ef ea xf xa z553  (show 0 ≤ (qf442 10).toInt from by first | with_reducible rfl | with_reducible assumption | omega) (show (qf442 10).toInt < 62500 from by first | with_reducible rfl | with_reducible assumption | omega) _) hT (pr := []) (pcs := [wd_Mpr cs q qr (fun k => if k = 0 then (some h) else none) qf442 qa qg, wdP cs h r g tf ta pf na ma wa cf ca ef ea xf xa]) hw (oX_call (P := (fun A U H => (oP A g U H))) (pr := []) oG_P hw hA hP) (px_recv hT hw 0 0 rfl rfl rfl) m13_161 m13_158 m13_159 m13_160 m1_22 q_Mpr_give ⟨Nat.le_of_ble_eq_true rfl, Nat.le_of_ble_eq_true rfl⟩ hl.1 rfl (Nat.le_of_ble_eq_true rfl) d_Mpr_step_333 ⟨Nat.le_of_ble_eq_true rfl, Nat.le_of_ble_eq_true rfl⟩) hw hA (fun p558 H locs hp558 hw => ?_)
        obtain ⟨qf556, qa557, rfl, e560, e561, e562, e563, e564, e565, e566, e567, e568, e569, e570, e571, e572, e573, e574, e575⟩ := hp558
        replace e560 : (qf556 10).toInt = (qf442 10).toInt + 1 := e560
        replace e561 : (qf556 1).toInt = (qf442 1).toInt := e561
        replace e562 : (qf556 2).toInt = (qf442 2).toInt := e562
        replace e563 : (qf556 3).toInt = (qf442 3).toInt := e563
        replace e564 : (qf556 4).toInt = (qf442 4).toInt := e564
        replace e565 : (qf556 5).toInt = (qf442 5).toInt := e565
        replace e566 : (qf556 6).toInt = (qf442 6).toInt := e566
        replace e567 : (qf556 7).toInt = (qf442 7).toInt := e567
        replace e568 : (qf556 11).toInt = (qf442 11).toInt := e568
        replace e569 : (qf556 12).toInt = (qf442 12).toInt := e569
        replace e570 : (qf556 13).toInt = (qf442 13).toInt := e570
        replace e571 : (qf556 14).toInt = (qf442 14).toInt := e571
        replace e572 : (qf556 21).toInt = (qf442 21).toInt := e572
        replace e573 : (qf556 23).toInt = (qf442 23).toInt := e573
        replace e574 : (qf556 24).toInt = (qf442 24).toInt := e574
        replace e575 : NuU qa qa557 9 (qf442 10).toInt z553 := e575
        have hwr := hwr.tr2 (c' := (-1)) (NuU.w (c := (-1)) e575) (by omega) (by omega)
        replace hw : pw D A s.heap H locs [wd_Mpr cs q qr (fun k => if k = 0 then (some h) else none) qf556 qa557 qg, wdP cs h r g tf ta pf na ma wa cf ca ef ea xf xa] := hw
        refine lv_goto (tgt := 562) S.x S.b d_Mpr_step_336 (by decide) ?_
        exact px_vret S hr hlk hAe hw (Nat.le_of_ble_eq_true rfl) (Nat.le_of_ble_eq_true rfl) (⟨qf556, qa557, rfl, (show (qf556 1).toInt = (qf 1).toInt from by first | exact oz_1687f4cc65 e446 e561 | omega), (show (qf556 6).toInt = (qf 6).toInt from by first | exact oz_1687f4cc65 e451 e566 | omega), (show (qf556 7).toInt = (qf 7).toInt from by first | exact oz_1687f4cc65 e452 e567 | omega), (show (qf556 21).toInt = (qf 21).toInt from by first | exact oz_1687f4cc65 e457 e572 | omega), (show (qf556 23).toInt = (qf 23).toInt from by first | exact oz_1687f4cc65 e458 e573 | omega), (show (qf556 24).toInt = (qf 24).toInt from by first | exact oz_1687f4cc65 e459 e574 | omega), (show RzO (qf556 2).toInt (RuZ X9 K9 ca qa557 (cf 55).toInt (cf 38).toInt st9 (qf556 14).toInt (qf556 11).toInt (qf556 10).toInt (qf556 12).toInt (qf556 13).toInt (qf556 5).toInt (qf556 4).toInt (rkN (qf 4).toInt (qf 14).toInt (v8 : Int) ((qf 11).toInt - 1))) from (fun q9 => RuZ.tq (MdI.w hmd hK hst0 hwr (Or.inr (by omega)) rfl rfl) (by omega) (by omega) (by omega) (by omega) (by omega) (by omega) (by omega)))⟩) d_Mpr_step_562
    · simp only [List.mem_cons, List.not_mem_nil, or_false] at c59
      refine lv_aload_n S.x S.b d_Mpr_step_339 rfl (lv_at hl 0 rfl) ?_
      have ho := LcC.o11 hlc (by rw [hp0]; omega); try rw [hp1] at ho; obtain ⟨S0, hS0, hb11, hK⟩ := ho; have hl0 : (S9.length : Int) = S0.length + 2 := (by rw [hS0, List.length_cons, List.length_cons]; omega); have hst0 : StV (qa 9) P9 S0 ((qf 10).toInt - 2) nb9 := (by have q8 := hst; rw [hS0] at q8; have q7 : StV (qa 9) P9 S0 ((qf 10).toInt - 1 - 1) nb9 := q8; rw [show (qf 10).toInt - 1 - 1 = (qf 10).toInt - 2 by omega] at q7; exact q7)
      refine px_calli (pr := []) (px_runV (As := []) (rest := []) S (c_mr_take l D cs (0 : Int) q qr qg qa qf h r g tf ta pf na ma wa cf ca ef ea xf xa   (show 1 ≤ (qf 10).toInt from by first | with_reducible rfl | with_reducible assumption | omega) (show (qf 10).toInt ≤ 62500 from by first | with_reducible rfl | with_reducible assumption | omega) _) hT (pr := []) (pcs := [wd_Mpr cs q qr (fun k => if k = 0 then (some h) else none) qf qa qg, wdP cs h r g tf ta pf na ma wa cf ca ef ea xf xa]) hw (oX_call (P := (fun A U H => (oP A g U H))) (pr := []) oG_P hw hA hP) (px_recv hT hw 0 0 rfl rfl rfl) m14_123 m14_120 m14_121 m14_122 m1_22 q_Mpr_take ⟨Nat.le_of_ble_eq_true rfl, Nat.le_of_ble_eq_true rfl⟩ hl.1 rfl (Nat.le_of_ble_eq_true rfl) d_Mpr_step_340 ⟨Nat.le_of_ble_eq_true rfl, Nat.le_of_ble_eq_true rfl⟩) hw hA (fun v579 p578 H locs hp578 hw => ?_)
      obtain ⟨qf577, rfl, e580, e581, e582, e583, e584, e585, e586, e587, e588, e589, e590, e591, e592, e593, e594⟩ := hp578
      replace e580 : (qf577 10).toInt = (qf 10).toInt - 1 := e580
      replace e581 : (qf577 1).toInt = (qf 1).toInt := e581
      replace e582 : (qf577 2).toInt = (qf 2).toInt := e582
      replace e583 : (qf577 3).toInt = (qf 3).toInt := e583
      replace e584 : (qf577 4).toInt = (qf 4).toInt := e584
      replace e585 : (qf577 5).toInt = (qf 5).toInt := e585
      replace e586 : (qf577 6).toInt = (qf 6).toInt := e586
      replace e587 : (qf577 7).toInt = (qf 7).toInt := e587
      replace e588 : (qf577 11).toInt = (qf 11).toInt := e588
      replace e589 : (qf577 12).toInt = (qf 12).toInt := e589
      replace e590 : (qf577 13).toInt = (qf 13).toInt := e590
      replace e591 : (qf577 14).toInt = (qf 14).toInt := e591
      replace e592 : (qf577 21).toInt = (qf 21).toInt := e592
      replace e593 : (qf577 23).toInt = (qf 23).toInt := e593
      replace e594 : (qf577 24).toInt = (qf 24).toInt := e594
      replace hw : pw D A s.heap H locs [wd_Mpr cs q qr (fun k => if k = 0 then (some h) else none) qf577 qa qg, wdP cs h r g tf ta pf na ma wa cf ca ef ea xf xa] := hw
      have lv579 := Int32.le_toInt v579
      have uv579 := Int32.toInt_lt v579
      refine lv_istore (lv' := [(8, .int v579), (0, .ref q), (1, .int p0), (2, .int p1), (3, .int p2)]) S.x S.b d_Mpr_step_343 hl (by decide) rfl (fun ls hl => ?_)
      refine lv_aload_n S.x S.b d_Mpr_step_345 rfl (lv_at hl 1 rfl) ?_
      refine lv_iload_n S.x S.b d_Mpr_step_346 rfl (lv_at hl 3 rfl) ?_
      refine lv_aload_n S.x S.b d_Mpr_step_347 rfl (lv_at hl 1 rfl) ?_
      refine px_calli (pr := []) (px_runV (As := []) (rest := [.int p1, .ref q]) S (c_mr_take l D cs (0 : Int) q qr qg qa qf577 h r g tf ta pf na ma wa cf ca ef ea xf xa   (show 1 ≤ (qf577 10).toInt from by first | with_reducible rfl | with_reducible assumption | omega) (show (qf577 10).toInt ≤ 62500 from by first | with_reducible rfl | with_reducible assumption | omega) _) hT (pr := []) (pcs := [wd_Mpr cs q qr (fun k => if k = 0 then (some h) else none) qf577 qa qg, wdP cs h r g tf ta pf na ma wa cf ca ef ea xf xa]) hw (oX_call (P := (fun A U H => (oP A g U H))) (pr := []) oG_P hw hA hP) (px_recv hT hw 0 0 rfl rfl rfl) m14_123 m14_120 m14_121 m14_122 m1_22 q_Mpr_take ⟨Nat.le_of_ble_eq_true rfl, Nat.le_of_ble_eq_true rfl⟩ hl.1 rfl (Nat.le_of_ble_eq_true rfl) d_Mpr_step_348 ⟨Nat.le_of_ble_eq_true rfl, Nat.le_of_ble_eq_true rfl⟩) hw hA (fun v598 p597 H locs hp597 hw => ?_)
      obtain ⟨qf596, rfl, e599, e600, e601, e602, e603, e604, e605, e606, e607, e608, e609, e610, e611, e612, e613⟩ := hp597
      replace e599 : (qf596 10).toInt = (qf577 10).toInt - 1 := e599
      replace e600 : (qf596 1).toInt = (qf577 1).toInt := e600
      replace e601 : (qf596 2).toInt = (qf577 2).toInt := e601
      replace e602 : (qf596 3).toInt = (qf577 3).toInt := e602
      replace e603 : (qf596 4).toInt = (qf577 4).toInt := e603
      replace e604 : (qf596 5).toInt = (qf577 5).toInt := e604
      replace e605 : (qf596 6).toInt = (qf577 6).toInt := e605
      replace e606 : (qf596 7).toInt = (qf577 7).toInt := e606
      replace e607 : (qf596 11).toInt = (qf577 11).toInt := e607
      replace e608 : (qf596 12).toInt = (qf577 12).toInt := e608
      replace e609 : (qf596 13).toInt = (qf577 13).toInt := e609
      replace e610 : (qf596 14).toInt = (qf577 14).toInt := e610
      replace e611 : (qf596 21).toInt = (qf577 21).toInt := e611
      replace e612 : (qf596 23).toInt = (qf577 23).toInt := e612
      replace e613 : (qf596 24).toInt = (qf577 24).toInt := e613
      replace hw : pw D A s.heap H locs [wd_Mpr cs q qr (fun k => if k = 0 then (some h) else none) qf596 qa qg, wdP cs h r g tf ta pf na ma wa cf ca ef ea xf xa] := hw
      have lv598 := Int32.le_toInt v598
      have uv598 := Int32.toInt_lt v598
      refine lv_iload S.x S.b d_Mpr_step_351 (lv_at hl 0 rfl) ?_
      refine px_callv (pr := []) (px_runV (As := [.int p1, .int v598, .int v579]) (rest := []) S (c_mr_two l D cs (0 : Int) q qr qg qf596 qa h r g tf ta pf na ma wa cf ca ef ea xf xa p1 v598 v579  (show 0 ≤ p1.toInt from by first | with_reducible rfl | with_reducible assumption | omega) (show p1.toInt ≤ 42 from by first | with_reducible rfl | with_reducible assumption | omega) (show 0 ≤ (qf596 10).toInt from by first | with_reducible rfl | with_reducible assumption | omega) (show (qf596 10).toInt < 62000 from by first | with_reducible rfl | with_reducible assumption | omega) _) hT (pr := []) (pcs := [wd_Mpr cs q qr (fun k => if k = 0 then (some h) else none) qf596 qa qg, wdP cs h r g tf ta pf na ma wa cf ca ef ea xf xa]) hw (oX_call (P := (fun A U H => (oP A g U H) ∧ (oLW A U H))) (pr := []) (oG_and oG_P oG_LW) hw hA ⟨hP, hSh⟩) (px_recv hT hw 0 0 rfl rfl rfl) m14_151 m14_148 m14_150 ms_17_2 m1_22 q_Mpr_two ⟨Nat.le_of_ble_eq_true rfl, Nat.le_of_ble_eq_true rfl⟩ hl.1 rfl (Nat.le_of_ble_eq_true rfl) d_Mpr_step_353 ⟨Nat.le_of_ble_eq_true rfl, Nat.le_of_ble_eq_true rfl⟩) hw hA (fun p618 H locs hp618 hw => ?_)
      obtain ⟨qf616, qa617, rfl, e620, e621, e622, e623, e624, e625, e626, e627, e628, e629, e630, e631, e632, e633⟩ := hp618
      replace e620 : TwO (qf616 2).toInt (qf596 2).toInt (qf616 10).toInt (qf596 10).toInt := e620
      have htw := e620; unfold TwO at htw
      replace e621 : (qf616 1).toInt = (qf596 1).toInt := e621
      replace e622 : (qf616 4).toInt = (qf596 4).toInt := e622
      replace e623 : (qf616 5).toInt = (qf596 5).toInt := e623
      replace e624 : (qf616 6).toInt = (qf596 6).toInt := e624
      replace e625 : (qf616 7).toInt = (qf596 7).toInt := e625
      replace e626 : (qf616 11).toInt = (qf596 11).toInt := e626
      replace e627 : (qf616 12).toInt = (qf596 12).toInt := e627
      replace e628 : (qf616 13).toInt = (qf596 13).toInt := e628
      replace e629 : (qf616 14).toInt = (qf596 14).toInt := e629
      replace e630 : (qf616 21).toInt = (qf596 21).toInt := e630
      replace e631 : (qf616 23).toInt = (qf596 23).toInt := e631
      replace e632 : (qf616 24).toInt = (qf596 24).toInt := e632
      replace e633 : WrU qa qa617 (qf596 10).toInt (-1) := e633
      skip
      replace hw : pw D A s.heap H locs [wd_Mpr cs q qr (fun k => if k = 0 then (some h) else none) qf616 qa617 qg, wdP cs h r g tf ta pf na ma wa cf ca ef ea xf xa] := hw
      refine lv_goto (tgt := 562) S.x S.b d_Mpr_step_356 (by decide) ?_
      exact px_vret S hr hlk hAe hw (Nat.le_of_ble_eq_true rfl) (Nat.le_of_ble_eq_true rfl) (⟨qf616, qa617, rfl, (show (qf616 1).toInt = (qf 1).toInt from by first | exact oz_e13fc83238 e581 e621 e600 | omega), (show (qf616 6).toInt = (qf 6).toInt from by first | exact oz_e13fc83238 e586 e624 e605 | omega), (show (qf616 7).toInt = (qf 7).toInt from by first | exact oz_e13fc83238 e587 e625 e606 | omega), (show (qf616 21).toInt = (qf 21).toInt from by first | exact oz_e13fc83238 e592 e630 e611 | omega), (show (qf616 23).toInt = (qf 23).toInt from by first | exact oz_e13fc83238 e593 e631 e612 | omega), (show (qf616 24).toInt = (qf 24).toInt from by first | exact oz_e13fc83238 e594 e632 e613 | omega), (show RzO (qf616 2).toInt (RuZ X9 K9 ca qa617 (cf 55).toInt (cf 38).toInt st9 (qf616 14).toInt (qf616 11).toInt (qf616 10).toInt (qf616 12).toInt (qf616 13).toInt (qf616 5).toInt (qf616 4).toInt (rkN (qf 4).toInt (qf 14).toInt (v8 : Int) ((qf 11).toInt - 1))) from (fun q9 => RuZ.tq (MdI.w hmd hK hst0 (WrU.tr (n := ((qf 10).toInt - 2)) (c := (-1)) WrU.rf e633 (by omega) (by omega)) (Or.inr (by omega)) rfl rfl) (by omega) (by omega) (by omega) (by omega) (by omega) (by omega) (by omega)))⟩) d_Mpr_step_562
    · simp only [List.mem_cons, List.not_mem_nil, or_false] at c59
      refine lv_aload_n S.x S.b d_Mpr_step_359 rfl (lv_at hl 0 rfl) ?_
      have ho := LcC.o12 hlc (by rw [hp0]; omega); try rw [hp1] at ho
      refine lv_iload_n S.x S.b d_Mpr_step_360 rfl (lv_at hl 2 rfl) ?_
      refine px_put S k_Mpr hT hw 0 0 11 rfl rfl (by decide) m11_2 rfl rfl rfl (Nat.le_of_ble_eq_true rfl) d_Mpr_step_361 (w' := wd_Mpr cs q qr (fun k => if k = 0 then (some h) else none) (upd qf 11 p1) qa qg) (ps' := [wd_Mpr cs q qr (fun k => if k = 0 then (some h) else none) (upd qf 11 p1) qa qg, wdP cs h r g tf ta pf na ma wa cf ca ef ea xf xa]) rfl rfl (fun H locs hw => ?_)
      refine lv_goto (tgt := 562) S.x S.b d_Mpr_step_364 (by decide) ?_
      exact px_vret S hr hlk hAe hw (Nat.le_of_ble_eq_true rfl) (Nat.le_of_ble_eq_true rfl) (⟨(upd qf 11 p1), qa, rfl, (show (qf 1).toInt = (qf 1).toInt from rfl), (show (qf 6).toInt = (qf 6).toInt from rfl), (show (qf 7).toInt = (qf 7).toInt from rfl), (show (qf 21).toInt = (qf 21).toInt from rfl), (show (qf 23).toInt = (qf 23).toInt from rfl), (show (qf 24).toInt = (qf 24).toInt from rfl), (show RzO (qf 2).toInt (RuZ X9 K9 ca qa (cf 55).toInt (cf 38).toInt st9 (qf 14).toInt p1.toInt (qf 10).toInt (qf 12).toInt (qf 13).toInt (qf 5).toInt (qf 4).toInt (rkN (qf 4).toInt (qf 14).toInt (v8 : Int) ((qf 11).toInt - 1))) from (fun q9 => RuZ.tq (MdI.j hmd ho hst rfl) (by omega) (by omega) (by omega) (by omega) (by omega) (by omega) (by omega)))⟩) d_Mpr_step_562
    · simp only [List.mem_cons, List.not_mem_nil, or_false] at c59
      refine lv_aload_n S.x S.b d_Mpr_step_367 rfl (lv_at hl 0 rfl) ?_
      have ho := LcC.o13 hlc (by rw [hp0]; omega); try rw [hp1] at ho; obtain ⟨S0, hS0, hN, hJ⟩ := ho; have hl0 : (S9.length : Int) = S0.length + 1 := (by rw [hS0, List.length_cons]; omega); have hst0 : StV (qa 9) P9 S0 ((qf 10).toInt - 1) nb9 := (by have q8 := hst; rw [hS0] at q8; exact q8)
      refine lv_aload_n S.x S.b d_Mpr_step_368 rfl (lv_at hl 0 rfl) ?_
      refine px_calli (pr := []) (px_runV (As := []) (rest := [.ref q]) S (c_mr_take l D cs (0 : Int) q qr qg qa qf h r g tf ta pf na ma wa cf ca ef ea xf xa   (show 1 ≤ (qf 10).toInt from by first | with_reducible rfl | with_reducible assumption | omega) (show (qf 10).toInt ≤ 62500 from by first | with_reducible rfl | with_reducible assumption | omega) _) hT (pr := []) (pcs := [wd_Mpr cs q qr (fun k => if k = 0 then (some h) else none) qf qa qg, wdP cs h r g tf ta pf na ma wa cf ca ef ea xf xa]) hw (oX_call (P := (fun A U H => (oP A g U H))) (pr := []) oG_P hw hA hP) (px_recv hT hw 0 0 rfl rfl rfl) m14_123 m14_120 m14_121 m14_122 m1_22 q_Mpr_take ⟨Nat.le_of_ble_eq_true rfl, Nat.le_of_ble_eq_true rfl⟩ hl.1 rfl (Nat.le_of_ble_eq_true rfl) d_Mpr_step_369 ⟨Nat.le_of_ble_eq_true rfl, Nat.le_of_ble_eq_true rfl⟩) hw hA (fun v637 p636 H locs hp636 hw => ?_)
      obtain ⟨qf635, rfl, e638, e639, e640, e641, e642, e643, e644, e645, e646, e647, e648, e649, e650, e651, e652⟩ := hp636
      replace e638 : (qf635 10).toInt = (qf 10).toInt - 1 := e638
      replace e639 : (qf635 1).toInt = (qf 1).toInt := e639
      replace e640 : (qf635 2).toInt = (qf 2).toInt := e640
      replace e641 : (qf635 3).toInt = (qf 3).toInt := e641
      replace e642 : (qf635 4).toInt = (qf 4).toInt := e642
      replace e643 : (qf635 5).toInt = (qf 5).toInt := e643
      replace e644 : (qf635 6).toInt = (qf 6).toInt := e644
      replace e645 : (qf635 7).toInt = (qf 7).toInt := e645
      replace e646 : (qf635 11).toInt = (qf 11).toInt := e646
      replace e647 : (qf635 12).toInt = (qf 12).toInt := e647
      replace e648 : (qf635 13).toInt = (qf 13).toInt := e648
      replace e649 : (qf635 14).toInt = (qf 14).toInt := e649
      replace e650 : (qf635 21).toInt = (qf 21).toInt := e650
      replace e651 : (qf635 23).toInt = (qf 23).toInt := e651
      replace e652 : (qf635 24).toInt = (qf 24).toInt := e652
      replace hw : pw D A s.heap H locs [wd_Mpr cs q qr (fun k => if k = 0 then (some h) else none) qf635 qa qg, wdP cs h r g tf ta pf na ma wa cf ca ef ea xf xa] := hw
      have lv637 := Int32.le_toInt v637
      have uv637 := Int32.toInt_lt v637
      refine lv_if_ne (tgt := 379) S.x S.b d_Mpr_step_372 (by decide) (fun c653 => ?_) (fun c653 => ?_)
      · have nc653 : ¬ v637.toInt = (0 : Int) := mt (i_eq (x := v637) (y := 0)).mpr c653
        refine lv_aload_n S.x S.b d_Mpr_step_379 rfl (lv_at hl 0 rfl) ?_
        refine px_get S k_Mpr hT hw 0 0 11 (v := .int (qf635 11)) rfl rfl rfl (by decide) m11_2 d_Mpr_step_380 ?_
        refine px_put S k_Mpr hT hw 0 0 11 rfl rfl (by decide) m11_2 rfl rfl rfl (Nat.le_of_ble_eq_true rfl) d_Mpr_step_383 (w' := wd_Mpr cs q qr (fun k => if k = 0 then (some h) else none) (upd qf635 11 (qf635 11)) qa qg) (ps' := [wd_Mpr cs q qr (fun k => if k = 0 then (some h) else none) (upd qf635 11 (qf635 11)) qa qg, wdP cs h r g tf ta pf na ma wa cf ca ef ea xf xa]) rfl rfl (fun H locs hw => ?_)
        refine lv_goto (tgt := 562) S.x S.b d_Mpr_step_386 (by decide) ?_
        exact px_vret S hr hlk hAe hw (Nat.le_of_ble_eq_true rfl) (Nat.le_of_ble_eq_true rfl) (⟨(upd qf635 11 (qf635 11)), qa, rfl, (show (qf635 1).toInt = (qf 1).toInt from by first | exact e639 | omega), (show (qf635 6).toInt = (qf 6).toInt from by first | exact e644 | omega), (show (qf635 7).toInt = (qf 7).toInt from by first | exact e645 | omega), (show (qf635 21).toInt = (qf 21).toInt from by first | exact e650 | omega), (show (qf635 23).toInt = (qf 23).toInt from by first | exact e651 | omega), (show (qf635 24).toInt = (qf 24).toInt from by first | exact e652 | omega), (show RzO (qf635 2).toInt (RuZ X9 K9 ca qa (cf 55).toInt (cf 38).toInt st9 (qf635 14).toInt (qf635 11).toInt (qf635 10).toInt (qf635 12).toInt (qf635 13).toInt (qf635 5).toInt (qf635 4).toInt (rkN (qf 4).toInt (qf 14).toInt (v8 : Int) ((qf 11).toInt - 1))) from (fun q9 => hN.elim fun u8 q8 => RuZ.tq (MdI.nx hmd q8.2 q8.1 hst0 rfl) (by omega) (by omega) (by omega) (by omega) (by omega) (by omega) (by omega)))⟩) d_Mpr_step_562
      · have nc653 : v637.toInt = (0 : Int) := (i_eq (x := v637) (y := 0)).mp c653
        refine lv_iload_n S.x S.b d_Mpr_step_375 rfl (lv_at hl 2 rfl) ?_
        refine lv_goto (tgt := 383) S.x S.b d_Mpr_step_376 (by decide) ?_
        refine px_put S k_Mpr hT hw 0 0 11 rfl rfl (by decide) m11_2 rfl rfl rfl (Nat.le_of_ble_eq_true rfl) d_Mpr_step_383 (w' := wd_Mpr cs q qr (fun k => if k = 0 then (some h) else none) (upd qf635 11 p1) qa qg) (ps' := [wd_Mpr cs q qr (fun k => if k = 0 then (some h) else none) (upd qf635 11 p1) qa qg, wdP cs h r g tf ta pf na ma wa cf ca ef ea xf xa]) rfl rfl (fun H locs hw => ?_)
        refine lv_goto (tgt := 562) S.x S.b d_Mpr_step_386 (by decide) ?_
        exact px_vret S hr hlk hAe hw (Nat.le_of_ble_eq_true rfl) (Nat.le_of_ble_eq_true rfl) (⟨(upd qf635 11 p1), qa, rfl, (show (qf635 1).toInt = (qf 1).toInt from by first | exact e639 | omega), (show (qf635 6).toInt = (qf 6).toInt from by first | exact e644 | omega), (show (qf635 7).toInt = (qf 7).toInt from by first | exact e645 | omega), (show (qf635 21).toInt = (qf 21).toInt from by first | exact e650 | omega), (show (qf635 23).toInt = (qf 23).toInt from by first | exact e651 | omega), (show (qf635 24).toInt = (qf 24).toInt from by first | exact e652 | omega), (show RzO (qf635 2).toInt (RuZ X9 K9 ca qa (cf 55).toInt (cf 38).toInt st9 (qf635 14).toInt p1.toInt (qf635 10).toInt (qf635 12).toInt (qf635 13).toInt (qf635 5).toInt (qf635 4).toInt (rkN (qf 4).toInt (qf 14).toInt (v8 : Int) ((qf 11).toInt - 1))) from (fun q9 => RuZ.tq (MdI.j hmd hJ hst0 rfl) (by omega) (by omega) (by omega) (by omega) (by omega) (by omega) (by omega)))⟩) d_Mpr_step_562
    · simp only [List.mem_cons, List.not_mem_nil, or_false] at c59
      refine lv_aload_n S.x S.b d_Mpr_step_389 rfl (lv_at hl 0 rfl) ?_
      have ho := LcC.o13 hlc (by rw [hp0]; omega); try rw [hp1] at ho; obtain ⟨S0, hS0, hN, hJ⟩ := ho; have hl0 : (S9.length : Int) = S0.length + 1 := (by rw [hS0, List.length_cons]; omega); have hst0 : StV (qa 9) P9 S0 ((qf 10).toInt - 1) nb9 := (by have q8 := hst; rw [hS0] at q8; exact q8)
      refine lv_aload_n S.x S.b d_Mpr_step_390 rfl (lv_at hl 0 rfl) ?_
      refine px_calli (pr := []) (px_runV (As := []) (rest := [.ref q]) S (c_mr_take l D cs (0 : Int) q qr qg qa qf h r g tf ta pf na ma wa cf ca ef ea xf xa   (show 1 ≤ (qf 10).toInt from by first | with_reducible rfl | with_reducible assumption | omega) (show (qf 10).toInt ≤ 62500 from by first | with_reducible rfl | with_reducible assumption | omega) _) hT (pr := []) (pcs := [wd_Mpr cs q qr (fun k => if k = 0 then (some h) else none) qf qa qg, wdP cs h r g tf ta pf na ma wa cf ca ef ea xf xa]) hw (oX_call (P := (fun A U H => (oP A g U H))) (pr := []) oG_P hw hA hP) (px_recv hT hw 0 0 rfl rfl rfl) m14_123 m14_120 m14_121 m14_122 m1_22 q_Mpr_take ⟨Nat.le_of_ble_eq_true rfl, Nat.le_of_ble_eq_true rfl⟩ hl.1 rfl (Nat.le_of_ble_eq_true rfl) d_Mpr_step_391 ⟨Nat.le_of_ble_eq_true rfl, Nat.le_of_ble_eq_true rfl⟩) hw hA (fun v657 p656 H locs hp656 hw => ?_)
      obtain ⟨qf655, rfl, e658, e659, e660, e661, e662, e663, e664, e665, e666, e667, e668, e669, e670, e671, e672⟩ := hp656
      replace e658 : (qf655 10).toInt = (qf 10).toInt - 1 := e658
      replace e659 : (qf655 1).toInt = (qf 1).toInt := e659
      replace e660 : (qf655 2).toInt = (qf 2).toInt := e660
      replace e661 : (qf655 3).toInt = (qf 3).toInt := e661
      replace e662 : (qf655 4).toInt = (qf 4).toInt := e662
      replace e663 : (qf655 5).toInt = (qf 5).toInt := e663
      replace e664 : (qf655 6).toInt = (qf 6).toInt := e664
      replace e665 : (qf655 7).toInt = (qf 7).toInt := e665
      replace e666 : (qf655 11).toInt = (qf 11).toInt := e666
      replace e667 : (qf655 12).toInt = (qf 12).toInt := e667
      replace e668 : (qf655 13).toInt = (qf 13).toInt := e668
      replace e669 : (qf655 14).toInt = (qf 14).toInt := e669
      replace e670 : (qf655 21).toInt = (qf 21).toInt := e670
      replace e671 : (qf655 23).toInt = (qf 23).toInt := e671
      replace e672 : (qf655 24).toInt = (qf 24).toInt := e672
      replace hw : pw D A s.heap H locs [wd_Mpr cs q qr (fun k => if k = 0 then (some h) else none) qf655 qa qg, wdP cs h r g tf ta pf na ma wa cf ca ef ea xf xa] := hw
      have lv657 := Int32.le_toInt v657
      have uv657 := Int32.toInt_lt v657
      refine lv_if_eq (tgt := 401) S.x S.b d_Mpr_step_394 (by decide) (fun c673 => ?_) (fun c673 => ?_)
      · have nc673 : v657.toInt = (0 : Int) := (i_eq (x := v657) (y := 0)).mp c673
        refine lv_aload_n S.x S.b d_Mpr_step_401 rfl (lv_at hl 0 rfl) ?_
        refine px_get S k_Mpr hT hw 0 0 11 (v := .int (qf655 11)) rfl rfl rfl (by decide) m11_2 d_Mpr_step_402 ?_
        refine px_put S k_Mpr hT hw 0 0 11 rfl rfl (by decide) m11_2 rfl rfl rfl (Nat.le_of_ble_eq_true rfl) d_Mpr_step_405 (w' := wd_Mpr cs q qr (fun k => if k = 0 then (some h) else none) (upd qf655 11 (qf655 11)) qa qg) (ps' := [wd_Mpr cs q qr (fun k => if k = 0 then (some h) else none) (upd qf655 11 (qf655 11)) qa qg, wdP cs h r g tf ta pf na ma wa cf ca ef ea xf xa]) rfl rfl (fun H locs hw => ?_)
        refine lv_goto (tgt := 562) S.x S.b d_Mpr_step_408 (by decide) ?_
        exact px_vret S hr hlk hAe hw (Nat.le_of_ble_eq_true rfl) (Nat.le_of_ble_eq_true rfl) (⟨(upd qf655 11 (qf655 11)), qa, rfl, (show (qf655 1).toInt = (qf 1).toInt from by first | exact e659 | omega), (show (qf655 6).toInt = (qf 6).toInt from by first | exact e664 | omega), (show (qf655 7).toInt = (qf 7).toInt from by first | exact e665 | omega), (show (qf655 21).toInt = (qf 21).toInt from by first | exact e670 | omega), (show (qf655 23).toInt = (qf 23).toInt from by first | exact e671 | omega), (show (qf655 24).toInt = (qf 24).toInt from by first | exact e672 | omega), (show RzO (qf655 2).toInt (RuZ X9 K9 ca qa (cf 55).toInt (cf 38).toInt st9 (qf655 14).toInt (qf655 11).toInt (qf655 10).toInt (qf655 12).toInt (qf655 13).toInt (qf655 5).toInt (qf655 4).toInt (rkN (qf 4).toInt (qf 14).toInt (v8 : Int) ((qf 11).toInt - 1))) from (fun q9 => hN.elim fun u8 q8 => RuZ.tq (MdI.nx hmd q8.2 q8.1 hst0 rfl) (by omega) (by omega) (by omega) (by omega) (by omega) (by omega) (by omega)))⟩) d_Mpr_step_562
      · have nc673 : ¬ v657.toInt = (0 : Int) := mt (i_eq (x := v657) (y := 0)).mpr c673
        refine lv_iload_n S.x S.b d_Mpr_step_397 rfl (lv_at hl 2 rfl) ?_
        refine lv_goto (tgt := 405) S.x S.b d_Mpr_step_398 (by decide) ?_
        refine px_put S k_Mpr hT hw 0 0 11 rfl rfl (by decide) m11_2 rfl rfl rfl (Nat.le_of_ble_eq_true rfl) d_Mpr_step_405 (w' := wd_Mpr cs q qr (fun k => if k = 0 then (some h) else none) (upd qf655 11 p1) qa qg) (ps' := [wd_Mpr cs q qr (fun k => if k = 0 then (some h) else none) (upd qf655 11 p1) qa qg, wdP cs h r g tf ta pf na ma wa cf ca ef ea xf xa]) rfl rfl (fun H locs hw => ?_)
        refine lv_goto (tgt := 562) S.x S.b d_Mpr_step_408 (by decide) ?_
        exact px_vret S hr hlk hAe hw (Nat.le_of_ble_eq_true rfl) (Nat.le_of_ble_eq_true rfl) (⟨(upd qf655 11 p1), qa, rfl, (show (qf655 1).toInt = (qf 1).toInt from by first | exact e659 | omega), (show (qf655 6).toInt = (qf 6).toInt from by first | exact e664 | omega), (show (qf655 7).toInt = (qf 7).toInt from by first | exact e665 | omega), (show (qf655 21).toInt = (qf 21).toInt from by first | exact e670 | omega), (show (qf655 23).toInt = (qf 23).toInt from by first | exact e671 | omega), (show (qf655 24).toInt = (qf 24).toInt from by first | exact e672 | omega), (show RzO (qf655 2).toInt (RuZ X9 K9 ca qa (cf 55).toInt (cf 38).toInt st9 (qf655 14).toInt p1.toInt (qf655 10).toInt (qf655 12).toInt (qf655 13).toInt (qf655 5).toInt (qf655 4).toInt (rkN (qf 4).toInt (qf 14).toInt (v8 : Int) ((qf 11).toInt - 1))) from (fun q9 => RuZ.tq (MdI.j hmd hJ hst0 rfl) (by omega) (by omega) (by omega) (by omega) (by omega) (by omega) (by omega)))⟩) d_Mpr_step_562
    · simp only [List.mem_cons, List.not_mem_nil, or_false] at c59
      refine lv_aload_n S.x S.b d_Mpr_step_444 rfl (lv_at hl 0 rfl) ?_
      have ho := LcC.o15 hlc (by rw [hp0]; omega); try rw [hp1] at ho; have ho15 := ho; rw [hnm.2.2.2.2.2] at ho15
      refine lv_iload_n S.x S.b d_Mpr_step_445 rfl (lv_at hl 2 rfl) ?_
      refine px_callv (pr := []) (px_runV (As := [.int p1]) (rest := []) S (c_mr_call l D cs X9 K9 st9 f9 S9 v8 P9 nb9 q qr qg qf qa h r g tf ta pf na ma wa cf ca ef ea xf xa p1  (show (qf 2).toInt = -2 from by first | exact g0 | omega) hmd hft hfp ho15 _) hT (pr := []) (pcs := [wd_Mpr cs q qr (fun k => if k = 0 then (some h) else none) qf qa qg, wdP cs h r g tf ta pf na ma wa cf ca ef ea xf xa]) hw (oX_call (P := (fun A U H => (oP A g U H) ∧ (oLW A U H))) (pr := []) (oG_and oG_P oG_LW) hw hA ⟨hP, hSh⟩) (px_recv hT hw 0 0 rfl rfl rfl) m14_164 m14_161 m14_163 ms_17_4 m1_22 q_Mpr_call ⟨Nat.le_of_ble_eq_true rfl, Nat.le_of_ble_eq_true rfl⟩ hl.1 rfl (Nat.le_of_ble_eq_true rfl) d_Mpr_step_446 ⟨Nat.le_of_ble_eq_true rfl, Nat.le_of_ble_eq_true rfl⟩) hw hA (fun p678 H locs hp678 hw => ?_)
      obtain ⟨qf676, qa677, rfl, e680, e681, e682, e683, e684, e685, e686⟩ := hp678
      replace e680 : (qf676 1).toInt = (qf 1).toInt := e680
      replace e681 : (qf676 6).toInt = (qf 6).toInt := e681
      replace e682 : (qf676 7).toInt = (qf 7).toInt := e682
      replace e683 : (qf676 21).toInt = (qf 21).toInt := e683
      replace e684 : (qf676 23).toInt = (qf 23).toInt := e684
      replace e685 : (qf676 24).toInt = (qf 24).toInt := e685
      replace e686 : RzO (qf676 2).toInt (RuZ X9 K9 ca qa677 (cf 55).toInt (cf 38).toInt st9 (qf676 14).toInt (qf676 11).toInt (qf676 10).toInt (qf676 12).toInt (qf676 13).toInt (qf676 5).toInt (qf676 4).toInt (rkN (qf 4).toInt (qf 14).toInt (v8 : Int) ((qf 11).toInt - 1))) := e686
      have hrz := e686
      replace hw : pw D A s.heap H locs [wd_Mpr cs q qr (fun k => if k = 0 then (some h) else none) qf676 qa677 qg, wdP cs h r g tf ta pf na ma wa cf ca ef ea xf xa] := hw
      refine lv_goto (tgt := 562) S.x S.b d_Mpr_step_449 (by decide) ?_
      exact px_vret S hr hlk hAe hw (Nat.le_of_ble_eq_true rfl) (Nat.le_of_ble_eq_true rfl) (⟨qf676, qa677, rfl, (show (qf676 1).toInt = (qf 1).toInt from by first | exact e680 | omega), (show (qf676 6).toInt = (qf 6).toInt from by first | exact e681 | omega), (show (qf676 7).toInt = (qf 7).toInt from by first | exact e682 | omega), (show (qf676 21).toInt = (qf 21).toInt from by first | exact e683 | omega), (show (qf676 23).toInt = (qf 23).toInt from by first | exact e684 | omega), (show (qf676 24).toInt = (qf 24).toInt from by first | exact e685 | omega), (show RzO (qf676 2).toInt (RuZ X9 K9 ca qa677 (cf 55).toInt (cf 38).toInt st9 (qf676 14).toInt (qf676 11).toInt (qf676 10).toInt (qf676 12).toInt (qf676 13).toInt (qf676 5).toInt (qf676 4).toInt (rkN (qf 4).toInt (qf 14).toInt (v8 : Int) ((qf 11).toInt - 1))) from hrz)⟩) d_Mpr_step_562
    · simp only [List.mem_cons, List.not_mem_nil, or_false] at c59
      refine lv_aload_n S.x S.b d_Mpr_step_544 rfl (lv_at hl 0 rfl) ?_
      have ho := LcC.o22 hlc (by rw [hp0]; omega); try rw [hp1] at ho; obtain ⟨hsy, hK⟩ := ho; have hsa := hmd.sa hsy
      refine lv_aload_n S.x S.b d_Mpr_step_545 rfl (lv_at hl 0 rfl) ?_
      refine lv_iload_n S.x S.b d_Mpr_step_546 rfl (lv_at hl 2 rfl) ?_
      refine px_calli (pr := []) (px_runV (As := [.int p1]) (rest := [.ref q]) S (c_mr_arrayAt l D cs (0 : Int) q qr qg qf qa h r g tf ta pf na ma wa cf ca ef ea xf xa p1  (show 0 ≤ p1.toInt from by first | with_reducible rfl | with_reducible assumption | omega) (show p1.toInt < 1100 from by first | with_reducible rfl | with_reducible assumption | omega) (show 0 ≤ clo ca (qf 12).toInt p1 from by first | with_reducible rfl | with_reducible assumption | omega) (show clo ca (qf 12).toInt p1 ≤ 36990 from by first | with_reducible rfl | with_reducible assumption | omega) _) hT (pr := []) (pcs := [wd_Mpr cs q qr (fun k => if k = 0 then (some h) else none) qf qa qg, wdP cs h r g tf ta pf na ma wa cf ca ef ea xf xa]) hw (oX_call (P := (fun A U H => (oP A g U H))) (pr := []) oG_P hw hA hP) (px_recv hT hw 0 0 rfl rfl rfl) m14_143 m14_140 m14_142 ms_17_0 m1_22 q_Mpr_arrayAt ⟨Nat.le_of_ble_eq_true rfl, Nat.le_of_ble_eq_true rfl⟩ hl.1 rfl (Nat.le_of_ble_eq_true rfl) d_Mpr_step_547 ⟨Nat.le_of_ble_eq_true rfl, Nat.le_of_ble_eq_true rfl⟩) hw hA (fun v688 p687 H locs hp687 hw => ?_)
      obtain ⟨rfl, e689⟩ := hp687
      replace e689 : v688.toInt = arA ca qa (qf 12).toInt p1 := e689
      replace hw : pw D A s.heap H locs [wd_Mpr cs q qr (fun k => if k = 0 then (some h) else none) qf qa qg, wdP cs h r g tf ta pf na ma wa cf ca ef ea xf xa] := hw
      have lv688 := Int32.le_toInt v688
      have uv688 := Int32.toInt_lt v688
      refine px_callv (pr := []) (px_runV (As := [.int v688]) (rest := []) S (c_mr_give l D cs (0 : Int) q qr qg qf qa h r g tf ta pf na ma wa cf ca ef ea xf xa v688  (show 0 ≤ (qf 10).toInt from by first | with_reducible rfl | with_reducible assumption | omega) (show (qf 10).toInt < 62500 from by first | with_reducible rfl | with_reducible assumption | omega) _) hT (pr := []) (pcs := [wd_Mpr cs q qr (fun k => if k = 0 then (some h) else none) qf qa qg, wdP cs h r g tf ta pf na ma wa cf ca ef ea xf xa]) hw (oX_call (P := (fun A U H => (oP A g U H))) (pr := []) oG_P hw hA hP) (px_recv hT hw 0 0 rfl rfl rfl) m13_161 m13_158 m13_159 m13_160 m1_22 q_Mpr_give ⟨Nat.le_of_ble_eq_true rfl, Nat.le_of_ble_eq_true rfl⟩ hl.1 rfl (Nat.le_of_ble_eq_true rfl) d_Mpr_step_550 ⟨Nat.le_of_ble_eq_true rfl, Nat.le_of_ble_eq_true rfl⟩) hw hA (fun p694 H locs hp694 hw => ?_)
      obtain ⟨qf692, qa693, rfl, e696, e697, e698, e699, e700, e701, e702, e703, e704, e705, e706, e707, e708, e709, e710, e711⟩ := hp694
      replace e696 : (qf692 10).toInt = (qf 10).toInt + 1 := e696
      replace e697 : (qf692 1).toInt = (qf 1).toInt := e697
      replace e698 : (qf692 2).toInt = (qf 2).toInt := e698
      replace e699 : (qf692 3).toInt = (qf 3).toInt := e699
      replace e700 : (qf692 4).toInt = (qf 4).toInt := e700
      replace e701 : (qf692 5).toInt = (qf 5).toInt := e701
      replace e702 : (qf692 6).toInt = (qf 6).toInt := e702
      replace e703 : (qf692 7).toInt = (qf 7).toInt := e703
      replace e704 : (qf692 11).toInt = (qf 11).toInt := e704
      replace e705 : (qf692 12).toInt = (qf 12).toInt := e705
      replace e706 : (qf692 13).toInt = (qf 13).toInt := e706
      replace e707 : (qf692 14).toInt = (qf 14).toInt := e707
      replace e708 : (qf692 21).toInt = (qf 21).toInt := e708
      replace e709 : (qf692 23).toInt = (qf 23).toInt := e709
      replace e710 : (qf692 24).toInt = (qf 24).toInt := e710
      replace e711 : NuU qa qa693 9 (qf 10).toInt v688 := e711
      skip
      replace hw : pw D A s.heap H locs [wd_Mpr cs q qr (fun k => if k = 0 then (some h) else none) qf692 qa693 qg, wdP cs h r g tf ta pf na ma wa cf ca ef ea xf xa] := hw
      have hcl_qf692 : clo ca (qf692 12).toInt p1 = clo ca (qf 12).toInt p1 := (by rw [show (qf692 12).toInt = (qf 12).toInt by omega])
      refine lv_aload_n S.x S.b d_Mpr_step_553 rfl (lv_at hl 0 rfl) ?_
      refine lv_aload_n S.x S.b d_Mpr_step_554 rfl (lv_at hl 0 rfl) ?_
      refine lv_iload_n S.x S.b d_Mpr_step_555 rfl (lv_at hl 2 rfl) ?_
      refine px_calli (pr := []) (px_runV (As := [.int p1]) (rest := [.ref q]) S (c_mr_arraySize l D cs (0 : Int) q qr qg qf692 qa693 h r g tf ta pf na ma wa cf ca ef ea xf xa p1  (show 0 ≤ p1.toInt from by first | with_reducible rfl | with_reducible assumption | omega) (show p1.toInt < 1100 from by first | with_reducible rfl | with_reducible assumption | omega) (show 0 ≤ clo ca (qf692 12).toInt p1 from by first | with_reducible rfl | with_reducible assumption | omega) (show clo ca (qf692 12).toInt p1 ≤ 36990 from by first | with_reducible rfl | with_reducible assumption | omega) _) hT (pr := []) (pcs := [wd_Mpr cs q qr (fun k => if k = 0 then (some h) else none) qf692 qa693 qg, wdP cs h r g tf ta pf na ma wa cf ca ef ea xf xa]) hw (oX_call (P := (fun A U H => (oP A g U H))) (pr := []) oG_P hw hA hP) (px_recv hT hw 0 0 rfl rfl rfl) m14_135 m14_132 m14_134 ms_16_14 m1_22 q_Mpr_arraySize ⟨Nat.le_of_ble_eq_true rfl, Nat.le_of_ble_eq_true rfl⟩ hl.1 rfl (Nat.le_of_ble_eq_true rfl) d_Mpr_step_556 ⟨Nat.le_of_ble_eq_true rfl, Nat.le_of_ble_eq_true rfl⟩) hw hA (fun v713 p712 H locs hp712 hw => ?_)
      obtain ⟨rfl, e714⟩ := hp712
      replace e714 : v713.toInt = arN ca qa693 (qf692 12).toInt p1 := e714
      replace hw : pw D A s.heap H locs [wd_Mpr cs q qr (fun k => if k = 0 then (some h) else none) qf692 qa693 qg, wdP cs h r g tf ta pf na ma wa cf ca ef ea xf xa] := hw
      have lv713 := Int32.le_toInt v713
      have uv713 := Int32.toInt_lt v713
      refine px_callv (pr := []) (px_runV (As := [.int v713]) (rest := []) S (c_mr_give l D cs (0 : Int) q qr qg qf692 qa693 h r g tf ta pf na ma wa cf ca ef ea xf xa v713  (show 0 ≤ (qf692 10).toInt from by first | with_reducible rfl | with_reducible assumption | omega) (show (qf692 10).toInt < 62500 from by first | with_reducible rfl | with_reducible assumption | omega) _) hT (pr := []) (pcs := [wd_Mpr cs q qr (fun k => if k = 0 then (some h) else none) qf692 qa693 qg, wdP cs h r g tf ta pf na ma wa cf ca ef ea xf xa]) hw (oX_call (P := (fun A U H => (oP A g U H))) (pr := []) oG_P hw hA hP) (px_recv hT hw 0 0 rfl rfl rfl) m13_161 m13_158 m13_159 m13_160 m1_22 q_Mpr_give ⟨Nat.le_of_ble_eq_true rfl, Nat.le_of_ble_eq_true rfl⟩ hl.1 rfl (Nat.le_of_ble_eq_true rfl) d_Mpr_step_559 ⟨Nat.le_of_ble_eq_true rfl, Nat.le_of_ble_eq_true rfl⟩) hw hA (fun p719 H locs hp719 hw => ?_)
      obtain ⟨qf717, qa718, rfl, e721, e722, e723, e724, e725, e726, e727, e728, e729, e730, e731, e732, e733, e734, e735, e736⟩ := hp719
      replace e721 : (qf717 10).toInt = (qf692 10).toInt + 1 := e721
      replace e722 : (qf717 1).toInt = (qf692 1).toInt := e722
      replace e723 : (qf717 2).toInt = (qf692 2).toInt := e723
      replace e724 : (qf717 3).toInt = (qf692 3).toInt := e724
      replace e725 : (qf717 4).toInt = (qf692 4).toInt := e725
      replace e726 : (qf717 5).toInt = (qf692 5).toInt := e726
      replace e727 : (qf717 6).toInt = (qf692 6).toInt := e727
      replace e728 : (qf717 7).toInt = (qf692 7).toInt := e728
      replace e729 : (qf717 11).toInt = (qf692 11).toInt := e729
      replace e730 : (qf717 12).toInt = (qf692 12).toInt := e730
      replace e731 : (qf717 13).toInt = (qf692 13).toInt := e731
      replace e732 : (qf717 14).toInt = (qf692 14).toInt := e732
      replace e733 : (qf717 21).toInt = (qf692 21).toInt := e733
      replace e734 : (qf717 23).toInt = (qf692 23).toInt := e734
      replace e735 : (qf717 24).toInt = (qf692 24).toInt := e735
      replace e736 : NuU qa693 qa718 9 (qf692 10).toInt v713 := e736
      skip
      replace hw : pw D A s.heap H locs [wd_Mpr cs q qr (fun k => if k = 0 then (some h) else none) qf717 qa718 qg, wdP cs h r g tf ta pf na ma wa cf ca ef ea xf xa] := hw
      exact px_vret S hr hlk hAe hw (Nat.le_of_ble_eq_true rfl) (Nat.le_of_ble_eq_true rfl) (⟨qf717, qa718, rfl, (show (qf717 1).toInt = (qf 1).toInt from by first | exact oz_1687f4cc65 e697 e722 | omega), (show (qf717 6).toInt = (qf 6).toInt from by first | exact oz_1687f4cc65 e702 e727 | omega), (show (qf717 7).toInt = (qf 7).toInt from by first | exact oz_1687f4cc65 e703 e728 | omega), (show (qf717 21).toInt = (qf 21).toInt from by first | exact oz_1687f4cc65 e708 e733 | omega), (show (qf717 23).toInt = (qf 23).toInt from by first | exact oz_1687f4cc65 e709 e734 | omega), (show (qf717 24).toInt = (qf 24).toInt from by first | exact oz_1687f4cc65 e710 e735 | omega), (show RzO (qf717 2).toInt (RuZ X9 K9 ca qa718 (cf 55).toInt (cf 38).toInt st9 (qf717 14).toInt (qf717 11).toInt (qf717 10).toInt (qf717 12).toInt (qf717 13).toInt (qf717 5).toInt (qf717 4).toInt (rkN (qf 4).toInt (qf 14).toInt (v8 : Int) ((qf 11).toInt - 1))) from (fun q9 => RuZ.tq (MdI.ar (base1 := (qf 12).toInt) (base2 := (qf692 12).toInt) hmd hK hsa.1 e711 e736 (by omega) (by omega) (by omega) (by omega) (by omega) (by omega)) (by omega) (by omega) (by omega) (by omega) (by omega) (by omega) (by omega)))⟩) d_Mpr_step_562
    · simp only [List.mem_cons, List.not_mem_nil, or_false] at c59
      refine lv_aload_n S.x S.b d_Mpr_step_452 rfl (lv_at hl 0 rfl) ?_
      have ho := LcC.o17 hlc (by rw [hp0]; omega); obtain ⟨S0, hS0, hK⟩ := ho; have hl0 : (S9.length : Int) = S0.length + 1 := (by rw [hS0, List.length_cons]; omega); have hst0 : StV (qa 9) P9 S0 ((qf 10).toInt - 1) nb9 := (by have q8 := hst; rw [hS0] at q8; exact q8)
      refine lv_dup S.x S.b d_Mpr_step_453 rfl ?_
      refine px_get S k_Mpr hT hw 0 0 10 (v := .int (qf 10)) rfl rfl rfl (by decide) m11_0 d_Mpr_step_454 ?_
      refine lv_iconst (v := 1) S.x S.b d_Mpr_step_457 (by decide) ?_
      refine lv_isub S.x S.b d_Mpr_step_458 ?_
      have lr737 := Int32.le_toInt (qf 10)
      have ur737 := Int32.toInt_lt (qf 10)
      refine lv_topi (fun z738 ez738 => ?_)
      have tz738 : z738.toInt = ((qf 10).toInt - (1 : Int) + 2147483648) % 4294967296 - 2147483648 := by rw [ez738]; exact i_sub (qf 10) 1
      have lz738 := Int32.le_toInt z738
      have uz738 := Int32.toInt_lt z738
      try replace tz738 : z738.toInt = (qf 10).toInt - (1 : Int) := by omega
      refine px_put S k_Mpr hT hw 0 0 10 rfl rfl (by decide) m11_0 rfl rfl rfl (Nat.le_of_ble_eq_true rfl) d_Mpr_step_459 (w' := wd_Mpr cs q qr (fun k => if k = 0 then (some h) else none) (upd qf 10 z738) qa qg) (ps' := [wd_Mpr cs q qr (fun k => if k = 0 then (some h) else none) (upd qf 10 z738) qa qg, wdP cs h r g tf ta pf na ma wa cf ca ef ea xf xa]) rfl rfl (fun H locs hw => ?_)
      refine lv_goto (tgt := 562) S.x S.b d_Mpr_step_462 (by decide) ?_
      exact px_vret S hr hlk hAe hw (Nat.le_of_ble_eq_true rfl) (Nat.le_of_ble_eq_true rfl) (⟨(upd qf 10 z738), qa, rfl, (show (qf 1).toInt = (qf 1).toInt from rfl), (show (qf 6).toInt = (qf 6).toInt from rfl), (show (qf 7).toInt = (qf 7).toInt from rfl), (show (qf 21).toInt = (qf 21).toInt from rfl), (show (qf 23).toInt = (qf 23).toInt from rfl), (show (qf 24).toInt = (qf 24).toInt from rfl), (show RzO (qf 2).toInt (RuZ X9 K9 ca qa (cf 55).toInt (cf 38).toInt st9 (qf 14).toInt (qf 11).toInt z738.toInt (qf 12).toInt (qf 13).toInt (qf 5).toInt (qf 4).toInt (rkN (qf 4).toInt (qf 14).toInt (v8 : Int) ((qf 11).toInt - 1))) from (fun q9 => RuZ.tq (MdI.pp hmd hK hst0 rfl (fun _ _ => rfl) (fun _ _ _ => rfl) rfl) (by omega) (by omega) (by omega) (by omega) (by omega) (by omega) (by omega)))⟩) d_Mpr_step_562
    · simp only [List.mem_cons, List.not_mem_nil, or_false] at c59
      refine lv_aload_n S.x S.b d_Mpr_step_465 rfl (lv_at hl 0 rfl) ?_
      have ho := LcC.o18 hlc (by rw [hp0]; omega)
      refine px_callv (pr := []) (px_runV (As := []) (rest := []) S (c_mr_giveBack l D cs X9 K9 st9 f9 S9 v8 P9 nb9 q qr qg qf qa h r g tf ta pf na ma wa cf ca ef ea xf xa   (show (qf 2).toInt = -2 from by first | exact g0 | omega) hmd hft ho _) hT (pr := []) (pcs := [wd_Mpr cs q qr (fun k => if k = 0 then (some h) else none) qf qa qg, wdP cs h r g tf ta pf na ma wa cf ca ef ea xf xa]) hw (oX_call (P := (fun A U H => (oP A g U H) ∧ (oLW A U H))) (pr := []) (oG_and oG_P oG_LW) hw hA ⟨hP, hSh⟩) (px_recv hT hw 0 0 rfl rfl rfl) m14_169 m14_166 m14_168 ms_17_5 m1_22 q_Mpr_giveBack ⟨Nat.le_of_ble_eq_true rfl, Nat.le_of_ble_eq_true rfl⟩ hl.1 rfl (Nat.le_of_ble_eq_true rfl) d_Mpr_step_466 ⟨Nat.le_of_ble_eq_true rfl, Nat.le_of_ble_eq_true rfl⟩) hw hA (fun p743 H locs hp743 hw => ?_)
      obtain ⟨qf741, qa742, rfl, e745, e746, e747, e748, e749, e750, e751⟩ := hp743
      replace e745 : (qf741 1).toInt = (qf 1).toInt := e745
      replace e746 : (qf741 6).toInt = (qf 6).toInt := e746
      replace e747 : (qf741 7).toInt = (qf 7).toInt := e747
      replace e748 : (qf741 21).toInt = (qf 21).toInt := e748
      replace e749 : (qf741 23).toInt = (qf 23).toInt := e749
      replace e750 : (qf741 24).toInt = (qf 24).toInt := e750
      replace e751 : RzO (qf741 2).toInt (RuZ X9 K9 ca qa742 (cf 55).toInt (cf 38).toInt st9 (qf741 14).toInt (qf741 11).toInt (qf741 10).toInt (qf741 12).toInt (qf741 13).toInt (qf741 5).toInt (qf741 4).toInt (rkN (qf 4).toInt (qf 14).toInt (v8 : Int) ((qf 11).toInt - 1))) := e751
      have hrz := e751
      replace hw : pw D A s.heap H locs [wd_Mpr cs q qr (fun k => if k = 0 then (some h) else none) qf741 qa742 qg, wdP cs h r g tf ta pf na ma wa cf ca ef ea xf xa] := hw
      refine lv_goto (tgt := 562) S.x S.b d_Mpr_step_469 (by decide) ?_
      exact px_vret S hr hlk hAe hw (Nat.le_of_ble_eq_true rfl) (Nat.le_of_ble_eq_true rfl) (⟨qf741, qa742, rfl, (show (qf741 1).toInt = (qf 1).toInt from by first | exact e745 | omega), (show (qf741 6).toInt = (qf 6).toInt from by first | exact e746 | omega), (show (qf741 7).toInt = (qf 7).toInt from by first | exact e747 | omega), (show (qf741 21).toInt = (qf 21).toInt from by first | exact e748 | omega), (show (qf741 23).toInt = (qf 23).toInt from by first | exact e749 | omega), (show (qf741 24).toInt = (qf 24).toInt from by first | exact e750 | omega), (show RzO (qf741 2).toInt (RuZ X9 K9 ca qa742 (cf 55).toInt (cf 38).toInt st9 (qf741 14).toInt (qf741 11).toInt (qf741 10).toInt (qf741 12).toInt (qf741 13).toInt (qf741 5).toInt (qf741 4).toInt (rkN (qf 4).toInt (qf 14).toInt (v8 : Int) ((qf 11).toInt - 1))) from hrz)⟩) d_Mpr_step_562
    · simp only [List.mem_cons, List.not_mem_nil, or_false] at c59
      refine lv_aload_n S.x S.b d_Mpr_step_472 rfl (lv_at hl 0 rfl) ?_
      have ho := LcC.o19 hlc (by rw [hp0]; omega)
      refine px_calli (pr := []) (px_runV (As := []) (rest := []) S (c_mr_takesWork l D cs (0 : Int) q qr qg qa qf h r g tf ta pf na ma wa cf ca ef ea xf xa   (show 0 ≤ (qf 4).toInt from by first | exact hq9.2.1 | omega) _) hT (pr := []) (pcs := [wd_Mpr cs q qr (fun k => if k = 0 then (some h) else none) qf qa qg, wdP cs h r g tf ta pf na ma wa cf ca ef ea xf xa]) hw (oX_call (P := (fun A U H => (oP A g U H))) (pr := []) oG_P hw hA hP) (px_recv hT hw 0 0 rfl rfl rfl) m14_102 m14_165 m14_100 m14_101 m1_22 q_Mpr_takesWork ⟨Nat.le_of_ble_eq_true rfl, Nat.le_of_ble_eq_true rfl⟩ hl.1 rfl (Nat.le_of_ble_eq_true rfl) d_Mpr_step_473 ⟨Nat.le_of_ble_eq_true rfl, Nat.le_of_ble_eq_true rfl⟩) hw hA (fun v755 p754 H locs hp754 hw => ?_)
      obtain ⟨qf753, rfl, e756, e757, e758, e759, e760, e761, e762, e763, e764, e765, e766, e767, e768, e769, e770, e771, e772, e773, e774⟩ := hp754
      replace e756 : 0 ≤ v755.toInt := e756
      replace e757 : v755.toInt ≤ 1 := e757
      replace e758 : v755.toInt = 1 → (qf753 4).toInt = (qf 4).toInt - 1 := e758
      replace e759 : v755.toInt = 1 → (qf753 2).toInt = (qf 2).toInt := e759
      replace e760 : v755.toInt = 1 → 1 ≤ (qf 4).toInt := e760
      replace e761 : v755.toInt = 0 → (qf753 2).toInt = 5 := e761
      replace e762 : v755.toInt = 0 → (qf753 4).toInt = (qf 4).toInt := e762
      replace e763 : (qf753 1).toInt = (qf 1).toInt := e763
      replace e764 : (qf753 5).toInt = (qf 5).toInt := e764
      replace e765 : (qf753 6).toInt = (qf 6).toInt := e765
      replace e766 : (qf753 7).toInt = (qf 7).toInt := e766
      replace e767 : (qf753 10).toInt = (qf 10).toInt := e767
      replace e768 : (qf753 11).toInt = (qf 11).toInt := e768
      replace e769 : (qf753 12).toInt = (qf 12).toInt := e769
      replace e770 : (qf753 13).toInt = (qf 13).toInt := e770
      replace e771 : (qf753 14).toInt = (qf 14).toInt := e771
      replace e772 : (qf753 21).toInt = (qf 21).toInt := e772
      replace e773 : (qf753 23).toInt = (qf 23).toInt := e773
      replace e774 : (qf753 24).toInt = (qf 24).toInt := e774
      replace hw : pw D A s.heap H locs [wd_Mpr cs q qr (fun k => if k = 0 then (some h) else none) qf753 qa qg, wdP cs h r g tf ta pf na ma wa cf ca ef ea xf xa] := hw
      have lv755 := Int32.le_toInt v755
      have uv755 := Int32.toInt_lt v755
      refine lv_pop S.x S.b d_Mpr_step_476 rfl ?_
      refine lv_goto (tgt := 562) S.x S.b d_Mpr_step_477 (by decide) ?_
      exact px_vret S hr hlk hAe hw (Nat.le_of_ble_eq_true rfl) (Nat.le_of_ble_eq_true rfl) (⟨qf753, qa, rfl, (show (qf753 1).toInt = (qf 1).toInt from by first | exact e763 | omega), (show (qf753 6).toInt = (qf 6).toInt from by first | exact e765 | omega), (show (qf753 7).toInt = (qf 7).toInt from by first | exact e766 | omega), (show (qf753 21).toInt = (qf 21).toInt from by first | exact e772 | omega), (show (qf753 23).toInt = (qf 23).toInt from by first | exact e773 | omega), (show (qf753 24).toInt = (qf 24).toInt from by first | exact e774 | omega), (show RzO (qf753 2).toInt (RuZ X9 K9 ca qa (cf 55).toInt (cf 38).toInt st9 (qf753 14).toInt (qf753 11).toInt (qf753 10).toInt (qf753 12).toInt (qf753 13).toInt (qf753 5).toInt (qf753 4).toInt (rkN (qf 4).toInt (qf 14).toInt (v8 : Int) ((qf 11).toInt - 1))) from (fun q9 => RuZ.tq (MdI.wrk hmd ho rfl (by omega) rfl) (by omega) (by omega) (by omega) (by omega) (by omega) (by omega) (by omega)))⟩) d_Mpr_step_562
    · simp only [List.mem_cons, List.not_mem_nil, or_false] at c59
      refine lv_iconst (v := 0) S.x S.b d_Mpr_step_480 (by decide) ?_
      have ho := LcC.o20 hlc (by rw [hp0]; omega); try rw [hp1] at ho; obtain ⟨hsy, hK⟩ := ho; have hpl9 := hmd.pl hsy; have hpl := hpl9.1
      refine lv_istore (lv' := [(9, .int 0), (0, .ref q), (1, .int p0), (2, .int p1), (3, .int p2)]) S.x S.b d_Mpr_step_481 hl (by decide) rfl (fun ls hl => ?_)
      exact J483 (((ca 52 p1.toNatClampNeg).toInt - (0 : Int)).toNat + 1) qf qa (0 : Int32) _ _ ls (show p0.toInt = 20 from by first | with_reducible rfl | with_reducible assumption | omega) (show 0 ≤ (0 : Int) from by first | decide | omega) (show (0 : Int) ≤ (ca 52 p1.toNatClampNeg).toInt from by first | with_reducible rfl | with_reducible assumption | omega) (show (qf 1).toInt = (qf 1).toInt from rfl) (show (qf 2).toInt = (qf 2).toInt from rfl) (show (qf 3).toInt = (qf 3).toInt from rfl) (show (qf 4).toInt = (qf 4).toInt from rfl) (show (qf 5).toInt = (qf 5).toInt from rfl) (show (qf 6).toInt = (qf 6).toInt from rfl) (show (qf 7).toInt = (qf 7).toInt from rfl) (show (qf 10).toInt = (qf 10).toInt from rfl) (show (qf 11).toInt = (qf 11).toInt from rfl) (show (qf 12).toInt = (qf 12).toInt from rfl) (show (qf 13).toInt = (qf 13).toInt from rfl) (show (qf 14).toInt = (qf 14).toInt from rfl) (show (qf 21).toInt = (qf 21).toInt from rfl) (show (qf 23).toInt = (qf 23).toInt from rfl) (show (qf 24).toInt = (qf 24).toInt from rfl) (show ClU qa qa P9 from clu_0) (show (ca 52 p1.toNatClampNeg).toInt - (0 : Int) < (((((ca 52 p1.toNatClampNeg).toInt - (0 : Int)).toNat + 1 : Nat) : Int) : Int) from by first | exact oz_natlt | omega) hw (lv_sub hl [1, 2, 3, 4, 0] rfl)
    · simp only [List.mem_cons, List.not_mem_nil, or_false] at c59
      refine lv_aload_n S.x S.b d_Mpr_step_520 rfl (lv_at hl 0 rfl) ?_
      have ho := LcC.o21 hlc (by rw [hp0]; omega); try rw [hp1] at ho; rw [hp2] at ho; obtain ⟨S0, hS0, ⟨hsy, hs49⟩, hb21, hK⟩ := ho; have hl0 : (S9.length : Int) = S0.length + 1 := (by rw [hS0, List.length_cons]; omega); have hst0 : StV (qa 9) P9 S0 ((qf 10).toInt - 1) nb9 := (by have q8 := hst; rw [hS0] at q8; exact q8); have hsa := hmd.sa hsy; rw [hnm.2.2.2.2.1] at hs49 hb21
      refine px_get S k_Mpr hT hw 0 0 8 (v := .ref (qr 8)) rfl rfl rfl (by decide) m10_236 d_Mpr_step_521 ?_
      refine lv_aload_n S.x S.b d_Mpr_step_524 rfl (lv_at hl 0 rfl) ?_
      refine lv_iload_n S.x S.b d_Mpr_step_525 rfl (lv_at hl 2 rfl) ?_
      refine px_calli (pr := []) (px_runV (As := [.int p1]) (rest := [.ref (qr 8)]) S (c_mr_cellOf l D cs (0 : Int) q qr qg qf qa h r g tf ta pf na ma wa cf ca ef ea xf xa p1  (show 0 ≤ p1.toInt from by first | with_reducible rfl | with_reducible assumption | omega) (show p1.toInt < 1100 from by first | with_reducible rfl | with_reducible assumption | omega) (show 0 ≤ clo ca (qf 12).toInt p1 from by first | with_reducible rfl | with_reducible assumption | omega) (show clo ca (qf 12).toInt p1 ≤ 36990 from by first | with_reducible rfl | with_reducible assumption | omega) _) hT (pr := []) (pcs := [wd_Mpr cs q qr (fun k => if k = 0 then (some h) else none) qf qa qg, wdP cs h r g tf ta pf na ma wa cf ca ef ea xf xa]) hw (oX_call (P := (fun A U H => (oP A g U H))) (pr := []) oG_P hw hA hP) (px_recv hT hw 0 0 rfl rfl rfl) m14_119 m14_116 m14_118 ms_16_11 m1_22 q_Mpr_cellOf ⟨Nat.le_of_ble_eq_true rfl, Nat.le_of_ble_eq_true rfl⟩ hl.1 rfl (Nat.le_of_ble_eq_true rfl) d_Mpr_step_526 ⟨Nat.le_of_ble_eq_true rfl, Nat.le_of_ble_eq_true rfl⟩) hw hA (fun v776 p775 H locs hp775 hw => ?_)
      obtain ⟨rfl, e777⟩ := hp775
      replace e777 : v776.toInt = clo ca (qf 12).toInt p1 := e777
      replace hw : pw D A s.heap H locs [wd_Mpr cs q qr (fun k => if k = 0 then (some h) else none) qf qa qg, wdP cs h r g tf ta pf na ma wa cf ca ef ea xf xa] := hw
      have lv776 := Int32.le_toInt v776
      have uv776 := Int32.toInt_lt v776
      refine lv_iload_n S.x S.b d_Mpr_step_529 rfl (lv_at hl 3 rfl) ?_
      have hix := hnm.2.2.2.1 _ (hsa.2.2.2.2.1 (by omega) ((clo ca (qf 12).toInt p1) + p2.toInt) (by omega) (by omega))
      refine lv_iadd S.x S.b d_Mpr_step_530 ?_
      refine lv_topi (fun z778 ez778 => ?_)
      have tz778 : z778.toInt = (v776.toInt + p2.toInt + 2147483648) % 4294967296 - 2147483648 := by rw [ez778]; exact i_add v776 p2
      have lz778 := Int32.le_toInt z778
      have uz778 := Int32.toInt_lt z778
      try replace tz778 : z778.toInt = v776.toInt + p2.toInt := by omega
      refine lv_aload_n S.x S.b d_Mpr_step_531 rfl (lv_at hl 0 rfl) ?_
      refine lv_iload_n S.x S.b d_Mpr_step_532 rfl (lv_at hl 2 rfl) ?_
      refine lv_aload_n S.x S.b d_Mpr_step_533 rfl (lv_at hl 0 rfl) ?_
      refine px_calli (pr := []) (px_runV (As := []) (rest := [.int p1, .ref q, .int z778, .ref (qr 8)]) S (c_mr_take l D cs (0 : Int) q qr qg qa qf h r g tf ta pf na ma wa cf ca ef ea xf xa   (show 1 ≤ (qf 10).toInt from by first | with_reducible rfl | with_reducible assumption | omega) (show (qf 10).toInt ≤ 62500 from by first | with_reducible rfl | with_reducible assumption | omega) _) hT (pr := []) (pcs := [wd_Mpr cs q qr (fun k => if k = 0 then (some h) else none) qf qa qg, wdP cs h r g tf ta pf na ma wa cf ca ef ea xf xa]) hw (oX_call (P := (fun A U H => (oP A g U H))) (pr := []) oG_P hw hA hP) (px_recv hT hw 0 0 rfl rfl rfl) m14_123 m14_120 m14_121 m14_122 m1_22 q_Mpr_take ⟨Nat.le_of_ble_eq_true rfl, Nat.le_of_ble_eq_true rfl⟩ hl.1 rfl (Nat.le_of_ble_eq_true rfl) d_Mpr_step_534 ⟨Nat.le_of_ble_eq_true rfl, Nat.le_of_ble_eq_true rfl⟩) hw hA (fun v782 p781 H locs hp781 hw => ?_)
      obtain ⟨qf780, rfl, e783, e784, e785, e786, e787, e788, e789, e790, e791, e792, e793, e794, e795, e796, e797⟩ := hp781
      replace e783 : (qf780 10).toInt = (qf 10).toInt - 1 := e783
      replace e784 : (qf780 1).toInt = (qf 1).toInt := e784
      replace e785 : (qf780 2).toInt = (qf 2).toInt := e785
      replace e786 : (qf780 3).toInt = (qf 3).toInt := e786
      replace e787 : (qf780 4).toInt = (qf 4).toInt := e787
      replace e788 : (qf780 5).toInt = (qf 5).toInt := e788
      replace e789 : (qf780 6).toInt = (qf 6).toInt := e789
      replace e790 : (qf780 7).toInt = (qf 7).toInt := e790
      replace e791 : (qf780 11).toInt = (qf 11).toInt := e791
      replace e792 : (qf780 12).toInt = (qf 12).toInt := e792
      replace e793 : (qf780 13).toInt = (qf 13).toInt := e793
      replace e794 : (qf780 14).toInt = (qf 14).toInt := e794
      replace e795 : (qf780 21).toInt = (qf 21).toInt := e795
      replace e796 : (qf780 23).toInt = (qf 23).toInt := e796
      replace e797 : (qf780 24).toInt = (qf 24).toInt := e797
      replace hw : pw D A s.heap H locs [wd_Mpr cs q qr (fun k => if k = 0 then (some h) else none) qf780 qa qg, wdP cs h r g tf ta pf na ma wa cf ca ef ea xf xa] := hw
      have lv782 := Int32.le_toInt v782
      have uv782 := Int32.toInt_lt v782
      have hcl_qf780 : clo ca (qf780 12).toInt p1 = clo ca (qf 12).toInt p1 := (by rw [show (qf780 12).toInt = (qf 12).toInt by omega])
      refine px_calli (pr := []) (px_runV (As := [.int p1, .int v782]) (rest := [.int z778, .ref (qr 8)]) S (c_mr_stored l D cs (0 : Int) q qr qg qf780 qa h r g tf ta pf na ma wa cf ca ef ea xf xa p1 v782  (show 0 ≤ p1.toInt from by first | with_reducible rfl | with_reducible assumption | omega) (show p1.toInt < 1100 from by first | with_reducible rfl | with_reducible assumption | omega) _) hT (pr := []) (pcs := [wd_Mpr cs q qr (fun k => if k = 0 then (some h) else none) qf780 qa qg, wdP cs h r g tf ta pf na ma wa cf ca ef ea xf xa]) hw (oX_call (P := (fun A U H => (oP A g U H))) (pr := []) oG_P hw hA hP) (px_recv hT hw 0 0 rfl rfl rfl) m14_127 m14_124 m14_126 ms_16_12 m1_22 q_Mpr_stored ⟨Nat.le_of_ble_eq_true rfl, Nat.le_of_ble_eq_true rfl⟩ hl.1 rfl (Nat.le_of_ble_eq_true rfl) d_Mpr_step_537 ⟨Nat.le_of_ble_eq_true rfl, Nat.le_of_ble_eq_true rfl⟩) hw hA (fun v799 p798 H locs hp798 hw => ?_)
      subst hp798
      replace hw : pw D A s.heap H locs [wd_Mpr cs q qr (fun k => if k = 0 then (some h) else none) qf780 qa qg, wdP cs h r g tf ta pf na ma wa cf ca ef ea xf xa] := hw
      have lv799 := Int32.le_toInt v799
      have uv799 := Int32.toInt_lt v799
      refine px_iast S hT hw 0 1 (n := 37000) (f := (qa 8)) (x := z778) (y := v799) rfl (ga_Mpr_8 _ _ _ _ _ _ _) (vp_in_iff.mpr (by constructor <;> omega)) d_Mpr_step_540 (w' := wd_Mpr cs q qr (fun k => if k = 0 then (some h) else none) qf780 (va_up qa 8 (upd (qa 8) z778.toNatClampNeg v799)) qg) (ps' := [wd_Mpr cs q qr (fun k => if k = 0 then (some h) else none) qf780 (va_up qa 8 (upd (qa 8) z778.toNatClampNeg v799)) qg, wdP cs h r g tf ta pf na ma wa cf ca ef ea xf xa]) (sa_Mpr_8 _ _ _ _ _ _ _ _) rfl (fun H locs hw => ?_)
      obtain ⟨qa800, hu_qa800⟩ : ∃ y : Nat → Nat → Int32, y = va_up qa 8 (upd (qa 8) z778.toNatClampNeg v799) := ⟨_, rfl⟩; have hw : pw D A s.heap _ _ [wd_Mpr cs q qr (fun k => if k = 0 then (some h) else none) qf780 qa800 qg, wdP cs h r g tf ta pf na ma wa cf ca ef ea xf xa] := (by rw [hu_qa800]; exact hw); have hcu : ClU qa qa800 P9 := ClU.w clu_0 hu_qa800 (by omega) (by rw [show z778.toInt = (clo ca (qf 12).toInt p1) + p2.toInt by omega]; exact hsa.2.2.2.2.1 (by omega) _ (by omega) (by omega))
      refine lv_goto (tgt := 562) S.x S.b d_Mpr_step_541 (by decide) ?_
      exact px_vret S hr hlk hAe hw (Nat.le_of_ble_eq_true rfl) (Nat.le_of_ble_eq_true rfl) (⟨qf780, qa800, rfl, (show (qf780 1).toInt = (qf 1).toInt from by first | exact e784 | omega), (show (qf780 6).toInt = (qf 6).toInt from by first | exact e789 | omega), (show (qf780 7).toInt = (qf 7).toInt from by first | exact e790 | omega), (show (qf780 21).toInt = (qf 21).toInt from by first | exact e795 | omega), (show (qf780 23).toInt = (qf 23).toInt from by first | exact e796 | omega), (show (qf780 24).toInt = (qf 24).toInt from by first | exact e797 | omega), (show RzO (qf780 2).toInt (RuZ X9 K9 ca qa800 (cf 55).toInt (cf 38).toInt st9 (qf780 14).toInt (qf780 11).toInt (qf780 10).toInt (qf780 12).toInt (qf780 13).toInt (qf780 5).toInt (qf780 4).toInt (rkN (qf 4).toInt (qf 14).toInt (v8 : Int) ((qf 11).toInt - 1))) from (fun q9 => RuZ.tq (MdI.pp hmd hK hst0 hcu.1 hcu.2.1 hcu.2.2 rfl) (by omega) (by omega) (by omega) (by omega) (by omega) (by omega) (by omega)))⟩) d_Mpr_step_562
    · simp only [List.mem_cons, List.not_mem_nil, or_false] at c59
      refine lv_aload_n S.x S.b d_Mpr_step_411 rfl (lv_at hl 0 rfl) ?_
      have ho := LcC.o23 hlc (by rw [hp0]; omega); try rw [hp1] at ho; obtain ⟨S0, hS0, hK, hJ⟩ := ho; have hl0 : (S9.length : Int) = S0.length + 1 := (by rw [hS0, List.length_cons]; omega); have hst0 : StV (qa 9) P9 S0 ((qf 10).toInt - 1) nb9 := (by have q8 := hst; rw [hS0] at q8; exact q8)
      refine px_get S k_Mpr hT hw 0 0 9 (v := .ref (qr 9)) rfl rfl rfl (by decide) m10_238 d_Mpr_step_412 ?_
      refine lv_aload_n S.x S.b d_Mpr_step_415 rfl (lv_at hl 0 rfl) ?_
      refine px_get S k_Mpr hT hw 0 0 10 (v := .int (qf 10)) rfl rfl rfl (by decide) m11_0 d_Mpr_step_416 ?_
      refine lv_iconst (v := 1) S.x S.b d_Mpr_step_419 (by decide) ?_
      refine lv_isub S.x S.b d_Mpr_step_420 ?_
      have lr801 := Int32.le_toInt (qf 10)
      have ur801 := Int32.toInt_lt (qf 10)
      refine lv_topi (fun z802 ez802 => ?_)
      have tz802 : z802.toInt = ((qf 10).toInt - (1 : Int) + 2147483648) % 4294967296 - 2147483648 := by rw [ez802]; exact i_sub (qf 10) 1
      have lz802 := Int32.le_toInt z802
      have uz802 := Int32.toInt_lt z802
      try replace tz802 : z802.toInt = (qf 10).toInt - (1 : Int) := by omega
      refine px_iald S hT hw 0 2 (n := 62500) (f := (qa 9)) rfl (ga_Mpr_9 _ _ _ _ _ _ _) (x := z802) (vp_in_iff.mpr (by constructor <;> omega)) d_Mpr_step_421 ?_
      refine lv_topi (fun z803 ez803 => ?_)
      have lz803 := Int32.le_toInt z803
      have uz803 := Int32.toInt_lt z803
      refine lv_iload_n S.x S.b d_Mpr_step_422 rfl (lv_at hl 3 rfl) ?_
      refine lv_icmp_ne (tgt := 562) S.x S.b d_Mpr_step_423 (by decide) (fun c804 => ?_) (fun c804 => ?_)
      · have nc804 : ¬ z803.toInt = p2.toInt := mt (i_eq (x := z803) (y := p2)).mpr c804
        exact px_vret S hr hlk hAe hw (Nat.le_of_ble_eq_true rfl) (Nat.le_of_ble_eq_true rfl) (⟨qf, qa, rfl, (show (qf 1).toInt = (qf 1).toInt from rfl), (show (qf 6).toInt = (qf 6).toInt from rfl), (show (qf 7).toInt = (qf 7).toInt from rfl), (show (qf 21).toInt = (qf 21).toInt from rfl), (show (qf 23).toInt = (qf 23).toInt from rfl), (show (qf 24).toInt = (qf 24).toInt from rfl), (show RzO (qf 2).toInt (RuZ X9 K9 ca qa (cf 55).toInt (cf 38).toInt st9 (qf 14).toInt (qf 11).toInt (qf 10).toInt (qf 12).toInt (qf 13).toInt (qf 5).toInt (qf 4).toInt (rkN (qf 4).toInt (qf 14).toInt (v8 : Int) ((qf 11).toInt - 1))) from (fun q9 => RuZ.tq (MdI.nx hmd hK (Nat.le_refl _) hst rfl) (by omega) (by omega) (by omega) (by omega) (by omega) (by omega) (by omega)))⟩) d_Mpr_step_562
      · have nc804 : z803.toInt = p2.toInt := (i_eq (x := z803) (y := p2)).mp c804
        refine lv_aload_n S.x S.b d_Mpr_step_426 rfl (lv_at hl 0 rfl) ?_
        refine lv_dup S.x S.b d_Mpr_step_427 rfl ?_
        refine px_get S k_Mpr hT hw 0 0 10 (v := .int (qf 10)) rfl rfl rfl (by decide) m11_0 d_Mpr_step_428 ?_
        refine lv_iconst (v := 1) S.x S.b d_Mpr_step_431 (by decide) ?_
        refine lv_isub S.x S.b d_Mpr_step_432 ?_
        have lr805 := Int32.le_toInt (qf 10)
        have ur805 := Int32.toInt_lt (qf 10)
        refine lv_topi (fun z806 ez806 => ?_)
        have tz806 : z806.toInt = ((qf 10).toInt - (1 : Int) + 2147483648) % 4294967296 - 2147483648 := by rw [ez806]; exact i_sub (qf 10) 1
        have lz806 := Int32.le_toInt z806
        have uz806 := Int32.toInt_lt z806
        try replace tz806 : z806.toInt = (qf 10).toInt - (1 : Int) := by omega
        refine px_put S k_Mpr hT hw 0 0 10 rfl rfl (by decide) m11_0 rfl rfl rfl (Nat.le_of_ble_eq_true rfl) d_Mpr_step_433 (w' := wd_Mpr cs q qr (fun k => if k = 0 then (some h) else none) (upd qf 10 z806) qa qg) (ps' := [wd_Mpr cs q qr (fun k => if k = 0 then (some h) else none) (upd qf 10 z806) qa qg, wdP cs h r g tf ta pf na ma wa cf ca ef ea xf xa]) rfl rfl (fun H locs hw => ?_)
        refine lv_aload_n S.x S.b d_Mpr_step_436 rfl (lv_at hl 0 rfl) ?_
        refine lv_iload_n S.x S.b d_Mpr_step_437 rfl (lv_at hl 2 rfl) ?_
        refine px_put S k_Mpr hT hw 0 0 11 rfl rfl (by decide) m11_2 rfl rfl rfl (Nat.le_of_ble_eq_true rfl) d_Mpr_step_438 (w' := wd_Mpr cs q qr (fun k => if k = 0 then (some h) else none) (upd (upd qf 10 z806) 11 p1) qa qg) (ps' := [wd_Mpr cs q qr (fun k => if k = 0 then (some h) else none) (upd (upd qf 10 z806) 11 p1) qa qg, wdP cs h r g tf ta pf na ma wa cf ca ef ea xf xa]) rfl rfl (fun H locs hw => ?_)
        refine lv_goto (tgt := 562) S.x S.b d_Mpr_step_441 (by decide) ?_
        exact px_vret S hr hlk hAe hw (Nat.le_of_ble_eq_true rfl) (Nat.le_of_ble_eq_true rfl) (⟨(upd (upd qf 10 z806) 11 p1), qa, rfl, (show (qf 1).toInt = (qf 1).toInt from rfl), (show (qf 6).toInt = (qf 6).toInt from rfl), (show (qf 7).toInt = (qf 7).toInt from rfl), (show (qf 21).toInt = (qf 21).toInt from rfl), (show (qf 23).toInt = (qf 23).toInt from rfl), (show (qf 24).toInt = (qf 24).toInt from rfl), (show RzO (qf 2).toInt (RuZ X9 K9 ca qa (cf 55).toInt (cf 38).toInt st9 (qf 14).toInt p1.toInt z806.toInt (qf 12).toInt (qf 13).toInt (qf 5).toInt (qf 4).toInt (rkN (qf 4).toInt (qf 14).toInt (v8 : Int) ((qf 11).toInt - 1))) from (fun q9 => RuZ.tq (MdI.j hmd hJ hst0 rfl) (by omega) (by omega) (by omega) (by omega) (by omega) (by omega) (by omega)))⟩) d_Mpr_step_562
