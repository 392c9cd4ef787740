theorem oz_b5917379a1 {a0 a2 a3 : Int} {n1 : Nat} (h0 : a2 = (n1 : Int)) (h1 : a0 = a3 + 1) (h2 : ¬ a2 ≤ a3) : a0 ≤ (n1 : Int) := by omega
theorem oz_0d7b47d730 {a1 a3 : Int} {n0 n2 : Nat} (h0 : (n0 : Int)+1-a3 < ((n2 + 1 : Nat) : Int)) (h1 : a1 = a3 + 1) : (n0 : Int)+1-a1 < (n2 : Int) := by omega
theorem oz_e13db6e0da {n0 : Nat}  : (0 : Int) ≤ (n0 : Int) := by omega
theorem oz_7afaed60c6 {a2 a3 : Int} {n0 n1 : Nat} (h0 : a2 = (n0 : Int)) (h1 : a3 = (n1 : Int)) (h2 : a2 = a3) : (n0 : Int) = (n1 : Int) := by omega
theorem m7_197 : Cond.instantiable "java/lang/String" 4 ∈ AL := AL_7 (List.mem_of_getElem? (i := 197) rfl) rfl
theorem m11_226 : Cond.classLink "java/lang/String" 10 "java/lang/String" ∈ AL := AL_11 (List.mem_of_getElem? (i := 226) rfl) rfl
theorem m11_227 : Cond.methodLink "java/lang/String" 541 ⟨"java/lang/StringLatin1", "equals", "([B[B)Z"⟩ ∈ AL := AL_11 (List.mem_of_getElem? (i := 227) rfl) rfl
theorem m11_229 : Cond.code ⟨"java/lang/StringLatin1", "equals", "([B[B)Z"⟩ prog_33_method_13_code 3 (Option.some FieldType.boolean) ∈ AL := AL_11 (List.mem_of_getElem? (i := 229) rfl) rfl
theorem m11_228 : Cond.static ⟨"java/lang/StringLatin1", "equals", "([B[B)Z"⟩ ∈ AL := AL_11 (List.mem_of_getElem? (i := 228) rfl) rfl
/-! THE REFERENCE: its strings, its world in groups -/
def litM : List (Nat × String × Nat) := [(11, "int", 3), (13, "char", 4), (15, "void", 4), (17, "enum", 4), (19, "if", 2), (21, "else", 4), (23, "while", 5), (25, "do", 2), (27, "for", 3), (29, "switch", 6), (31, "case", 4), (33, "default", 7), (35, "break", 5), (37, "continue", 8), (39, "return", 6), (47, "<<=", 3), (49, ">>=", 3), (51, "+=", 2), (53, "-=", 2), (55, "*=", 2), (57, "/=", 2), (59, "%=", 2), (61, "&=", 2), (63, "|=", 2), (65, "^=", 2), (67, "||", 2), (69, "&&", 2), (71, "==", 2), (73, "!=", 2), (75, "<=", 2), (77, ">=", 2), (79, "<<", 2), (81, ">>", 2), (83, "++", 2), (85, "--", 2), (87, "(", 1), (89, ")", 1), (91, "{", 1), (93, "}", 1), (95, "[", 1), (97, "]", 1), (99, ",", 1), (101, ";", 1), (103, ":", 1), (105, "?", 1), (107, "=", 1), (109, "|", 1), (111, "^", 1), (113, "&", 1), (115, "<", 1), (117, ">", 1), (119, "+", 1), (121, "-", 1), (123, "*", 1), (125, "/", 1), (127, "%", 1), (129, "!", 1), (131, "~", 1), (136, "len", 3), (138, "put", 3), (140, "send", 4), (142, "recv", 4), (144, "more", 4), (146, "spawn", 5), (148, "wait", 4), (150, "get", 3), (152, "set", 3), (154, "end", 3), (156, "load", 4), (158, "store", 5), (160, "control", 7), (162, "setcontrol", 10), (164, "host", 4), (169, "ia", 2), (171, "vi", 2), (173, "vii", 3), (175, "ii", 2), (177, "iii", 3), (179, "vis", 3), (181, "ik", 2), (183, "vki", 3), (185, "iiii", 4), (688, "main", 4)]
theorem len_1 {i : Nat} (h : i < 43) : 1 ≤ mlen i ∧ mlen i ≤ 3 := by
  have : ∀ k : Nat, k < 43 → 1 ≤ mlen k ∧ mlen k ≤ 3 := by decide
  exact this i h
theorem len_0 {i : Nat} (h : i < 15) : 1 ≤ klen i ∧ klen i ≤ 20 := by
  have : ∀ k : Nat, k < 15 → 1 ≤ klen k ∧ klen k ≤ 20 := by decide
  exact this i h
theorem len_2 {i : Nat} (h : i < 15) : 1 ≤ olen i ∧ olen i ≤ 20 := by
  have : ∀ k : Nat, k < 15 → 1 ≤ olen k ∧ olen k ≤ 20 := by decide
  exact this i h
theorem len_3 {i : Nat} (h : i < 15) : 2 ≤ tlen i ∧ tlen i ≤ 4 := by
  have : ∀ k : Nat, k < 15 → 2 ≤ tlen k ∧ tlen k ≤ 4 := by decide
  exact this i h
def StS (A : Nat → Prop) (sk sn : Nat) (U : State) (H : Heap) : Prop := ∃ (st : Nat) (sb : Nat → Int32), oS A sk st sn sb U H
def StLt (A : Nat → Prop) (sk sn : Nat) (sb : Nat → Int32) (U : State) (H : Heap) : Prop := ∃ st : Nat, oS A sk st sn sb U H
theorem StLt.s {A : Nat → Prop} {sk sn : Nat} {sb : Nat → Int32} {U : State} {H : Heap} (h : StLt A sk sn sb U H) : StS A sk sn U H := h.elim fun st x => ⟨st, sb, x⟩
/-- two strings of the same letters -/
theorem oS_same {A : Nat → Prop} {k k2 t t2 N N2 : Nat} {b b2 : Nat → Int32} {U : State} {H : Heap} (h : oS A k t N b U H) (h2 : oS A k2 t2 N2 b2 U H) (e : k = k2) (hn : N ≤ 1000000) (hn2 : N2 ≤ 1000000) : SameS N b N2 b2 := by
  subst e
  obtain ⟨-, -, ⟨c1, k1, i1, f1, l1, q1, -, q3, -, q5, -⟩, ⟨m1, p1, -, -, -, p5, p6, -⟩⟩ := h
  obtain ⟨-, -, ⟨c2, k2, i2, f2, l2, r1, -, r3, -, r5, -⟩, ⟨m2, s1, -, -, -, s5, s6, -⟩⟩ := h2
  rw [q1] at r1
  cases r1
  rw [q3] at r3
  cases r3
  rw [q5] at r5
  cases r5
  rw [p1] at s1
  cases s1
  have e1 : N = N2 := by
    have h4 := congrArg Int32.toInt (p5.symm.trans s5)
    rw [show Int32.ofNat N = nI N from rfl, show Int32.ofNat N2 = nI N2 from rfl, nI_toInt (by omega), nI_toInt (by omega)] at h4
    omega
  refine ⟨e1, fun j hj => ?_⟩
  have h5 := p6 j hj
  rw [s6 j (by omega)] at h5
  exact (Value.int.inj (Option.some.inj h5)).symm
def oP (A : Nat → Prop) (g : Nat → Nat → Option Nat) (U : State) (H : Heap) : Prop := oZ A U H ∧ oF A U H ∧ (∀ i : Nat, i < 43 → ∃ sk, g 1 i = some sk ∧ StLt A sk (mlen i) (mby i) U H) ∧ (∀ i : Nat, i < 15 → ∃ sk, g 0 i = some sk ∧ StLt A sk (klen i) (kby i) U H) ∧ (∀ i : Nat, i < 15 → ∃ sk, g 2 i = some sk ∧ StLt A sk (olen i) (oby i) U H) ∧ (∀ i : Nat, i < 15 → ∃ sk, g 3 i = some sk ∧ ∃ st : Nat, oS A sk st (tlen i) (tby i) U H) ∧ ∀ q ∈ litM, ∃ sk, vk_R "HomeSystemModel$Program" q.1 q.2.1 sk U ∧ StLt A sk q.2.2 (lby q.2.1) U H
theorem oG_all {α : Sort _} {P : α → (Nat → Prop) → State → Heap → Prop} (h : ∀ a, oG (P a)) : oG (fun A U H => ∀ a, P a A U H) := ⟨fun w x a => (h a).1 w (x a), fun w x a => (h a).2.1 w (x a), fun x w a => (h a).2.2.1 (x a) w, fun x w a => (h a).2.2.2 (x a) w⟩
theorem oG_ex {α : Sort _} {P : α → (Nat → Prop) → State → Heap → Prop} (h : ∀ a, oG (P a)) : oG (fun A U H => ∃ a, P a A U H) := ⟨fun w x => x.elim fun a y => ⟨a, (h a).1 w y⟩, fun w x => x.elim fun a y => ⟨a, (h a).2.1 w y⟩, fun x w => x.elim fun a y => ⟨a, (h a).2.2.1 y w⟩, fun x w => x.elim fun a y => ⟨a, (h a).2.2.2 y w⟩⟩
theorem oG_c {p : Prop} : oG (fun _ _ _ => p) := ⟨fun _ x => x, fun _ x => x, fun x _ => x, fun x _ => x⟩
theorem oG_Q {sk sn : Nat} : oG (fun A U H => StS A sk sn U H) := oG_ex (fun _ => oG_ex (fun _ => oG_S))
theorem oG_QB {sk sn : Nat} {sb : Nat → Int32} : oG (fun A U H => StLt A sk sn sb U H) := oG_ex (fun _ => oG_S)
theorem oG_P {g : Nat → Nat → Option Nat} : oG (fun A U H => oP A g U H) :=
  oG_and oG_Z (oG_and oG_F (oG_and (oG_all fun _ => oG_all fun _ => oG_ex fun _ => oG_and oG_c oG_QB) (oG_and (oG_all fun _ => oG_all fun _ => oG_ex fun _ => oG_and oG_c oG_QB) (oG_and (oG_all fun _ => oG_all fun _ => oG_ex fun _ => oG_and oG_c oG_QB) (oG_and (oG_all fun _ => oG_all fun _ => oG_ex fun _ => oG_and oG_c (oG_ex fun _ => oG_S)) (oG_all fun _ => oG_all fun _ => oG_ex fun _ => oG_and oG_L oG_QB))))))
section OP
variable {A : Nat → Prop} {g : Nat → Nat → Option Nat} {U : State} {H : Heap}
theorem oP_1B (h : oP A g U H) {i : Nat} (hi : i < 43) : ∃ sk, g 1 i = some sk ∧ ∃ st : Nat, oS A sk st (mlen i) (mby i) U H := h.2.2.1 i hi
theorem oP_0B (h : oP A g U H) {i : Nat} (hi : i < 15) : ∃ sk, g 0 i = some sk ∧ ∃ st : Nat, oS A sk st (klen i) (kby i) U H := h.2.2.2.1 i hi
theorem oP_2B (h : oP A g U H) {i : Nat} (hi : i < 15) : ∃ sk, g 2 i = some sk ∧ ∃ st : Nat, oS A sk st (olen i) (oby i) U H := h.2.2.2.2.1 i hi
theorem oP_3B (h : oP A g U H) {i : Nat} (hi : i < 15) : ∃ sk, g 3 i = some sk ∧ ∃ st : Nat, oS A sk st (tlen i) (tby i) U H := h.2.2.2.2.2.1 i hi
theorem oP_litB (h : oP A g U H) {k : Nat} {tx : String} {n : Nat} (hk : (k, tx, n) ∈ litM) : ∃ sk, vk_R "HomeSystemModel$Program" k tx sk U ∧ ∃ st : Nat, oS A sk st n (lby tx) U H := h.2.2.2.2.2.2 _ hk
theorem oP_1 (h : oP A g U H) {i : Nat} (hi : i < 43) : ∃ sk, g 1 i = some sk ∧ ∃ (st : Nat) (sb : Nat → Int32), oS A sk st (mlen i) sb U H := (oP_1B h hi).elim fun sk x => ⟨sk, x.1, x.2.elim fun st y => ⟨st, _, y⟩⟩
end OP
section AS
variable {p : Program} {l : Launch} {e : Env} {R : Room} {s : State} {m : MethodId} {args : Array Value} {below : List Frame} {meth : Method} {c : Code} {H : Heap} {locs : List Loc} {cells slots : Nat} {Q : State → Prop}
variable {cc : ByteArray} {pc nL : Nat} {ls : Array Slot} {rest : List Value} {D : va_G} {A : Nat → Prop} {a : Nat} {cs : Nat → ClassId} {ps : List va_W} {w : va_W} {H0 : Heap} {own : String}
theorem px_aaldS (S : px_S p m c cc nL s args own) (hT : Tb D cs s) (hw : pw D A H0 H locs ps) (i j t0 : Nat) {cA : ClassId} {C : String} {n : Nat} {f : Nat → Option Nat} (hi : ps[i]? = some w) (he : w[j]? = some (a, .inl (cA, n, .inr (.inr (.inr (.inr f)))))) (ht : (tyL cs)[t0]? = some (cA, .object C)) {x : Int32} (hin : vp_in x n) {sk : Nat} (hq : f x.toNatClampNeg = some sk) (hdg : decode cc pc = .ok (.aaload, 1))
    (kk : W p l e R s m args below meth c H locs cells slots Q (F0 m (pc + 1) ls (.ref sk :: rest))) : W p l e R s m args below meth c H locs cells slots Q (F0 m pc ls (.int x :: .ref a :: rest)) := px_aald S hT hw i j t0 hi he ht hin hdg (by rw [hq]; exact kk)
end AS
def gF (tf pf cf ef xf : Nat → Int32) : Nat → Int32 := fun k => cond (Nat.ble k 6) (tf k) (cond (Nat.ble k 26) (pf k) (cond (Nat.ble k 59) (cf k) (cond (Nat.ble k 65) (ef k) (xf k))))
def gA (ta na ma wa ca ea xa : Nat → Nat → Int32) : Nat → Nat → Int32 := fun k => cond (Nat.ble k 10) (ta k) (cond (Nat.beq k 18 || Nat.beq k 19 || Nat.beq k 20 || Nat.beq k 22) (ma k) (cond (Nat.ble k 23) (na k) (cond (Nat.ble k 29) (wa k) (cond (Nat.ble k 56) (ca k) (cond (Nat.ble k 63) (ea k) (xa k))))))
def wdP (cs : Nat → ClassId) (h : Nat) (r : Nat → Nat) (g : Nat → Nat → Option Nat) (tf : Nat → Int32) (ta : Nat → Nat → Int32) (pf : Nat → Int32) (na : Nat → Nat → Int32) (ma : Nat → Nat → Int32) (wa : Nat → Nat → Int32) (cf : Nat → Int32) (ca : Nat → Nat → Int32) (ef : Nat → Int32) (ea : Nat → Nat → Int32) (xf : Nat → Int32) (xa : Nat → Nat → Int32) : va_W := wd_Mpg cs h r (fun _ => none) (gF tf pf cf ef xf) (gA ta na ma wa ca ea xa) g
theorem gp_4 {cs : Nat → ClassId} {h : Nat} {r : Nat → Nat} {g : Nat → Nat → Option Nat} {tf : Nat → Int32} {ta : Nat → Nat → Int32} {pf : Nat → Int32} {na : Nat → Nat → Int32} {ma : Nat → Nat → Int32} {wa : Nat → Nat → Int32} {cf : Nat → Int32} {ca : Nat → Nat → Int32} {ef : Nat → Int32} {ea : Nat → Nat → Int32} {xf : Nat → Int32} {xa : Nat → Nat → Int32} : (wdP cs h r g tf ta pf na ma wa cf ca ef ea xf xa)[5]? = some (r 4, .inl (cs 1, 2048, .inl (ta 4))) := rfl
theorem sp_4 {cs : Nat → ClassId} {h : Nat} {r : Nat → Nat} {g : Nat → Nat → Option Nat} {tf : Nat → Int32} {ta : Nat → Nat → Int32} {pf : Nat → Int32} {na : Nat → Nat → Int32} {ma : Nat → Nat → Int32} {wa : Nat → Nat → Int32} {cf : Nat → Int32} {ca : Nat → Nat → Int32} {ef : Nat → Int32} {ea : Nat → Nat → Int32} {xf : Nat → Int32} {xa : Nat → Nat → Int32} {X : Nat → Int32} : (wdP cs h r g tf ta pf na ma wa cf ca ef ea xf xa).set 5 (r 4, .inl (cs 1, 2048, .inl X)) = wdP cs h r g tf (va_up ta 4 X) pf na ma wa cf ca ef ea xf xa := rfl
theorem gp_7 {cs : Nat → ClassId} {h : Nat} {r : Nat → Nat} {g : Nat → Nat → Option Nat} {tf : Nat → Int32} {ta : Nat → Nat → Int32} {pf : Nat → Int32} {na : Nat → Nat → Int32} {ma : Nat → Nat → Int32} {wa : Nat → Nat → Int32} {cf : Nat → Int32} {ca : Nat → Nat → Int32} {ef : Nat → Int32} {ea : Nat → Nat → Int32} {xf : Nat → Int32} {xa : Nat → Nat → Int32} : (wdP cs h r g tf ta pf na ma wa cf ca ef ea xf xa)[6]? = some (r 7, .inl (cs 0, 2060, .inl (ta 7))) := rfl
theorem sp_7 {cs : Nat → ClassId} {h : Nat} {r : Nat → Nat} {g : Nat → Nat → Option Nat} {tf : Nat → Int32} {ta : Nat → Nat → Int32} {pf : Nat → Int32} {na : Nat → Nat → Int32} {ma : Nat → Nat → Int32} {wa : Nat → Nat → Int32} {cf : Nat → Int32} {ca : Nat → Nat → Int32} {ef : Nat → Int32} {ea : Nat → Nat → Int32} {xf : Nat → Int32} {xa : Nat → Nat → Int32} {X : Nat → Int32} : (wdP cs h r g tf ta pf na ma wa cf ca ef ea xf xa).set 6 (r 7, .inl (cs 0, 2060, .inl X)) = wdP cs h r g tf (va_up ta 7 X) pf na ma wa cf ca ef ea xf xa := rfl
theorem gp_8 {cs : Nat → ClassId} {h : Nat} {r : Nat → Nat} {g : Nat → Nat → Option Nat} {tf : Nat → Int32} {ta : Nat → Nat → Int32} {pf : Nat → Int32} {na : Nat → Nat → Int32} {ma : Nat → Nat → Int32} {wa : Nat → Nat → Int32} {cf : Nat → Int32} {ca : Nat → Nat → Int32} {ef : Nat → Int32} {ea : Nat → Nat → Int32} {xf : Nat → Int32} {xa : Nat → Nat → Int32} : (wdP cs h r g tf ta pf na ma wa cf ca ef ea xf xa)[7]? = some (r 8, .inl (cs 0, 2060, .inl (ta 8))) := rfl
theorem sp_8 {cs : Nat → ClassId} {h : Nat} {r : Nat → Nat} {g : Nat → Nat → Option Nat} {tf : Nat → Int32} {ta : Nat → Nat → Int32} {pf : Nat → Int32} {na : Nat → Nat → Int32} {ma : Nat → Nat → Int32} {wa : Nat → Nat → Int32} {cf : Nat → Int32} {ca : Nat → Nat → Int32} {ef : Nat → Int32} {ea : Nat → Nat → Int32} {xf : Nat → Int32} {xa : Nat → Nat → Int32} {X : Nat → Int32} : (wdP cs h r g tf ta pf na ma wa cf ca ef ea xf xa).set 7 (r 8, .inl (cs 0, 2060, .inl X)) = wdP cs h r g tf (va_up ta 8 X) pf na ma wa cf ca ef ea xf xa := rfl
theorem gp_9 {cs : Nat → ClassId} {h : Nat} {r : Nat → Nat} {g : Nat → Nat → Option Nat} {tf : Nat → Int32} {ta : Nat → Nat → Int32} {pf : Nat → Int32} {na : Nat → Nat → Int32} {ma : Nat → Nat → Int32} {wa : Nat → Nat → Int32} {cf : Nat → Int32} {ca : Nat → Nat → Int32} {ef : Nat → Int32} {ea : Nat → Nat → Int32} {xf : Nat → Int32} {xa : Nat → Nat → Int32} : (wdP cs h r g tf ta pf na ma wa cf ca ef ea xf xa)[8]? = some (r 9, .inl (cs 1, 2060, .inl (ta 9))) := rfl
theorem sp_9 {cs : Nat → ClassId} {h : Nat} {r : Nat → Nat} {g : Nat → Nat → Option Nat} {tf : Nat → Int32} {ta : Nat → Nat → Int32} {pf : Nat → Int32} {na : Nat → Nat → Int32} {ma : Nat → Nat → Int32} {wa : Nat → Nat → Int32} {cf : Nat → Int32} {ca : Nat → Nat → Int32} {ef : Nat → Int32} {ea : Nat → Nat → Int32} {xf : Nat → Int32} {xa : Nat → Nat → Int32} {X : Nat → Int32} : (wdP cs h r g tf ta pf na ma wa cf ca ef ea xf xa).set 8 (r 9, .inl (cs 1, 2060, .inl X)) = wdP cs h r g tf (va_up ta 9 X) pf na ma wa cf ca ef ea xf xa := rfl
theorem gp_10 {cs : Nat → ClassId} {h : Nat} {r : Nat → Nat} {g : Nat → Nat → Option Nat} {tf : Nat → Int32} {ta : Nat → Nat → Int32} {pf : Nat → Int32} {na : Nat → Nat → Int32} {ma : Nat → Nat → Int32} {wa : Nat → Nat → Int32} {cf : Nat → Int32} {ca : Nat → Nat → Int32} {ef : Nat → Int32} {ea : Nat → Nat → Int32} {xf : Nat → Int32} {xa : Nat → Nat → Int32} : (wdP cs h r g tf ta pf na ma wa cf ca ef ea xf xa)[9]? = some (r 10, .inl (cs 0, 2060, .inl (ta 10))) := rfl
theorem sp_10 {cs : Nat → ClassId} {h : Nat} {r : Nat → Nat} {g : Nat → Nat → Option Nat} {tf : Nat → Int32} {ta : Nat → Nat → Int32} {pf : Nat → Int32} {na : Nat → Nat → Int32} {ma : Nat → Nat → Int32} {wa : Nat → Nat → Int32} {cf : Nat → Int32} {ca : Nat → Nat → Int32} {ef : Nat → Int32} {ea : Nat → Nat → Int32} {xf : Nat → Int32} {xa : Nat → Nat → Int32} {X : Nat → Int32} : (wdP cs h r g tf ta pf na ma wa cf ca ef ea xf xa).set 9 (r 10, .inl (cs 0, 2060, .inl X)) = wdP cs h r g tf (va_up ta 10 X) pf na ma wa cf ca ef ea xf xa := rfl
theorem gp_14 {cs : Nat → ClassId} {h : Nat} {r : Nat → Nat} {g : Nat → Nat → Option Nat} {tf : Nat → Int32} {ta : Nat → Nat → Int32} {pf : Nat → Int32} {na : Nat → Nat → Int32} {ma : Nat → Nat → Int32} {wa : Nat → Nat → Int32} {cf : Nat → Int32} {ca : Nat → Nat → Int32} {ef : Nat → Int32} {ea : Nat → Nat → Int32} {xf : Nat → Int32} {xa : Nat → Nat → Int32} : (wdP cs h r g tf ta pf na ma wa cf ca ef ea xf xa)[10]? = some (r 14, .inl (cs 1, 2100, .inl (na 14))) := rfl
theorem sp_14 {cs : Nat → ClassId} {h : Nat} {r : Nat → Nat} {g : Nat → Nat → Option Nat} {tf : Nat → Int32} {ta : Nat → Nat → Int32} {pf : Nat → Int32} {na : Nat → Nat → Int32} {ma : Nat → Nat → Int32} {wa : Nat → Nat → Int32} {cf : Nat → Int32} {ca : Nat → Nat → Int32} {ef : Nat → Int32} {ea : Nat → Nat → Int32} {xf : Nat → Int32} {xa : Nat → Nat → Int32} {X : Nat → Int32} : (wdP cs h r g tf ta pf na ma wa cf ca ef ea xf xa).set 10 (r 14, .inl (cs 1, 2100, .inl X)) = wdP cs h r g tf ta pf (va_up na 14 X) ma wa cf ca ef ea xf xa := rfl
theorem gp_15 {cs : Nat → ClassId} {h : Nat} {r : Nat → Nat} {g : Nat → Nat → Option Nat} {tf : Nat → Int32} {ta : Nat → Nat → Int32} {pf : Nat → Int32} {na : Nat → Nat → Int32} {ma : Nat → Nat → Int32} {wa : Nat → Nat → Int32} {cf : Nat → Int32} {ca : Nat → Nat → Int32} {ef : Nat → Int32} {ea : Nat → Nat → Int32} {xf : Nat → Int32} {xa : Nat → Nat → Int32} : (wdP cs h r g tf ta pf na ma wa cf ca ef ea xf xa)[11]? = some (r 15, .inl (cs 0, 2100, .inl (na 15))) := rfl
theorem sp_15 {cs : Nat → ClassId} {h : Nat} {r : Nat → Nat} {g : Nat → Nat → Option Nat} {tf : Nat → Int32} {ta : Nat → Nat → Int32} {pf : Nat → Int32} {na : Nat → Nat → Int32} {ma : Nat → Nat → Int32} {wa : Nat → Nat → Int32} {cf : Nat → Int32} {ca : Nat → Nat → Int32} {ef : Nat → Int32} {ea : Nat → Nat → Int32} {xf : Nat → Int32} {xa : Nat → Nat → Int32} {X : Nat → Int32} : (wdP cs h r g tf ta pf na ma wa cf ca ef ea xf xa).set 11 (r 15, .inl (cs 0, 2100, .inl X)) = wdP cs h r g tf ta pf (va_up na 15 X) ma wa cf ca ef ea xf xa := rfl
theorem gp_16 {cs : Nat → ClassId} {h : Nat} {r : Nat → Nat} {g : Nat → Nat → Option Nat} {tf : Nat → Int32} {ta : Nat → Nat → Int32} {pf : Nat → Int32} {na : Nat → Nat → Int32} {ma : Nat → Nat → Int32} {wa : Nat → Nat → Int32} {cf : Nat → Int32} {ca : Nat → Nat → Int32} {ef : Nat → Int32} {ea : Nat → Nat → Int32} {xf : Nat → Int32} {xa : Nat → Nat → Int32} : (wdP cs h r g tf ta pf na ma wa cf ca ef ea xf xa)[12]? = some (r 16, .inl (cs 0, 2100, .inl (na 16))) := rfl
theorem sp_16 {cs : Nat → ClassId} {h : Nat} {r : Nat → Nat} {g : Nat → Nat → Option Nat} {tf : Nat → Int32} {ta : Nat → Nat → Int32} {pf : Nat → Int32} {na : Nat → Nat → Int32} {ma : Nat → Nat → Int32} {wa : Nat → Nat → Int32} {cf : Nat → Int32} {ca : Nat → Nat → Int32} {ef : Nat → Int32} {ea : Nat → Nat → Int32} {xf : Nat → Int32} {xa : Nat → Nat → Int32} {X : Nat → Int32} : (wdP cs h r g tf ta pf na ma wa cf ca ef ea xf xa).set 12 (r 16, .inl (cs 0, 2100, .inl X)) = wdP cs h r g tf ta pf (va_up na 16 X) ma wa cf ca ef ea xf xa := rfl
theorem gp_17 {cs : Nat → ClassId} {h : Nat} {r : Nat → Nat} {g : Nat → Nat → Option Nat} {tf : Nat → Int32} {ta : Nat → Nat → Int32} {pf : Nat → Int32} {na : Nat → Nat → Int32} {ma : Nat → Nat → Int32} {wa : Nat → Nat → Int32} {cf : Nat → Int32} {ca : Nat → Nat → Int32} {ef : Nat → Int32} {ea : Nat → Nat → Int32} {xf : Nat → Int32} {xa : Nat → Nat → Int32} : (wdP cs h r g tf ta pf na ma wa cf ca ef ea xf xa)[13]? = some (r 17, .inl (cs 0, 2100, .inl (na 17))) := rfl
theorem sp_17 {cs : Nat → ClassId} {h : Nat} {r : Nat → Nat} {g : Nat → Nat → Option Nat} {tf : Nat → Int32} {ta : Nat → Nat → Int32} {pf : Nat → Int32} {na : Nat → Nat → Int32} {ma : Nat → Nat → Int32} {wa : Nat → Nat → Int32} {cf : Nat → Int32} {ca : Nat → Nat → Int32} {ef : Nat → Int32} {ea : Nat → Nat → Int32} {xf : Nat → Int32} {xa : Nat → Nat → Int32} {X : Nat → Int32} : (wdP cs h r g tf ta pf na ma wa cf ca ef ea xf xa).set 13 (r 17, .inl (cs 0, 2100, .inl X)) = wdP cs h r g tf ta pf (va_up na 17 X) ma wa cf ca ef ea xf xa := rfl
theorem gp_18 {cs : Nat → ClassId} {h : Nat} {r : Nat → Nat} {g : Nat → Nat → Option Nat} {tf : Nat → Int32} {ta : Nat → Nat → Int32} {pf : Nat → Int32} {na : Nat → Nat → Int32} {ma : Nat → Nat → Int32} {wa : Nat → Nat → Int32} {cf : Nat → Int32} {ca : Nat → Nat → Int32} {ef : Nat → Int32} {ea : Nat → Nat → Int32} {xf : Nat → Int32} {xa : Nat → Nat → Int32} : (wdP cs h r g tf ta pf na ma wa cf ca ef ea xf xa)[14]? = some (r 18, .inl (cs 0, 2100, .inl (ma 18))) := rfl
theorem sp_18 {cs : Nat → ClassId} {h : Nat} {r : Nat → Nat} {g : Nat → Nat → Option Nat} {tf : Nat → Int32} {ta : Nat → Nat → Int32} {pf : Nat → Int32} {na : Nat → Nat → Int32} {ma : Nat → Nat → Int32} {wa : Nat → Nat → Int32} {cf : Nat → Int32} {ca : Nat → Nat → Int32} {ef : Nat → Int32} {ea : Nat → Nat → Int32} {xf : Nat → Int32} {xa : Nat → Nat → Int32} {X : Nat → Int32} : (wdP cs h r g tf ta pf na ma wa cf ca ef ea xf xa).set 14 (r 18, .inl (cs 0, 2100, .inl X)) = wdP cs h r g tf ta pf na (va_up ma 18 X) wa cf ca ef ea xf xa := rfl
theorem gp_19 {cs : Nat → ClassId} {h : Nat} {r : Nat → Nat} {g : Nat → Nat → Option Nat} {tf : Nat → Int32} {ta : Nat → Nat → Int32} {pf : Nat → Int32} {na : Nat → Nat → Int32} {ma : Nat → Nat → Int32} {wa : Nat → Nat → Int32} {cf : Nat → Int32} {ca : Nat → Nat → Int32} {ef : Nat → Int32} {ea : Nat → Nat → Int32} {xf : Nat → Int32} {xa : Nat → Nat → Int32} : (wdP cs h r g tf ta pf na ma wa cf ca ef ea xf xa)[15]? = some (r 19, .inl (cs 0, 2100, .inl (ma 19))) := rfl
theorem sp_19 {cs : Nat → ClassId} {h : Nat} {r : Nat → Nat} {g : Nat → Nat → Option Nat} {tf : Nat → Int32} {ta : Nat → Nat → Int32} {pf : Nat → Int32} {na : Nat → Nat → Int32} {ma : Nat → Nat → Int32} {wa : Nat → Nat → Int32} {cf : Nat → Int32} {ca : Nat → Nat → Int32} {ef : Nat → Int32} {ea : Nat → Nat → Int32} {xf : Nat → Int32} {xa : Nat → Nat → Int32} {X : Nat → Int32} : (wdP cs h r g tf ta pf na ma wa cf ca ef ea xf xa).set 15 (r 19, .inl (cs 0, 2100, .inl X)) = wdP cs h r g tf ta pf na (va_up ma 19 X) wa cf ca ef ea xf xa := rfl
theorem gp_20 {cs : Nat → ClassId} {h : Nat} {r : Nat → Nat} {g : Nat → Nat → Option Nat} {tf : Nat → Int32} {ta : Nat → Nat → Int32} {pf : Nat → Int32} {na : Nat → Nat → Int32} {ma : Nat → Nat → Int32} {wa : Nat → Nat → Int32} {cf : Nat → Int32} {ca : Nat → Nat → Int32} {ef : Nat → Int32} {ea : Nat → Nat → Int32} {xf : Nat → Int32} {xa : Nat → Nat → Int32} : (wdP cs h r g tf ta pf na ma wa cf ca ef ea xf xa)[16]? = some (r 20, .inl (cs 0, 2100, .inl (ma 20))) := rfl
theorem sp_20 {cs : Nat → ClassId} {h : Nat} {r : Nat → Nat} {g : Nat → Nat → Option Nat} {tf : Nat → Int32} {ta : Nat → Nat → Int32} {pf : Nat → Int32} {na : Nat → Nat → Int32} {ma : Nat → Nat → Int32} {wa : Nat → Nat → Int32} {cf : Nat → Int32} {ca : Nat → Nat → Int32} {ef : Nat → Int32} {ea : Nat → Nat → Int32} {xf : Nat → Int32} {xa : Nat → Nat → Int32} {X : Nat → Int32} : (wdP cs h r g tf ta pf na ma wa cf ca ef ea xf xa).set 16 (r 20, .inl (cs 0, 2100, .inl X)) = wdP cs h r g tf ta pf na (va_up ma 20 X) wa cf ca ef ea xf xa := rfl
theorem gp_21 {cs : Nat → ClassId} {h : Nat} {r : Nat → Nat} {g : Nat → Nat → Option Nat} {tf : Nat → Int32} {ta : Nat → Nat → Int32} {pf : Nat → Int32} {na : Nat → Nat → Int32} {ma : Nat → Nat → Int32} {wa : Nat → Nat → Int32} {cf : Nat → Int32} {ca : Nat → Nat → Int32} {ef : Nat → Int32} {ea : Nat → Nat → Int32} {xf : Nat → Int32} {xa : Nat → Nat → Int32} : (wdP cs h r g tf ta pf na ma wa cf ca ef ea xf xa)[17]? = some (r 21, .inl (cs 0, 2100, .inl (na 21))) := rfl
theorem sp_21 {cs : Nat → ClassId} {h : Nat} {r : Nat → Nat} {g : Nat → Nat → Option Nat} {tf : Nat → Int32} {ta : Nat → Nat → Int32} {pf : Nat → Int32} {na : Nat → Nat → Int32} {ma : Nat → Nat → Int32} {wa : Nat → Nat → Int32} {cf : Nat → Int32} {ca : Nat → Nat → Int32} {ef : Nat → Int32} {ea : Nat → Nat → Int32} {xf : Nat → Int32} {xa : Nat → Nat → Int32} {X : Nat → Int32} : (wdP cs h r g tf ta pf na ma wa cf ca ef ea xf xa).set 17 (r 21, .inl (cs 0, 2100, .inl X)) = wdP cs h r g tf ta pf (va_up na 21 X) ma wa cf ca ef ea xf xa := rfl
theorem gp_22 {cs : Nat → ClassId} {h : Nat} {r : Nat → Nat} {g : Nat → Nat → Option Nat} {tf : Nat → Int32} {ta : Nat → Nat → Int32} {pf : Nat → Int32} {na : Nat → Nat → Int32} {ma : Nat → Nat → Int32} {wa : Nat → Nat → Int32} {cf : Nat → Int32} {ca : Nat → Nat → Int32} {ef : Nat → Int32} {ea : Nat → Nat → Int32} {xf : Nat → Int32} {xa : Nat → Nat → Int32} : (wdP cs h r g tf ta pf na ma wa cf ca ef ea xf xa)[18]? = some (r 22, .inl (cs 0, 2100, .inl (ma 22))) := rfl
theorem sp_22 {cs : Nat → ClassId} {h : Nat} {r : Nat → Nat} {g : Nat → Nat → Option Nat} {tf : Nat → Int32} {ta : Nat → Nat → Int32} {pf : Nat → Int32} {na : Nat → Nat → Int32} {ma : Nat → Nat → Int32} {wa : Nat → Nat → Int32} {cf : Nat → Int32} {ca : Nat → Nat → Int32} {ef : Nat → Int32} {ea : Nat → Nat → Int32} {xf : Nat → Int32} {xa : Nat → Nat → Int32} {X : Nat → Int32} : (wdP cs h r g tf ta pf na ma wa cf ca ef ea xf xa).set 18 (r 22, .inl (cs 0, 2100, .inl X)) = wdP cs h r g tf ta pf na (va_up ma 22 X) wa cf ca ef ea xf xa := rfl
theorem gp_23 {cs : Nat → ClassId} {h : Nat} {r : Nat → Nat} {g : Nat → Nat → Option Nat} {tf : Nat → Int32} {ta : Nat → Nat → Int32} {pf : Nat → Int32} {na : Nat → Nat → Int32} {ma : Nat → Nat → Int32} {wa : Nat → Nat → Int32} {cf : Nat → Int32} {ca : Nat → Nat → Int32} {ef : Nat → Int32} {ea : Nat → Nat → Int32} {xf : Nat → Int32} {xa : Nat → Nat → Int32} : (wdP cs h r g tf ta pf na ma wa cf ca ef ea xf xa)[19]? = some (r 23, .inl (cs 0, 2100, .inl (na 23))) := rfl
theorem sp_23 {cs : Nat → ClassId} {h : Nat} {r : Nat → Nat} {g : Nat → Nat → Option Nat} {tf : Nat → Int32} {ta : Nat → Nat → Int32} {pf : Nat → Int32} {na : Nat → Nat → Int32} {ma : Nat → Nat → Int32} {wa : Nat → Nat → Int32} {cf : Nat → Int32} {ca : Nat → Nat → Int32} {ef : Nat → Int32} {ea : Nat → Nat → Int32} {xf : Nat → Int32} {xa : Nat → Nat → Int32} {X : Nat → Int32} : (wdP cs h r g tf ta pf na ma wa cf ca ef ea xf xa).set 19 (r 23, .inl (cs 0, 2100, .inl X)) = wdP cs h r g tf ta pf (va_up na 23 X) ma wa cf ca ef ea xf xa := rfl
theorem gp_27 {cs : Nat → ClassId} {h : Nat} {r : Nat → Nat} {g : Nat → Nat → Option Nat} {tf : Nat → Int32} {ta : Nat → Nat → Int32} {pf : Nat → Int32} {na : Nat → Nat → Int32} {ma : Nat → Nat → Int32} {wa : Nat → Nat → Int32} {cf : Nat → Int32} {ca : Nat → Nat → Int32} {ef : Nat → Int32} {ea : Nat → Nat → Int32} {xf : Nat → Int32} {xa : Nat → Nat → Int32} : (wdP cs h r g tf ta pf na ma wa cf ca ef ea xf xa)[20]? = some (r 27, .inl (cs 0, 700, .inl (wa 27))) := rfl
theorem sp_27 {cs : Nat → ClassId} {h : Nat} {r : Nat → Nat} {g : Nat → Nat → Option Nat} {tf : Nat → Int32} {ta : Nat → Nat → Int32} {pf : Nat → Int32} {na : Nat → Nat → Int32} {ma : Nat → Nat → Int32} {wa : Nat → Nat → Int32} {cf : Nat → Int32} {ca : Nat → Nat → Int32} {ef : Nat → Int32} {ea : Nat → Nat → Int32} {xf : Nat → Int32} {xa : Nat → Nat → Int32} {X : Nat → Int32} : (wdP cs h r g tf ta pf na ma wa cf ca ef ea xf xa).set 20 (r 27, .inl (cs 0, 700, .inl X)) = wdP cs h r g tf ta pf na ma (va_up wa 27 X) cf ca ef ea xf xa := rfl
theorem gp_28 {cs : Nat → ClassId} {h : Nat} {r : Nat → Nat} {g : Nat → Nat → Option Nat} {tf : Nat → Int32} {ta : Nat → Nat → Int32} {pf : Nat → Int32} {na : Nat → Nat → Int32} {ma : Nat → Nat → Int32} {wa : Nat → Nat → Int32} {cf : Nat → Int32} {ca : Nat → Nat → Int32} {ef : Nat → Int32} {ea : Nat → Nat → Int32} {xf : Nat → Int32} {xa : Nat → Nat → Int32} : (wdP cs h r g tf ta pf na ma wa cf ca ef ea xf xa)[21]? = some (r 28, .inl (cs 0, 700, .inl (wa 28))) := rfl
theorem sp_28 {cs : Nat → ClassId} {h : Nat} {r : Nat → Nat} {g : Nat → Nat → Option Nat} {tf : Nat → Int32} {ta : Nat → Nat → Int32} {pf : Nat → Int32} {na : Nat → Nat → Int32} {ma : Nat → Nat → Int32} {wa : Nat → Nat → Int32} {cf : Nat → Int32} {ca : Nat → Nat → Int32} {ef : Nat → Int32} {ea : Nat → Nat → Int32} {xf : Nat → Int32} {xa : Nat → Nat → Int32} {X : Nat → Int32} : (wdP cs h r g tf ta pf na ma wa cf ca ef ea xf xa).set 21 (r 28, .inl (cs 0, 700, .inl X)) = wdP cs h r g tf ta pf na ma (va_up wa 28 X) cf ca ef ea xf xa := rfl
theorem gp_29 {cs : Nat → ClassId} {h : Nat} {r : Nat → Nat} {g : Nat → Nat → Option Nat} {tf : Nat → Int32} {ta : Nat → Nat → Int32} {pf : Nat → Int32} {na : Nat → Nat → Int32} {ma : Nat → Nat → Int32} {wa : Nat → Nat → Int32} {cf : Nat → Int32} {ca : Nat → Nat → Int32} {ef : Nat → Int32} {ea : Nat → Nat → Int32} {xf : Nat → Int32} {xa : Nat → Nat → Int32} : (wdP cs h r g tf ta pf na ma wa cf ca ef ea xf xa)[22]? = some (r 29, .inl (cs 0, 700, .inl (wa 29))) := rfl
theorem sp_29 {cs : Nat → ClassId} {h : Nat} {r : Nat → Nat} {g : Nat → Nat → Option Nat} {tf : Nat → Int32} {ta : Nat → Nat → Int32} {pf : Nat → Int32} {na : Nat → Nat → Int32} {ma : Nat → Nat → Int32} {wa : Nat → Nat → Int32} {cf : Nat → Int32} {ca : Nat → Nat → Int32} {ef : Nat → Int32} {ea : Nat → Nat → Int32} {xf : Nat → Int32} {xa : Nat → Nat → Int32} {X : Nat → Int32} : (wdP cs h r g tf ta pf na ma wa cf ca ef ea xf xa).set 22 (r 29, .inl (cs 0, 700, .inl X)) = wdP cs h r g tf ta pf na ma (va_up wa 29 X) cf ca ef ea xf xa := rfl
theorem gp_34 {cs : Nat → ClassId} {h : Nat} {r : Nat → Nat} {g : Nat → Nat → Option Nat} {tf : Nat → Int32} {ta : Nat → Nat → Int32} {pf : Nat → Int32} {na : Nat → Nat → Int32} {ma : Nat → Nat → Int32} {wa : Nat → Nat → Int32} {cf : Nat → Int32} {ca : Nat → Nat → Int32} {ef : Nat → Int32} {ea : Nat → Nat → Int32} {xf : Nat → Int32} {xa : Nat → Nat → Int32} : (wdP cs h r g tf ta pf na ma wa cf ca ef ea xf xa)[23]? = some (r 34, .inl (cs 0, 1100, .inl (ca 34))) := rfl
theorem sp_34 {cs : Nat → ClassId} {h : Nat} {r : Nat → Nat} {g : Nat → Nat → Option Nat} {tf : Nat → Int32} {ta : Nat → Nat → Int32} {pf : Nat → Int32} {na : Nat → Nat → Int32} {ma : Nat → Nat → Int32} {wa : Nat → Nat → Int32} {cf : Nat → Int32} {ca : Nat → Nat → Int32} {ef : Nat → Int32} {ea : Nat → Nat → Int32} {xf : Nat → Int32} {xa : Nat → Nat → Int32} {X : Nat → Int32} : (wdP cs h r g tf ta pf na ma wa cf ca ef ea xf xa).set 23 (r 34, .inl (cs 0, 1100, .inl X)) = wdP cs h r g tf ta pf na ma wa cf (va_up ca 34 X) ef ea xf xa := rfl
theorem gp_35 {cs : Nat → ClassId} {h : Nat} {r : Nat → Nat} {g : Nat → Nat → Option Nat} {tf : Nat → Int32} {ta : Nat → Nat → Int32} {pf : Nat → Int32} {na : Nat → Nat → Int32} {ma : Nat → Nat → Int32} {wa : Nat → Nat → Int32} {cf : Nat → Int32} {ca : Nat → Nat → Int32} {ef : Nat → Int32} {ea : Nat → Nat → Int32} {xf : Nat → Int32} {xa : Nat → Nat → Int32} : (wdP cs h r g tf ta pf na ma wa cf ca ef ea xf xa)[24]? = some (r 35, .inl (cs 0, 1100, .inl (ca 35))) := rfl
theorem sp_35 {cs : Nat → ClassId} {h : Nat} {r : Nat → Nat} {g : Nat → Nat → Option Nat} {tf : Nat → Int32} {ta : Nat → Nat → Int32} {pf : Nat → Int32} {na : Nat → Nat → Int32} {ma : Nat → Nat → Int32} {wa : Nat → Nat → Int32} {cf : Nat → Int32} {ca : Nat → Nat → Int32} {ef : Nat → Int32} {ea : Nat → Nat → Int32} {xf : Nat → Int32} {xa : Nat → Nat → Int32} {X : Nat → Int32} : (wdP cs h r g tf ta pf na ma wa cf ca ef ea xf xa).set 24 (r 35, .inl (cs 0, 1100, .inl X)) = wdP cs h r g tf ta pf na ma wa cf (va_up ca 35 X) ef ea xf xa := rfl
theorem gp_36 {cs : Nat → ClassId} {h : Nat} {r : Nat → Nat} {g : Nat → Nat → Option Nat} {tf : Nat → Int32} {ta : Nat → Nat → Int32} {pf : Nat → Int32} {na : Nat → Nat → Int32} {ma : Nat → Nat → Int32} {wa : Nat → Nat → Int32} {cf : Nat → Int32} {ca : Nat → Nat → Int32} {ef : Nat → Int32} {ea : Nat → Nat → Int32} {xf : Nat → Int32} {xa : Nat → Nat → Int32} : (wdP cs h r g tf ta pf na ma wa cf ca ef ea xf xa)[25]? = some (r 36, .inl (cs 0, 1100, .inl (ca 36))) := rfl
theorem sp_36 {cs : Nat → ClassId} {h : Nat} {r : Nat → Nat} {g : Nat → Nat → Option Nat} {tf : Nat → Int32} {ta : Nat → Nat → Int32} {pf : Nat → Int32} {na : Nat → Nat → Int32} {ma : Nat → Nat → Int32} {wa : Nat → Nat → Int32} {cf : Nat → Int32} {ca : Nat → Nat → Int32} {ef : Nat → Int32} {ea : Nat → Nat → Int32} {xf : Nat → Int32} {xa : Nat → Nat → Int32} {X : Nat → Int32} : (wdP cs h r g tf ta pf na ma wa cf ca ef ea xf xa).set 25 (r 36, .inl (cs 0, 1100, .inl X)) = wdP cs h r g tf ta pf na ma wa cf (va_up ca 36 X) ef ea xf xa := rfl
theorem gp_39 {cs : Nat → ClassId} {h : Nat} {r : Nat → Nat} {g : Nat → Nat → Option Nat} {tf : Nat → Int32} {ta : Nat → Nat → Int32} {pf : Nat → Int32} {na : Nat → Nat → Int32} {ma : Nat → Nat → Int32} {wa : Nat → Nat → Int32} {cf : Nat → Int32} {ca : Nat → Nat → Int32} {ef : Nat → Int32} {ea : Nat → Nat → Int32} {xf : Nat → Int32} {xa : Nat → Nat → Int32} : (wdP cs h r g tf ta pf na ma wa cf ca ef ea xf xa)[26]? = some (r 39, .inl (cs 0, 260, .inl (ca 39))) := rfl
theorem sp_39 {cs : Nat → ClassId} {h : Nat} {r : Nat → Nat} {g : Nat → Nat → Option Nat} {tf : Nat → Int32} {ta : Nat → Nat → Int32} {pf : Nat → Int32} {na : Nat → Nat → Int32} {ma : Nat → Nat → Int32} {wa : Nat → Nat → Int32} {cf : Nat → Int32} {ca : Nat → Nat → Int32} {ef : Nat → Int32} {ea : Nat → Nat → Int32} {xf : Nat → Int32} {xa : Nat → Nat → Int32} {X : Nat → Int32} : (wdP cs h r g tf ta pf na ma wa cf ca ef ea xf xa).set 26 (r 39, .inl (cs 0, 260, .inl X)) = wdP cs h r g tf ta pf na ma wa cf (va_up ca 39 X) ef ea xf xa := rfl
theorem gp_40 {cs : Nat → ClassId} {h : Nat} {r : Nat → Nat} {g : Nat → Nat → Option Nat} {tf : Nat → Int32} {ta : Nat → Nat → Int32} {pf : Nat → Int32} {na : Nat → Nat → Int32} {ma : Nat → Nat → Int32} {wa : Nat → Nat → Int32} {cf : Nat → Int32} {ca : Nat → Nat → Int32} {ef : Nat → Int32} {ea : Nat → Nat → Int32} {xf : Nat → Int32} {xa : Nat → Nat → Int32} : (wdP cs h r g tf ta pf na ma wa cf ca ef ea xf xa)[27]? = some (r 40, .inl (cs 0, 260, .inl (ca 40))) := rfl
theorem sp_40 {cs : Nat → ClassId} {h : Nat} {r : Nat → Nat} {g : Nat → Nat → Option Nat} {tf : Nat → Int32} {ta : Nat → Nat → Int32} {pf : Nat → Int32} {na : Nat → Nat → Int32} {ma : Nat → Nat → Int32} {wa : Nat → Nat → Int32} {cf : Nat → Int32} {ca : Nat → Nat → Int32} {ef : Nat → Int32} {ea : Nat → Nat → Int32} {xf : Nat → Int32} {xa : Nat → Nat → Int32} {X : Nat → Int32} : (wdP cs h r g tf ta pf na ma wa cf ca ef ea xf xa).set 27 (r 40, .inl (cs 0, 260, .inl X)) = wdP cs h r g tf ta pf na ma wa cf (va_up ca 40 X) ef ea xf xa := rfl
theorem gp_49 {cs : Nat → ClassId} {h : Nat} {r : Nat → Nat} {g : Nat → Nat → Option Nat} {tf : Nat → Int32} {ta : Nat → Nat → Int32} {pf : Nat → Int32} {na : Nat → Nat → Int32} {ma : Nat → Nat → Int32} {wa : Nat → Nat → Int32} {cf : Nat → Int32} {ca : Nat → Nat → Int32} {ef : Nat → Int32} {ea : Nat → Nat → Int32} {xf : Nat → Int32} {xa : Nat → Nat → Int32} : (wdP cs h r g tf ta pf na ma wa cf ca ef ea xf xa)[28]? = some (r 49, .inl (cs 1, 1100, .inl (ca 49))) := rfl
theorem sp_49 {cs : Nat → ClassId} {h : Nat} {r : Nat → Nat} {g : Nat → Nat → Option Nat} {tf : Nat → Int32} {ta : Nat → Nat → Int32} {pf : Nat → Int32} {na : Nat → Nat → Int32} {ma : Nat → Nat → Int32} {wa : Nat → Nat → Int32} {cf : Nat → Int32} {ca : Nat → Nat → Int32} {ef : Nat → Int32} {ea : Nat → Nat → Int32} {xf : Nat → Int32} {xa : Nat → Nat → Int32} {X : Nat → Int32} : (wdP cs h r g tf ta pf na ma wa cf ca ef ea xf xa).set 28 (r 49, .inl (cs 1, 1100, .inl X)) = wdP cs h r g tf ta pf na ma wa cf (va_up ca 49 X) ef ea xf xa := rfl
theorem gp_50 {cs : Nat → ClassId} {h : Nat} {r : Nat → Nat} {g : Nat → Nat → Option Nat} {tf : Nat → Int32} {ta : Nat → Nat → Int32} {pf : Nat → Int32} {na : Nat → Nat → Int32} {ma : Nat → Nat → Int32} {wa : Nat → Nat → Int32} {cf : Nat → Int32} {ca : Nat → Nat → Int32} {ef : Nat → Int32} {ea : Nat → Nat → Int32} {xf : Nat → Int32} {xa : Nat → Nat → Int32} : (wdP cs h r g tf ta pf na ma wa cf ca ef ea xf xa)[29]? = some (r 50, .inl (cs 3, 1100, .inl (ca 50))) := rfl
theorem sp_50 {cs : Nat → ClassId} {h : Nat} {r : Nat → Nat} {g : Nat → Nat → Option Nat} {tf : Nat → Int32} {ta : Nat → Nat → Int32} {pf : Nat → Int32} {na : Nat → Nat → Int32} {ma : Nat → Nat → Int32} {wa : Nat → Nat → Int32} {cf : Nat → Int32} {ca : Nat → Nat → Int32} {ef : Nat → Int32} {ea : Nat → Nat → Int32} {xf : Nat → Int32} {xa : Nat → Nat → Int32} {X : Nat → Int32} : (wdP cs h r g tf ta pf na ma wa cf ca ef ea xf xa).set 29 (r 50, .inl (cs 3, 1100, .inl X)) = wdP cs h r g tf ta pf na ma wa cf (va_up ca 50 X) ef ea xf xa := rfl
theorem gp_51 {cs : Nat → ClassId} {h : Nat} {r : Nat → Nat} {g : Nat → Nat → Option Nat} {tf : Nat → Int32} {ta : Nat → Nat → Int32} {pf : Nat → Int32} {na : Nat → Nat → Int32} {ma : Nat → Nat → Int32} {wa : Nat → Nat → Int32} {cf : Nat → Int32} {ca : Nat → Nat → Int32} {ef : Nat → Int32} {ea : Nat → Nat → Int32} {xf : Nat → Int32} {xa : Nat → Nat → Int32} : (wdP cs h r g tf ta pf na ma wa cf ca ef ea xf xa)[30]? = some (r 51, .inl (cs 0, 1100, .inl (ca 51))) := rfl
theorem sp_51 {cs : Nat → ClassId} {h : Nat} {r : Nat → Nat} {g : Nat → Nat → Option Nat} {tf : Nat → Int32} {ta : Nat → Nat → Int32} {pf : Nat → Int32} {na : Nat → Nat → Int32} {ma : Nat → Nat → Int32} {wa : Nat → Nat → Int32} {cf : Nat → Int32} {ca : Nat → Nat → Int32} {ef : Nat → Int32} {ea : Nat → Nat → Int32} {xf : Nat → Int32} {xa : Nat → Nat → Int32} {X : Nat → Int32} : (wdP cs h r g tf ta pf na ma wa cf ca ef ea xf xa).set 30 (r 51, .inl (cs 0, 1100, .inl X)) = wdP cs h r g tf ta pf na ma wa cf (va_up ca 51 X) ef ea xf xa := rfl
theorem gp_52 {cs : Nat → ClassId} {h : Nat} {r : Nat → Nat} {g : Nat → Nat → Option Nat} {tf : Nat → Int32} {ta : Nat → Nat → Int32} {pf : Nat → Int32} {na : Nat → Nat → Int32} {ma : Nat → Nat → Int32} {wa : Nat → Nat → Int32} {cf : Nat → Int32} {ca : Nat → Nat → Int32} {ef : Nat → Int32} {ea : Nat → Nat → Int32} {xf : Nat → Int32} {xa : Nat → Nat → Int32} : (wdP cs h r g tf ta pf na ma wa cf ca ef ea xf xa)[31]? = some (r 52, .inl (cs 0, 1100, .inl (ca 52))) := rfl
theorem sp_52 {cs : Nat → ClassId} {h : Nat} {r : Nat → Nat} {g : Nat → Nat → Option Nat} {tf : Nat → Int32} {ta : Nat → Nat → Int32} {pf : Nat → Int32} {na : Nat → Nat → Int32} {ma : Nat → Nat → Int32} {wa : Nat → Nat → Int32} {cf : Nat → Int32} {ca : Nat → Nat → Int32} {ef : Nat → Int32} {ea : Nat → Nat → Int32} {xf : Nat → Int32} {xa : Nat → Nat → Int32} {X : Nat → Int32} : (wdP cs h r g tf ta pf na ma wa cf ca ef ea xf xa).set 31 (r 52, .inl (cs 0, 1100, .inl X)) = wdP cs h r g tf ta pf na ma wa cf (va_up ca 52 X) ef ea xf xa := rfl
theorem gp_53 {cs : Nat → ClassId} {h : Nat} {r : Nat → Nat} {g : Nat → Nat → Option Nat} {tf : Nat → Int32} {ta : Nat → Nat → Int32} {pf : Nat → Int32} {na : Nat → Nat → Int32} {ma : Nat → Nat → Int32} {wa : Nat → Nat → Int32} {cf : Nat → Int32} {ca : Nat → Nat → Int32} {ef : Nat → Int32} {ea : Nat → Nat → Int32} {xf : Nat → Int32} {xa : Nat → Nat → Int32} : (wdP cs h r g tf ta pf na ma wa cf ca ef ea xf xa)[32]? = some (r 53, .inl (cs 0, 1100, .inl (ca 53))) := rfl
theorem sp_53 {cs : Nat → ClassId} {h : Nat} {r : Nat → Nat} {g : Nat → Nat → Option Nat} {tf : Nat → Int32} {ta : Nat → Nat → Int32} {pf : Nat → Int32} {na : Nat → Nat → Int32} {ma : Nat → Nat → Int32} {wa : Nat → Nat → Int32} {cf : Nat → Int32} {ca : Nat → Nat → Int32} {ef : Nat → Int32} {ea : Nat → Nat → Int32} {xf : Nat → Int32} {xa : Nat → Nat → Int32} {X : Nat → Int32} : (wdP cs h r g tf ta pf na ma wa cf ca ef ea xf xa).set 32 (r 53, .inl (cs 0, 1100, .inl X)) = wdP cs h r g tf ta pf na ma wa cf (va_up ca 53 X) ef ea xf xa := rfl
theorem gp_56 {cs : Nat → ClassId} {h : Nat} {r : Nat → Nat} {g : Nat → Nat → Option Nat} {tf : Nat → Int32} {ta : Nat → Nat → Int32} {pf : Nat → Int32} {na : Nat → Nat → Int32} {ma : Nat → Nat → Int32} {wa : Nat → Nat → Int32} {cf : Nat → Int32} {ca : Nat → Nat → Int32} {ef : Nat → Int32} {ea : Nat → Nat → Int32} {xf : Nat → Int32} {xa : Nat → Nat → Int32} : (wdP cs h r g tf ta pf na ma wa cf ca ef ea xf xa)[33]? = some (r 56, .inl (cs 0, 260, .inl (ca 56))) := rfl
theorem sp_56 {cs : Nat → ClassId} {h : Nat} {r : Nat → Nat} {g : Nat → Nat → Option Nat} {tf : Nat → Int32} {ta : Nat → Nat → Int32} {pf : Nat → Int32} {na : Nat → Nat → Int32} {ma : Nat → Nat → Int32} {wa : Nat → Nat → Int32} {cf : Nat → Int32} {ca : Nat → Nat → Int32} {ef : Nat → Int32} {ea : Nat → Nat → Int32} {xf : Nat → Int32} {xa : Nat → Nat → Int32} {X : Nat → Int32} : (wdP cs h r g tf ta pf na ma wa cf ca ef ea xf xa).set 33 (r 56, .inl (cs 0, 260, .inl X)) = wdP cs h r g tf ta pf na ma wa cf (va_up ca 56 X) ef ea xf xa := rfl
theorem gp_61 {cs : Nat → ClassId} {h : Nat} {r : Nat → Nat} {g : Nat → Nat → Option Nat} {tf : Nat → Int32} {ta : Nat → Nat → Int32} {pf : Nat → Int32} {na : Nat → Nat → Int32} {ma : Nat → Nat → Int32} {wa : Nat → Nat → Int32} {cf : Nat → Int32} {ca : Nat → Nat → Int32} {ef : Nat → Int32} {ea : Nat → Nat → Int32} {xf : Nat → Int32} {xa : Nat → Nat → Int32} : (wdP cs h r g tf ta pf na ma wa cf ca ef ea xf xa)[34]? = some (r 61, .inl (cs 0, 21000, .inl (ea 61))) := rfl
theorem sp_61 {cs : Nat → ClassId} {h : Nat} {r : Nat → Nat} {g : Nat → Nat → Option Nat} {tf : Nat → Int32} {ta : Nat → Nat → Int32} {pf : Nat → Int32} {na : Nat → Nat → Int32} {ma : Nat → Nat → Int32} {wa : Nat → Nat → Int32} {cf : Nat → Int32} {ca : Nat → Nat → Int32} {ef : Nat → Int32} {ea : Nat → Nat → Int32} {xf : Nat → Int32} {xa : Nat → Nat → Int32} {X : Nat → Int32} : (wdP cs h r g tf ta pf na ma wa cf ca ef ea xf xa).set 34 (r 61, .inl (cs 0, 21000, .inl X)) = wdP cs h r g tf ta pf na ma wa cf ca ef (va_up ea 61 X) xf xa := rfl
theorem gp_62 {cs : Nat → ClassId} {h : Nat} {r : Nat → Nat} {g : Nat → Nat → Option Nat} {tf : Nat → Int32} {ta : Nat → Nat → Int32} {pf : Nat → Int32} {na : Nat → Nat → Int32} {ma : Nat → Nat → Int32} {wa : Nat → Nat → Int32} {cf : Nat → Int32} {ca : Nat → Nat → Int32} {ef : Nat → Int32} {ea : Nat → Nat → Int32} {xf : Nat → Int32} {xa : Nat → Nat → Int32} : (wdP cs h r g tf ta pf na ma wa cf ca ef ea xf xa)[35]? = some (r 62, .inl (cs 0, 260, .inl (ea 62))) := rfl
theorem sp_62 {cs : Nat → ClassId} {h : Nat} {r : Nat → Nat} {g : Nat → Nat → Option Nat} {tf : Nat → Int32} {ta : Nat → Nat → Int32} {pf : Nat → Int32} {na : Nat → Nat → Int32} {ma : Nat → Nat → Int32} {wa : Nat → Nat → Int32} {cf : Nat → Int32} {ca : Nat → Nat → Int32} {ef : Nat → Int32} {ea : Nat → Nat → Int32} {xf : Nat → Int32} {xa : Nat → Nat → Int32} {X : Nat → Int32} : (wdP cs h r g tf ta pf na ma wa cf ca ef ea xf xa).set 35 (r 62, .inl (cs 0, 260, .inl X)) = wdP cs h r g tf ta pf na ma wa cf ca ef (va_up ea 62 X) xf xa := rfl
theorem gp_63 {cs : Nat → ClassId} {h : Nat} {r : Nat → Nat} {g : Nat → Nat → Option Nat} {tf : Nat → Int32} {ta : Nat → Nat → Int32} {pf : Nat → Int32} {na : Nat → Nat → Int32} {ma : Nat → Nat → Int32} {wa : Nat → Nat → Int32} {cf : Nat → Int32} {ca : Nat → Nat → Int32} {ef : Nat → Int32} {ea : Nat → Nat → Int32} {xf : Nat → Int32} {xa : Nat → Nat → Int32} : (wdP cs h r g tf ta pf na ma wa cf ca ef ea xf xa)[36]? = some (r 63, .inl (cs 0, 260, .inl (ea 63))) := rfl
theorem sp_63 {cs : Nat → ClassId} {h : Nat} {r : Nat → Nat} {g : Nat → Nat → Option Nat} {tf : Nat → Int32} {ta : Nat → Nat → Int32} {pf : Nat → Int32} {na : Nat → Nat → Int32} {ma : Nat → Nat → Int32} {wa : Nat → Nat → Int32} {cf : Nat → Int32} {ca : Nat → Nat → Int32} {ef : Nat → Int32} {ea : Nat → Nat → Int32} {xf : Nat → Int32} {xa : Nat → Nat → Int32} {X : Nat → Int32} : (wdP cs h r g tf ta pf na ma wa cf ca ef ea xf xa).set 36 (r 63, .inl (cs 0, 260, .inl X)) = wdP cs h r g tf ta pf na ma wa cf ca ef (va_up ea 63 X) xf xa := rfl
theorem gp_67 {cs : Nat → ClassId} {h : Nat} {r : Nat → Nat} {g : Nat → Nat → Option Nat} {tf : Nat → Int32} {ta : Nat → Nat → Int32} {pf : Nat → Int32} {na : Nat → Nat → Int32} {ma : Nat → Nat → Int32} {wa : Nat → Nat → Int32} {cf : Nat → Int32} {ca : Nat → Nat → Int32} {ef : Nat → Int32} {ea : Nat → Nat → Int32} {xf : Nat → Int32} {xa : Nat → Nat → Int32} : (wdP cs h r g tf ta pf na ma wa cf ca ef ea xf xa)[37]? = some (r 67, .inl (cs 0, 512, .inl (xa 67))) := rfl
theorem sp_67 {cs : Nat → ClassId} {h : Nat} {r : Nat → Nat} {g : Nat → Nat → Option Nat} {tf : Nat → Int32} {ta : Nat → Nat → Int32} {pf : Nat → Int32} {na : Nat → Nat → Int32} {ma : Nat → Nat → Int32} {wa : Nat → Nat → Int32} {cf : Nat → Int32} {ca : Nat → Nat → Int32} {ef : Nat → Int32} {ea : Nat → Nat → Int32} {xf : Nat → Int32} {xa : Nat → Nat → Int32} {X : Nat → Int32} : (wdP cs h r g tf ta pf na ma wa cf ca ef ea xf xa).set 37 (r 67, .inl (cs 0, 512, .inl X)) = wdP cs h r g tf ta pf na ma wa cf ca ef ea xf (va_up xa 67 X) := rfl
abbrev b_StringLatin1_equals : ByteArray := prog_33_method_13_code
def y_StringLatin1_equals : MethodName := ⟨"java/lang/StringLatin1", "equals", "([B[B)Z"⟩
theorem d_StringLatin1_equals_0 : decode b_StringLatin1_equals 0 = .ok (.aload_n 0, 1) := by decide +kernel
theorem d_StringLatin1_equals_1 : decode b_StringLatin1_equals 1 = .ok (.arraylength, 1) := by decide +kernel
theorem d_StringLatin1_equals_2 : decode b_StringLatin1_equals 2 = .ok (.aload_n 1, 1) := by decide +kernel
theorem d_StringLatin1_equals_3 : decode b_StringLatin1_equals 3 = .ok (.arraylength, 1) := by decide +kernel
theorem d_StringLatin1_equals_4 : decode b_StringLatin1_equals 4 = .ok (.if_icmp .ne 30, 3) := by decide +kernel
theorem d_StringLatin1_equals_7 : decode b_StringLatin1_equals 7 = .ok (.iconst 0, 1) := by decide +kernel
theorem d_StringLatin1_equals_8 : decode b_StringLatin1_equals 8 = .ok (.istore_n 2, 1) := by decide +kernel
theorem d_StringLatin1_equals_9 : decode b_StringLatin1_equals 9 = .ok (.iload_n 2, 1) := by decide +kernel
theorem d_StringLatin1_equals_10 : decode b_StringLatin1_equals 10 = .ok (.aload_n 0, 1) := by decide +kernel
theorem d_StringLatin1_equals_11 : decode b_StringLatin1_equals 11 = .ok (.arraylength, 1) := by decide +kernel
theorem d_StringLatin1_equals_12 : decode b_StringLatin1_equals 12 = .ok (.if_icmp .ge 20, 3) := by decide +kernel
theorem d_StringLatin1_equals_15 : decode b_StringLatin1_equals 15 = .ok (.aload_n 0, 1) := by decide +kernel
theorem d_StringLatin1_equals_16 : decode b_StringLatin1_equals 16 = .ok (.iload_n 2, 1) := by decide +kernel
theorem d_StringLatin1_equals_17 : decode b_StringLatin1_equals 17 = .ok (.baload, 1) := by decide +kernel
theorem d_StringLatin1_equals_18 : decode b_StringLatin1_equals 18 = .ok (.aload_n 1, 1) := by decide +kernel
theorem d_StringLatin1_equals_19 : decode b_StringLatin1_equals 19 = .ok (.iload_n 2, 1) := by decide +kernel
theorem d_StringLatin1_equals_20 : decode b_StringLatin1_equals 20 = .ok (.baload, 1) := by decide +kernel
theorem d_StringLatin1_equals_21 : decode b_StringLatin1_equals 21 = .ok (.if_icmp .eq 5, 3) := by decide +kernel
theorem d_StringLatin1_equals_24 : decode b_StringLatin1_equals 24 = .ok (.iconst 0, 1) := by decide +kernel
theorem d_StringLatin1_equals_25 : decode b_StringLatin1_equals 25 = .ok (.ireturn, 1) := by decide +kernel
theorem d_StringLatin1_equals_26 : decode b_StringLatin1_equals 26 = .ok (.iinc 2 1, 3) := by decide +kernel
theorem d_StringLatin1_equals_29 : decode b_StringLatin1_equals 29 = .ok (.goto (-20), 3) := by decide +kernel
theorem d_StringLatin1_equals_32 : decode b_StringLatin1_equals 32 = .ok (.iconst 1, 1) := by decide +kernel
theorem d_StringLatin1_equals_33 : decode b_StringLatin1_equals 33 = .ok (.ireturn, 1) := by decide +kernel
theorem d_StringLatin1_equals_34 : decode b_StringLatin1_equals 34 = .ok (.iconst 0, 1) := by decide +kernel
theorem d_StringLatin1_equals_35 : decode b_StringLatin1_equals 35 = .ok (.ireturn, 1) := by decide +kernel
theorem q_StringLatin1_equals : px_y y_StringLatin1_equals 2 := by unfold px_y; decide +kernel
set_option maxHeartbeats 4000000 in
set_option maxRecDepth 100000 in
theorem c_sl_equals (l : Launch) (D : va_G) (cs : Nat → ClassId) (st : Nat) (sn : Nat) (sb : Nat → Int32) (st2 : Nat) (sn2 : Nat) (sb2 : Nat → Int32)  (g0 : sn ≤ 1000000) (g1 : sn2 ≤ 1000000) : MetI l y_StringLatin1_equals b_StringLatin1_equals 3 (.boolean) D cs 0 0 (0) (0) [.ref st, .ref st2] [] (oX (fun A U H => (oT A st sn sb U H) ∧ (oT A st2 sn2 sb2 U H)) []) (fun v ps => (ps = []) ∧ (v = 0 ∨ v = 1) ∧ (R_sl_equals sn sb sn2 sb2 v)) := by
  refine px_enter (by decide) (Nat.le_of_ble_eq_true rfl) ?_
  intro p e s m below meth c A ls hAe S hr hlk hnm hA hT hX hw hl
  have hl : lv_has ls 3 [(0, .ref st), (1, .ref st2)] := hl
  have cst0 : (0 : Int32).toInt = 0 := rfl
  have cst1 : (1 : Int32).toInt = 1 := rfl
  have hX : (fun A U H => (oT A st sn sb U H) ∧ (oT A st2 sn2 sb2 U H)) A s s.heap := by rw [hAe]; exact hX
  obtain ⟨hTT, hT2⟩ := hX
  have hsn : (nI sn).toInt = (sn : Int) := nI_toInt (by omega)
  have hsn2 : (nI sn2).toInt = (sn2 : Int) := nI_toInt (by omega)
  have J9 : ∀ (n_9 : Nat)  (x9_2 : Int32) (H : Heap) (locs : List Loc) (ls : Array Slot), (0 ≤ x9_2.toInt) → (x9_2.toInt ≤ (sn : Int)) → ((sn : Int) = (sn2 : Int)) → (K_sl_equals_9 sn sb sn2 sb2 x9_2) → (sn : Int)+1-x9_2.toInt < (n_9 : Int) → pw D A s.heap H locs [] → lv_has ls 3 [(0, .ref st), (1, .ref st2), (2, .int x9_2)] → W p l e { frames := 0, cells := 0, slots := 0, locals := 0 } s m [.ref st, .ref st2].toArray below meth c H locs 0 0 (MQ below (va_Qi (fun v ps => (ps = []) ∧ (v = 0 ∨ v = 1) ∧ (R_sl_equals sn sb sn2 sb2 v)) (pc_B D (va_A ([] : List va_W).flatten s.heap.size)) (va_A ([] : List va_W).flatten s.heap.size)) [.ref st, .ref st2].toArray s 0 0 A) (F0 m 9 ls []) := by
    intro  n_9
    induction n_9 with
    | zero =>
      intro x9_2 H locs ls k9_0 k9_1 k9_2 k9_3 hm hw hl
      have lx9_2 := Int32.le_toInt x9_2
      have ux9_2 := Int32.toInt_lt x9_2
      exact absurd hm (by omega)
    | succ n_9 ih9 =>
      intro x9_2 H locs ls k9_0 k9_1 k9_2 k9_3 hm hw hl
      have lx9_2 := Int32.le_toInt x9_2
      have ux9_2 := Int32.toInt_lt x9_2
      refine lv_iload_n S.x S.b d_StringLatin1_equals_9 rfl (lv_at hl 2 rfl) ?_
      refine lv_aload_n S.x S.b d_StringLatin1_equals_10 rfl (lv_at hl 0 rfl) ?_
      refine va_tlen S.x S.b hTT hw.2.2 (v := (nI sn)) rfl d_StringLatin1_equals_11 ?_
      refine lv_icmp_ge (tgt := 32) S.x S.b d_StringLatin1_equals_12 (by decide) (fun c1 => ?_) (fun c1 => ?_)
      · have nc1 : (nI sn).toInt ≤ x9_2.toInt := (i_le (x := (nI sn)) (y := x9_2)).mp c1
        refine lv_iconst (v := 1) S.x S.b d_StringLatin1_equals_32 (by decide) ?_
        exact px_iret (v := 1) S hr rfl hlk hAe hw (Nat.le_of_ble_eq_true rfl) (Nat.le_of_ble_eq_true rfl) (⟨rfl, (show (1 : Int32) = 0 ∨ (1 : Int32) = 1 from by first | exact Or.inl rfl | exact Or.inr rfl | exact z_or (by omega)), (show R_sl_equals sn sb sn2 sb2 (1 : Int32) from (k9_3 _ 1 (Or.inr (Or.inl ⟨rfl, x9_2, rfl, rfl, rfl, rfl, rfl, Or.inl ⟨nc1, rfl⟩⟩))))⟩) d_StringLatin1_equals_33
      · have nc1 : ¬ (nI sn).toInt ≤ x9_2.toInt := mt (i_le (x := (nI sn)) (y := x9_2)).mpr c1
        refine lv_aload_n S.x S.b d_StringLatin1_equals_15 rfl (lv_at hl 0 rfl) ?_
        refine lv_iload_n S.x S.b d_StringLatin1_equals_16 rfl (lv_at hl 2 rfl) ?_
        refine va_tb S.x S.b hTT hw.2.2 (i := x9_2) (vp_in_iff.mpr (by constructor <;> omega)) rfl d_StringLatin1_equals_17 ?_
        refine lv_topi (fun z3 ez3 => ?_)
        have lz3 := Int32.le_toInt z3
        have uz3 := Int32.toInt_lt z3
        refine lv_aload_n S.x S.b d_StringLatin1_equals_18 rfl (lv_at hl 1 rfl) ?_
        refine lv_iload_n S.x S.b d_StringLatin1_equals_19 rfl (lv_at hl 2 rfl) ?_
        refine va_tb S.x S.b hT2 hw.2.2 (i := x9_2) (vp_in_iff.mpr (by constructor <;> omega)) rfl d_StringLatin1_equals_20 ?_
        refine lv_topi (fun z4 ez4 => ?_)
        have lz4 := Int32.le_toInt z4
        have uz4 := Int32.toInt_lt z4
        refine lv_icmp_eq (tgt := 26) S.x S.b d_StringLatin1_equals_21 (by decide) (fun c5 => ?_) (fun c5 => ?_)
        · have nc5 : z3.toInt = z4.toInt := (i_eq (x := z3) (y := z4)).mp c5
          obtain ⟨z7, ez7⟩ : ∃ y : Int32, y = x9_2 + 1 := ⟨_, rfl⟩
          have tz7 : z7.toInt = (x9_2.toInt + 1 + 2147483648) % 4294967296 - 2147483648 := by rw [ez7]; exact i_add x9_2 1
          have lz7 := Int32.le_toInt z7
          have uz7 := Int32.toInt_lt z7
          try replace tz7 : z7.toInt = x9_2.toInt + 1 := by omega
          refine lv_iinc (v := z7) (lv' := [(2, .int z7), (0, .ref st), (1, .ref st2)]) S.x S.b d_StringLatin1_equals_26 hl (k := 2) rfl (by rw [ez7]; rfl) (by decide) rfl (fun ls hl => ?_)
          refine lv_goto (tgt := 9) S.x S.b d_StringLatin1_equals_29 (by decide) ?_
          first | exact ih9 z7 _ _ ls (show 0 ≤ z7.toInt from (oz_ae613611c0 tz7 k9_0)) (show z7.toInt ≤ (sn : Int) from (oz_b5917379a1 hsn tz7 nc1)) (show (sn : Int) = (sn2 : Int) from k9_2) (show K_sl_equals_9 sn sb sn2 sb2 z7 from (fun y_v k hE => k9_3 y_v (k + 1) (Or.inr (Or.inl ⟨rfl, x9_2, rfl, rfl, rfl, rfl, rfl, Or.inr ⟨nc1, z3, ez3, z4, ez4, Or.inl ⟨nc5, z7, ez7, hE⟩⟩⟩)))) (show (sn : Int)+1-z7.toInt < (n_9 : Int) from (oz_0d7b47d730 hm tz7)) hw (lv_sub hl [1, 2, 0] rfl) | (exact ih9 z7 _ _ ls (show 0 ≤ z7.toInt from by first | exact oz_ae613611c0 tz7 k9_0 | omega) (show z7.toInt ≤ (sn : Int) from by first | exact oz_b5917379a1 hsn tz7 nc1 | omega) (show (sn : Int) = (sn2 : Int) from by first | exact k9_2 | omega) (show K_sl_equals_9 sn sb sn2 sb2 z7 from (fun y_v k hE => k9_3 y_v (k + 1) (Or.inr (Or.inl ⟨rfl, x9_2, rfl, rfl, rfl, rfl, rfl, Or.inr ⟨nc1, z3, ez3, z4, ez4, Or.inl ⟨nc5, z7, ez7, hE⟩⟩⟩)))) (show (sn : Int)+1-z7.toInt < (n_9 : Int) from by first | exact oz_0d7b47d730 hm tz7 | omega) hw (lv_sub hl [1, 2, 0] rfl))
        · have nc5 : ¬ z3.toInt = z4.toInt := mt (i_eq (x := z3) (y := z4)).mpr c5
          refine lv_iconst (v := 0) S.x S.b d_StringLatin1_equals_24 (by decide) ?_
          exact px_iret (v := 0) S hr rfl hlk hAe hw (Nat.le_of_ble_eq_true rfl) (Nat.le_of_ble_eq_true rfl) (⟨rfl, (show (0 : Int32) = 0 ∨ (0 : Int32) = 1 from by first | exact Or.inl rfl | exact Or.inr rfl | exact z_or (by omega)), (show R_sl_equals sn sb sn2 sb2 (0 : Int32) from (k9_3 _ 1 (Or.inr (Or.inl ⟨rfl, x9_2, rfl, rfl, rfl, rfl, rfl, Or.inr ⟨nc1, z3, ez3, z4, ez4, Or.inr ⟨nc5, rfl⟩⟩⟩))))⟩) d_StringLatin1_equals_25
  refine lv_aload_n S.x S.b d_StringLatin1_equals_0 rfl (lv_at hl 0 rfl) ?_
  refine va_tlen S.x S.b hTT hw.2.2 (v := (nI sn)) rfl d_StringLatin1_equals_1 ?_
  refine lv_aload_n S.x S.b d_StringLatin1_equals_2 rfl (lv_at hl 1 rfl) ?_
  refine va_tlen S.x S.b hT2 hw.2.2 (v := (nI sn2)) rfl d_StringLatin1_equals_3 ?_
  refine lv_icmp_ne (tgt := 34) S.x S.b d_StringLatin1_equals_4 (by decide) (fun c8 => ?_) (fun c8 => ?_)
  · have nc8 : ¬ (nI sn).toInt = (nI sn2).toInt := mt (i_eq (x := (nI sn)) (y := (nI sn2))).mpr c8
    refine lv_iconst (v := 0) S.x S.b d_StringLatin1_equals_34 (by decide) ?_
    exact px_iret (v := 0) S hr rfl hlk hAe hw (Nat.le_of_ble_eq_true rfl) (Nat.le_of_ble_eq_true rfl) (⟨rfl, (show (0 : Int32) = 0 ∨ (0 : Int32) = 1 from by first | exact Or.inl rfl | exact Or.inr rfl | exact z_or (by omega)), (show R_sl_equals sn sb sn2 sb2 (0 : Int32) from (Exists.intro 1 (Or.inl ⟨rfl, Or.inl ⟨nc8, rfl⟩⟩)))⟩) d_StringLatin1_equals_35
  · have nc8 : (nI sn).toInt = (nI sn2).toInt := (i_eq (x := (nI sn)) (y := (nI sn2))).mp c8
    refine lv_iconst (v := 0) S.x S.b d_StringLatin1_equals_7 (by decide) ?_
    refine lv_istore_n (lv' := [(2, .int 0), (0, .ref st), (1, .ref st2)]) S.x S.b d_StringLatin1_equals_8 rfl hl (by decide) rfl (fun ls hl => ?_)
    first | exact J9 (((sn : Int)+1-(0 : Int)).toNat + 1) (0 : Int32) _ _ ls (show 0 ≤ (0 : Int) from oz_5a341f00aa) (show (0 : Int) ≤ (sn : Int) from oz_e13db6e0da) (show (sn : Int) = (sn2 : Int) from (oz_7afaed60c6 hsn hsn2 nc8)) (show K_sl_equals_9 sn sb sn2 sb2 0 from (fun y_v k hE => Exists.intro (k + 1) (Or.inl ⟨rfl, Or.inr ⟨nc8, hE⟩⟩))) (show (sn : Int)+1-(0 : Int) < (((((sn : Int)+1-(0 : Int)).toNat + 1 : Nat) : Int) : Int) from oz_natlt) hw (lv_sub hl [1, 2, 0] rfl) | (exact J9 (((sn : Int)+1-(0 : Int)).toNat + 1) (0 : Int32) _ _ ls (show 0 ≤ (0 : Int) from by first | exact oz_5a341f00aa | omega) (show (0 : Int) ≤ (sn : Int) from by first | exact oz_e13db6e0da | omega) (show (sn : Int) = (sn2 : Int) from by first | exact oz_7afaed60c6 hsn hsn2 nc8 | omega) (show K_sl_equals_9 sn sb sn2 sb2 0 from (fun y_v k hE => Exists.intro (k + 1) (Or.inl ⟨rfl, Or.inr ⟨nc8, hE⟩⟩))) (show (sn : Int)+1-(0 : Int) < (((((sn : Int)+1-(0 : Int)).toNat + 1 : Nat) : Int) : Int) from by first | exact oz_natlt | omega) hw (lv_sub hl [1, 2, 0] rfl))
abbrev b_String_equals : ByteArray := prog_31_method_66_code
def y_String_equals : MethodName := ⟨"java/lang/String", "equals", "(Ljava/lang/Object;)Z"⟩
theorem d_String_equals_0 : decode b_String_equals 0 = .ok (.aload_n 0, 1) := by decide +kernel
theorem d_String_equals_1 : decode b_String_equals 1 = .ok (.aload_n 1, 1) := by decide +kernel
theorem d_String_equals_2 : decode b_String_equals 2 = .ok (.if_acmp .ne 5, 3) := by decide +kernel
theorem d_String_equals_5 : decode b_String_equals 5 = .ok (.iconst 1, 1) := by decide +kernel
theorem d_String_equals_6 : decode b_String_equals 6 = .ok (.ireturn, 1) := by decide +kernel
theorem d_String_equals_7 : decode b_String_equals 7 = .ok (.aload_n 1, 1) := by decide +kernel
theorem d_String_equals_8 : decode b_String_equals 8 = .ok (.instanceof 10, 3) := by decide +kernel
theorem d_String_equals_11 : decode b_String_equals 11 = .ok (.ifCond .eq 43, 3) := by decide +kernel
theorem d_String_equals_14 : decode b_String_equals 14 = .ok (.aload_n 1, 1) := by decide +kernel
theorem d_String_equals_15 : decode b_String_equals 15 = .ok (.checkcast 10, 3) := by decide +kernel
theorem d_String_equals_18 : decode b_String_equals 18 = .ok (.astore_n 2, 1) := by decide +kernel
theorem d_String_equals_19 : decode b_String_equals 19 = .ok (.getstatic 38, 3) := by decide +kernel
theorem d_String_equals_22 : decode b_String_equals 22 = .ok (.ifCond .eq 14, 3) := by decide +kernel
theorem d_String_equals_25 : decode b_String_equals 25 = .ok (.aload_n 0, 1) := by decide +kernel
theorem d_String_equals_26 : decode b_String_equals 26 = .ok (.getfield 15, 3) := by decide +kernel
theorem d_String_equals_29 : decode b_String_equals 29 = .ok (.aload_n 2, 1) := by decide +kernel
theorem d_String_equals_30 : decode b_String_equals 30 = .ok (.getfield 15, 3) := by decide +kernel
theorem d_String_equals_33 : decode b_String_equals 33 = .ok (.if_icmp .ne 21, 3) := by decide +kernel
theorem d_String_equals_36 : decode b_String_equals 36 = .ok (.aload_n 0, 1) := by decide +kernel
theorem d_String_equals_37 : decode b_String_equals 37 = .ok (.getfield 9, 3) := by decide +kernel
theorem d_String_equals_40 : decode b_String_equals 40 = .ok (.aload_n 2, 1) := by decide +kernel
theorem d_String_equals_41 : decode b_String_equals 41 = .ok (.getfield 9, 3) := by decide +kernel
theorem d_String_equals_44 : decode b_String_equals 44 = .ok (.invokestatic 541, 3) := by decide +kernel
theorem d_String_equals_47 : decode b_String_equals 47 = .ok (.ifCond .eq 7, 3) := by decide +kernel
theorem d_String_equals_50 : decode b_String_equals 50 = .ok (.iconst 1, 1) := by decide +kernel
theorem d_String_equals_51 : decode b_String_equals 51 = .ok (.goto 4, 3) := by decide +kernel
theorem d_String_equals_54 : decode b_String_equals 54 = .ok (.iconst 0, 1) := by decide +kernel
theorem d_String_equals_55 : decode b_String_equals 55 = .ok (.ireturn, 1) := by decide +kernel
theorem q_String_equals : px_y y_String_equals 1 := by unfold px_y; decide +kernel
set_option maxHeartbeats 4000000 in
set_option maxRecDepth 100000 in
theorem c_sg_equals (l : Launch) (D : va_G) (cs : Nat → ClassId) (sk : Nat) (st : Nat) (sn : Nat) (sb : Nat → Int32) (sk2 : Nat) (st2 : Nat) (sn2 : Nat) (sb2 : Nat → Int32)  (g0 : sn ≤ 1000000) (g1 : sn2 ≤ 1000000) : MetI l y_String_equals b_String_equals 3 (.boolean) D cs 1 40 (0) (0) [.ref sk, .ref sk2] [] (oX (fun A U H => (oZ A U H) ∧ (oS A sk st sn sb U H) ∧ (oS A sk2 st2 sn2 sb2 U H)) []) (fun v ps => (ps = []) ∧ (v = 0 ∨ v = 1) ∧ (R_sg_equals sn sb sn2 sb2 v)) := by
  refine px_enter (by decide) (Nat.le_of_ble_eq_true rfl) ?_
  intro p e s m below meth c A ls hAe S hr hlk hnm hA hT hX hw hl
  have hl : lv_has ls 3 [(0, .ref sk), (1, .ref sk2)] := hl
  have cst0 : (0 : Int32).toInt = 0 := rfl
  have cst1 : (1 : Int32).toInt = 1 := rfl
  have hX : (fun A U H => (oZ A U H) ∧ (oS A sk st sn sb U H) ∧ (oS A sk2 st2 sn2 sb2 U H)) A s s.heap := by rw [hAe]; exact hX
  obtain ⟨hZ, hS, hS2⟩ := hX
  have hsn : (nI sn).toInt = (sn : Int) := nI_toInt (by omega)
  have hsn2 : (nI sn2).toInt = (sn2 : Int) := nI_toInt (by omega)
  refine lv_aload_n S.x S.b d_String_equals_0 rfl (lv_at hl 0 rfl) ?_
  refine lv_aload_n S.x S.b d_String_equals_1 rfl (lv_at hl 1 rfl) ?_
  refine lv_acmp_ne (tgt := 7) (rx := (some sk)) (ry := (some sk2)) S.x S.b d_String_equals_2 (by decide) (fun c1 => ?_) (fun c1 => ?_)
  ·
    refine lv_aload_n S.x S.b d_String_equals_7 rfl (lv_at hl 1 rfl) ?_
    obtain ⟨cC9, hcC9⟩ := classAt_of (S.w m7_197)
    refine va_instS S.x S.b S.own (S.w m11_226) hcC9 (oS_recv hw hS2) d_String_equals_8 ?_
    refine lv_if_eq (tgt := 54) S.x S.b d_String_equals_11 (by decide) (fun c3 => ?_) (fun c3 => ?_)
    · exact absurd c3 (by decide)
    ·
      refine lv_aload_n S.x S.b d_String_equals_14 rfl (lv_at hl 1 rfl) ?_
      refine va_castS S.x S.b S.own (S.w m11_226) hcC9 (oS_recv hw hS2) d_String_equals_15 ?_
      refine lv_astore_n (lv' := [(2, .ref sk2), (0, .ref sk), (1, .ref sk2)]) S.x S.b d_String_equals_18 rfl hl (by decide) rfl (fun ls hl => ?_)
      refine va_gets S.x S.b hZ hw.2.2 S.own (S.w m1_63) (fun _ h => h) d_String_equals_19 ?_
      refine lv_if_eq (tgt := 36) S.x S.b d_String_equals_22 (by decide) (fun c4 => ?_) (fun c4 => ?_)
      · exact absurd c4 (by decide)
      ·
        refine lv_aload_n S.x S.b d_String_equals_25 rfl (lv_at hl 1 rfl) ?_
        refine vk_getf S.x S.b hS.2.1 hw.2.2 S.own (S.w m8_12) (fun _ h => h) d_String_equals_26 ?_
        refine lv_aload_n S.x S.b d_String_equals_29 rfl (lv_at hl 0 rfl) ?_
        refine vk_getf S.x S.b hS2.2.1 hw.2.2 S.own (S.w m8_12) (fun _ h => h) d_String_equals_30 ?_
        refine lv_icmp_ne (tgt := 54) S.x S.b d_String_equals_33 (by decide) (fun c5 => ?_) (fun c5 => ?_)
        · exact absurd c5 (by decide)
        ·
          refine lv_aload_n S.x S.b d_String_equals_36 rfl (lv_at hl 1 rfl) ?_
          refine vk_getf S.x S.b hS.2.2.1 hw.2.2 S.own (S.w m8_11) (fun _ h => h) d_String_equals_37 ?_
          refine lv_aload_n S.x S.b d_String_equals_40 rfl (lv_at hl 0 rfl) ?_
          refine vk_getf S.x S.b hS2.2.2.1 hw.2.2 S.own (S.w m8_11) (fun _ h => h) d_String_equals_41 ?_
          first | refine px_calli (pr := []) (px_runS (As := [.ref st, .ref st2]) (rest := []) S (c_sl_equals l D cs st sn sb st2 sn2 sb2   (show sn ≤ 1000000 from g0) (show sn2 ≤ 1000000 from g1) _) hT (pr := []) (pcs := []) hw (oX_call (P := (fun A U H => (oT A st sn sb U H) ∧ (oT A st2 sn2 sb2 U H))) (pr := []) (oG_and oG_T oG_T) hw hA ⟨hS.2.2.2, hS2.2.2.2⟩) m11_229 m11_227 m11_228 m1_4 q_StringLatin1_equals ⟨Nat.le_of_ble_eq_true rfl, Nat.le_of_ble_eq_true rfl⟩ hl.1 rfl (Nat.le_of_ble_eq_true rfl) d_String_equals_44 ⟨Nat.le_of_ble_eq_true rfl, Nat.le_of_ble_eq_true rfl⟩) hw hA (fun v7 p6 H locs hp6 hw => ?_) | (refine px_calli (pr := []) (px_runS (As := [.ref st, .ref st2]) (rest := []) S (c_sl_equals l D cs st sn sb st2 sn2 sb2   (show sn ≤ 1000000 from by first | exact g0 | omega) (show sn2 ≤ 1000000 from by first | exact g1 | omega) _) hT (pr := []) (pcs := []) hw (oX_call (P := (fun A U H => (oT A st sn sb U H) ∧ (oT A st2 sn2 sb2 U H))) (pr := []) (oG_and oG_T oG_T) hw hA ⟨hS.2.2.2, hS2.2.2.2⟩) m11_229 m11_227 m11_228 m1_4 q_StringLatin1_equals ⟨Nat.le_of_ble_eq_true rfl, Nat.le_of_ble_eq_true rfl⟩ hl.1 rfl (Nat.le_of_ble_eq_true rfl) d_String_equals_44 ⟨Nat.le_of_ble_eq_true rfl, Nat.le_of_ble_eq_true rfl⟩) hw hA (fun v7 p6 H locs hp6 hw => ?_))
          obtain ⟨rfl, e8, e9⟩ := hp6
          have e8 := z_rng e8
          have e9 : R_sl_equals sn sb sn2 sb2 v7 := e9
          have lv7 := Int32.le_toInt v7
          have uv7 := Int32.toInt_lt v7
          refine lv_if_eq (tgt := 54) S.x S.b d_String_equals_47 (by decide) (fun c10 => ?_) (fun c10 => ?_)
          · have nc10 : v7.toInt = (0 : Int) := (i_eq (x := v7) (y := 0)).mp c10
            refine lv_iconst (v := 0) S.x S.b d_String_equals_54 (by decide) ?_
            exact px_iret (v := 0) S hr rfl hlk hAe hw (Nat.le_of_ble_eq_true rfl) (Nat.le_of_ble_eq_true rfl) (⟨rfl, (show (0 : Int32) = 0 ∨ (0 : Int32) = 1 from by first | exact Or.inl rfl | exact Or.inr rfl | exact z_or (by omega)), (show R_sg_equals sn sb sn2 sb2 (0 : Int32) from (Or.inl (Or.inl ⟨v7, e9, Or.inl ⟨nc10, rfl⟩⟩)))⟩) d_String_equals_55
          · have nc10 : ¬ v7.toInt = (0 : Int) := mt (i_eq (x := v7) (y := 0)).mpr c10
            refine lv_iconst (v := 1) S.x S.b d_String_equals_50 (by decide) ?_
            refine lv_goto (tgt := 55) S.x S.b d_String_equals_51 (by decide) ?_
            exact px_iret (v := 1) S hr rfl hlk hAe hw (Nat.le_of_ble_eq_true rfl) (Nat.le_of_ble_eq_true rfl) (⟨rfl, (show (1 : Int32) = 0 ∨ (1 : Int32) = 1 from by first | exact Or.inl rfl | exact Or.inr rfl | exact z_or (by omega)), (show R_sg_equals sn sb sn2 sb2 (1 : Int32) from (Or.inl (Or.inl ⟨v7, e9, Or.inr ⟨nc10, rfl⟩⟩)))⟩) d_String_equals_55
  ·
    have hssc1 := oS_same hS hS2 (Option.some.inj c1) (by omega) (by omega)
    refine lv_iconst (v := 1) S.x S.b d_String_equals_5 (by decide) ?_
    exact px_iret (v := 1) S hr rfl hlk hAe hw (Nat.le_of_ble_eq_true rfl) (Nat.le_of_ble_eq_true rfl) (⟨rfl, (show (1 : Int32) = 0 ∨ (1 : Int32) = 1 from by first | exact Or.inl rfl | exact Or.inr rfl | exact z_or (by omega)), (show R_sg_equals sn sb sn2 sb2 (1 : Int32) from (Or.inl (Or.inr ⟨hssc1, rfl⟩)))⟩) d_String_equals_6
