theorem oz_672e0d21ed  : 1 ≤ (9 : Int) := by omega
theorem oz_dd91d5c0fc {n0 : Nat}  : 0 + 1 ≤ (6 * (n0 + 1) + 26) := by omega
theorem oz_cb7a9fb84d {n0 : Nat}  : 8 + (3 + 11) + 0 ≤ (260 * (n0 + 1) + 900) := by omega
theorem oz_8237b40f3f {a0 : Int} {n1 : Nat} (h0 : a0 + ((n1 + 1 : Nat) : Int) ≤ 400) : a0 + (n1 : Int) ≤ 400 := by omega
theorem oz_1b56cf04f4 {n0 : Nat}  : (6 * n0 + 28) + 1 ≤ (6 * (n0 + 1) + 26) := by omega
theorem oz_f12115f098 {n0 : Nat}  : 8 + (4 + 11) + (260 * n0 + 980) ≤ (260 * (n0 + 1) + 900) := by omega
theorem oz_26218e8869 {a0 a1 a2 a3 a4 : Int} (h0 : a0 = a1) (h1 : 6 * a3 ≤ 6 * a4 + (a2)) (h2 : a4 ≤ a3) : 6 * a0 ≤ 6 * a1 + (a2) := by omega
theorem oz_40fcc4b606 {n0 : Nat}  : (4 * n0 + 13) + 1 ≤ (6 * (n0 + 1) + 26) := by omega
theorem oz_fe2dcec7de {n0 : Nat}  : 8 + (3 + 11) + (200 * n0 + 460) ≤ (260 * (n0 + 1) + 900) := by omega
theorem oz_fd597f7f5a {n0 : Nat}  : (4 * n0 + 22) + 1 ≤ (6 * (n0 + 1) + 26) := by omega
theorem oz_a1f1d526a8 {n0 : Nat}  : 8 + (5 + 11) + (200 * n0 + 780) ≤ (260 * (n0 + 1) + 900) := by omega
theorem oz_31ddc84520 {a0 a1 a2 a3 : Int} (h0 : a2 ≤ a1) (h1 : a0 ≤ a3) (h2 : a3 ≤ a2) : a0 ≤ a1 := by omega
theorem oz_9c5488ea07 {n0 : Nat}  : (4 * n0 + 12) + 1 ≤ (6 * (n0 + 1) + 26) := by omega
theorem oz_e0b88b15c4 {n0 : Nat}  : 8 + (8 + 11) + (200 * n0 + 420) ≤ (260 * (n0 + 1) + 900) := by omega
theorem oz_02af3e62d3 {a0 a1 a2 a3 a4 a5 : Int} (h0 : a2 + a1 + a3 + 4 ≤ a4) (h1 : a0 = a5) (h2 : 6 * a5 + a4 ≤ 6540) (h3 : 0 ≤ a2) (h4 : 0 ≤ a3) : 6 * a0 + a1 ≤ 6540 := by omega
theorem oz_7ff02c72cf {a0 a2 : Int} {n1 : Nat} (h0 : a2 + ((n1 + 1 : Nat) : Int) ≤ 400) (h1 : a0 = a2) : a0 + (n1 : Int) ≤ 400 := by omega
theorem oz_caff5bad48 {n0 : Nat}  : (6 * n0 + 26) + 1 ≤ (6 * (n0 + 1) + 26) := by omega
theorem oz_bb20d094bd {n0 : Nat}  : 8 + (3 + 11) + (260 * n0 + 900) ≤ (260 * (n0 + 1) + 900) := by omega
theorem oz_4d5c74e9a9 {a0 a1 a2 a3 a4 a5 : Int} (h0 : 0 ≤ a0) (h1 : a0 < a1) (h2 : a2 ≤ a3) (h3 : a4 ≤ a2) (h4 : a1 ≤ a5) (h5 : a3 ≤ 2100) (h6 : a5 < a4) : 0 ≤ a0 ∧ a0 < ((2100 : Nat) : Int) := by omega
theorem oz_c24cebfbf9 {a0 a1 a2 a3 a4 a5 a6 : Int} (h0 : a3 + a4 + a5 + 4 ≤ a2) (h1 : a6 = a1) (h2 : 6 * a0 ≤ 6 * a6 + (a4)) (h3 : 0 ≤ a3) (h4 : 0 ≤ a5) : 6 * a0 ≤ 6 * a1 + (a2) := by omega
theorem oz_0c5bc78c46 {a0 a1 a2 a3 a4 : Int} (h0 : a2 = a0) (h1 : a3 - a4 ≤ 4096 * (a1 - a2)) (h2 : a4 ≤ a3) : a0 ≤ a1 := by omega
theorem oz_123de3a11e {a0 a1 a2 a3 a4 a5 : Int} (h0 : a4 = a3) (h1 : a5 = a1) (h2 : a0 - a5 ≤ 4 * (a2 - a4)) : a0 - a1 ≤ 4 * (a2 - a3) := by omega
theorem oz_261600e303 {a0 a1 a2 a3 a4 a5 : Int} (h0 : a4 = a3) (h1 : a5 = a1) (h2 : a0 - a5 ≤ 4096 * (a2 - a4)) : a0 - a1 ≤ 4096 * (a2 - a3) := by omega
theorem oz_ed897351ef {a0 a1 a2 : Int} (h0 : a1 ≤ a0) (h1 : a1 = a2) (h2 : 0 ≤ a2) : 0 ≤ a0 := by omega
theorem oz_e6646b808b {a0 a1 a2 a3 a4 a5 a6 : Int} (h0 : a2 + a3 + a1 + 4 ≤ a4) (h1 : 6 * a0 ≤ 6 * a5 + (a3)) (h2 : 6 * a6 + a4 ≤ 6540) (h3 : 0 ≤ a2) (h4 : a5 = a6) : 6 * a0 + a1 ≤ 6540 := by omega
theorem oz_fa0ac33312 {a0 a1 a2 a3 a4 a5 : Int} (h0 : a1 - a2 ≤ 4096 * (a0 - a3)) (h1 : a3 = a4) (h2 : a2 ≤ a1) (h3 : 0 ≤ a5) (h4 : a5 ≤ 4 + 4096 * a4) : 0 ≤ a0 := by omega
theorem oz_47ca30756f {a0 a1 a2 a3 a4 a5 : Int} (h0 : a0 - a2 ≤ 4096 * (a1 - a3)) (h1 : a3 = a4) (h2 : a2 = a5) (h3 : a5 ≤ 4096 * a4) : a0 ≤ 4096 * a1 := by omega
theorem oz_0bbfc1fc8f {a0 a1 a2 a3 a4 a5 : Int} (h0 : a0 - a2 ≤ 4096 * (a1 - a3)) (h1 : a3 = a4) (h2 : a2 = a5) (h3 : a5 ≤ 4 + 4096 * a4) : a0 ≤ 4 + 4096 * a1 := by omega
theorem oz_fdb6f2b2b3 {a0 a2 a3 : Int} {n1 : Nat} (h0 : a2 + ((n1 + 1 : Nat) : Int) ≤ 400) (h1 : a0 = a3) (h2 : a3 = a2) : a0 + (n1 : Int) ≤ 400 := by omega
theorem oz_3bc4f35784 {a0 a1 a2 a3 a4 a5 a6 a7 : Int} (h0 : a3 + a4 + a5 + 4 ≤ a2) (h1 : a6 = a1) (h2 : 6 * a0 ≤ 6 * a7 + (a5)) (h3 : 0 ≤ a3) (h4 : 6 * a7 ≤ 6 * a6 + (a4)) : 6 * a0 ≤ 6 * a1 + (a2) := by omega
theorem oz_92b12c479c {a0 a1 a2 a3 a4 a5 a6 : Int} (h0 : a2 = a0) (h1 : a3 - a4 ≤ 4096 * (a1 - a5)) (h2 : a6 ≤ a4) (h3 : a4 - a6 ≤ 4096 * (a5 - a2)) (h4 : a4 ≤ a3) : a0 ≤ a1 := by omega
theorem oz_c77a0f0561 {a0 a1 a2 a3 a4 a5 a6 a7 : Int} (h0 : a4 = a3) (h1 : a5 = a1) (h2 : a0 - a6 ≤ 4 * (a2 - a7)) (h3 : a6 - a5 ≤ 4 * (a7 - a4)) : a0 - a1 ≤ 4 * (a2 - a3) := by omega
theorem oz_d7dceb9cc3 {a0 a1 a2 a3 a4 a5 a6 a7 : Int} (h0 : a4 = a3) (h1 : a5 = a1) (h2 : a0 - a6 ≤ 4096 * (a2 - a7)) (h3 : a6 - a5 ≤ 4096 * (a7 - a4)) : a0 - a1 ≤ 4096 * (a2 - a3) := by omega
theorem oz_53964e496c {a0 a2 : Int} {n1 : Nat} (h0 : a2 + ((n1 + 1 : Nat) : Int) ≤ 400) (h1 : a0 = a2) : a0 + (n1 : Int) + 1 ≤ 400 := by omega
theorem oz_06a2e57cf7 {n0 : Nat}  : (6 * n0 + 27) + 1 ≤ (6 * (n0 + 1) + 26) := by omega
theorem oz_68b055cc9f {n0 : Nat}  : 8 + (2 + 11) + (260 * n0 + 940) ≤ (260 * (n0 + 1) + 900) := by omega
theorem oz_5712b2ecc9 {a0 a1 a2 a3 : Int} (h0 : 6 * a0 + a2 ≤ 6540) (h1 : a3 + a1 + 4 ≤ a2) (h2 : 0 ≤ a3) : 6 * a0 + a1 ≤ 6540 := by omega
theorem oz_9bf0b6c62b {a0 : Int} {n1 : Nat} (h0 : a0 + ((n1 + 1 : Nat) : Int) ≤ 400) : a0 + (n1 : Int) + 1 ≤ 400 := by omega
theorem oz_410a2b3a09 {a0 a1 a2 a3 a4 : Int} (h0 : 0 ≤ a0) (h1 : (a0 + 1) ≤ a1) (h2 : a2 ≤ a3) (h3 : a4 ≤ a2) (h4 : a1 < a4) (h5 : a3 ≤ 2100) : 0 ≤ a0 ∧ a0 < ((2100 : Nat) : Int) := by omega
theorem oz_1ed9f97131 {a0 a1 a2 a3 a4 a5 : Int} (h0 : a3 + a4 + 4 ≤ a2) (h1 : 6 * a5 ≤ 6 * a1 + (a4)) (h2 : a0 = a5) (h3 : 0 ≤ a3) : 6 * a0 ≤ 6 * a1 + (a2) := by omega
theorem oz_127bc3c070 {n0 : Nat}  : (6 * n0 + 29) + 1 ≤ (6 * (n0 + 1) + 26) := by omega
theorem oz_ecbc0cda97 {n0 : Nat}  : 8 + (4 + 11) + (260 * n0 + 1020) ≤ (260 * (n0 + 1) + 900) := by omega
theorem oz_126ce43d98 {n0 : Nat}  : 8 + (7 + 11) + (260 * n0 + 1020) ≤ (260 * (n0 + 1) + 900) := by omega
theorem oz_b808fb21f8 {n0 : Nat}  : 8 + (3 + 11) + (260 * n0 + 940) ≤ (260 * (n0 + 1) + 900) := by omega
theorem m12_202 : Cond.methodLink "HomeSystemModel$Program" 645 ⟨"HomeSystemModel$Program", "checkBlock", "(I)V"⟩ ∈ AL := AL_12 (List.mem_of_getElem? (i := 202) rfl) rfl
theorem m12_205 : Cond.code ⟨"HomeSystemModel$Program", "checkBlock", "(I)V"⟩ prog_16_method_90_code 4 (Option.none : Option Jvm.ClassFile.FieldType) ∈ AL := AL_12 (List.mem_of_getElem? (i := 205) rfl) rfl
theorem ms_12_4 : Cond.selects "HomeSystemModel$Program" ⟨"HomeSystemModel$Program", "checkBlock", "(I)V"⟩ ⟨"HomeSystemModel$Program", "checkBlock", "(I)V"⟩ ∈ AL := AL_p (q := (⟨"HomeSystemModel$Program", "checkBlock", "(I)V"⟩, 69)) (by unfold lw_privs; exact List.mem_append_right _ (List.mem_append_right _ (List.mem_append_right _ (List.mem_append_right _ (List.mem_append_right _ (List.mem_append_right _ (List.mem_append_right _ (List.mem_append_right _ (List.mem_append_right _ (List.mem_append_right _ (List.mem_append_right _ (List.mem_append_left _ (List.mem_of_getElem? (i := 4) rfl)))))))))))))
theorem m12_204 : Cond.instanceMethod ⟨"HomeSystemModel$Program", "checkBlock", "(I)V"⟩ ∈ AL := AL_12 (List.mem_of_getElem? (i := 204) rfl) rfl
theorem m13_26 : Cond.methodLink "HomeSystemModel$Program" 651 ⟨"HomeSystemModel$Program", "declare", "(IZ)V"⟩ ∈ AL := AL_13 (List.mem_of_getElem? (i := 26) rfl) rfl
theorem m13_29 : Cond.code ⟨"HomeSystemModel$Program", "declare", "(IZ)V"⟩ prog_16_method_86_code 5 (Option.none : Option Jvm.ClassFile.FieldType) ∈ AL := AL_13 (List.mem_of_getElem? (i := 29) rfl) rfl
theorem ms_13_4 : Cond.selects "HomeSystemModel$Program" ⟨"HomeSystemModel$Program", "declare", "(IZ)V"⟩ ⟨"HomeSystemModel$Program", "declare", "(IZ)V"⟩ ∈ AL := AL_p (q := (⟨"HomeSystemModel$Program", "declare", "(IZ)V"⟩, 69)) (by unfold lw_privs; exact List.mem_append_right _ (List.mem_append_right _ (List.mem_append_right _ (List.mem_append_right _ (List.mem_append_right _ (List.mem_append_right _ (List.mem_append_right _ (List.mem_append_right _ (List.mem_append_right _ (List.mem_append_right _ (List.mem_append_right _ (List.mem_append_right _ (List.mem_append_left _ (List.mem_of_getElem? (i := 4) rfl))))))))))))))
theorem m13_28 : Cond.instanceMethod ⟨"HomeSystemModel$Program", "declare", "(IZ)V"⟩ ∈ AL := AL_13 (List.mem_of_getElem? (i := 28) rfl) rfl
theorem m13_38 : Cond.methodLink "HomeSystemModel$Program" 658 ⟨"HomeSystemModel$Program", "checkFor", "(I)V"⟩ ∈ AL := AL_13 (List.mem_of_getElem? (i := 38) rfl) rfl
theorem m13_41 : Cond.code ⟨"HomeSystemModel$Program", "checkFor", "(I)V"⟩ prog_16_method_94_code 4 (Option.none : Option Jvm.ClassFile.FieldType) ∈ AL := AL_13 (List.mem_of_getElem? (i := 41) rfl) rfl
theorem ms_13_7 : Cond.selects "HomeSystemModel$Program" ⟨"HomeSystemModel$Program", "checkFor", "(I)V"⟩ ⟨"HomeSystemModel$Program", "checkFor", "(I)V"⟩ ∈ AL := AL_p (q := (⟨"HomeSystemModel$Program", "checkFor", "(I)V"⟩, 69)) (by unfold lw_privs; exact List.mem_append_right _ (List.mem_append_right _ (List.mem_append_right _ (List.mem_append_right _ (List.mem_append_right _ (List.mem_append_right _ (List.mem_append_right _ (List.mem_append_right _ (List.mem_append_right _ (List.mem_append_right _ (List.mem_append_right _ (List.mem_append_right _ (List.mem_append_left _ (List.mem_of_getElem? (i := 7) rfl))))))))))))))
theorem m13_40 : Cond.instanceMethod ⟨"HomeSystemModel$Program", "checkFor", "(I)V"⟩ ∈ AL := AL_13 (List.mem_of_getElem? (i := 40) rfl) rfl
theorem m13_42 : Cond.methodLink "HomeSystemModel$Program" 661 ⟨"HomeSystemModel$Program", "checkSwitch", "(I)V"⟩ ∈ AL := AL_13 (List.mem_of_getElem? (i := 42) rfl) rfl
theorem m13_45 : Cond.code ⟨"HomeSystemModel$Program", "checkSwitch", "(I)V"⟩ prog_16_method_95_code 7 (Option.none : Option Jvm.ClassFile.FieldType) ∈ AL := AL_13 (List.mem_of_getElem? (i := 45) rfl) rfl
theorem ms_13_8 : Cond.selects "HomeSystemModel$Program" ⟨"HomeSystemModel$Program", "checkSwitch", "(I)V"⟩ ⟨"HomeSystemModel$Program", "checkSwitch", "(I)V"⟩ ∈ AL := AL_p (q := (⟨"HomeSystemModel$Program", "checkSwitch", "(I)V"⟩, 69)) (by unfold lw_privs; exact List.mem_append_right _ (List.mem_append_right _ (List.mem_append_right _ (List.mem_append_right _ (List.mem_append_right _ (List.mem_append_right _ (List.mem_append_right _ (List.mem_append_right _ (List.mem_append_right _ (List.mem_append_right _ (List.mem_append_right _ (List.mem_append_right _ (List.mem_append_left _ (List.mem_of_getElem? (i := 8) rfl))))))))))))))
theorem m13_44 : Cond.instanceMethod ⟨"HomeSystemModel$Program", "checkSwitch", "(I)V"⟩ ∈ AL := AL_13 (List.mem_of_getElem? (i := 44) rfl) rfl
theorem m13_46 : Cond.methodLink "HomeSystemModel$Program" 664 ⟨"HomeSystemModel$Program", "checkReturn", "(I)V"⟩ ∈ AL := AL_13 (List.mem_of_getElem? (i := 46) rfl) rfl
theorem m13_49 : Cond.code ⟨"HomeSystemModel$Program", "checkReturn", "(I)V"⟩ prog_16_method_96_code 3 (Option.none : Option Jvm.ClassFile.FieldType) ∈ AL := AL_13 (List.mem_of_getElem? (i := 49) rfl) rfl
theorem ms_13_9 : Cond.selects "HomeSystemModel$Program" ⟨"HomeSystemModel$Program", "checkReturn", "(I)V"⟩ ⟨"HomeSystemModel$Program", "checkReturn", "(I)V"⟩ ∈ AL := AL_p (q := (⟨"HomeSystemModel$Program", "checkReturn", "(I)V"⟩, 69)) (by unfold lw_privs; exact List.mem_append_right _ (List.mem_append_right _ (List.mem_append_right _ (List.mem_append_right _ (List.mem_append_right _ (List.mem_append_right _ (List.mem_append_right _ (List.mem_append_right _ (List.mem_append_right _ (List.mem_append_right _ (List.mem_append_right _ (List.mem_append_right _ (List.mem_append_left _ (List.mem_of_getElem? (i := 9) rfl))))))))))))))
theorem m13_48 : Cond.instanceMethod ⟨"HomeSystemModel$Program", "checkReturn", "(I)V"⟩ ∈ AL := AL_13 (List.mem_of_getElem? (i := 48) rfl) rfl
theorem tys_j {G : Gm} {na ma : Nat → Nat → Int32} {lo hi : Int} {n : Int32} {t : Nat} (hn : lo ≤ n.toInt ∧ n.toInt < hi ∧ 0 ≤ n.toInt) (k : 29 ≤ (na 14 n.toNatClampNeg).toInt ∧ (na 14 n.toNatClampNeg).toInt ≤ 32) (ht : t = 4) : TyE G na ma lo hi n t := by
  subst ht
  by_cases h : (na 14 n.toNatClampNeg).toInt = 31
  · exact tys_31 hn (by decide) h (by decide)
  · by_cases h2 : (na 14 n.toNatClampNeg).toInt = 32
    · exact tys_32 hn (by decide) h2 rfl
    · exact tys_0 hn (by decide) (by omega)
set_option maxHeartbeats 4000000 in
set_option maxRecDepth 100000 in
theorem c_mp_checkStatement (l : Launch) (D : va_G) (cs : Nat → ClassId) (ma0 : Nat → Nat → Int32) (ys : Int) (nf : Int) (tx : Int) (d : Nat) (lo : Int) (hi : Int) (w : Int) (h : Nat) (r : Nat → Nat) (g : Nat → Nat → Option Nat) (tf : Nat → Int32) (ta : Nat → Nat → Int32) (pf : Nat → Int32) (na : Nat → Nat → Int32) (wa : Nat → Nat → Int32) (ef : Nat → Int32) (ea : Nat → Nat → Int32) (xf : Nat → Int32) (xa : Nat → Nat → Int32) (ma : Nat → Nat → Int32) (cf : Nat → Int32) (ca : Nat → Nat → Int32) (p0 : Int32)  (g0 : 0 ≤ lo) (g1 : hi ≤ (pf 13).toInt) (g2 : (pf 13).toInt ≤ 2100) (g3 : (tf 6).toInt ≤ 2049) (g4 : 0 ≤ (cf 33).toInt) (g5 : 0 ≤ w) (g6 : 6 * (cf 33).toInt + w ≤ 6540) (g7 : 0 ≤ (cf 48).toInt) (g8 : 6 * (cf 48).toInt + w ≤ 6540) (g9 : (cf 38).toInt = nf) (g10 : 0 ≤ nf) (g11 : 0 ≤ (cf 37).toInt) (g12 : 0 ≤ (cf 54).toInt) (g13 : (cf 54).toInt ≤ 4096 * (cf 48).toInt) (g14 : 0 ≤ (cf 42).toInt) (g15 : (cf 42).toInt ≤ 4 + 4096 * (cf 48).toInt) (g16 : 0 ≤ (cf 44).toInt) (g17 : 0 ≤ (cf 45).toInt) (g18 : ys ≤ (cf 48).toInt ∨ tx = 1) (g19 : 0 ≤ (cf 46).toInt) (g20 : (cf 46).toInt ≤ 1) (g21 : 0 ≤ (cf 47).toInt) (g22 : (cf 47).toInt ≤ 1) (g23 : (cf 44).toInt + ((d + 1 : Nat) : Int) ≤ 400) (g24 : (cf 45).toInt + ((d + 1 : Nat) : Int) ≤ 400) (g25 : 0 ≤ (cf 43).toInt) (g26 : (cf 43).toInt < 2100) (g27 : tx = 0) (htk : TkI tf ta) (hfs : FsI (tf 6).toInt (pf 13).toInt na) (hwr : WrV cf (tf 6).toInt) (hkt : KnT (tf 6).toInt ca (cf 33).toInt) (hft : FnT (tf 6).toInt na ca (cf 38).toInt) (hks : KnS ca (cf 33).toInt (cf 48).toInt ys) (hfp : FnP na ca nf) (hsr : SyR ca ys (cf 48).toInt (cf 54).toInt tx) (han : Ann na ma0 ma) (htx : txo (cf 43).toInt = tx) (hsc : ScV ta (tf 6).toInt na ma0 (d + 1) lo hi w p0) (hLS : StC l D cs d) : MetV l y_Mpg_checkStatement b_Mpg_checkStatement 3 D cs (6 * (d + 1) + 26) (260 * (d + 1) + 900) (0) (0) [.ref h, .int p0] [wdP cs h r g tf ta pf na ma wa cf ca ef ea xf xa] (oX (fun A U H => (oP A g U H)) [wdP cs h r g tf ta pf na ma wa cf ca ef ea xf xa]) (fun ps => ∃ (ma' : Nat → Nat → Int32) (cf' : Nat → Int32) (ca' : Nat → Nat → Int32), (ps = [wdP cs h r g tf ta pf na ma' wa cf' ca' ef ea xf xa]) ∧ ((cf' 30).toInt = 0 → (cf 30).toInt = 0) ∧ (WrV cf' (tf 6).toInt) ∧ ((cf' 37).toInt = (cf 37).toInt) ∧ ((cf' 38).toInt = (cf 38).toInt) ∧ ((cf' 43).toInt = (cf 43).toInt) ∧ ((cf' 44).toInt = (cf 44).toInt) ∧ ((cf' 45).toInt = (cf 45).toInt) ∧ ((cf' 46).toInt = (cf 46).toInt) ∧ ((cf' 47).toInt = (cf 47).toInt) ∧ ((cf' 41).toInt = (cf 41).toInt) ∧ ((cf' 55).toInt = (cf 55).toInt) ∧ ((cf' 59).toInt = (cf 59).toInt) ∧ ((cf 33).toInt ≤ (cf' 33).toInt) ∧ (6 * (cf' 33).toInt ≤ 6 * (cf 33).toInt + (w)) ∧ ((cf 48).toInt ≤ (cf' 48).toInt) ∧ (6 * (cf' 48).toInt ≤ 6 * (cf 48).toInt + (w)) ∧ ((cf 54).toInt ≤ (cf' 54).toInt) ∧ ((cf 42).toInt ≤ (cf' 42).toInt) ∧ ((cf' 54).toInt - (cf 54).toInt ≤ 4 * ((cf' 42).toInt - (cf 42).toInt)) ∧ ((cf' 54).toInt - (cf 54).toInt ≤ 4096 * ((cf' 48).toInt - (cf 48).toInt)) ∧ ((cf' 42).toInt - (cf 42).toInt ≤ 4096 * ((cf' 48).toInt - (cf 48).toInt)) ∧ (KnT (tf 6).toInt ca' (cf' 33).toInt) ∧ (KnS ca' (cf' 33).toInt (cf' 48).toInt ys) ∧ (CaG ca ca' (cf 33).toInt (cf 48).toInt) ∧ (SyR ca' ys (cf' 48).toInt (cf' 54).toInt tx) ∧ (Ann na ma0 ma') ∧ (FrC lo hi ma ma') ∧ (ZTe cf' ta ca' na ma0 (cf' 48).toInt ys nf ma' lo hi p0 (tgv (cf 44).toInt (cf 45).toInt)) ∧ (R_mp_checkStatement (RL_mp_checkStatement d) tf ta na p0 ma cf ca ma' cf' ca')) := by
  refine px_enter (by decide) (Nat.le_of_ble_eq_true rfl) ?_
  intro p e s m below meth c A ls hAe S hr hlk hnm hA hT hX hw hl
  have hl : lv_has ls 3 [(0, .ref h), (1, .int p0)] := hl
  have lp0 := Int32.le_toInt p0
  have up0 := Int32.toInt_lt p0
  have cst0 : (0 : Int32).toInt = 0 := rfl
  have cst1 : (1 : Int32).toInt = 1 := rfl
  have cst9 : (9 : Int32).toInt = 9 := rfl
  have cst31 : (31 : Int32).toInt = 31 := rfl
  have hX : (fun A U H => (oP A g U H)) A s s.heap := by rw [hAe]; exact hX
  have hP := hX
  have hZ := hP.1
  have hF0 := hP.2.1
  have hfc : FrC lo hi ma ma := FrC.rf
  have hwr0 := hwr.1
  have hk11 := hkt.1
  have hf11 := hft.1
  have hcg : CaG ca ca (cf 33).toInt (cf 48).toInt := CaG.rf
  have hsr0 := ScV.rng hsc
  have hsc_p0 := hsc
  refine lv_aload_n S.x S.b d_Mpg_checkStatement_0 rfl (lv_at hl 0 rfl) ?_
  refine px_get S k_Mpg hT hw 0 0 14 (v := .ref (r 14)) rfl rfl rfl (by decide) m9_238 d_Mpg_checkStatement_1 ?_
  refine lv_iload_n S.x S.b d_Mpg_checkStatement_4 rfl (lv_at hl 1 rfl) ?_
  refine px_bald S hT hw 0 10 (n := 2100) (f := (na 14)) rfl gp_14 (x := p0) (vp_in_iff.mpr (by first | exact oz_a7e05de1cd hsr0.2.2.1 hsr0.2.1 g1 g2 | (constructor <;> omega))) d_Mpg_checkStatement_5 ?_
  refine lv_topi (fun z1 ez1 => ?_)
  have lz1 := Int32.le_toInt z1
  have uz1 := Int32.toInt_lt z1
  have rz1 := ScV.kd hsc_p0 ez1
  refine px_tabD S (dt := 227) [(76, [20]), (84, [21]), (87, [22]), (100, [23]), (109, [24]), (153, [25]), (178, [26]), (203, [27]), (211, [28]), (227, [29, 30, 31, 32]), (219, [33])] d_Mpg_checkStatement_6 (by decide +kernel) (by decide) (by decide +kernel) ?_ ?_
  · intro hdf_6
    refine lv_aload_n S.x S.b d_Mpg_checkStatement_227 rfl (lv_at hl 0 rfl) ?_
    refine px_get S k_Mpg hT hw 0 0 44 (v := .int (cf 44)) rfl rfl rfl (by decide) m10_35 d_Mpg_checkStatement_228 ?_
    refine lv_if_gt (tgt := 252) S.x S.b d_Mpg_checkStatement_231 (by decide) (fun c3 => ?_) (fun c3 => ?_)
    · have nc3 : (0 : Int) < (cf 44).toInt := (i_lt (x := 0) (y := (cf 44))).mp c3
      refine lv_iconst (v := 1) S.x S.b d_Mpg_checkStatement_252 (by decide) ?_
      refine lv_goto (tgt := 257) S.x S.b d_Mpg_checkStatement_253 (by decide) ?_
      refine lv_istore_n (lv' := [(2, .int 1), (0, .ref h), (1, .int p0)]) S.x S.b d_Mpg_checkStatement_257 rfl hl (by decide) rfl (fun ls hl => ?_)
      refine lv_iload_n S.x S.b d_Mpg_checkStatement_258 rfl (lv_at hl 0 rfl) ?_
      refine lv_if_ne (tgt := 274) S.x S.b d_Mpg_checkStatement_259 (by decide) (fun c5 => ?_) (fun c5 => ?_)
      ·
        exact px_vret S hr hlk hAe hw (Nat.le_of_ble_eq_true rfl) (Nat.le_of_ble_eq_true rfl) (⟨ma, cf, ca, rfl, (show (cf 30).toInt = 0 → (cf 30).toInt = 0 from by first | exact fun q9 => q9 | omega), (show WrV cf (tf 6).toInt from hwr), (show (cf 37).toInt = (cf 37).toInt from rfl), (show (cf 38).toInt = (cf 38).toInt from rfl), (show (cf 43).toInt = (cf 43).toInt from rfl), (show (cf 44).toInt = (cf 44).toInt from rfl), (show (cf 45).toInt = (cf 45).toInt from rfl), (show (cf 46).toInt = (cf 46).toInt from rfl), (show (cf 47).toInt = (cf 47).toInt from rfl), (show (cf 41).toInt = (cf 41).toInt from rfl), (show (cf 55).toInt = (cf 55).toInt from rfl), (show (cf 59).toInt = (cf 59).toInt from rfl), (show (cf 33).toInt ≤ (cf 33).toInt from by first | exact oz_1cb5f934a5 | omega), (show 6 * (cf 33).toInt ≤ 6 * (cf 33).toInt + (w) from by first | exact oz_5a408f7934 g5 | omega), (show (cf 48).toInt ≤ (cf 48).toInt from by first | exact oz_1cb5f934a5 | omega), (show 6 * (cf 48).toInt ≤ 6 * (cf 48).toInt + (w) from by first | exact oz_5a408f7934 g5 | omega), (show (cf 54).toInt ≤ (cf 54).toInt from by first | exact oz_1cb5f934a5 | omega), (show (cf 42).toInt ≤ (cf 42).toInt from by first | exact oz_1cb5f934a5 | omega), (show (cf 54).toInt - (cf 54).toInt ≤ 4 * ((cf 42).toInt - (cf 42).toInt) from by first | exact oz_a1153f1990 | omega), (show (cf 54).toInt - (cf 54).toInt ≤ 4096 * ((cf 48).toInt - (cf 48).toInt) from by first | exact oz_f4137ca117 | omega), (show (cf 42).toInt - (cf 42).toInt ≤ 4096 * ((cf 48).toInt - (cf 48).toInt) from by first | exact oz_f4137ca117 | omega), (show KnT (tf 6).toInt ca (cf 33).toInt from (KnT.eq hkt (by omega))), (show KnS ca (cf 33).toInt (cf 48).toInt ys from (KnS.eq hks (by omega) (by omega))), (show CaG ca ca (cf 33).toInt (cf 48).toInt from (hcg.le (by omega) (by omega))), (show SyR ca ys (cf 48).toInt (cf 54).toInt tx from (SyR.eq hsr (by omega) (by omega))), (show Ann na ma0 ma from han), (show FrC lo hi ma ma from hfc), (show ZTe cf ta ca na ma0 (cf 48).toInt ys nf ma lo hi p0 (tgv (cf 44).toInt (cf 45).toInt) from (fun zz => by first | exact tys_0 ⟨by omega, by omega, by omega⟩ tgv_rng (by omega) | exact tys_j ⟨by omega, by omega, by omega⟩ (by omega) (tgv_4 (by omega)) | exact tys_31 ⟨by omega, by omega, by omega⟩ tgv_rng (by omega) (tgv_ge (by omega)))), (show R_mp_checkStatement (RL_mp_checkStatement d) tf ta na p0 ma cf ca ma cf ca from (Or.inl ⟨z1, ez1, Or.inl ⟨hdf_6, Or.inl ⟨nc3, rfl, rfl, rfl⟩⟩⟩))⟩) d_Mpg_checkStatement_274
      · exact absurd c5 (by decide)
    · have nc3 : ¬ (0 : Int) < (cf 44).toInt := mt (i_lt (x := 0) (y := (cf 44))).mpr c3
      refine lv_aload_n S.x S.b d_Mpg_checkStatement_234 rfl (lv_at hl 0 rfl) ?_
      refine px_get S k_Mpg hT hw 0 0 14 (v := .ref (r 14)) rfl rfl rfl (by decide) m9_238 d_Mpg_checkStatement_235 ?_
      refine lv_iload_n S.x S.b d_Mpg_checkStatement_238 rfl (lv_at hl 1 rfl) ?_
      refine px_bald S hT hw 0 10 (n := 2100) (f := (na 14)) rfl gp_14 (x := p0) (vp_in_iff.mpr (by first | exact oz_a7e05de1cd hsr0.2.2.1 hsr0.2.1 g1 g2 | (constructor <;> omega))) d_Mpg_checkStatement_239 ?_
      refine lv_topi (fun z6 ez6 => ?_)
      have lz6 := Int32.le_toInt z6
      have uz6 := Int32.toInt_lt z6
      have rz6 := ScV.kd hsc_p0 ez6
      refine lv_bipush (v := 31) S.x S.b d_Mpg_checkStatement_240 (by decide) ?_
      refine lv_icmp_ne (tgt := 256) S.x S.b d_Mpg_checkStatement_242 (by decide) (fun c7 => ?_) (fun c7 => ?_)
      · have nc7 : ¬ z6.toInt = (31 : Int) := mt (i_eq (x := z6) (y := 31)).mpr c7
        refine lv_iconst (v := 0) S.x S.b d_Mpg_checkStatement_256 (by decide) ?_
        refine lv_istore_n (lv' := [(2, .int 0), (0, .ref h), (1, .int p0)]) S.x S.b d_Mpg_checkStatement_257 rfl hl (by decide) rfl (fun ls hl => ?_)
        refine lv_iload_n S.x S.b d_Mpg_checkStatement_258 rfl (lv_at hl 0 rfl) ?_
        refine lv_if_ne (tgt := 274) S.x S.b d_Mpg_checkStatement_259 (by decide) (fun c9 => ?_) (fun c9 => ?_)
        · exact absurd c9 (by decide)
        ·
          refine lv_aload_n S.x S.b d_Mpg_checkStatement_262 rfl (lv_at hl 1 rfl) ?_
          refine lv_bipush (v := 9) S.x S.b d_Mpg_checkStatement_263 (by decide) ?_
          refine lv_aload_n S.x S.b d_Mpg_checkStatement_265 rfl (lv_at hl 1 rfl) ?_
          refine px_get S k_Mpg hT hw 0 0 15 (v := .ref (r 15)) rfl rfl rfl (by decide) m9_239 d_Mpg_checkStatement_266 ?_
          refine lv_iload_n S.x S.b d_Mpg_checkStatement_269 rfl (lv_at hl 2 rfl) ?_
          refine px_iald S hT hw 0 11 (n := 2100) (f := (na 15)) rfl gp_15 (x := p0) (vp_in_iff.mpr (by first | exact oz_a7e05de1cd hsr0.2.2.1 hsr0.2.1 g1 g2 | (constructor <;> omega))) d_Mpg_checkStatement_270 ?_
          refine lv_topi (fun z10 ez10 => ?_)
          have lz10 := Int32.le_toInt z10
          have uz10 := Int32.toInt_lt z10
          have rz10 := ScV.tok hsc_p0 ez10
          refine px_callv (pr := []) (px_runV (As := [.int 9, .int z10]) (rest := []) S (c_mp_bad l D cs h r g tf ta pf na ma wa ca ef ea xf xa cf 9 z10  (show 1 ≤ (9 : Int) from by first | exact oz_672e0d21ed | omega) (show 0 ≤ z10.toInt from by first | exact rz10.1 | omega) (show z10.toInt < (tf 6).toInt from by first | exact oz_7fe81129bf rz10.2 | omega) htk hwr _) hT (pr := []) (pcs := [wdP cs h r g tf ta pf na ma wa cf ca ef ea xf xa]) hw px_X.tt (px_recv hT hw 0 0 rfl rfl rfl) m12_173 m12_170 m12_172 ms_11_12 m1_21 q_Mpg_bad ⟨show 0 + 1 ≤ (6 * (d + 1) + 26) from (by first | exact oz_dd91d5c0fc | omega), show 8 + (3 + 11) + 0 ≤ (260 * (d + 1) + 900) from (by first | exact oz_cb7a9fb84d | omega)⟩ hl.1 rfl (Nat.le_of_ble_eq_true rfl) d_Mpg_checkStatement_271 ⟨Nat.le_of_ble_eq_true rfl, Nat.le_of_ble_eq_true rfl⟩) hw hA (fun p13 H locs hp13 hw => ?_)
          obtain ⟨cf12, rfl, e15, e16, e17, e18, e19, e20, e21, e22, e23, e24, e25, e26, e27, e28, e29, e30, e31, e32, e33, e34⟩ := hp13
          have e15 : KpE cf cf12 := e15
          have hkz_e15 := e15.2
          have e16 : WrV cf12 (tf 6).toInt := e16
          have hwr := e16
          have hw0_e16 := hwr.1
          have e17 : 1 ≤ (cf12 30).toInt := e17
          have e18 : (cf12 33).toInt = (cf 33).toInt := e18
          have e19 : (cf12 38).toInt = (cf 38).toInt := e19
          have e20 : (cf12 48).toInt = (cf 48).toInt := e20
          have e21 : (cf12 46).toInt = (cf 46).toInt := e21
          have e22 : (cf12 47).toInt = (cf 47).toInt := e22
          have e23 : (cf12 57).toInt = (cf 57).toInt := e23
          have e24 : (cf12 37).toInt = (cf 37).toInt := e24
          have e25 : (cf12 42).toInt = (cf 42).toInt := e25
          have e26 : (cf12 43).toInt = (cf 43).toInt := e26
          have e27 : (cf12 44).toInt = (cf 44).toInt := e27
          have e28 : (cf12 45).toInt = (cf 45).toInt := e28
          have e29 : (cf12 54).toInt = (cf 54).toInt := e29
          have e30 : (cf12 55).toInt = (cf 55).toInt := e30
          have e31 : (cf12 58).toInt = (cf 58).toInt := e31
          have e32 : (cf12 59).toInt = (cf 59).toInt := e32
          have e33 : (cf12 41).toInt = (cf 41).toInt := e33
          have e34 : R_mp_bad (9 : Int32) z10 cf cf12 := e34
          have hw : pw D A s.heap H locs [wdP cs h r g tf ta pf na ma wa cf12 ca ef ea xf xa] := hw
          exact px_vret S hr hlk hAe hw (Nat.le_of_ble_eq_true rfl) (Nat.le_of_ble_eq_true rfl) (⟨ma, cf12, ca, rfl, (show (cf12 30).toInt = 0 → (cf 30).toInt = 0 from by first | exact hkz_e15 | omega), (show WrV cf12 (tf 6).toInt from hwr), (show (cf12 37).toInt = (cf 37).toInt from by first | exact e24 | omega), (show (cf12 38).toInt = (cf 38).toInt from by first | exact e19 | omega), (show (cf12 43).toInt = (cf 43).toInt from by first | exact e26 | omega), (show (cf12 44).toInt = (cf 44).toInt from by first | exact e27 | omega), (show (cf12 45).toInt = (cf 45).toInt from by first | exact e28 | omega), (show (cf12 46).toInt = (cf 46).toInt from by first | exact e21 | omega), (show (cf12 47).toInt = (cf 47).toInt from by first | exact e22 | omega), (show (cf12 41).toInt = (cf 41).toInt from by first | exact e33 | omega), (show (cf12 55).toInt = (cf 55).toInt from by first | exact e30 | omega), (show (cf12 59).toInt = (cf 59).toInt from by first | exact e32 | omega), (show (cf 33).toInt ≤ (cf12 33).toInt from by first | exact oz_f9b42d1b56 e18 | omega), (show 6 * (cf12 33).toInt ≤ 6 * (cf 33).toInt + (w) from by first | exact oz_092373726c g5 e18 | omega), (show (cf 48).toInt ≤ (cf12 48).toInt from by first | exact oz_f9b42d1b56 e20 | omega), (show 6 * (cf12 48).toInt ≤ 6 * (cf 48).toInt + (w) from by first | exact oz_092373726c g5 e20 | omega), (show (cf 54).toInt ≤ (cf12 54).toInt from by first | exact oz_f9b42d1b56 e29 | omega), (show (cf 42).toInt ≤ (cf12 42).toInt from by first | exact oz_f9b42d1b56 e25 | omega), (show (cf12 54).toInt - (cf 54).toInt ≤ 4 * ((cf12 42).toInt - (cf 42).toInt) from by first | exact oz_7f23dbcb5f e25 e29 | omega), (show (cf12 54).toInt - (cf 54).toInt ≤ 4096 * ((cf12 48).toInt - (cf 48).toInt) from by first | exact oz_a2be20d97d e20 e29 | omega), (show (cf12 42).toInt - (cf 42).toInt ≤ 4096 * ((cf12 48).toInt - (cf 48).toInt) from by first | exact oz_a2be20d97d e20 e25 | omega), (show KnT (tf 6).toInt ca (cf12 33).toInt from (KnT.eq hkt (by omega))), (show KnS ca (cf12 33).toInt (cf12 48).toInt ys from (KnS.eq hks (by omega) (by omega))), (show CaG ca ca (cf 33).toInt (cf 48).toInt from (hcg.le (by omega) (by omega))), (show SyR ca ys (cf12 48).toInt (cf12 54).toInt tx from (SyR.eq hsr (by omega) (by omega))), (show Ann na ma0 ma from han), (show FrC lo hi ma ma from hfc), (show ZTe cf12 ta ca na ma0 (cf12 48).toInt ys nf ma lo hi p0 (tgv (cf 44).toInt (cf 45).toInt) from (zr_no (by omega))), (show R_mp_checkStatement (RL_mp_checkStatement d) tf ta na p0 ma cf ca ma cf12 ca from (Or.inl ⟨z1, ez1, Or.inl ⟨hdf_6, Or.inr ⟨nc3, z6, ez6, Or.inl ⟨nc7, z10, ez10, cf12, e34, rfl, rfl, rfl⟩⟩⟩⟩))⟩) d_Mpg_checkStatement_274
      · have nc7 : z6.toInt = (31 : Int) := (i_eq (x := z6) (y := 31)).mp c7
        refine lv_aload_n S.x S.b d_Mpg_checkStatement_245 rfl (lv_at hl 0 rfl) ?_
        refine px_get S k_Mpg hT hw 0 0 45 (v := .int (cf 45)) rfl rfl rfl (by decide) m10_36 d_Mpg_checkStatement_246 ?_
        refine lv_if_le (tgt := 256) S.x S.b d_Mpg_checkStatement_249 (by decide) (fun c35 => ?_) (fun c35 => ?_)
        · have nc35 : (cf 45).toInt ≤ (0 : Int) := (i_le (x := (cf 45)) (y := 0)).mp c35
          refine lv_iconst (v := 0) S.x S.b d_Mpg_checkStatement_256 (by decide) ?_
          refine lv_istore_n (lv' := [(2, .int 0), (0, .ref h), (1, .int p0)]) S.x S.b d_Mpg_checkStatement_257 rfl hl (by decide) rfl (fun ls hl => ?_)
          refine lv_iload_n S.x S.b d_Mpg_checkStatement_258 rfl (lv_at hl 0 rfl) ?_
          refine lv_if_ne (tgt := 274) S.x S.b d_Mpg_checkStatement_259 (by decide) (fun c37 => ?_) (fun c37 => ?_)
          · exact absurd c37 (by decide)
          ·
            refine lv_aload_n S.x S.b d_Mpg_checkStatement_262 rfl (lv_at hl 1 rfl) ?_
            refine lv_bipush (v := 9) S.x S.b d_Mpg_checkStatement_263 (by decide) ?_
            refine lv_aload_n S.x S.b d_Mpg_checkStatement_265 rfl (lv_at hl 1 rfl) ?_
            refine px_get S k_Mpg hT hw 0 0 15 (v := .ref (r 15)) rfl rfl rfl (by decide) m9_239 d_Mpg_checkStatement_266 ?_
            refine lv_iload_n S.x S.b d_Mpg_checkStatement_269 rfl (lv_at hl 2 rfl) ?_
            refine px_iald S hT hw 0 11 (n := 2100) (f := (na 15)) rfl gp_15 (x := p0) (vp_in_iff.mpr (by first | exact oz_a7e05de1cd hsr0.2.2.1 hsr0.2.1 g1 g2 | (constructor <;> omega))) d_Mpg_checkStatement_270 ?_
            refine lv_topi (fun z38 ez38 => ?_)
            have lz38 := Int32.le_toInt z38
            have uz38 := Int32.toInt_lt z38
            have rz38 := ScV.tok hsc_p0 ez38
            refine px_callv (pr := []) (px_runV (As := [.int 9, .int z38]) (rest := []) S (c_mp_bad l D cs h r g tf ta pf na ma wa ca ef ea xf xa cf 9 z38  (show 1 ≤ (9 : Int) from by first | exact oz_672e0d21ed | omega) (show 0 ≤ z38.toInt from by first | exact rz38.1 | omega) (show z38.toInt < (tf 6).toInt from by first | exact oz_7fe81129bf rz38.2 | omega) htk hwr _) hT (pr := []) (pcs := [wdP cs h r g tf ta pf na ma wa cf ca ef ea xf xa]) hw px_X.tt (px_recv hT hw 0 0 rfl rfl rfl) m12_173 m12_170 m12_172 ms_11_12 m1_21 q_Mpg_bad ⟨show 0 + 1 ≤ (6 * (d + 1) + 26) from (by first | exact oz_dd91d5c0fc | omega), show 8 + (3 + 11) + 0 ≤ (260 * (d + 1) + 900) from (by first | exact oz_cb7a9fb84d | omega)⟩ hl.1 rfl (Nat.le_of_ble_eq_true rfl) d_Mpg_checkStatement_271 ⟨Nat.le_of_ble_eq_true rfl, Nat.le_of_ble_eq_true rfl⟩) hw hA (fun p41 H locs hp41 hw => ?_)
            obtain ⟨cf40, rfl, e43, e44, e45, e46, e47, e48, e49, e50, e51, e52, e53, e54, e55, e56, e57, e58, e59, e60, e61, e62⟩ := hp41
            have e43 : KpE cf cf40 := e43
            have hkz_e43 := e43.2
            have e44 : WrV cf40 (tf 6).toInt := e44
            have hwr := e44
            have hw0_e44 := hwr.1
            have e45 : 1 ≤ (cf40 30).toInt := e45
            have e46 : (cf40 33).toInt = (cf 33).toInt := e46
            have e47 : (cf40 38).toInt = (cf 38).toInt := e47
            have e48 : (cf40 48).toInt = (cf 48).toInt := e48
            have e49 : (cf40 46).toInt = (cf 46).toInt := e49
            have e50 : (cf40 47).toInt = (cf 47).toInt := e50
            have e51 : (cf40 57).toInt = (cf 57).toInt := e51
            have e52 : (cf40 37).toInt = (cf 37).toInt := e52
            have e53 : (cf40 42).toInt = (cf 42).toInt := e53
            have e54 : (cf40 43).toInt = (cf 43).toInt := e54
            have e55 : (cf40 44).toInt = (cf 44).toInt := e55
            have e56 : (cf40 45).toInt = (cf 45).toInt := e56
            have e57 : (cf40 54).toInt = (cf 54).toInt := e57
            have e58 : (cf40 55).toInt = (cf 55).toInt := e58
            have e59 : (cf40 58).toInt = (cf 58).toInt := e59
            have e60 : (cf40 59).toInt = (cf 59).toInt := e60
            have e61 : (cf40 41).toInt = (cf 41).toInt := e61
            have e62 : R_mp_bad (9 : Int32) z38 cf cf40 := e62
            have hw : pw D A s.heap H locs [wdP cs h r g tf ta pf na ma wa cf40 ca ef ea xf xa] := hw
            exact px_vret S hr hlk hAe hw (Nat.le_of_ble_eq_true rfl) (Nat.le_of_ble_eq_true rfl) (⟨ma, cf40, ca, rfl, (show (cf40 30).toInt = 0 → (cf 30).toInt = 0 from by first | exact hkz_e43 | omega), (show WrV cf40 (tf 6).toInt from hwr), (show (cf40 37).toInt = (cf 37).toInt from by first | exact e52 | omega), (show (cf40 38).toInt = (cf 38).toInt from by first | exact e47 | omega), (show (cf40 43).toInt = (cf 43).toInt from by first | exact e54 | omega), (show (cf40 44).toInt = (cf 44).toInt from by first | exact e55 | omega), (show (cf40 45).toInt = (cf 45).toInt from by first | exact e56 | omega), (show (cf40 46).toInt = (cf 46).toInt from by first | exact e49 | omega), (show (cf40 47).toInt = (cf 47).toInt from by first | exact e50 | omega), (show (cf40 41).toInt = (cf 41).toInt from by first | exact e61 | omega), (show (cf40 55).toInt = (cf 55).toInt from by first | exact e58 | omega), (show (cf40 59).toInt = (cf 59).toInt from by first | exact e60 | omega), (show (cf 33).toInt ≤ (cf40 33).toInt from by first | exact oz_f9b42d1b56 e46 | omega), (show 6 * (cf40 33).toInt ≤ 6 * (cf 33).toInt + (w) from by first | exact oz_092373726c g5 e46 | omega), (show (cf 48).toInt ≤ (cf40 48).toInt from by first | exact oz_f9b42d1b56 e48 | omega), (show 6 * (cf40 48).toInt ≤ 6 * (cf 48).toInt + (w) from by first | exact oz_092373726c g5 e48 | omega), (show (cf 54).toInt ≤ (cf40 54).toInt from by first | exact oz_f9b42d1b56 e57 | omega), (show (cf 42).toInt ≤ (cf40 42).toInt from by first | exact oz_f9b42d1b56 e53 | omega), (show (cf40 54).toInt - (cf 54).toInt ≤ 4 * ((cf40 42).toInt - (cf 42).toInt) from by first | exact oz_7f23dbcb5f e53 e57 | omega), (show (cf40 54).toInt - (cf 54).toInt ≤ 4096 * ((cf40 48).toInt - (cf 48).toInt) from by first | exact oz_a2be20d97d e48 e57 | omega), (show (cf40 42).toInt - (cf 42).toInt ≤ 4096 * ((cf40 48).toInt - (cf 48).toInt) from by first | exact oz_a2be20d97d e48 e53 | omega), (show KnT (tf 6).toInt ca (cf40 33).toInt from (KnT.eq hkt (by omega))), (show KnS ca (cf40 33).toInt (cf40 48).toInt ys from (KnS.eq hks (by omega) (by omega))), (show CaG ca ca (cf 33).toInt (cf 48).toInt from (hcg.le (by omega) (by omega))), (show SyR ca ys (cf40 48).toInt (cf40 54).toInt tx from (SyR.eq hsr (by omega) (by omega))), (show Ann na ma0 ma from han), (show FrC lo hi ma ma from hfc), (show ZTe cf40 ta ca na ma0 (cf40 48).toInt ys nf ma lo hi p0 (tgv (cf 44).toInt (cf 45).toInt) from (zr_no (by omega))), (show R_mp_checkStatement (RL_mp_checkStatement d) tf ta na p0 ma cf ca ma cf40 ca from (Or.inl ⟨z1, ez1, Or.inl ⟨hdf_6, Or.inr ⟨nc3, z6, ez6, Or.inr ⟨nc7, Or.inl ⟨nc35, z38, ez38, cf40, e62, rfl, rfl, rfl⟩⟩⟩⟩⟩))⟩) d_Mpg_checkStatement_274
        · have nc35 : ¬ (cf 45).toInt ≤ (0 : Int) := mt (i_le (x := (cf 45)) (y := 0)).mpr c35
          refine lv_iconst (v := 1) S.x S.b d_Mpg_checkStatement_252 (by decide) ?_
          refine lv_goto (tgt := 257) S.x S.b d_Mpg_checkStatement_253 (by decide) ?_
          refine lv_istore_n (lv' := [(2, .int 1), (0, .ref h), (1, .int p0)]) S.x S.b d_Mpg_checkStatement_257 rfl hl (by decide) rfl (fun ls hl => ?_)
          refine lv_iload_n S.x S.b d_Mpg_checkStatement_258 rfl (lv_at hl 0 rfl) ?_
          refine lv_if_ne (tgt := 274) S.x S.b d_Mpg_checkStatement_259 (by decide) (fun c63 => ?_) (fun c63 => ?_)
          ·
            exact px_vret S hr hlk hAe hw (Nat.le_of_ble_eq_true rfl) (Nat.le_of_ble_eq_true rfl) (⟨ma, cf, ca, rfl, (show (cf 30).toInt = 0 → (cf 30).toInt = 0 from by first | exact fun q9 => q9 | omega), (show WrV cf (tf 6).toInt from hwr), (show (cf 37).toInt = (cf 37).toInt from rfl), (show (cf 38).toInt = (cf 38).toInt from rfl), (show (cf 43).toInt = (cf 43).toInt from rfl), (show (cf 44).toInt = (cf 44).toInt from rfl), (show (cf 45).toInt = (cf 45).toInt from rfl), (show (cf 46).toInt = (cf 46).toInt from rfl), (show (cf 47).toInt = (cf 47).toInt from rfl), (show (cf 41).toInt = (cf 41).toInt from rfl), (show (cf 55).toInt = (cf 55).toInt from rfl), (show (cf 59).toInt = (cf 59).toInt from rfl), (show (cf 33).toInt ≤ (cf 33).toInt from by first | exact oz_1cb5f934a5 | omega), (show 6 * (cf 33).toInt ≤ 6 * (cf 33).toInt + (w) from by first | exact oz_5a408f7934 g5 | omega), (show (cf 48).toInt ≤ (cf 48).toInt from by first | exact oz_1cb5f934a5 | omega), (show 6 * (cf 48).toInt ≤ 6 * (cf 48).toInt + (w) from by first | exact oz_5a408f7934 g5 | omega), (show (cf 54).toInt ≤ (cf 54).toInt from by first | exact oz_1cb5f934a5 | omega), (show (cf 42).toInt ≤ (cf 42).toInt from by first | exact oz_1cb5f934a5 | omega), (show (cf 54).toInt - (cf 54).toInt ≤ 4 * ((cf 42).toInt - (cf 42).toInt) from by first | exact oz_a1153f1990 | omega), (show (cf 54).toInt - (cf 54).toInt ≤ 4096 * ((cf 48).toInt - (cf 48).toInt) from by first | exact oz_f4137ca117 | omega), (show (cf 42).toInt - (cf 42).toInt ≤ 4096 * ((cf 48).toInt - (cf 48).toInt) from by first | exact oz_f4137ca117 | omega), (show KnT (tf 6).toInt ca (cf 33).toInt from (KnT.eq hkt (by omega))), (show KnS ca (cf 33).toInt (cf 48).toInt ys from (KnS.eq hks (by omega) (by omega))), (show CaG ca ca (cf 33).toInt (cf 48).toInt from (hcg.le (by omega) (by omega))), (show SyR ca ys (cf 48).toInt (cf 54).toInt tx from (SyR.eq hsr (by omega) (by omega))), (show Ann na ma0 ma from han), (show FrC lo hi ma ma from hfc), (show ZTe cf ta ca na ma0 (cf 48).toInt ys nf ma lo hi p0 (tgv (cf 44).toInt (cf 45).toInt) from (fun zz => by first | exact tys_0 ⟨by omega, by omega, by omega⟩ tgv_rng (by omega) | exact tys_j ⟨by omega, by omega, by omega⟩ (by omega) (tgv_4 (by omega)) | exact tys_31 ⟨by omega, by omega, by omega⟩ tgv_rng (by omega) (tgv_ge (by omega)))), (show R_mp_checkStatement (RL_mp_checkStatement d) tf ta na p0 ma cf ca ma cf ca from (Or.inl ⟨z1, ez1, Or.inl ⟨hdf_6, Or.inr ⟨nc3, z6, ez6, Or.inr ⟨nc7, Or.inr ⟨nc35, rfl, rfl, rfl⟩⟩⟩⟩⟩))⟩) d_Mpg_checkStatement_274
          · exact absurd c63 (by decide)
  · refine List.forall_mem_cons.mpr ⟨fun c64 => ?_, List.forall_mem_cons.mpr ⟨fun c64 => ?_, List.forall_mem_cons.mpr ⟨fun c64 => ?_, List.forall_mem_cons.mpr ⟨fun c64 => ?_, List.forall_mem_cons.mpr ⟨fun c64 => ?_, List.forall_mem_cons.mpr ⟨fun c64 => ?_, List.forall_mem_cons.mpr ⟨fun c64 => ?_, List.forall_mem_cons.mpr ⟨fun c64 => ?_, List.forall_mem_cons.mpr ⟨fun c64 => ?_, List.forall_mem_cons.mpr ⟨fun c64 => ?_, List.forall_mem_cons.mpr ⟨fun c64 => ?_, fun _ h => absurd h List.not_mem_nil⟩⟩⟩⟩⟩⟩⟩⟩⟩⟩⟩
    · simp only [List.mem_cons, List.not_mem_nil, or_false] at c64
      refine lv_aload_n S.x S.b d_Mpg_checkStatement_76 rfl (lv_at hl 0 rfl) ?_
      refine lv_iload_n S.x S.b d_Mpg_checkStatement_77 rfl (lv_at hl 1 rfl) ?_
      refine px_callv (pr := []) (px_runV (As := [.int p0]) (rest := []) S (c_mp_checkBlock l D cs ma0 ys nf tx d lo hi w h r g tf ta pf na wa ef ea xf xa ma cf ca p0  (show 0 ≤ lo from by first | exact g0 | omega) (show hi ≤ (pf 13).toInt from by first | exact g1 | omega) (show (pf 13).toInt ≤ 2100 from by first | exact g2 | omega) (show (tf 6).toInt ≤ 2049 from by first | exact g3 | omega) (show 0 ≤ (cf 33).toInt from by first | exact g4 | omega) (show 0 ≤ w from by first | exact g5 | omega) (show 6 * (cf 33).toInt + w ≤ 6540 from by first | exact g6 | omega) (show 0 ≤ (cf 48).toInt from by first | exact g7 | omega) (show 6 * (cf 48).toInt + w ≤ 6540 from by first | exact g8 | omega) (show (cf 38).toInt = nf from by first | exact g9 | omega) (show 0 ≤ nf from by first | exact g10 | omega) (show 0 ≤ (cf 37).toInt from by first | exact g11 | omega) (show 0 ≤ (cf 54).toInt from by first | exact g12 | omega) (show (cf 54).toInt ≤ 4096 * (cf 48).toInt from by first | exact g13 | omega) (show 0 ≤ (cf 42).toInt from by first | exact g14 | omega) (show (cf 42).toInt ≤ 4 + 4096 * (cf 48).toInt from by first | exact g15 | omega) (show 0 ≤ (cf 44).toInt from by first | exact g16 | omega) (show 0 ≤ (cf 45).toInt from by first | exact g17 | omega) (show ys ≤ (cf 48).toInt ∨ tx = 1 from by first | exact g18 | omega) (show 0 ≤ (cf 46).toInt from by first | exact g19 | omega) (show (cf 46).toInt ≤ 1 from by first | exact g20 | omega) (show 0 ≤ (cf 47).toInt from by first | exact g21 | omega) (show (cf 47).toInt ≤ 1 from by first | exact g22 | omega) (show (cf 44).toInt + (d : Int) ≤ 400 from by first | exact oz_8237b40f3f g23 | omega) (show (cf 45).toInt + (d : Int) ≤ 400 from by first | exact oz_8237b40f3f g24 | omega) (show 0 ≤ (cf 43).toInt from by first | exact g25 | omega) (show (cf 43).toInt < 2100 from by first | exact g26 | omega) (show tx = 0 from by first | exact g27 | omega) (show (na 14 p0.toNatClampNeg).toInt = 20 from by omega) htk (FsI.le (N' := (pf 13).toInt) hfs (by omega)) hwr (KnT.eq hkt (by omega)) (FnT.eq hft (by omega)) (KnS.eq hks (by omega) (by omega)) hfp (SyR.eq hsr (by omega) (by omega)) han (show txo (cf 43).toInt = tx from by rw [show (cf 43).toInt = (cf 43).toInt by omega]; exact htx) hsc_p0 hLS _) hT (pr := []) (pcs := [wdP cs h r g tf ta pf na ma wa cf ca ef ea xf xa]) hw (oX_call (P := (fun A U H => (oP A g U H))) (pr := []) oG_P hw hA hP) (px_recv hT hw 0 0 rfl rfl rfl) m12_205 m12_202 m12_204 ms_12_4 m1_21 q_Mpg_checkBlock ⟨show (6 * d + 28) + 1 ≤ (6 * (d + 1) + 26) from (by first | exact oz_1b56cf04f4 | omega), show 8 + (4 + 11) + (260 * d + 980) ≤ (260 * (d + 1) + 900) from (by first | exact oz_f12115f098 | omega)⟩ hl.1 rfl (Nat.le_of_ble_eq_true rfl) d_Mpg_checkStatement_78 ⟨Nat.le_of_ble_eq_true rfl, Nat.le_of_ble_eq_true rfl⟩) hw hA (fun p71 H locs hp71 hw => ?_)
      obtain ⟨ma68, cf69, ca70, rfl, e73, e74, e75, e76, e77, e78, e79, e80, e81, e82, e83, e84, e85, e86, e87, e88, e89, e90, e91, e92, e93, e94, e95, e96, e97, e98, e99, e100⟩ := hp71
      have e73 : (cf69 30).toInt = 0 → (cf 30).toInt = 0 := e73
      have e74 : WrV cf69 (tf 6).toInt := e74
      have hwr := e74
      have hw0_e74 := hwr.1
      have e75 : (cf69 37).toInt = (cf 37).toInt := e75
      have e76 : (cf69 38).toInt = (cf 38).toInt := e76
      have e77 : (cf69 43).toInt = (cf 43).toInt := e77
      have e78 : (cf69 44).toInt = (cf 44).toInt := e78
      have e79 : (cf69 45).toInt = (cf 45).toInt := e79
      have e80 : (cf69 46).toInt = (cf 46).toInt := e80
      have e81 : (cf69 47).toInt = (cf 47).toInt := e81
      have e82 : (cf69 41).toInt = (cf 41).toInt := e82
      have e83 : (cf69 55).toInt = (cf 55).toInt := e83
      have e84 : (cf69 59).toInt = (cf 59).toInt := e84
      have e85 : (cf69 33).toInt = (cf 33).toInt := e85
      have e86 : (cf 48).toInt ≤ (cf69 48).toInt := e86
      have e87 : 6 * (cf69 48).toInt ≤ 6 * (cf 48).toInt + (w) := e87
      have e88 : (cf 54).toInt ≤ (cf69 54).toInt := e88
      have e89 : (cf 42).toInt ≤ (cf69 42).toInt := e89
      have e90 : (cf69 54).toInt - (cf 54).toInt ≤ 4 * ((cf69 42).toInt - (cf 42).toInt) := e90
      have e91 : (cf69 54).toInt - (cf 54).toInt ≤ 4096 * ((cf69 48).toInt - (cf 48).toInt) := e91
      have e92 : (cf69 42).toInt - (cf 42).toInt ≤ 4096 * ((cf69 48).toInt - (cf 48).toInt) := e92
      have e93 : KnT (tf 6).toInt ca70 (cf69 33).toInt := e93
      have hkt := e93
      have hk11_e93 := hkt.1
      have e94 : KnS ca70 (cf69 33).toInt (cf69 48).toInt ys := e94
      have hks := e94
      have e95 : CaG ca ca70 (cf 33).toInt (cf 48).toInt := e95
      have hcg := hcg.tr e95 (by omega) (by omega)
      have hft := hft.cg e95
      have hfp := hfp.cg e95
      have e96 : SyR ca70 ys (cf69 48).toInt (cf69 54).toInt tx := e96
      have hsr := e96
      have e97 : Ann na ma0 ma68 := e97
      have han := e97
      have e98 : FrC lo hi ma ma68 := e98
      have hfc := hfc.tr e98 (by omega) (by omega)
      have e99 : ZTe cf69 ta ca70 na ma0 (cf69 48).toInt ys nf ma68 lo hi p0 (tgv (cf 44).toInt (cf 45).toInt) := e99
      have hts_p0 : ZTe cf69 ta ca70 na ma0 (cf69 48).toInt ys nf ma68 lo hi p0 (tgv (cf 44).toInt (cf 45).toInt) := ZTe.to e99 (fun q => by omega) (by omega) (Int.le_refl _) (Int.le_refl _) (by congr 1 <;> omega)
      have e100 : R_mp_checkBlock (RL_mp_checkStatement d) tf ta na p0 ma cf ca ma68 cf69 ca70 := e100
      have hw : pw D A s.heap H locs [wdP cs h r g tf ta pf na ma68 wa cf69 ca70 ef ea xf xa] := hw
      refine lv_goto (tgt := 274) S.x S.b d_Mpg_checkStatement_81 (by decide) ?_
      exact px_vret S hr hlk hAe hw (Nat.le_of_ble_eq_true rfl) (Nat.le_of_ble_eq_true rfl) (⟨ma68, cf69, ca70, rfl, (show (cf69 30).toInt = 0 → (cf 30).toInt = 0 from by first | exact e73 | omega), (show WrV cf69 (tf 6).toInt from hwr), (show (cf69 37).toInt = (cf 37).toInt from by first | exact e75 | omega), (show (cf69 38).toInt = (cf 38).toInt from by first | exact e76 | omega), (show (cf69 43).toInt = (cf 43).toInt from by first | exact e77 | omega), (show (cf69 44).toInt = (cf 44).toInt from by first | exact e78 | omega), (show (cf69 45).toInt = (cf 45).toInt from by first | exact e79 | omega), (show (cf69 46).toInt = (cf 46).toInt from by first | exact e80 | omega), (show (cf69 47).toInt = (cf 47).toInt from by first | exact e81 | omega), (show (cf69 41).toInt = (cf 41).toInt from by first | exact e82 | omega), (show (cf69 55).toInt = (cf 55).toInt from by first | exact e83 | omega), (show (cf69 59).toInt = (cf 59).toInt from by first | exact e84 | omega), (show (cf 33).toInt ≤ (cf69 33).toInt from by first | exact oz_f9b42d1b56 e85 | omega), (show 6 * (cf69 33).toInt ≤ 6 * (cf 33).toInt + (w) from by first | exact oz_26218e8869 e85 e87 e86 | omega), (show (cf 48).toInt ≤ (cf69 48).toInt from by first | exact e86 | omega), (show 6 * (cf69 48).toInt ≤ 6 * (cf 48).toInt + (w) from by first | exact e87 | omega), (show (cf 54).toInt ≤ (cf69 54).toInt from by first | exact e88 | omega), (show (cf 42).toInt ≤ (cf69 42).toInt from by first | exact e89 | omega), (show (cf69 54).toInt - (cf 54).toInt ≤ 4 * ((cf69 42).toInt - (cf 42).toInt) from by first | exact e90 | omega), (show (cf69 54).toInt - (cf 54).toInt ≤ 4096 * ((cf69 48).toInt - (cf 48).toInt) from by first | exact e91 | omega), (show (cf69 42).toInt - (cf 42).toInt ≤ 4096 * ((cf69 48).toInt - (cf 48).toInt) from by first | exact e92 | omega), (show KnT (tf 6).toInt ca70 (cf69 33).toInt from (KnT.eq hkt (by omega))), (show KnS ca70 (cf69 33).toInt (cf69 48).toInt ys from (KnS.eq hks (by omega) (by omega))), (show CaG ca ca70 (cf 33).toInt (cf 48).toInt from (hcg.le (by omega) (by omega))), (show SyR ca70 ys (cf69 48).toInt (cf69 54).toInt tx from (SyR.eq hsr (by omega) (by omega))), (show Ann na ma0 ma68 from han), (show FrC lo hi ma ma68 from hfc), (show ZTe cf69 ta ca70 na ma0 (cf69 48).toInt ys nf ma68 lo hi p0 (tgv (cf 44).toInt (cf 45).toInt) from (ZTe.to hts_p0 (fun q => by omega) (by omega) (by omega) (by omega) rfl)), (show R_mp_checkStatement (RL_mp_checkStatement d) tf ta na p0 ma cf ca ma68 cf69 ca70 from (Or.inl ⟨z1, ez1, Or.inr (Or.inl ⟨c64, ma68, cf69, ca70, e100, rfl, rfl, rfl⟩)⟩))⟩) d_Mpg_checkStatement_274
    · simp only [List.mem_cons, List.not_mem_nil, or_false] at c64
      refine lv_goto (tgt := 274) S.x S.b d_Mpg_checkStatement_84 (by decide) ?_
      exact px_vret S hr hlk hAe hw (Nat.le_of_ble_eq_true rfl) (Nat.le_of_ble_eq_true rfl) (⟨ma, cf, ca, rfl, (show (cf 30).toInt = 0 → (cf 30).toInt = 0 from by first | exact fun q9 => q9 | omega), (show WrV cf (tf 6).toInt from hwr), (show (cf 37).toInt = (cf 37).toInt from rfl), (show (cf 38).toInt = (cf 38).toInt from rfl), (show (cf 43).toInt = (cf 43).toInt from rfl), (show (cf 44).toInt = (cf 44).toInt from rfl), (show (cf 45).toInt = (cf 45).toInt from rfl), (show (cf 46).toInt = (cf 46).toInt from rfl), (show (cf 47).toInt = (cf 47).toInt from rfl), (show (cf 41).toInt = (cf 41).toInt from rfl), (show (cf 55).toInt = (cf 55).toInt from rfl), (show (cf 59).toInt = (cf 59).toInt from rfl), (show (cf 33).toInt ≤ (cf 33).toInt from by first | exact oz_1cb5f934a5 | omega), (show 6 * (cf 33).toInt ≤ 6 * (cf 33).toInt + (w) from by first | exact oz_5a408f7934 g5 | omega), (show (cf 48).toInt ≤ (cf 48).toInt from by first | exact oz_1cb5f934a5 | omega), (show 6 * (cf 48).toInt ≤ 6 * (cf 48).toInt + (w) from by first | exact oz_5a408f7934 g5 | omega), (show (cf 54).toInt ≤ (cf 54).toInt from by first | exact oz_1cb5f934a5 | omega), (show (cf 42).toInt ≤ (cf 42).toInt from by first | exact oz_1cb5f934a5 | omega), (show (cf 54).toInt - (cf 54).toInt ≤ 4 * ((cf 42).toInt - (cf 42).toInt) from by first | exact oz_a1153f1990 | omega), (show (cf 54).toInt - (cf 54).toInt ≤ 4096 * ((cf 48).toInt - (cf 48).toInt) from by first | exact oz_f4137ca117 | omega), (show (cf 42).toInt - (cf 42).toInt ≤ 4096 * ((cf 48).toInt - (cf 48).toInt) from by first | exact oz_f4137ca117 | omega), (show KnT (tf 6).toInt ca (cf 33).toInt from (KnT.eq hkt (by omega))), (show KnS ca (cf 33).toInt (cf 48).toInt ys from (KnS.eq hks (by omega) (by omega))), (show CaG ca ca (cf 33).toInt (cf 48).toInt from (hcg.le (by omega) (by omega))), (show SyR ca ys (cf 48).toInt (cf 54).toInt tx from (SyR.eq hsr (by omega) (by omega))), (show Ann na ma0 ma from han), (show FrC lo hi ma ma from hfc), (show ZTe cf ta ca na ma0 (cf 48).toInt ys nf ma lo hi p0 (tgv (cf 44).toInt (cf 45).toInt) from (fun zz => by first | exact tys_0 ⟨by omega, by omega, by omega⟩ tgv_rng (by omega) | exact tys_j ⟨by omega, by omega, by omega⟩ (by omega) (tgv_4 (by omega)) | exact tys_31 ⟨by omega, by omega, by omega⟩ tgv_rng (by omega) (tgv_ge (by omega)))), (show R_mp_checkStatement (RL_mp_checkStatement d) tf ta na p0 ma cf ca ma cf ca from (Or.inl ⟨z1, ez1, Or.inr (Or.inr (Or.inl ⟨c64, rfl, rfl, rfl⟩))⟩))⟩) d_Mpg_checkStatement_274
    · simp only [List.mem_cons, List.not_mem_nil, or_false] at c64
      refine lv_aload_n S.x S.b d_Mpg_checkStatement_87 rfl (lv_at hl 0 rfl) ?_
      refine lv_aload_n S.x S.b d_Mpg_checkStatement_88 rfl (lv_at hl 0 rfl) ?_
      have hea := ScV.s22 hsc (by omega) (z := na 17 p0.toNatClampNeg) rfl
      refine px_get S k_Mpg hT hw 0 0 17 (v := .ref (r 17)) rfl rfl rfl (by decide) m10_1 d_Mpg_checkStatement_89 ?_
      refine lv_iload_n S.x S.b d_Mpg_checkStatement_92 rfl (lv_at hl 1 rfl) ?_
      refine px_iald S hT hw 0 13 (n := 2100) (f := (na 17)) rfl gp_17 (x := p0) (vp_in_iff.mpr (by first | exact oz_a7e05de1cd hsr0.2.2.1 hsr0.2.1 g1 g2 | (constructor <;> omega))) d_Mpg_checkStatement_93 ?_
      refine lv_topi (fun z101 ez101 => ?_)
      have lz101 := Int32.le_toInt z101
      have uz101 := Int32.toInt_lt z101
      have ha_z101 : z101 = na 17 p0.toNatClampNeg := ez101; have hn_z101 : z101.toInt = (na 17 p0.toNatClampNeg).toInt := (by rw [ha_z101]); have hev_z101 : ErV ta (tf 6).toInt na ma0 d (p0.toInt + 1) hi (w - 1) z101 := (by rw [ha_z101]; exact hea); obtain ⟨hec_z101, h20_z101, hw_z101⟩ := hev_z101.ec; have hrg_z101 := EcV.rng hec_z101
      refine px_callv (pr := []) (px_runV (As := [.int z101]) (rest := []) S (c_mp_checkAlone l D cs ma0 ys (cf 48).toInt nf (cf 33).toInt d (p0.toInt + 1) hi h r g tf ta pf na wa ca ef ea xf xa ma cf z101  (show 0 ≤ (p0.toInt + 1) from by first | exact oz_c12c169b81 hsr0.2.2.1 | omega) (show hi ≤ (pf 13).toInt from by first | exact g1 | omega) (show (pf 13).toInt ≤ 2100 from by first | exact g2 | omega) (show (tf 6).toInt ≤ 2049 from by first | exact g3 | omega) (show (cf 33).toInt = (cf 33).toInt from rfl) (show 0 ≤ (cf 33).toInt from by first | exact g4 | omega) (show (cf 48).toInt = (cf 48).toInt from rfl) (show (cf 38).toInt = nf from by first | exact g9 | omega) (show 0 ≤ nf from by first | exact g10 | omega) htk (FsI.le (N' := (pf 13).toInt) hfs (by omega)) hwr (KnT.eq hkt (by omega)) (FnT.eq hft (by omega)) (KnS.eq hks (by omega) (by omega)) hfp han hec_z101 _) hT (pr := []) (pcs := [wdP cs h r g tf ta pf na ma wa cf ca ef ea xf xa]) hw (oX_call (P := (fun A U H => (oP A g U H))) (pr := []) oG_P hw hA hP) (px_recv hT hw 0 0 rfl rfl rfl) m12_213 m12_210 m12_212 ms_12_6 m1_21 q_Mpg_checkAlone ⟨show (4 * d + 13) + 1 ≤ (6 * (d + 1) + 26) from (by first | exact oz_40fcc4b606 | omega), show 8 + (3 + 11) + (200 * d + 460) ≤ (260 * (d + 1) + 900) from (by first | exact oz_fe2dcec7de | omega)⟩ hl.1 rfl (Nat.le_of_ble_eq_true rfl) d_Mpg_checkStatement_94 ⟨Nat.le_of_ble_eq_true rfl, Nat.le_of_ble_eq_true rfl⟩) hw hA (fun p106 H locs hp106 hw => ?_)
      obtain ⟨ma104, cf105, rfl, e108, e109, e110, e111, e112, e113, e114, e115, e116, e117, e118, e119⟩ := hp106
      have e108 : KpE cf cf105 := e108
      have hkz_e108 := e108.2
      have hkk37_e108 : (cf105 37).toInt = (cf 37).toInt := (by rw [e108.1 37 (by decide) (by decide) (by decide) (by decide) (by decide)] <;> rfl)
      have hkk43_e108 : (cf105 43).toInt = (cf 43).toInt := (by rw [e108.1 43 (by decide) (by decide) (by decide) (by decide) (by decide)] <;> rfl)
      have hkk44_e108 : (cf105 44).toInt = (cf 44).toInt := (by rw [e108.1 44 (by decide) (by decide) (by decide) (by decide) (by decide)] <;> rfl)
      have hkk45_e108 : (cf105 45).toInt = (cf 45).toInt := (by rw [e108.1 45 (by decide) (by decide) (by decide) (by decide) (by decide)] <;> rfl)
      have hkk41_e108 : (cf105 41).toInt = (cf 41).toInt := (by rw [e108.1 41 (by decide) (by decide) (by decide) (by decide) (by decide)] <;> rfl)
      have hkk55_e108 : (cf105 55).toInt = (cf 55).toInt := (by rw [e108.1 55 (by decide) (by decide) (by decide) (by decide) (by decide)] <;> rfl)
      have hkk59_e108 : (cf105 59).toInt = (cf 59).toInt := (by rw [e108.1 59 (by decide) (by decide) (by decide) (by decide) (by decide)] <;> rfl)
      have hkk42_e108 : (cf105 42).toInt = (cf 42).toInt := (by rw [e108.1 42 (by decide) (by decide) (by decide) (by decide) (by decide)] <;> rfl)
      have hkk54_e108 : (cf105 54).toInt = (cf 54).toInt := (by rw [e108.1 54 (by decide) (by decide) (by decide) (by decide) (by decide)] <;> rfl)
      have hkk58_e108 : (cf105 58).toInt = (cf 58).toInt := (by rw [e108.1 58 (by decide) (by decide) (by decide) (by decide) (by decide)] <;> rfl)
      have e109 : WrV cf105 (tf 6).toInt := e109
      have hwr := e109
      have hw0_e109 := hwr.1
      have e110 : (cf105 33).toInt = (cf 33).toInt := e110
      have e111 : (cf105 38).toInt = (cf 38).toInt := e111
      have e112 : (cf105 48).toInt = (cf 48).toInt := e112
      have e113 : (cf105 46).toInt = (cf 46).toInt := e113
      have e114 : (cf105 47).toInt = (cf 47).toInt := e114
      have e115 : (cf105 57).toInt = (cf 57).toInt := e115
      have e116 : Ann na ma0 ma104 := e116
      have han := e116
      have e117 : FrC (p0.toInt + 1) hi ma ma104 := e117
      have hfc := hfc.tr e117 (by omega) (by omega)
      have e118 : ZT0 cf105 (Gk ta ca na ma0 (cf 48).toInt ys nf) na ma104 (p0.toInt + 1) hi z101 := e118
      have hty_z101 : ZTe cf105 ta ca na ma0 (cf105 48).toInt ys nf ma104 (p0.toInt + 1) hi z101 0 := ZTe.to (t := 0) e118 (fun q => by omega) (by omega) (Int.le_refl _) (Int.le_refl _) rfl
      have e119 : R_mp_checkAlone tf ta na ca z101 ma cf ma104 cf105 := e119
      have hw : pw D A s.heap H locs [wdP cs h r g tf ta pf na ma104 wa cf105 ca ef ea xf xa] := hw
      refine lv_goto (tgt := 274) S.x S.b d_Mpg_checkStatement_97 (by decide) ?_
      exact px_vret S hr hlk hAe hw (Nat.le_of_ble_eq_true rfl) (Nat.le_of_ble_eq_true rfl) (⟨ma104, cf105, ca, rfl, (show (cf105 30).toInt = 0 → (cf 30).toInt = 0 from by first | exact hkz_e108 | omega), (show WrV cf105 (tf 6).toInt from hwr), (show (cf105 37).toInt = (cf 37).toInt from by first | exact hkk37_e108 | omega), (show (cf105 38).toInt = (cf 38).toInt from by first | exact e111 | omega), (show (cf105 43).toInt = (cf 43).toInt from by first | exact hkk43_e108 | omega), (show (cf105 44).toInt = (cf 44).toInt from by first | exact hkk44_e108 | omega), (show (cf105 45).toInt = (cf 45).toInt from by first | exact hkk45_e108 | omega), (show (cf105 46).toInt = (cf 46).toInt from by first | exact e113 | omega), (show (cf105 47).toInt = (cf 47).toInt from by first | exact e114 | omega), (show (cf105 41).toInt = (cf 41).toInt from by first | exact hkk41_e108 | omega), (show (cf105 55).toInt = (cf 55).toInt from by first | exact hkk55_e108 | omega), (show (cf105 59).toInt = (cf 59).toInt from by first | exact hkk59_e108 | omega), (show (cf 33).toInt ≤ (cf105 33).toInt from by first | exact oz_f9b42d1b56 e110 | omega), (show 6 * (cf105 33).toInt ≤ 6 * (cf 33).toInt + (w) from by first | exact oz_092373726c g5 e110 | omega), (show (cf 48).toInt ≤ (cf105 48).toInt from by first | exact oz_f9b42d1b56 e112 | omega), (show 6 * (cf105 48).toInt ≤ 6 * (cf 48).toInt + (w) from by first | exact oz_092373726c g5 e112 | omega), (show (cf 54).toInt ≤ (cf105 54).toInt from by first | exact oz_f9b42d1b56 hkk54_e108 | omega), (show (cf 42).toInt ≤ (cf105 42).toInt from by first | exact oz_f9b42d1b56 hkk42_e108 | omega), (show (cf105 54).toInt - (cf 54).toInt ≤ 4 * ((cf105 42).toInt - (cf 42).toInt) from by first | exact oz_7f23dbcb5f hkk42_e108 hkk54_e108 | omega), (show (cf105 54).toInt - (cf 54).toInt ≤ 4096 * ((cf105 48).toInt - (cf 48).toInt) from by first | exact oz_a2be20d97d e112 hkk54_e108 | omega), (show (cf105 42).toInt - (cf 42).toInt ≤ 4096 * ((cf105 48).toInt - (cf 48).toInt) from by first | exact oz_a2be20d97d e112 hkk42_e108 | omega), (show KnT (tf 6).toInt ca (cf105 33).toInt from (KnT.eq hkt (by omega))), (show KnS ca (cf105 33).toInt (cf105 48).toInt ys from (KnS.eq hks (by omega) (by omega))), (show CaG ca ca (cf 33).toInt (cf 48).toInt from (hcg.le (by omega) (by omega))), (show SyR ca ys (cf105 48).toInt (cf105 54).toInt tx from (SyR.eq hsr (by omega) (by omega))), (show Ann na ma0 ma104 from han), (show FrC lo hi ma ma104 from hfc), (show ZTe cf105 ta ca na ma0 (cf105 48).toInt ys nf ma104 lo hi p0 (tgv (cf 44).toInt (cf 45).toInt) from (fun zz => by exact tys_22 ⟨by omega, by omega, by omega⟩ tgv_rng (by omega) ha_z101 (ZTe.at hty_z101 (by omega) (by omega) (by omega) (by omega) rfl))), (show R_mp_checkStatement (RL_mp_checkStatement d) tf ta na p0 ma cf ca ma104 cf105 ca from (Or.inl ⟨z1, ez1, Or.inr (Or.inr (Or.inr (Or.inl ⟨c64, z101, ez101, ma104, cf105, e119, rfl, rfl, rfl⟩)))⟩))⟩) d_Mpg_checkStatement_274
    · simp only [List.mem_cons, List.not_mem_nil, or_false] at c64
      refine lv_aload_n S.x S.b d_Mpg_checkStatement_100 rfl (lv_at hl 0 rfl) ?_
      refine lv_iload_n S.x S.b d_Mpg_checkStatement_101 rfl (lv_at hl 1 rfl) ?_
      obtain ⟨h22, hrv_p0⟩ := ScV.s23 hsc (by omega) (z := na 17 p0.toNatClampNeg) rfl
      refine lv_iconst (v := 0) S.x S.b d_Mpg_checkStatement_102 (by decide) ?_
      refine px_callv (pr := []) (px_runV (As := [.int p0, .int 0]) (rest := []) S (c_mp_declare l D cs ma0 ys nf tx d lo hi w 5 h r g tf ta pf na wa ef ea xf xa ma cf ca p0 0  (show 0 ≤ lo from by first | exact g0 | omega) (show hi ≤ (pf 13).toInt from by first | exact g1 | omega) (show (pf 13).toInt ≤ 2100 from by first | exact g2 | omega) (show (tf 6).toInt ≤ 2049 from by first | exact g3 | omega) (show 0 ≤ (cf 33).toInt from by first | exact g4 | omega) (show 0 ≤ w from by first | exact g5 | omega) (show 6 * (cf 33).toInt + w ≤ 6540 from by first | exact g6 | omega) (show 0 ≤ (cf 48).toInt from by first | exact g7 | omega) (show 6 * (cf 48).toInt + w ≤ 6540 from by first | exact g8 | omega) (show (cf 38).toInt = nf from by first | exact g9 | omega) (show 0 ≤ nf from by first | exact g10 | omega) (show 0 ≤ (cf 37).toInt from by first | exact g11 | omega) (show 0 ≤ (cf 54).toInt from by first | exact g12 | omega) (show (cf 54).toInt ≤ 4096 * (cf 48).toInt from by first | exact g13 | omega) (show 0 ≤ (cf 42).toInt from by first | exact g14 | omega) (show (cf 42).toInt ≤ 4 + 4096 * (cf 48).toInt from by first | exact g15 | omega) (show 0 ≤ (cf 44).toInt from by first | exact g16 | omega) (show 0 ≤ (cf 45).toInt from by first | exact g17 | omega) (show ys ≤ (cf 48).toInt ∨ tx = 1 from by first | exact g18 | omega) (show 0 ≤ (cf 46).toInt from by first | exact g19 | omega) (show (cf 46).toInt ≤ 1 from by first | exact g20 | omega) (show 0 ≤ (cf 47).toInt from by first | exact g21 | omega) (show (cf 47).toInt ≤ 1 from by first | exact g22 | omega) (show 0 ≤ p0.toInt from by first | exact hsr0.2.2.1 | omega) (show lo ≤ p0.toInt from by first | exact hsr0.1 | omega) (show p0.toInt < hi from by first | exact hsr0.2.1 | omega) (show (na 14 p0.toNatClampNeg).toInt = 23 from by omega) (show ((0 : Int) = 1 ∧ 5 = 6 ∧ tx = 1) ∨ ((0 : Int) = 0 ∧ 5 = 5 ∧ tx = 0) from by omega) htk (FsI.le (N' := (pf 13).toInt) hfs (by omega)) hwr (KnT.eq hkt (by omega)) (FnT.eq hft (by omega)) (KnS.eq hks (by omega) (by omega)) hfp (SyR.eq hsr (by omega) (by omega)) han (show txo (cf 43).toInt = tx from by rw [show (cf 43).toInt = (cf 43).toInt by omega]; exact htx) hrv_p0 _) hT (pr := []) (pcs := [wdP cs h r g tf ta pf na ma wa cf ca ef ea xf xa]) hw (oX_call (P := (fun A U H => (oP A g U H))) (pr := []) oG_P hw hA hP) (px_recv hT hw 0 0 rfl rfl rfl) m13_29 m13_26 m13_28 ms_13_4 m1_21 q_Mpg_declare ⟨show (4 * d + 22) + 1 ≤ (6 * (d + 1) + 26) from (by first | exact oz_fd597f7f5a | omega), show 8 + (5 + 11) + (200 * d + 780) ≤ (260 * (d + 1) + 900) from (by first | exact oz_a1f1d526a8 | omega)⟩ hl.1 rfl (Nat.le_of_ble_eq_true rfl) d_Mpg_checkStatement_103 ⟨Nat.le_of_ble_eq_true rfl, Nat.le_of_ble_eq_true rfl⟩) hw hA (fun p126 H locs hp126 hw => ?_)
      obtain ⟨ma123, cf124, ca125, rfl, e128, e129, e130, e131, e132, e133, e134, e135, e136, e137, e138, e139, e140, e141, e142, e143, e144, e145, e146, e147, e148, e149, e150, e151, e152, e153, e154, e155, e156, e157⟩ := hp126
      have e128 : (cf124 30).toInt = 0 → (cf 30).toInt = 0 := e128
      have e129 : WrV cf124 (tf 6).toInt := e129
      have hwr := e129
      have hw0_e129 := hwr.1
      have e130 : (cf124 37).toInt = (cf 37).toInt := e130
      have e131 : (cf124 38).toInt = (cf 38).toInt := e131
      have e132 : (cf124 43).toInt = (cf 43).toInt := e132
      have e133 : (cf124 44).toInt = (cf 44).toInt := e133
      have e134 : (cf124 45).toInt = (cf 45).toInt := e134
      have e135 : (cf124 46).toInt = (cf 46).toInt := e135
      have e136 : (cf124 47).toInt = (cf 47).toInt := e136
      have e137 : (cf124 41).toInt = (cf 41).toInt := e137
      have e138 : (cf124 55).toInt = (cf 55).toInt := e138
      have e139 : (cf124 59).toInt = (cf 59).toInt := e139
      have e140 : (cf 33).toInt ≤ (cf124 33).toInt := e140
      have e141 : 6 * (cf124 33).toInt ≤ 6 * (cf 33).toInt + (w) := e141
      have e142 : (cf 48).toInt ≤ (cf124 48).toInt := e142
      have e143 : 6 * (cf124 48).toInt ≤ 6 * (cf 48).toInt + (w) := e143
      have e144 : (cf 54).toInt ≤ (cf124 54).toInt := e144
      have e145 : (cf 42).toInt ≤ (cf124 42).toInt := e145
      have e146 : (cf124 54).toInt - (cf 54).toInt ≤ 4 * ((cf124 42).toInt - (cf 42).toInt) := e146
      have e147 : (cf124 54).toInt - (cf 54).toInt ≤ 4096 * ((cf124 48).toInt - (cf 48).toInt) := e147
      have e148 : (cf124 42).toInt - (cf 42).toInt ≤ 4096 * ((cf124 48).toInt - (cf 48).toInt) := e148
      have e149 : KnT (tf 6).toInt ca125 (cf124 33).toInt := e149
      have hkt := e149
      have hk11_e149 := hkt.1
      have e150 : KnS ca125 (cf124 33).toInt (cf124 48).toInt ys := e150
      have hks := e150
      have e151 : CaG ca ca125 (cf 33).toInt (cf 48).toInt := e151
      have hcg := hcg.tr e151 (by omega) (by omega)
      have hft := hft.cg e151
      have hfp := hfp.cg e151
      have e152 : SyR ca125 ys (cf124 48).toInt (cf124 54).toInt tx := e152
      have hsr := e152
      have e153 : Ann na ma0 ma123 := e153
      have han := e153
      have e154 : FrC lo hi ma ma123 := e154
      have hfc := hfc.tr e154 (by omega) (by omega)
      have e155 : Sy3 ca125 (cf 48).toInt (cf124 48).toInt := e155
      have e156 : ZTw cf124 ta ca125 na ma0 (cf124 48).toInt ys nf ma123 lo hi (na 17 p0.toNatClampNeg) 5 := e156
      have hzw : ZTw cf124 ta ca125 na ma0 (cf124 48).toInt ys nf ma123 lo hi (na 17 p0.toNatClampNeg) 5 := ZTw.to e156 (fun q => by omega) (by omega) (Int.le_refl _) (Int.le_refl _) rfl
      have e157 : R_mp_declare tf ta na p0 (0 : Int32) ma cf ca ma123 cf124 ca125 := e157
      have hw : pw D A s.heap H locs [wdP cs h r g tf ta pf na ma123 wa cf124 ca125 ef ea xf xa] := hw
      refine lv_goto (tgt := 274) S.x S.b d_Mpg_checkStatement_106 (by decide) ?_
      exact px_vret S hr hlk hAe hw (Nat.le_of_ble_eq_true rfl) (Nat.le_of_ble_eq_true rfl) (⟨ma123, cf124, ca125, rfl, (show (cf124 30).toInt = 0 → (cf 30).toInt = 0 from by first | exact e128 | omega), (show WrV cf124 (tf 6).toInt from hwr), (show (cf124 37).toInt = (cf 37).toInt from by first | exact e130 | omega), (show (cf124 38).toInt = (cf 38).toInt from by first | exact e131 | omega), (show (cf124 43).toInt = (cf 43).toInt from by first | exact e132 | omega), (show (cf124 44).toInt = (cf 44).toInt from by first | exact e133 | omega), (show (cf124 45).toInt = (cf 45).toInt from by first | exact e134 | omega), (show (cf124 46).toInt = (cf 46).toInt from by first | exact e135 | omega), (show (cf124 47).toInt = (cf 47).toInt from by first | exact e136 | omega), (show (cf124 41).toInt = (cf 41).toInt from by first | exact e137 | omega), (show (cf124 55).toInt = (cf 55).toInt from by first | exact e138 | omega), (show (cf124 59).toInt = (cf 59).toInt from by first | exact e139 | omega), (show (cf 33).toInt ≤ (cf124 33).toInt from by first | exact e140 | omega), (show 6 * (cf124 33).toInt ≤ 6 * (cf 33).toInt + (w) from by first | exact e141 | omega), (show (cf 48).toInt ≤ (cf124 48).toInt from by first | exact e142 | omega), (show 6 * (cf124 48).toInt ≤ 6 * (cf 48).toInt + (w) from by first | exact e143 | omega), (show (cf 54).toInt ≤ (cf124 54).toInt from by first | exact e144 | omega), (show (cf 42).toInt ≤ (cf124 42).toInt from by first | exact e145 | omega), (show (cf124 54).toInt - (cf 54).toInt ≤ 4 * ((cf124 42).toInt - (cf 42).toInt) from by first | exact e146 | omega), (show (cf124 54).toInt - (cf 54).toInt ≤ 4096 * ((cf124 48).toInt - (cf 48).toInt) from by first | exact e147 | omega), (show (cf124 42).toInt - (cf 42).toInt ≤ 4096 * ((cf124 48).toInt - (cf 48).toInt) from by first | exact e148 | omega), (show KnT (tf 6).toInt ca125 (cf124 33).toInt from (KnT.eq hkt (by omega))), (show KnS ca125 (cf124 33).toInt (cf124 48).toInt ys from (KnS.eq hks (by omega) (by omega))), (show CaG ca ca125 (cf 33).toInt (cf 48).toInt from (hcg.le (by omega) (by omega))), (show SyR ca125 ys (cf124 48).toInt (cf124 54).toInt tx from (SyR.eq hsr (by omega) (by omega))), (show Ann na ma0 ma123 from han), (show FrC lo hi ma ma123 from hfc), (show ZTe cf124 ta ca125 na ma0 (cf124 48).toInt ys nf ma123 lo hi p0 (tgv (cf 44).toInt (cf 45).toInt) from (fun zz => (ZTw.at hzw (by omega) (by omega) (by omega) (by omega) rfl).elim fun k9 g9 => tys_23 ⟨by omega, by omega, by omega⟩ tgv_rng (by omega) rfl g9.2 g9.1)), (show R_mp_checkStatement (RL_mp_checkStatement d) tf ta na p0 ma cf ca ma123 cf124 ca125 from (Or.inl ⟨z1, ez1, Or.inr (Or.inr (Or.inr (Or.inr (Or.inl ⟨c64, ma123, cf124, ca125, e157, rfl, rfl, rfl⟩))))⟩))⟩) d_Mpg_checkStatement_274
    · simp only [List.mem_cons, List.not_mem_nil, or_false] at c64
      refine lv_aload_n S.x S.b d_Mpg_checkStatement_109 rfl (lv_at hl 0 rfl) ?_
      refine lv_aload_n S.x S.b d_Mpg_checkStatement_110 rfl (lv_at hl 0 rfl) ?_
      obtain ⟨m1, m2, w1, w2, w3, hm1, hm2, hm3, hea, hsb, hoc, hx24, hws, hw1, hw2, hw3⟩ := ScV.s24 hsc (by omega) (z := na 17 p0.toNatClampNeg) (y := ma0 18 p0.toNatClampNeg) (x := ma0 19 p0.toNatClampNeg) rfl rfl rfl
      refine px_get S k_Mpg hT hw 0 0 17 (v := .ref (r 17)) rfl rfl rfl (by decide) m10_1 d_Mpg_checkStatement_111 ?_
      refine lv_iload_n S.x S.b d_Mpg_checkStatement_114 rfl (lv_at hl 1 rfl) ?_
      refine px_iald S hT hw 0 13 (n := 2100) (f := (na 17)) rfl gp_17 (x := p0) (vp_in_iff.mpr (by first | exact oz_a7e05de1cd hsr0.2.2.1 hsr0.2.1 g1 g2 | (constructor <;> omega))) d_Mpg_checkStatement_115 ?_
      refine lv_topi (fun z158 ez158 => ?_)
      have lz158 := Int32.le_toInt z158
      have uz158 := Int32.toInt_lt z158
      have ha_z158 : z158 = na 17 p0.toNatClampNeg := ez158; have hn_z158 : z158.toInt = (na 17 p0.toNatClampNeg).toInt := (by rw [ha_z158]); have hev_z158 : ErV ta (tf 6).toInt na ma0 d (p0.toInt + 1) m1 w1 z158 := (by rw [ha_z158]; exact hea); obtain ⟨hec_z158, h20_z158, hw_z158⟩ := hev_z158.ec; have hrg_z158 := EcV.rng hec_z158
      refine lv_iconst (v := 1) S.x S.b d_Mpg_checkStatement_116 (by decide) ?_
      refine px_calli (pr := []) (px_runV (As := [.int z158, .int 1]) (rest := []) S (c_S_check l D cs ma0 ys (cf 48).toInt nf (cf 33).toInt d (p0.toInt + 1) m1 h r g tf ta pf na wa ca ef ea xf xa ma cf z158 1  (show 0 ≤ (p0.toInt + 1) from by first | exact oz_c12c169b81 hsr0.2.2.1 | omega) (show m1 ≤ (pf 13).toInt from by first | exact oz_31ddc84520 g1 hm2 hm3 | omega) (show (pf 13).toInt ≤ 2100 from by first | exact g2 | omega) (show (tf 6).toInt ≤ 2049 from by first | exact g3 | omega) (show (cf 33).toInt = (cf 33).toInt from rfl) (show 0 ≤ (cf 33).toInt from by first | exact g4 | omega) (show (cf 48).toInt = (cf 48).toInt from rfl) (show (cf 38).toInt = nf from by first | exact g9 | omega) (show 0 ≤ nf from by first | exact g10 | omega) (show 0 ≤ (1 : Int) from by first | exact oz_19c3a41681 | omega) (show (1 : Int) ≤ 1 from by first | exact oz_f9181dc4bb | omega) htk (FsI.le (N' := (pf 13).toInt) hfs (by omega)) hwr (KnT.eq hkt (by omega)) (FnT.eq hft (by omega)) (KnS.eq hks (by omega) (by omega)) hfp han hec_z158 _) hT (pr := []) (pcs := [wdP cs h r g tf ta pf na ma wa cf ca ef ea xf xa]) hw (oX_call (P := (fun A U H => (oP A g U H))) (pr := []) oG_P hw hA hP) (px_recv hT hw 0 0 rfl rfl rfl) m12_217 m12_214 m12_216 ms_12_7 m1_21 q_Mpg_check ⟨show (4 * d + 12) + 1 ≤ (6 * (d + 1) + 26) from (by first | exact oz_9c5488ea07 | omega), show 8 + (8 + 11) + (200 * d + 420) ≤ (260 * (d + 1) + 900) from (by first | exact oz_e0b88b15c4 | omega)⟩ hl.1 rfl (Nat.le_of_ble_eq_true rfl) d_Mpg_checkStatement_117 ⟨Nat.le_of_ble_eq_true rfl, Nat.le_of_ble_eq_true rfl⟩) hw hA (fun v164 p163 H locs hp163 hw => ?_)
      obtain ⟨ma161, cf162, rfl, e165, e166, e167, e168, e169, e170, e171, e172, e173, e174, e175, e176, e177, e178, e179, e180⟩ := hp163
      have e165 : KpE cf cf162 := e165
      have hkz_e165 := e165.2
      have hkk37_e165 : (cf162 37).toInt = (cf 37).toInt := (by rw [e165.1 37 (by decide) (by decide) (by decide) (by decide) (by decide)] <;> rfl)
      have hkk43_e165 : (cf162 43).toInt = (cf 43).toInt := (by rw [e165.1 43 (by decide) (by decide) (by decide) (by decide) (by decide)] <;> rfl)
      have hkk44_e165 : (cf162 44).toInt = (cf 44).toInt := (by rw [e165.1 44 (by decide) (by decide) (by decide) (by decide) (by decide)] <;> rfl)
      have hkk45_e165 : (cf162 45).toInt = (cf 45).toInt := (by rw [e165.1 45 (by decide) (by decide) (by decide) (by decide) (by decide)] <;> rfl)
      have hkk41_e165 : (cf162 41).toInt = (cf 41).toInt := (by rw [e165.1 41 (by decide) (by decide) (by decide) (by decide) (by decide)] <;> rfl)
      have hkk55_e165 : (cf162 55).toInt = (cf 55).toInt := (by rw [e165.1 55 (by decide) (by decide) (by decide) (by decide) (by decide)] <;> rfl)
      have hkk59_e165 : (cf162 59).toInt = (cf 59).toInt := (by rw [e165.1 59 (by decide) (by decide) (by decide) (by decide) (by decide)] <;> rfl)
      have hkk42_e165 : (cf162 42).toInt = (cf 42).toInt := (by rw [e165.1 42 (by decide) (by decide) (by decide) (by decide) (by decide)] <;> rfl)
      have hkk54_e165 : (cf162 54).toInt = (cf 54).toInt := (by rw [e165.1 54 (by decide) (by decide) (by decide) (by decide) (by decide)] <;> rfl)
      have hkk58_e165 : (cf162 58).toInt = (cf 58).toInt := (by rw [e165.1 58 (by decide) (by decide) (by decide) (by decide) (by decide)] <;> rfl)
      have e166 : WrV cf162 (tf 6).toInt := e166
      have hwr := e166
      have hw0_e166 := hwr.1
      have e167 : (cf162 33).toInt = (cf 33).toInt := e167
      have e168 : (cf162 38).toInt = (cf 38).toInt := e168
      have e169 : (cf162 48).toInt = (cf 48).toInt := e169
      have e170 : (cf162 46).toInt = (cf 46).toInt := e170
      have e171 : (cf162 47).toInt = (cf 47).toInt := e171
      have e172 : (cf162 57).toInt = (cf 57).toInt := e172
      have e173 : Ann na ma0 ma161 := e173
      have han := e173
      have e174 : FrC (p0.toInt + 1) m1 ma ma161 := e174
      have hfc := hfc.tr e174 (by omega) (by omega)
      have e175 : 0 ≤ v164.toInt := e175
      have e176 : v164.toInt ≤ 4 := e176
      have e177 : NmJ ta ca na ma161 (cf 33).toInt z158 v164.toInt := e177
      have e178 : ZTy cf162 (Gk ta ca na ma0 (cf 48).toInt ys nf) na ma161 (p0.toInt + 1) m1 z158 v164.toInt := e178
      have e179 : ZNm cf162 (1 : Int) v164.toInt := e179
      have hty_z158 : ZTe cf162 ta ca na ma0 (cf162 48).toInt ys nf ma161 (p0.toInt + 1) m1 z158 0 := ZTe.to (t := 0) (ZTy.num e178 e179) (fun q => by omega) (by omega) (Int.le_refl _) (Int.le_refl _) rfl
      have e180 : RL_mp_check d tf ta na ca z158 (1 : Int32) ma cf ma161 cf162 v164 := e180
      have e180X : RX_mp_check tf ta na ca z158 (1 : Int32) ma cf ma161 cf162 v164 := ⟨d, e180⟩
      have hw : pw D A s.heap H locs [wdP cs h r g tf ta pf na ma161 wa cf162 ca ef ea xf xa] := hw
      have lv164 := Int32.le_toInt v164
      have uv164 := Int32.toInt_lt v164
      refine lv_pop S.x S.b d_Mpg_checkStatement_120 rfl ?_
      refine lv_aload_n S.x S.b d_Mpg_checkStatement_121 rfl (lv_at hl 0 rfl) ?_
      refine lv_aload_n S.x S.b d_Mpg_checkStatement_122 rfl (lv_at hl 0 rfl) ?_
      refine px_get S k_Mpg hT hw 0 0 18 (v := .ref (r 18)) rfl rfl rfl (by decide) m10_3 d_Mpg_checkStatement_123 ?_
      refine lv_iload_n S.x S.b d_Mpg_checkStatement_126 rfl (lv_at hl 1 rfl) ?_
      refine px_iald S hT hw 0 14 (n := 2100) (f := (ma161 18)) rfl gp_18 (x := p0) (vp_in_iff.mpr (by first | exact oz_a7e05de1cd hsr0.2.2.1 hsr0.2.1 g1 g2 | (constructor <;> omega))) d_Mpg_checkStatement_127 ?_
      refine lv_topi (fun z181 ez181 => ?_)
      have lz181 := Int32.le_toInt z181
      have uz181 := Int32.toInt_lt z181
      have ha_z181 : z181 = ma0 18 p0.toNatClampNeg := ez181.trans (Ann.b18 han (by omega)); have hn_z181 : z181.toInt = (ma0 18 p0.toNatClampNeg).toInt := (by rw [ha_z181]); have hsc_z181 : ScV ta (tf 6).toInt na ma0 d m1 m2 w2 z181 := (by rw [ha_z181]; exact hsb); have hrg_z181 := ScV.rng hsc_z181
      refine px_callv (pr := []) (px_runV (As := [.int z181]) (rest := []) S (hLS ma0 ys nf tx m1 m2 w2 h r g tf ta pf na wa ef ea xf xa ma161 cf162 ca z181 (show 0 ≤ m1 from by first | exact oz_0a7da9c4d6 hm1 hsr0.2.2.1 | omega) (show m2 ≤ (pf 13).toInt from by first | exact oz_bbb5b20c1a g1 hm3 | omega) (show (pf 13).toInt ≤ 2100 from by first | exact g2 | omega) (show (tf 6).toInt ≤ 2049 from by first | exact g3 | omega) (show 0 ≤ (cf162 33).toInt from by first | exact oz_f3ebed1ad0 e167 g4 | omega) (show 0 ≤ w2 from by first | exact hw2 | omega) (show 6 * (cf162 33).toInt + w2 ≤ 6540 from by first | exact oz_02af3e62d3 hws e167 g6 hw1 hw3 | omega) (show 0 ≤ (cf162 48).toInt from by first | exact oz_f3ebed1ad0 e169 g7 | omega) (show 6 * (cf162 48).toInt + w2 ≤ 6540 from by first | exact oz_02af3e62d3 hws e169 g8 hw1 hw3 | omega) (show (cf162 38).toInt = nf from by first | exact oz_1687f4cc65 g9 e168 | omega) (show 0 ≤ nf from by first | exact g10 | omega) (show 0 ≤ (cf162 37).toInt from by first | exact oz_f3ebed1ad0 hkk37_e165 g11 | omega) (show 0 ≤ (cf162 54).toInt from by first | exact oz_f3ebed1ad0 hkk54_e165 g12 | omega) (show (cf162 54).toInt ≤ 4096 * (cf162 48).toInt from by first | exact oz_964e82b9f4 e169 hkk54_e165 g13 | omega) (show 0 ≤ (cf162 42).toInt from by first | exact oz_f3ebed1ad0 hkk42_e165 g14 | omega) (show (cf162 42).toInt ≤ 4 + 4096 * (cf162 48).toInt from by first | exact oz_0fa6d939a6 e169 hkk42_e165 g15 | omega) (show 0 ≤ (cf162 44).toInt from by first | exact oz_f3ebed1ad0 hkk44_e165 g16 | omega) (show 0 ≤ (cf162 45).toInt from by first | exact oz_f3ebed1ad0 hkk45_e165 g17 | omega) (show ys ≤ (cf162 48).toInt ∨ tx = 1 from by omega) (show 0 ≤ (cf162 46).toInt from by first | exact oz_f3ebed1ad0 e170 g19 | omega) (show (cf162 46).toInt ≤ 1 from by first | exact oz_878017becc e170 g20 | omega) (show 0 ≤ (cf162 47).toInt from by first | exact oz_f3ebed1ad0 e171 g21 | omega) (show (cf162 47).toInt ≤ 1 from by first | exact oz_878017becc e171 g22 | omega) (show (cf162 44).toInt + (d : Int) ≤ 400 from by first | exact oz_7ff02c72cf g23 hkk44_e165 | omega) (show (cf162 45).toInt + (d : Int) ≤ 400 from by first | exact oz_7ff02c72cf g24 hkk45_e165 | omega) (show 0 ≤ (cf162 43).toInt from by first | exact oz_f3ebed1ad0 hkk43_e165 g25 | omega) (show (cf162 43).toInt < 2100 from by first | exact oz_b365134983 hkk43_e165 g26 | omega) (show tx = 0 from by first | exact g27 | omega) htk (FsI.le (N' := (pf 13).toInt) hfs (by omega)) hwr (KnT.eq hkt (by omega)) (FnT.eq hft (by omega)) (KnS.eq hks (by omega) (by omega)) hfp (SyR.eq hsr (by omega) (by omega)) han (show txo (cf162 43).toInt = tx from by rw [show (cf162 43).toInt = (cf 43).toInt by omega]; exact htx) hsc_z181 _) hT (pr := []) (pcs := [wdP cs h r g tf ta pf na ma161 wa cf162 ca ef ea xf xa]) hw (oX_call (P := (fun A U H => (oP A g U H))) (pr := []) oG_P hw hA hP) (px_recv hT hw 0 0 rfl rfl rfl) m12_201 m12_198 m12_200 ms_12_3 m1_21 q_Mpg_checkStatement ⟨show (6 * d + 26) + 1 ≤ (6 * (d + 1) + 26) from (by first | exact oz_caff5bad48 | omega), show 8 + (3 + 11) + (260 * d + 900) ≤ (260 * (d + 1) + 900) from (by first | exact oz_bb20d094bd | omega)⟩ hl.1 rfl (Nat.le_of_ble_eq_true rfl) d_Mpg_checkStatement_128 ⟨Nat.le_of_ble_eq_true rfl, Nat.le_of_ble_eq_true rfl⟩) hw hA (fun p188 H locs hp188 hw => ?_)
      obtain ⟨ma185, cf186, ca187, rfl, e190, e191, e192, e193, e194, e195, e196, e197, e198, e199, e200, e201, e202, e203, e204, e205, e206, e207, e208, e209, e210, e211, e212, e213, e214, e215, e216, e217, e218⟩ := hp188
      have e190 : (cf186 30).toInt = 0 → (cf162 30).toInt = 0 := e190
      have e191 : WrV cf186 (tf 6).toInt := e191
      have hwr := e191
      have hw0_e191 := hwr.1
      have e192 : (cf186 37).toInt = (cf162 37).toInt := e192
      have e193 : (cf186 38).toInt = (cf162 38).toInt := e193
      have e194 : (cf186 43).toInt = (cf162 43).toInt := e194
      have e195 : (cf186 44).toInt = (cf162 44).toInt := e195
      have e196 : (cf186 45).toInt = (cf162 45).toInt := e196
      have e197 : (cf186 46).toInt = (cf162 46).toInt := e197
      have e198 : (cf186 47).toInt = (cf162 47).toInt := e198
      have e199 : (cf186 41).toInt = (cf162 41).toInt := e199
      have e200 : (cf186 55).toInt = (cf162 55).toInt := e200
      have e201 : (cf186 59).toInt = (cf162 59).toInt := e201
      have e202 : (cf162 33).toInt ≤ (cf186 33).toInt := e202
      have e203 : 6 * (cf186 33).toInt ≤ 6 * (cf162 33).toInt + (w2) := e203
      have e204 : (cf162 48).toInt ≤ (cf186 48).toInt := e204
      have e205 : 6 * (cf186 48).toInt ≤ 6 * (cf162 48).toInt + (w2) := e205
      have e206 : (cf162 54).toInt ≤ (cf186 54).toInt := e206
      have e207 : (cf162 42).toInt ≤ (cf186 42).toInt := e207
      have e208 : (cf186 54).toInt - (cf162 54).toInt ≤ 4 * ((cf186 42).toInt - (cf162 42).toInt) := e208
      have e209 : (cf186 54).toInt - (cf162 54).toInt ≤ 4096 * ((cf186 48).toInt - (cf162 48).toInt) := e209
      have e210 : (cf186 42).toInt - (cf162 42).toInt ≤ 4096 * ((cf186 48).toInt - (cf162 48).toInt) := e210
      have e211 : KnT (tf 6).toInt ca187 (cf186 33).toInt := e211
      have hkt := e211
      have hk11_e211 := hkt.1
      have e212 : KnS ca187 (cf186 33).toInt (cf186 48).toInt ys := e212
      have hks := e212
      have e213 : CaG ca ca187 (cf162 33).toInt (cf162 48).toInt := e213
      have hcg := hcg.tr e213 (by omega) (by omega)
      have hft := hft.cg e213
      have hfp := hfp.cg e213
      have e214 : SyR ca187 ys (cf186 48).toInt (cf186 54).toInt tx := e214
      have hsr := e214
      have e215 : Ann na ma0 ma185 := e215
      have han := e215
      have e216 : FrC m1 m2 ma161 ma185 := e216
      have hfc := hfc.tr e216 (by omega) (by omega)
      have hty_z158 : ZTe cf186 ta ca187 na ma0 (cf186 48).toInt ys nf ma185 (p0.toInt + 1) m1 z158 0 := ZTe.tr hty_z158 (fun q => by omega) e216 (by omega) e213 (by omega) (by omega)
      have e217 : ZTe cf186 ta ca187 na ma0 (cf186 48).toInt ys nf ma185 m1 m2 z181 (tgv (cf162 44).toInt (cf162 45).toInt) := e217
      have hts_z181 : ZTe cf186 ta ca187 na ma0 (cf186 48).toInt ys nf ma185 m1 m2 z181 (tgv (cf 44).toInt (cf 45).toInt) := ZTe.to e217 (fun q => by omega) (by omega) (Int.le_refl _) (Int.le_refl _) (by congr 1 <;> omega)
      have e218 : RL_mp_checkStatement d tf ta na z181 ma161 cf162 ca ma185 cf186 ca187 := e218
      have hw : pw D A s.heap H locs [wdP cs h r g tf ta pf na ma185 wa cf186 ca187 ef ea xf xa] := hw
      refine lv_aload_n S.x S.b d_Mpg_checkStatement_131 rfl (lv_at hl 0 rfl) ?_
      refine px_get S k_Mpg hT hw 0 0 19 (v := .ref (r 19)) rfl rfl rfl (by decide) m10_5 d_Mpg_checkStatement_132 ?_
      refine lv_iload_n S.x S.b d_Mpg_checkStatement_135 rfl (lv_at hl 1 rfl) ?_
      refine px_iald S hT hw 0 15 (n := 2100) (f := (ma185 19)) rfl gp_19 (x := p0) (vp_in_iff.mpr (by first | exact oz_4d5c74e9a9 hsr0.2.2.1 hm1 g1 hm3 hrg_z181.1 g2 hrg_z181.2.1 | (constructor <;> omega))) d_Mpg_checkStatement_136 ?_
      refine lv_topi (fun z219 ez219 => ?_)
      have lz219 := Int32.le_toInt z219
      have uz219 := Int32.toInt_lt z219
      have ha_z219 : z219 = ma0 19 p0.toNatClampNeg := ez219.trans (Ann.b19 han (by omega)); have hn_z219 : z219.toInt = (ma0 19 p0.toNatClampNeg).toInt := (by rw [ha_z219])
      refine lv_if_lt (tgt := 274) S.x S.b d_Mpg_checkStatement_137 (by decide) (fun c220 => ?_) (fun c220 => ?_)
      · have nc220 : z219.toInt < (0 : Int) := (i_lt (x := z219) (y := 0)).mp c220
        exact px_vret S hr hlk hAe hw (Nat.le_of_ble_eq_true rfl) (Nat.le_of_ble_eq_true rfl) (⟨ma185, cf186, ca187, rfl, (show (cf186 30).toInt = 0 → (cf 30).toInt = 0 from by omega), (show WrV cf186 (tf 6).toInt from hwr), (show (cf186 37).toInt = (cf 37).toInt from by first | exact oz_1687f4cc65 hkk37_e165 e192 | omega), (show (cf186 38).toInt = (cf 38).toInt from by first | exact oz_1687f4cc65 e168 e193 | omega), (show (cf186 43).toInt = (cf 43).toInt from by first | exact oz_1687f4cc65 hkk43_e165 e194 | omega), (show (cf186 44).toInt = (cf 44).toInt from by first | exact oz_1687f4cc65 hkk44_e165 e195 | omega), (show (cf186 45).toInt = (cf 45).toInt from by first | exact oz_1687f4cc65 hkk45_e165 e196 | omega), (show (cf186 46).toInt = (cf 46).toInt from by first | exact oz_1687f4cc65 e170 e197 | omega), (show (cf186 47).toInt = (cf 47).toInt from by first | exact oz_1687f4cc65 e171 e198 | omega), (show (cf186 41).toInt = (cf 41).toInt from by first | exact oz_1687f4cc65 hkk41_e165 e199 | omega), (show (cf186 55).toInt = (cf 55).toInt from by first | exact oz_1687f4cc65 hkk55_e165 e200 | omega), (show (cf186 59).toInt = (cf 59).toInt from by first | exact oz_1687f4cc65 hkk59_e165 e201 | omega), (show (cf 33).toInt ≤ (cf186 33).toInt from by first | exact oz_49930e0c7e e167 e202 | omega), (show 6 * (cf186 33).toInt ≤ 6 * (cf 33).toInt + (w) from by first | exact oz_c24cebfbf9 hws e167 e203 hw1 hw3 | omega), (show (cf 48).toInt ≤ (cf186 48).toInt from by first | exact oz_0c5bc78c46 e169 e210 e207 | omega), (show 6 * (cf186 48).toInt ≤ 6 * (cf 48).toInt + (w) from by first | exact oz_c24cebfbf9 hws e169 e205 hw1 hw3 | omega), (show (cf 54).toInt ≤ (cf186 54).toInt from by first | exact oz_49930e0c7e hkk54_e165 e206 | omega), (show (cf 42).toInt ≤ (cf186 42).toInt from by first | exact oz_49930e0c7e hkk42_e165 e207 | omega), (show (cf186 54).toInt - (cf 54).toInt ≤ 4 * ((cf186 42).toInt - (cf 42).toInt) from by first | exact oz_123de3a11e hkk42_e165 hkk54_e165 e208 | omega), (show (cf186 54).toInt - (cf 54).toInt ≤ 4096 * ((cf186 48).toInt - (cf 48).toInt) from by first | exact oz_261600e303 e169 hkk54_e165 e209 | omega), (show (cf186 42).toInt - (cf 42).toInt ≤ 4096 * ((cf186 48).toInt - (cf 48).toInt) from by first | exact oz_261600e303 e169 hkk42_e165 e210 | omega), (show KnT (tf 6).toInt ca187 (cf186 33).toInt from (KnT.eq hkt (by omega))), (show KnS ca187 (cf186 33).toInt (cf186 48).toInt ys from (KnS.eq hks (by omega) (by omega))), (show CaG ca ca187 (cf 33).toInt (cf 48).toInt from (hcg.le (by omega) (by omega))), (show SyR ca187 ys (cf186 48).toInt (cf186 54).toInt tx from (SyR.eq hsr (by omega) (by omega))), (show Ann na ma0 ma185 from han), (show FrC lo hi ma ma185 from hfc), (show ZTe cf186 ta ca187 na ma0 (cf186 48).toInt ys nf ma185 lo hi p0 (tgv (cf 44).toInt (cf 45).toInt) from (fun zz => by exact tys_24 ⟨by omega, by omega, by omega⟩ tgv_rng (by omega) ha_z158 (ha_z181.trans (Ann.b18 han (by omega)).symm) (ha_z219.trans (Ann.b19 han (by omega)).symm) (ZTe.at hty_z158 (by omega) (by omega) (by omega) (by omega) rfl) (ZTe.at hts_z181 (by omega) (by omega) (by omega) (by omega) rfl) (Or.inl (by omega)))), (show R_mp_checkStatement (RL_mp_checkStatement d) tf ta na p0 ma cf ca ma185 cf186 ca187 from (Or.inl ⟨z1, ez1, Or.inr (Or.inr (Or.inr (Or.inr (Or.inr (Or.inl ⟨c64, z158, ez158, ma161, cf162, v164, e180X, z181, ez181, ma185, cf186, ca187, e218, z219, ez219, Or.inl ⟨nc220, rfl, rfl, rfl⟩⟩)))))⟩))⟩) d_Mpg_checkStatement_274
      · have nc220 : ¬ z219.toInt < (0 : Int) := mt (i_lt (x := z219) (y := 0)).mpr c220
        refine lv_aload_n S.x S.b d_Mpg_checkStatement_140 rfl (lv_at hl 0 rfl) ?_
        refine lv_aload_n S.x S.b d_Mpg_checkStatement_141 rfl (lv_at hl 0 rfl) ?_
        refine px_get S k_Mpg hT hw 0 0 19 (v := .ref (r 19)) rfl rfl rfl (by decide) m10_5 d_Mpg_checkStatement_142 ?_
        refine lv_iload_n S.x S.b d_Mpg_checkStatement_145 rfl (lv_at hl 1 rfl) ?_
        refine px_iald S hT hw 0 15 (n := 2100) (f := (ma185 19)) rfl gp_19 (x := p0) (vp_in_iff.mpr (by first | exact oz_4d5c74e9a9 hsr0.2.2.1 hm1 g1 hm3 hrg_z181.1 g2 hrg_z181.2.1 | (constructor <;> omega))) d_Mpg_checkStatement_146 ?_
        refine lv_topi (fun z222 ez222 => ?_)
        have lz222 := Int32.le_toInt z222
        have uz222 := Int32.toInt_lt z222
        have ha_z222 : z222 = ma0 19 p0.toNatClampNeg := ez222.trans (Ann.b19 han (by omega)); have hn_z222 : z222.toInt = (ma0 19 p0.toNatClampNeg).toInt := (by rw [ha_z222]); have hsc_z222 : ScV ta (tf 6).toInt na ma0 d m2 hi w3 z222 := (by rw [ha_z222]; exact (hoc.get (by omega))); have hrg_z222 := ScV.rng hsc_z222
        refine px_callv (pr := []) (px_runV (As := [.int z222]) (rest := []) S (hLS ma0 ys nf tx m2 hi w3 h r g tf ta pf na wa ef ea xf xa ma185 cf186 ca187 z222 (show 0 ≤ m2 from by first | exact oz_0a7da9c4d6 hrg_z181.2.1 hrg_z181.2.2.1 | omega) (show hi ≤ (pf 13).toInt from by first | exact g1 | omega) (show (pf 13).toInt ≤ 2100 from by first | exact g2 | omega) (show (tf 6).toInt ≤ 2049 from by first | exact g3 | omega) (show 0 ≤ (cf186 33).toInt from by first | exact oz_ed897351ef e202 e167 g4 | omega) (show 0 ≤ w3 from by first | exact hw3 | omega) (show 6 * (cf186 33).toInt + w3 ≤ 6540 from by first | exact oz_e6646b808b hws e203 g6 hw1 e167 | omega) (show 0 ≤ (cf186 48).toInt from by first | exact oz_fa0ac33312 e210 e169 e207 g14 g15 | omega) (show 6 * (cf186 48).toInt + w3 ≤ 6540 from by first | exact oz_e6646b808b hws e205 g8 hw1 e169 | omega) (show (cf186 38).toInt = nf from by first | exact oz_e13fc83238 g9 e193 e168 | omega) (show 0 ≤ nf from by first | exact g10 | omega) (show 0 ≤ (cf186 37).toInt from by first | exact oz_e2fef14871 e192 hkk37_e165 g11 | omega) (show 0 ≤ (cf186 54).toInt from by first | exact oz_ed897351ef e206 hkk54_e165 g12 | omega) (show (cf186 54).toInt ≤ 4096 * (cf186 48).toInt from by first | exact oz_47ca30756f e209 e169 hkk54_e165 g13 | omega) (show 0 ≤ (cf186 42).toInt from by first | exact oz_ed897351ef e207 hkk42_e165 g14 | omega) (show (cf186 42).toInt ≤ 4 + 4096 * (cf186 48).toInt from by first | exact oz_0bbfc1fc8f e210 e169 hkk42_e165 g15 | omega) (show 0 ≤ (cf186 44).toInt from by first | exact oz_e2fef14871 e195 hkk44_e165 g16 | omega) (show 0 ≤ (cf186 45).toInt from by first | exact oz_e2fef14871 e196 hkk45_e165 g17 | omega) (show ys ≤ (cf186 48).toInt ∨ tx = 1 from by omega) (show 0 ≤ (cf186 46).toInt from by first | exact oz_e2fef14871 e197 e170 g19 | omega) (show (cf186 46).toInt ≤ 1 from by first | exact oz_916d756328 e197 e170 g20 | omega) (show 0 ≤ (cf186 47).toInt from by first | exact oz_e2fef14871 e198 e171 g21 | omega) (show (cf186 47).toInt ≤ 1 from by first | exact oz_916d756328 e198 e171 g22 | omega) (show (cf186 44).toInt + (d : Int) ≤ 400 from by first | exact oz_fdb6f2b2b3 g23 e195 hkk44_e165 | omega) (show (cf186 45).toInt + (d : Int) ≤ 400 from by first | exact oz_fdb6f2b2b3 g24 e196 hkk45_e165 | omega) (show 0 ≤ (cf186 43).toInt from by first | exact oz_e2fef14871 e194 hkk43_e165 g25 | omega) (show (cf186 43).toInt < 2100 from by first | exact oz_740a8b247c e194 hkk43_e165 g26 | omega) (show tx = 0 from by first | exact g27 | omega) htk (FsI.le (N' := (pf 13).toInt) hfs (by omega)) hwr (KnT.eq hkt (by omega)) (FnT.eq hft (by omega)) (KnS.eq hks (by omega) (by omega)) hfp (SyR.eq hsr (by omega) (by omega)) han (show txo (cf186 43).toInt = tx from by rw [show (cf186 43).toInt = (cf 43).toInt by omega]; exact htx) hsc_z222 _) hT (pr := []) (pcs := [wdP cs h r g tf ta pf na ma185 wa cf186 ca187 ef ea xf xa]) hw (oX_call (P := (fun A U H => (oP A g U H))) (pr := []) oG_P hw hA hP) (px_recv hT hw 0 0 rfl rfl rfl) m12_201 m12_198 m12_200 ms_12_3 m1_21 q_Mpg_checkStatement ⟨show (6 * d + 26) + 1 ≤ (6 * (d + 1) + 26) from (by first | exact oz_caff5bad48 | omega), show 8 + (3 + 11) + (260 * d + 900) ≤ (260 * (d + 1) + 900) from (by first | exact oz_bb20d094bd | omega)⟩ hl.1 rfl (Nat.le_of_ble_eq_true rfl) d_Mpg_checkStatement_147 ⟨Nat.le_of_ble_eq_true rfl, Nat.le_of_ble_eq_true rfl⟩) hw hA (fun p229 H locs hp229 hw => ?_)
        obtain ⟨ma226, cf227, ca228, rfl, e231, e232, e233, e234, e235, e236, e237, e238, e239, e240, e241, e242, e243, e244, e245, e246, e247, e248, e249, e250, e251, e252, e253, e254, e255, e256, e257, e258, e259⟩ := hp229
        have e231 : (cf227 30).toInt = 0 → (cf186 30).toInt = 0 := e231
        have e232 : WrV cf227 (tf 6).toInt := e232
        have hwr := e232
        have hw0_e232 := hwr.1
        have e233 : (cf227 37).toInt = (cf186 37).toInt := e233
        have e234 : (cf227 38).toInt = (cf186 38).toInt := e234
        have e235 : (cf227 43).toInt = (cf186 43).toInt := e235
        have e236 : (cf227 44).toInt = (cf186 44).toInt := e236
        have e237 : (cf227 45).toInt = (cf186 45).toInt := e237
        have e238 : (cf227 46).toInt = (cf186 46).toInt := e238
        have e239 : (cf227 47).toInt = (cf186 47).toInt := e239
        have e240 : (cf227 41).toInt = (cf186 41).toInt := e240
        have e241 : (cf227 55).toInt = (cf186 55).toInt := e241
        have e242 : (cf227 59).toInt = (cf186 59).toInt := e242
        have e243 : (cf186 33).toInt ≤ (cf227 33).toInt := e243
        have e244 : 6 * (cf227 33).toInt ≤ 6 * (cf186 33).toInt + (w3) := e244
        have e245 : (cf186 48).toInt ≤ (cf227 48).toInt := e245
        have e246 : 6 * (cf227 48).toInt ≤ 6 * (cf186 48).toInt + (w3) := e246
        have e247 : (cf186 54).toInt ≤ (cf227 54).toInt := e247
        have e248 : (cf186 42).toInt ≤ (cf227 42).toInt := e248
        have e249 : (cf227 54).toInt - (cf186 54).toInt ≤ 4 * ((cf227 42).toInt - (cf186 42).toInt) := e249
        have e250 : (cf227 54).toInt - (cf186 54).toInt ≤ 4096 * ((cf227 48).toInt - (cf186 48).toInt) := e250
        have e251 : (cf227 42).toInt - (cf186 42).toInt ≤ 4096 * ((cf227 48).toInt - (cf186 48).toInt) := e251
        have e252 : KnT (tf 6).toInt ca228 (cf227 33).toInt := e252
        have hkt := e252
        have hk11_e252 := hkt.1
        have e253 : KnS ca228 (cf227 33).toInt (cf227 48).toInt ys := e253
        have hks := e253
        have e254 : CaG ca187 ca228 (cf186 33).toInt (cf186 48).toInt := e254
        have hcg := hcg.tr e254 (by omega) (by omega)
        have hft := hft.cg e254
        have hfp := hfp.cg e254
        have e255 : SyR ca228 ys (cf227 48).toInt (cf227 54).toInt tx := e255
        have hsr := e255
        have e256 : Ann na ma0 ma226 := e256
        have han := e256
        have e257 : FrC m2 hi ma185 ma226 := e257
        have hfc := hfc.tr e257 (by omega) (by omega)
        have hty_z158 : ZTe cf227 ta ca228 na ma0 (cf227 48).toInt ys nf ma226 (p0.toInt + 1) m1 z158 0 := ZTe.tr hty_z158 (fun q => by omega) e257 (by omega) e254 (by omega) (by omega)
        have hts_z181 : ZTe cf227 ta ca228 na ma0 (cf227 48).toInt ys nf ma226 m1 m2 z181 (tgv (cf 44).toInt (cf 45).toInt) := ZTe.tr hts_z181 (fun q => by omega) e257 (by omega) e254 (by omega) (by omega)
        have e258 : ZTe cf227 ta ca228 na ma0 (cf227 48).toInt ys nf ma226 m2 hi z222 (tgv (cf186 44).toInt (cf186 45).toInt) := e258
        have hts_z222 : ZTe cf227 ta ca228 na ma0 (cf227 48).toInt ys nf ma226 m2 hi z222 (tgv (cf 44).toInt (cf 45).toInt) := ZTe.to e258 (fun q => by omega) (by omega) (Int.le_refl _) (Int.le_refl _) (by congr 1 <;> omega)
        have e259 : RL_mp_checkStatement d tf ta na z222 ma185 cf186 ca187 ma226 cf227 ca228 := e259
        have hw : pw D A s.heap H locs [wdP cs h r g tf ta pf na ma226 wa cf227 ca228 ef ea xf xa] := hw
        refine lv_goto (tgt := 274) S.x S.b d_Mpg_checkStatement_150 (by decide) ?_
        exact px_vret S hr hlk hAe hw (Nat.le_of_ble_eq_true rfl) (Nat.le_of_ble_eq_true rfl) (⟨ma226, cf227, ca228, rfl, (show (cf227 30).toInt = 0 → (cf 30).toInt = 0 from by omega), (show WrV cf227 (tf 6).toInt from hwr), (show (cf227 37).toInt = (cf 37).toInt from by first | exact oz_e13fc83238 hkk37_e165 e233 e192 | omega), (show (cf227 38).toInt = (cf 38).toInt from by first | exact oz_e13fc83238 e168 e234 e193 | omega), (show (cf227 43).toInt = (cf 43).toInt from by first | exact oz_e13fc83238 hkk43_e165 e235 e194 | omega), (show (cf227 44).toInt = (cf 44).toInt from by first | exact oz_e13fc83238 hkk44_e165 e236 e195 | omega), (show (cf227 45).toInt = (cf 45).toInt from by first | exact oz_e13fc83238 hkk45_e165 e237 e196 | omega), (show (cf227 46).toInt = (cf 46).toInt from by first | exact oz_e13fc83238 e170 e238 e197 | omega), (show (cf227 47).toInt = (cf 47).toInt from by first | exact oz_e13fc83238 e171 e239 e198 | omega), (show (cf227 41).toInt = (cf 41).toInt from by first | exact oz_e13fc83238 hkk41_e165 e240 e199 | omega), (show (cf227 55).toInt = (cf 55).toInt from by first | exact oz_e13fc83238 hkk55_e165 e241 e200 | omega), (show (cf227 59).toInt = (cf 59).toInt from by first | exact oz_e13fc83238 hkk59_e165 e242 e201 | omega), (show (cf 33).toInt ≤ (cf227 33).toInt from by first | exact oz_fa6975ff6a e167 e243 e202 | omega), (show 6 * (cf227 33).toInt ≤ 6 * (cf 33).toInt + (w) from by first | exact oz_3bc4f35784 hws e167 e244 hw1 e203 | omega), (show (cf 48).toInt ≤ (cf227 48).toInt from by first | exact oz_92b12c479c e169 e251 e207 e210 e248 | omega), (show 6 * (cf227 48).toInt ≤ 6 * (cf 48).toInt + (w) from by first | exact oz_3bc4f35784 hws e169 e246 hw1 e205 | omega), (show (cf 54).toInt ≤ (cf227 54).toInt from by first | exact oz_fa6975ff6a hkk54_e165 e247 e206 | omega), (show (cf 42).toInt ≤ (cf227 42).toInt from by first | exact oz_fa6975ff6a hkk42_e165 e248 e207 | omega), (show (cf227 54).toInt - (cf 54).toInt ≤ 4 * ((cf227 42).toInt - (cf 42).toInt) from by first | exact oz_c77a0f0561 hkk42_e165 hkk54_e165 e249 e208 | omega), (show (cf227 54).toInt - (cf 54).toInt ≤ 4096 * ((cf227 48).toInt - (cf 48).toInt) from by first | exact oz_d7dceb9cc3 e169 hkk54_e165 e250 e209 | omega), (show (cf227 42).toInt - (cf 42).toInt ≤ 4096 * ((cf227 48).toInt - (cf 48).toInt) from by first | exact oz_d7dceb9cc3 e169 hkk42_e165 e251 e210 | omega), (show KnT (tf 6).toInt ca228 (cf227 33).toInt from (KnT.eq hkt (by omega))), (show KnS ca228 (cf227 33).toInt (cf227 48).toInt ys from (KnS.eq hks (by omega) (by omega))), (show CaG ca ca228 (cf 33).toInt (cf 48).toInt from (hcg.le (by omega) (by omega))), (show SyR ca228 ys (cf227 48).toInt (cf227 54).toInt tx from (SyR.eq hsr (by omega) (by omega))), (show Ann na ma0 ma226 from han), (show FrC lo hi ma ma226 from hfc), (show ZTe cf227 ta ca228 na ma0 (cf227 48).toInt ys nf ma226 lo hi p0 (tgv (cf 44).toInt (cf 45).toInt) from (fun zz => by exact tys_24 ⟨by omega, by omega, by omega⟩ tgv_rng (by omega) ha_z158 (ha_z181.trans (Ann.b18 han (by omega)).symm) (ha_z222.trans (Ann.b19 han (by omega)).symm) (ZTe.at hty_z158 (by omega) (by omega) (by omega) (by omega) rfl) (ZTe.at hts_z181 (by omega) (by omega) (by omega) (by omega) rfl) (ZTe.ot hts_z222 (by omega) (by omega) (by omega) (by omega) rfl))), (show R_mp_checkStatement (RL_mp_checkStatement d) tf ta na p0 ma cf ca ma226 cf227 ca228 from (Or.inl ⟨z1, ez1, Or.inr (Or.inr (Or.inr (Or.inr (Or.inr (Or.inl ⟨c64, z158, ez158, ma161, cf162, v164, e180X, z181, ez181, ma185, cf186, ca187, e218, z219, ez219, Or.inr ⟨nc220, z222, ez222, ma226, cf227, ca228, e259, rfl, rfl, rfl⟩⟩)))))⟩))⟩) d_Mpg_checkStatement_274
    · simp only [List.mem_cons, List.not_mem_nil, or_false] at c64
      refine lv_aload_n S.x S.b d_Mpg_checkStatement_153 rfl (lv_at hl 0 rfl) ?_
      refine lv_aload_n S.x S.b d_Mpg_checkStatement_154 rfl (lv_at hl 0 rfl) ?_
      obtain ⟨m1, m2, w1, w2, w3, hm1, hm2, hm3, hea, hsb, hoc, hx24, hws, hw1, hw2, hw3⟩ := ScV.s24 hsc (by omega) (z := na 17 p0.toNatClampNeg) (y := ma0 18 p0.toNatClampNeg) (x := ma0 19 p0.toNatClampNeg) rfl rfl rfl
      refine px_get S k_Mpg hT hw 0 0 17 (v := .ref (r 17)) rfl rfl rfl (by decide) m10_1 d_Mpg_checkStatement_155 ?_
      refine lv_iload_n S.x S.b d_Mpg_checkStatement_158 rfl (lv_at hl 1 rfl) ?_
      refine px_iald S hT hw 0 13 (n := 2100) (f := (na 17)) rfl gp_17 (x := p0) (vp_in_iff.mpr (by first | exact oz_a7e05de1cd hsr0.2.2.1 hsr0.2.1 g1 g2 | (constructor <;> omega))) d_Mpg_checkStatement_159 ?_
      refine lv_topi (fun z260 ez260 => ?_)
      have lz260 := Int32.le_toInt z260
      have uz260 := Int32.toInt_lt z260
      have ha_z260 : z260 = na 17 p0.toNatClampNeg := ez260; have hn_z260 : z260.toInt = (na 17 p0.toNatClampNeg).toInt := (by rw [ha_z260]); have hev_z260 : ErV ta (tf 6).toInt na ma0 d (p0.toInt + 1) m1 w1 z260 := (by rw [ha_z260]; exact hea); obtain ⟨hec_z260, h20_z260, hw_z260⟩ := hev_z260.ec; have hrg_z260 := EcV.rng hec_z260
      refine lv_iconst (v := 1) S.x S.b d_Mpg_checkStatement_160 (by decide) ?_
      refine px_calli (pr := []) (px_runV (As := [.int z260, .int 1]) (rest := []) S (c_S_check l D cs ma0 ys (cf 48).toInt nf (cf 33).toInt d (p0.toInt + 1) m1 h r g tf ta pf na wa ca ef ea xf xa ma cf z260 1  (show 0 ≤ (p0.toInt + 1) from by first | exact oz_c12c169b81 hsr0.2.2.1 | omega) (show m1 ≤ (pf 13).toInt from by first | exact oz_31ddc84520 g1 hm2 hm3 | omega) (show (pf 13).toInt ≤ 2100 from by first | exact g2 | omega) (show (tf 6).toInt ≤ 2049 from by first | exact g3 | omega) (show (cf 33).toInt = (cf 33).toInt from rfl) (show 0 ≤ (cf 33).toInt from by first | exact g4 | omega) (show (cf 48).toInt = (cf 48).toInt from rfl) (show (cf 38).toInt = nf from by first | exact g9 | omega) (show 0 ≤ nf from by first | exact g10 | omega) (show 0 ≤ (1 : Int) from by first | exact oz_19c3a41681 | omega) (show (1 : Int) ≤ 1 from by first | exact oz_f9181dc4bb | omega) htk (FsI.le (N' := (pf 13).toInt) hfs (by omega)) hwr (KnT.eq hkt (by omega)) (FnT.eq hft (by omega)) (KnS.eq hks (by omega) (by omega)) hfp han hec_z260 _) hT (pr := []) (pcs := [wdP cs h r g tf ta pf na ma wa cf ca ef ea xf xa]) hw (oX_call (P := (fun A U H => (oP A g U H))) (pr := []) oG_P hw hA hP) (px_recv hT hw 0 0 rfl rfl rfl) m12_217 m12_214 m12_216 ms_12_7 m1_21 q_Mpg_check ⟨show (4 * d + 12) + 1 ≤ (6 * (d + 1) + 26) from (by first | exact oz_9c5488ea07 | omega), show 8 + (8 + 11) + (200 * d + 420) ≤ (260 * (d + 1) + 900) from (by first | exact oz_e0b88b15c4 | omega)⟩ hl.1 rfl (Nat.le_of_ble_eq_true rfl) d_Mpg_checkStatement_161 ⟨Nat.le_of_ble_eq_true rfl, Nat.le_of_ble_eq_true rfl⟩) hw hA (fun v266 p265 H locs hp265 hw => ?_)
      obtain ⟨ma263, cf264, rfl, e267, e268, e269, e270, e271, e272, e273, e274, e275, e276, e277, e278, e279, e280, e281, e282⟩ := hp265
      have e267 : KpE cf cf264 := e267
      have hkz_e267 := e267.2
      have hkk37_e267 : (cf264 37).toInt = (cf 37).toInt := (by rw [e267.1 37 (by decide) (by decide) (by decide) (by decide) (by decide)] <;> rfl)
      have hkk43_e267 : (cf264 43).toInt = (cf 43).toInt := (by rw [e267.1 43 (by decide) (by decide) (by decide) (by decide) (by decide)] <;> rfl)
      have hkk44_e267 : (cf264 44).toInt = (cf 44).toInt := (by rw [e267.1 44 (by decide) (by decide) (by decide) (by decide) (by decide)] <;> rfl)
      have hkk45_e267 : (cf264 45).toInt = (cf 45).toInt := (by rw [e267.1 45 (by decide) (by decide) (by decide) (by decide) (by decide)] <;> rfl)
      have hkk41_e267 : (cf264 41).toInt = (cf 41).toInt := (by rw [e267.1 41 (by decide) (by decide) (by decide) (by decide) (by decide)] <;> rfl)
      have hkk55_e267 : (cf264 55).toInt = (cf 55).toInt := (by rw [e267.1 55 (by decide) (by decide) (by decide) (by decide) (by decide)] <;> rfl)
      have hkk59_e267 : (cf264 59).toInt = (cf 59).toInt := (by rw [e267.1 59 (by decide) (by decide) (by decide) (by decide) (by decide)] <;> rfl)
      have hkk42_e267 : (cf264 42).toInt = (cf 42).toInt := (by rw [e267.1 42 (by decide) (by decide) (by decide) (by decide) (by decide)] <;> rfl)
      have hkk54_e267 : (cf264 54).toInt = (cf 54).toInt := (by rw [e267.1 54 (by decide) (by decide) (by decide) (by decide) (by decide)] <;> rfl)
      have hkk58_e267 : (cf264 58).toInt = (cf 58).toInt := (by rw [e267.1 58 (by decide) (by decide) (by decide) (by decide) (by decide)] <;> rfl)
      have e268 : WrV cf264 (tf 6).toInt := e268
      have hwr := e268
      have hw0_e268 := hwr.1
      have e269 : (cf264 33).toInt = (cf 33).toInt := e269
      have e270 : (cf264 38).toInt = (cf 38).toInt := e270
      have e271 : (cf264 48).toInt = (cf 48).toInt := e271
      have e272 : (cf264 46).toInt = (cf 46).toInt := e272
      have e273 : (cf264 47).toInt = (cf 47).toInt := e273
      have e274 : (cf264 57).toInt = (cf 57).toInt := e274
      have e275 : Ann na ma0 ma263 := e275
      have han := e275
      have e276 : FrC (p0.toInt + 1) m1 ma ma263 := e276
      have hfc := hfc.tr e276 (by omega) (by omega)
      have e277 : 0 ≤ v266.toInt := e277
      have e278 : v266.toInt ≤ 4 := e278
      have e279 : NmJ ta ca na ma263 (cf 33).toInt z260 v266.toInt := e279
      have e280 : ZTy cf264 (Gk ta ca na ma0 (cf 48).toInt ys nf) na ma263 (p0.toInt + 1) m1 z260 v266.toInt := e280
      have e281 : ZNm cf264 (1 : Int) v266.toInt := e281
      have hty_z260 : ZTe cf264 ta ca na ma0 (cf264 48).toInt ys nf ma263 (p0.toInt + 1) m1 z260 0 := ZTe.to (t := 0) (ZTy.num e280 e281) (fun q => by omega) (by omega) (Int.le_refl _) (Int.le_refl _) rfl
      have e282 : RL_mp_check d tf ta na ca z260 (1 : Int32) ma cf ma263 cf264 v266 := e282
      have e282X : RX_mp_check tf ta na ca z260 (1 : Int32) ma cf ma263 cf264 v266 := ⟨d, e282⟩
      have hw : pw D A s.heap H locs [wdP cs h r g tf ta pf na ma263 wa cf264 ca ef ea xf xa] := hw
      have lv266 := Int32.le_toInt v266
      have uv266 := Int32.toInt_lt v266
      refine lv_pop S.x S.b d_Mpg_checkStatement_164 rfl ?_
      refine lv_aload_n S.x S.b d_Mpg_checkStatement_165 rfl (lv_at hl 0 rfl) ?_
      refine lv_aload_n S.x S.b d_Mpg_checkStatement_166 rfl (lv_at hl 0 rfl) ?_
      refine px_get S k_Mpg hT hw 0 0 18 (v := .ref (r 18)) rfl rfl rfl (by decide) m10_3 d_Mpg_checkStatement_167 ?_
      refine lv_iload_n S.x S.b d_Mpg_checkStatement_170 rfl (lv_at hl 1 rfl) ?_
      refine px_iald S hT hw 0 14 (n := 2100) (f := (ma263 18)) rfl gp_18 (x := p0) (vp_in_iff.mpr (by first | exact oz_a7e05de1cd hsr0.2.2.1 hsr0.2.1 g1 g2 | (constructor <;> omega))) d_Mpg_checkStatement_171 ?_
      refine lv_topi (fun z283 ez283 => ?_)
      have lz283 := Int32.le_toInt z283
      have uz283 := Int32.toInt_lt z283
      have ha_z283 : z283 = ma0 18 p0.toNatClampNeg := ez283.trans (Ann.b18 han (by omega)); have hn_z283 : z283.toInt = (ma0 18 p0.toNatClampNeg).toInt := (by rw [ha_z283]); have hsc_z283 : ScV ta (tf 6).toInt na ma0 d m1 m2 w2 z283 := (by rw [ha_z283]; exact hsb); have hrg_z283 := ScV.rng hsc_z283
      refine px_callv (pr := []) (px_runV (As := [.int z283]) (rest := []) S (c_mp_checkBody l D cs ma0 ys nf tx d m1 m2 w2 h r g tf ta pf na wa ef ea xf xa ma263 cf264 ca z283  (show 0 ≤ m1 from by first | exact oz_0a7da9c4d6 hm1 hsr0.2.2.1 | omega) (show m2 ≤ (pf 13).toInt from by first | exact oz_bbb5b20c1a g1 hm3 | omega) (show (pf 13).toInt ≤ 2100 from by first | exact g2 | omega) (show (tf 6).toInt ≤ 2049 from by first | exact g3 | omega) (show 0 ≤ (cf264 33).toInt from by first | exact oz_f3ebed1ad0 e269 g4 | omega) (show 0 ≤ w2 from by first | exact hw2 | omega) (show 6 * (cf264 33).toInt + w2 ≤ 6540 from by first | exact oz_02af3e62d3 hws e269 g6 hw1 hw3 | omega) (show 0 ≤ (cf264 48).toInt from by first | exact oz_f3ebed1ad0 e271 g7 | omega) (show 6 * (cf264 48).toInt + w2 ≤ 6540 from by first | exact oz_02af3e62d3 hws e271 g8 hw1 hw3 | omega) (show (cf264 38).toInt = nf from by first | exact oz_1687f4cc65 g9 e270 | omega) (show 0 ≤ nf from by first | exact g10 | omega) (show 0 ≤ (cf264 37).toInt from by first | exact oz_f3ebed1ad0 hkk37_e267 g11 | omega) (show 0 ≤ (cf264 54).toInt from by first | exact oz_f3ebed1ad0 hkk54_e267 g12 | omega) (show (cf264 54).toInt ≤ 4096 * (cf264 48).toInt from by first | exact oz_964e82b9f4 e271 hkk54_e267 g13 | omega) (show 0 ≤ (cf264 42).toInt from by first | exact oz_f3ebed1ad0 hkk42_e267 g14 | omega) (show (cf264 42).toInt ≤ 4 + 4096 * (cf264 48).toInt from by first | exact oz_0fa6d939a6 e271 hkk42_e267 g15 | omega) (show 0 ≤ (cf264 44).toInt from by first | exact oz_f3ebed1ad0 hkk44_e267 g16 | omega) (show 0 ≤ (cf264 45).toInt from by first | exact oz_f3ebed1ad0 hkk45_e267 g17 | omega) (show ys ≤ (cf264 48).toInt ∨ tx = 1 from by omega) (show 0 ≤ (cf264 46).toInt from by first | exact oz_f3ebed1ad0 e272 g19 | omega) (show (cf264 46).toInt ≤ 1 from by first | exact oz_878017becc e272 g20 | omega) (show 0 ≤ (cf264 47).toInt from by first | exact oz_f3ebed1ad0 e273 g21 | omega) (show (cf264 47).toInt ≤ 1 from by first | exact oz_878017becc e273 g22 | omega) (show (cf264 44).toInt + (d : Int) ≤ 400 from by first | exact oz_7ff02c72cf g23 hkk44_e267 | omega) (show (cf264 45).toInt + (d : Int) ≤ 400 from by first | exact oz_7ff02c72cf g24 hkk45_e267 | omega) (show 0 ≤ (cf264 43).toInt from by first | exact oz_f3ebed1ad0 hkk43_e267 g25 | omega) (show (cf264 43).toInt < 2100 from by first | exact oz_b365134983 hkk43_e267 g26 | omega) (show tx = 0 from by first | exact g27 | omega) (show (cf264 44).toInt + (d : Int) + 1 ≤ 400 from by first | exact oz_53964e496c g23 hkk44_e267 | omega) htk (FsI.le (N' := (pf 13).toInt) hfs (by omega)) hwr (KnT.eq hkt (by omega)) (FnT.eq hft (by omega)) (KnS.eq hks (by omega) (by omega)) hfp (SyR.eq hsr (by omega) (by omega)) han (show txo (cf264 43).toInt = tx from by rw [show (cf264 43).toInt = (cf 43).toInt by omega]; exact htx) hsc_z283 hLS _) hT (pr := []) (pcs := [wdP cs h r g tf ta pf na ma263 wa cf264 ca ef ea xf xa]) hw (oX_call (P := (fun A U H => (oP A g U H))) (pr := []) oG_P hw hA hP) (px_recv hT hw 0 0 rfl rfl rfl) m13_37 m13_34 m13_36 ms_13_6 m1_21 q_Mpg_checkBody ⟨show (6 * d + 27) + 1 ≤ (6 * (d + 1) + 26) from (by first | exact oz_06a2e57cf7 | omega), show 8 + (2 + 11) + (260 * d + 940) ≤ (260 * (d + 1) + 900) from (by first | exact oz_68b055cc9f | omega)⟩ hl.1 rfl (Nat.le_of_ble_eq_true rfl) d_Mpg_checkStatement_172 ⟨Nat.le_of_ble_eq_true rfl, Nat.le_of_ble_eq_true rfl⟩) hw hA (fun p290 H locs hp290 hw => ?_)
      obtain ⟨ma287, cf288, ca289, rfl, e292, e293, e294, e295, e296, e297, e298, e299, e300, e301, e302, e303, e304, e305, e306, e307, e308, e309, e310, e311, e312, e313, e314, e315, e316, e317, e318, e319, e320⟩ := hp290
      have e292 : (cf288 30).toInt = 0 → (cf264 30).toInt = 0 := e292
      have e293 : WrV cf288 (tf 6).toInt := e293
      have hwr := e293
      have hw0_e293 := hwr.1
      have e294 : (cf288 37).toInt = (cf264 37).toInt := e294
      have e295 : (cf288 38).toInt = (cf264 38).toInt := e295
      have e296 : (cf288 43).toInt = (cf264 43).toInt := e296
      have e297 : (cf288 44).toInt = (cf264 44).toInt := e297
      have e298 : (cf288 45).toInt = (cf264 45).toInt := e298
      have e299 : (cf288 46).toInt = (cf264 46).toInt := e299
      have e300 : (cf288 47).toInt = (cf264 47).toInt := e300
      have e301 : (cf288 41).toInt = (cf264 41).toInt := e301
      have e302 : (cf288 55).toInt = (cf264 55).toInt := e302
      have e303 : (cf288 59).toInt = (cf264 59).toInt := e303
      have e304 : (cf264 33).toInt ≤ (cf288 33).toInt := e304
      have e305 : 6 * (cf288 33).toInt ≤ 6 * (cf264 33).toInt + (w2) := e305
      have e306 : (cf264 48).toInt ≤ (cf288 48).toInt := e306
      have e307 : 6 * (cf288 48).toInt ≤ 6 * (cf264 48).toInt + (w2) := e307
      have e308 : (cf264 54).toInt ≤ (cf288 54).toInt := e308
      have e309 : (cf264 42).toInt ≤ (cf288 42).toInt := e309
      have e310 : (cf288 54).toInt - (cf264 54).toInt ≤ 4 * ((cf288 42).toInt - (cf264 42).toInt) := e310
      have e311 : (cf288 54).toInt - (cf264 54).toInt ≤ 4096 * ((cf288 48).toInt - (cf264 48).toInt) := e311
      have e312 : (cf288 42).toInt - (cf264 42).toInt ≤ 4096 * ((cf288 48).toInt - (cf264 48).toInt) := e312
      have e313 : KnT (tf 6).toInt ca289 (cf288 33).toInt := e313
      have hkt := e313
      have hk11_e313 := hkt.1
      have e314 : KnS ca289 (cf288 33).toInt (cf288 48).toInt ys := e314
      have hks := e314
      have e315 : CaG ca ca289 (cf264 33).toInt (cf264 48).toInt := e315
      have hcg := hcg.tr e315 (by omega) (by omega)
      have hft := hft.cg e315
      have hfp := hfp.cg e315
      have e316 : SyR ca289 ys (cf288 48).toInt (cf288 54).toInt tx := e316
      have hsr := e316
      have e317 : Ann na ma0 ma287 := e317
      have han := e317
      have e318 : FrC m1 m2 ma263 ma287 := e318
      have hfc := hfc.tr e318 (by omega) (by omega)
      have hty_z260 : ZTe cf288 ta ca289 na ma0 (cf288 48).toInt ys nf ma287 (p0.toInt + 1) m1 z260 0 := ZTe.tr hty_z260 (fun q => by omega) e318 (by omega) e315 (by omega) (by omega)
      have e319 : ZTe cf288 ta ca289 na ma0 (cf288 48).toInt ys nf ma287 m1 m2 z283 4 := e319
      have hts_z283 : ZTe cf288 ta ca289 na ma0 (cf288 48).toInt ys nf ma287 m1 m2 z283 4 := ZTe.to e319 (fun q => by omega) (by omega) (Int.le_refl _) (Int.le_refl _) rfl
      have e320 : R_mp_checkBody (RL_mp_checkStatement d) tf ta na z283 ma263 cf264 ca ma287 cf288 ca289 := e320
      have hw : pw D A s.heap H locs [wdP cs h r g tf ta pf na ma287 wa cf288 ca289 ef ea xf xa] := hw
      refine lv_goto (tgt := 274) S.x S.b d_Mpg_checkStatement_175 (by decide) ?_
      exact px_vret S hr hlk hAe hw (Nat.le_of_ble_eq_true rfl) (Nat.le_of_ble_eq_true rfl) (⟨ma287, cf288, ca289, rfl, (show (cf288 30).toInt = 0 → (cf 30).toInt = 0 from by omega), (show WrV cf288 (tf 6).toInt from hwr), (show (cf288 37).toInt = (cf 37).toInt from by first | exact oz_1687f4cc65 hkk37_e267 e294 | omega), (show (cf288 38).toInt = (cf 38).toInt from by first | exact oz_1687f4cc65 e270 e295 | omega), (show (cf288 43).toInt = (cf 43).toInt from by first | exact oz_1687f4cc65 hkk43_e267 e296 | omega), (show (cf288 44).toInt = (cf 44).toInt from by first | exact oz_1687f4cc65 hkk44_e267 e297 | omega), (show (cf288 45).toInt = (cf 45).toInt from by first | exact oz_1687f4cc65 hkk45_e267 e298 | omega), (show (cf288 46).toInt = (cf 46).toInt from by first | exact oz_1687f4cc65 e272 e299 | omega), (show (cf288 47).toInt = (cf 47).toInt from by first | exact oz_1687f4cc65 e273 e300 | omega), (show (cf288 41).toInt = (cf 41).toInt from by first | exact oz_1687f4cc65 hkk41_e267 e301 | omega), (show (cf288 55).toInt = (cf 55).toInt from by first | exact oz_1687f4cc65 hkk55_e267 e302 | omega), (show (cf288 59).toInt = (cf 59).toInt from by first | exact oz_1687f4cc65 hkk59_e267 e303 | omega), (show (cf 33).toInt ≤ (cf288 33).toInt from by first | exact oz_49930e0c7e e269 e304 | omega), (show 6 * (cf288 33).toInt ≤ 6 * (cf 33).toInt + (w) from by first | exact oz_c24cebfbf9 hws e269 e305 hw1 hw3 | omega), (show (cf 48).toInt ≤ (cf288 48).toInt from by first | exact oz_0c5bc78c46 e271 e312 e309 | omega), (show 6 * (cf288 48).toInt ≤ 6 * (cf 48).toInt + (w) from by first | exact oz_c24cebfbf9 hws e271 e307 hw1 hw3 | omega), (show (cf 54).toInt ≤ (cf288 54).toInt from by first | exact oz_49930e0c7e hkk54_e267 e308 | omega), (show (cf 42).toInt ≤ (cf288 42).toInt from by first | exact oz_49930e0c7e hkk42_e267 e309 | omega), (show (cf288 54).toInt - (cf 54).toInt ≤ 4 * ((cf288 42).toInt - (cf 42).toInt) from by first | exact oz_123de3a11e hkk42_e267 hkk54_e267 e310 | omega), (show (cf288 54).toInt - (cf 54).toInt ≤ 4096 * ((cf288 48).toInt - (cf 48).toInt) from by first | exact oz_261600e303 e271 hkk54_e267 e311 | omega), (show (cf288 42).toInt - (cf 42).toInt ≤ 4096 * ((cf288 48).toInt - (cf 48).toInt) from by first | exact oz_261600e303 e271 hkk42_e267 e312 | omega), (show KnT (tf 6).toInt ca289 (cf288 33).toInt from (KnT.eq hkt (by omega))), (show KnS ca289 (cf288 33).toInt (cf288 48).toInt ys from (KnS.eq hks (by omega) (by omega))), (show CaG ca ca289 (cf 33).toInt (cf 48).toInt from (hcg.le (by omega) (by omega))), (show SyR ca289 ys (cf288 48).toInt (cf288 54).toInt tx from (SyR.eq hsr (by omega) (by omega))), (show Ann na ma0 ma287 from han), (show FrC lo hi ma ma287 from hfc), (show ZTe cf288 ta ca289 na ma0 (cf288 48).toInt ys nf ma287 lo hi p0 (tgv (cf 44).toInt (cf 45).toInt) from (fun zz => by exact tys_25 ⟨by omega, by omega, by omega⟩ tgv_rng (by omega) ha_z260 (ha_z283.trans (Ann.b18 han (by omega)).symm) (ZTe.at hty_z260 (by omega) (by omega) (by omega) (by omega) rfl) (ZTe.at hts_z283 (by omega) (by omega) (by omega) (by omega) rfl))), (show R_mp_checkStatement (RL_mp_checkStatement d) tf ta na p0 ma cf ca ma287 cf288 ca289 from (Or.inl ⟨z1, ez1, Or.inr (Or.inr (Or.inr (Or.inr (Or.inr (Or.inr (Or.inl ⟨c64, z260, ez260, ma263, cf264, v266, e282X, z283, ez283, ma287, cf288, ca289, e320, rfl, rfl, rfl⟩))))))⟩))⟩) d_Mpg_checkStatement_274
    · simp only [List.mem_cons, List.not_mem_nil, or_false] at c64
      refine lv_aload_n S.x S.b d_Mpg_checkStatement_178 rfl (lv_at hl 0 rfl) ?_
      refine lv_aload_n S.x S.b d_Mpg_checkStatement_179 rfl (lv_at hl 0 rfl) ?_
      obtain ⟨m1, w1, w2, hm1, hm3, hsb, hea, hx26, hws, hw1, hw2⟩ := ScV.s26 hsc (by omega) (z := na 17 p0.toNatClampNeg) (y := ma0 18 p0.toNatClampNeg) rfl rfl
      refine px_get S k_Mpg hT hw 0 0 18 (v := .ref (r 18)) rfl rfl rfl (by decide) m10_3 d_Mpg_checkStatement_180 ?_
      refine lv_iload_n S.x S.b d_Mpg_checkStatement_183 rfl (lv_at hl 1 rfl) ?_
      refine px_iald S hT hw 0 14 (n := 2100) (f := (ma 18)) rfl gp_18 (x := p0) (vp_in_iff.mpr (by first | exact oz_a7e05de1cd hsr0.2.2.1 hsr0.2.1 g1 g2 | (constructor <;> omega))) d_Mpg_checkStatement_184 ?_
      refine lv_topi (fun z321 ez321 => ?_)
      have lz321 := Int32.le_toInt z321
      have uz321 := Int32.toInt_lt z321
      have ha_z321 : z321 = ma0 18 p0.toNatClampNeg := ez321.trans (Ann.b18 han (by omega)); have hn_z321 : z321.toInt = (ma0 18 p0.toNatClampNeg).toInt := (by rw [ha_z321]); have hsc_z321 : ScV ta (tf 6).toInt na ma0 d (p0.toInt + 1) m1 w2 z321 := (by rw [ha_z321]; exact hsb); have hrg_z321 := ScV.rng hsc_z321
      refine px_callv (pr := []) (px_runV (As := [.int z321]) (rest := []) S (c_mp_checkBody l D cs ma0 ys nf tx d (p0.toInt + 1) m1 w2 h r g tf ta pf na wa ef ea xf xa ma cf ca z321  (show 0 ≤ (p0.toInt + 1) from by first | exact oz_c12c169b81 hsr0.2.2.1 | omega) (show m1 ≤ (pf 13).toInt from by first | exact oz_bbb5b20c1a g1 hm3 | omega) (show (pf 13).toInt ≤ 2100 from by first | exact g2 | omega) (show (tf 6).toInt ≤ 2049 from by first | exact g3 | omega) (show 0 ≤ (cf 33).toInt from by first | exact g4 | omega) (show 0 ≤ w2 from by first | exact hw2 | omega) (show 6 * (cf 33).toInt + w2 ≤ 6540 from by first | exact oz_5712b2ecc9 g6 hws hw1 | omega) (show 0 ≤ (cf 48).toInt from by first | exact g7 | omega) (show 6 * (cf 48).toInt + w2 ≤ 6540 from by first | exact oz_5712b2ecc9 g8 hws hw1 | omega) (show (cf 38).toInt = nf from by first | exact g9 | omega) (show 0 ≤ nf from by first | exact g10 | omega) (show 0 ≤ (cf 37).toInt from by first | exact g11 | omega) (show 0 ≤ (cf 54).toInt from by first | exact g12 | omega) (show (cf 54).toInt ≤ 4096 * (cf 48).toInt from by first | exact g13 | omega) (show 0 ≤ (cf 42).toInt from by first | exact g14 | omega) (show (cf 42).toInt ≤ 4 + 4096 * (cf 48).toInt from by first | exact g15 | omega) (show 0 ≤ (cf 44).toInt from by first | exact g16 | omega) (show 0 ≤ (cf 45).toInt from by first | exact g17 | omega) (show ys ≤ (cf 48).toInt ∨ tx = 1 from by first | exact g18 | omega) (show 0 ≤ (cf 46).toInt from by first | exact g19 | omega) (show (cf 46).toInt ≤ 1 from by first | exact g20 | omega) (show 0 ≤ (cf 47).toInt from by first | exact g21 | omega) (show (cf 47).toInt ≤ 1 from by first | exact g22 | omega) (show (cf 44).toInt + (d : Int) ≤ 400 from by first | exact oz_8237b40f3f g23 | omega) (show (cf 45).toInt + (d : Int) ≤ 400 from by first | exact oz_8237b40f3f g24 | omega) (show 0 ≤ (cf 43).toInt from by first | exact g25 | omega) (show (cf 43).toInt < 2100 from by first | exact g26 | omega) (show tx = 0 from by first | exact g27 | omega) (show (cf 44).toInt + (d : Int) + 1 ≤ 400 from by first | exact oz_9bf0b6c62b g23 | omega) htk (FsI.le (N' := (pf 13).toInt) hfs (by omega)) hwr (KnT.eq hkt (by omega)) (FnT.eq hft (by omega)) (KnS.eq hks (by omega) (by omega)) hfp (SyR.eq hsr (by omega) (by omega)) han (show txo (cf 43).toInt = tx from by rw [show (cf 43).toInt = (cf 43).toInt by omega]; exact htx) hsc_z321 hLS _) hT (pr := []) (pcs := [wdP cs h r g tf ta pf na ma wa cf ca ef ea xf xa]) hw (oX_call (P := (fun A U H => (oP A g U H))) (pr := []) oG_P hw hA hP) (px_recv hT hw 0 0 rfl rfl rfl) m13_37 m13_34 m13_36 ms_13_6 m1_21 q_Mpg_checkBody ⟨show (6 * d + 27) + 1 ≤ (6 * (d + 1) + 26) from (by first | exact oz_06a2e57cf7 | omega), show 8 + (2 + 11) + (260 * d + 940) ≤ (260 * (d + 1) + 900) from (by first | exact oz_68b055cc9f | omega)⟩ hl.1 rfl (Nat.le_of_ble_eq_true rfl) d_Mpg_checkStatement_185 ⟨Nat.le_of_ble_eq_true rfl, Nat.le_of_ble_eq_true rfl⟩) hw hA (fun p328 H locs hp328 hw => ?_)
      obtain ⟨ma325, cf326, ca327, rfl, e330, e331, e332, e333, e334, e335, e336, e337, e338, e339, e340, e341, e342, e343, e344, e345, e346, e347, e348, e349, e350, e351, e352, e353, e354, e355, e356, e357, e358⟩ := hp328
      have e330 : (cf326 30).toInt = 0 → (cf 30).toInt = 0 := e330
      have e331 : WrV cf326 (tf 6).toInt := e331
      have hwr := e331
      have hw0_e331 := hwr.1
      have e332 : (cf326 37).toInt = (cf 37).toInt := e332
      have e333 : (cf326 38).toInt = (cf 38).toInt := e333
      have e334 : (cf326 43).toInt = (cf 43).toInt := e334
      have e335 : (cf326 44).toInt = (cf 44).toInt := e335
      have e336 : (cf326 45).toInt = (cf 45).toInt := e336
      have e337 : (cf326 46).toInt = (cf 46).toInt := e337
      have e338 : (cf326 47).toInt = (cf 47).toInt := e338
      have e339 : (cf326 41).toInt = (cf 41).toInt := e339
      have e340 : (cf326 55).toInt = (cf 55).toInt := e340
      have e341 : (cf326 59).toInt = (cf 59).toInt := e341
      have e342 : (cf 33).toInt ≤ (cf326 33).toInt := e342
      have e343 : 6 * (cf326 33).toInt ≤ 6 * (cf 33).toInt + (w2) := e343
      have e344 : (cf 48).toInt ≤ (cf326 48).toInt := e344
      have e345 : 6 * (cf326 48).toInt ≤ 6 * (cf 48).toInt + (w2) := e345
      have e346 : (cf 54).toInt ≤ (cf326 54).toInt := e346
      have e347 : (cf 42).toInt ≤ (cf326 42).toInt := e347
      have e348 : (cf326 54).toInt - (cf 54).toInt ≤ 4 * ((cf326 42).toInt - (cf 42).toInt) := e348
      have e349 : (cf326 54).toInt - (cf 54).toInt ≤ 4096 * ((cf326 48).toInt - (cf 48).toInt) := e349
      have e350 : (cf326 42).toInt - (cf 42).toInt ≤ 4096 * ((cf326 48).toInt - (cf 48).toInt) := e350
      have e351 : KnT (tf 6).toInt ca327 (cf326 33).toInt := e351
      have hkt := e351
      have hk11_e351 := hkt.1
      have e352 : KnS ca327 (cf326 33).toInt (cf326 48).toInt ys := e352
      have hks := e352
      have e353 : CaG ca ca327 (cf 33).toInt (cf 48).toInt := e353
      have hcg := hcg.tr e353 (by omega) (by omega)
      have hft := hft.cg e353
      have hfp := hfp.cg e353
      have e354 : SyR ca327 ys (cf326 48).toInt (cf326 54).toInt tx := e354
      have hsr := e354
      have e355 : Ann na ma0 ma325 := e355
      have han := e355
      have e356 : FrC (p0.toInt + 1) m1 ma ma325 := e356
      have hfc := hfc.tr e356 (by omega) (by omega)
      have e357 : ZTe cf326 ta ca327 na ma0 (cf326 48).toInt ys nf ma325 (p0.toInt + 1) m1 z321 4 := e357
      have hts_z321 : ZTe cf326 ta ca327 na ma0 (cf326 48).toInt ys nf ma325 (p0.toInt + 1) m1 z321 4 := ZTe.to e357 (fun q => by omega) (by omega) (Int.le_refl _) (Int.le_refl _) rfl
      have e358 : R_mp_checkBody (RL_mp_checkStatement d) tf ta na z321 ma cf ca ma325 cf326 ca327 := e358
      have hw : pw D A s.heap H locs [wdP cs h r g tf ta pf na ma325 wa cf326 ca327 ef ea xf xa] := hw
      refine lv_aload_n S.x S.b d_Mpg_checkStatement_188 rfl (lv_at hl 0 rfl) ?_
      refine lv_aload_n S.x S.b d_Mpg_checkStatement_189 rfl (lv_at hl 0 rfl) ?_
      refine px_get S k_Mpg hT hw 0 0 17 (v := .ref (r 17)) rfl rfl rfl (by decide) m10_1 d_Mpg_checkStatement_190 ?_
      refine lv_iload_n S.x S.b d_Mpg_checkStatement_193 rfl (lv_at hl 1 rfl) ?_
      refine px_iald S hT hw 0 13 (n := 2100) (f := (na 17)) rfl gp_17 (x := p0) (vp_in_iff.mpr (by first | exact oz_410a2b3a09 hsr0.2.2.1 hrg_z321.1 g1 hm3 hrg_z321.2.1 g2 | (constructor <;> omega))) d_Mpg_checkStatement_194 ?_
      refine lv_topi (fun z359 ez359 => ?_)
      have lz359 := Int32.le_toInt z359
      have uz359 := Int32.toInt_lt z359
      have ha_z359 : z359 = na 17 p0.toNatClampNeg := ez359; have hn_z359 : z359.toInt = (na 17 p0.toNatClampNeg).toInt := (by rw [ha_z359]); have hev_z359 : ErV ta (tf 6).toInt na ma0 d m1 hi w1 z359 := (by rw [ha_z359]; exact hea); obtain ⟨hec_z359, h20_z359, hw_z359⟩ := hev_z359.ec; have hrg_z359 := EcV.rng hec_z359
      refine lv_iconst (v := 1) S.x S.b d_Mpg_checkStatement_195 (by decide) ?_
      refine px_calli (pr := []) (px_runV (As := [.int z359, .int 1]) (rest := []) S (c_S_check l D cs ma0 ys (cf326 48).toInt nf (cf326 33).toInt d m1 hi h r g tf ta pf na wa ca327 ef ea xf xa ma325 cf326 z359 1  (show 0 ≤ m1 from by first | exact oz_5b675c0aaa hrg_z321.2.1 hsr0.2.2.1 hrg_z321.1 | omega) (show hi ≤ (pf 13).toInt from by first | exact g1 | omega) (show (pf 13).toInt ≤ 2100 from by first | exact g2 | omega) (show (tf 6).toInt ≤ 2049 from by first | exact g3 | omega) (show (cf326 33).toInt = (cf326 33).toInt from rfl) (show 0 ≤ (cf326 33).toInt from by first | exact oz_16d7fa9f32 e342 g4 | omega) (show (cf326 48).toInt = (cf326 48).toInt from rfl) (show (cf326 38).toInt = nf from by first | exact oz_1687f4cc65 g9 e333 | omega) (show 0 ≤ nf from by first | exact g10 | omega) (show 0 ≤ (1 : Int) from by first | exact oz_19c3a41681 | omega) (show (1 : Int) ≤ 1 from by first | exact oz_f9181dc4bb | omega) htk (FsI.le (N' := (pf 13).toInt) hfs (by omega)) hwr (KnT.eq hkt (by omega)) (FnT.eq hft (by omega)) (KnS.eq hks (by omega) (by omega)) hfp han hec_z359 _) hT (pr := []) (pcs := [wdP cs h r g tf ta pf na ma325 wa cf326 ca327 ef ea xf xa]) hw (oX_call (P := (fun A U H => (oP A g U H))) (pr := []) oG_P hw hA hP) (px_recv hT hw 0 0 rfl rfl rfl) m12_217 m12_214 m12_216 ms_12_7 m1_21 q_Mpg_check ⟨show (4 * d + 12) + 1 ≤ (6 * (d + 1) + 26) from (by first | exact oz_9c5488ea07 | omega), show 8 + (8 + 11) + (200 * d + 420) ≤ (260 * (d + 1) + 900) from (by first | exact oz_e0b88b15c4 | omega)⟩ hl.1 rfl (Nat.le_of_ble_eq_true rfl) d_Mpg_checkStatement_196 ⟨Nat.le_of_ble_eq_true rfl, Nat.le_of_ble_eq_true rfl⟩) hw hA (fun v365 p364 H locs hp364 hw => ?_)
      obtain ⟨ma362, cf363, rfl, e366, e367, e368, e369, e370, e371, e372, e373, e374, e375, e376, e377, e378, e379, e380, e381⟩ := hp364
      have e366 : KpE cf326 cf363 := e366
      have hkz_e366 := e366.2
      have hkk37_e366 : (cf363 37).toInt = (cf326 37).toInt := (by rw [e366.1 37 (by decide) (by decide) (by decide) (by decide) (by decide)] <;> rfl)
      have hkk43_e366 : (cf363 43).toInt = (cf326 43).toInt := (by rw [e366.1 43 (by decide) (by decide) (by decide) (by decide) (by decide)] <;> rfl)
      have hkk44_e366 : (cf363 44).toInt = (cf326 44).toInt := (by rw [e366.1 44 (by decide) (by decide) (by decide) (by decide) (by decide)] <;> rfl)
      have hkk45_e366 : (cf363 45).toInt = (cf326 45).toInt := (by rw [e366.1 45 (by decide) (by decide) (by decide) (by decide) (by decide)] <;> rfl)
      have hkk41_e366 : (cf363 41).toInt = (cf326 41).toInt := (by rw [e366.1 41 (by decide) (by decide) (by decide) (by decide) (by decide)] <;> rfl)
      have hkk55_e366 : (cf363 55).toInt = (cf326 55).toInt := (by rw [e366.1 55 (by decide) (by decide) (by decide) (by decide) (by decide)] <;> rfl)
      have hkk59_e366 : (cf363 59).toInt = (cf326 59).toInt := (by rw [e366.1 59 (by decide) (by decide) (by decide) (by decide) (by decide)] <;> rfl)
      have hkk42_e366 : (cf363 42).toInt = (cf326 42).toInt := (by rw [e366.1 42 (by decide) (by decide) (by decide) (by decide) (by decide)] <;> rfl)
      have hkk54_e366 : (cf363 54).toInt = (cf326 54).toInt := (by rw [e366.1 54 (by decide) (by decide) (by decide) (by decide) (by decide)] <;> rfl)
      have hkk58_e366 : (cf363 58).toInt = (cf326 58).toInt := (by rw [e366.1 58 (by decide) (by decide) (by decide) (by decide) (by decide)] <;> rfl)
      have e367 : WrV cf363 (tf 6).toInt := e367
      have hwr := e367
      have hw0_e367 := hwr.1
      have e368 : (cf363 33).toInt = (cf326 33).toInt := e368
      have e369 : (cf363 38).toInt = (cf326 38).toInt := e369
      have e370 : (cf363 48).toInt = (cf326 48).toInt := e370
      have e371 : (cf363 46).toInt = (cf326 46).toInt := e371
      have e372 : (cf363 47).toInt = (cf326 47).toInt := e372
      have e373 : (cf363 57).toInt = (cf326 57).toInt := e373
      have e374 : Ann na ma0 ma362 := e374
      have han := e374
      have e375 : FrC m1 hi ma325 ma362 := e375
      have hfc := hfc.tr e375 (by omega) (by omega)
      have hts_z321 : ZTe cf363 ta ca327 na ma0 (cf363 48).toInt ys nf ma362 (p0.toInt + 1) m1 z321 4 := ZTe.tr hts_z321 (fun q => by omega) e375 (by omega) (CaG.rf (kn := 0) (ns := 5000)) (by omega) (by omega)
      have e376 : 0 ≤ v365.toInt := e376
      have e377 : v365.toInt ≤ 4 := e377
      have e378 : NmJ ta ca327 na ma362 (cf326 33).toInt z359 v365.toInt := e378
      have e379 : ZTy cf363 (Gk ta ca327 na ma0 (cf326 48).toInt ys nf) na ma362 m1 hi z359 v365.toInt := e379
      have e380 : ZNm cf363 (1 : Int) v365.toInt := e380
      have hty_z359 : ZTe cf363 ta ca327 na ma0 (cf363 48).toInt ys nf ma362 m1 hi z359 0 := ZTe.to (t := 0) (ZTy.num e379 e380) (fun q => by omega) (by omega) (Int.le_refl _) (Int.le_refl _) rfl
      have e381 : RL_mp_check d tf ta na ca327 z359 (1 : Int32) ma325 cf326 ma362 cf363 v365 := e381
      have e381X : RX_mp_check tf ta na ca327 z359 (1 : Int32) ma325 cf326 ma362 cf363 v365 := ⟨d, e381⟩
      have hw : pw D A s.heap H locs [wdP cs h r g tf ta pf na ma362 wa cf363 ca327 ef ea xf xa] := hw
      have lv365 := Int32.le_toInt v365
      have uv365 := Int32.toInt_lt v365
      refine lv_pop S.x S.b d_Mpg_checkStatement_199 rfl ?_
      refine lv_goto (tgt := 274) S.x S.b d_Mpg_checkStatement_200 (by decide) ?_
      exact px_vret S hr hlk hAe hw (Nat.le_of_ble_eq_true rfl) (Nat.le_of_ble_eq_true rfl) (⟨ma362, cf363, ca327, rfl, (show (cf363 30).toInt = 0 → (cf 30).toInt = 0 from by omega), (show WrV cf363 (tf 6).toInt from hwr), (show (cf363 37).toInt = (cf 37).toInt from by first | exact oz_1687f4cc65 e332 hkk37_e366 | omega), (show (cf363 38).toInt = (cf 38).toInt from by first | exact oz_1687f4cc65 e333 e369 | omega), (show (cf363 43).toInt = (cf 43).toInt from by first | exact oz_1687f4cc65 e334 hkk43_e366 | omega), (show (cf363 44).toInt = (cf 44).toInt from by first | exact oz_1687f4cc65 e335 hkk44_e366 | omega), (show (cf363 45).toInt = (cf 45).toInt from by first | exact oz_1687f4cc65 e336 hkk45_e366 | omega), (show (cf363 46).toInt = (cf 46).toInt from by first | exact oz_1687f4cc65 e337 e371 | omega), (show (cf363 47).toInt = (cf 47).toInt from by first | exact oz_1687f4cc65 e338 e372 | omega), (show (cf363 41).toInt = (cf 41).toInt from by first | exact oz_1687f4cc65 e339 hkk41_e366 | omega), (show (cf363 55).toInt = (cf 55).toInt from by first | exact oz_1687f4cc65 e340 hkk55_e366 | omega), (show (cf363 59).toInt = (cf 59).toInt from by first | exact oz_1687f4cc65 e341 hkk59_e366 | omega), (show (cf 33).toInt ≤ (cf363 33).toInt from by first | exact oz_b1a9dcfb4c e342 e368 | omega), (show 6 * (cf363 33).toInt ≤ 6 * (cf 33).toInt + (w) from by first | exact oz_1ed9f97131 hws e343 e368 hw1 | omega), (show (cf 48).toInt ≤ (cf363 48).toInt from by first | exact oz_73dc218776 e350 e370 e346 e348 | omega), (show 6 * (cf363 48).toInt ≤ 6 * (cf 48).toInt + (w) from by first | exact oz_1ed9f97131 hws e345 e370 hw1 | omega), (show (cf 54).toInt ≤ (cf363 54).toInt from by first | exact oz_b1a9dcfb4c e346 hkk54_e366 | omega), (show (cf 42).toInt ≤ (cf363 42).toInt from by first | exact oz_94ff7ee8ed e348 hkk42_e366 e346 | omega), (show (cf363 54).toInt - (cf 54).toInt ≤ 4 * ((cf363 42).toInt - (cf 42).toInt) from by first | exact oz_4001d13b45 e348 hkk42_e366 hkk54_e366 | omega), (show (cf363 54).toInt - (cf 54).toInt ≤ 4096 * ((cf363 48).toInt - (cf 48).toInt) from by first | exact oz_761fc723f5 e349 e370 hkk54_e366 | omega), (show (cf363 42).toInt - (cf 42).toInt ≤ 4096 * ((cf363 48).toInt - (cf 48).toInt) from by first | exact oz_761fc723f5 e350 e370 hkk42_e366 | omega), (show KnT (tf 6).toInt ca327 (cf363 33).toInt from (KnT.eq hkt (by omega))), (show KnS ca327 (cf363 33).toInt (cf363 48).toInt ys from (KnS.eq hks (by omega) (by omega))), (show CaG ca ca327 (cf 33).toInt (cf 48).toInt from (hcg.le (by omega) (by omega))), (show SyR ca327 ys (cf363 48).toInt (cf363 54).toInt tx from (SyR.eq hsr (by omega) (by omega))), (show Ann na ma0 ma362 from han), (show FrC lo hi ma ma362 from hfc), (show ZTe cf363 ta ca327 na ma0 (cf363 48).toInt ys nf ma362 lo hi p0 (tgv (cf 44).toInt (cf 45).toInt) from (fun zz => by exact tys_25 ⟨by omega, by omega, by omega⟩ tgv_rng (by omega) ha_z359 (ha_z321.trans (Ann.b18 han (by omega)).symm) (ZTe.at hty_z359 (by omega) (by omega) (by omega) (by omega) rfl) (ZTe.at hts_z321 (by omega) (by omega) (by omega) (by omega) rfl))), (show R_mp_checkStatement (RL_mp_checkStatement d) tf ta na p0 ma cf ca ma362 cf363 ca327 from (Or.inl ⟨z1, ez1, Or.inr (Or.inr (Or.inr (Or.inr (Or.inr (Or.inr (Or.inr (Or.inl ⟨c64, z321, ez321, ma325, cf326, ca327, e358, z359, ez359, ma362, cf363, v365, e381X, rfl, rfl, rfl⟩)))))))⟩))⟩) d_Mpg_checkStatement_274
    · simp only [List.mem_cons, List.not_mem_nil, or_false] at c64
      refine lv_aload_n S.x S.b d_Mpg_checkStatement_203 rfl (lv_at hl 0 rfl) ?_
      refine lv_iload_n S.x S.b d_Mpg_checkStatement_204 rfl (lv_at hl 1 rfl) ?_
      refine px_callv (pr := []) (px_runV (As := [.int p0]) (rest := []) S (c_mp_checkFor l D cs ma0 ys nf tx d lo hi w h r g tf ta pf na wa ef ea xf xa ma cf ca p0  (show 0 ≤ lo from by first | exact g0 | omega) (show hi ≤ (pf 13).toInt from by first | exact g1 | omega) (show (pf 13).toInt ≤ 2100 from by first | exact g2 | omega) (show (tf 6).toInt ≤ 2049 from by first | exact g3 | omega) (show 0 ≤ (cf 33).toInt from by first | exact g4 | omega) (show 0 ≤ w from by first | exact g5 | omega) (show 6 * (cf 33).toInt + w ≤ 6540 from by first | exact g6 | omega) (show 0 ≤ (cf 48).toInt from by first | exact g7 | omega) (show 6 * (cf 48).toInt + w ≤ 6540 from by first | exact g8 | omega) (show (cf 38).toInt = nf from by first | exact g9 | omega) (show 0 ≤ nf from by first | exact g10 | omega) (show 0 ≤ (cf 37).toInt from by first | exact g11 | omega) (show 0 ≤ (cf 54).toInt from by first | exact g12 | omega) (show (cf 54).toInt ≤ 4096 * (cf 48).toInt from by first | exact g13 | omega) (show 0 ≤ (cf 42).toInt from by first | exact g14 | omega) (show (cf 42).toInt ≤ 4 + 4096 * (cf 48).toInt from by first | exact g15 | omega) (show 0 ≤ (cf 44).toInt from by first | exact g16 | omega) (show 0 ≤ (cf 45).toInt from by first | exact g17 | omega) (show ys ≤ (cf 48).toInt ∨ tx = 1 from by first | exact g18 | omega) (show 0 ≤ (cf 46).toInt from by first | exact g19 | omega) (show (cf 46).toInt ≤ 1 from by first | exact g20 | omega) (show 0 ≤ (cf 47).toInt from by first | exact g21 | omega) (show (cf 47).toInt ≤ 1 from by first | exact g22 | omega) (show (cf 44).toInt + (d : Int) ≤ 400 from by first | exact oz_8237b40f3f g23 | omega) (show (cf 45).toInt + (d : Int) ≤ 400 from by first | exact oz_8237b40f3f g24 | omega) (show 0 ≤ (cf 43).toInt from by first | exact g25 | omega) (show (cf 43).toInt < 2100 from by first | exact g26 | omega) (show tx = 0 from by first | exact g27 | omega) (show (na 14 p0.toNatClampNeg).toInt = 27 from by omega) (show (cf 44).toInt + (d : Int) + 1 ≤ 400 from by first | exact oz_9bf0b6c62b g23 | omega) (show (cf 45).toInt + (d : Int) + 1 ≤ 400 from by first | exact oz_9bf0b6c62b g24 | omega) htk (FsI.le (N' := (pf 13).toInt) hfs (by omega)) hwr (KnT.eq hkt (by omega)) (FnT.eq hft (by omega)) (KnS.eq hks (by omega) (by omega)) hfp (SyR.eq hsr (by omega) (by omega)) han (show txo (cf 43).toInt = tx from by rw [show (cf 43).toInt = (cf 43).toInt by omega]; exact htx) hsc_p0 hLS _) hT (pr := []) (pcs := [wdP cs h r g tf ta pf na ma wa cf ca ef ea xf xa]) hw (oX_call (P := (fun A U H => (oP A g U H))) (pr := []) oG_P hw hA hP) (px_recv hT hw 0 0 rfl rfl rfl) m13_41 m13_38 m13_40 ms_13_7 m1_21 q_Mpg_checkFor ⟨show (6 * d + 29) + 1 ≤ (6 * (d + 1) + 26) from (by first | exact oz_127bc3c070 | omega), show 8 + (4 + 11) + (260 * d + 1020) ≤ (260 * (d + 1) + 900) from (by first | exact oz_ecbc0cda97 | omega)⟩ hl.1 rfl (Nat.le_of_ble_eq_true rfl) d_Mpg_checkStatement_205 ⟨Nat.le_of_ble_eq_true rfl, Nat.le_of_ble_eq_true rfl⟩) hw hA (fun p388 H locs hp388 hw => ?_)
      obtain ⟨ma385, cf386, ca387, rfl, e390, e391, e392, e393, e394, e395, e396, e397, e398, e399, e400, e401, e402, e403, e404, e405, e406, e407, e408, e409, e410, e411, e412, e413, e414, e415, e416, e417⟩ := hp388
      have e390 : (cf386 30).toInt = 0 → (cf 30).toInt = 0 := e390
      have e391 : WrV cf386 (tf 6).toInt := e391
      have hwr := e391
      have hw0_e391 := hwr.1
      have e392 : (cf386 37).toInt = (cf 37).toInt := e392
      have e393 : (cf386 38).toInt = (cf 38).toInt := e393
      have e394 : (cf386 43).toInt = (cf 43).toInt := e394
      have e395 : (cf386 44).toInt = (cf 44).toInt := e395
      have e396 : (cf386 45).toInt = (cf 45).toInt := e396
      have e397 : (cf386 46).toInt = (cf 46).toInt := e397
      have e398 : (cf386 47).toInt = (cf 47).toInt := e398
      have e399 : (cf386 41).toInt = (cf 41).toInt := e399
      have e400 : (cf386 55).toInt = (cf 55).toInt := e400
      have e401 : (cf386 59).toInt = (cf 59).toInt := e401
      have e402 : (cf386 33).toInt = (cf 33).toInt := e402
      have e403 : (cf 48).toInt ≤ (cf386 48).toInt := e403
      have e404 : 6 * (cf386 48).toInt ≤ 6 * (cf 48).toInt + (w) := e404
      have e405 : (cf 54).toInt ≤ (cf386 54).toInt := e405
      have e406 : (cf 42).toInt ≤ (cf386 42).toInt := e406
      have e407 : (cf386 54).toInt - (cf 54).toInt ≤ 4 * ((cf386 42).toInt - (cf 42).toInt) := e407
      have e408 : (cf386 54).toInt - (cf 54).toInt ≤ 4096 * ((cf386 48).toInt - (cf 48).toInt) := e408
      have e409 : (cf386 42).toInt - (cf 42).toInt ≤ 4096 * ((cf386 48).toInt - (cf 48).toInt) := e409
      have e410 : KnT (tf 6).toInt ca387 (cf386 33).toInt := e410
      have hkt := e410
      have hk11_e410 := hkt.1
      have e411 : KnS ca387 (cf386 33).toInt (cf386 48).toInt ys := e411
      have hks := e411
      have e412 : CaG ca ca387 (cf 33).toInt (cf 48).toInt := e412
      have hcg := hcg.tr e412 (by omega) (by omega)
      have hft := hft.cg e412
      have hfp := hfp.cg e412
      have e413 : SyR ca387 ys (cf386 48).toInt (cf386 54).toInt tx := e413
      have hsr := e413
      have e414 : Ann na ma0 ma385 := e414
      have han := e414
      have e415 : FrC lo hi ma ma385 := e415
      have hfc := hfc.tr e415 (by omega) (by omega)
      have e416 : ZTe cf386 ta ca387 na ma0 (cf386 48).toInt ys nf ma385 lo hi p0 (tgv (cf 44).toInt (cf 45).toInt) := e416
      have hts_p0 : ZTe cf386 ta ca387 na ma0 (cf386 48).toInt ys nf ma385 lo hi p0 (tgv (cf 44).toInt (cf 45).toInt) := ZTe.to e416 (fun q => by omega) (by omega) (Int.le_refl _) (Int.le_refl _) (by congr 1 <;> omega)
      have e417 : R_mp_checkFor (RL_mp_checkStatement d) tf ta na p0 ma cf ca ma385 cf386 ca387 := e417
      have hw : pw D A s.heap H locs [wdP cs h r g tf ta pf na ma385 wa cf386 ca387 ef ea xf xa] := hw
      refine lv_goto (tgt := 274) S.x S.b d_Mpg_checkStatement_208 (by decide) ?_
      exact px_vret S hr hlk hAe hw (Nat.le_of_ble_eq_true rfl) (Nat.le_of_ble_eq_true rfl) (⟨ma385, cf386, ca387, rfl, (show (cf386 30).toInt = 0 → (cf 30).toInt = 0 from by first | exact e390 | omega), (show WrV cf386 (tf 6).toInt from hwr), (show (cf386 37).toInt = (cf 37).toInt from by first | exact e392 | omega), (show (cf386 38).toInt = (cf 38).toInt from by first | exact e393 | omega), (show (cf386 43).toInt = (cf 43).toInt from by first | exact e394 | omega), (show (cf386 44).toInt = (cf 44).toInt from by first | exact e395 | omega), (show (cf386 45).toInt = (cf 45).toInt from by first | exact e396 | omega), (show (cf386 46).toInt = (cf 46).toInt from by first | exact e397 | omega), (show (cf386 47).toInt = (cf 47).toInt from by first | exact e398 | omega), (show (cf386 41).toInt = (cf 41).toInt from by first | exact e399 | omega), (show (cf386 55).toInt = (cf 55).toInt from by first | exact e400 | omega), (show (cf386 59).toInt = (cf 59).toInt from by first | exact e401 | omega), (show (cf 33).toInt ≤ (cf386 33).toInt from by first | exact oz_f9b42d1b56 e402 | omega), (show 6 * (cf386 33).toInt ≤ 6 * (cf 33).toInt + (w) from by first | exact oz_26218e8869 e402 e404 e403 | omega), (show (cf 48).toInt ≤ (cf386 48).toInt from by first | exact e403 | omega), (show 6 * (cf386 48).toInt ≤ 6 * (cf 48).toInt + (w) from by first | exact e404 | omega), (show (cf 54).toInt ≤ (cf386 54).toInt from by first | exact e405 | omega), (show (cf 42).toInt ≤ (cf386 42).toInt from by first | exact e406 | omega), (show (cf386 54).toInt - (cf 54).toInt ≤ 4 * ((cf386 42).toInt - (cf 42).toInt) from by first | exact e407 | omega), (show (cf386 54).toInt - (cf 54).toInt ≤ 4096 * ((cf386 48).toInt - (cf 48).toInt) from by first | exact e408 | omega), (show (cf386 42).toInt - (cf 42).toInt ≤ 4096 * ((cf386 48).toInt - (cf 48).toInt) from by first | exact e409 | omega), (show KnT (tf 6).toInt ca387 (cf386 33).toInt from (KnT.eq hkt (by omega))), (show KnS ca387 (cf386 33).toInt (cf386 48).toInt ys from (KnS.eq hks (by omega) (by omega))), (show CaG ca ca387 (cf 33).toInt (cf 48).toInt from (hcg.le (by omega) (by omega))), (show SyR ca387 ys (cf386 48).toInt (cf386 54).toInt tx from (SyR.eq hsr (by omega) (by omega))), (show Ann na ma0 ma385 from han), (show FrC lo hi ma ma385 from hfc), (show ZTe cf386 ta ca387 na ma0 (cf386 48).toInt ys nf ma385 lo hi p0 (tgv (cf 44).toInt (cf 45).toInt) from (ZTe.to hts_p0 (fun q => by omega) (by omega) (by omega) (by omega) rfl)), (show R_mp_checkStatement (RL_mp_checkStatement d) tf ta na p0 ma cf ca ma385 cf386 ca387 from (Or.inl ⟨z1, ez1, Or.inr (Or.inr (Or.inr (Or.inr (Or.inr (Or.inr (Or.inr (Or.inr (Or.inl ⟨c64, ma385, cf386, ca387, e417, rfl, rfl, rfl⟩))))))))⟩))⟩) d_Mpg_checkStatement_274
    · simp only [List.mem_cons, List.not_mem_nil, or_false] at c64
      refine lv_aload_n S.x S.b d_Mpg_checkStatement_211 rfl (lv_at hl 0 rfl) ?_
      refine lv_iload_n S.x S.b d_Mpg_checkStatement_212 rfl (lv_at hl 1 rfl) ?_
      refine px_callv (pr := []) (px_runV (As := [.int p0]) (rest := []) S (c_mp_checkSwitch l D cs ma0 ys nf tx d lo hi w h r g tf ta pf na wa ef ea xf xa ma cf ca p0  (show 0 ≤ lo from by first | exact g0 | omega) (show hi ≤ (pf 13).toInt from by first | exact g1 | omega) (show (pf 13).toInt ≤ 2100 from by first | exact g2 | omega) (show (tf 6).toInt ≤ 2049 from by first | exact g3 | omega) (show 0 ≤ (cf 33).toInt from by first | exact g4 | omega) (show 0 ≤ w from by first | exact g5 | omega) (show 6 * (cf 33).toInt + w ≤ 6540 from by first | exact g6 | omega) (show 0 ≤ (cf 48).toInt from by first | exact g7 | omega) (show 6 * (cf 48).toInt + w ≤ 6540 from by first | exact g8 | omega) (show (cf 38).toInt = nf from by first | exact g9 | omega) (show 0 ≤ nf from by first | exact g10 | omega) (show 0 ≤ (cf 37).toInt from by first | exact g11 | omega) (show 0 ≤ (cf 54).toInt from by first | exact g12 | omega) (show (cf 54).toInt ≤ 4096 * (cf 48).toInt from by first | exact g13 | omega) (show 0 ≤ (cf 42).toInt from by first | exact g14 | omega) (show (cf 42).toInt ≤ 4 + 4096 * (cf 48).toInt from by first | exact g15 | omega) (show 0 ≤ (cf 44).toInt from by first | exact g16 | omega) (show 0 ≤ (cf 45).toInt from by first | exact g17 | omega) (show ys ≤ (cf 48).toInt ∨ tx = 1 from by first | exact g18 | omega) (show 0 ≤ (cf 46).toInt from by first | exact g19 | omega) (show (cf 46).toInt ≤ 1 from by first | exact g20 | omega) (show 0 ≤ (cf 47).toInt from by first | exact g21 | omega) (show (cf 47).toInt ≤ 1 from by first | exact g22 | omega) (show (cf 44).toInt + (d : Int) ≤ 400 from by first | exact oz_8237b40f3f g23 | omega) (show (cf 45).toInt + (d : Int) ≤ 400 from by first | exact oz_8237b40f3f g24 | omega) (show 0 ≤ (cf 43).toInt from by first | exact g25 | omega) (show (cf 43).toInt < 2100 from by first | exact g26 | omega) (show tx = 0 from by first | exact g27 | omega) (show (na 14 p0.toNatClampNeg).toInt = 28 from by omega) (show (cf 44).toInt + (d : Int) + 1 ≤ 400 from by first | exact oz_9bf0b6c62b g23 | omega) (show (cf 45).toInt + (d : Int) + 1 ≤ 400 from by first | exact oz_9bf0b6c62b g24 | omega) htk (FsI.le (N' := (pf 13).toInt) hfs (by omega)) hwr (KnT.eq hkt (by omega)) (FnT.eq hft (by omega)) (KnS.eq hks (by omega) (by omega)) hfp (SyR.eq hsr (by omega) (by omega)) han (show txo (cf 43).toInt = tx from by rw [show (cf 43).toInt = (cf 43).toInt by omega]; exact htx) hsc_p0 hLS _) hT (pr := []) (pcs := [wdP cs h r g tf ta pf na ma wa cf ca ef ea xf xa]) hw (oX_call (P := (fun A U H => (oP A g U H))) (pr := []) oG_P hw hA hP) (px_recv hT hw 0 0 rfl rfl rfl) m13_45 m13_42 m13_44 ms_13_8 m1_21 q_Mpg_checkSwitch ⟨show (6 * d + 29) + 1 ≤ (6 * (d + 1) + 26) from (by first | exact oz_127bc3c070 | omega), show 8 + (7 + 11) + (260 * d + 1020) ≤ (260 * (d + 1) + 900) from (by first | exact oz_126ce43d98 | omega)⟩ hl.1 rfl (Nat.le_of_ble_eq_true rfl) d_Mpg_checkStatement_213 ⟨Nat.le_of_ble_eq_true rfl, Nat.le_of_ble_eq_true rfl⟩) hw hA (fun p424 H locs hp424 hw => ?_)
      obtain ⟨ma421, cf422, ca423, rfl, e426, e427, e428, e429, e430, e431, e432, e433, e434, e435, e436, e437, e438, e439, e440, e441, e442, e443, e444, e445, e446, e447, e448, e449, e450, e451, e452, e453⟩ := hp424
      have e426 : (cf422 30).toInt = 0 → (cf 30).toInt = 0 := e426
      have e427 : WrV cf422 (tf 6).toInt := e427
      have hwr := e427
      have hw0_e427 := hwr.1
      have e428 : (cf422 37).toInt = (cf 37).toInt := e428
      have e429 : (cf422 38).toInt = (cf 38).toInt := e429
      have e430 : (cf422 43).toInt = (cf 43).toInt := e430
      have e431 : (cf422 44).toInt = (cf 44).toInt := e431
      have e432 : (cf422 45).toInt = (cf 45).toInt := e432
      have e433 : (cf422 46).toInt = (cf 46).toInt := e433
      have e434 : (cf422 47).toInt = (cf 47).toInt := e434
      have e435 : (cf422 41).toInt = (cf 41).toInt := e435
      have e436 : (cf422 55).toInt = (cf 55).toInt := e436
      have e437 : (cf422 59).toInt = (cf 59).toInt := e437
      have e438 : (cf422 33).toInt = (cf 33).toInt := e438
      have e439 : (cf 48).toInt ≤ (cf422 48).toInt := e439
      have e440 : 6 * (cf422 48).toInt ≤ 6 * (cf 48).toInt + (w) := e440
      have e441 : (cf 54).toInt ≤ (cf422 54).toInt := e441
      have e442 : (cf 42).toInt ≤ (cf422 42).toInt := e442
      have e443 : (cf422 54).toInt - (cf 54).toInt ≤ 4 * ((cf422 42).toInt - (cf 42).toInt) := e443
      have e444 : (cf422 54).toInt - (cf 54).toInt ≤ 4096 * ((cf422 48).toInt - (cf 48).toInt) := e444
      have e445 : (cf422 42).toInt - (cf 42).toInt ≤ 4096 * ((cf422 48).toInt - (cf 48).toInt) := e445
      have e446 : KnT (tf 6).toInt ca423 (cf422 33).toInt := e446
      have hkt := e446
      have hk11_e446 := hkt.1
      have e447 : KnS ca423 (cf422 33).toInt (cf422 48).toInt ys := e447
      have hks := e447
      have e448 : CaG ca ca423 (cf 33).toInt (cf 48).toInt := e448
      have hcg := hcg.tr e448 (by omega) (by omega)
      have hft := hft.cg e448
      have hfp := hfp.cg e448
      have e449 : SyR ca423 ys (cf422 48).toInt (cf422 54).toInt tx := e449
      have hsr := e449
      have e450 : Ann na ma0 ma421 := e450
      have han := e450
      have e451 : FrC lo hi ma ma421 := e451
      have hfc := hfc.tr e451 (by omega) (by omega)
      have e452 : ZTe cf422 ta ca423 na ma0 (cf422 48).toInt ys nf ma421 lo hi p0 (tgv (cf 44).toInt (cf 45).toInt) := e452
      have hts_p0 : ZTe cf422 ta ca423 na ma0 (cf422 48).toInt ys nf ma421 lo hi p0 (tgv (cf 44).toInt (cf 45).toInt) := ZTe.to e452 (fun q => by omega) (by omega) (Int.le_refl _) (Int.le_refl _) (by congr 1 <;> omega)
      have e453 : R_mp_checkSwitch (RL_mp_checkStatement d) tf ta na p0 ma cf ca ma421 cf422 ca423 := e453
      have hw : pw D A s.heap H locs [wdP cs h r g tf ta pf na ma421 wa cf422 ca423 ef ea xf xa] := hw
      refine lv_goto (tgt := 274) S.x S.b d_Mpg_checkStatement_216 (by decide) ?_
      exact px_vret S hr hlk hAe hw (Nat.le_of_ble_eq_true rfl) (Nat.le_of_ble_eq_true rfl) (⟨ma421, cf422, ca423, rfl, (show (cf422 30).toInt = 0 → (cf 30).toInt = 0 from by first | exact e426 | omega), (show WrV cf422 (tf 6).toInt from hwr), (show (cf422 37).toInt = (cf 37).toInt from by first | exact e428 | omega), (show (cf422 38).toInt = (cf 38).toInt from by first | exact e429 | omega), (show (cf422 43).toInt = (cf 43).toInt from by first | exact e430 | omega), (show (cf422 44).toInt = (cf 44).toInt from by first | exact e431 | omega), (show (cf422 45).toInt = (cf 45).toInt from by first | exact e432 | omega), (show (cf422 46).toInt = (cf 46).toInt from by first | exact e433 | omega), (show (cf422 47).toInt = (cf 47).toInt from by first | exact e434 | omega), (show (cf422 41).toInt = (cf 41).toInt from by first | exact e435 | omega), (show (cf422 55).toInt = (cf 55).toInt from by first | exact e436 | omega), (show (cf422 59).toInt = (cf 59).toInt from by first | exact e437 | omega), (show (cf 33).toInt ≤ (cf422 33).toInt from by first | exact oz_f9b42d1b56 e438 | omega), (show 6 * (cf422 33).toInt ≤ 6 * (cf 33).toInt + (w) from by first | exact oz_26218e8869 e438 e440 e439 | omega), (show (cf 48).toInt ≤ (cf422 48).toInt from by first | exact e439 | omega), (show 6 * (cf422 48).toInt ≤ 6 * (cf 48).toInt + (w) from by first | exact e440 | omega), (show (cf 54).toInt ≤ (cf422 54).toInt from by first | exact e441 | omega), (show (cf 42).toInt ≤ (cf422 42).toInt from by first | exact e442 | omega), (show (cf422 54).toInt - (cf 54).toInt ≤ 4 * ((cf422 42).toInt - (cf 42).toInt) from by first | exact e443 | omega), (show (cf422 54).toInt - (cf 54).toInt ≤ 4096 * ((cf422 48).toInt - (cf 48).toInt) from by first | exact e444 | omega), (show (cf422 42).toInt - (cf 42).toInt ≤ 4096 * ((cf422 48).toInt - (cf 48).toInt) from by first | exact e445 | omega), (show KnT (tf 6).toInt ca423 (cf422 33).toInt from (KnT.eq hkt (by omega))), (show KnS ca423 (cf422 33).toInt (cf422 48).toInt ys from (KnS.eq hks (by omega) (by omega))), (show CaG ca ca423 (cf 33).toInt (cf 48).toInt from (hcg.le (by omega) (by omega))), (show SyR ca423 ys (cf422 48).toInt (cf422 54).toInt tx from (SyR.eq hsr (by omega) (by omega))), (show Ann na ma0 ma421 from han), (show FrC lo hi ma ma421 from hfc), (show ZTe cf422 ta ca423 na ma0 (cf422 48).toInt ys nf ma421 lo hi p0 (tgv (cf 44).toInt (cf 45).toInt) from (ZTe.to hts_p0 (fun q => by omega) (by omega) (by omega) (by omega) rfl)), (show R_mp_checkStatement (RL_mp_checkStatement d) tf ta na p0 ma cf ca ma421 cf422 ca423 from (Or.inl ⟨z1, ez1, Or.inr (Or.inr (Or.inr (Or.inr (Or.inr (Or.inr (Or.inr (Or.inr (Or.inr (Or.inl ⟨c64, ma421, cf422, ca423, e453, rfl, rfl, rfl⟩)))))))))⟩))⟩) d_Mpg_checkStatement_274
    · simp only [List.mem_cons, List.not_mem_nil, or_false] at c64
      refine lv_aload_n S.x S.b d_Mpg_checkStatement_227 rfl (lv_at hl 0 rfl) ?_
      refine px_get S k_Mpg hT hw 0 0 44 (v := .int (cf 44)) rfl rfl rfl (by decide) m10_35 d_Mpg_checkStatement_228 ?_
      refine lv_if_gt (tgt := 252) S.x S.b d_Mpg_checkStatement_231 (by decide) (fun c454 => ?_) (fun c454 => ?_)
      · have nc454 : (0 : Int) < (cf 44).toInt := (i_lt (x := 0) (y := (cf 44))).mp c454
        refine lv_iconst (v := 1) S.x S.b d_Mpg_checkStatement_252 (by decide) ?_
        refine lv_goto (tgt := 257) S.x S.b d_Mpg_checkStatement_253 (by decide) ?_
        refine lv_istore_n (lv' := [(2, .int 1), (0, .ref h), (1, .int p0)]) S.x S.b d_Mpg_checkStatement_257 rfl hl (by decide) rfl (fun ls hl => ?_)
        refine lv_iload_n S.x S.b d_Mpg_checkStatement_258 rfl (lv_at hl 0 rfl) ?_
        refine lv_if_ne (tgt := 274) S.x S.b d_Mpg_checkStatement_259 (by decide) (fun c456 => ?_) (fun c456 => ?_)
        ·
          exact px_vret S hr hlk hAe hw (Nat.le_of_ble_eq_true rfl) (Nat.le_of_ble_eq_true rfl) (⟨ma, cf, ca, rfl, (show (cf 30).toInt = 0 → (cf 30).toInt = 0 from by first | exact fun q9 => q9 | omega), (show WrV cf (tf 6).toInt from hwr), (show (cf 37).toInt = (cf 37).toInt from rfl), (show (cf 38).toInt = (cf 38).toInt from rfl), (show (cf 43).toInt = (cf 43).toInt from rfl), (show (cf 44).toInt = (cf 44).toInt from rfl), (show (cf 45).toInt = (cf 45).toInt from rfl), (show (cf 46).toInt = (cf 46).toInt from rfl), (show (cf 47).toInt = (cf 47).toInt from rfl), (show (cf 41).toInt = (cf 41).toInt from rfl), (show (cf 55).toInt = (cf 55).toInt from rfl), (show (cf 59).toInt = (cf 59).toInt from rfl), (show (cf 33).toInt ≤ (cf 33).toInt from by first | exact oz_1cb5f934a5 | omega), (show 6 * (cf 33).toInt ≤ 6 * (cf 33).toInt + (w) from by first | exact oz_5a408f7934 g5 | omega), (show (cf 48).toInt ≤ (cf 48).toInt from by first | exact oz_1cb5f934a5 | omega), (show 6 * (cf 48).toInt ≤ 6 * (cf 48).toInt + (w) from by first | exact oz_5a408f7934 g5 | omega), (show (cf 54).toInt ≤ (cf 54).toInt from by first | exact oz_1cb5f934a5 | omega), (show (cf 42).toInt ≤ (cf 42).toInt from by first | exact oz_1cb5f934a5 | omega), (show (cf 54).toInt - (cf 54).toInt ≤ 4 * ((cf 42).toInt - (cf 42).toInt) from by first | exact oz_a1153f1990 | omega), (show (cf 54).toInt - (cf 54).toInt ≤ 4096 * ((cf 48).toInt - (cf 48).toInt) from by first | exact oz_f4137ca117 | omega), (show (cf 42).toInt - (cf 42).toInt ≤ 4096 * ((cf 48).toInt - (cf 48).toInt) from by first | exact oz_f4137ca117 | omega), (show KnT (tf 6).toInt ca (cf 33).toInt from (KnT.eq hkt (by omega))), (show KnS ca (cf 33).toInt (cf 48).toInt ys from (KnS.eq hks (by omega) (by omega))), (show CaG ca ca (cf 33).toInt (cf 48).toInt from (hcg.le (by omega) (by omega))), (show SyR ca ys (cf 48).toInt (cf 54).toInt tx from (SyR.eq hsr (by omega) (by omega))), (show Ann na ma0 ma from han), (show FrC lo hi ma ma from hfc), (show ZTe cf ta ca na ma0 (cf 48).toInt ys nf ma lo hi p0 (tgv (cf 44).toInt (cf 45).toInt) from (fun zz => by first | exact tys_0 ⟨by omega, by omega, by omega⟩ tgv_rng (by omega) | exact tys_j ⟨by omega, by omega, by omega⟩ (by omega) (tgv_4 (by omega)) | exact tys_31 ⟨by omega, by omega, by omega⟩ tgv_rng (by omega) (tgv_ge (by omega)))), (show R_mp_checkStatement (RL_mp_checkStatement d) tf ta na p0 ma cf ca ma cf ca from (Or.inl ⟨z1, ez1, Or.inr (Or.inr (Or.inr (Or.inr (Or.inr (Or.inr (Or.inr (Or.inr (Or.inr (Or.inr (Or.inl ⟨c64, Or.inl ⟨nc454, rfl, rfl, rfl⟩⟩))))))))))⟩))⟩) d_Mpg_checkStatement_274
        · exact absurd c456 (by decide)
      · have nc454 : ¬ (0 : Int) < (cf 44).toInt := mt (i_lt (x := 0) (y := (cf 44))).mpr c454
        refine lv_aload_n S.x S.b d_Mpg_checkStatement_234 rfl (lv_at hl 0 rfl) ?_
        refine px_get S k_Mpg hT hw 0 0 14 (v := .ref (r 14)) rfl rfl rfl (by decide) m9_238 d_Mpg_checkStatement_235 ?_
        refine lv_iload_n S.x S.b d_Mpg_checkStatement_238 rfl (lv_at hl 1 rfl) ?_
        refine px_bald S hT hw 0 10 (n := 2100) (f := (na 14)) rfl gp_14 (x := p0) (vp_in_iff.mpr (by first | exact oz_a7e05de1cd hsr0.2.2.1 hsr0.2.1 g1 g2 | (constructor <;> omega))) d_Mpg_checkStatement_239 ?_
        refine lv_topi (fun z457 ez457 => ?_)
        have lz457 := Int32.le_toInt z457
        have uz457 := Int32.toInt_lt z457
        have rz457 := ScV.kd hsc_p0 ez457
        refine lv_bipush (v := 31) S.x S.b d_Mpg_checkStatement_240 (by decide) ?_
        refine lv_icmp_ne (tgt := 256) S.x S.b d_Mpg_checkStatement_242 (by decide) (fun c458 => ?_) (fun c458 => ?_)
        · have nc458 : ¬ z457.toInt = (31 : Int) := mt (i_eq (x := z457) (y := 31)).mpr c458
          refine lv_iconst (v := 0) S.x S.b d_Mpg_checkStatement_256 (by decide) ?_
          refine lv_istore_n (lv' := [(2, .int 0), (0, .ref h), (1, .int p0)]) S.x S.b d_Mpg_checkStatement_257 rfl hl (by decide) rfl (fun ls hl => ?_)
          refine lv_iload_n S.x S.b d_Mpg_checkStatement_258 rfl (lv_at hl 0 rfl) ?_
          refine lv_if_ne (tgt := 274) S.x S.b d_Mpg_checkStatement_259 (by decide) (fun c460 => ?_) (fun c460 => ?_)
          · exact absurd c460 (by decide)
          ·
            refine lv_aload_n S.x S.b d_Mpg_checkStatement_262 rfl (lv_at hl 1 rfl) ?_
            refine lv_bipush (v := 9) S.x S.b d_Mpg_checkStatement_263 (by decide) ?_
            refine lv_aload_n S.x S.b d_Mpg_checkStatement_265 rfl (lv_at hl 1 rfl) ?_
            refine px_get S k_Mpg hT hw 0 0 15 (v := .ref (r 15)) rfl rfl rfl (by decide) m9_239 d_Mpg_checkStatement_266 ?_
            refine lv_iload_n S.x S.b d_Mpg_checkStatement_269 rfl (lv_at hl 2 rfl) ?_
            refine px_iald S hT hw 0 11 (n := 2100) (f := (na 15)) rfl gp_15 (x := p0) (vp_in_iff.mpr (by first | exact oz_a7e05de1cd hsr0.2.2.1 hsr0.2.1 g1 g2 | (constructor <;> omega))) d_Mpg_checkStatement_270 ?_
            refine lv_topi (fun z461 ez461 => ?_)
            have lz461 := Int32.le_toInt z461
            have uz461 := Int32.toInt_lt z461
            have rz461 := ScV.tok hsc_p0 ez461
            refine px_callv (pr := []) (px_runV (As := [.int 9, .int z461]) (rest := []) S (c_mp_bad l D cs h r g tf ta pf na ma wa ca ef ea xf xa cf 9 z461  (show 1 ≤ (9 : Int) from by first | exact oz_672e0d21ed | omega) (show 0 ≤ z461.toInt from by first | exact rz461.1 | omega) (show z461.toInt < (tf 6).toInt from by first | exact oz_7fe81129bf rz461.2 | omega) htk hwr _) hT (pr := []) (pcs := [wdP cs h r g tf ta pf na ma wa cf ca ef ea xf xa]) hw px_X.tt (px_recv hT hw 0 0 rfl rfl rfl) m12_173 m12_170 m12_172 ms_11_12 m1_21 q_Mpg_bad ⟨show 0 + 1 ≤ (6 * (d + 1) + 26) from (by first | exact oz_dd91d5c0fc | omega), show 8 + (3 + 11) + 0 ≤ (260 * (d + 1) + 900) from (by first | exact oz_cb7a9fb84d | omega)⟩ hl.1 rfl (Nat.le_of_ble_eq_true rfl) d_Mpg_checkStatement_271 ⟨Nat.le_of_ble_eq_true rfl, Nat.le_of_ble_eq_true rfl⟩) hw hA (fun p464 H locs hp464 hw => ?_)
            obtain ⟨cf463, rfl, e466, e467, e468, e469, e470, e471, e472, e473, e474, e475, e476, e477, e478, e479, e480, e481, e482, e483, e484, e485⟩ := hp464
            have e466 : KpE cf cf463 := e466
            have hkz_e466 := e466.2
            have e467 : WrV cf463 (tf 6).toInt := e467
            have hwr := e467
            have hw0_e467 := hwr.1
            have e468 : 1 ≤ (cf463 30).toInt := e468
            have e469 : (cf463 33).toInt = (cf 33).toInt := e469
            have e470 : (cf463 38).toInt = (cf 38).toInt := e470
            have e471 : (cf463 48).toInt = (cf 48).toInt := e471
            have e472 : (cf463 46).toInt = (cf 46).toInt := e472
            have e473 : (cf463 47).toInt = (cf 47).toInt := e473
            have e474 : (cf463 57).toInt = (cf 57).toInt := e474
            have e475 : (cf463 37).toInt = (cf 37).toInt := e475
            have e476 : (cf463 42).toInt = (cf 42).toInt := e476
            have e477 : (cf463 43).toInt = (cf 43).toInt := e477
            have e478 : (cf463 44).toInt = (cf 44).toInt := e478
            have e479 : (cf463 45).toInt = (cf 45).toInt := e479
            have e480 : (cf463 54).toInt = (cf 54).toInt := e480
            have e481 : (cf463 55).toInt = (cf 55).toInt := e481
            have e482 : (cf463 58).toInt = (cf 58).toInt := e482
            have e483 : (cf463 59).toInt = (cf 59).toInt := e483
            have e484 : (cf463 41).toInt = (cf 41).toInt := e484
            have e485 : R_mp_bad (9 : Int32) z461 cf cf463 := e485
            have hw : pw D A s.heap H locs [wdP cs h r g tf ta pf na ma wa cf463 ca ef ea xf xa] := hw
            exact px_vret S hr hlk hAe hw (Nat.le_of_ble_eq_true rfl) (Nat.le_of_ble_eq_true rfl) (⟨ma, cf463, ca, rfl, (show (cf463 30).toInt = 0 → (cf 30).toInt = 0 from by first | exact hkz_e466 | omega), (show WrV cf463 (tf 6).toInt from hwr), (show (cf463 37).toInt = (cf 37).toInt from by first | exact e475 | omega), (show (cf463 38).toInt = (cf 38).toInt from by first | exact e470 | omega), (show (cf463 43).toInt = (cf 43).toInt from by first | exact e477 | omega), (show (cf463 44).toInt = (cf 44).toInt from by first | exact e478 | omega), (show (cf463 45).toInt = (cf 45).toInt from by first | exact e479 | omega), (show (cf463 46).toInt = (cf 46).toInt from by first | exact e472 | omega), (show (cf463 47).toInt = (cf 47).toInt from by first | exact e473 | omega), (show (cf463 41).toInt = (cf 41).toInt from by first | exact e484 | omega), (show (cf463 55).toInt = (cf 55).toInt from by first | exact e481 | omega), (show (cf463 59).toInt = (cf 59).toInt from by first | exact e483 | omega), (show (cf 33).toInt ≤ (cf463 33).toInt from by first | exact oz_f9b42d1b56 e469 | omega), (show 6 * (cf463 33).toInt ≤ 6 * (cf 33).toInt + (w) from by first | exact oz_092373726c g5 e469 | omega), (show (cf 48).toInt ≤ (cf463 48).toInt from by first | exact oz_f9b42d1b56 e471 | omega), (show 6 * (cf463 48).toInt ≤ 6 * (cf 48).toInt + (w) from by first | exact oz_092373726c g5 e471 | omega), (show (cf 54).toInt ≤ (cf463 54).toInt from by first | exact oz_f9b42d1b56 e480 | omega), (show (cf 42).toInt ≤ (cf463 42).toInt from by first | exact oz_f9b42d1b56 e476 | omega), (show (cf463 54).toInt - (cf 54).toInt ≤ 4 * ((cf463 42).toInt - (cf 42).toInt) from by first | exact oz_7f23dbcb5f e476 e480 | omega), (show (cf463 54).toInt - (cf 54).toInt ≤ 4096 * ((cf463 48).toInt - (cf 48).toInt) from by first | exact oz_a2be20d97d e471 e480 | omega), (show (cf463 42).toInt - (cf 42).toInt ≤ 4096 * ((cf463 48).toInt - (cf 48).toInt) from by first | exact oz_a2be20d97d e471 e476 | omega), (show KnT (tf 6).toInt ca (cf463 33).toInt from (KnT.eq hkt (by omega))), (show KnS ca (cf463 33).toInt (cf463 48).toInt ys from (KnS.eq hks (by omega) (by omega))), (show CaG ca ca (cf 33).toInt (cf 48).toInt from (hcg.le (by omega) (by omega))), (show SyR ca ys (cf463 48).toInt (cf463 54).toInt tx from (SyR.eq hsr (by omega) (by omega))), (show Ann na ma0 ma from han), (show FrC lo hi ma ma from hfc), (show ZTe cf463 ta ca na ma0 (cf463 48).toInt ys nf ma lo hi p0 (tgv (cf 44).toInt (cf 45).toInt) from (zr_no (by omega))), (show R_mp_checkStatement (RL_mp_checkStatement d) tf ta na p0 ma cf ca ma cf463 ca from (Or.inl ⟨z1, ez1, Or.inr (Or.inr (Or.inr (Or.inr (Or.inr (Or.inr (Or.inr (Or.inr (Or.inr (Or.inr (Or.inl ⟨c64, Or.inr ⟨nc454, z457, ez457, Or.inl ⟨nc458, z461, ez461, cf463, e485, rfl, rfl, rfl⟩⟩⟩))))))))))⟩))⟩) d_Mpg_checkStatement_274
        · have nc458 : z457.toInt = (31 : Int) := (i_eq (x := z457) (y := 31)).mp c458
          refine lv_aload_n S.x S.b d_Mpg_checkStatement_245 rfl (lv_at hl 0 rfl) ?_
          refine px_get S k_Mpg hT hw 0 0 45 (v := .int (cf 45)) rfl rfl rfl (by decide) m10_36 d_Mpg_checkStatement_246 ?_
          refine lv_if_le (tgt := 256) S.x S.b d_Mpg_checkStatement_249 (by decide) (fun c486 => ?_) (fun c486 => ?_)
          · have nc486 : (cf 45).toInt ≤ (0 : Int) := (i_le (x := (cf 45)) (y := 0)).mp c486
            refine lv_iconst (v := 0) S.x S.b d_Mpg_checkStatement_256 (by decide) ?_
            refine lv_istore_n (lv' := [(2, .int 0), (0, .ref h), (1, .int p0)]) S.x S.b d_Mpg_checkStatement_257 rfl hl (by decide) rfl (fun ls hl => ?_)
            refine lv_iload_n S.x S.b d_Mpg_checkStatement_258 rfl (lv_at hl 0 rfl) ?_
            refine lv_if_ne (tgt := 274) S.x S.b d_Mpg_checkStatement_259 (by decide) (fun c488 => ?_) (fun c488 => ?_)
            · exact absurd c488 (by decide)
            ·
              refine lv_aload_n S.x S.b d_Mpg_checkStatement_262 rfl (lv_at hl 1 rfl) ?_
              refine lv_bipush (v := 9) S.x S.b d_Mpg_checkStatement_263 (by decide) ?_
              refine lv_aload_n S.x S.b d_Mpg_checkStatement_265 rfl (lv_at hl 1 rfl) ?_
              refine px_get S k_Mpg hT hw 0 0 15 (v := .ref (r 15)) rfl rfl rfl (by decide) m9_239 d_Mpg_checkStatement_266 ?_
              refine lv_iload_n S.x S.b d_Mpg_checkStatement_269 rfl (lv_at hl 2 rfl) ?_
              refine px_iald S hT hw 0 11 (n := 2100) (f := (na 15)) rfl gp_15 (x := p0) (vp_in_iff.mpr (by first | exact oz_a7e05de1cd hsr0.2.2.1 hsr0.2.1 g1 g2 | (constructor <;> omega))) d_Mpg_checkStatement_270 ?_
              refine lv_topi (fun z489 ez489 => ?_)
              have lz489 := Int32.le_toInt z489
              have uz489 := Int32.toInt_lt z489
              have rz489 := ScV.tok hsc_p0 ez489
              refine px_callv (pr := []) (px_runV (As := [.int 9, .int z489]) (rest := []) S (c_mp_bad l D cs h r g tf ta pf na ma wa ca ef ea xf xa cf 9 z489  (show 1 ≤ (9 : Int) from by first | exact oz_672e0d21ed | omega) (show 0 ≤ z489.toInt from by first | exact rz489.1 | omega) (show z489.toInt < (tf 6).toInt from by first | exact oz_7fe81129bf rz489.2 | omega) htk hwr _) hT (pr := []) (pcs := [wdP cs h r g tf ta pf na ma wa cf ca ef ea xf xa]) hw px_X.tt (px_recv hT hw 0 0 rfl rfl rfl) m12_173 m12_170 m12_172 ms_11_12 m1_21 q_Mpg_bad ⟨show 0 + 1 ≤ (6 * (d + 1) + 26) from (by first | exact oz_dd91d5c0fc | omega), show 8 + (3 + 11) + 0 ≤ (260 * (d + 1) + 900) from (by first | exact oz_cb7a9fb84d | omega)⟩ hl.1 rfl (Nat.le_of_ble_eq_true rfl) d_Mpg_checkStatement_271 ⟨Nat.le_of_ble_eq_true rfl, Nat.le_of_ble_eq_true rfl⟩) hw hA (fun p492 H locs hp492 hw => ?_)
              obtain ⟨cf491, rfl, e494, e495, e496, e497, e498, e499, e500, e501, e502, e503, e504, e505, e506, e507, e508, e509, e510, e511, e512, e513⟩ := hp492
              have e494 : KpE cf cf491 := e494
              have hkz_e494 := e494.2
              have e495 : WrV cf491 (tf 6).toInt := e495
              have hwr := e495
              have hw0_e495 := hwr.1
              have e496 : 1 ≤ (cf491 30).toInt := e496
              have e497 : (cf491 33).toInt = (cf 33).toInt := e497
              have e498 : (cf491 38).toInt = (cf 38).toInt := e498
              have e499 : (cf491 48).toInt = (cf 48).toInt := e499
              have e500 : (cf491 46).toInt = (cf 46).toInt := e500
              have e501 : (cf491 47).toInt = (cf 47).toInt := e501
              have e502 : (cf491 57).toInt = (cf 57).toInt := e502
              have e503 : (cf491 37).toInt = (cf 37).toInt := e503
              have e504 : (cf491 42).toInt = (cf 42).toInt := e504
              have e505 : (cf491 43).toInt = (cf 43).toInt := e505
              have e506 : (cf491 44).toInt = (cf 44).toInt := e506
              have e507 : (cf491 45).toInt = (cf 45).toInt := e507
              have e508 : (cf491 54).toInt = (cf 54).toInt := e508
              have e509 : (cf491 55).toInt = (cf 55).toInt := e509
              have e510 : (cf491 58).toInt = (cf 58).toInt := e510
              have e511 : (cf491 59).toInt = (cf 59).toInt := e511
              have e512 : (cf491 41).toInt = (cf 41).toInt := e512
              have e513 : R_mp_bad (9 : Int32) z489 cf cf491 := e513
              have hw : pw D A s.heap H locs [wdP cs h r g tf ta pf na ma wa cf491 ca ef ea xf xa] := hw
              exact px_vret S hr hlk hAe hw (Nat.le_of_ble_eq_true rfl) (Nat.le_of_ble_eq_true rfl) (⟨ma, cf491, ca, rfl, (show (cf491 30).toInt = 0 → (cf 30).toInt = 0 from by first | exact hkz_e494 | omega), (show WrV cf491 (tf 6).toInt from hwr), (show (cf491 37).toInt = (cf 37).toInt from by first | exact e503 | omega), (show (cf491 38).toInt = (cf 38).toInt from by first | exact e498 | omega), (show (cf491 43).toInt = (cf 43).toInt from by first | exact e505 | omega), (show (cf491 44).toInt = (cf 44).toInt from by first | exact e506 | omega), (show (cf491 45).toInt = (cf 45).toInt from by first | exact e507 | omega), (show (cf491 46).toInt = (cf 46).toInt from by first | exact e500 | omega), (show (cf491 47).toInt = (cf 47).toInt from by first | exact e501 | omega), (show (cf491 41).toInt = (cf 41).toInt from by first | exact e512 | omega), (show (cf491 55).toInt = (cf 55).toInt from by first | exact e509 | omega), (show (cf491 59).toInt = (cf 59).toInt from by first | exact e511 | omega), (show (cf 33).toInt ≤ (cf491 33).toInt from by first | exact oz_f9b42d1b56 e497 | omega), (show 6 * (cf491 33).toInt ≤ 6 * (cf 33).toInt + (w) from by first | exact oz_092373726c g5 e497 | omega), (show (cf 48).toInt ≤ (cf491 48).toInt from by first | exact oz_f9b42d1b56 e499 | omega), (show 6 * (cf491 48).toInt ≤ 6 * (cf 48).toInt + (w) from by first | exact oz_092373726c g5 e499 | omega), (show (cf 54).toInt ≤ (cf491 54).toInt from by first | exact oz_f9b42d1b56 e508 | omega), (show (cf 42).toInt ≤ (cf491 42).toInt from by first | exact oz_f9b42d1b56 e504 | omega), (show (cf491 54).toInt - (cf 54).toInt ≤ 4 * ((cf491 42).toInt - (cf 42).toInt) from by first | exact oz_7f23dbcb5f e504 e508 | omega), (show (cf491 54).toInt - (cf 54).toInt ≤ 4096 * ((cf491 48).toInt - (cf 48).toInt) from by first | exact oz_a2be20d97d e499 e508 | omega), (show (cf491 42).toInt - (cf 42).toInt ≤ 4096 * ((cf491 48).toInt - (cf 48).toInt) from by first | exact oz_a2be20d97d e499 e504 | omega), (show KnT (tf 6).toInt ca (cf491 33).toInt from (KnT.eq hkt (by omega))), (show KnS ca (cf491 33).toInt (cf491 48).toInt ys from (KnS.eq hks (by omega) (by omega))), (show CaG ca ca (cf 33).toInt (cf 48).toInt from (hcg.le (by omega) (by omega))), (show SyR ca ys (cf491 48).toInt (cf491 54).toInt tx from (SyR.eq hsr (by omega) (by omega))), (show Ann na ma0 ma from han), (show FrC lo hi ma ma from hfc), (show ZTe cf491 ta ca na ma0 (cf491 48).toInt ys nf ma lo hi p0 (tgv (cf 44).toInt (cf 45).toInt) from (zr_no (by omega))), (show R_mp_checkStatement (RL_mp_checkStatement d) tf ta na p0 ma cf ca ma cf491 ca from (Or.inl ⟨z1, ez1, Or.inr (Or.inr (Or.inr (Or.inr (Or.inr (Or.inr (Or.inr (Or.inr (Or.inr (Or.inr (Or.inl ⟨c64, Or.inr ⟨nc454, z457, ez457, Or.inr ⟨nc458, Or.inl ⟨nc486, z489, ez489, cf491, e513, rfl, rfl, rfl⟩⟩⟩⟩))))))))))⟩))⟩) d_Mpg_checkStatement_274
          · have nc486 : ¬ (cf 45).toInt ≤ (0 : Int) := mt (i_le (x := (cf 45)) (y := 0)).mpr c486
            refine lv_iconst (v := 1) S.x S.b d_Mpg_checkStatement_252 (by decide) ?_
            refine lv_goto (tgt := 257) S.x S.b d_Mpg_checkStatement_253 (by decide) ?_
            refine lv_istore_n (lv' := [(2, .int 1), (0, .ref h), (1, .int p0)]) S.x S.b d_Mpg_checkStatement_257 rfl hl (by decide) rfl (fun ls hl => ?_)
            refine lv_iload_n S.x S.b d_Mpg_checkStatement_258 rfl (lv_at hl 0 rfl) ?_
            refine lv_if_ne (tgt := 274) S.x S.b d_Mpg_checkStatement_259 (by decide) (fun c514 => ?_) (fun c514 => ?_)
            ·
              exact px_vret S hr hlk hAe hw (Nat.le_of_ble_eq_true rfl) (Nat.le_of_ble_eq_true rfl) (⟨ma, cf, ca, rfl, (show (cf 30).toInt = 0 → (cf 30).toInt = 0 from by first | exact fun q9 => q9 | omega), (show WrV cf (tf 6).toInt from hwr), (show (cf 37).toInt = (cf 37).toInt from rfl), (show (cf 38).toInt = (cf 38).toInt from rfl), (show (cf 43).toInt = (cf 43).toInt from rfl), (show (cf 44).toInt = (cf 44).toInt from rfl), (show (cf 45).toInt = (cf 45).toInt from rfl), (show (cf 46).toInt = (cf 46).toInt from rfl), (show (cf 47).toInt = (cf 47).toInt from rfl), (show (cf 41).toInt = (cf 41).toInt from rfl), (show (cf 55).toInt = (cf 55).toInt from rfl), (show (cf 59).toInt = (cf 59).toInt from rfl), (show (cf 33).toInt ≤ (cf 33).toInt from by first | exact oz_1cb5f934a5 | omega), (show 6 * (cf 33).toInt ≤ 6 * (cf 33).toInt + (w) from by first | exact oz_5a408f7934 g5 | omega), (show (cf 48).toInt ≤ (cf 48).toInt from by first | exact oz_1cb5f934a5 | omega), (show 6 * (cf 48).toInt ≤ 6 * (cf 48).toInt + (w) from by first | exact oz_5a408f7934 g5 | omega), (show (cf 54).toInt ≤ (cf 54).toInt from by first | exact oz_1cb5f934a5 | omega), (show (cf 42).toInt ≤ (cf 42).toInt from by first | exact oz_1cb5f934a5 | omega), (show (cf 54).toInt - (cf 54).toInt ≤ 4 * ((cf 42).toInt - (cf 42).toInt) from by first | exact oz_a1153f1990 | omega), (show (cf 54).toInt - (cf 54).toInt ≤ 4096 * ((cf 48).toInt - (cf 48).toInt) from by first | exact oz_f4137ca117 | omega), (show (cf 42).toInt - (cf 42).toInt ≤ 4096 * ((cf 48).toInt - (cf 48).toInt) from by first | exact oz_f4137ca117 | omega), (show KnT (tf 6).toInt ca (cf 33).toInt from (KnT.eq hkt (by omega))), (show KnS ca (cf 33).toInt (cf 48).toInt ys from (KnS.eq hks (by omega) (by omega))), (show CaG ca ca (cf 33).toInt (cf 48).toInt from (hcg.le (by omega) (by omega))), (show SyR ca ys (cf 48).toInt (cf 54).toInt tx from (SyR.eq hsr (by omega) (by omega))), (show Ann na ma0 ma from han), (show FrC lo hi ma ma from hfc), (show ZTe cf ta ca na ma0 (cf 48).toInt ys nf ma lo hi p0 (tgv (cf 44).toInt (cf 45).toInt) from (fun zz => by first | exact tys_0 ⟨by omega, by omega, by omega⟩ tgv_rng (by omega) | exact tys_j ⟨by omega, by omega, by omega⟩ (by omega) (tgv_4 (by omega)) | exact tys_31 ⟨by omega, by omega, by omega⟩ tgv_rng (by omega) (tgv_ge (by omega)))), (show R_mp_checkStatement (RL_mp_checkStatement d) tf ta na p0 ma cf ca ma cf ca from (Or.inl ⟨z1, ez1, Or.inr (Or.inr (Or.inr (Or.inr (Or.inr (Or.inr (Or.inr (Or.inr (Or.inr (Or.inr (Or.inl ⟨c64, Or.inr ⟨nc454, z457, ez457, Or.inr ⟨nc458, Or.inr ⟨nc486, rfl, rfl, rfl⟩⟩⟩⟩))))))))))⟩))⟩) d_Mpg_checkStatement_274
            · exact absurd c514 (by decide)
    · simp only [List.mem_cons, List.not_mem_nil, or_false] at c64
      refine lv_aload_n S.x S.b d_Mpg_checkStatement_219 rfl (lv_at hl 0 rfl) ?_
      refine lv_iload_n S.x S.b d_Mpg_checkStatement_220 rfl (lv_at hl 1 rfl) ?_
      refine px_callv (pr := []) (px_runV (As := [.int p0]) (rest := []) S (c_mp_checkReturn l D cs ma0 ys nf tx d lo hi w h r g tf ta pf na wa ef ea xf xa ma cf ca p0  (show 0 ≤ lo from by first | exact g0 | omega) (show hi ≤ (pf 13).toInt from by first | exact g1 | omega) (show (pf 13).toInt ≤ 2100 from by first | exact g2 | omega) (show (tf 6).toInt ≤ 2049 from by first | exact g3 | omega) (show 0 ≤ (cf 33).toInt from by first | exact g4 | omega) (show 0 ≤ w from by first | exact g5 | omega) (show 6 * (cf 33).toInt + w ≤ 6540 from by first | exact g6 | omega) (show 0 ≤ (cf 48).toInt from by first | exact g7 | omega) (show 6 * (cf 48).toInt + w ≤ 6540 from by first | exact g8 | omega) (show (cf 38).toInt = nf from by first | exact g9 | omega) (show 0 ≤ nf from by first | exact g10 | omega) (show 0 ≤ (cf 37).toInt from by first | exact g11 | omega) (show 0 ≤ (cf 54).toInt from by first | exact g12 | omega) (show (cf 54).toInt ≤ 4096 * (cf 48).toInt from by first | exact g13 | omega) (show 0 ≤ (cf 42).toInt from by first | exact g14 | omega) (show (cf 42).toInt ≤ 4 + 4096 * (cf 48).toInt from by first | exact g15 | omega) (show 0 ≤ (cf 44).toInt from by first | exact g16 | omega) (show 0 ≤ (cf 45).toInt from by first | exact g17 | omega) (show ys ≤ (cf 48).toInt ∨ tx = 1 from by first | exact g18 | omega) (show 0 ≤ (cf 46).toInt from by first | exact g19 | omega) (show (cf 46).toInt ≤ 1 from by first | exact g20 | omega) (show 0 ≤ (cf 47).toInt from by first | exact g21 | omega) (show (cf 47).toInt ≤ 1 from by first | exact g22 | omega) (show (cf 44).toInt + (d : Int) ≤ 400 from by first | exact oz_8237b40f3f g23 | omega) (show (cf 45).toInt + (d : Int) ≤ 400 from by first | exact oz_8237b40f3f g24 | omega) (show 0 ≤ (cf 43).toInt from by first | exact g25 | omega) (show (cf 43).toInt < 2100 from by first | exact g26 | omega) (show tx = 0 from by first | exact g27 | omega) (show (na 14 p0.toNatClampNeg).toInt = 33 from by omega) htk (FsI.le (N' := (pf 13).toInt) hfs (by omega)) hwr (KnT.eq hkt (by omega)) (FnT.eq hft (by omega)) (KnS.eq hks (by omega) (by omega)) hfp (SyR.eq hsr (by omega) (by omega)) han (show txo (cf 43).toInt = tx from by rw [show (cf 43).toInt = (cf 43).toInt by omega]; exact htx) hsc_p0 hLS _) hT (pr := []) (pcs := [wdP cs h r g tf ta pf na ma wa cf ca ef ea xf xa]) hw (oX_call (P := (fun A U H => (oP A g U H))) (pr := []) oG_P hw hA hP) (px_recv hT hw 0 0 rfl rfl rfl) m13_49 m13_46 m13_48 ms_13_9 m1_21 q_Mpg_checkReturn ⟨show (6 * d + 27) + 1 ≤ (6 * (d + 1) + 26) from (by first | exact oz_06a2e57cf7 | omega), show 8 + (3 + 11) + (260 * d + 940) ≤ (260 * (d + 1) + 900) from (by first | exact oz_b808fb21f8 | omega)⟩ hl.1 rfl (Nat.le_of_ble_eq_true rfl) d_Mpg_checkStatement_221 ⟨Nat.le_of_ble_eq_true rfl, Nat.le_of_ble_eq_true rfl⟩) hw hA (fun p521 H locs hp521 hw => ?_)
      obtain ⟨ma518, cf519, ca520, rfl, e523, e524, e525, e526, e527, e528, e529, e530, e531, e532, e533, e534, e535, e536, e537, e538, e539, e540, e541, e542, e543, e544, e545, e546, e547, e548, e549, e550⟩ := hp521
      have e523 : (cf519 30).toInt = 0 → (cf 30).toInt = 0 := e523
      have e524 : WrV cf519 (tf 6).toInt := e524
      have hwr := e524
      have hw0_e524 := hwr.1
      have e525 : (cf519 37).toInt = (cf 37).toInt := e525
      have e526 : (cf519 38).toInt = (cf 38).toInt := e526
      have e527 : (cf519 43).toInt = (cf 43).toInt := e527
      have e528 : (cf519 44).toInt = (cf 44).toInt := e528
      have e529 : (cf519 45).toInt = (cf 45).toInt := e529
      have e530 : (cf519 46).toInt = (cf 46).toInt := e530
      have e531 : (cf519 47).toInt = (cf 47).toInt := e531
      have e532 : (cf519 41).toInt = (cf 41).toInt := e532
      have e533 : (cf519 55).toInt = (cf 55).toInt := e533
      have e534 : (cf519 59).toInt = (cf 59).toInt := e534
      have e535 : (cf519 33).toInt = (cf 33).toInt := e535
      have e536 : (cf 48).toInt ≤ (cf519 48).toInt := e536
      have e537 : 6 * (cf519 48).toInt ≤ 6 * (cf 48).toInt + (w) := e537
      have e538 : (cf 54).toInt ≤ (cf519 54).toInt := e538
      have e539 : (cf 42).toInt ≤ (cf519 42).toInt := e539
      have e540 : (cf519 54).toInt - (cf 54).toInt ≤ 4 * ((cf519 42).toInt - (cf 42).toInt) := e540
      have e541 : (cf519 54).toInt - (cf 54).toInt ≤ 4096 * ((cf519 48).toInt - (cf 48).toInt) := e541
      have e542 : (cf519 42).toInt - (cf 42).toInt ≤ 4096 * ((cf519 48).toInt - (cf 48).toInt) := e542
      have e543 : KnT (tf 6).toInt ca520 (cf519 33).toInt := e543
      have hkt := e543
      have hk11_e543 := hkt.1
      have e544 : KnS ca520 (cf519 33).toInt (cf519 48).toInt ys := e544
      have hks := e544
      have e545 : CaG ca ca520 (cf 33).toInt (cf 48).toInt := e545
      have hcg := hcg.tr e545 (by omega) (by omega)
      have hft := hft.cg e545
      have hfp := hfp.cg e545
      have e546 : SyR ca520 ys (cf519 48).toInt (cf519 54).toInt tx := e546
      have hsr := e546
      have e547 : Ann na ma0 ma518 := e547
      have han := e547
      have e548 : FrC lo hi ma ma518 := e548
      have hfc := hfc.tr e548 (by omega) (by omega)
      have e549 : ZTe cf519 ta ca520 na ma0 (cf519 48).toInt ys nf ma518 lo hi p0 (tgv (cf 44).toInt (cf 45).toInt) := e549
      have hts_p0 : ZTe cf519 ta ca520 na ma0 (cf519 48).toInt ys nf ma518 lo hi p0 (tgv (cf 44).toInt (cf 45).toInt) := ZTe.to e549 (fun q => by omega) (by omega) (Int.le_refl _) (Int.le_refl _) (by congr 1 <;> omega)
      have e550 : R_mp_checkReturn (RL_mp_checkStatement d) tf ta na p0 ma cf ca ma518 cf519 ca520 := e550
      have hw : pw D A s.heap H locs [wdP cs h r g tf ta pf na ma518 wa cf519 ca520 ef ea xf xa] := hw
      refine lv_goto (tgt := 274) S.x S.b d_Mpg_checkStatement_224 (by decide) ?_
      exact px_vret S hr hlk hAe hw (Nat.le_of_ble_eq_true rfl) (Nat.le_of_ble_eq_true rfl) (⟨ma518, cf519, ca520, rfl, (show (cf519 30).toInt = 0 → (cf 30).toInt = 0 from by first | exact e523 | omega), (show WrV cf519 (tf 6).toInt from hwr), (show (cf519 37).toInt = (cf 37).toInt from by first | exact e525 | omega), (show (cf519 38).toInt = (cf 38).toInt from by first | exact e526 | omega), (show (cf519 43).toInt = (cf 43).toInt from by first | exact e527 | omega), (show (cf519 44).toInt = (cf 44).toInt from by first | exact e528 | omega), (show (cf519 45).toInt = (cf 45).toInt from by first | exact e529 | omega), (show (cf519 46).toInt = (cf 46).toInt from by first | exact e530 | omega), (show (cf519 47).toInt = (cf 47).toInt from by first | exact e531 | omega), (show (cf519 41).toInt = (cf 41).toInt from by first | exact e532 | omega), (show (cf519 55).toInt = (cf 55).toInt from by first | exact e533 | omega), (show (cf519 59).toInt = (cf 59).toInt from by first | exact e534 | omega), (show (cf 33).toInt ≤ (cf519 33).toInt from by first | exact oz_f9b42d1b56 e535 | omega), (show 6 * (cf519 33).toInt ≤ 6 * (cf 33).toInt + (w) from by first | exact oz_26218e8869 e535 e537 e536 | omega), (show (cf 48).toInt ≤ (cf519 48).toInt from by first | exact e536 | omega), (show 6 * (cf519 48).toInt ≤ 6 * (cf 48).toInt + (w) from by first | exact e537 | omega), (show (cf 54).toInt ≤ (cf519 54).toInt from by first | exact e538 | omega), (show (cf 42).toInt ≤ (cf519 42).toInt from by first | exact e539 | omega), (show (cf519 54).toInt - (cf 54).toInt ≤ 4 * ((cf519 42).toInt - (cf 42).toInt) from by first | exact e540 | omega), (show (cf519 54).toInt - (cf 54).toInt ≤ 4096 * ((cf519 48).toInt - (cf 48).toInt) from by first | exact e541 | omega), (show (cf519 42).toInt - (cf 42).toInt ≤ 4096 * ((cf519 48).toInt - (cf 48).toInt) from by first | exact e542 | omega), (show KnT (tf 6).toInt ca520 (cf519 33).toInt from (KnT.eq hkt (by omega))), (show KnS ca520 (cf519 33).toInt (cf519 48).toInt ys from (KnS.eq hks (by omega) (by omega))), (show CaG ca ca520 (cf 33).toInt (cf 48).toInt from (hcg.le (by omega) (by omega))), (show SyR ca520 ys (cf519 48).toInt (cf519 54).toInt tx from (SyR.eq hsr (by omega) (by omega))), (show Ann na ma0 ma518 from han), (show FrC lo hi ma ma518 from hfc), (show ZTe cf519 ta ca520 na ma0 (cf519 48).toInt ys nf ma518 lo hi p0 (tgv (cf 44).toInt (cf 45).toInt) from (ZTe.to hts_p0 (fun q => by omega) (by omega) (by omega) (by omega) rfl)), (show R_mp_checkStatement (RL_mp_checkStatement d) tf ta na p0 ma cf ca ma518 cf519 ca520 from (Or.inl ⟨z1, ez1, Or.inr (Or.inr (Or.inr (Or.inr (Or.inr (Or.inr (Or.inr (Or.inr (Or.inr (Or.inr (Or.inr ⟨c64, ma518, cf519, ca520, e550, rfl, rfl, rfl⟩))))))))))⟩))⟩) d_Mpg_checkStatement_274
theorem stc_all (l : Launch) (D : va_G) (cs : Nat → ClassId) : ∀ d : Nat, StC l D cs d := by
  intro d
  induction d with
  | zero => intro ma0 ys nf tx lo hi w h r g tf ta pf na wa ef ea xf xa ma cf ca p0 g0 g1 g2 g3 g4 g5 g6 g7 g8 g9 g10 g11 g12 g13 g14 g15 g16 g17 g18 g19 g20 g21 g22 g23 g24 g25 g26 g27 htk hfs hwr hkt hft hks hfp hsr han htx hsc; exact (sc_0 hsc).elim
  | succ d ih => intro ma0 ys nf tx lo hi w h r g tf ta pf na wa ef ea xf xa ma cf ca p0 g0 g1 g2 g3 g4 g5 g6 g7 g8 g9 g10 g11 g12 g13 g14 g15 g16 g17 g18 g19 g20 g21 g22 g23 g24 g25 g26 g27 htk hfs hwr hkt hft hks hfp hsr han htx hsc; exact c_mp_checkStatement l D cs ma0 ys nf tx d lo hi w h r g tf ta pf na wa ef ea xf xa ma cf ca p0 g0 g1 g2 g3 g4 g5 g6 g7 g8 g9 g10 g11 g12 g13 g14 g15 g16 g17 g18 g19 g20 g21 g22 g23 g24 g25 g26 g27 htk hfs hwr hkt hft hks hfp hsr han htx hsc ih
set_option maxHeartbeats 4000000 in
set_option maxRecDepth 100000 in
theorem c_S_checkStatement (l : Launch) (D : va_G) (cs : Nat → ClassId) (ma0 : Nat → Nat → Int32) (ys : Int) (nf : Int) (tx : Int) (d : Nat) (lo : Int) (hi : Int) (w : Int) (h : Nat) (r : Nat → Nat) (g : Nat → Nat → Option Nat) (tf : Nat → Int32) (ta : Nat → Nat → Int32) (pf : Nat → Int32) (na : Nat → Nat → Int32) (wa : Nat → Nat → Int32) (ef : Nat → Int32) (ea : Nat → Nat → Int32) (xf : Nat → Int32) (xa : Nat → Nat → Int32) (ma : Nat → Nat → Int32) (cf : Nat → Int32) (ca : Nat → Nat → Int32) (p0 : Int32)  (g0 : 0 ≤ lo) (g1 : hi ≤ (pf 13).toInt) (g2 : (pf 13).toInt ≤ 2100) (g3 : (tf 6).toInt ≤ 2049) (g4 : 0 ≤ (cf 33).toInt) (g5 : 0 ≤ w) (g6 : 6 * (cf 33).toInt + w ≤ 6540) (g7 : 0 ≤ (cf 48).toInt) (g8 : 6 * (cf 48).toInt + w ≤ 6540) (g9 : (cf 38).toInt = nf) (g10 : 0 ≤ nf) (g11 : 0 ≤ (cf 37).toInt) (g12 : 0 ≤ (cf 54).toInt) (g13 : (cf 54).toInt ≤ 4096 * (cf 48).toInt) (g14 : 0 ≤ (cf 42).toInt) (g15 : (cf 42).toInt ≤ 4 + 4096 * (cf 48).toInt) (g16 : 0 ≤ (cf 44).toInt) (g17 : 0 ≤ (cf 45).toInt) (g18 : ys ≤ (cf 48).toInt ∨ tx = 1) (g19 : 0 ≤ (cf 46).toInt) (g20 : (cf 46).toInt ≤ 1) (g21 : 0 ≤ (cf 47).toInt) (g22 : (cf 47).toInt ≤ 1) (g23 : (cf 44).toInt + (d : Int) ≤ 400) (g24 : (cf 45).toInt + (d : Int) ≤ 400) (g25 : 0 ≤ (cf 43).toInt) (g26 : (cf 43).toInt < 2100) (g27 : tx = 0) (htk : TkI tf ta) (hfs : FsI (tf 6).toInt (pf 13).toInt na) (hwr : WrV cf (tf 6).toInt) (hkt : KnT (tf 6).toInt ca (cf 33).toInt) (hft : FnT (tf 6).toInt na ca (cf 38).toInt) (hks : KnS ca (cf 33).toInt (cf 48).toInt ys) (hfp : FnP na ca nf) (hsr : SyR ca ys (cf 48).toInt (cf 54).toInt tx) (han : Ann na ma0 ma) (htx : txo (cf 43).toInt = tx) (hsc : ScV ta (tf 6).toInt na ma0 d lo hi w p0) : MetV l y_Mpg_checkStatement b_Mpg_checkStatement 3 D cs (6 * d + 26) (260 * d + 900) (0) (0) [.ref h, .int p0] [wdP cs h r g tf ta pf na ma wa cf ca ef ea xf xa] (oX (fun A U H => (oP A g U H)) [wdP cs h r g tf ta pf na ma wa cf ca ef ea xf xa]) (fun ps => ∃ (ma' : Nat → Nat → Int32) (cf' : Nat → Int32) (ca' : Nat → Nat → Int32), (ps = [wdP cs h r g tf ta pf na ma' wa cf' ca' ef ea xf xa]) ∧ ((cf' 30).toInt = 0 → (cf 30).toInt = 0) ∧ (WrV cf' (tf 6).toInt) ∧ ((cf' 37).toInt = (cf 37).toInt) ∧ ((cf' 38).toInt = (cf 38).toInt) ∧ ((cf' 43).toInt = (cf 43).toInt) ∧ ((cf' 44).toInt = (cf 44).toInt) ∧ ((cf' 45).toInt = (cf 45).toInt) ∧ ((cf' 46).toInt = (cf 46).toInt) ∧ ((cf' 47).toInt = (cf 47).toInt) ∧ ((cf' 41).toInt = (cf 41).toInt) ∧ ((cf' 55).toInt = (cf 55).toInt) ∧ ((cf' 59).toInt = (cf 59).toInt) ∧ ((cf 33).toInt ≤ (cf' 33).toInt) ∧ (6 * (cf' 33).toInt ≤ 6 * (cf 33).toInt + (w)) ∧ ((cf 48).toInt ≤ (cf' 48).toInt) ∧ (6 * (cf' 48).toInt ≤ 6 * (cf 48).toInt + (w)) ∧ ((cf 54).toInt ≤ (cf' 54).toInt) ∧ ((cf 42).toInt ≤ (cf' 42).toInt) ∧ ((cf' 54).toInt - (cf 54).toInt ≤ 4 * ((cf' 42).toInt - (cf 42).toInt)) ∧ ((cf' 54).toInt - (cf 54).toInt ≤ 4096 * ((cf' 48).toInt - (cf 48).toInt)) ∧ ((cf' 42).toInt - (cf 42).toInt ≤ 4096 * ((cf' 48).toInt - (cf 48).toInt)) ∧ (KnT (tf 6).toInt ca' (cf' 33).toInt) ∧ (KnS ca' (cf' 33).toInt (cf' 48).toInt ys) ∧ (CaG ca ca' (cf 33).toInt (cf 48).toInt) ∧ (SyR ca' ys (cf' 48).toInt (cf' 54).toInt tx) ∧ (Ann na ma0 ma') ∧ (FrC lo hi ma ma') ∧ (ZTe cf' ta ca' na ma0 (cf' 48).toInt ys nf ma' lo hi p0 (tgv (cf 44).toInt (cf 45).toInt)) ∧ (RL_mp_checkStatement d tf ta na p0 ma cf ca ma' cf' ca')) := by
  exact stc_all l D cs d ma0 ys nf tx lo hi w h r g tf ta pf na wa ef ea xf xa ma cf ca p0 g0 g1 g2 g3 g4 g5 g6 g7 g8 g9 g10 g11 g12 g13 g14 g15 g16 g17 g18 g19 g20 g21 g22 g23 g24 g25 g26 g27 htk hfs hwr hkt hft hks hfp hsr han htx hsc
