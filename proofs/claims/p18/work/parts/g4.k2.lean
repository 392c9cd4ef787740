theorem oz_bb879af612 {a0 : Int} (h0 : ¬ a0 < (0 : Int)) (h1 : ¬ (8 : Int) ≤ a0) : 0 ≤ a0 ∧ a0 < ((8 : Nat) : Int) := by omega
theorem oz_7b32467f75 {a1 : Int} {n0 : Nat} (h0 : (n0 : Int) = a1) (h1 : ¬ (8 : Int) ≤ a1) : n0 < 8 := by omega
theorem oz_5a0ed8b3c3 {a0 : Int} (h0 : a0 < (13 : Int)) : a0 ≤ 12 := by omega
theorem oz_c18bd8c19e {n0 n1 n2 n3 n4 n5 n6 : Nat} (h0 : n0 + (5 * n4 + 4 * n5 + n6) ≤ 5 * n1 + 4 * n2 + n3) : (0 + n0) ≤ (5 * n1 + 4 * n2 + n3) := by omega
theorem oz_a5e7637f35 {n0 n1 n2 n3 n4 n5 n6 : Nat} (h0 : n0 + (9804 * n4 + 342 * n5 + 36864 * n6) ≤ 9804 * n1 + 342 * n2 + 36864 * n3) : (0 + n0) ≤ (9804 * n1 + 342 * n2 + 36864 * n3) := by omega
theorem oz_83cb35c84f {n0 n1 n2 n3 n4 n5 n6 : Nat} (h0 : n0 + (5 * n1 + 4 * n2 + n3) ≤ 5 * n4 + 4 * n5 + n6) : (0 + n0) + (5 * n1 + 4 * n2 + n3) ≤ 5 * n4 + 4 * n5 + n6 := by omega
theorem oz_0878d13dda {n0 n1 n2 n3 n4 n5 n6 : Nat} (h0 : n0 + (9804 * n1 + 342 * n2 + 36864 * n3) ≤ 9804 * n4 + 342 * n5 + 36864 * n6) : (0 + n0) + (9804 * n1 + 342 * n2 + 36864 * n3) ≤ 9804 * n4 + 342 * n5 + 36864 * n6 := by omega
theorem m2_98 : Cond.fieldLink "HomeSystem$Kernel" 81 "HomeSystem$Program" "isRaw" "Z" ∈ AL := AL_2 (List.mem_of_getElem? (i := 98) rfl) rfl
theorem m15_12n : Cond.castable "HomeSystem$TextProcess" "HomeSystem$AnyProcess" ∈ tables_1 := by unfold tables_1; exact List.mem_append_right _ (List.mem_append_right _ (List.mem_append_right _ (List.mem_append_right _ (List.mem_append_right _ (List.mem_append_right _ (List.mem_append_right _ (List.mem_append_right _ (List.mem_append_right _ (List.mem_append_right _ (List.mem_append_right _ (List.mem_append_right _ (List.mem_append_right _ (List.mem_append_right _ (List.mem_of_getElem? (i := 12) rfl))))))))))))))
theorem m2_229 : Cond.fieldLink "HomeSystem$Kernel" 48 "HomeSystem$Kernel" "work" "I" ∈ AL := AL_2 (List.mem_of_getElem? (i := 229) rfl) rfl
theorem m2_230 : Cond.fieldLink "HomeSystem$Kernel" 52 "HomeSystem$Kernel" "stack" "I" ∈ AL := AL_2 (List.mem_of_getElem? (i := 230) rfl) rfl
theorem m7_29 : Cond.methodLink "HomeSystem$Kernel" 89 ⟨"HomeSystem$AnyProcess", "begin", "(LHomeSystem$Program;III)V"⟩ ∈ AL := AL_7 (List.mem_of_getElem? (i := 29) rfl) rfl
theorem m7_46 : Cond.code ⟨"HomeSystem$TextProcess", "begin", "(LHomeSystem$Program;III)V"⟩ prog_11_method_2_code 5 (Option.none : Option Jvm.ClassFile.FieldType) ∈ AL := AL_7 (List.mem_of_getElem? (i := 46) rfl) rfl
theorem m7_31 : Cond.sameMethod "HomeSystem$AnyProcess" "HomeSystem$AnyProcess" "begin" "(LHomeSystem$Program;III)V" ∈ AL := AL_7 (List.mem_of_getElem? (i := 31) rfl) rfl
theorem m7_45 : Cond.instanceMethod ⟨"HomeSystem$TextProcess", "begin", "(LHomeSystem$Program;III)V"⟩ ∈ AL := AL_7 (List.mem_of_getElem? (i := 45) rfl) rfl
theorem m7_44 : Cond.selects "HomeSystem$TextProcess" ⟨"HomeSystem$AnyProcess", "begin", "(LHomeSystem$Program;III)V"⟩ ⟨"HomeSystem$TextProcess", "begin", "(LHomeSystem$Program;III)V"⟩ ∈ AL := AL_7 (List.mem_of_getElem? (i := 44) rfl) rfl
theorem m7_30n : Cond.declares ⟨"HomeSystem$AnyProcess", "begin", "(LHomeSystem$Program;III)V"⟩ ∈ tables_1 := by unfold tables_1; exact List.mem_append_right _ (List.mem_append_right _ (List.mem_append_right _ (List.mem_append_right _ (List.mem_append_right _ (List.mem_append_right _ (List.mem_append_left _ (List.mem_of_getElem? (i := 30) rfl)))))))
theorem m6_208 : Cond.instantiable "HomeSystem$TextProcess" 25 ∈ AL := AL_6 (List.mem_of_getElem? (i := 208) rfl) rfl
theorem m6_209 : Cond.methodLink "HomeSystem$Kernel" 88 ⟨"HomeSystem$TextProcess", "<init>", "(I)V"⟩ ∈ AL := AL_6 (List.mem_of_getElem? (i := 209) rfl) rfl
theorem m6_211 : Cond.code ⟨"HomeSystem$TextProcess", "<init>", "(I)V"⟩ prog_11_method_1_code 2 (Option.none : Option Jvm.ClassFile.FieldType) ∈ AL := AL_6 (List.mem_of_getElem? (i := 211) rfl) rfl
theorem m6_210 : Cond.instanceMethod ⟨"HomeSystem$TextProcess", "<init>", "(I)V"⟩ ∈ AL := AL_6 (List.mem_of_getElem? (i := 210) rfl) rfl
theorem m15_11n : Cond.castable "HomeSystem$RawProcess" "HomeSystem$AnyProcess" ∈ tables_1 := by unfold tables_1; exact List.mem_append_right _ (List.mem_append_right _ (List.mem_append_right _ (List.mem_append_right _ (List.mem_append_right _ (List.mem_append_right _ (List.mem_append_right _ (List.mem_append_right _ (List.mem_append_right _ (List.mem_append_right _ (List.mem_append_right _ (List.mem_append_right _ (List.mem_append_right _ (List.mem_append_right _ (List.mem_of_getElem? (i := 11) rfl))))))))))))))
theorem m7_34 : Cond.code ⟨"HomeSystem$RawProcess", "begin", "(LHomeSystem$Program;III)V"⟩ prog_8_method_2_code 5 (Option.none : Option Jvm.ClassFile.FieldType) ∈ AL := AL_7 (List.mem_of_getElem? (i := 34) rfl) rfl
theorem m7_33 : Cond.instanceMethod ⟨"HomeSystem$RawProcess", "begin", "(LHomeSystem$Program;III)V"⟩ ∈ AL := AL_7 (List.mem_of_getElem? (i := 33) rfl) rfl
theorem m7_32 : Cond.selects "HomeSystem$RawProcess" ⟨"HomeSystem$AnyProcess", "begin", "(LHomeSystem$Program;III)V"⟩ ⟨"HomeSystem$RawProcess", "begin", "(LHomeSystem$Program;III)V"⟩ ∈ AL := AL_7 (List.mem_of_getElem? (i := 32) rfl) rfl
theorem m6_116 : Cond.instantiable "HomeSystem$RawProcess" 18 ∈ AL := AL_6 (List.mem_of_getElem? (i := 116) rfl) rfl
theorem m6_117 : Cond.methodLink "HomeSystem$Kernel" 85 ⟨"HomeSystem$RawProcess", "<init>", "(I)V"⟩ ∈ AL := AL_6 (List.mem_of_getElem? (i := 117) rfl) rfl
theorem m6_119 : Cond.code ⟨"HomeSystem$RawProcess", "<init>", "(I)V"⟩ prog_8_method_1_code 2 (Option.none : Option Jvm.ClassFile.FieldType) ∈ AL := AL_6 (List.mem_of_getElem? (i := 119) rfl) rfl
theorem m6_118 : Cond.instanceMethod ⟨"HomeSystem$RawProcess", "<init>", "(I)V"⟩ ∈ AL := AL_6 (List.mem_of_getElem? (i := 118) rfl) rfl
theorem m6_112 : Cond.methodLink "HomeSystem$Kernel" 61 ⟨"HomeSystem$Kernel", "begin", "(ILHomeSystem$Program;I)V"⟩ ∈ AL := AL_6 (List.mem_of_getElem? (i := 112) rfl) rfl
theorem m6_115 : Cond.code ⟨"HomeSystem$Kernel", "begin", "(ILHomeSystem$Program;I)V"⟩ prog_4_method_3_code 4 (Option.none : Option Jvm.ClassFile.FieldType) ∈ AL := AL_6 (List.mem_of_getElem? (i := 115) rfl) rfl
theorem ms_5_5 : Cond.selects "HomeSystem$Kernel" ⟨"HomeSystem$Kernel", "begin", "(ILHomeSystem$Program;I)V"⟩ ⟨"HomeSystem$Kernel", "begin", "(ILHomeSystem$Program;I)V"⟩ ∈ AL := AL_p (q := (⟨"HomeSystem$Kernel", "begin", "(ILHomeSystem$Program;I)V"⟩, 10)) (by unfold lw_privs; exact List.mem_append_right _ (List.mem_append_right _ (List.mem_append_right _ (List.mem_append_right _ (List.mem_append_left _ (List.mem_of_getElem? (i := 5) rfl))))))
theorem m6_114 : Cond.instanceMethod ⟨"HomeSystem$Kernel", "begin", "(ILHomeSystem$Program;I)V"⟩ ∈ AL := AL_6 (List.mem_of_getElem? (i := 114) rfl) rfl
abbrev b_Ker_begin : ByteArray := prog_4_method_3_code
def y_Ker_begin : MethodName := ⟨"HomeSystem$Kernel", "begin", "(ILHomeSystem$Program;I)V"⟩
theorem d_Ker_begin_0 : decode b_Ker_begin 0 = .ok (.aload_n 2, 1) := by decide +kernel
theorem d_Ker_begin_1 : decode b_Ker_begin 1 = .ok (.ifnonnull 4, 3) := by decide +kernel
theorem d_Ker_begin_5 : decode b_Ker_begin 5 = .ok (.aload_n 2, 1) := by decide +kernel
theorem d_Ker_begin_6 : decode b_Ker_begin 6 = .ok (.getfield 81, 3) := by decide +kernel
theorem d_Ker_begin_9 : decode b_Ker_begin 9 = .ok (.ifCond .eq 41, 3) := by decide +kernel
theorem d_Ker_begin_12 : decode b_Ker_begin 12 = .ok (.aload_n 0, 1) := by decide +kernel
theorem d_Ker_begin_13 : decode b_Ker_begin 13 = .ok (.getfield 35, 3) := by decide +kernel
theorem d_Ker_begin_16 : decode b_Ker_begin 16 = .ok (.iload_n 1, 1) := by decide +kernel
theorem d_Ker_begin_17 : decode b_Ker_begin 17 = .ok (.aaload, 1) := by decide +kernel
theorem d_Ker_begin_18 : decode b_Ker_begin 18 = .ok (.ifnonnull 17, 3) := by decide +kernel
theorem d_Ker_begin_21 : decode b_Ker_begin 21 = .ok (.aload_n 0, 1) := by decide +kernel
theorem d_Ker_begin_22 : decode b_Ker_begin 22 = .ok (.getfield 35, 3) := by decide +kernel
theorem d_Ker_begin_25 : decode b_Ker_begin 25 = .ok (.iload_n 1, 1) := by decide +kernel
theorem d_Ker_begin_26 : decode b_Ker_begin 26 = .ok (.new 33, 3) := by decide +kernel
theorem d_Ker_begin_29 : decode b_Ker_begin 29 = .ok (.dup, 1) := by decide +kernel
theorem d_Ker_begin_30 : decode b_Ker_begin 30 = .ok (.iload_n 1, 1) := by decide +kernel
theorem d_Ker_begin_31 : decode b_Ker_begin 31 = .ok (.invokespecial 85, 3) := by decide +kernel
theorem d_Ker_begin_34 : decode b_Ker_begin 34 = .ok (.aastore, 1) := by decide +kernel
theorem d_Ker_begin_35 : decode b_Ker_begin 35 = .ok (.aload_n 0, 1) := by decide +kernel
theorem d_Ker_begin_36 : decode b_Ker_begin 36 = .ok (.getfield 23, 3) := by decide +kernel
theorem d_Ker_begin_39 : decode b_Ker_begin 39 = .ok (.iload_n 1, 1) := by decide +kernel
theorem d_Ker_begin_40 : decode b_Ker_begin 40 = .ok (.aload_n 0, 1) := by decide +kernel
theorem d_Ker_begin_41 : decode b_Ker_begin 41 = .ok (.getfield 35, 3) := by decide +kernel
theorem d_Ker_begin_44 : decode b_Ker_begin 44 = .ok (.iload_n 1, 1) := by decide +kernel
theorem d_Ker_begin_45 : decode b_Ker_begin 45 = .ok (.aaload, 1) := by decide +kernel
theorem d_Ker_begin_46 : decode b_Ker_begin 46 = .ok (.aastore, 1) := by decide +kernel
theorem d_Ker_begin_47 : decode b_Ker_begin 47 = .ok (.goto 38, 3) := by decide +kernel
theorem d_Ker_begin_50 : decode b_Ker_begin 50 = .ok (.aload_n 0, 1) := by decide +kernel
theorem d_Ker_begin_51 : decode b_Ker_begin 51 = .ok (.getfield 29, 3) := by decide +kernel
theorem d_Ker_begin_54 : decode b_Ker_begin 54 = .ok (.iload_n 1, 1) := by decide +kernel
theorem d_Ker_begin_55 : decode b_Ker_begin 55 = .ok (.aaload, 1) := by decide +kernel
theorem d_Ker_begin_56 : decode b_Ker_begin 56 = .ok (.ifnonnull 17, 3) := by decide +kernel
theorem d_Ker_begin_59 : decode b_Ker_begin 59 = .ok (.aload_n 0, 1) := by decide +kernel
theorem d_Ker_begin_60 : decode b_Ker_begin 60 = .ok (.getfield 29, 3) := by decide +kernel
theorem d_Ker_begin_63 : decode b_Ker_begin 63 = .ok (.iload_n 1, 1) := by decide +kernel
theorem d_Ker_begin_64 : decode b_Ker_begin 64 = .ok (.new 27, 3) := by decide +kernel
theorem d_Ker_begin_67 : decode b_Ker_begin 67 = .ok (.dup, 1) := by decide +kernel
theorem d_Ker_begin_68 : decode b_Ker_begin 68 = .ok (.iload_n 1, 1) := by decide +kernel
theorem d_Ker_begin_69 : decode b_Ker_begin 69 = .ok (.invokespecial 88, 3) := by decide +kernel
theorem d_Ker_begin_72 : decode b_Ker_begin 72 = .ok (.aastore, 1) := by decide +kernel
theorem d_Ker_begin_73 : decode b_Ker_begin 73 = .ok (.aload_n 0, 1) := by decide +kernel
theorem d_Ker_begin_74 : decode b_Ker_begin 74 = .ok (.getfield 23, 3) := by decide +kernel
theorem d_Ker_begin_77 : decode b_Ker_begin 77 = .ok (.iload_n 1, 1) := by decide +kernel
theorem d_Ker_begin_78 : decode b_Ker_begin 78 = .ok (.aload_n 0, 1) := by decide +kernel
theorem d_Ker_begin_79 : decode b_Ker_begin 79 = .ok (.getfield 29, 3) := by decide +kernel
theorem d_Ker_begin_82 : decode b_Ker_begin 82 = .ok (.iload_n 1, 1) := by decide +kernel
theorem d_Ker_begin_83 : decode b_Ker_begin 83 = .ok (.aaload, 1) := by decide +kernel
theorem d_Ker_begin_84 : decode b_Ker_begin 84 = .ok (.aastore, 1) := by decide +kernel
theorem d_Ker_begin_85 : decode b_Ker_begin 85 = .ok (.aload_n 0, 1) := by decide +kernel
theorem d_Ker_begin_86 : decode b_Ker_begin 86 = .ok (.getfield 23, 3) := by decide +kernel
theorem d_Ker_begin_89 : decode b_Ker_begin 89 = .ok (.iload_n 1, 1) := by decide +kernel
theorem d_Ker_begin_90 : decode b_Ker_begin 90 = .ok (.aaload, 1) := by decide +kernel
theorem d_Ker_begin_91 : decode b_Ker_begin 91 = .ok (.aload_n 2, 1) := by decide +kernel
theorem d_Ker_begin_92 : decode b_Ker_begin 92 = .ok (.iload_n 3, 1) := by decide +kernel
theorem d_Ker_begin_93 : decode b_Ker_begin 93 = .ok (.aload_n 0, 1) := by decide +kernel
theorem d_Ker_begin_94 : decode b_Ker_begin 94 = .ok (.getfield 48, 3) := by decide +kernel
theorem d_Ker_begin_97 : decode b_Ker_begin 97 = .ok (.aload_n 0, 1) := by decide +kernel
theorem d_Ker_begin_98 : decode b_Ker_begin 98 = .ok (.getfield 52, 3) := by decide +kernel
theorem d_Ker_begin_101 : decode b_Ker_begin 101 = .ok (.invokevirtual 89, 3) := by decide +kernel
theorem d_Ker_begin_104 : decode b_Ker_begin 104 = .ok (.return_, 1) := by decide +kernel
theorem q_Ker_begin : px_y y_Ker_begin 3 := by unfold px_y; decide +kernel
set_option maxHeartbeats 4000000 in
set_option maxRecDepth 100000 in
theorem c_k_begin (l : Launch) (D : va_G) (cs : Nat → ClassId) (hk : Nat) (kr : Nat → Nat) (pq : Nat → Option Nat) (kf : Nat → Int32) (PV : Nat → Pvs) (pz : Nat → Option Nat) (tq : Nat → Option Nat) (rq : Nat → Option Nat) (ka : Nat → Nat → Int32) (TR : Nat → Nat → Nat) (TO : Nat → Option Nat) (TF : Nat → Nat → Int32) (TA : Nat → Nat → Nat → Int32) (RR : Nat → Nat → Nat) (RM : Nat → Option Nat) (RW : Nat → Option Nat) (RF : Nat → Nat → Int32) (RA : Nat → Nat → Nat → Int32) (RC : Nat → Nat → Int32) (p0 p1 : Int32) (jp hp : Nat) (g0 : 0 ≤ p0.toInt) (g1 : p0.toInt ≤ 12) (g2 : 0 ≤ (kf 8).toInt) (g3 : (kf 8).toInt ≤ 100) (hki : KnI pq PV pz tq rq TO TF TA RW RF) (hro : RoI ka) (hrm : RmI rq RM) (hjp : jp < 8) (hjq : pq jp = some hp) : MgV l y_Ker_begin b_Ker_begin 4 D cs 4 160 ((5 * ndS 13 tq + 4 * ndS 13 rq + ndS 13 RM)) ((9804 * ndS 13 tq + 342 * ndS 13 rq + 36864 * ndS 13 RM)) [.ref hk, .int p0, .ref hp, .int p1] [wd_Ker cs hk kr (fun _ => none) kf ka (gKe pq pz tq rq), fm 13 (fTx cs tq TR TO TF TA), fm 13 (fRw cs rq RR RM RW RF RA RC), fm 8 (fPp cs pq PV)] (fun _ => True) (fun ps => ∃ (pz' : Nat → Option Nat) (tq' : Nat → Option Nat) (rq' : Nat → Option Nat) (ka' : Nat → Nat → Int32) (TR' : Nat → Nat → Nat) (TO' : Nat → Option Nat) (TF' : Nat → Nat → Int32) (TA' : Nat → Nat → Nat → Int32) (RR' : Nat → Nat → Nat) (RM' : Nat → Option Nat) (RW' : Nat → Option Nat) (RF' : Nat → Nat → Int32) (RA' : Nat → Nat → Nat → Int32) (RC' : Nat → Nat → Int32), (ps.1 = [wd_Ker cs hk kr (fun _ => none) kf ka' (gKe pq pz' tq' rq'), fm 13 (fTx cs tq' TR' TO' TF' TA'), fm 13 (fRw cs rq' RR' RM' RW' RF' RA' RC'), fm 8 (fPp cs pq PV)]) ∧ (KpQ p0.toNatClampNeg tq TO rq RW tq' TO' rq' RW') ∧ (KpG p0.toNatClampNeg RF RF') ∧ (KnI pq PV pz' tq' rq' TO' TF' TA' RW' RF') ∧ (RoI ka') ∧ (RmI rq' RM') ∧ (ps.2.1 + (5 * ndS 13 tq' + 4 * ndS 13 rq' + ndS 13 RM') ≤ 5 * ndS 13 tq + 4 * ndS 13 rq + ndS 13 RM) ∧ (ps.2.2 + (9804 * ndS 13 tq' + 342 * ndS 13 rq' + 36864 * ndS 13 RM') ≤ 9804 * ndS 13 tq + 342 * ndS 13 rq + 36864 * ndS 13 RM)) := by
  refine pg_enter (by decide) (Nat.le_of_ble_eq_true rfl) ?_
  intro p e s m below meth c A ls hAe S hr hlk hnm hA hT hX hw hl
  replace hl : lv_has ls 4 [(0, .ref hk), (1, .int p0), (2, .ref hp), (3, .int p1)] := hl
  have lp0 := Int32.le_toInt p0
  have up0 := Int32.toInt_lt p0
  have lp1 := Int32.le_toInt p1
  have up1 := Int32.toInt_lt p1
  have cst0 : (0 : Int32).toInt = 0 := rfl
  refine lv_aload_n S.x S.b d_Ker_begin_0 rfl (lv_at hl 2 rfl) ?_
  refine lv_ifnonnull (tgt := 5) S.x S.b d_Ker_begin_1 (by decide) ?_
  refine lv_aload_n S.x S.b d_Ker_begin_5 rfl (lv_at hl 2 rfl) ?_
  have hw : pw D A s.heap _ _ [wd_Ker cs hk kr (fun _ => none) kf ka (gKe pq pz tq rq), fm 13 (fTx cs tq TR TO TF TA), fm 13 (fRw cs rq RR RM RW RF RA RC), fo 8 (fPp cs pq PV) jp, wd_Prg cs hp (PV jp).r (fun k => if k = 2 then (PV jp).o else none) (PV jp).f (fun _ _ => 0) (fun _ _ => none), nA cs (PV jp).o (PV jp).fn (PV jp).fd, [(((PV jp).r 1), .inl (cs 0, (PV jp).cn, .inl (PV jp).cd))]] := fpp_out (pr := [wd_Ker cs hk kr (fun _ => none) kf ka (gKe pq pz tq rq), fm 13 (fTx cs tq TR TO TF TA), fm 13 (fRw cs rq RR RM RW RF RA RC)]) hw hjp hjq
  have hpv1 := hki.1 jp hjp _ hjq
  have hpn1 := hpv1.1
  have hpz1 := hpv1.2.1
  refine px_get S k_Prg hT hw 4 0 0 (v := .int ((PV jp).f 0)) rfl rfl rfl (by decide) m2_98 d_Ker_begin_6 ?_
  refine lv_if_eq (tgt := 50) S.x S.b d_Ker_begin_9 (by decide) (fun c2 => ?_) (fun c2 => ?_)
  · have nc2 : ((PV jp).f 0).toInt = (0 : Int) := (i_eq (x := ((PV jp).f 0)) (y := 0)).mp c2
    refine lv_aload_n S.x S.b d_Ker_begin_50 rfl (lv_at hl 0 rfl) ?_
    have hst := (hpv1.2.2 (by omega)).2.2
    refine px_get S k_Ker hT hw 0 0 3 (v := .ref (kr 3)) rfl rfl rfl (by decide) m2_224 d_Ker_begin_51 ?_
    refine lv_iload_n S.x S.b d_Ker_begin_54 rfl (lv_at hl 1 rfl) ?_
    refine px_aald S hT hw 0 4 7 (n := 13) (f := tq) rfl rfl rfl (x := p0) (vp_in_iff.mpr (by first | exact oz_03ccb9bf57 g0 g1 | (constructor <;> omega))) d_Ker_begin_55 ?_
    refine lq_top (fun y3 hy3 => ?_)
    refine lq_ifnonnull (x := y3) (tgt := 73) S.x S.b d_Ker_begin_56 (by decide) (fun q5 c4 => ?_) (fun c4 => ?_)
    ·
      subst c4
      have nd0_c4 := nd_1 q5
      have hc6 := cl_nat (x := p0) (by first | exact g0 | omega)
      have hi6 : p0.toNatClampNeg < 13 := by first | exact oz_52b7a52644 hc6 g1 | omega
      have hr6 := hy3.symm
      refine lv_aload_n S.x S.b d_Ker_begin_73 rfl (lv_at hl 0 rfl) ?_
      refine px_get S k_Ker hT hw 0 0 2 (v := .ref (kr 2)) rfl rfl rfl (by decide) m2_222 d_Ker_begin_74 ?_
      refine lv_iload_n S.x S.b d_Ker_begin_77 rfl (lv_at hl 1 rfl) ?_
      refine lv_aload_n S.x S.b d_Ker_begin_78 rfl (lv_at hl 0 rfl) ?_
      refine px_get S k_Ker hT hw 0 0 3 (v := .ref (kr 3)) rfl rfl rfl (by decide) m2_224 d_Ker_begin_79 ?_
      refine lv_iload_n S.x S.b d_Ker_begin_82 rfl (lv_at hl 1 rfl) ?_
      refine px_aaldS S hT hw 0 4 7 (n := 13) (f := tq) rfl rfl rfl (x := p0) (vp_in_iff.mpr (by first | exact oz_03ccb9bf57 g0 g1 | (constructor <;> omega))) (sk := q5) hr6 d_Ker_begin_83 ?_
      have hw : pw D A s.heap _ _ [wd_Ker cs hk kr (fun _ => none) kf ka (gKe pq pz tq rq), fm 13 (fRw cs rq RR RM RW RF RA RC), fo 8 (fPp cs pq PV) jp, wd_Prg cs hp (PV jp).r (fun k => if k = 2 then (PV jp).o else none) (PV jp).f (fun _ _ => 0) (fun _ _ => none), nA cs (PV jp).o (PV jp).fn (PV jp).fd, [(((PV jp).r 1), .inl (cs 0, (PV jp).cn, .inl (PV jp).cd))], fm 13 (fTx cs tq TR TO TF TA)] := hw.sub [0, 2, 3, 4, 5, 6, 1] rfl rfl
      have hw : pw D A s.heap _ _ [wd_Ker cs hk kr (fun _ => none) kf ka (gKe pq pz tq rq), fm 13 (fRw cs rq RR RM RW RF RA RC), fo 8 (fPp cs pq PV) jp, wd_Prg cs hp (PV jp).r (fun k => if k = 2 then (PV jp).o else none) (PV jp).f (fun _ _ => 0) (fun _ _ => none), nA cs (PV jp).o (PV jp).fn (PV jp).fd, [(((PV jp).r 1), .inl (cs 0, (PV jp).cn, .inl (PV jp).cd))], fo 13 (fTx cs tq TR TO TF TA) p0.toNatClampNeg, wd_Txp cs q5 (TR p0.toNatClampNeg) (fun k => if k = 3 then (TO p0.toNatClampNeg) else none) (TF p0.toNatClampNeg) (TA p0.toNatClampNeg) (fun _ _ => none)] := ftx_out (pr := [wd_Ker cs hk kr (fun _ => none) kf ka (gKe pq pz tq rq), fm 13 (fRw cs rq RR RM RW RF RA RC), fo 8 (fPp cs pq PV) jp, wd_Prg cs hp (PV jp).r (fun k => if k = 2 then (PV jp).o else none) (PV jp).f (fun _ _ => 0) (fun _ _ => none), nA cs (PV jp).o (PV jp).fn (PV jp).fd, [(((PV jp).r 1), .inl (cs 0, (PV jp).cn, .inl (PV jp).cd))]]) hw hi6 hr6 rfl
      have htn7 : TxN p0.toNatClampNeg (TF p0.toNatClampNeg) (TA p0.toNatClampNeg) := hki.2.1 p0.toNatClampNeg hi6 _ hr6
      obtain ⟨lk, ⟨i2, i3⟩, ⟨i4, i5⟩, ⟨i6, i7⟩, i8, ⟨i9, i11⟩, i10, hrt⟩ := htn7.1
      have hid7 := htn7.2.1
      have hch7 := htn7.2.2
      unfold KcI at hch7
      refine px_astO S hT hw 0 3 6 7 0 (f := pz) rfl rfl rfl m15_12n rfl rfl rfl (x := p0) (vp_in_iff.mpr (by constructor <;> omega)) d_Ker_begin_84 (w' := wd_Ker cs hk kr (fun _ => none) kf ka (gKe pq (va_up pz p0.toNatClampNeg (some q5)) tq rq)) (ps' := [wd_Ker cs hk kr (fun _ => none) kf ka (gKe pq (va_up pz p0.toNatClampNeg (some q5)) tq rq), fm 13 (fRw cs rq RR RM RW RF RA RC), fo 8 (fPp cs pq PV) jp, wd_Prg cs hp (PV jp).r (fun k => if k = 2 then (PV jp).o else none) (PV jp).f (fun _ _ => 0) (fun _ _ => none), nA cs (PV jp).o (PV jp).fn (PV jp).fd, [(((PV jp).r 1), .inl (cs 0, (PV jp).cn, .inl (PV jp).cd))], fo 13 (fTx cs tq TR TO TF TA) p0.toNatClampNeg, wd_Txp cs q5 (TR p0.toNatClampNeg) (fun k => if k = 3 then (TO p0.toNatClampNeg) else none) (TF p0.toNatClampNeg) (TA p0.toNatClampNeg) (fun _ _ => none)]) rfl rfl (fun H locs hw => ?_)
      refine lv_aload_n S.x S.b d_Ker_begin_85 rfl (lv_at hl 0 rfl) ?_
      refine px_get S k_Ker hT hw 0 0 2 (v := .ref (kr 2)) rfl rfl rfl (by decide) m2_222 d_Ker_begin_86 ?_
      refine lv_iload_n S.x S.b d_Ker_begin_89 rfl (lv_at hl 1 rfl) ?_
      refine px_aaldS S hT hw 0 3 6 (n := 13) (f := (va_up pz p0.toNatClampNeg (some q5))) rfl rfl rfl (x := p0) (vp_in_iff.mpr (by first | exact oz_03ccb9bf57 g0 g1 | (constructor <;> omega))) (sk := q5) va_up_s d_Ker_begin_90 ?_
      refine lv_aload_n S.x S.b d_Ker_begin_91 rfl (lv_at hl 2 rfl) ?_
      refine lv_iload_n S.x S.b d_Ker_begin_92 rfl (lv_at hl 3 rfl) ?_
      refine lv_aload_n S.x S.b d_Ker_begin_93 rfl (lv_at hl 0 rfl) ?_
      refine px_get S k_Ker hT hw 0 0 8 (v := .int (kf 8)) rfl rfl rfl (by decide) m2_229 d_Ker_begin_94 ?_
      refine lv_aload_n S.x S.b d_Ker_begin_97 rfl (lv_at hl 0 rfl) ?_
      refine px_get S k_Ker hT hw 0 0 9 (v := .int (kf 9)) rfl rfl rfl (by decide) m2_230 d_Ker_begin_98 ?_
      have hw : pw D A s.heap _ _ [wd_Ker cs hk kr (fun _ => none) kf ka (gKe pq (va_up pz p0.toNatClampNeg (some q5)) tq rq), fm 13 (fRw cs rq RR RM RW RF RA RC), fo 8 (fPp cs pq PV) jp, nA cs (PV jp).o (PV jp).fn (PV jp).fd, [(((PV jp).r 1), .inl (cs 0, (PV jp).cn, .inl (PV jp).cd))], fo 13 (fTx cs tq TR TO TF TA) p0.toNatClampNeg, wd_Txp cs q5 (TR p0.toNatClampNeg) (fun k => if k = 3 then (TO p0.toNatClampNeg) else none) (TF p0.toNatClampNeg) (TA p0.toNatClampNeg) (fun _ _ => none), wd_Prg cs hp (PV jp).r (fun k => if k = 2 then (PV jp).o else none) (PV jp).f (fun _ _ => 0) (fun _ _ => none)] := hw.sub [0, 1, 2, 4, 5, 6, 7, 3] rfl rfl
      refine px_callv (pr := [wd_Ker cs hk kr (fun _ => none) kf ka (gKe pq (va_up pz p0.toNatClampNeg (some q5)) tq rq), fm 13 (fRw cs rq RR RM RW RF RA RC), fo 8 (fPp cs pq PV) jp, nA cs (PV jp).o (PV jp).fn (PV jp).fd, [(((PV jp).r 1), .inl (cs 0, (PV jp).cn, .inl (PV jp).cd))], fo 13 (fTx cs tq TR TO TF TA) p0.toNatClampNeg]) (px_runA (As := [.ref hp, .int p1, .int (kf 8), .int (kf 9)]) (rest := []) S (c_Txp_begin l D cs q5 (TR p0.toNatClampNeg) (fun _ _ => none) (TF p0.toNatClampNeg) (TA p0.toNatClampNeg) (TO p0.toNatClampNeg) hp (PV jp).r (PV jp).o (PV jp).f p1 (kf 8) (kf 9)  (show TxOk ((TF p0.toNatClampNeg) 4) ((TF p0.toNatClampNeg) 5) ((TF p0.toNatClampNeg) 8) ((TF p0.toNatClampNeg) 9) ((TF p0.toNatClampNeg) 17) ((TF p0.toNatClampNeg) 21) ((TA p0.toNatClampNeg) 2) from ⟨(by first | exact lk | exact lk_eq lk (by omega) | exact lk_mk (by omega)), ⟨by omega, by omega⟩, ⟨by omega, by omega⟩, ⟨by omega, by omega⟩, by omega, ⟨by omega, by omega⟩, by omega, hrt⟩) (show 0 ≤ (kf 8).toInt from by first | exact g2 | omega) (show (kf 8).toInt ≤ 100 from by first | exact g3 | omega) hst _) hT (pr := [wd_Ker cs hk kr (fun _ => none) kf ka (gKe pq (va_up pz p0.toNatClampNeg (some q5)) tq rq), fm 13 (fRw cs rq RR RM RW RF RA RC), fo 8 (fPp cs pq PV) jp, nA cs (PV jp).o (PV jp).fn (PV jp).fd, [(((PV jp).r 1), .inl (cs 0, (PV jp).cn, .inl (PV jp).cd))], fo 13 (fTx cs tq TR TO TF TA) p0.toNatClampNeg]) (pcs := [wd_Txp cs q5 (TR p0.toNatClampNeg) (fun k => if k = 3 then (TO p0.toNatClampNeg) else none) (TF p0.toNatClampNeg) (TA p0.toNatClampNeg) (fun _ _ => none), wd_Prg cs hp (PV jp).r (fun k => if k = 2 then (PV jp).o else none) (PV jp).f (fun _ _ => 0) (fun _ _ => none)]) hw px_X.tt (C := "HomeSystem$TextProcess") (owner := "HomeSystem$AnyProcess") (x := ⟨"HomeSystem$AnyProcess", "begin", "(LHomeSystem$Program;III)V"⟩) (px_recv hT hw 6 0 rfl rfl rfl) m7_46 m7_29 m7_31 m7_45 m7_44 m1_35 m7_30n ⟨by decide, by decide⟩ rfl q_Txp_begin ⟨Nat.le_of_ble_eq_true rfl, Nat.le_of_ble_eq_true rfl⟩ hl.1 rfl (Nat.le_of_ble_eq_true rfl) d_Ker_begin_101 ⟨show 0 + 0 ≤ (5 * ndS 13 tq + 4 * ndS 13 rq + ndS 13 RM) from by first | with_reducible rfl | with_reducible assumption | omega, show 0 + 0 ≤ (9804 * ndS 13 tq + 342 * ndS 13 rq + 36864 * ndS 13 RM) from by first | with_reducible rfl | with_reducible assumption | omega⟩) hw hA (fun p11 H locs hp11 hw => ?_)
      obtain ⟨f8, a9, o310, rfl, h18, e13, e14, e15, e16, e17⟩ := hp11
      obtain ⟨lk, ⟨i2, i3⟩, ⟨i4, i5⟩, ⟨i6, i7⟩, i8, ⟨i9, i11⟩, i10, hrt⟩ := h18
      replace e13 : (f8 15).toInt = ((TF p0.toNatClampNeg) 15).toInt := e13
      replace e14 : (f8 17).toInt = 0 := e14
      replace e15 : (f8 20).toInt = 0 := e15
      replace e16 : (f8 21).toInt = 0 := e16
      subst e17
      replace hw : pw D A s.heap H locs [wd_Ker cs hk kr (fun _ => none) kf ka (gKe pq (va_up pz p0.toNatClampNeg (some q5)) tq rq), fm 13 (fRw cs rq RR RM RW RF RA RC), fo 8 (fPp cs pq PV) jp, nA cs (PV jp).o (PV jp).fn (PV jp).fd, [(((PV jp).r 1), .inl (cs 0, (PV jp).cn, .inl (PV jp).cd))], fo 13 (fTx cs tq TR TO TF TA) p0.toNatClampNeg, wd_Txp cs q5 (TR p0.toNatClampNeg) (fun k => if k = 3 then (some hp) else none) f8 a9 (fun _ _ => none), wd_Prg cs hp (PV jp).r (fun k => if k = 2 then (PV jp).o else none) (PV jp).f (fun _ _ => 0) (fun _ _ => none)] := hw
      have hw : pw D A s.heap _ _ [wd_Ker cs hk kr (fun _ => none) kf ka (gKe pq (va_up pz p0.toNatClampNeg (some q5)) tq rq), fm 13 (fRw cs rq RR RM RW RF RA RC), fo 13 (fTx cs tq TR TO TF TA) p0.toNatClampNeg, wd_Txp cs q5 (TR p0.toNatClampNeg) (fun k => if k = 3 then (some hp) else none) f8 a9 (fun _ _ => none), fo 8 (fPp cs pq PV) jp, wd_Prg cs hp (PV jp).r (fun k => if k = 2 then (PV jp).o else none) (PV jp).f (fun _ _ => 0) (fun _ _ => none), nA cs (PV jp).o (PV jp).fn (PV jp).fd, [(((PV jp).r 1), .inl (cs 0, (PV jp).cn, .inl (PV jp).cd))]] := hw.sub [0, 1, 5, 6, 2, 7, 3, 4] rfl rfl
      have hw : pw D A s.heap _ _ [wd_Ker cs hk kr (fun _ => none) kf ka (gKe pq (va_up pz p0.toNatClampNeg (some q5)) tq rq), fm 13 (fRw cs rq RR RM RW RF RA RC), fo 13 (fTx cs tq TR TO TF TA) p0.toNatClampNeg, wd_Txp cs q5 (TR p0.toNatClampNeg) (fun k => if k = 3 then (some hp) else none) f8 a9 (fun _ _ => none), fm 8 (fPp cs pq PV)] := fpp_back (pr := [wd_Ker cs hk kr (fun _ => none) kf ka (gKe pq (va_up pz p0.toNatClampNeg (some q5)) tq rq), fm 13 (fRw cs rq RR RM RW RF RA RC), fo 13 (fTx cs tq TR TO TF TA) p0.toNatClampNeg, wd_Txp cs q5 (TR p0.toNatClampNeg) (fun k => if k = 3 then (some hp) else none) f8 a9 (fun _ _ => none)]) hw hjp hjq
      have hw : pw D A s.heap _ _ [wd_Ker cs hk kr (fun _ => none) kf ka (gKe pq (va_up pz p0.toNatClampNeg (some q5)) tq rq), fm 13 (fRw cs rq RR RM RW RF RA RC), fm 8 (fPp cs pq PV), fo 13 (fTx cs tq TR TO TF TA) p0.toNatClampNeg, wd_Txp cs q5 (TR p0.toNatClampNeg) (fun k => if k = 3 then (some hp) else none) f8 a9 (fun _ _ => none)] := hw.sub [0, 1, 4, 2, 3] rfl rfl
      have hw := ftx_in (pr := [wd_Ker cs hk kr (fun _ => none) kf ka (gKe pq (va_up pz p0.toNatClampNeg (some q5)) tq rq), fm 13 (fRw cs rq RR RM RW RF RA RC), fm 8 (fPp cs pq PV)]) hw hi6 hr6
      obtain ⟨TF19, hu_TF19⟩ : ∃ y : Nat → Nat → Int32, y = va_up TF p0.toNatClampNeg f8 := ⟨_, rfl⟩
      obtain ⟨TA20, hu_TA20⟩ : ∃ y : Nat → Nat → Nat → Int32, y = va_up TA p0.toNatClampNeg a9 := ⟨_, rfl⟩
      obtain ⟨TO21, hu_TO21⟩ : ∃ y : Nat → Option Nat, y = va_up TO p0.toNatClampNeg (some hp) := ⟨_, rfl⟩
      have hw : pw D A s.heap _ _ [wd_Ker cs hk kr (fun _ => none) kf ka (gKe pq (va_up pz p0.toNatClampNeg (some q5)) tq rq), fm 13 (fRw cs rq RR RM RW RF RA RC), fm 8 (fPp cs pq PV), fm 13 (fTx cs tq TR TO21 TF19 TA20)] := (by rw [hu_TF19, hu_TA20, hu_TO21]; exact hw)
      have hbg := hki.bgT (p := p0.toNatClampNeg) (h := q5) (fun _ _ => rfl) hr6 hjp hjq (by omega) (show TxN p0.toNatClampNeg f8 a9 from ⟨(show TxOk (f8 4) (f8 5) (f8 8) (f8 9) (f8 17) (f8 21) (a9 2) from ⟨(by first | exact lk | exact lk_eq lk (by omega) | exact lk_mk (by omega)), ⟨by omega, by omega⟩, ⟨by omega, by omega⟩, ⟨by omega, by omega⟩, by omega, ⟨by omega, by omega⟩, by omega, hrt⟩), (show ((f8 15).toInt) = ((p0.toNatClampNeg : Nat) : Int) from by first | with_reducible rfl | with_reducible assumption | omega), (show 0 ≤ (f8 20).toInt ∧ (f8 20).toInt ≤ 3 ∧ ((f8 20).toInt = 0 ∨ 3 * ((p0.toNatClampNeg : Nat) : Int) + (f8 20).toInt ≤ 12) from by first | with_reducible rfl | with_reducible assumption | omega)⟩)
      have hko : KpQ p0.toNatClampNeg tq TO rq RW tq TO21 rq RW := (by rw [hu_TO21]; have q8 := hbg.2; exact q8)
      have hki : KnI pq PV (va_up pz p0.toNatClampNeg (some q5)) tq rq TO21 TF19 TA20 RW RF := (by rw [hu_TF19, hu_TA20, hu_TO21]; exact hbg.1)
      have hz21_TF19 : (TF19 p0.toNatClampNeg 21).toInt = (f8 21).toInt := (by rw [hu_TF19, va_up_s]; try rfl)
      have hw : pw D A s.heap _ _ [wd_Ker cs hk kr (fun _ => none) kf ka (gKe pq (va_up pz p0.toNatClampNeg (some q5)) tq rq), fm 13 (fTx cs tq TR TO21 TF19 TA20), fm 13 (fRw cs rq RR RM RW RF RA RC), fm 8 (fPp cs pq PV)] := hw.sub [0, 3, 1, 2] rfl rfl
      exact pg_vret S hr hlk hAe hw (show 0 ≤ (5 * ndS 13 tq + 4 * ndS 13 rq + ndS 13 RM) from by first | exact oz_86e49526c7 | omega) (show 0 ≤ (9804 * ndS 13 tq + 342 * ndS 13 rq + 36864 * ndS 13 RM) from by first | exact oz_fc3b58e969 | omega) (⟨(va_up pz p0.toNatClampNeg (some q5)), tq, rq, ka, TR, TO21, TF19, TA20, RR, RM, RW, RF, RA, RC, rfl, (show KpQ p0.toNatClampNeg tq TO rq RW tq TO21 rq RW from hko), (show KpG p0.toNatClampNeg RF RF from (fun _ _ => rfl)), (show KnI pq PV (va_up pz p0.toNatClampNeg (some q5)) tq rq TO21 TF19 TA20 RW RF from hki), (show RoI ka from hro), (show RmI rq RM from hrm), (show 0 + (5 * ndS 13 tq + 4 * ndS 13 rq + ndS 13 RM) ≤ 5 * ndS 13 tq + 4 * ndS 13 rq + ndS 13 RM from by first | exact oz_9d19b050ad | omega), (show 0 + (9804 * ndS 13 tq + 342 * ndS 13 rq + 36864 * ndS 13 RM) ≤ 9804 * ndS 13 tq + 342 * ndS 13 rq + 36864 * ndS 13 RM from by first | exact oz_b5592d0ae7 | omega)⟩) d_Ker_begin_104
    ·
      subst c4
      have nd0_c4 := nd_0
      have hc22 := cl_nat (x := p0) (by first | exact g0 | omega)
      have hi22 : p0.toNatClampNeg < 13 := by first | exact oz_52b7a52644 hc22 g1 | omega
      have hr22 := hy3.symm
      have hnp22 := ndS_pos 13 tq p0.toNatClampNeg hi22 hr22
      refine lv_aload_n S.x S.b d_Ker_begin_59 rfl (lv_at hl 0 rfl) ?_
      refine px_get S k_Ker hT hw 0 0 3 (v := .ref (kr 3)) rfl rfl rfl (by decide) m2_224 d_Ker_begin_60 ?_
      refine lv_iload_n S.x S.b d_Ker_begin_63 rfl (lv_at hl 1 rfl) ?_
      refine px_new S k_Txp hT hw hA m2_214 m6_208 m1_35 (fs := [.null, .null, .null, .null, .int 0, .int 0, .int 0, .int 0, .int 0, .int 0, .int 0, .int 0, .int 0, .int 0, .int 0, .int 0, .null, .int 0, .int 0, .int 0, .int 0, .int 0, .int 0, .int 0, .int 0]) (by decide +kernel) (show 0 + 1 ≤ (5 * ndS 13 tq + 4 * ndS 13 rq + ndS 13 RM) from by first | with_reducible rfl | with_reducible assumption | omega) (show 0 + 25 ≤ (9804 * ndS 13 tq + 342 * ndS 13 rq + 36864 * ndS 13 RM) from by first | with_reducible rfl | with_reducible assumption | omega) d_Ker_begin_64 (fun q23 H hw => ?_)
      replace hw : pw D A s.heap H _ [wd_Ker cs hk kr (fun _ => none) kf ka (gKe pq pz tq rq), fm 13 (fTx cs tq TR TO TF TA), fm 13 (fRw cs rq RR RM RW RF RA RC), fo 8 (fPp cs pq PV) jp, wd_Prg cs hp (PV jp).r (fun k => if k = 2 then (PV jp).o else none) (PV jp).f (fun _ _ => 0) (fun _ _ => none), nA cs (PV jp).o (PV jp).fn (PV jp).fd, [(((PV jp).r 1), .inl (cs 0, (PV jp).cn, .inl (PV jp).cd))], [(q23, .inr (10, [.null, .null, .null, .null, .int 0, .int 0, .int 0, .int 0, .int 0, .int 0, .int 0, .int 0, .int 0, .int 0, .int 0, .int 0, .null, .int 0, .int 0, .int 0, .int 0, .int 0, .int 0, .int 0, .int 0]))]] := hw
      refine lv_dup S.x S.b d_Ker_begin_67 rfl ?_
      refine lv_iload_n S.x S.b d_Ker_begin_68 rfl (lv_at hl 1 rfl) ?_
      refine px_callv (pr := [wd_Ker cs hk kr (fun _ => none) kf ka (gKe pq pz tq rq), fm 13 (fTx cs tq TR TO TF TA), fm 13 (fRw cs rq RR RM RW RF RA RC), fo 8 (fPp cs pq PV) jp, wd_Prg cs hp (PV jp).r (fun k => if k = 2 then (PV jp).o else none) (PV jp).f (fun _ _ => 0) (fun _ _ => none), nA cs (PV jp).o (PV jp).fn (PV jp).fd, [(((PV jp).r 1), .inl (cs 0, (PV jp).cn, .inl (PV jp).cd))]]) (px_runI (As := [.int p0]) (rest := [.ref q23, .int p0, .ref (kr 3)]) S (c_Txp_init l D cs q23 p0 _) hT (pr := [wd_Ker cs hk kr (fun _ => none) kf ka (gKe pq pz tq rq), fm 13 (fTx cs tq TR TO TF TA), fm 13 (fRw cs rq RR RM RW RF RA RC), fo 8 (fPp cs pq PV) jp, wd_Prg cs hp (PV jp).r (fun k => if k = 2 then (PV jp).o else none) (PV jp).f (fun _ _ => 0) (fun _ _ => none), nA cs (PV jp).o (PV jp).fn (PV jp).fd, [(((PV jp).r 1), .inl (cs 0, (PV jp).cn, .inl (PV jp).cd))]]) (pcs := [[(q23, .inr (10, [.null, .null, .null, .null, .int 0, .int 0, .int 0, .int 0, .int 0, .int 0, .int 0, .int 0, .int 0, .int 0, .int 0, .int 0, .null, .int 0, .int 0, .int 0, .int 0, .int 0, .int 0, .int 0, .int 0]))]]) hw px_X.tt m6_211 m6_209 m6_210 m1_35 rfl q_Txp_init ⟨Nat.le_of_ble_eq_true rfl, Nat.le_of_ble_eq_true rfl⟩ hl.1 rfl (Nat.le_of_ble_eq_true rfl) d_Ker_begin_69 ⟨show (0 + 1) + 4 ≤ (5 * ndS 13 tq + 4 * ndS 13 rq + ndS 13 RM) from by first | with_reducible rfl | with_reducible assumption | omega, show (0 + 25) + 9779 ≤ (9804 * ndS 13 tq + 342 * ndS 13 rq + 36864 * ndS 13 RM) from by first | with_reducible rfl | with_reducible assumption | omega⟩) hw hA (fun p26 H locs hp26 hw => ?_)
      obtain ⟨rj24, hfl25⟩ := hp26
      have hw := hw.eq (qs := [wd_Ker cs hk kr (fun _ => none) kf ka (gKe pq pz tq rq), fm 13 (fTx cs tq TR TO TF TA), fm 13 (fRw cs rq RR RM RW RF RA RC), fo 8 (fPp cs pq PV) jp, wd_Prg cs hp (PV jp).r (fun k => if k = 2 then (PV jp).o else none) (PV jp).f (fun _ _ => 0) (fun _ _ => none), nA cs (PV jp).o (PV jp).fn (PV jp).fd, [(((PV jp).r 1), .inl (cs 0, (PV jp).cn, .inl (PV jp).cd))], wd_Txp cs q23 rj24 (fun _ => none) (upd (fun _ => 0) 15 p0) (fun _ _ => 0) (fun _ _ => none)]) (by rw [List.flatten_append, hfl25]; simp only [List.flatten_cons, List.flatten_nil, List.append_nil, List.append_assoc])
      have hw := hw.eq (qs := [wd_Ker cs hk kr (fun _ => none) kf ka (gKe pq pz tq rq), fm 13 (fTx cs tq TR TO TF TA), fm 13 (fRw cs rq RR RM RW RF RA RC), fo 8 (fPp cs pq PV) jp, wd_Prg cs hp (PV jp).r (fun k => if k = 2 then (PV jp).o else none) (PV jp).f (fun _ _ => 0) (fun _ _ => none), nA cs (PV jp).o (PV jp).fn (PV jp).fd, [(((PV jp).r 1), .inl (cs 0, (PV jp).cn, .inl (PV jp).cd))], wd_Txp cs q23 rj24 (fun k => if k = 3 then none else none) (upd (upd (upd (upd (upd (upd (upd (upd (upd (upd (upd (upd (upd (upd (upd (upd (upd (upd (upd (upd (fun _ => 0) 4 0) 5 0) 6 0) 7 0) 8 0) 9 0) 10 0) 11 0) 12 0) 13 0) 14 0) 15 p0) 17 0) 18 0) 19 0) 20 0) 21 0) 22 0) 23 0) 24 0) (fun _ _ => 0) (fun _ _ => none)]) rfl
      have hrt : RtOk ((fun _ _ => 0 : Nat → Nat → Int32) 2) := rt_00
      have lk : Lk 0 := lk_00
      replace hw : pw D A s.heap H locs [wd_Ker cs hk kr (fun _ => none) kf ka (gKe pq pz tq rq), fm 13 (fTx cs tq TR TO TF TA), fm 13 (fRw cs rq RR RM RW RF RA RC), fo 8 (fPp cs pq PV) jp, wd_Prg cs hp (PV jp).r (fun k => if k = 2 then (PV jp).o else none) (PV jp).f (fun _ _ => 0) (fun _ _ => none), nA cs (PV jp).o (PV jp).fn (PV jp).fd, [(((PV jp).r 1), .inl (cs 0, (PV jp).cn, .inl (PV jp).cd))], wd_Txp cs q23 rj24 (fun k => if k = 3 then none else none) (upd (upd (upd (upd (upd (upd (upd (upd (upd (upd (upd (upd (upd (upd (upd (upd (upd (upd (upd (upd (fun _ => 0) 4 0) 5 0) 6 0) 7 0) 8 0) 9 0) 10 0) 11 0) 12 0) 13 0) 14 0) 15 p0) 17 0) 18 0) 19 0) 20 0) 21 0) 22 0) 23 0) 24 0) (fun _ _ => 0) (fun _ _ => none)] := hw
      refine px_aast S hT hw 0 4 7 7 0 (n := 13) (f := tq) rfl rfl rfl rfl rfl rfl (x := p0) (vp_in_iff.mpr (by first | exact oz_03ccb9bf57 g0 g1 | (constructor <;> omega))) d_Ker_begin_72 (w' := wd_Ker cs hk kr (fun _ => none) kf ka (gKe pq pz (va_up tq p0.toNatClampNeg (some q23)) rq)) (ps' := [wd_Ker cs hk kr (fun _ => none) kf ka (gKe pq pz (va_up tq p0.toNatClampNeg (some q23)) rq), fm 13 (fTx cs tq TR TO TF TA), fm 13 (fRw cs rq RR RM RW RF RA RC), fo 8 (fPp cs pq PV) jp, wd_Prg cs hp (PV jp).r (fun k => if k = 2 then (PV jp).o else none) (PV jp).f (fun _ _ => 0) (fun _ _ => none), nA cs (PV jp).o (PV jp).fn (PV jp).fd, [(((PV jp).r 1), .inl (cs 0, (PV jp).cn, .inl (PV jp).cd))], wd_Txp cs q23 rj24 (fun k => if k = 3 then none else none) (upd (upd (upd (upd (upd (upd (upd (upd (upd (upd (upd (upd (upd (upd (upd (upd (upd (upd (upd (upd (fun _ => 0) 4 0) 5 0) 6 0) 7 0) 8 0) 9 0) 10 0) 11 0) 12 0) 13 0) 14 0) 15 p0) 17 0) 18 0) 19 0) 20 0) 21 0) 22 0) 23 0) 24 0) (fun _ _ => 0) (fun _ _ => none)]) rfl rfl (fun H locs hw => ?_)
      refine lv_aload_n S.x S.b d_Ker_begin_73 rfl (lv_at hl 0 rfl) ?_
      refine px_get S k_Ker hT hw 0 0 2 (v := .ref (kr 2)) rfl rfl rfl (by decide) m2_222 d_Ker_begin_74 ?_
      refine lv_iload_n S.x S.b d_Ker_begin_77 rfl (lv_at hl 1 rfl) ?_
      refine lv_aload_n S.x S.b d_Ker_begin_78 rfl (lv_at hl 0 rfl) ?_
      refine px_get S k_Ker hT hw 0 0 3 (v := .ref (kr 3)) rfl rfl rfl (by decide) m2_224 d_Ker_begin_79 ?_
      refine lv_iload_n S.x S.b d_Ker_begin_82 rfl (lv_at hl 1 rfl) ?_
      refine px_aaldS S hT hw 0 4 7 (n := 13) (f := (va_up tq p0.toNatClampNeg (some q23))) rfl rfl rfl (x := p0) (vp_in_iff.mpr (by first | exact oz_03ccb9bf57 g0 g1 | (constructor <;> omega))) (sk := q23) va_up_s d_Ker_begin_83 ?_
      refine px_astO S hT hw 0 3 6 7 0 (f := pz) rfl rfl rfl m15_12n rfl rfl rfl (x := p0) (vp_in_iff.mpr (by constructor <;> omega)) d_Ker_begin_84 (w' := wd_Ker cs hk kr (fun _ => none) kf ka (gKe pq (va_up pz p0.toNatClampNeg (some q23)) (va_up tq p0.toNatClampNeg (some q23)) rq)) (ps' := [wd_Ker cs hk kr (fun _ => none) kf ka (gKe pq (va_up pz p0.toNatClampNeg (some q23)) (va_up tq p0.toNatClampNeg (some q23)) rq), fm 13 (fTx cs tq TR TO TF TA), fm 13 (fRw cs rq RR RM RW RF RA RC), fo 8 (fPp cs pq PV) jp, wd_Prg cs hp (PV jp).r (fun k => if k = 2 then (PV jp).o else none) (PV jp).f (fun _ _ => 0) (fun _ _ => none), nA cs (PV jp).o (PV jp).fn (PV jp).fd, [(((PV jp).r 1), .inl (cs 0, (PV jp).cn, .inl (PV jp).cd))], wd_Txp cs q23 rj24 (fun k => if k = 3 then none else none) (upd (upd (upd (upd (upd (upd (upd (upd (upd (upd (upd (upd (upd (upd (upd (upd (upd (upd (upd (upd (fun _ => 0) 4 0) 5 0) 6 0) 7 0) 8 0) 9 0) 10 0) 11 0) 12 0) 13 0) 14 0) 15 p0) 17 0) 18 0) 19 0) 20 0) 21 0) 22 0) 23 0) 24 0) (fun _ _ => 0) (fun _ _ => none)]) rfl rfl (fun H locs hw => ?_)
      refine lv_aload_n S.x S.b d_Ker_begin_85 rfl (lv_at hl 0 rfl) ?_
      refine px_get S k_Ker hT hw 0 0 2 (v := .ref (kr 2)) rfl rfl rfl (by decide) m2_222 d_Ker_begin_86 ?_
      refine lv_iload_n S.x S.b d_Ker_begin_89 rfl (lv_at hl 1 rfl) ?_
      refine px_aaldS S hT hw 0 3 6 (n := 13) (f := (va_up pz p0.toNatClampNeg (some q23))) rfl rfl rfl (x := p0) (vp_in_iff.mpr (by first | exact oz_03ccb9bf57 g0 g1 | (constructor <;> omega))) (sk := q23) va_up_s d_Ker_begin_90 ?_
      refine lv_aload_n S.x S.b d_Ker_begin_91 rfl (lv_at hl 2 rfl) ?_
      refine lv_iload_n S.x S.b d_Ker_begin_92 rfl (lv_at hl 3 rfl) ?_
      refine lv_aload_n S.x S.b d_Ker_begin_93 rfl (lv_at hl 0 rfl) ?_
      refine px_get S k_Ker hT hw 0 0 8 (v := .int (kf 8)) rfl rfl rfl (by decide) m2_229 d_Ker_begin_94 ?_
      refine lv_aload_n S.x S.b d_Ker_begin_97 rfl (lv_at hl 0 rfl) ?_
      refine px_get S k_Ker hT hw 0 0 9 (v := .int (kf 9)) rfl rfl rfl (by decide) m2_230 d_Ker_begin_98 ?_
      have hw : pw D A s.heap _ _ [wd_Ker cs hk kr (fun _ => none) kf ka (gKe pq (va_up pz p0.toNatClampNeg (some q23)) (va_up tq p0.toNatClampNeg (some q23)) rq), fm 13 (fTx cs tq TR TO TF TA), fm 13 (fRw cs rq RR RM RW RF RA RC), fo 8 (fPp cs pq PV) jp, nA cs (PV jp).o (PV jp).fn (PV jp).fd, [(((PV jp).r 1), .inl (cs 0, (PV jp).cn, .inl (PV jp).cd))], wd_Txp cs q23 rj24 (fun k => if k = 3 then none else none) (upd (upd (upd (upd (upd (upd (upd (upd (upd (upd (upd (upd (upd (upd (upd (upd (upd (upd (upd (upd (fun _ => 0) 4 0) 5 0) 6 0) 7 0) 8 0) 9 0) 10 0) 11 0) 12 0) 13 0) 14 0) 15 p0) 17 0) 18 0) 19 0) 20 0) 21 0) 22 0) 23 0) 24 0) (fun _ _ => 0) (fun _ _ => none), wd_Prg cs hp (PV jp).r (fun k => if k = 2 then (PV jp).o else none) (PV jp).f (fun _ _ => 0) (fun _ _ => none)] := hw.sub [0, 1, 2, 3, 5, 6, 7, 4] rfl rfl
      refine px_callv (pr := [wd_Ker cs hk kr (fun _ => none) kf ka (gKe pq (va_up pz p0.toNatClampNeg (some q23)) (va_up tq p0.toNatClampNeg (some q23)) rq), fm 13 (fTx cs tq TR TO TF TA), fm 13 (fRw cs rq RR RM RW RF RA RC), fo 8 (fPp cs pq PV) jp, nA cs (PV jp).o (PV jp).fn (PV jp).fd, [(((PV jp).r 1), .inl (cs 0, (PV jp).cn, .inl (PV jp).cd))]]) (px_runA (As := [.ref hp, .int p1, .int (kf 8), .int (kf 9)]) (rest := []) S (c_Txp_begin l D cs q23 rj24 (fun _ _ => none) (upd (upd (upd (upd (upd (upd (upd (upd (upd (upd (upd (upd (upd (upd (upd (upd (upd (upd (upd (upd (fun _ => 0) 4 0) 5 0) 6 0) 7 0) 8 0) 9 0) 10 0) 11 0) 12 0) 13 0) 14 0) 15 p0) 17 0) 18 0) 19 0) 20 0) 21 0) 22 0) 23 0) 24 0) (fun _ _ => 0) none hp (PV jp).r (PV jp).o (PV jp).f p1 (kf 8) (kf 9)  (show TxOk 0 0 0 0 0 0 ((fun _ _ => 0) 2) from ⟨(by first | exact lk | exact lk_eq lk (by omega) | exact lk_mk (by omega)), ⟨by omega, by omega⟩, ⟨by omega, by omega⟩, ⟨by omega, by omega⟩, by omega, ⟨by omega, by omega⟩, by omega, hrt⟩) (show 0 ≤ (kf 8).toInt from by first | exact g2 | omega) (show (kf 8).toInt ≤ 100 from by first | exact g3 | omega) hst _) hT (pr := [wd_Ker cs hk kr (fun _ => none) kf ka (gKe pq (va_up pz p0.toNatClampNeg (some q23)) (va_up tq p0.toNatClampNeg (some q23)) rq), fm 13 (fTx cs tq TR TO TF TA), fm 13 (fRw cs rq RR RM RW RF RA RC), fo 8 (fPp cs pq PV) jp, nA cs (PV jp).o (PV jp).fn (PV jp).fd, [(((PV jp).r 1), .inl (cs 0, (PV jp).cn, .inl (PV jp).cd))]]) (pcs := [wd_Txp cs q23 rj24 (fun k => if k = 3 then none else none) (upd (upd (upd (upd (upd (upd (upd (upd (upd (upd (upd (upd (upd (upd (upd (upd (upd (upd (upd (upd (fun _ => 0) 4 0) 5 0) 6 0) 7 0) 8 0) 9 0) 10 0) 11 0) 12 0) 13 0) 14 0) 15 p0) 17 0) 18 0) 19 0) 20 0) 21 0) 22 0) 23 0) 24 0) (fun _ _ => 0) (fun _ _ => none), wd_Prg cs hp (PV jp).r (fun k => if k = 2 then (PV jp).o else none) (PV jp).f (fun _ _ => 0) (fun _ _ => none)]) hw px_X.tt (C := "HomeSystem$TextProcess") (owner := "HomeSystem$AnyProcess") (x := ⟨"HomeSystem$AnyProcess", "begin", "(LHomeSystem$Program;III)V"⟩) (px_recv hT hw 6 0 rfl rfl rfl) m7_46 m7_29 m7_31 m7_45 m7_44 m1_35 m7_30n ⟨by decide, by decide⟩ rfl q_Txp_begin ⟨Nat.le_of_ble_eq_true rfl, Nat.le_of_ble_eq_true rfl⟩ hl.1 rfl (Nat.le_of_ble_eq_true rfl) d_Ker_begin_101 ⟨show ((0 + 1) + 4) + 0 ≤ (5 * ndS 13 tq + 4 * ndS 13 rq + ndS 13 RM) from by first | with_reducible rfl | with_reducible assumption | omega, show ((0 + 25) + 9779) + 0 ≤ (9804 * ndS 13 tq + 342 * ndS 13 rq + 36864 * ndS 13 RM) from by first | with_reducible rfl | with_reducible assumption | omega⟩) hw hA (fun p31 H locs hp31 hw => ?_)
      obtain ⟨f28, a29, o330, rfl, h38, e33, e34, e35, e36, e37⟩ := hp31
      obtain ⟨lk, ⟨i2, i3⟩, ⟨i4, i5⟩, ⟨i6, i7⟩, i8, ⟨i9, i11⟩, i10, hrt⟩ := h38
      replace e33 : (f28 15).toInt = p0.toInt := e33
      replace e34 : (f28 17).toInt = 0 := e34
      replace e35 : (f28 20).toInt = 0 := e35
      replace e36 : (f28 21).toInt = 0 := e36
      subst e37
      replace hw : pw D A s.heap H locs [wd_Ker cs hk kr (fun _ => none) kf ka (gKe pq (va_up pz p0.toNatClampNeg (some q23)) (va_up tq p0.toNatClampNeg (some q23)) rq), fm 13 (fTx cs tq TR TO TF TA), fm 13 (fRw cs rq RR RM RW RF RA RC), fo 8 (fPp cs pq PV) jp, nA cs (PV jp).o (PV jp).fn (PV jp).fd, [(((PV jp).r 1), .inl (cs 0, (PV jp).cn, .inl (PV jp).cd))], wd_Txp cs q23 rj24 (fun k => if k = 3 then (some hp) else none) f28 a29 (fun _ _ => none), wd_Prg cs hp (PV jp).r (fun k => if k = 2 then (PV jp).o else none) (PV jp).f (fun _ _ => 0) (fun _ _ => none)] := hw
      have hw : pw D A s.heap _ _ [wd_Ker cs hk kr (fun _ => none) kf ka (gKe pq (va_up pz p0.toNatClampNeg (some q23)) (va_up tq p0.toNatClampNeg (some q23)) rq), fm 13 (fTx cs tq TR TO TF TA), fm 13 (fRw cs rq RR RM RW RF RA RC), wd_Txp cs q23 rj24 (fun k => if k = 3 then (some hp) else none) f28 a29 (fun _ _ => none), fo 8 (fPp cs pq PV) jp, wd_Prg cs hp (PV jp).r (fun k => if k = 2 then (PV jp).o else none) (PV jp).f (fun _ _ => 0) (fun _ _ => none), nA cs (PV jp).o (PV jp).fn (PV jp).fd, [(((PV jp).r 1), .inl (cs 0, (PV jp).cn, .inl (PV jp).cd))]] := hw.sub [0, 1, 2, 6, 3, 7, 4, 5] rfl rfl
      have hw : pw D A s.heap _ _ [wd_Ker cs hk kr (fun _ => none) kf ka (gKe pq (va_up pz p0.toNatClampNeg (some q23)) (va_up tq p0.toNatClampNeg (some q23)) rq), fm 13 (fTx cs tq TR TO TF TA), fm 13 (fRw cs rq RR RM RW RF RA RC), wd_Txp cs q23 rj24 (fun k => if k = 3 then (some hp) else none) f28 a29 (fun _ _ => none), fm 8 (fPp cs pq PV)] := fpp_back (pr := [wd_Ker cs hk kr (fun _ => none) kf ka (gKe pq (va_up pz p0.toNatClampNeg (some q23)) (va_up tq p0.toNatClampNeg (some q23)) rq), fm 13 (fTx cs tq TR TO TF TA), fm 13 (fRw cs rq RR RM RW RF RA RC), wd_Txp cs q23 rj24 (fun k => if k = 3 then (some hp) else none) f28 a29 (fun _ _ => none)]) hw hjp hjq
      have hw : pw D A s.heap _ _ [wd_Ker cs hk kr (fun _ => none) kf ka (gKe pq (va_up pz p0.toNatClampNeg (some q23)) (va_up tq p0.toNatClampNeg (some q23)) rq), fm 13 (fRw cs rq RR RM RW RF RA RC), fm 8 (fPp cs pq PV), fm 13 (fTx cs tq TR TO TF TA), wd_Txp cs q23 rj24 (fun k => if k = 3 then (some hp) else none) f28 a29 (fun _ _ => none)] := hw.sub [0, 2, 4, 1, 3] rfl rfl
      have hw := ftx_new (pr := [wd_Ker cs hk kr (fun _ => none) kf ka (gKe pq (va_up pz p0.toNatClampNeg (some q23)) (va_up tq p0.toNatClampNeg (some q23)) rq), fm 13 (fRw cs rq RR RM RW RF RA RC), fm 8 (fPp cs pq PV)]) hw hi22 hr22
      obtain ⟨TF39, hu_TF39⟩ : ∃ y : Nat → Nat → Int32, y = va_up TF p0.toNatClampNeg f28 := ⟨_, rfl⟩
      obtain ⟨TA40, hu_TA40⟩ : ∃ y : Nat → Nat → Nat → Int32, y = va_up TA p0.toNatClampNeg a29 := ⟨_, rfl⟩
      obtain ⟨TO41, hu_TO41⟩ : ∃ y : Nat → Option Nat, y = va_up TO p0.toNatClampNeg (some hp) := ⟨_, rfl⟩
      obtain ⟨TR42, hu_TR42⟩ : ∃ y : Nat → Nat → Nat, y = va_up TR p0.toNatClampNeg rj24 := ⟨_, rfl⟩
      have hw : pw D A s.heap _ _ [wd_Ker cs hk kr (fun _ => none) kf ka (gKe pq (va_up pz p0.toNatClampNeg (some q23)) (va_up tq p0.toNatClampNeg (some q23)) rq), fm 13 (fRw cs rq RR RM RW RF RA RC), fm 8 (fPp cs pq PV), fm 13 (fTx cs (va_up tq p0.toNatClampNeg (some q23)) TR42 TO41 TF39 TA40)] := (by rw [hu_TF39, hu_TA40, hu_TO41, hu_TR42]; exact hw)
      have hbg := hki.bgT (p := p0.toNatClampNeg) (h := q23) (fun i9 q9 => va_up_n q9) va_up_s hjp hjq (by omega) (show TxN p0.toNatClampNeg f28 a29 from ⟨(show TxOk (f28 4) (f28 5) (f28 8) (f28 9) (f28 17) (f28 21) (a29 2) from ⟨(by first | exact lk | exact lk_eq lk (by omega) | exact lk_mk (by omega)), ⟨by omega, by omega⟩, ⟨by omega, by omega⟩, ⟨by omega, by omega⟩, by omega, ⟨by omega, by omega⟩, by omega, hrt⟩), (show ((f28 15).toInt) = ((p0.toNatClampNeg : Nat) : Int) from by first | with_reducible rfl | with_reducible assumption | omega), (show 0 ≤ (f28 20).toInt ∧ (f28 20).toInt ≤ 3 ∧ ((f28 20).toInt = 0 ∨ 3 * ((p0.toNatClampNeg : Nat) : Int) + (f28 20).toInt ≤ 12) from by first | with_reducible rfl | with_reducible assumption | omega)⟩)
      have hko : KpQ p0.toNatClampNeg tq TO rq RW (va_up tq p0.toNatClampNeg (some q23)) TO41 rq RW := (by rw [hu_TO41]; have q8 := hbg.2; exact q8)
      have hki : KnI pq PV (va_up pz p0.toNatClampNeg (some q23)) (va_up tq p0.toNatClampNeg (some q23)) rq TO41 TF39 TA40 RW RF := (by rw [hu_TF39, hu_TA40, hu_TO41]; exact hbg.1)
      have hz21_TF39 : (TF39 p0.toNatClampNeg 21).toInt = (f28 21).toInt := (by rw [hu_TF39, va_up_s]; try rfl)
      have hnq43 := ndS_up 13 tq p0.toNatClampNeg (some q23) hi22; have hn043 : nd (tq p0.toNatClampNeg) = 1 := (by rw [hr22]; rfl); have hn143 := nd_1 q23
      have hw : pw D A s.heap _ _ [wd_Ker cs hk kr (fun _ => none) kf ka (gKe pq (va_up pz p0.toNatClampNeg (some q23)) (va_up tq p0.toNatClampNeg (some q23)) rq), fm 13 (fTx cs (va_up tq p0.toNatClampNeg (some q23)) TR42 TO41 TF39 TA40), fm 13 (fRw cs rq RR RM RW RF RA RC), fm 8 (fPp cs pq PV)] := hw.sub [0, 3, 1, 2] rfl rfl
      exact pg_vret S hr hlk hAe hw (show ((0 + 1) + 4) ≤ (5 * ndS 13 tq + 4 * ndS 13 rq + ndS 13 RM) from by first | with_reducible rfl | with_reducible assumption | omega) (show ((0 + 25) + 9779) ≤ (9804 * ndS 13 tq + 342 * ndS 13 rq + 36864 * ndS 13 RM) from by first | with_reducible rfl | with_reducible assumption | omega) (⟨(va_up pz p0.toNatClampNeg (some q23)), (va_up tq p0.toNatClampNeg (some q23)), rq, ka, TR42, TO41, TF39, TA40, RR, RM, RW, RF, RA, RC, rfl, (show KpQ p0.toNatClampNeg tq TO rq RW (va_up tq p0.toNatClampNeg (some q23)) TO41 rq RW from hko), (show KpG p0.toNatClampNeg RF RF from (fun _ _ => rfl)), (show KnI pq PV (va_up pz p0.toNatClampNeg (some q23)) (va_up tq p0.toNatClampNeg (some q23)) rq TO41 TF39 TA40 RW RF from hki), (show RoI ka from hro), (show RmI rq RM from hrm), (show ((0 + 1) + 4) + (5 * ndS 13 (va_up tq p0.toNatClampNeg (some q23)) + 4 * ndS 13 rq + ndS 13 RM) ≤ 5 * ndS 13 tq + 4 * ndS 13 rq + ndS 13 RM from by first | with_reducible rfl | with_reducible assumption | omega), (show ((0 + 25) + 9779) + (9804 * ndS 13 (va_up tq p0.toNatClampNeg (some q23)) + 342 * ndS 13 rq + 36864 * ndS 13 RM) ≤ 9804 * ndS 13 tq + 342 * ndS 13 rq + 36864 * ndS 13 RM from by first | with_reducible rfl | with_reducible assumption | omega)⟩) d_Ker_begin_104
  · have nc2 : ¬ ((PV jp).f 0).toInt = (0 : Int) := mt (i_eq (x := ((PV jp).f 0)) (y := 0)).mpr c2
    refine lv_aload_n S.x S.b d_Ker_begin_12 rfl (lv_at hl 0 rfl) ?_
    refine px_get S k_Ker hT hw 0 0 4 (v := .ref (kr 4)) rfl rfl rfl (by decide) m2_225 d_Ker_begin_13 ?_
    refine lv_iload_n S.x S.b d_Ker_begin_16 rfl (lv_at hl 1 rfl) ?_
    refine px_aald S hT hw 0 5 8 (n := 13) (f := rq) rfl rfl rfl (x := p0) (vp_in_iff.mpr (by first | exact oz_03ccb9bf57 g0 g1 | (constructor <;> omega))) d_Ker_begin_17 ?_
    refine lq_top (fun y44 hy44 => ?_)
    refine lq_ifnonnull (x := y44) (tgt := 35) S.x S.b d_Ker_begin_18 (by decide) (fun q46 c45 => ?_) (fun c45 => ?_)
    ·
      subst c45
      have nd0_c45 := nd_1 q46
      have hc47 := cl_nat (x := p0) (by first | exact g0 | omega)
      have hi47 : p0.toNatClampNeg < 13 := by first | exact oz_52b7a52644 hc47 g1 | omega
      have hr47 := hy44.symm
      refine lv_aload_n S.x S.b d_Ker_begin_35 rfl (lv_at hl 0 rfl) ?_
      refine px_get S k_Ker hT hw 0 0 2 (v := .ref (kr 2)) rfl rfl rfl (by decide) m2_222 d_Ker_begin_36 ?_
      refine lv_iload_n S.x S.b d_Ker_begin_39 rfl (lv_at hl 1 rfl) ?_
      refine lv_aload_n S.x S.b d_Ker_begin_40 rfl (lv_at hl 0 rfl) ?_
      refine px_get S k_Ker hT hw 0 0 4 (v := .ref (kr 4)) rfl rfl rfl (by decide) m2_225 d_Ker_begin_41 ?_
      refine lv_iload_n S.x S.b d_Ker_begin_44 rfl (lv_at hl 1 rfl) ?_
      refine px_aaldS S hT hw 0 5 8 (n := 13) (f := rq) rfl rfl rfl (x := p0) (vp_in_iff.mpr (by first | exact oz_03ccb9bf57 g0 g1 | (constructor <;> omega))) (sk := q46) hr47 d_Ker_begin_45 ?_
      have hw : pw D A s.heap _ _ [wd_Ker cs hk kr (fun _ => none) kf ka (gKe pq pz tq rq), fm 13 (fTx cs tq TR TO TF TA), fo 8 (fPp cs pq PV) jp, wd_Prg cs hp (PV jp).r (fun k => if k = 2 then (PV jp).o else none) (PV jp).f (fun _ _ => 0) (fun _ _ => none), nA cs (PV jp).o (PV jp).fn (PV jp).fd, [(((PV jp).r 1), .inl (cs 0, (PV jp).cn, .inl (PV jp).cd))], fm 13 (fRw cs rq RR RM RW RF RA RC)] := hw.sub [0, 1, 3, 4, 5, 6, 2] rfl rfl
      have hw : pw D A s.heap _ _ [wd_Ker cs hk kr (fun _ => none) kf ka (gKe pq pz tq rq), fm 13 (fTx cs tq TR TO TF TA), fo 8 (fPp cs pq PV) jp, wd_Prg cs hp (PV jp).r (fun k => if k = 2 then (PV jp).o else none) (PV jp).f (fun _ _ => 0) (fun _ _ => none), nA cs (PV jp).o (PV jp).fn (PV jp).fd, [(((PV jp).r 1), .inl (cs 0, (PV jp).cn, .inl (PV jp).cd))], fo 13 (fRw cs rq RR RM RW RF RA RC) p0.toNatClampNeg, wd_Raw cs q46 (RR p0.toNatClampNeg) (fun k => if k = 2 then (RM p0.toNatClampNeg) else if k = 4 then (RW p0.toNatClampNeg) else none) (RF p0.toNatClampNeg) (RA p0.toNatClampNeg) (fun _ _ => none), nA cs (RM p0.toNatClampNeg) 36864 (RC p0.toNatClampNeg)] := frw_out (pr := [wd_Ker cs hk kr (fun _ => none) kf ka (gKe pq pz tq rq), fm 13 (fTx cs tq TR TO TF TA), fo 8 (fPp cs pq PV) jp, wd_Prg cs hp (PV jp).r (fun k => if k = 2 then (PV jp).o else none) (PV jp).f (fun _ _ => 0) (fun _ _ => none), nA cs (PV jp).o (PV jp).fn (PV jp).fd, [(((PV jp).r 1), .inl (cs 0, (PV jp).cn, .inl (PV jp).cd))]]) hw hi47 hr47 rfl
      have hng48 := ndS_ge 13 RM p0.toNatClampNeg hi47
      have hrn48 : RwN p0.toNatClampNeg (RF p0.toNatClampNeg) := hki.2.2.1 p0.toNatClampNeg hi47 _ hr47
      have hro48 := hrn48.1
      unfold RwO at hro48
      have hid48 := hrn48.2.1
      have hch48 := hrn48.2.2
      unfold KcI at hch48
      refine px_astO S hT hw 0 3 6 7 0 (f := pz) rfl rfl rfl m15_11n rfl rfl rfl (x := p0) (vp_in_iff.mpr (by constructor <;> omega)) d_Ker_begin_46 (w' := wd_Ker cs hk kr (fun _ => none) kf ka (gKe pq (va_up pz p0.toNatClampNeg (some q46)) tq rq)) (ps' := [wd_Ker cs hk kr (fun _ => none) kf ka (gKe pq (va_up pz p0.toNatClampNeg (some q46)) tq rq), fm 13 (fTx cs tq TR TO TF TA), fo 8 (fPp cs pq PV) jp, wd_Prg cs hp (PV jp).r (fun k => if k = 2 then (PV jp).o else none) (PV jp).f (fun _ _ => 0) (fun _ _ => none), nA cs (PV jp).o (PV jp).fn (PV jp).fd, [(((PV jp).r 1), .inl (cs 0, (PV jp).cn, .inl (PV jp).cd))], fo 13 (fRw cs rq RR RM RW RF RA RC) p0.toNatClampNeg, wd_Raw cs q46 (RR p0.toNatClampNeg) (fun k => if k = 2 then (RM p0.toNatClampNeg) else if k = 4 then (RW p0.toNatClampNeg) else none) (RF p0.toNatClampNeg) (RA p0.toNatClampNeg) (fun _ _ => none), nA cs (RM p0.toNatClampNeg) 36864 (RC p0.toNatClampNeg)]) rfl rfl (fun H locs hw => ?_)
      refine lv_goto (tgt := 85) S.x S.b d_Ker_begin_47 (by decide) ?_
      refine lv_aload_n S.x S.b d_Ker_begin_85 rfl (lv_at hl 0 rfl) ?_
      refine px_get S k_Ker hT hw 0 0 2 (v := .ref (kr 2)) rfl rfl rfl (by decide) m2_222 d_Ker_begin_86 ?_
      refine lv_iload_n S.x S.b d_Ker_begin_89 rfl (lv_at hl 1 rfl) ?_
      refine px_aaldS S hT hw 0 3 6 (n := 13) (f := (va_up pz p0.toNatClampNeg (some q46))) rfl rfl rfl (x := p0) (vp_in_iff.mpr (by first | exact oz_03ccb9bf57 g0 g1 | (constructor <;> omega))) (sk := q46) va_up_s d_Ker_begin_90 ?_
      refine lv_aload_n S.x S.b d_Ker_begin_91 rfl (lv_at hl 2 rfl) ?_
      refine lv_iload_n S.x S.b d_Ker_begin_92 rfl (lv_at hl 3 rfl) ?_
      refine lv_aload_n S.x S.b d_Ker_begin_93 rfl (lv_at hl 0 rfl) ?_
      refine px_get S k_Ker hT hw 0 0 8 (v := .int (kf 8)) rfl rfl rfl (by decide) m2_229 d_Ker_begin_94 ?_
      refine lv_aload_n S.x S.b d_Ker_begin_97 rfl (lv_at hl 0 rfl) ?_
      refine px_get S k_Ker hT hw 0 0 9 (v := .int (kf 9)) rfl rfl rfl (by decide) m2_230 d_Ker_begin_98 ?_
      have hw : pw D A s.heap _ _ [wd_Ker cs hk kr (fun _ => none) kf ka (gKe pq (va_up pz p0.toNatClampNeg (some q46)) tq rq), fm 13 (fTx cs tq TR TO TF TA), fo 8 (fPp cs pq PV) jp, nA cs (PV jp).o (PV jp).fn (PV jp).fd, [(((PV jp).r 1), .inl (cs 0, (PV jp).cn, .inl (PV jp).cd))], fo 13 (fRw cs rq RR RM RW RF RA RC) p0.toNatClampNeg, nA cs (RM p0.toNatClampNeg) 36864 (RC p0.toNatClampNeg), wd_Raw cs q46 (RR p0.toNatClampNeg) (fun k => if k = 2 then (RM p0.toNatClampNeg) else if k = 4 then (RW p0.toNatClampNeg) else none) (RF p0.toNatClampNeg) (RA p0.toNatClampNeg) (fun _ _ => none), wd_Prg cs hp (PV jp).r (fun k => if k = 2 then (PV jp).o else none) (PV jp).f (fun _ _ => 0) (fun _ _ => none)] := hw.sub [0, 1, 2, 4, 5, 6, 8, 7, 3] rfl rfl
      refine px_callv (pr := [wd_Ker cs hk kr (fun _ => none) kf ka (gKe pq (va_up pz p0.toNatClampNeg (some q46)) tq rq), fm 13 (fTx cs tq TR TO TF TA), fo 8 (fPp cs pq PV) jp, nA cs (PV jp).o (PV jp).fn (PV jp).fd, [(((PV jp).r 1), .inl (cs 0, (PV jp).cn, .inl (PV jp).cd))], fo 13 (fRw cs rq RR RM RW RF RA RC) p0.toNatClampNeg, nA cs (RM p0.toNatClampNeg) 36864 (RC p0.toNatClampNeg)]) (px_runA (As := [.ref hp, .int p1, .int (kf 8), .int (kf 9)]) (rest := []) S (c_Raw_begin l D cs q46 (RR p0.toNatClampNeg) (fun _ _ => none) (RM p0.toNatClampNeg) (RF p0.toNatClampNeg) (RA p0.toNatClampNeg) (RW p0.toNatClampNeg) hp (PV jp).r (PV jp).o (PV jp).f p1 (kf 8) (kf 9)  (show 0 ≤ (kf 8).toInt from by first | exact g2 | omega) (show (kf 8).toInt ≤ 100 from by first | exact g3 | omega) _) hT (pr := [wd_Ker cs hk kr (fun _ => none) kf ka (gKe pq (va_up pz p0.toNatClampNeg (some q46)) tq rq), fm 13 (fTx cs tq TR TO TF TA), fo 8 (fPp cs pq PV) jp, nA cs (PV jp).o (PV jp).fn (PV jp).fd, [(((PV jp).r 1), .inl (cs 0, (PV jp).cn, .inl (PV jp).cd))], fo 13 (fRw cs rq RR RM RW RF RA RC) p0.toNatClampNeg, nA cs (RM p0.toNatClampNeg) 36864 (RC p0.toNatClampNeg)]) (pcs := [wd_Raw cs q46 (RR p0.toNatClampNeg) (fun k => if k = 2 then (RM p0.toNatClampNeg) else if k = 4 then (RW p0.toNatClampNeg) else none) (RF p0.toNatClampNeg) (RA p0.toNatClampNeg) (fun _ _ => none), wd_Prg cs hp (PV jp).r (fun k => if k = 2 then (PV jp).o else none) (PV jp).f (fun _ _ => 0) (fun _ _ => none)]) hw px_X.tt (C := "HomeSystem$RawProcess") (owner := "HomeSystem$AnyProcess") (x := ⟨"HomeSystem$AnyProcess", "begin", "(LHomeSystem$Program;III)V"⟩) (px_recv hT hw 7 0 rfl rfl rfl) m7_34 m7_29 m7_31 m7_33 m7_32 m1_34 m7_30n ⟨by decide, by decide⟩ rfl q_Raw_begin ⟨Nat.le_of_ble_eq_true rfl, Nat.le_of_ble_eq_true rfl⟩ hl.1 rfl (Nat.le_of_ble_eq_true rfl) d_Ker_begin_101 ⟨show 0 + 0 ≤ (5 * ndS 13 tq + 4 * ndS 13 rq + ndS 13 RM) from by first | with_reducible rfl | with_reducible assumption | omega, show 0 + 0 ≤ (9804 * ndS 13 tq + 342 * ndS 13 rq + 36864 * ndS 13 RM) from by first | with_reducible rfl | with_reducible assumption | omega⟩) hw hA (fun p52 H locs hp52 hw => ?_)
      obtain ⟨f49, a50, o451, rfl, e54, e55, e56, e57, e58, e59, e60⟩ := hp52
      replace e54 : (f49 7).toInt = 16 * (kf 8).toInt := e54
      replace e55 : (f49 8).toInt = ((RF p0.toNatClampNeg) 8).toInt := e55
      replace e56 : (f49 10).toInt = 0 := e56
      replace e57 : (f49 11).toInt = -2 := e57
      replace e58 : (f49 13).toInt = 0 := e58
      replace e59 : (f49 14).toInt = 0 := e59
      subst e60
      replace hw : pw D A s.heap H locs [wd_Ker cs hk kr (fun _ => none) kf ka (gKe pq (va_up pz p0.toNatClampNeg (some q46)) tq rq), fm 13 (fTx cs tq TR TO TF TA), fo 8 (fPp cs pq PV) jp, nA cs (PV jp).o (PV jp).fn (PV jp).fd, [(((PV jp).r 1), .inl (cs 0, (PV jp).cn, .inl (PV jp).cd))], fo 13 (fRw cs rq RR RM RW RF RA RC) p0.toNatClampNeg, nA cs (RM p0.toNatClampNeg) 36864 (RC p0.toNatClampNeg), wd_Raw cs q46 (RR p0.toNatClampNeg) (fun k => if k = 2 then (RM p0.toNatClampNeg) else if k = 4 then (some ((PV jp).r 1)) else none) f49 a50 (fun _ _ => none), wd_Prg cs hp (PV jp).r (fun k => if k = 2 then (PV jp).o else none) (PV jp).f (fun _ _ => 0) (fun _ _ => none)] := hw
      have hw : pw D A s.heap _ _ [wd_Ker cs hk kr (fun _ => none) kf ka (gKe pq (va_up pz p0.toNatClampNeg (some q46)) tq rq), fm 13 (fTx cs tq TR TO TF TA), fo 13 (fRw cs rq RR RM RW RF RA RC) p0.toNatClampNeg, nA cs (RM p0.toNatClampNeg) 36864 (RC p0.toNatClampNeg), wd_Raw cs q46 (RR p0.toNatClampNeg) (fun k => if k = 2 then (RM p0.toNatClampNeg) else if k = 4 then (some ((PV jp).r 1)) else none) f49 a50 (fun _ _ => none), fo 8 (fPp cs pq PV) jp, wd_Prg cs hp (PV jp).r (fun k => if k = 2 then (PV jp).o else none) (PV jp).f (fun _ _ => 0) (fun _ _ => none), nA cs (PV jp).o (PV jp).fn (PV jp).fd, [(((PV jp).r 1), .inl (cs 0, (PV jp).cn, .inl (PV jp).cd))]] := hw.sub [0, 1, 5, 6, 7, 2, 8, 3, 4] rfl rfl
      have hw : pw D A s.heap _ _ [wd_Ker cs hk kr (fun _ => none) kf ka (gKe pq (va_up pz p0.toNatClampNeg (some q46)) tq rq), fm 13 (fTx cs tq TR TO TF TA), fo 13 (fRw cs rq RR RM RW RF RA RC) p0.toNatClampNeg, nA cs (RM p0.toNatClampNeg) 36864 (RC p0.toNatClampNeg), wd_Raw cs q46 (RR p0.toNatClampNeg) (fun k => if k = 2 then (RM p0.toNatClampNeg) else if k = 4 then (some ((PV jp).r 1)) else none) f49 a50 (fun _ _ => none), fm 8 (fPp cs pq PV)] := fpp_back (pr := [wd_Ker cs hk kr (fun _ => none) kf ka (gKe pq (va_up pz p0.toNatClampNeg (some q46)) tq rq), fm 13 (fTx cs tq TR TO TF TA), fo 13 (fRw cs rq RR RM RW RF RA RC) p0.toNatClampNeg, nA cs (RM p0.toNatClampNeg) 36864 (RC p0.toNatClampNeg), wd_Raw cs q46 (RR p0.toNatClampNeg) (fun k => if k = 2 then (RM p0.toNatClampNeg) else if k = 4 then (some ((PV jp).r 1)) else none) f49 a50 (fun _ _ => none)]) hw hjp hjq
      have hw : pw D A s.heap _ _ [wd_Ker cs hk kr (fun _ => none) kf ka (gKe pq (va_up pz p0.toNatClampNeg (some q46)) tq rq), fm 13 (fTx cs tq TR TO TF TA), fm 8 (fPp cs pq PV), fo 13 (fRw cs rq RR RM RW RF RA RC) p0.toNatClampNeg, wd_Raw cs q46 (RR p0.toNatClampNeg) (fun k => if k = 2 then (RM p0.toNatClampNeg) else if k = 4 then (some ((PV jp).r 1)) else none) f49 a50 (fun _ _ => none), nA cs (RM p0.toNatClampNeg) 36864 (RC p0.toNatClampNeg)] := hw.sub [0, 1, 5, 2, 4, 3] rfl rfl
      have hw := frw_in (pr := [wd_Ker cs hk kr (fun _ => none) kf ka (gKe pq (va_up pz p0.toNatClampNeg (some q46)) tq rq), fm 13 (fTx cs tq TR TO TF TA), fm 8 (fPp cs pq PV)]) hw hi47 hr47
      obtain ⟨RM61, hu_RM61⟩ : ∃ y : Nat → Option Nat, y = va_up RM p0.toNatClampNeg (RM p0.toNatClampNeg) := ⟨_, rfl⟩
      obtain ⟨RF62, hu_RF62⟩ : ∃ y : Nat → Nat → Int32, y = va_up RF p0.toNatClampNeg f49 := ⟨_, rfl⟩
      obtain ⟨RA63, hu_RA63⟩ : ∃ y : Nat → Nat → Nat → Int32, y = va_up RA p0.toNatClampNeg a50 := ⟨_, rfl⟩
      obtain ⟨RC64, hu_RC64⟩ : ∃ y : Nat → Nat → Int32, y = va_up RC p0.toNatClampNeg (RC p0.toNatClampNeg) := ⟨_, rfl⟩
      obtain ⟨RW65, hu_RW65⟩ : ∃ y : Nat → Option Nat, y = va_up RW p0.toNatClampNeg (some ((PV jp).r 1)) := ⟨_, rfl⟩
      have hw : pw D A s.heap _ _ [wd_Ker cs hk kr (fun _ => none) kf ka (gKe pq (va_up pz p0.toNatClampNeg (some q46)) tq rq), fm 13 (fTx cs tq TR TO TF TA), fm 8 (fPp cs pq PV), fm 13 (fRw cs rq RR RM61 RW65 RF62 RA63 RC64)] := (by rw [hu_RM61, hu_RF62, hu_RA63, hu_RC64, hu_RW65]; exact hw)
      have hbg := hki.bgR (p := p0.toNatClampNeg) (h := q46) (fun _ _ => rfl) hr47 hjp hjq (show RwN p0.toNatClampNeg f49 from ⟨(show (0 ≤ (f49 7).toInt ∧ (f49 7).toInt ≤ 1600) ∧ (0 ≤ (f49 10).toInt ∧ (f49 10).toInt + (f49 7).toInt ≤ 1600) ∧ ((f49 14).toInt = 0 ∨ (f49 14).toInt = 1) ∧ ((f49 14).toInt = 1 → 1 ≤ (f49 7).toInt) from by first | with_reducible rfl | with_reducible assumption | omega), (show ((f49 8).toInt) = ((p0.toNatClampNeg : Nat) : Int) from by first | with_reducible rfl | with_reducible assumption | omega), (show 0 ≤ (f49 13).toInt ∧ (f49 13).toInt ≤ 3 ∧ ((f49 13).toInt = 0 ∨ 3 * ((p0.toNatClampNeg : Nat) : Int) + (f49 13).toInt ≤ 12) from by first | with_reducible rfl | with_reducible assumption | omega)⟩)
      have hko : KpQ p0.toNatClampNeg tq TO rq RW tq TO rq RW65 := (by rw [hu_RW65]; have q8 := hbg.2; exact q8)
      have hki : KnI pq PV (va_up pz p0.toNatClampNeg (some q46)) tq rq TO TF TA RW65 RF62 := (by rw [hu_RF62, hu_RW65]; exact hbg.1)
      have hrm : RmI rq RM61 := (by rw [hu_RM61]; exact hrm.up hr47)
      have hnd_RM61 := ndS_up 13 RM p0.toNatClampNeg (RM p0.toNatClampNeg) hi47; rw [← hu_RM61] at hnd_RM61
      have hz14_RF62 : (RF62 p0.toNatClampNeg 14).toInt = (f49 14).toInt := (by rw [hu_RF62, va_up_s]; try rfl)
      have hw : pw D A s.heap _ _ [wd_Ker cs hk kr (fun _ => none) kf ka (gKe pq (va_up pz p0.toNatClampNeg (some q46)) tq rq), fm 13 (fTx cs tq TR TO TF TA), fm 13 (fRw cs rq RR RM61 RW65 RF62 RA63 RC64), fm 8 (fPp cs pq PV)] := hw.sub [0, 1, 3, 2] rfl rfl
      exact pg_vret S hr hlk hAe hw (show 0 ≤ (5 * ndS 13 tq + 4 * ndS 13 rq + ndS 13 RM) from by first | exact oz_86e49526c7 | omega) (show 0 ≤ (9804 * ndS 13 tq + 342 * ndS 13 rq + 36864 * ndS 13 RM) from by first | exact oz_fc3b58e969 | omega) (⟨(va_up pz p0.toNatClampNeg (some q46)), tq, rq, ka, TR, TO, TF, TA, RR, RM61, RW65, RF62, RA63, RC64, rfl, (show KpQ p0.toNatClampNeg tq TO rq RW tq TO rq RW65 from hko), (show KpG p0.toNatClampNeg RF RF62 from (fun i9 q9 => by rw [hu_RF62]; exact va_up_n q9)), (show KnI pq PV (va_up pz p0.toNatClampNeg (some q46)) tq rq TO TF TA RW65 RF62 from hki), (show RoI ka from hro), (show RmI rq RM61 from hrm), (show 0 + (5 * ndS 13 tq + 4 * ndS 13 rq + ndS 13 RM61) ≤ 5 * ndS 13 tq + 4 * ndS 13 rq + ndS 13 RM from by first | with_reducible rfl | with_reducible assumption | omega), (show 0 + (9804 * ndS 13 tq + 342 * ndS 13 rq + 36864 * ndS 13 RM61) ≤ 9804 * ndS 13 tq + 342 * ndS 13 rq + 36864 * ndS 13 RM from by first | with_reducible rfl | with_reducible assumption | omega)⟩) d_Ker_begin_104
    ·
      subst c45
      have nd0_c45 := nd_0
      have hc66 := cl_nat (x := p0) (by first | exact g0 | omega)
      have hi66 : p0.toNatClampNeg < 13 := by first | exact oz_52b7a52644 hc66 g1 | omega
      have hr66 := hy44.symm
      have hnp66 := ndS_pos 13 rq p0.toNatClampNeg hi66 hr66
      have hrn66 := hrm p0.toNatClampNeg hi66 hr66; have hnr66 := ndS_pos 13 RM p0.toNatClampNeg hi66 hrn66
      refine lv_aload_n S.x S.b d_Ker_begin_21 rfl (lv_at hl 0 rfl) ?_
      refine px_get S k_Ker hT hw 0 0 4 (v := .ref (kr 4)) rfl rfl rfl (by decide) m2_225 d_Ker_begin_22 ?_
      refine lv_iload_n S.x S.b d_Ker_begin_25 rfl (lv_at hl 1 rfl) ?_
      refine px_new S k_Raw hT hw hA m2_216 m6_116 m1_34 (fs := [.null, .null, .null, .int 0, .null, .int 0, .int 0, .int 0, .int 0, .null, .int 0, .int 0, .int 0, .int 0, .int 0, .int 0, .int 0, .int 0]) (by decide +kernel) (show 0 + 1 ≤ (5 * ndS 13 tq + 4 * ndS 13 rq + ndS 13 RM) from by first | with_reducible rfl | with_reducible assumption | omega) (show 0 + 18 ≤ (9804 * ndS 13 tq + 342 * ndS 13 rq + 36864 * ndS 13 RM) from by first | with_reducible rfl | with_reducible assumption | omega) d_Ker_begin_26 (fun q67 H hw => ?_)
      replace hw : pw D A s.heap H _ [wd_Ker cs hk kr (fun _ => none) kf ka (gKe pq pz tq rq), fm 13 (fTx cs tq TR TO TF TA), fm 13 (fRw cs rq RR RM RW RF RA RC), fo 8 (fPp cs pq PV) jp, wd_Prg cs hp (PV jp).r (fun k => if k = 2 then (PV jp).o else none) (PV jp).f (fun _ _ => 0) (fun _ _ => none), nA cs (PV jp).o (PV jp).fn (PV jp).fd, [(((PV jp).r 1), .inl (cs 0, (PV jp).cn, .inl (PV jp).cd))], [(q67, .inr (9, [.null, .null, .null, .int 0, .null, .int 0, .int 0, .int 0, .int 0, .null, .int 0, .int 0, .int 0, .int 0, .int 0, .int 0, .int 0, .int 0]))]] := hw
      refine lv_dup S.x S.b d_Ker_begin_29 rfl ?_
      refine lv_iload_n S.x S.b d_Ker_begin_30 rfl (lv_at hl 1 rfl) ?_
      refine px_callv (pr := [wd_Ker cs hk kr (fun _ => none) kf ka (gKe pq pz tq rq), fm 13 (fTx cs tq TR TO TF TA), fm 13 (fRw cs rq RR RM RW RF RA RC), fo 8 (fPp cs pq PV) jp, wd_Prg cs hp (PV jp).r (fun k => if k = 2 then (PV jp).o else none) (PV jp).f (fun _ _ => 0) (fun _ _ => none), nA cs (PV jp).o (PV jp).fn (PV jp).fd, [(((PV jp).r 1), .inl (cs 0, (PV jp).cn, .inl (PV jp).cd))]]) (px_runI (As := [.int p0]) (rest := [.ref q67, .int p0, .ref (kr 4)]) S (c_Raw_init l D cs q67 p0 _) hT (pr := [wd_Ker cs hk kr (fun _ => none) kf ka (gKe pq pz tq rq), fm 13 (fTx cs tq TR TO TF TA), fm 13 (fRw cs rq RR RM RW RF RA RC), fo 8 (fPp cs pq PV) jp, wd_Prg cs hp (PV jp).r (fun k => if k = 2 then (PV jp).o else none) (PV jp).f (fun _ _ => 0) (fun _ _ => none), nA cs (PV jp).o (PV jp).fn (PV jp).fd, [(((PV jp).r 1), .inl (cs 0, (PV jp).cn, .inl (PV jp).cd))]]) (pcs := [[(q67, .inr (9, [.null, .null, .null, .int 0, .null, .int 0, .int 0, .int 0, .int 0, .null, .int 0, .int 0, .int 0, .int 0, .int 0, .int 0, .int 0, .int 0]))]]) hw px_X.tt m6_119 m6_117 m6_118 m1_34 rfl q_Raw_init ⟨Nat.le_of_ble_eq_true rfl, Nat.le_of_ble_eq_true rfl⟩ hl.1 rfl (Nat.le_of_ble_eq_true rfl) d_Ker_begin_31 ⟨show (0 + 1) + 3 ≤ (5 * ndS 13 tq + 4 * ndS 13 rq + ndS 13 RM) from by first | with_reducible rfl | with_reducible assumption | omega, show (0 + 18) + 324 ≤ (9804 * ndS 13 tq + 342 * ndS 13 rq + 36864 * ndS 13 RM) from by first | with_reducible rfl | with_reducible assumption | omega⟩) hw hA (fun p70 H locs hp70 hw => ?_)
      obtain ⟨rj68, hfl69⟩ := hp70
      have hw := hw.eq (qs := [wd_Ker cs hk kr (fun _ => none) kf ka (gKe pq pz tq rq), fm 13 (fTx cs tq TR TO TF TA), fm 13 (fRw cs rq RR RM RW RF RA RC), fo 8 (fPp cs pq PV) jp, wd_Prg cs hp (PV jp).r (fun k => if k = 2 then (PV jp).o else none) (PV jp).f (fun _ _ => 0) (fun _ _ => none), nA cs (PV jp).o (PV jp).fn (PV jp).fd, [(((PV jp).r 1), .inl (cs 0, (PV jp).cn, .inl (PV jp).cd))], wd_Raw cs q67 rj68 (fun _ => none) (upd (fun _ => 0) 8 p0) (fun _ _ => 0) (fun _ _ => none)]) (by rw [List.flatten_append, hfl69]; simp only [List.flatten_cons, List.flatten_nil, List.append_nil, List.append_assoc])
      have hw := hw.eq (qs := [wd_Ker cs hk kr (fun _ => none) kf ka (gKe pq pz tq rq), fm 13 (fTx cs tq TR TO TF TA), fm 13 (fRw cs rq RR RM RW RF RA RC), fo 8 (fPp cs pq PV) jp, wd_Prg cs hp (PV jp).r (fun k => if k = 2 then (PV jp).o else none) (PV jp).f (fun _ _ => 0) (fun _ _ => none), nA cs (PV jp).o (PV jp).fn (PV jp).fd, [(((PV jp).r 1), .inl (cs 0, (PV jp).cn, .inl (PV jp).cd))], wd_Raw cs q67 rj68 (fun k => if k = 2 then none else if k = 4 then none else none) (upd (upd (upd (upd (upd (upd (upd (upd (upd (upd (upd (upd (upd (fun _ => 0) 3 0) 5 0) 6 0) 7 0) 8 p0) 10 0) 11 0) 12 0) 13 0) 14 0) 15 0) 16 0) 17 0) (fun _ _ => 0) (fun _ _ => none)]) rfl
      replace hw : pw D A s.heap H locs [wd_Ker cs hk kr (fun _ => none) kf ka (gKe pq pz tq rq), fm 13 (fTx cs tq TR TO TF TA), fm 13 (fRw cs rq RR RM RW RF RA RC), fo 8 (fPp cs pq PV) jp, wd_Prg cs hp (PV jp).r (fun k => if k = 2 then (PV jp).o else none) (PV jp).f (fun _ _ => 0) (fun _ _ => none), nA cs (PV jp).o (PV jp).fn (PV jp).fd, [(((PV jp).r 1), .inl (cs 0, (PV jp).cn, .inl (PV jp).cd))], wd_Raw cs q67 rj68 (fun k => if k = 2 then none else if k = 4 then none else none) (upd (upd (upd (upd (upd (upd (upd (upd (upd (upd (upd (upd (upd (fun _ => 0) 3 0) 5 0) 6 0) 7 0) 8 p0) 10 0) 11 0) 12 0) 13 0) 14 0) 15 0) 16 0) 17 0) (fun _ _ => 0) (fun _ _ => none)] := hw
      refine px_aast S hT hw 0 5 8 7 0 (n := 13) (f := rq) rfl rfl rfl rfl rfl rfl (x := p0) (vp_in_iff.mpr (by first | exact oz_03ccb9bf57 g0 g1 | (constructor <;> omega))) d_Ker_begin_34 (w' := wd_Ker cs hk kr (fun _ => none) kf ka (gKe pq pz tq (va_up rq p0.toNatClampNeg (some q67)))) (ps' := [wd_Ker cs hk kr (fun _ => none) kf ka (gKe pq pz tq (va_up rq p0.toNatClampNeg (some q67))), fm 13 (fTx cs tq TR TO TF TA), fm 13 (fRw cs rq RR RM RW RF RA RC), fo 8 (fPp cs pq PV) jp, wd_Prg cs hp (PV jp).r (fun k => if k = 2 then (PV jp).o else none) (PV jp).f (fun _ _ => 0) (fun _ _ => none), nA cs (PV jp).o (PV jp).fn (PV jp).fd, [(((PV jp).r 1), .inl (cs 0, (PV jp).cn, .inl (PV jp).cd))], wd_Raw cs q67 rj68 (fun k => if k = 2 then none else if k = 4 then none else none) (upd (upd (upd (upd (upd (upd (upd (upd (upd (upd (upd (upd (upd (fun _ => 0) 3 0) 5 0) 6 0) 7 0) 8 p0) 10 0) 11 0) 12 0) 13 0) 14 0) 15 0) 16 0) 17 0) (fun _ _ => 0) (fun _ _ => none)]) rfl rfl (fun H locs hw => ?_)
      refine lv_aload_n S.x S.b d_Ker_begin_35 rfl (lv_at hl 0 rfl) ?_
      refine px_get S k_Ker hT hw 0 0 2 (v := .ref (kr 2)) rfl rfl rfl (by decide) m2_222 d_Ker_begin_36 ?_
      refine lv_iload_n S.x S.b d_Ker_begin_39 rfl (lv_at hl 1 rfl) ?_
      refine lv_aload_n S.x S.b d_Ker_begin_40 rfl (lv_at hl 0 rfl) ?_
      refine px_get S k_Ker hT hw 0 0 4 (v := .ref (kr 4)) rfl rfl rfl (by decide) m2_225 d_Ker_begin_41 ?_
      refine lv_iload_n S.x S.b d_Ker_begin_44 rfl (lv_at hl 1 rfl) ?_
      refine px_aaldS S hT hw 0 5 8 (n := 13) (f := (va_up rq p0.toNatClampNeg (some q67))) rfl rfl rfl (x := p0) (vp_in_iff.mpr (by first | exact oz_03ccb9bf57 g0 g1 | (constructor <;> omega))) (sk := q67) va_up_s d_Ker_begin_45 ?_
      refine px_astO S hT hw 0 3 6 7 0 (f := pz) rfl rfl rfl m15_11n rfl rfl rfl (x := p0) (vp_in_iff.mpr (by constructor <;> omega)) d_Ker_begin_46 (w' := wd_Ker cs hk kr (fun _ => none) kf ka (gKe pq (va_up pz p0.toNatClampNeg (some q67)) tq (va_up rq p0.toNatClampNeg (some q67)))) (ps' := [wd_Ker cs hk kr (fun _ => none) kf ka (gKe pq (va_up pz p0.toNatClampNeg (some q67)) tq (va_up rq p0.toNatClampNeg (some q67))), fm 13 (fTx cs tq TR TO TF TA), fm 13 (fRw cs rq RR RM RW RF RA RC), fo 8 (fPp cs pq PV) jp, wd_Prg cs hp (PV jp).r (fun k => if k = 2 then (PV jp).o else none) (PV jp).f (fun _ _ => 0) (fun _ _ => none), nA cs (PV jp).o (PV jp).fn (PV jp).fd, [(((PV jp).r 1), .inl (cs 0, (PV jp).cn, .inl (PV jp).cd))], wd_Raw cs q67 rj68 (fun k => if k = 2 then none else if k = 4 then none else none) (upd (upd (upd (upd (upd (upd (upd (upd (upd (upd (upd (upd (upd (fun _ => 0) 3 0) 5 0) 6 0) 7 0) 8 p0) 10 0) 11 0) 12 0) 13 0) 14 0) 15 0) 16 0) 17 0) (fun _ _ => 0) (fun _ _ => none)]) rfl rfl (fun H locs hw => ?_)
      refine lv_goto (tgt := 85) S.x S.b d_Ker_begin_47 (by decide) ?_
      refine lv_aload_n S.x S.b d_Ker_begin_85 rfl (lv_at hl 0 rfl) ?_
      refine px_get S k_Ker hT hw 0 0 2 (v := .ref (kr 2)) rfl rfl rfl (by decide) m2_222 d_Ker_begin_86 ?_
      refine lv_iload_n S.x S.b d_Ker_begin_89 rfl (lv_at hl 1 rfl) ?_
      refine px_aaldS S hT hw 0 3 6 (n := 13) (f := (va_up pz p0.toNatClampNeg (some q67))) rfl rfl rfl (x := p0) (vp_in_iff.mpr (by first | exact oz_03ccb9bf57 g0 g1 | (constructor <;> omega))) (sk := q67) va_up_s d_Ker_begin_90 ?_
      refine lv_aload_n S.x S.b d_Ker_begin_91 rfl (lv_at hl 2 rfl) ?_
      refine lv_iload_n S.x S.b d_Ker_begin_92 rfl (lv_at hl 3 rfl) ?_
      refine lv_aload_n S.x S.b d_Ker_begin_93 rfl (lv_at hl 0 rfl) ?_
      refine px_get S k_Ker hT hw 0 0 8 (v := .int (kf 8)) rfl rfl rfl (by decide) m2_229 d_Ker_begin_94 ?_
      refine lv_aload_n S.x S.b d_Ker_begin_97 rfl (lv_at hl 0 rfl) ?_
      refine px_get S k_Ker hT hw 0 0 9 (v := .int (kf 9)) rfl rfl rfl (by decide) m2_230 d_Ker_begin_98 ?_
      have hw : pw D A s.heap _ _ [wd_Ker cs hk kr (fun _ => none) kf ka (gKe pq (va_up pz p0.toNatClampNeg (some q67)) tq (va_up rq p0.toNatClampNeg (some q67))), fm 13 (fTx cs tq TR TO TF TA), fm 13 (fRw cs rq RR RM RW RF RA RC), fo 8 (fPp cs pq PV) jp, nA cs (PV jp).o (PV jp).fn (PV jp).fd, [(((PV jp).r 1), .inl (cs 0, (PV jp).cn, .inl (PV jp).cd))], wd_Raw cs q67 rj68 (fun k => if k = 2 then none else if k = 4 then none else none) (upd (upd (upd (upd (upd (upd (upd (upd (upd (upd (upd (upd (upd (fun _ => 0) 3 0) 5 0) 6 0) 7 0) 8 p0) 10 0) 11 0) 12 0) 13 0) 14 0) 15 0) 16 0) 17 0) (fun _ _ => 0) (fun _ _ => none), wd_Prg cs hp (PV jp).r (fun k => if k = 2 then (PV jp).o else none) (PV jp).f (fun _ _ => 0) (fun _ _ => none)] := hw.sub [0, 1, 2, 3, 5, 6, 7, 4] rfl rfl
      refine px_callv (pr := [wd_Ker cs hk kr (fun _ => none) kf ka (gKe pq (va_up pz p0.toNatClampNeg (some q67)) tq (va_up rq p0.toNatClampNeg (some q67))), fm 13 (fTx cs tq TR TO TF TA), fm 13 (fRw cs rq RR RM RW RF RA RC), fo 8 (fPp cs pq PV) jp, nA cs (PV jp).o (PV jp).fn (PV jp).fd, [(((PV jp).r 1), .inl (cs 0, (PV jp).cn, .inl (PV jp).cd))]]) (px_runA (As := [.ref hp, .int p1, .int (kf 8), .int (kf 9)]) (rest := []) S (c_Raw_begin l D cs q67 rj68 (fun _ _ => none) none (upd (upd (upd (upd (upd (upd (upd (upd (upd (upd (upd (upd (upd (fun _ => 0) 3 0) 5 0) 6 0) 7 0) 8 p0) 10 0) 11 0) 12 0) 13 0) 14 0) 15 0) 16 0) 17 0) (fun _ _ => 0) none hp (PV jp).r (PV jp).o (PV jp).f p1 (kf 8) (kf 9)  (show 0 ≤ (kf 8).toInt from by first | exact g2 | omega) (show (kf 8).toInt ≤ 100 from by first | exact g3 | omega) _) hT (pr := [wd_Ker cs hk kr (fun _ => none) kf ka (gKe pq (va_up pz p0.toNatClampNeg (some q67)) tq (va_up rq p0.toNatClampNeg (some q67))), fm 13 (fTx cs tq TR TO TF TA), fm 13 (fRw cs rq RR RM RW RF RA RC), fo 8 (fPp cs pq PV) jp, nA cs (PV jp).o (PV jp).fn (PV jp).fd, [(((PV jp).r 1), .inl (cs 0, (PV jp).cn, .inl (PV jp).cd))]]) (pcs := [wd_Raw cs q67 rj68 (fun k => if k = 2 then none else if k = 4 then none else none) (upd (upd (upd (upd (upd (upd (upd (upd (upd (upd (upd (upd (upd (fun _ => 0) 3 0) 5 0) 6 0) 7 0) 8 p0) 10 0) 11 0) 12 0) 13 0) 14 0) 15 0) 16 0) 17 0) (fun _ _ => 0) (fun _ _ => none), wd_Prg cs hp (PV jp).r (fun k => if k = 2 then (PV jp).o else none) (PV jp).f (fun _ _ => 0) (fun _ _ => none)]) hw px_X.tt (C := "HomeSystem$RawProcess") (owner := "HomeSystem$AnyProcess") (x := ⟨"HomeSystem$AnyProcess", "begin", "(LHomeSystem$Program;III)V"⟩) (px_recv hT hw 6 0 rfl rfl rfl) m7_34 m7_29 m7_31 m7_33 m7_32 m1_34 m7_30n ⟨by decide, by decide⟩ rfl q_Raw_begin ⟨Nat.le_of_ble_eq_true rfl, Nat.le_of_ble_eq_true rfl⟩ hl.1 rfl (Nat.le_of_ble_eq_true rfl) d_Ker_begin_101 ⟨show ((0 + 1) + 3) + 0 ≤ (5 * ndS 13 tq + 4 * ndS 13 rq + ndS 13 RM) from by first | with_reducible rfl | with_reducible assumption | omega, show ((0 + 18) + 324) + 0 ≤ (9804 * ndS 13 tq + 342 * ndS 13 rq + 36864 * ndS 13 RM) from by first | with_reducible rfl | with_reducible assumption | omega⟩) hw hA (fun p75 H locs hp75 hw => ?_)
      obtain ⟨f72, a73, o474, rfl, e77, e78, e79, e80, e81, e82, e83⟩ := hp75
      replace e77 : (f72 7).toInt = 16 * (kf 8).toInt := e77
      replace e78 : (f72 8).toInt = p0.toInt := e78
      replace e79 : (f72 10).toInt = 0 := e79
      replace e80 : (f72 11).toInt = -2 := e80
      replace e81 : (f72 13).toInt = 0 := e81
      replace e82 : (f72 14).toInt = 0 := e82
      subst e83
      replace hw : pw D A s.heap H locs [wd_Ker cs hk kr (fun _ => none) kf ka (gKe pq (va_up pz p0.toNatClampNeg (some q67)) tq (va_up rq p0.toNatClampNeg (some q67))), fm 13 (fTx cs tq TR TO TF TA), fm 13 (fRw cs rq RR RM RW RF RA RC), fo 8 (fPp cs pq PV) jp, nA cs (PV jp).o (PV jp).fn (PV jp).fd, [(((PV jp).r 1), .inl (cs 0, (PV jp).cn, .inl (PV jp).cd))], wd_Raw cs q67 rj68 (fun k => if k = 2 then none else if k = 4 then (some ((PV jp).r 1)) else none) f72 a73 (fun _ _ => none), wd_Prg cs hp (PV jp).r (fun k => if k = 2 then (PV jp).o else none) (PV jp).f (fun _ _ => 0) (fun _ _ => none)] := hw
      have hw : pw D A s.heap _ _ [wd_Ker cs hk kr (fun _ => none) kf ka (gKe pq (va_up pz p0.toNatClampNeg (some q67)) tq (va_up rq p0.toNatClampNeg (some q67))), fm 13 (fTx cs tq TR TO TF TA), fm 13 (fRw cs rq RR RM RW RF RA RC), wd_Raw cs q67 rj68 (fun k => if k = 2 then none else if k = 4 then (some ((PV jp).r 1)) else none) f72 a73 (fun _ _ => none), fo 8 (fPp cs pq PV) jp, wd_Prg cs hp (PV jp).r (fun k => if k = 2 then (PV jp).o else none) (PV jp).f (fun _ _ => 0) (fun _ _ => none), nA cs (PV jp).o (PV jp).fn (PV jp).fd, [(((PV jp).r 1), .inl (cs 0, (PV jp).cn, .inl (PV jp).cd))]] := hw.sub [0, 1, 2, 6, 3, 7, 4, 5] rfl rfl
      have hw : pw D A s.heap _ _ [wd_Ker cs hk kr (fun _ => none) kf ka (gKe pq (va_up pz p0.toNatClampNeg (some q67)) tq (va_up rq p0.toNatClampNeg (some q67))), fm 13 (fTx cs tq TR TO TF TA), fm 13 (fRw cs rq RR RM RW RF RA RC), wd_Raw cs q67 rj68 (fun k => if k = 2 then none else if k = 4 then (some ((PV jp).r 1)) else none) f72 a73 (fun _ _ => none), fm 8 (fPp cs pq PV)] := fpp_back (pr := [wd_Ker cs hk kr (fun _ => none) kf ka (gKe pq (va_up pz p0.toNatClampNeg (some q67)) tq (va_up rq p0.toNatClampNeg (some q67))), fm 13 (fTx cs tq TR TO TF TA), fm 13 (fRw cs rq RR RM RW RF RA RC), wd_Raw cs q67 rj68 (fun k => if k = 2 then none else if k = 4 then (some ((PV jp).r 1)) else none) f72 a73 (fun _ _ => none)]) hw hjp hjq
      have hw : pw D A s.heap _ _ [wd_Ker cs hk kr (fun _ => none) kf ka (gKe pq (va_up pz p0.toNatClampNeg (some q67)) tq (va_up rq p0.toNatClampNeg (some q67))), fm 13 (fTx cs tq TR TO TF TA), fm 8 (fPp cs pq PV), fm 13 (fRw cs rq RR RM RW RF RA RC), wd_Raw cs q67 rj68 (fun k => if k = 2 then none else if k = 4 then (some ((PV jp).r 1)) else none) f72 a73 (fun _ _ => none)] := hw.sub [0, 1, 4, 2, 3] rfl rfl
      have hw := frw_new (pr := [wd_Ker cs hk kr (fun _ => none) kf ka (gKe pq (va_up pz p0.toNatClampNeg (some q67)) tq (va_up rq p0.toNatClampNeg (some q67))), fm 13 (fTx cs tq TR TO TF TA), fm 8 (fPp cs pq PV)]) hw hi66 hr66
      obtain ⟨RM84, hu_RM84⟩ : ∃ y : Nat → Option Nat, y = va_up RM p0.toNatClampNeg none := ⟨_, rfl⟩
      obtain ⟨RF85, hu_RF85⟩ : ∃ y : Nat → Nat → Int32, y = va_up RF p0.toNatClampNeg f72 := ⟨_, rfl⟩
      obtain ⟨RA86, hu_RA86⟩ : ∃ y : Nat → Nat → Nat → Int32, y = va_up RA p0.toNatClampNeg a73 := ⟨_, rfl⟩
      obtain ⟨RC87, hu_RC87⟩ : ∃ y : Nat → Nat → Int32, y = va_up RC p0.toNatClampNeg (fun _ => 0) := ⟨_, rfl⟩
      obtain ⟨RW88, hu_RW88⟩ : ∃ y : Nat → Option Nat, y = va_up RW p0.toNatClampNeg (some ((PV jp).r 1)) := ⟨_, rfl⟩
      obtain ⟨RR89, hu_RR89⟩ : ∃ y : Nat → Nat → Nat, y = va_up RR p0.toNatClampNeg rj68 := ⟨_, rfl⟩
      have hw : pw D A s.heap _ _ [wd_Ker cs hk kr (fun _ => none) kf ka (gKe pq (va_up pz p0.toNatClampNeg (some q67)) tq (va_up rq p0.toNatClampNeg (some q67))), fm 13 (fTx cs tq TR TO TF TA), fm 8 (fPp cs pq PV), fm 13 (fRw cs (va_up rq p0.toNatClampNeg (some q67)) RR89 RM84 RW88 RF85 RA86 RC87)] := (by rw [hu_RM84, hu_RF85, hu_RA86, hu_RC87, hu_RW88, hu_RR89]; exact hw)
      have hbg := hki.bgR (p := p0.toNatClampNeg) (h := q67) (fun i9 q9 => va_up_n q9) va_up_s hjp hjq (show RwN p0.toNatClampNeg f72 from ⟨(show (0 ≤ (f72 7).toInt ∧ (f72 7).toInt ≤ 1600) ∧ (0 ≤ (f72 10).toInt ∧ (f72 10).toInt + (f72 7).toInt ≤ 1600) ∧ ((f72 14).toInt = 0 ∨ (f72 14).toInt = 1) ∧ ((f72 14).toInt = 1 → 1 ≤ (f72 7).toInt) from by first | with_reducible rfl | with_reducible assumption | omega), (show ((f72 8).toInt) = ((p0.toNatClampNeg : Nat) : Int) from by first | with_reducible rfl | with_reducible assumption | omega), (show 0 ≤ (f72 13).toInt ∧ (f72 13).toInt ≤ 3 ∧ ((f72 13).toInt = 0 ∨ 3 * ((p0.toNatClampNeg : Nat) : Int) + (f72 13).toInt ≤ 12) from by first | with_reducible rfl | with_reducible assumption | omega)⟩)
      have hko : KpQ p0.toNatClampNeg tq TO rq RW tq TO (va_up rq p0.toNatClampNeg (some q67)) RW88 := (by rw [hu_RW88]; have q8 := hbg.2; exact q8)
      have hki : KnI pq PV (va_up pz p0.toNatClampNeg (some q67)) tq (va_up rq p0.toNatClampNeg (some q67)) TO TF TA RW88 RF85 := (by rw [hu_RF85, hu_RW88]; exact hbg.1)
      have hrm : RmI (va_up rq p0.toNatClampNeg (some q67)) RM84 := (by rw [hu_RM84]; exact hrm.new)
      have hnd_RM84 := ndS_up 13 RM p0.toNatClampNeg none hi66; rw [← hu_RM84] at hnd_RM84
      have hz14_RF85 : (RF85 p0.toNatClampNeg 14).toInt = (f72 14).toInt := (by rw [hu_RF85, va_up_s]; try rfl)
      have hnq90 := ndS_up 13 rq p0.toNatClampNeg (some q67) hi66; have hn090 : nd (rq p0.toNatClampNeg) = 1 := (by rw [hr66]; rfl); have hn190 := nd_1 q67
      have hnm90 : nd none = 1 := nd_0; have hnl90 : nd (RM p0.toNatClampNeg) = 1 := (by rw [hrn66]; rfl)
      have hw : pw D A s.heap _ _ [wd_Ker cs hk kr (fun _ => none) kf ka (gKe pq (va_up pz p0.toNatClampNeg (some q67)) tq (va_up rq p0.toNatClampNeg (some q67))), fm 13 (fTx cs tq TR TO TF TA), fm 13 (fRw cs (va_up rq p0.toNatClampNeg (some q67)) RR89 RM84 RW88 RF85 RA86 RC87), fm 8 (fPp cs pq PV)] := hw.sub [0, 1, 3, 2] rfl rfl
      exact pg_vret S hr hlk hAe hw (show ((0 + 1) + 3) ≤ (5 * ndS 13 tq + 4 * ndS 13 rq + ndS 13 RM) from by first | with_reducible rfl | with_reducible assumption | omega) (show ((0 + 18) + 324) ≤ (9804 * ndS 13 tq + 342 * ndS 13 rq + 36864 * ndS 13 RM) from by first | with_reducible rfl | with_reducible assumption | omega) (⟨(va_up pz p0.toNatClampNeg (some q67)), tq, (va_up rq p0.toNatClampNeg (some q67)), ka, TR, TO, TF, TA, RR89, RM84, RW88, RF85, RA86, RC87, rfl, (show KpQ p0.toNatClampNeg tq TO rq RW tq TO (va_up rq p0.toNatClampNeg (some q67)) RW88 from hko), (show KpG p0.toNatClampNeg RF RF85 from (fun i9 q9 => by rw [hu_RF85]; exact va_up_n q9)), (show KnI pq PV (va_up pz p0.toNatClampNeg (some q67)) tq (va_up rq p0.toNatClampNeg (some q67)) TO TF TA RW88 RF85 from hki), (show RoI ka from hro), (show RmI (va_up rq p0.toNatClampNeg (some q67)) RM84 from hrm), (show ((0 + 1) + 3) + (5 * ndS 13 tq + 4 * ndS 13 (va_up rq p0.toNatClampNeg (some q67)) + ndS 13 RM84) ≤ 5 * ndS 13 tq + 4 * ndS 13 rq + ndS 13 RM from by first | with_reducible rfl | with_reducible assumption | omega), (show ((0 + 18) + 324) + (9804 * ndS 13 tq + 342 * ndS 13 (va_up rq p0.toNatClampNeg (some q67)) + 36864 * ndS 13 RM84) ≤ 9804 * ndS 13 tq + 342 * ndS 13 rq + 36864 * ndS 13 RM from by first | with_reducible rfl | with_reducible assumption | omega)⟩) d_Ker_begin_104
abbrev b_Ker_spawn : ByteArray := prog_4_method_11_code
def y_Ker_spawn : MethodName := ⟨"HomeSystem$Kernel", "spawn", "(LHomeSystem$AnyProcess;II)I"⟩
theorem d_Ker_spawn_0 : decode b_Ker_spawn 0 = .ok (.iconst 3, 1) := by decide +kernel
theorem d_Ker_spawn_1 : decode b_Ker_spawn 1 = .ok (.aload_n 1, 1) := by decide +kernel
theorem d_Ker_spawn_2 : decode b_Ker_spawn 2 = .ok (.getfield 101, 3) := by decide +kernel
theorem d_Ker_spawn_5 : decode b_Ker_spawn 5 = .ok (.imul, 1) := by decide +kernel
theorem d_Ker_spawn_6 : decode b_Ker_spawn 6 = .ok (.aload_n 1, 1) := by decide +kernel
theorem d_Ker_spawn_7 : decode b_Ker_spawn 7 = .ok (.getfield 142, 3) := by decide +kernel
theorem d_Ker_spawn_10 : decode b_Ker_spawn 10 = .ok (.iadd, 1) := by decide +kernel
theorem d_Ker_spawn_11 : decode b_Ker_spawn 11 = .ok (.iconst 1, 1) := by decide +kernel
theorem d_Ker_spawn_12 : decode b_Ker_spawn 12 = .ok (.iadd, 1) := by decide +kernel
theorem d_Ker_spawn_13 : decode b_Ker_spawn 13 = .ok (.istore 4, 2) := by decide +kernel
theorem d_Ker_spawn_15 : decode b_Ker_spawn 15 = .ok (.iload_n 2, 1) := by decide +kernel
theorem d_Ker_spawn_16 : decode b_Ker_spawn 16 = .ok (.ifCond .lt 33, 3) := by decide +kernel
theorem d_Ker_spawn_19 : decode b_Ker_spawn 19 = .ok (.iload_n 2, 1) := by decide +kernel
theorem d_Ker_spawn_20 : decode b_Ker_spawn 20 = .ok (.bipush 8, 2) := by decide +kernel
theorem d_Ker_spawn_22 : decode b_Ker_spawn 22 = .ok (.if_icmp .ge 27, 3) := by decide +kernel
theorem d_Ker_spawn_25 : decode b_Ker_spawn 25 = .ok (.aload_n 0, 1) := by decide +kernel
theorem d_Ker_spawn_26 : decode b_Ker_spawn 26 = .ok (.getfield 11, 3) := by decide +kernel
theorem d_Ker_spawn_29 : decode b_Ker_spawn 29 = .ok (.iload_n 2, 1) := by decide +kernel
theorem d_Ker_spawn_30 : decode b_Ker_spawn 30 = .ok (.aaload, 1) := by decide +kernel
theorem d_Ker_spawn_31 : decode b_Ker_spawn 31 = .ok (.ifnull 18, 3) := by decide +kernel
theorem d_Ker_spawn_34 : decode b_Ker_spawn 34 = .ok (.aload_n 1, 1) := by decide +kernel
theorem d_Ker_spawn_35 : decode b_Ker_spawn 35 = .ok (.getfield 142, 3) := by decide +kernel
theorem d_Ker_spawn_38 : decode b_Ker_spawn 38 = .ok (.iconst 3, 1) := by decide +kernel
theorem d_Ker_spawn_39 : decode b_Ker_spawn 39 = .ok (.if_icmp .eq 10, 3) := by decide +kernel
theorem d_Ker_spawn_42 : decode b_Ker_spawn 42 = .ok (.iload 4, 2) := by decide +kernel
theorem d_Ker_spawn_44 : decode b_Ker_spawn 44 = .ok (.bipush 13, 2) := by decide +kernel
theorem d_Ker_spawn_46 : decode b_Ker_spawn 46 = .ok (.if_icmp .lt 5, 3) := by decide +kernel
theorem d_Ker_spawn_49 : decode b_Ker_spawn 49 = .ok (.iconst (-1), 1) := by decide +kernel
theorem d_Ker_spawn_50 : decode b_Ker_spawn 50 = .ok (.ireturn, 1) := by decide +kernel
theorem d_Ker_spawn_51 : decode b_Ker_spawn 51 = .ok (.aload_n 1, 1) := by decide +kernel
theorem d_Ker_spawn_52 : decode b_Ker_spawn 52 = .ok (.dup, 1) := by decide +kernel
theorem d_Ker_spawn_53 : decode b_Ker_spawn 53 = .ok (.getfield 142, 3) := by decide +kernel
theorem d_Ker_spawn_56 : decode b_Ker_spawn 56 = .ok (.iconst 1, 1) := by decide +kernel
theorem d_Ker_spawn_57 : decode b_Ker_spawn 57 = .ok (.iadd, 1) := by decide +kernel
theorem d_Ker_spawn_58 : decode b_Ker_spawn 58 = .ok (.putfield 142, 3) := by decide +kernel
theorem d_Ker_spawn_61 : decode b_Ker_spawn 61 = .ok (.aload_n 0, 1) := by decide +kernel
theorem d_Ker_spawn_62 : decode b_Ker_spawn 62 = .ok (.iload 4, 2) := by decide +kernel
theorem d_Ker_spawn_64 : decode b_Ker_spawn 64 = .ok (.aload_n 0, 1) := by decide +kernel
theorem d_Ker_spawn_65 : decode b_Ker_spawn 65 = .ok (.getfield 11, 3) := by decide +kernel
theorem d_Ker_spawn_68 : decode b_Ker_spawn 68 = .ok (.iload_n 2, 1) := by decide +kernel
theorem d_Ker_spawn_69 : decode b_Ker_spawn 69 = .ok (.aaload, 1) := by decide +kernel
theorem d_Ker_spawn_70 : decode b_Ker_spawn 70 = .ok (.iload_n 3, 1) := by decide +kernel
theorem d_Ker_spawn_71 : decode b_Ker_spawn 71 = .ok (.invokevirtual 61, 3) := by decide +kernel
theorem d_Ker_spawn_74 : decode b_Ker_spawn 74 = .ok (.aload_n 1, 1) := by decide +kernel
theorem d_Ker_spawn_75 : decode b_Ker_spawn 75 = .ok (.getfield 142, 3) := by decide +kernel
theorem d_Ker_spawn_78 : decode b_Ker_spawn 78 = .ok (.ireturn, 1) := by decide +kernel
theorem q_Ker_spawn : px_y y_Ker_spawn 3 := by unfold px_y; decide +kernel
set_option maxHeartbeats 4000000 in
set_option maxRecDepth 100000 in
theorem c_k_spawn_T (l : Launch) (D : va_G) (cs : Nat → ClassId) (hk : Nat) (kr : Nat → Nat) (pq : Nat → Option Nat) (kf : Nat → Int32) (PV : Nat → Pvs) (pz : Nat → Option Nat) (tq : Nat → Option Nat) (rq : Nat → Option Nat) (ka : Nat → Nat → Int32) (TR : Nat → Nat → Nat) (TO : Nat → Option Nat) (TF : Nat → Nat → Int32) (TA : Nat → Nat → Nat → Int32) (RR : Nat → Nat → Nat) (RM : Nat → Option Nat) (RW : Nat → Option Nat) (RF : Nat → Nat → Int32) (RA : Nat → Nat → Nat → Int32) (RC : Nat → Nat → Int32) (p0 p1 : Int32) (ip hx : Nat) (g0 : 0 ≤ (kf 8).toInt) (g1 : (kf 8).toInt ≤ 100) (hki : KnI pq PV pz tq rq TO TF TA RW RF) (hro : RoI ka) (hrm : RmI rq RM) (hip : ip < 13) (hcu : CuT pq PV tq TO ip hx) : MgI l y_Ker_spawn b_Ker_spawn 5 (.int) D cs 6 240 ((5 * ndS 13 tq + 4 * ndS 13 rq + ndS 13 RM)) ((9804 * ndS 13 tq + 342 * ndS 13 rq + 36864 * ndS 13 RM)) [.ref hk, .ref hx, .int p0, .int p1] [wd_Ker cs hk kr (fun _ => none) kf ka (gKe pq pz tq rq), fm 13 (fTx cs tq TR TO TF TA), fm 13 (fRw cs rq RR RM RW RF RA RC), fm 8 (fPp cs pq PV)] (fun _ => True) (fun v ps => ∃ (pz' : Nat → Option Nat) (tq' : Nat → Option Nat) (rq' : Nat → Option Nat) (ka' : Nat → Nat → Int32) (TR' : Nat → Nat → Nat) (TO' : Nat → Option Nat) (TF' : Nat → Nat → Int32) (TA' : Nat → Nat → Nat → Int32) (RR' : Nat → Nat → Nat) (RM' : Nat → Option Nat) (RW' : Nat → Option Nat) (RF' : Nat → Nat → Int32) (RA' : Nat → Nat → Nat → Int32) (RC' : Nat → Nat → Int32), (ps.1 = [wd_Ker cs hk kr (fun _ => none) kf ka' (gKe pq pz' tq' rq'), fm 13 (fTx cs tq' TR' TO' TF' TA'), fm 13 (fRw cs rq' RR' RM' RW' RF' RA' RC'), fm 8 (fPp cs pq PV)]) ∧ (CuT pq PV tq' TO' ip hx) ∧ (KnI pq PV pz' tq' rq' TO' TF' TA' RW' RF') ∧ (RoI ka') ∧ (RmI rq' RM') ∧ (ps.2.1 + (5 * ndS 13 tq' + 4 * ndS 13 rq' + ndS 13 RM') ≤ 5 * ndS 13 tq + 4 * ndS 13 rq + ndS 13 RM) ∧ (ps.2.2 + (9804 * ndS 13 tq' + 342 * ndS 13 rq' + 36864 * ndS 13 RM') ≤ 9804 * ndS 13 tq + 342 * ndS 13 rq + 36864 * ndS 13 RM)) := by
  refine pg_enter (by decide) (Nat.le_of_ble_eq_true rfl) ?_
  intro p e s m below meth c A ls hAe S hr hlk hnm hA hT hX hw hl
  replace hl : lv_has ls 5 [(0, .ref hk), (1, .ref hx), (2, .int p0), (3, .int p1)] := hl
  have lp0 := Int32.le_toInt p0
  have up0 := Int32.toInt_lt p0
  have lp1 := Int32.le_toInt p1
  have up1 := Int32.toInt_lt p1
  have cstm1 : ((-1) : Int32).toInt = (-1) := rfl
  have cst1 : (1 : Int32).toInt = 1 := rfl
  have cst3 : (3 : Int32).toInt = 3 := rfl
  have cst8 : (8 : Int32).toInt = 8 := rfl
  have cst13 : (13 : Int32).toInt = 13 := rfl
  refine lv_iconst (v := 3) S.x S.b d_Ker_spawn_0 (by decide) ?_
  obtain ⟨j1, hp1, hj1, hjq1, hto1, hf01⟩ := hcu.2
  refine lv_aload_n S.x S.b d_Ker_spawn_1 rfl (lv_at hl 1 rfl) ?_
  have hw : pw D A s.heap _ _ [wd_Ker cs hk kr (fun _ => none) kf ka (gKe pq pz tq rq), fm 13 (fRw cs rq RR RM RW RF RA RC), fm 8 (fPp cs pq PV), fm 13 (fTx cs tq TR TO TF TA)] := hw.sub [0, 2, 3, 1] rfl rfl
  have hw : pw D A s.heap _ _ [wd_Ker cs hk kr (fun _ => none) kf ka (gKe pq pz tq rq), fm 13 (fRw cs rq RR RM RW RF RA RC), fm 8 (fPp cs pq PV), fo 13 (fTx cs tq TR TO TF TA) ip, wd_Txp cs hx (TR ip) (fun k => if k = 3 then (some hp1) else none) (TF ip) (TA ip) (fun _ _ => none)] := ftx_out (pr := [wd_Ker cs hk kr (fun _ => none) kf ka (gKe pq pz tq rq), fm 13 (fRw cs rq RR RM RW RF RA RC), fm 8 (fPp cs pq PV)]) hw hip hcu.1 hto1
  have htn2 : TxN ip (TF ip) (TA ip) := hki.2.1 ip hip _ hcu.1
  obtain ⟨lk, ⟨i2, i3⟩, ⟨i4, i5⟩, ⟨i6, i7⟩, i8, ⟨i9, i11⟩, i10, hrt⟩ := htn2.1
  have hid2 := htn2.2.1
  have hch2 := htn2.2.2
  unfold KcI at hch2
  refine px_get S k_Txp hT hw 4 0 15 (v := .int ((TF ip) 15)) rfl rfl rfl (by decide) m6_133 d_Ker_spawn_2 ?_
  refine lv_imul S.x S.b d_Ker_spawn_5 ?_
  have lr3 := Int32.le_toInt ((TF ip) 15)
  have ur3 := Int32.toInt_lt ((TF ip) 15)
  refine lv_topi (fun z4 ez4 => ?_)
  have lz4 := Int32.le_toInt z4
  have uz4 := Int32.toInt_lt z4
  have tz4 : -2147483648 ≤ 3 * ((TF ip) 15).toInt → 3 * ((TF ip) 15).toInt < 2147483648 → z4.toInt = 3 * ((TF ip) 15).toInt := by rw [ez4]; exact i_mulc 3 ((TF ip) 15) (by decide)
  try replace tz4 : z4.toInt = 3 * ((TF ip) 15).toInt := by omega
  refine lv_aload_n S.x S.b d_Ker_spawn_6 rfl (lv_at hl 1 rfl) ?_
  refine px_get S k_Txp hT hw 4 0 20 (v := .int ((TF ip) 20)) rfl rfl rfl (by decide) m6_149 d_Ker_spawn_7 ?_
  refine lv_iadd S.x S.b d_Ker_spawn_10 ?_
  have lr5 := Int32.le_toInt ((TF ip) 20)
  have ur5 := Int32.toInt_lt ((TF ip) 20)
  refine lv_topi (fun z6 ez6 => ?_)
  have tz6 : z6.toInt = (z4.toInt + ((TF ip) 20).toInt + 2147483648) % 4294967296 - 2147483648 := by rw [ez6]; exact i_add z4 ((TF ip) 20)
  have lz6 := Int32.le_toInt z6
  have uz6 := Int32.toInt_lt z6
  try replace tz6 : z6.toInt = z4.toInt + ((TF ip) 20).toInt := by omega
  refine lv_iconst (v := 1) S.x S.b d_Ker_spawn_11 (by decide) ?_
  refine lv_iadd S.x S.b d_Ker_spawn_12 ?_
  refine lv_topi (fun z7 ez7 => ?_)
  have tz7 : z7.toInt = (z6.toInt + (1 : Int) + 2147483648) % 4294967296 - 2147483648 := by rw [ez7]; exact i_add z6 1
  have lz7 := Int32.le_toInt z7
  have uz7 := Int32.toInt_lt z7
  try replace tz7 : z7.toInt = z6.toInt + (1 : Int) := by omega
  refine lv_istore (lv' := [(4, .int z7), (0, .ref hk), (1, .ref hx), (2, .int p0), (3, .int p1)]) S.x S.b d_Ker_spawn_13 hl (by decide) rfl (fun ls hl => ?_)
  refine lv_iload_n S.x S.b d_Ker_spawn_15 rfl (lv_at hl 3 rfl) ?_
  refine lv_if_lt (tgt := 49) S.x S.b d_Ker_spawn_16 (by decide) (fun c8 => ?_) (fun c8 => ?_)
  · have nc8 : p0.toInt < (0 : Int) := (i_lt (x := p0) (y := 0)).mp c8
    refine lv_iconst (v := (-1)) S.x S.b d_Ker_spawn_49 (by decide) ?_
    have hw : pw D A s.heap _ _ [wd_Ker cs hk kr (fun _ => none) kf ka (gKe pq pz tq rq), fm 13 (fRw cs rq RR RM RW RF RA RC), fm 8 (fPp cs pq PV), fm 13 (fTx cs tq TR TO TF TA)] := ftx_back (pr := [wd_Ker cs hk kr (fun _ => none) kf ka (gKe pq pz tq rq), fm 13 (fRw cs rq RR RM RW RF RA RC), fm 8 (fPp cs pq PV)]) hw hip hcu.1 hto1
    have hw : pw D A s.heap _ _ [wd_Ker cs hk kr (fun _ => none) kf ka (gKe pq pz tq rq), fm 13 (fTx cs tq TR TO TF TA), fm 13 (fRw cs rq RR RM RW RF RA RC), fm 8 (fPp cs pq PV)] := hw.sub [0, 3, 1, 2] rfl rfl
    exact pg_iret (v := (-1)) S hr rfl hlk hAe hw (show 0 ≤ (5 * ndS 13 tq + 4 * ndS 13 rq + ndS 13 RM) from by first | exact oz_86e49526c7 | omega) (show 0 ≤ (9804 * ndS 13 tq + 342 * ndS 13 rq + 36864 * ndS 13 RM) from by first | exact oz_fc3b58e969 | omega) (⟨pz, tq, rq, ka, TR, TO, TF, TA, RR, RM, RW, RF, RA, RC, rfl, (show CuT pq PV tq TO ip hx from hcu), (show KnI pq PV pz tq rq TO TF TA RW RF from hki), (show RoI ka from hro), (show RmI rq RM from hrm), (show 0 + (5 * ndS 13 tq + 4 * ndS 13 rq + ndS 13 RM) ≤ 5 * ndS 13 tq + 4 * ndS 13 rq + ndS 13 RM from by first | exact oz_9d19b050ad | omega), (show 0 + (9804 * ndS 13 tq + 342 * ndS 13 rq + 36864 * ndS 13 RM) ≤ 9804 * ndS 13 tq + 342 * ndS 13 rq + 36864 * ndS 13 RM from by first | exact oz_b5592d0ae7 | omega)⟩) d_Ker_spawn_50
  · have nc8 : ¬ p0.toInt < (0 : Int) := mt (i_lt (x := p0) (y := 0)).mpr c8
    refine lv_iload_n S.x S.b d_Ker_spawn_19 rfl (lv_at hl 3 rfl) ?_
    refine lv_bipush (v := 8) S.x S.b d_Ker_spawn_20 (by decide) ?_
    refine lv_icmp_ge (tgt := 49) S.x S.b d_Ker_spawn_22 (by decide) (fun c9 => ?_) (fun c9 => ?_)
    · have nc9 : (8 : Int) ≤ p0.toInt := (i_le (x := 8) (y := p0)).mp c9
      refine lv_iconst (v := (-1)) S.x S.b d_Ker_spawn_49 (by decide) ?_
      have hw : pw D A s.heap _ _ [wd_Ker cs hk kr (fun _ => none) kf ka (gKe pq pz tq rq), fm 13 (fRw cs rq RR RM RW RF RA RC), fm 8 (fPp cs pq PV), fm 13 (fTx cs tq TR TO TF TA)] := ftx_back (pr := [wd_Ker cs hk kr (fun _ => none) kf ka (gKe pq pz tq rq), fm 13 (fRw cs rq RR RM RW RF RA RC), fm 8 (fPp cs pq PV)]) hw hip hcu.1 hto1
      have hw : pw D A s.heap _ _ [wd_Ker cs hk kr (fun _ => none) kf ka (gKe pq pz tq rq), fm 13 (fTx cs tq TR TO TF TA), fm 13 (fRw cs rq RR RM RW RF RA RC), fm 8 (fPp cs pq PV)] := hw.sub [0, 3, 1, 2] rfl rfl
      exact pg_iret (v := (-1)) S hr rfl hlk hAe hw (show 0 ≤ (5 * ndS 13 tq + 4 * ndS 13 rq + ndS 13 RM) from by first | exact oz_86e49526c7 | omega) (show 0 ≤ (9804 * ndS 13 tq + 342 * ndS 13 rq + 36864 * ndS 13 RM) from by first | exact oz_fc3b58e969 | omega) (⟨pz, tq, rq, ka, TR, TO, TF, TA, RR, RM, RW, RF, RA, RC, rfl, (show CuT pq PV tq TO ip hx from hcu), (show KnI pq PV pz tq rq TO TF TA RW RF from hki), (show RoI ka from hro), (show RmI rq RM from hrm), (show 0 + (5 * ndS 13 tq + 4 * ndS 13 rq + ndS 13 RM) ≤ 5 * ndS 13 tq + 4 * ndS 13 rq + ndS 13 RM from by first | exact oz_9d19b050ad | omega), (show 0 + (9804 * ndS 13 tq + 342 * ndS 13 rq + 36864 * ndS 13 RM) ≤ 9804 * ndS 13 tq + 342 * ndS 13 rq + 36864 * ndS 13 RM from by first | exact oz_b5592d0ae7 | omega)⟩) d_Ker_spawn_50
    · have nc9 : ¬ (8 : Int) ≤ p0.toInt := mt (i_le (x := 8) (y := p0)).mpr c9
      refine lv_aload_n S.x S.b d_Ker_spawn_25 rfl (lv_at hl 1 rfl) ?_
      refine px_get S k_Ker hT hw 0 0 0 (v := .ref (kr 0)) rfl rfl rfl (by decide) m2_218 d_Ker_spawn_26 ?_
      refine lv_iload_n S.x S.b d_Ker_spawn_29 rfl (lv_at hl 3 rfl) ?_
      refine px_aald S hT hw 0 1 5 (n := 8) (f := pq) rfl rfl rfl (x := p0) (vp_in_iff.mpr (by first | exact oz_bb879af612 nc8 nc9 | (constructor <;> omega))) d_Ker_spawn_30 ?_
      refine lq_top (fun y10 hy10 => ?_)
      refine lq_ifnull (x := y10) (tgt := 49) S.x S.b d_Ker_spawn_31 (by decide) (fun c11 => ?_) (fun q12 c11 => ?_)
      ·
        subst c11
        have nd0_c11 := nd_0
        have hc13 := cl_nat (x := p0) (by first | exact oz_18a5c06a28 nc8 | omega)
        have hi13 : p0.toNatClampNeg < 8 := by first | exact oz_7b32467f75 hc13 nc9 | omega
        have hr13 := hy10.symm
        refine lv_iconst (v := (-1)) S.x S.b d_Ker_spawn_49 (by decide) ?_
        have hw : pw D A s.heap _ _ [wd_Ker cs hk kr (fun _ => none) kf ka (gKe pq pz tq rq), fm 13 (fRw cs rq RR RM RW RF RA RC), fm 8 (fPp cs pq PV), fm 13 (fTx cs tq TR TO TF TA)] := ftx_back (pr := [wd_Ker cs hk kr (fun _ => none) kf ka (gKe pq pz tq rq), fm 13 (fRw cs rq RR RM RW RF RA RC), fm 8 (fPp cs pq PV)]) hw hip hcu.1 hto1
        have hw : pw D A s.heap _ _ [wd_Ker cs hk kr (fun _ => none) kf ka (gKe pq pz tq rq), fm 13 (fTx cs tq TR TO TF TA), fm 13 (fRw cs rq RR RM RW RF RA RC), fm 8 (fPp cs pq PV)] := hw.sub [0, 3, 1, 2] rfl rfl
        exact pg_iret (v := (-1)) S hr rfl hlk hAe hw (show 0 ≤ (5 * ndS 13 tq + 4 * ndS 13 rq + ndS 13 RM) from by first | exact oz_86e49526c7 | omega) (show 0 ≤ (9804 * ndS 13 tq + 342 * ndS 13 rq + 36864 * ndS 13 RM) from by first | exact oz_fc3b58e969 | omega) (⟨pz, tq, rq, ka, TR, TO, TF, TA, RR, RM, RW, RF, RA, RC, rfl, (show CuT pq PV tq TO ip hx from hcu), (show KnI pq PV pz tq rq TO TF TA RW RF from hki), (show RoI ka from hro), (show RmI rq RM from hrm), (show 0 + (5 * ndS 13 tq + 4 * ndS 13 rq + ndS 13 RM) ≤ 5 * ndS 13 tq + 4 * ndS 13 rq + ndS 13 RM from by first | exact oz_9d19b050ad | omega), (show 0 + (9804 * ndS 13 tq + 342 * ndS 13 rq + 36864 * ndS 13 RM) ≤ 9804 * ndS 13 tq + 342 * ndS 13 rq + 36864 * ndS 13 RM from by first | exact oz_b5592d0ae7 | omega)⟩) d_Ker_spawn_50
      ·
        subst c11
        have nd0_c11 := nd_1 q12
        have hc14 := cl_nat (x := p0) (by first | exact oz_18a5c06a28 nc8 | omega)
        have hi14 : p0.toNatClampNeg < 8 := by first | exact oz_7b32467f75 hc14 nc9 | omega
        have hr14 := hy10.symm
        refine lv_aload_n S.x S.b d_Ker_spawn_34 rfl (lv_at hl 2 rfl) ?_
        refine px_get S k_Txp hT hw 4 0 20 (v := .int ((TF ip) 20)) rfl rfl rfl (by decide) m6_149 d_Ker_spawn_35 ?_
        refine lv_iconst (v := 3) S.x S.b d_Ker_spawn_38 (by decide) ?_
        refine lv_icmp_eq (tgt := 49) S.x S.b d_Ker_spawn_39 (by decide) (fun c15 => ?_) (fun c15 => ?_)
        · have nc15 : ((TF ip) 20).toInt = (3 : Int) := (i_eq (x := ((TF ip) 20)) (y := 3)).mp c15
          refine lv_iconst (v := (-1)) S.x S.b d_Ker_spawn_49 (by decide) ?_
          have hw : pw D A s.heap _ _ [wd_Ker cs hk kr (fun _ => none) kf ka (gKe pq pz tq rq), fm 13 (fRw cs rq RR RM RW RF RA RC), fm 8 (fPp cs pq PV), fm 13 (fTx cs tq TR TO TF TA)] := ftx_back (pr := [wd_Ker cs hk kr (fun _ => none) kf ka (gKe pq pz tq rq), fm 13 (fRw cs rq RR RM RW RF RA RC), fm 8 (fPp cs pq PV)]) hw hip hcu.1 hto1
          have hw : pw D A s.heap _ _ [wd_Ker cs hk kr (fun _ => none) kf ka (gKe pq pz tq rq), fm 13 (fTx cs tq TR TO TF TA), fm 13 (fRw cs rq RR RM RW RF RA RC), fm 8 (fPp cs pq PV)] := hw.sub [0, 3, 1, 2] rfl rfl
          exact pg_iret (v := (-1)) S hr rfl hlk hAe hw (show 0 ≤ (5 * ndS 13 tq + 4 * ndS 13 rq + ndS 13 RM) from by first | exact oz_86e49526c7 | omega) (show 0 ≤ (9804 * ndS 13 tq + 342 * ndS 13 rq + 36864 * ndS 13 RM) from by first | exact oz_fc3b58e969 | omega) (⟨pz, tq, rq, ka, TR, TO, TF, TA, RR, RM, RW, RF, RA, RC, rfl, (show CuT pq PV tq TO ip hx from hcu), (show KnI pq PV pz tq rq TO TF TA RW RF from hki), (show RoI ka from hro), (show RmI rq RM from hrm), (show 0 + (5 * ndS 13 tq + 4 * ndS 13 rq + ndS 13 RM) ≤ 5 * ndS 13 tq + 4 * ndS 13 rq + ndS 13 RM from by first | exact oz_9d19b050ad | omega), (show 0 + (9804 * ndS 13 tq + 342 * ndS 13 rq + 36864 * ndS 13 RM) ≤ 9804 * ndS 13 tq + 342 * ndS 13 rq + 36864 * ndS 13 RM from by first | exact oz_b5592d0ae7 | omega)⟩) d_Ker_spawn_50
        · have nc15 : ¬ ((TF ip) 20).toInt = (3 : Int) := mt (i_eq (x := ((TF ip) 20)) (y := 3)).mpr c15
          refine lv_iload S.x S.b d_Ker_spawn_42 (lv_at hl 0 rfl) ?_
          refine lv_bipush (v := 13) S.x S.b d_Ker_spawn_44 (by decide) ?_
          refine lv_icmp_lt (tgt := 51) S.x S.b d_Ker_spawn_46 (by decide) (fun c16 => ?_) (fun c16 => ?_)
          · have nc16 : z7.toInt < (13 : Int) := (i_lt (x := z7) (y := 13)).mp c16
            refine lv_aload_n S.x S.b d_Ker_spawn_51 rfl (lv_at hl 2 rfl) ?_
            refine lv_dup S.x S.b d_Ker_spawn_52 rfl ?_
            refine px_get S k_Txp hT hw 4 0 20 (v := .int ((TF ip) 20)) rfl rfl rfl (by decide) m6_149 d_Ker_spawn_53 ?_
            refine lv_iconst (v := 1) S.x S.b d_Ker_spawn_56 (by decide) ?_
            refine lv_iadd S.x S.b d_Ker_spawn_57 ?_
            have lr17 := Int32.le_toInt ((TF ip) 20)
            have ur17 := Int32.toInt_lt ((TF ip) 20)
            refine lv_topi (fun z18 ez18 => ?_)
            have tz18 : z18.toInt = (((TF ip) 20).toInt + (1 : Int) + 2147483648) % 4294967296 - 2147483648 := by rw [ez18]; exact i_add ((TF ip) 20) 1
            have lz18 := Int32.le_toInt z18
            have uz18 := Int32.toInt_lt z18
            try replace tz18 : z18.toInt = ((TF ip) 20).toInt + (1 : Int) := by omega
            refine px_put S k_Txp hT hw 4 0 20 rfl rfl (by decide) m6_149 rfl rfl rfl (Nat.le_of_ble_eq_true rfl) d_Ker_spawn_58 (w' := wd_Txp cs hx (TR ip) (fun k => if k = 3 then (some hp1) else none) (upd (TF ip) 20 z18) (TA ip) (fun _ _ => none)) (ps' := [wd_Ker cs hk kr (fun _ => none) kf ka (gKe pq pz tq rq), fm 13 (fRw cs rq RR RM RW RF RA RC), fm 8 (fPp cs pq PV), fo 13 (fTx cs tq TR TO TF TA) ip, wd_Txp cs hx (TR ip) (fun k => if k = 3 then (some hp1) else none) (upd (TF ip) 20 z18) (TA ip) (fun _ _ => none)]) rfl rfl (fun H locs hw => ?_)
            refine lv_aload_n S.x S.b d_Ker_spawn_61 rfl (lv_at hl 1 rfl) ?_
            refine lv_iload S.x S.b d_Ker_spawn_62 (lv_at hl 0 rfl) ?_
            refine lv_aload_n S.x S.b d_Ker_spawn_64 rfl (lv_at hl 1 rfl) ?_
            refine px_get S k_Ker hT hw 0 0 0 (v := .ref (kr 0)) rfl rfl rfl (by decide) m2_218 d_Ker_spawn_65 ?_
            refine lv_iload_n S.x S.b d_Ker_spawn_68 rfl (lv_at hl 3 rfl) ?_
            refine px_aaldS S hT hw 0 1 5 (n := 8) (f := pq) rfl rfl rfl (x := p0) (vp_in_iff.mpr (by first | exact oz_bb879af612 nc8 nc9 | (constructor <;> omega))) (sk := q12) hr14 d_Ker_spawn_69 ?_
            refine lv_iload_n S.x S.b d_Ker_spawn_70 rfl (lv_at hl 4 rfl) ?_
            have hw := ftx_in0 (pr := [wd_Ker cs hk kr (fun _ => none) kf ka (gKe pq pz tq rq), fm 13 (fRw cs rq RR RM RW RF RA RC), fm 8 (fPp cs pq PV)]) hw hip hcu.1 hto1
            obtain ⟨TF19, hu_TF19⟩ : ∃ y : Nat → Nat → Int32, y = va_up TF ip (upd (TF ip) 20 z18) := ⟨_, rfl⟩
            obtain ⟨TA20, hu_TA20⟩ : ∃ y : Nat → Nat → Nat → Int32, y = va_up TA ip (TA ip) := ⟨_, rfl⟩
            have hw : pw D A s.heap _ _ [wd_Ker cs hk kr (fun _ => none) kf ka (gKe pq pz tq rq), fm 13 (fRw cs rq RR RM RW RF RA RC), fm 8 (fPp cs pq PV), fm 13 (fTx cs tq TR TO TF19 TA20)] := (by rw [hu_TF19, hu_TA20]; exact hw)
            have hki : KnI pq PV pz tq rq TO TF19 TA20 RW RF := (by rw [hu_TF19, hu_TA20]; exact hki.upT (show TxN ip (upd (TF ip) 20 z18) (TA ip) from ⟨(show TxOk ((TF ip) 4) ((TF ip) 5) ((TF ip) 8) ((TF ip) 9) ((TF ip) 17) ((TF ip) 21) ((TA ip) 2) from ⟨(by first | exact lk | exact lk_eq lk (by omega) | exact lk_mk (by omega)), ⟨by omega, by omega⟩, ⟨by omega, by omega⟩, ⟨by omega, by omega⟩, by omega, ⟨by omega, by omega⟩, by omega, hrt⟩), (show (((TF ip) 15).toInt) = ((ip : Nat) : Int) from by first | with_reducible rfl | with_reducible assumption | omega), (show 0 ≤ z18.toInt ∧ z18.toInt ≤ 3 ∧ (z18.toInt = 0 ∨ 3 * ((ip : Nat) : Int) + z18.toInt ≤ 12) from by first | with_reducible rfl | with_reducible assumption | omega)⟩))
            have hz21_TF19 : (TF19 ip 21).toInt = ((TF ip) 21).toInt := (by rw [hu_TF19, va_up_s]; try rfl)
            have hw : pw D A s.heap _ _ [wd_Ker cs hk kr (fun _ => none) kf ka (gKe pq pz tq rq), fm 13 (fTx cs tq TR TO TF19 TA20), fm 13 (fRw cs rq RR RM RW RF RA RC), fm 8 (fPp cs pq PV)] := hw.sub [0, 3, 1, 2] rfl rfl
            refine pg_callv (pr := []) (px_runV (As := [.int z7, .ref q12, .int p1]) (rest := []) S (c_k_begin l D cs hk kr pq kf PV pz tq rq ka TR TO TF19 TA20 RR RM RW RF RA RC z7 p1 p0.toNatClampNeg q12 (show 0 ≤ z7.toInt from by first | with_reducible rfl | with_reducible assumption | omega) (show z7.toInt ≤ 12 from by first | exact oz_5a0ed8b3c3 nc16 | omega) (show 0 ≤ (kf 8).toInt from by first | exact g0 | omega) (show (kf 8).toInt ≤ 100 from by first | exact g1 | omega) hki hro hrm hi14 hr14 _ _) hT (pr := []) (pcs := [wd_Ker cs hk kr (fun _ => none) kf ka (gKe pq pz tq rq), fm 13 (fTx cs tq TR TO TF19 TA20), fm 13 (fRw cs rq RR RM RW RF RA RC), fm 8 (fPp cs pq PV)]) hw (px_X.tot px_X.tt) (px_recv hT hw 0 0 rfl rfl rfl) m6_115 m6_112 m6_114 ms_5_5 m1_19 q_Ker_begin ⟨Nat.le_of_ble_eq_true rfl, Nat.le_of_ble_eq_true rfl⟩ hl.1 rfl (Nat.le_of_ble_eq_true rfl) d_Ker_spawn_71 ⟨show 0 + (5 * ndS 13 tq + 4 * ndS 13 rq + ndS 13 RM) ≤ (5 * ndS 13 tq + 4 * ndS 13 rq + ndS 13 RM) from by first | with_reducible rfl | with_reducible assumption | omega, show 0 + (9804 * ndS 13 tq + 342 * ndS 13 rq + 36864 * ndS 13 RM) ≤ (9804 * ndS 13 tq + 342 * ndS 13 rq + 36864 * ndS 13 RM) from by first | with_reducible rfl | with_reducible assumption | omega⟩) hw hA (fun p49 k51 n52 H locs hp49 hw => ?_)
            dsimp only at hp49
            obtain ⟨pz35, tq36, rq37, ka38, TR39, TO40, TF41, TA42, RR43, RM44, RW45, RF46, RA47, RC48, rfl, e53, e54, e55, e56, e57, e58, e59⟩ := hp49
            replace e53 : KpQ z7.toNatClampNeg tq TO rq RW tq36 TO40 rq37 RW45 := e53
            have hcl9 := cl_nat (x := z7) (by first | exact oz_016f458179 hcl9 | omega)
            have hcu60 := hcu.oth e53 (by omega)
            obtain ⟨j61, hp61, hj61, hjq61, hto61, hf061⟩ := hcu60.2
            replace e54 : KpG z7.toNatClampNeg RF RF46 := e54
            have hkg62 : (RF46 ip 14).toInt = (RF ip 14).toInt := (by rw [e54 ip (by omega)])
            replace e55 : KnI pq PV pz35 tq36 rq37 TO40 TF41 TA42 RW45 RF46 := e55
            have hki := e55
            replace e56 : RoI ka38 := e56
            have hro := e56
            replace e57 : RmI rq37 RM44 := e57
            have hrm := e57
            replace e58 : k51 + (5 * ndS 13 tq36 + 4 * ndS 13 rq37 + ndS 13 RM44) ≤ 5 * ndS 13 tq + 4 * ndS 13 rq + ndS 13 RM := e58
            replace e59 : n52 + (9804 * ndS 13 tq36 + 342 * ndS 13 rq37 + 36864 * ndS 13 RM44) ≤ 9804 * ndS 13 tq + 342 * ndS 13 rq + 36864 * ndS 13 RM := e59
            replace hw : pw D A s.heap H locs [wd_Ker cs hk kr (fun _ => none) kf ka38 (gKe pq pz35 tq36 rq37), fm 13 (fTx cs tq36 TR39 TO40 TF41 TA42), fm 13 (fRw cs rq37 RR43 RM44 RW45 RF46 RA47 RC48), fm 8 (fPp cs pq PV)] := hw
            refine lv_aload_n S.x S.b d_Ker_spawn_74 rfl (lv_at hl 2 rfl) ?_
            have hw : pw D A s.heap _ _ [wd_Ker cs hk kr (fun _ => none) kf ka38 (gKe pq pz35 tq36 rq37), fm 13 (fRw cs rq37 RR43 RM44 RW45 RF46 RA47 RC48), fm 8 (fPp cs pq PV), fm 13 (fTx cs tq36 TR39 TO40 TF41 TA42)] := hw.sub [0, 2, 3, 1] rfl rfl
            have hw : pw D A s.heap _ _ [wd_Ker cs hk kr (fun _ => none) kf ka38 (gKe pq pz35 tq36 rq37), fm 13 (fRw cs rq37 RR43 RM44 RW45 RF46 RA47 RC48), fm 8 (fPp cs pq PV), fo 13 (fTx cs tq36 TR39 TO40 TF41 TA42) ip, wd_Txp cs hx (TR39 ip) (fun k => if k = 3 then (some hp61) else none) (TF41 ip) (TA42 ip) (fun _ _ => none)] := ftx_out (pr := [wd_Ker cs hk kr (fun _ => none) kf ka38 (gKe pq pz35 tq36 rq37), fm 13 (fRw cs rq37 RR43 RM44 RW45 RF46 RA47 RC48), fm 8 (fPp cs pq PV)]) hw hip hcu60.1 hto61
            have htn63 : TxN ip (TF41 ip) (TA42 ip) := hki.2.1 ip hip _ hcu60.1
            obtain ⟨lk, ⟨i2, i3⟩, ⟨i4, i5⟩, ⟨i6, i7⟩, i8, ⟨i9, i11⟩, i10, hrt⟩ := htn63.1
            have hid63 := htn63.2.1
            have hch63 := htn63.2.2
            unfold KcI at hch63
            refine px_get S k_Txp hT hw 4 0 20 (v := .int ((TF41 ip) 20)) rfl rfl rfl (by decide) m6_149 d_Ker_spawn_75 ?_
            have hw : pw D A s.heap _ _ [wd_Ker cs hk kr (fun _ => none) kf ka38 (gKe pq pz35 tq36 rq37), fm 13 (fRw cs rq37 RR43 RM44 RW45 RF46 RA47 RC48), fm 8 (fPp cs pq PV), fm 13 (fTx cs tq36 TR39 TO40 TF41 TA42)] := ftx_back (pr := [wd_Ker cs hk kr (fun _ => none) kf ka38 (gKe pq pz35 tq36 rq37), fm 13 (fRw cs rq37 RR43 RM44 RW45 RF46 RA47 RC48), fm 8 (fPp cs pq PV)]) hw hip hcu60.1 hto61
            have hw : pw D A s.heap _ _ [wd_Ker cs hk kr (fun _ => none) kf ka38 (gKe pq pz35 tq36 rq37), fm 13 (fTx cs tq36 TR39 TO40 TF41 TA42), fm 13 (fRw cs rq37 RR43 RM44 RW45 RF46 RA47 RC48), fm 8 (fPp cs pq PV)] := hw.sub [0, 3, 1, 2] rfl rfl
            exact pg_iret (v := ((TF41 ip) 20)) S hr rfl hlk hAe hw (show (0 + k51) ≤ (5 * ndS 13 tq + 4 * ndS 13 rq + ndS 13 RM) from by first | exact oz_c18bd8c19e e58 | omega) (show (0 + n52) ≤ (9804 * ndS 13 tq + 342 * ndS 13 rq + 36864 * ndS 13 RM) from by first | exact oz_a5e7637f35 e59 | omega) (⟨pz35, tq36, rq37, ka38, TR39, TO40, TF41, TA42, RR43, RM44, RW45, RF46, RA47, RC48, rfl, (show CuT pq PV tq36 TO40 ip hx from hcu60), (show KnI pq PV pz35 tq36 rq37 TO40 TF41 TA42 RW45 RF46 from hki), (show RoI ka38 from hro), (show RmI rq37 RM44 from hrm), (show (0 + k51) + (5 * ndS 13 tq36 + 4 * ndS 13 rq37 + ndS 13 RM44) ≤ 5 * ndS 13 tq + 4 * ndS 13 rq + ndS 13 RM from by first | exact oz_83cb35c84f e58 | omega), (show (0 + n52) + (9804 * ndS 13 tq36 + 342 * ndS 13 rq37 + 36864 * ndS 13 RM44) ≤ 9804 * ndS 13 tq + 342 * ndS 13 rq + 36864 * ndS 13 RM from by first | exact oz_0878d13dda e59 | omega)⟩) d_Ker_spawn_78
          · have nc16 : ¬ z7.toInt < (13 : Int) := mt (i_lt (x := z7) (y := 13)).mpr c16
            refine lv_iconst (v := (-1)) S.x S.b d_Ker_spawn_49 (by decide) ?_
            have hw : pw D A s.heap _ _ [wd_Ker cs hk kr (fun _ => none) kf ka (gKe pq pz tq rq), fm 13 (fRw cs rq RR RM RW RF RA RC), fm 8 (fPp cs pq PV), fm 13 (fTx cs tq TR TO TF TA)] := ftx_back (pr := [wd_Ker cs hk kr (fun _ => none) kf ka (gKe pq pz tq rq), fm 13 (fRw cs rq RR RM RW RF RA RC), fm 8 (fPp cs pq PV)]) hw hip hcu.1 hto1
            have hw : pw D A s.heap _ _ [wd_Ker cs hk kr (fun _ => none) kf ka (gKe pq pz tq rq), fm 13 (fTx cs tq TR TO TF TA), fm 13 (fRw cs rq RR RM RW RF RA RC), fm 8 (fPp cs pq PV)] := hw.sub [0, 3, 1, 2] rfl rfl
            exact pg_iret (v := (-1)) S hr rfl hlk hAe hw (show 0 ≤ (5 * ndS 13 tq + 4 * ndS 13 rq + ndS 13 RM) from by first | exact oz_86e49526c7 | omega) (show 0 ≤ (9804 * ndS 13 tq + 342 * ndS 13 rq + 36864 * ndS 13 RM) from by first | exact oz_fc3b58e969 | omega) (⟨pz, tq, rq, ka, TR, TO, TF, TA, RR, RM, RW, RF, RA, RC, rfl, (show CuT pq PV tq TO ip hx from hcu), (show KnI pq PV pz tq rq TO TF TA RW RF from hki), (show RoI ka from hro), (show RmI rq RM from hrm), (show 0 + (5 * ndS 13 tq + 4 * ndS 13 rq + ndS 13 RM) ≤ 5 * ndS 13 tq + 4 * ndS 13 rq + ndS 13 RM from by first | exact oz_9d19b050ad | omega), (show 0 + (9804 * ndS 13 tq + 342 * ndS 13 rq + 36864 * ndS 13 RM) ≤ 9804 * ndS 13 tq + 342 * ndS 13 rq + 36864 * ndS 13 RM from by first | exact oz_b5592d0ae7 | omega)⟩) d_Ker_spawn_50
set_option maxHeartbeats 4000000 in
set_option maxRecDepth 100000 in
theorem c_k_spawn_R (l : Launch) (D : va_G) (cs : Nat → ClassId) (hk : Nat) (kr : Nat → Nat) (pq : Nat → Option Nat) (kf : Nat → Int32) (PV : Nat → Pvs) (pz : Nat → Option Nat) (tq : Nat → Option Nat) (rq : Nat → Option Nat) (ka : Nat → Nat → Int32) (TR : Nat → Nat → Nat) (TO : Nat → Option Nat) (TF : Nat → Nat → Int32) (TA : Nat → Nat → Nat → Int32) (RR : Nat → Nat → Nat) (RM : Nat → Option Nat) (RW : Nat → Option Nat) (RF : Nat → Nat → Int32) (RA : Nat → Nat → Nat → Int32) (RC : Nat → Nat → Int32) (p0 p1 : Int32) (ip hx : Nat) (g0 : 0 ≤ (kf 8).toInt) (g1 : (kf 8).toInt ≤ 100) (hki : KnI pq PV pz tq rq TO TF TA RW RF) (hro : RoI ka) (hrm : RmI rq RM) (hip : ip < 13) (hcu : CuR pq PV rq RW ip hx) : MgI l y_Ker_spawn b_Ker_spawn 5 (.int) D cs 6 240 ((5 * ndS 13 tq + 4 * ndS 13 rq + ndS 13 RM)) ((9804 * ndS 13 tq + 342 * ndS 13 rq + 36864 * ndS 13 RM)) [.ref hk, .ref hx, .int p0, .int p1] [wd_Ker cs hk kr (fun _ => none) kf ka (gKe pq pz tq rq), fm 13 (fTx cs tq TR TO TF TA), fm 13 (fRw cs rq RR RM RW RF RA RC), fm 8 (fPp cs pq PV)] (fun _ => True) (fun v ps => ∃ (pz' : Nat → Option Nat) (tq' : Nat → Option Nat) (rq' : Nat → Option Nat) (ka' : Nat → Nat → Int32) (TR' : Nat → Nat → Nat) (TO' : Nat → Option Nat) (TF' : Nat → Nat → Int32) (TA' : Nat → Nat → Nat → Int32) (RR' : Nat → Nat → Nat) (RM' : Nat → Option Nat) (RW' : Nat → Option Nat) (RF' : Nat → Nat → Int32) (RA' : Nat → Nat → Nat → Int32) (RC' : Nat → Nat → Int32), (ps.1 = [wd_Ker cs hk kr (fun _ => none) kf ka' (gKe pq pz' tq' rq'), fm 13 (fTx cs tq' TR' TO' TF' TA'), fm 13 (fRw cs rq' RR' RM' RW' RF' RA' RC'), fm 8 (fPp cs pq PV)]) ∧ (CuR pq PV rq' RW' ip hx) ∧ ((RF' ip 14).toInt = (RF ip 14).toInt) ∧ (KnI pq PV pz' tq' rq' TO' TF' TA' RW' RF') ∧ (RoI ka') ∧ (RmI rq' RM') ∧ (ps.2.1 + (5 * ndS 13 tq' + 4 * ndS 13 rq' + ndS 13 RM') ≤ 5 * ndS 13 tq + 4 * ndS 13 rq + ndS 13 RM) ∧ (ps.2.2 + (9804 * ndS 13 tq' + 342 * ndS 13 rq' + 36864 * ndS 13 RM') ≤ 9804 * ndS 13 tq + 342 * ndS 13 rq + 36864 * ndS 13 RM)) := by
  refine pg_enter (by decide) (Nat.le_of_ble_eq_true rfl) ?_
  intro p e s m below meth c A ls hAe S hr hlk hnm hA hT hX hw hl
  replace hl : lv_has ls 5 [(0, .ref hk), (1, .ref hx), (2, .int p0), (3, .int p1)] := hl
  have lp0 := Int32.le_toInt p0
  have up0 := Int32.toInt_lt p0
  have lp1 := Int32.le_toInt p1
  have up1 := Int32.toInt_lt p1
  have cstm1 : ((-1) : Int32).toInt = (-1) := rfl
  have cst1 : (1 : Int32).toInt = 1 := rfl
  have cst3 : (3 : Int32).toInt = 3 := rfl
  have cst8 : (8 : Int32).toInt = 8 := rfl
  have cst13 : (13 : Int32).toInt = 13 := rfl
  refine lv_iconst (v := 3) S.x S.b d_Ker_spawn_0 (by decide) ?_
  obtain ⟨j1, hp1, hj1, hjq1, hto1⟩ := hcu.2
  refine lv_aload_n S.x S.b d_Ker_spawn_1 rfl (lv_at hl 1 rfl) ?_
  have hw : pw D A s.heap _ _ [wd_Ker cs hk kr (fun _ => none) kf ka (gKe pq pz tq rq), fm 13 (fTx cs tq TR TO TF TA), fm 8 (fPp cs pq PV), fm 13 (fRw cs rq RR RM RW RF RA RC)] := hw.sub [0, 1, 3, 2] rfl rfl
  have hw : pw D A s.heap _ _ [wd_Ker cs hk kr (fun _ => none) kf ka (gKe pq pz tq rq), fm 13 (fTx cs tq TR TO TF TA), fm 8 (fPp cs pq PV), fo 13 (fRw cs rq RR RM RW RF RA RC) ip, wd_Raw cs hx (RR ip) (fun k => if k = 2 then (RM ip) else if k = 4 then (some ((PV j1).r 1)) else none) (RF ip) (RA ip) (fun _ _ => none), nA cs (RM ip) 36864 (RC ip)] := frw_out (pr := [wd_Ker cs hk kr (fun _ => none) kf ka (gKe pq pz tq rq), fm 13 (fTx cs tq TR TO TF TA), fm 8 (fPp cs pq PV)]) hw hip hcu.1 hto1
  have hng2 := ndS_ge 13 RM ip hip
  have hrn2 : RwN ip (RF ip) := hki.2.2.1 ip hip _ hcu.1
  have hro2 := hrn2.1
  unfold RwO at hro2
  have hid2 := hrn2.2.1
  have hch2 := hrn2.2.2
  unfold KcI at hch2
  refine px_get S k_Raw hT hw 4 0 8 (v := .int ((RF ip) 8)) rfl rfl rfl (by decide) m6_133 d_Ker_spawn_2 ?_
  refine lv_imul S.x S.b d_Ker_spawn_5 ?_
  have lr3 := Int32.le_toInt ((RF ip) 8)
  have ur3 := Int32.toInt_lt ((RF ip) 8)
  refine lv_topi (fun z4 ez4 => ?_)
  have lz4 := Int32.le_toInt z4
  have uz4 := Int32.toInt_lt z4
  have tz4 : -2147483648 ≤ 3 * ((RF ip) 8).toInt → 3 * ((RF ip) 8).toInt < 2147483648 → z4.toInt = 3 * ((RF ip) 8).toInt := by rw [ez4]; exact i_mulc 3 ((RF ip) 8) (by decide)
  try replace tz4 : z4.toInt = 3 * ((RF ip) 8).toInt := by omega
  refine lv_aload_n S.x S.b d_Ker_spawn_6 rfl (lv_at hl 1 rfl) ?_
  refine px_get S k_Raw hT hw 4 0 13 (v := .int ((RF ip) 13)) rfl rfl rfl (by decide) m6_149 d_Ker_spawn_7 ?_
  refine lv_iadd S.x S.b d_Ker_spawn_10 ?_
  have lr5 := Int32.le_toInt ((RF ip) 13)
  have ur5 := Int32.toInt_lt ((RF ip) 13)
  refine lv_topi (fun z6 ez6 => ?_)
  have tz6 : z6.toInt = (z4.toInt + ((RF ip) 13).toInt + 2147483648) % 4294967296 - 2147483648 := by rw [ez6]; exact i_add z4 ((RF ip) 13)
  have lz6 := Int32.le_toInt z6
  have uz6 := Int32.toInt_lt z6
  try replace tz6 : z6.toInt = z4.toInt + ((RF ip) 13).toInt := by omega
  refine lv_iconst (v := 1) S.x S.b d_Ker_spawn_11 (by decide) ?_
  refine lv_iadd S.x S.b d_Ker_spawn_12 ?_
  refine lv_topi (fun z7 ez7 => ?_)
  have tz7 : z7.toInt = (z6.toInt + (1 : Int) + 2147483648) % 4294967296 - 2147483648 := by rw [ez7]; exact i_add z6 1
  have lz7 := Int32.le_toInt z7
  have uz7 := Int32.toInt_lt z7
  try replace tz7 : z7.toInt = z6.toInt + (1 : Int) := by omega
  refine lv_istore (lv' := [(4, .int z7), (0, .ref hk), (1, .ref hx), (2, .int p0), (3, .int p1)]) S.x S.b d_Ker_spawn_13 hl (by decide) rfl (fun ls hl => ?_)
  refine lv_iload_n S.x S.b d_Ker_spawn_15 rfl (lv_at hl 3 rfl) ?_
  refine lv_if_lt (tgt := 49) S.x S.b d_Ker_spawn_16 (by decide) (fun c8 => ?_) (fun c8 => ?_)
  · have nc8 : p0.toInt < (0 : Int) := (i_lt (x := p0) (y := 0)).mp c8
    refine lv_iconst (v := (-1)) S.x S.b d_Ker_spawn_49 (by decide) ?_
    have hw : pw D A s.heap _ _ [wd_Ker cs hk kr (fun _ => none) kf ka (gKe pq pz tq rq), fm 13 (fTx cs tq TR TO TF TA), fm 8 (fPp cs pq PV), fm 13 (fRw cs rq RR RM RW RF RA RC)] := frw_back (pr := [wd_Ker cs hk kr (fun _ => none) kf ka (gKe pq pz tq rq), fm 13 (fTx cs tq TR TO TF TA), fm 8 (fPp cs pq PV)]) hw hip hcu.1 hto1
    have hw : pw D A s.heap _ _ [wd_Ker cs hk kr (fun _ => none) kf ka (gKe pq pz tq rq), fm 13 (fTx cs tq TR TO TF TA), fm 13 (fRw cs rq RR RM RW RF RA RC), fm 8 (fPp cs pq PV)] := hw.sub [0, 1, 3, 2] rfl rfl
    exact pg_iret (v := (-1)) S hr rfl hlk hAe hw (show 0 ≤ (5 * ndS 13 tq + 4 * ndS 13 rq + ndS 13 RM) from by first | exact oz_86e49526c7 | omega) (show 0 ≤ (9804 * ndS 13 tq + 342 * ndS 13 rq + 36864 * ndS 13 RM) from by first | exact oz_fc3b58e969 | omega) (⟨pz, tq, rq, ka, TR, TO, TF, TA, RR, RM, RW, RF, RA, RC, rfl, (show CuR pq PV rq RW ip hx from hcu), (show (RF ip 14).toInt = (RF ip 14).toInt from rfl), (show KnI pq PV pz tq rq TO TF TA RW RF from hki), (show RoI ka from hro), (show RmI rq RM from hrm), (show 0 + (5 * ndS 13 tq + 4 * ndS 13 rq + ndS 13 RM) ≤ 5 * ndS 13 tq + 4 * ndS 13 rq + ndS 13 RM from by first | exact oz_9d19b050ad | omega), (show 0 + (9804 * ndS 13 tq + 342 * ndS 13 rq + 36864 * ndS 13 RM) ≤ 9804 * ndS 13 tq + 342 * ndS 13 rq + 36864 * ndS 13 RM from by first | exact oz_b5592d0ae7 | omega)⟩) d_Ker_spawn_50
  · have nc8 : ¬ p0.toInt < (0 : Int) := mt (i_lt (x := p0) (y := 0)).mpr c8
    refine lv_iload_n S.x S.b d_Ker_spawn_19 rfl (lv_at hl 3 rfl) ?_
    refine lv_bipush (v := 8) S.x S.b d_Ker_spawn_20 (by decide) ?_
    refine lv_icmp_ge (tgt := 49) S.x S.b d_Ker_spawn_22 (by decide) (fun c9 => ?_) (fun c9 => ?_)
    · have nc9 : (8 : Int) ≤ p0.toInt := (i_le (x := 8) (y := p0)).mp c9
      refine lv_iconst (v := (-1)) S.x S.b d_Ker_spawn_49 (by decide) ?_
      have hw : pw D A s.heap _ _ [wd_Ker cs hk kr (fun _ => none) kf ka (gKe pq pz tq rq), fm 13 (fTx cs tq TR TO TF TA), fm 8 (fPp cs pq PV), fm 13 (fRw cs rq RR RM RW RF RA RC)] := frw_back (pr := [wd_Ker cs hk kr (fun _ => none) kf ka (gKe pq pz tq rq), fm 13 (fTx cs tq TR TO TF TA), fm 8 (fPp cs pq PV)]) hw hip hcu.1 hto1
      have hw : pw D A s.heap _ _ [wd_Ker cs hk kr (fun _ => none) kf ka (gKe pq pz tq rq), fm 13 (fTx cs tq TR TO TF TA), fm 13 (fRw cs rq RR RM RW RF RA RC), fm 8 (fPp cs pq PV)] := hw.sub [0, 1, 3, 2] rfl rfl
      exact pg_iret (v := (-1)) S hr rfl hlk hAe hw (show 0 ≤ (5 * ndS 13 tq + 4 * ndS 13 rq + ndS 13 RM) from by first | exact oz_86e49526c7 | omega) (show 0 ≤ (9804 * ndS 13 tq + 342 * ndS 13 rq + 36864 * ndS 13 RM) from by first | exact oz_fc3b58e969 | omega) (⟨pz, tq, rq, ka, TR, TO, TF, TA, RR, RM, RW, RF, RA, RC, rfl, (show CuR pq PV rq RW ip hx from hcu), (show (RF ip 14).toInt = (RF ip 14).toInt from rfl), (show KnI pq PV pz tq rq TO TF TA RW RF from hki), (show RoI ka from hro), (show RmI rq RM from hrm), (show 0 + (5 * ndS 13 tq + 4 * ndS 13 rq + ndS 13 RM) ≤ 5 * ndS 13 tq + 4 * ndS 13 rq + ndS 13 RM from by first | exact oz_9d19b050ad | omega), (show 0 + (9804 * ndS 13 tq + 342 * ndS 13 rq + 36864 * ndS 13 RM) ≤ 9804 * ndS 13 tq + 342 * ndS 13 rq + 36864 * ndS 13 RM from by first | exact oz_b5592d0ae7 | omega)⟩) d_Ker_spawn_50
    · have nc9 : ¬ (8 : Int) ≤ p0.toInt := mt (i_le (x := 8) (y := p0)).mpr c9
      refine lv_aload_n S.x S.b d_Ker_spawn_25 rfl (lv_at hl 1 rfl) ?_
      refine px_get S k_Ker hT hw 0 0 0 (v := .ref (kr 0)) rfl rfl rfl (by decide) m2_218 d_Ker_spawn_26 ?_
      refine lv_iload_n S.x S.b d_Ker_spawn_29 rfl (lv_at hl 3 rfl) ?_
      refine px_aald S hT hw 0 1 5 (n := 8) (f := pq) rfl rfl rfl (x := p0) (vp_in_iff.mpr (by first | exact oz_bb879af612 nc8 nc9 | (constructor <;> omega))) d_Ker_spawn_30 ?_
      refine lq_top (fun y10 hy10 => ?_)
      refine lq_ifnull (x := y10) (tgt := 49) S.x S.b d_Ker_spawn_31 (by decide) (fun c11 => ?_) (fun q12 c11 => ?_)
      ·
        subst c11
        have nd0_c11 := nd_0
        have hc13 := cl_nat (x := p0) (by first | exact oz_18a5c06a28 nc8 | omega)
        have hi13 : p0.toNatClampNeg < 8 := by first | exact oz_7b32467f75 hc13 nc9 | omega
        have hr13 := hy10.symm
        refine lv_iconst (v := (-1)) S.x S.b d_Ker_spawn_49 (by decide) ?_
        have hw : pw D A s.heap _ _ [wd_Ker cs hk kr (fun _ => none) kf ka (gKe pq pz tq rq), fm 13 (fTx cs tq TR TO TF TA), fm 8 (fPp cs pq PV), fm 13 (fRw cs rq RR RM RW RF RA RC)] := frw_back (pr := [wd_Ker cs hk kr (fun _ => none) kf ka (gKe pq pz tq rq), fm 13 (fTx cs tq TR TO TF TA), fm 8 (fPp cs pq PV)]) hw hip hcu.1 hto1
        have hw : pw D A s.heap _ _ [wd_Ker cs hk kr (fun _ => none) kf ka (gKe pq pz tq rq), fm 13 (fTx cs tq TR TO TF TA), fm 13 (fRw cs rq RR RM RW RF RA RC), fm 8 (fPp cs pq PV)] := hw.sub [0, 1, 3, 2] rfl rfl
        exact pg_iret (v := (-1)) S hr rfl hlk hAe hw (show 0 ≤ (5 * ndS 13 tq + 4 * ndS 13 rq + ndS 13 RM) from by first | exact oz_86e49526c7 | omega) (show 0 ≤ (9804 * ndS 13 tq + 342 * ndS 13 rq + 36864 * ndS 13 RM) from by first | exact oz_fc3b58e969 | omega) (⟨pz, tq, rq, ka, TR, TO, TF, TA, RR, RM, RW, RF, RA, RC, rfl, (show CuR pq PV rq RW ip hx from hcu), (show (RF ip 14).toInt = (RF ip 14).toInt from rfl), (show KnI pq PV pz tq rq TO TF TA RW RF from hki), (show RoI ka from hro), (show RmI rq RM from hrm), (show 0 + (5 * ndS 13 tq + 4 * ndS 13 rq + ndS 13 RM) ≤ 5 * ndS 13 tq + 4 * ndS 13 rq + ndS 13 RM from by first | exact oz_9d19b050ad | omega), (show 0 + (9804 * ndS 13 tq + 342 * ndS 13 rq + 36864 * ndS 13 RM) ≤ 9804 * ndS 13 tq + 342 * ndS 13 rq + 36864 * ndS 13 RM from by first | exact oz_b5592d0ae7 | omega)⟩) d_Ker_spawn_50
      ·
        subst c11
        have nd0_c11 := nd_1 q12
        have hc14 := cl_nat (x := p0) (by first | exact oz_18a5c06a28 nc8 | omega)
        have hi14 : p0.toNatClampNeg < 8 := by first | exact oz_7b32467f75 hc14 nc9 | omega
        have hr14 := hy10.symm
        refine lv_aload_n S.x S.b d_Ker_spawn_34 rfl (lv_at hl 2 rfl) ?_
        refine px_get S k_Raw hT hw 4 0 13 (v := .int ((RF ip) 13)) rfl rfl rfl (by decide) m6_149 d_Ker_spawn_35 ?_
        refine lv_iconst (v := 3) S.x S.b d_Ker_spawn_38 (by decide) ?_
        refine lv_icmp_eq (tgt := 49) S.x S.b d_Ker_spawn_39 (by decide) (fun c15 => ?_) (fun c15 => ?_)
        · have nc15 : ((RF ip) 13).toInt = (3 : Int) := (i_eq (x := ((RF ip) 13)) (y := 3)).mp c15
          refine lv_iconst (v := (-1)) S.x S.b d_Ker_spawn_49 (by decide) ?_
          have hw : pw D A s.heap _ _ [wd_Ker cs hk kr (fun _ => none) kf ka (gKe pq pz tq rq), fm 13 (fTx cs tq TR TO TF TA), fm 8 (fPp cs pq PV), fm 13 (fRw cs rq RR RM RW RF RA RC)] := frw_back (pr := [wd_Ker cs hk kr (fun _ => none) kf ka (gKe pq pz tq rq), fm 13 (fTx cs tq TR TO TF TA), fm 8 (fPp cs pq PV)]) hw hip hcu.1 hto1
          have hw : pw D A s.heap _ _ [wd_Ker cs hk kr (fun _ => none) kf ka (gKe pq pz tq rq), fm 13 (fTx cs tq TR TO TF TA), fm 13 (fRw cs rq RR RM RW RF RA RC), fm 8 (fPp cs pq PV)] := hw.sub [0, 1, 3, 2] rfl rfl
          exact pg_iret (v := (-1)) S hr rfl hlk hAe hw (show 0 ≤ (5 * ndS 13 tq + 4 * ndS 13 rq + ndS 13 RM) from by first | exact oz_86e49526c7 | omega) (show 0 ≤ (9804 * ndS 13 tq + 342 * ndS 13 rq + 36864 * ndS 13 RM) from by first | exact oz_fc3b58e969 | omega) (⟨pz, tq, rq, ka, TR, TO, TF, TA, RR, RM, RW, RF, RA, RC, rfl, (show CuR pq PV rq RW ip hx from hcu), (show (RF ip 14).toInt = (RF ip 14).toInt from rfl), (show KnI pq PV pz tq rq TO TF TA RW RF from hki), (show RoI ka from hro), (show RmI rq RM from hrm), (show 0 + (5 * ndS 13 tq + 4 * ndS 13 rq + ndS 13 RM) ≤ 5 * ndS 13 tq + 4 * ndS 13 rq + ndS 13 RM from by first | exact oz_9d19b050ad | omega), (show 0 + (9804 * ndS 13 tq + 342 * ndS 13 rq + 36864 * ndS 13 RM) ≤ 9804 * ndS 13 tq + 342 * ndS 13 rq + 36864 * ndS 13 RM from by first | exact oz_b5592d0ae7 | omega)⟩) d_Ker_spawn_50
        · have nc15 : ¬ ((RF ip) 13).toInt = (3 : Int) := mt (i_eq (x := ((RF ip) 13)) (y := 3)).mpr c15
          refine lv_iload S.x S.b d_Ker_spawn_42 (lv_at hl 0 rfl) ?_
          refine lv_bipush (v := 13) S.x S.b d_Ker_spawn_44 (by decide) ?_
          refine lv_icmp_lt (tgt := 51) S.x S.b d_Ker_spawn_46 (by decide) (fun c16 => ?_) (fun c16 => ?_)
          · have nc16 : z7.toInt < (13 : Int) := (i_lt (x := z7) (y := 13)).mp c16
            refine lv_aload_n S.x S.b d_Ker_spawn_51 rfl (lv_at hl 2 rfl) ?_
            refine lv_dup S.x S.b d_Ker_spawn_52 rfl ?_
            refine px_get S k_Raw hT hw 4 0 13 (v := .int ((RF ip) 13)) rfl rfl rfl (by decide) m6_149 d_Ker_spawn_53 ?_
            refine lv_iconst (v := 1) S.x S.b d_Ker_spawn_56 (by decide) ?_
            refine lv_iadd S.x S.b d_Ker_spawn_57 ?_
            have lr17 := Int32.le_toInt ((RF ip) 13)
            have ur17 := Int32.toInt_lt ((RF ip) 13)
            refine lv_topi (fun z18 ez18 => ?_)
            have tz18 : z18.toInt = (((RF ip) 13).toInt + (1 : Int) + 2147483648) % 4294967296 - 2147483648 := by rw [ez18]; exact i_add ((RF ip) 13) 1
            have lz18 := Int32.le_toInt z18
            have uz18 := Int32.toInt_lt z18
            try replace tz18 : z18.toInt = ((RF ip) 13).toInt + (1 : Int) := by omega
            refine px_put S k_Raw hT hw 4 0 13 rfl rfl (by decide) m6_149 rfl rfl rfl (Nat.le_of_ble_eq_true rfl) d_Ker_spawn_58 (w' := wd_Raw cs hx (RR ip) (fun k => if k = 2 then (RM ip) else if k = 4 then (some ((PV j1).r 1)) else none) (upd (RF ip) 13 z18) (RA ip) (fun _ _ => none)) (ps' := [wd_Ker cs hk kr (fun _ => none) kf ka (gKe pq pz tq rq), fm 13 (fTx cs tq TR TO TF TA), fm 8 (fPp cs pq PV), fo 13 (fRw cs rq RR RM RW RF RA RC) ip, wd_Raw cs hx (RR ip) (fun k => if k = 2 then (RM ip) else if k = 4 then (some ((PV j1).r 1)) else none) (upd (RF ip) 13 z18) (RA ip) (fun _ _ => none), nA cs (RM ip) 36864 (RC ip)]) rfl rfl (fun H locs hw => ?_)
            refine lv_aload_n S.x S.b d_Ker_spawn_61 rfl (lv_at hl 1 rfl) ?_
            refine lv_iload S.x S.b d_Ker_spawn_62 (lv_at hl 0 rfl) ?_
            refine lv_aload_n S.x S.b d_Ker_spawn_64 rfl (lv_at hl 1 rfl) ?_
            refine px_get S k_Ker hT hw 0 0 0 (v := .ref (kr 0)) rfl rfl rfl (by decide) m2_218 d_Ker_spawn_65 ?_
            refine lv_iload_n S.x S.b d_Ker_spawn_68 rfl (lv_at hl 3 rfl) ?_
            refine px_aaldS S hT hw 0 1 5 (n := 8) (f := pq) rfl rfl rfl (x := p0) (vp_in_iff.mpr (by first | exact oz_bb879af612 nc8 nc9 | (constructor <;> omega))) (sk := q12) hr14 d_Ker_spawn_69 ?_
            refine lv_iload_n S.x S.b d_Ker_spawn_70 rfl (lv_at hl 4 rfl) ?_
            have hw := frw_in0 (pr := [wd_Ker cs hk kr (fun _ => none) kf ka (gKe pq pz tq rq), fm 13 (fTx cs tq TR TO TF TA), fm 8 (fPp cs pq PV)]) hw hip hcu.1 hto1
            obtain ⟨RM19, hu_RM19⟩ : ∃ y : Nat → Option Nat, y = va_up RM ip (RM ip) := ⟨_, rfl⟩
            obtain ⟨RF20, hu_RF20⟩ : ∃ y : Nat → Nat → Int32, y = va_up RF ip (upd (RF ip) 13 z18) := ⟨_, rfl⟩
            obtain ⟨RA21, hu_RA21⟩ : ∃ y : Nat → Nat → Nat → Int32, y = va_up RA ip (RA ip) := ⟨_, rfl⟩
            obtain ⟨RC22, hu_RC22⟩ : ∃ y : Nat → Nat → Int32, y = va_up RC ip (RC ip) := ⟨_, rfl⟩
            have hw : pw D A s.heap _ _ [wd_Ker cs hk kr (fun _ => none) kf ka (gKe pq pz tq rq), fm 13 (fTx cs tq TR TO TF TA), fm 8 (fPp cs pq PV), fm 13 (fRw cs rq RR RM19 RW RF20 RA21 RC22)] := (by rw [hu_RM19, hu_RF20, hu_RA21, hu_RC22]; exact hw)
            have hki : KnI pq PV pz tq rq TO TF TA RW RF20 := (by rw [hu_RF20]; exact hki.upR (show RwN ip (upd (RF ip) 13 z18) from ⟨(show (0 ≤ ((RF ip) 7).toInt ∧ ((RF ip) 7).toInt ≤ 1600) ∧ (0 ≤ ((RF ip) 10).toInt ∧ ((RF ip) 10).toInt + ((RF ip) 7).toInt ≤ 1600) ∧ (((RF ip) 14).toInt = 0 ∨ ((RF ip) 14).toInt = 1) ∧ (((RF ip) 14).toInt = 1 → 1 ≤ ((RF ip) 7).toInt) from by first | with_reducible rfl | with_reducible assumption | omega), (show (((RF ip) 8).toInt) = ((ip : Nat) : Int) from by first | with_reducible rfl | with_reducible assumption | omega), (show 0 ≤ z18.toInt ∧ z18.toInt ≤ 3 ∧ (z18.toInt = 0 ∨ 3 * ((ip : Nat) : Int) + z18.toInt ≤ 12) from by first | with_reducible rfl | with_reducible assumption | omega)⟩))
            have hrm : RmI rq RM19 := (by rw [hu_RM19]; exact hrm.up hcu.1)
            have hnd_RM19 := ndS_up 13 RM ip (RM ip) hip; rw [← hu_RM19] at hnd_RM19
            have hz14_RF20 : (RF20 ip 14).toInt = ((RF ip) 14).toInt := (by rw [hu_RF20, va_up_s]; try rfl)
            have hw : pw D A s.heap _ _ [wd_Ker cs hk kr (fun _ => none) kf ka (gKe pq pz tq rq), fm 13 (fTx cs tq TR TO TF TA), fm 13 (fRw cs rq RR RM19 RW RF20 RA21 RC22), fm 8 (fPp cs pq PV)] := hw.sub [0, 1, 3, 2] rfl rfl
            refine pg_callv (pr := []) (px_runV (As := [.int z7, .ref q12, .int p1]) (rest := []) S (c_k_begin l D cs hk kr pq kf PV pz tq rq ka TR TO TF TA RR RM19 RW RF20 RA21 RC22 z7 p1 p0.toNatClampNeg q12 (show 0 ≤ z7.toInt from by first | with_reducible rfl | with_reducible assumption | omega) (show z7.toInt ≤ 12 from by first | exact oz_5a0ed8b3c3 nc16 | omega) (show 0 ≤ (kf 8).toInt from by first | exact g0 | omega) (show (kf 8).toInt ≤ 100 from by first | exact g1 | omega) hki hro hrm hi14 hr14 _ _) hT (pr := []) (pcs := [wd_Ker cs hk kr (fun _ => none) kf ka (gKe pq pz tq rq), fm 13 (fTx cs tq TR TO TF TA), fm 13 (fRw cs rq RR RM19 RW RF20 RA21 RC22), fm 8 (fPp cs pq PV)]) hw (px_X.tot px_X.tt) (px_recv hT hw 0 0 rfl rfl rfl) m6_115 m6_112 m6_114 ms_5_5 m1_19 q_Ker_begin ⟨Nat.le_of_ble_eq_true rfl, Nat.le_of_ble_eq_true rfl⟩ hl.1 rfl (Nat.le_of_ble_eq_true rfl) d_Ker_spawn_71 ⟨show 0 + (5 * ndS 13 tq + 4 * ndS 13 rq + ndS 13 RM19) ≤ (5 * ndS 13 tq + 4 * ndS 13 rq + ndS 13 RM) from by first | with_reducible rfl | with_reducible assumption | omega, show 0 + (9804 * ndS 13 tq + 342 * ndS 13 rq + 36864 * ndS 13 RM19) ≤ (9804 * ndS 13 tq + 342 * ndS 13 rq + 36864 * ndS 13 RM) from by first | with_reducible rfl | with_reducible assumption | omega⟩) hw hA (fun p51 k53 n54 H locs hp51 hw => ?_)
            dsimp only at hp51
            obtain ⟨pz37, tq38, rq39, ka40, TR41, TO42, TF43, TA44, RR45, RM46, RW47, RF48, RA49, RC50, rfl, e55, e56, e57, e58, e59, e60, e61⟩ := hp51
            replace e55 : KpQ z7.toNatClampNeg tq TO rq RW tq38 TO42 rq39 RW47 := e55
            have hcl9 := cl_nat (x := z7) (by first | exact oz_016f458179 hcl9 | omega)
            have hcu62 := hcu.oth e55 (by omega)
            obtain ⟨j63, hp63, hj63, hjq63, hto63⟩ := hcu62.2
            replace e56 : KpG z7.toNatClampNeg RF20 RF48 := e56
            have hkg64 : (RF48 ip 14).toInt = (RF20 ip 14).toInt := (by rw [e56 ip (by omega)])
            replace e57 : KnI pq PV pz37 tq38 rq39 TO42 TF43 TA44 RW47 RF48 := e57
            have hki := e57
            replace e58 : RoI ka40 := e58
            have hro := e58
            replace e59 : RmI rq39 RM46 := e59
            have hrm := e59
            replace e60 : k53 + (5 * ndS 13 tq38 + 4 * ndS 13 rq39 + ndS 13 RM46) ≤ 5 * ndS 13 tq + 4 * ndS 13 rq + ndS 13 RM19 := e60
            replace e61 : n54 + (9804 * ndS 13 tq38 + 342 * ndS 13 rq39 + 36864 * ndS 13 RM46) ≤ 9804 * ndS 13 tq + 342 * ndS 13 rq + 36864 * ndS 13 RM19 := e61
            replace hw : pw D A s.heap H locs [wd_Ker cs hk kr (fun _ => none) kf ka40 (gKe pq pz37 tq38 rq39), fm 13 (fTx cs tq38 TR41 TO42 TF43 TA44), fm 13 (fRw cs rq39 RR45 RM46 RW47 RF48 RA49 RC50), fm 8 (fPp cs pq PV)] := hw
            refine lv_aload_n S.x S.b d_Ker_spawn_74 rfl (lv_at hl 2 rfl) ?_
            have hw : pw D A s.heap _ _ [wd_Ker cs hk kr (fun _ => none) kf ka40 (gKe pq pz37 tq38 rq39), fm 13 (fTx cs tq38 TR41 TO42 TF43 TA44), fm 8 (fPp cs pq PV), fm 13 (fRw cs rq39 RR45 RM46 RW47 RF48 RA49 RC50)] := hw.sub [0, 1, 3, 2] rfl rfl
            have hw : pw D A s.heap _ _ [wd_Ker cs hk kr (fun _ => none) kf ka40 (gKe pq pz37 tq38 rq39), fm 13 (fTx cs tq38 TR41 TO42 TF43 TA44), fm 8 (fPp cs pq PV), fo 13 (fRw cs rq39 RR45 RM46 RW47 RF48 RA49 RC50) ip, wd_Raw cs hx (RR45 ip) (fun k => if k = 2 then (RM46 ip) else if k = 4 then (some ((PV j63).r 1)) else none) (RF48 ip) (RA49 ip) (fun _ _ => none), nA cs (RM46 ip) 36864 (RC50 ip)] := frw_out (pr := [wd_Ker cs hk kr (fun _ => none) kf ka40 (gKe pq pz37 tq38 rq39), fm 13 (fTx cs tq38 TR41 TO42 TF43 TA44), fm 8 (fPp cs pq PV)]) hw hip hcu62.1 hto63
            have hng65 := ndS_ge 13 RM46 ip hip
            have hrn65 : RwN ip (RF48 ip) := hki.2.2.1 ip hip _ hcu62.1
            have hro65 := hrn65.1
            unfold RwO at hro65
            have hid65 := hrn65.2.1
            have hch65 := hrn65.2.2
            unfold KcI at hch65
            refine px_get S k_Raw hT hw 4 0 13 (v := .int ((RF48 ip) 13)) rfl rfl rfl (by decide) m6_149 d_Ker_spawn_75 ?_
            have hw : pw D A s.heap _ _ [wd_Ker cs hk kr (fun _ => none) kf ka40 (gKe pq pz37 tq38 rq39), fm 13 (fTx cs tq38 TR41 TO42 TF43 TA44), fm 8 (fPp cs pq PV), fm 13 (fRw cs rq39 RR45 RM46 RW47 RF48 RA49 RC50)] := frw_back (pr := [wd_Ker cs hk kr (fun _ => none) kf ka40 (gKe pq pz37 tq38 rq39), fm 13 (fTx cs tq38 TR41 TO42 TF43 TA44), fm 8 (fPp cs pq PV)]) hw hip hcu62.1 hto63
            have hw : pw D A s.heap _ _ [wd_Ker cs hk kr (fun _ => none) kf ka40 (gKe pq pz37 tq38 rq39), fm 13 (fTx cs tq38 TR41 TO42 TF43 TA44), fm 13 (fRw cs rq39 RR45 RM46 RW47 RF48 RA49 RC50), fm 8 (fPp cs pq PV)] := hw.sub [0, 1, 3, 2] rfl rfl
            exact pg_iret (v := ((RF48 ip) 13)) S hr rfl hlk hAe hw (show (0 + k53) ≤ (5 * ndS 13 tq + 4 * ndS 13 rq + ndS 13 RM) from by first | with_reducible rfl | with_reducible assumption | omega) (show (0 + n54) ≤ (9804 * ndS 13 tq + 342 * ndS 13 rq + 36864 * ndS 13 RM) from by first | with_reducible rfl | with_reducible assumption | omega) (⟨pz37, tq38, rq39, ka40, TR41, TO42, TF43, TA44, RR45, RM46, RW47, RF48, RA49, RC50, rfl, (show CuR pq PV rq39 RW47 ip hx from hcu62), (show (RF48 ip 14).toInt = (RF ip 14).toInt from by first | exact oz_1687f4cc65 hz14_RF20 hkg64 | omega), (show KnI pq PV pz37 tq38 rq39 TO42 TF43 TA44 RW47 RF48 from hki), (show RoI ka40 from hro), (show RmI rq39 RM46 from hrm), (show (0 + k53) + (5 * ndS 13 tq38 + 4 * ndS 13 rq39 + ndS 13 RM46) ≤ 5 * ndS 13 tq + 4 * ndS 13 rq + ndS 13 RM from by first | with_reducible rfl | with_reducible assumption | omega), (show (0 + n54) + (9804 * ndS 13 tq38 + 342 * ndS 13 rq39 + 36864 * ndS 13 RM46) ≤ 9804 * ndS 13 tq + 342 * ndS 13 rq + 36864 * ndS 13 RM from by first | with_reducible rfl | with_reducible assumption | omega)⟩) d_Ker_spawn_78
          · have nc16 : ¬ z7.toInt < (13 : Int) := mt (i_lt (x := z7) (y := 13)).mpr c16
            refine lv_iconst (v := (-1)) S.x S.b d_Ker_spawn_49 (by decide) ?_
            have hw : pw D A s.heap _ _ [wd_Ker cs hk kr (fun _ => none) kf ka (gKe pq pz tq rq), fm 13 (fTx cs tq TR TO TF TA), fm 8 (fPp cs pq PV), fm 13 (fRw cs rq RR RM RW RF RA RC)] := frw_back (pr := [wd_Ker cs hk kr (fun _ => none) kf ka (gKe pq pz tq rq), fm 13 (fTx cs tq TR TO TF TA), fm 8 (fPp cs pq PV)]) hw hip hcu.1 hto1
            have hw : pw D A s.heap _ _ [wd_Ker cs hk kr (fun _ => none) kf ka (gKe pq pz tq rq), fm 13 (fTx cs tq TR TO TF TA), fm 13 (fRw cs rq RR RM RW RF RA RC), fm 8 (fPp cs pq PV)] := hw.sub [0, 1, 3, 2] rfl rfl
            exact pg_iret (v := (-1)) S hr rfl hlk hAe hw (show 0 ≤ (5 * ndS 13 tq + 4 * ndS 13 rq + ndS 13 RM) from by first | exact oz_86e49526c7 | omega) (show 0 ≤ (9804 * ndS 13 tq + 342 * ndS 13 rq + 36864 * ndS 13 RM) from by first | exact oz_fc3b58e969 | omega) (⟨pz, tq, rq, ka, TR, TO, TF, TA, RR, RM, RW, RF, RA, RC, rfl, (show CuR pq PV rq RW ip hx from hcu), (show (RF ip 14).toInt = (RF ip 14).toInt from rfl), (show KnI pq PV pz tq rq TO TF TA RW RF from hki), (show RoI ka from hro), (show RmI rq RM from hrm), (show 0 + (5 * ndS 13 tq + 4 * ndS 13 rq + ndS 13 RM) ≤ 5 * ndS 13 tq + 4 * ndS 13 rq + ndS 13 RM from by first | exact oz_9d19b050ad | omega), (show 0 + (9804 * ndS 13 tq + 342 * ndS 13 rq + 36864 * ndS 13 RM) ≤ 9804 * ndS 13 tq + 342 * ndS 13 rq + 36864 * ndS 13 RM from by first | exact oz_b5592d0ae7 | omega)⟩) d_Ker_spawn_50
