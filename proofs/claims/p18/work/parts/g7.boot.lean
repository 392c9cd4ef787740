theorem oz_982748af7b {a1 : Int} {n0 : Nat} (h0 : (n0 : Int) = a1) (h1 : a1 ≤ 7) : n0 < 8 := by omega
theorem oz_c745c762bb {a0 : Int} (h0 : ¬ (13 : Int) ≤ a0) : a0 ≤ 12 := by omega
theorem oz_2466c61d38 {a0 a1 : Int} (h0 : a0 = a1 + 1) (h1 : a1 ≤ 999999) : a0 ≤ 1000000 := by omega
theorem oz_dcf11d8045 {a0 a2 : Int} {n1 : Nat} (h0 : 1000000 - a2 < (n1 : Int) + 1) (h1 : a0 = a2 + 1) : 1000000 - a0 < (n1 : Int) := by omega
theorem oz_b28ddce073 {a0 : Int} (h0 : ¬ (1000000 : Int) ≤ a0) : a0 ≤ 999999 := by omega
theorem oz_9e74bf7961 {a0 : Int} {n1 : Nat} (h0 : 1000000 - a0 < ((n1 + 1 : Nat) : Int)) : 1000000 - a0 < (n1 : Int) + 1 := by omega
theorem oz_3789b25239 {a0 : Int} (h0 : 0 ≤ a0) (h1 : a0 ≤ 7) : 0 ≤ a0 ∧ a0 < ((8 : Nat) : Int) := by omega
theorem oz_c5bdeb443a {a0 : Int} (h0 : 1 ≤ a0) (h1 : a0 ≤ 12) : 0 ≤ a0 ∧ a0 < ((13 : Nat) : Int) := by omega
theorem oz_6bed5c79fa {a0 a1 a2 : Int} (h0 : a0 = a1 + (1 : Int)) (h1 : a1 = 2 * a2) (h2 : 1 ≤ a2) (h3 : a2 ≤ 12) : 0 ≤ a0 ∧ a0 < ((26 : Nat) : Int) := by omega
theorem oz_e90802111b {a0 a1 : Int} (h0 : a0 = 2 * a1) (h1 : 1 ≤ a1) (h2 : a1 ≤ 12) : 0 ≤ a0 ∧ a0 < ((26 : Nat) : Int) := by omega
theorem m8_49 : Cond.methodLink "HomeSystem$Kernel" 66 ⟨"HomeSystem$Kernel", "advance", "(LHomeSystem$AnyProcess;)Z"⟩ ∈ AL := AL_8 (List.mem_of_getElem? (i := 49) rfl) rfl
theorem m8_52 : Cond.code ⟨"HomeSystem$Kernel", "advance", "(LHomeSystem$AnyProcess;)Z"⟩ prog_4_method_5_code 5 (Option.some FieldType.boolean) ∈ AL := AL_8 (List.mem_of_getElem? (i := 52) rfl) rfl
theorem ms_5_7 : Cond.selects "HomeSystem$Kernel" ⟨"HomeSystem$Kernel", "advance", "(LHomeSystem$AnyProcess;)Z"⟩ ⟨"HomeSystem$Kernel", "advance", "(LHomeSystem$AnyProcess;)Z"⟩ ∈ AL := AL_p (q := (⟨"HomeSystem$Kernel", "advance", "(LHomeSystem$AnyProcess;)Z"⟩, 10)) (by unfold lw_privs; exact List.mem_append_right _ (List.mem_append_right _ (List.mem_append_right _ (List.mem_append_right _ (List.mem_append_left _ (List.mem_of_getElem? (i := 7) rfl))))))
theorem m8_51 : Cond.instanceMethod ⟨"HomeSystem$Kernel", "advance", "(LHomeSystem$AnyProcess;)Z"⟩ ∈ AL := AL_8 (List.mem_of_getElem? (i := 51) rfl) rfl
theorem m6_109 : Cond.methodLink "HomeSystem$Kernel" 55 ⟨"java/util/Arrays", "fill", "([II)V"⟩ ∈ AL := AL_6 (List.mem_of_getElem? (i := 109) rfl) rfl
section KN7
variable {pq ps tq rq : Nat → Option Nat} {PV : Nat → Pvs} {TF RF : Nat → Nat → Int32} {TA : Nat → Nat → Nat → Int32} {p : Nat}
theorem KnR.nul (k : KnR pq PV ps tq rq TF TA RF) : KnR pq PV (va_up ps p none) tq rq TF TA RF := ⟨k.1, k.2.1, k.2.2.1, fun i hi => by
  by_cases e : i = p
  · subst e; rw [va_up_s]; exact Or.inl rfl
  · rw [va_up_n e]; exact k.2.2.2 i hi⟩
end KN7
abbrev b_Ker_boot : ByteArray := prog_4_method_2_code
def y_Ker_boot : MethodName := ⟨"HomeSystem$Kernel", "boot", "(IIII)I"⟩
theorem d_Ker_boot_0 : decode b_Ker_boot 0 = .ok (.aload_n 0, 1) := by decide +kernel
theorem d_Ker_boot_1 : decode b_Ker_boot 1 = .ok (.iload_n 3, 1) := by decide +kernel
theorem d_Ker_boot_2 : decode b_Ker_boot 2 = .ok (.putfield 48, 3) := by decide +kernel
theorem d_Ker_boot_5 : decode b_Ker_boot 5 = .ok (.aload_n 0, 1) := by decide +kernel
theorem d_Ker_boot_6 : decode b_Ker_boot 6 = .ok (.iload 4, 2) := by decide +kernel
theorem d_Ker_boot_8 : decode b_Ker_boot 8 = .ok (.putfield 52, 3) := by decide +kernel
theorem d_Ker_boot_11 : decode b_Ker_boot 11 = .ok (.aload_n 0, 1) := by decide +kernel
theorem d_Ker_boot_12 : decode b_Ker_boot 12 = .ok (.getfield 42, 3) := by decide +kernel
theorem d_Ker_boot_15 : decode b_Ker_boot 15 = .ok (.iconst 0, 1) := by decide +kernel
theorem d_Ker_boot_16 : decode b_Ker_boot 16 = .ok (.invokestatic 55, 3) := by decide +kernel
theorem d_Ker_boot_19 : decode b_Ker_boot 19 = .ok (.aload_n 0, 1) := by decide +kernel
theorem d_Ker_boot_20 : decode b_Ker_boot 20 = .ok (.getfield 45, 3) := by decide +kernel
theorem d_Ker_boot_23 : decode b_Ker_boot 23 = .ok (.iconst 0, 1) := by decide +kernel
theorem d_Ker_boot_24 : decode b_Ker_boot 24 = .ok (.invokestatic 55, 3) := by decide +kernel
theorem d_Ker_boot_27 : decode b_Ker_boot 27 = .ok (.iconst 0, 1) := by decide +kernel
theorem d_Ker_boot_28 : decode b_Ker_boot 28 = .ok (.istore 5, 2) := by decide +kernel
theorem d_Ker_boot_30 : decode b_Ker_boot 30 = .ok (.iload 5, 2) := by decide +kernel
theorem d_Ker_boot_32 : decode b_Ker_boot 32 = .ok (.bipush 13, 2) := by decide +kernel
theorem d_Ker_boot_34 : decode b_Ker_boot 34 = .ok (.if_icmp .ge 17, 3) := by decide +kernel
theorem d_Ker_boot_37 : decode b_Ker_boot 37 = .ok (.aload_n 0, 1) := by decide +kernel
theorem d_Ker_boot_38 : decode b_Ker_boot 38 = .ok (.getfield 23, 3) := by decide +kernel
theorem d_Ker_boot_41 : decode b_Ker_boot 41 = .ok (.iload 5, 2) := by decide +kernel
theorem d_Ker_boot_43 : decode b_Ker_boot 43 = .ok (.aconst_null, 1) := by decide +kernel
theorem d_Ker_boot_44 : decode b_Ker_boot 44 = .ok (.aastore, 1) := by decide +kernel
theorem d_Ker_boot_45 : decode b_Ker_boot 45 = .ok (.iinc 5 1, 3) := by decide +kernel
theorem d_Ker_boot_48 : decode b_Ker_boot 48 = .ok (.goto (-18), 3) := by decide +kernel
theorem d_Ker_boot_51 : decode b_Ker_boot 51 = .ok (.aload_n 0, 1) := by decide +kernel
theorem d_Ker_boot_52 : decode b_Ker_boot 52 = .ok (.iconst 0, 1) := by decide +kernel
theorem d_Ker_boot_53 : decode b_Ker_boot 53 = .ok (.aload_n 0, 1) := by decide +kernel
theorem d_Ker_boot_54 : decode b_Ker_boot 54 = .ok (.getfield 11, 3) := by decide +kernel
theorem d_Ker_boot_57 : decode b_Ker_boot 57 = .ok (.iload_n 1, 1) := by decide +kernel
theorem d_Ker_boot_58 : decode b_Ker_boot 58 = .ok (.aaload, 1) := by decide +kernel
theorem d_Ker_boot_59 : decode b_Ker_boot 59 = .ok (.iload_n 2, 1) := by decide +kernel
theorem d_Ker_boot_60 : decode b_Ker_boot 60 = .ok (.invokevirtual 61, 3) := by decide +kernel
theorem d_Ker_boot_63 : decode b_Ker_boot 63 = .ok (.iconst 1, 1) := by decide +kernel
theorem d_Ker_boot_64 : decode b_Ker_boot 64 = .ok (.istore 5, 2) := by decide +kernel
theorem d_Ker_boot_66 : decode b_Ker_boot 66 = .ok (.iconst 0, 1) := by decide +kernel
theorem d_Ker_boot_67 : decode b_Ker_boot 67 = .ok (.istore 6, 2) := by decide +kernel
theorem d_Ker_boot_69 : decode b_Ker_boot 69 = .ok (.iload 6, 2) := by decide +kernel
theorem d_Ker_boot_71 : decode b_Ker_boot 71 = .ok (.ldc 65, 2) := by decide +kernel
theorem d_Ker_boot_73 : decode b_Ker_boot 73 = .ok (.if_icmp .ge 49, 3) := by decide +kernel
theorem d_Ker_boot_76 : decode b_Ker_boot 76 = .ok (.iload 5, 2) := by decide +kernel
theorem d_Ker_boot_78 : decode b_Ker_boot 78 = .ok (.ifCond .eq 44, 3) := by decide +kernel
theorem d_Ker_boot_81 : decode b_Ker_boot 81 = .ok (.iconst 0, 1) := by decide +kernel
theorem d_Ker_boot_82 : decode b_Ker_boot 82 = .ok (.istore 5, 2) := by decide +kernel
theorem d_Ker_boot_84 : decode b_Ker_boot 84 = .ok (.iconst 0, 1) := by decide +kernel
theorem d_Ker_boot_85 : decode b_Ker_boot 85 = .ok (.istore 7, 2) := by decide +kernel
theorem d_Ker_boot_87 : decode b_Ker_boot 87 = .ok (.iload 7, 2) := by decide +kernel
theorem d_Ker_boot_89 : decode b_Ker_boot 89 = .ok (.bipush 13, 2) := by decide +kernel
theorem d_Ker_boot_91 : decode b_Ker_boot 91 = .ok (.if_icmp .ge 25, 3) := by decide +kernel
theorem d_Ker_boot_94 : decode b_Ker_boot 94 = .ok (.iload 5, 2) := by decide +kernel
theorem d_Ker_boot_96 : decode b_Ker_boot 96 = .ok (.aload_n 0, 1) := by decide +kernel
theorem d_Ker_boot_97 : decode b_Ker_boot 97 = .ok (.aload_n 0, 1) := by decide +kernel
theorem d_Ker_boot_98 : decode b_Ker_boot 98 = .ok (.getfield 23, 3) := by decide +kernel
theorem d_Ker_boot_101 : decode b_Ker_boot 101 = .ok (.iload 7, 2) := by decide +kernel
theorem d_Ker_boot_103 : decode b_Ker_boot 103 = .ok (.aaload, 1) := by decide +kernel
theorem d_Ker_boot_104 : decode b_Ker_boot 104 = .ok (.invokevirtual 66, 3) := by decide +kernel
theorem d_Ker_boot_107 : decode b_Ker_boot 107 = .ok (.ior, 1) := by decide +kernel
theorem d_Ker_boot_108 : decode b_Ker_boot 108 = .ok (.istore 5, 2) := by decide +kernel
theorem d_Ker_boot_110 : decode b_Ker_boot 110 = .ok (.iinc 7 1, 3) := by decide +kernel
theorem d_Ker_boot_113 : decode b_Ker_boot 113 = .ok (.goto (-26), 3) := by decide +kernel
theorem d_Ker_boot_116 : decode b_Ker_boot 116 = .ok (.iinc 6 1, 3) := by decide +kernel
theorem d_Ker_boot_119 : decode b_Ker_boot 119 = .ok (.goto (-50), 3) := by decide +kernel
theorem d_Ker_boot_122 : decode b_Ker_boot 122 = .ok (.iconst 0, 1) := by decide +kernel
theorem d_Ker_boot_123 : decode b_Ker_boot 123 = .ok (.istore 6, 2) := by decide +kernel
theorem d_Ker_boot_125 : decode b_Ker_boot 125 = .ok (.iload 6, 2) := by decide +kernel
theorem d_Ker_boot_127 : decode b_Ker_boot 127 = .ok (.bipush 13, 2) := by decide +kernel
theorem d_Ker_boot_129 : decode b_Ker_boot 129 = .ok (.if_icmp .ge 31, 3) := by decide +kernel
theorem d_Ker_boot_132 : decode b_Ker_boot 132 = .ok (.aload_n 0, 1) := by decide +kernel
theorem d_Ker_boot_133 : decode b_Ker_boot 133 = .ok (.iload 6, 2) := by decide +kernel
theorem d_Ker_boot_135 : decode b_Ker_boot 135 = .ok (.invokevirtual 70, 3) := by decide +kernel
theorem d_Ker_boot_138 : decode b_Ker_boot 138 = .ok (.ifCond .eq 16, 3) := by decide +kernel
theorem d_Ker_boot_141 : decode b_Ker_boot 141 = .ok (.aload_n 0, 1) := by decide +kernel
theorem d_Ker_boot_142 : decode b_Ker_boot 142 = .ok (.getfield 23, 3) := by decide +kernel
theorem d_Ker_boot_145 : decode b_Ker_boot 145 = .ok (.iload 6, 2) := by decide +kernel
theorem d_Ker_boot_147 : decode b_Ker_boot 147 = .ok (.aaload, 1) := by decide +kernel
theorem d_Ker_boot_148 : decode b_Ker_boot 148 = .ok (.bipush 6, 2) := by decide +kernel
theorem d_Ker_boot_150 : decode b_Ker_boot 150 = .ok (.iconst 0, 1) := by decide +kernel
theorem d_Ker_boot_151 : decode b_Ker_boot 151 = .ok (.invokevirtual 74, 3) := by decide +kernel
theorem d_Ker_boot_154 : decode b_Ker_boot 154 = .ok (.iinc 6 1, 3) := by decide +kernel
theorem d_Ker_boot_157 : decode b_Ker_boot 157 = .ok (.goto (-32), 3) := by decide +kernel
theorem d_Ker_boot_160 : decode b_Ker_boot 160 = .ok (.aload_n 0, 1) := by decide +kernel
theorem d_Ker_boot_161 : decode b_Ker_boot 161 = .ok (.getfield 23, 3) := by decide +kernel
theorem d_Ker_boot_164 : decode b_Ker_boot 164 = .ok (.iconst 0, 1) := by decide +kernel
theorem d_Ker_boot_165 : decode b_Ker_boot 165 = .ok (.aaload, 1) := by decide +kernel
theorem d_Ker_boot_166 : decode b_Ker_boot 166 = .ok (.ifnonnull 7, 3) := by decide +kernel
theorem d_Ker_boot_169 : decode b_Ker_boot 169 = .ok (.iconst (-1), 1) := by decide +kernel
theorem d_Ker_boot_170 : decode b_Ker_boot 170 = .ok (.goto 12, 3) := by decide +kernel
theorem d_Ker_boot_173 : decode b_Ker_boot 173 = .ok (.aload_n 0, 1) := by decide +kernel
theorem d_Ker_boot_174 : decode b_Ker_boot 174 = .ok (.getfield 23, 3) := by decide +kernel
theorem d_Ker_boot_177 : decode b_Ker_boot 177 = .ok (.iconst 0, 1) := by decide +kernel
theorem d_Ker_boot_178 : decode b_Ker_boot 178 = .ok (.aaload, 1) := by decide +kernel
theorem d_Ker_boot_179 : decode b_Ker_boot 179 = .ok (.getfield 78, 3) := by decide +kernel
theorem d_Ker_boot_182 : decode b_Ker_boot 182 = .ok (.ireturn, 1) := by decide +kernel
theorem q_Ker_boot : px_y y_Ker_boot 4 := by unfold px_y; decide +kernel
set_option maxHeartbeats 4000000 in
set_option maxRecDepth 100000 in
theorem c_k_boot (l : Launch) (D : va_G) (cs : Nat → ClassId) (hk : Nat) (kr : Nat → Nat) (pq : Nat → Option Nat) (PV : Nat → Pvs) (pz : Nat → Option Nat) (tq : Nat → Option Nat) (rq : Nat → Option Nat) (kf : Nat → Int32) (ka : Nat → Nat → Int32) (TR : Nat → Nat → Nat) (TO : Nat → Option Nat) (TF : Nat → Nat → Int32) (TA : Nat → Nat → Nat → Int32) (RR : Nat → Nat → Nat) (RM : Nat → Option Nat) (RW : Nat → Option Nat) (RF : Nat → Nat → Int32) (RA : Nat → Nat → Nat → Int32) (RC : Nat → Nat → Int32) (p0 p1 p2 p3 : Int32) (hp : Nat) (g0 : 0 ≤ p0.toInt) (g1 : p0.toInt ≤ 7) (g2 : 0 ≤ p2.toInt) (g3 : p2.toInt ≤ 100) (hki : KnR pq PV pz tq rq TF TA RF) (hrm : RmI rq RM) (hpq0 : pq p0.toNatClampNeg = some hp) : MgI l y_Ker_boot b_Ker_boot 8 (.int) D cs 14 600 ((5 * ndS 13 tq + 4 * ndS 13 rq + ndS 13 RM)) ((9804 * ndS 13 tq + 342 * ndS 13 rq + 36864 * ndS 13 RM)) [.ref hk, .int p0, .int p1, .int p2, .int p3] [wd_Ker cs hk kr (fun _ => none) kf ka (gKe pq pz tq rq), fm 13 (fTx cs tq TR TO TF TA), fm 13 (fRw cs rq RR RM RW RF RA RC), fm 8 (fPp cs pq PV)] (fun _ => True) (fun v ps => ∃ (pz' : Nat → Option Nat) (tq' : Nat → Option Nat) (rq' : Nat → Option Nat) (kf' : Nat → Int32) (ka' : Nat → Nat → Int32) (TR' : Nat → Nat → Nat) (TO' : Nat → Option Nat) (TF' : Nat → Nat → Int32) (TA' : Nat → Nat → Nat → Int32) (RR' : Nat → Nat → Nat) (RM' : Nat → Option Nat) (RW' : Nat → Option Nat) (RF' : Nat → Nat → Int32) (RA' : Nat → Nat → Nat → Int32) (RC' : Nat → Nat → Int32), (ps.1 = [wd_Ker cs hk kr (fun _ => none) kf' ka' (gKe pq pz' tq' rq'), fm 13 (fTx cs tq' TR' TO' TF' TA'), fm 13 (fRw cs rq' RR' RM' RW' RF' RA' RC'), fm 8 (fPp cs pq PV)]) ∧ (KnR pq PV pz' tq' rq' TF' TA' RF') ∧ (RmI rq' RM') ∧ (ps.2.1 + (5 * ndS 13 tq' + 4 * ndS 13 rq' + ndS 13 RM') ≤ 5 * ndS 13 tq + 4 * ndS 13 rq + ndS 13 RM) ∧ (ps.2.2 + (9804 * ndS 13 tq' + 342 * ndS 13 rq' + 36864 * ndS 13 RM') ≤ 9804 * ndS 13 tq + 342 * ndS 13 rq + 36864 * ndS 13 RM)) := by
  refine pg_enter (by decide) (Nat.le_of_ble_eq_true rfl) ?_
  intro p e s m below meth c A ls hAe S hr hlk hnm hA hT hX hw hl
  replace hl : lv_has ls 8 [(0, .ref hk), (1, .int p0), (2, .int p1), (3, .int p2), (4, .int p3)] := hl
  have lp0 := Int32.le_toInt p0
  have up0 := Int32.toInt_lt p0
  have lp1 := Int32.le_toInt p1
  have up1 := Int32.toInt_lt p1
  have lp2 := Int32.le_toInt p2
  have up2 := Int32.toInt_lt p2
  have lp3 := Int32.le_toInt p3
  have up3 := Int32.toInt_lt p3
  have cstm1 : ((-1) : Int32).toInt = (-1) := rfl
  have cst0 : (0 : Int32).toInt = 0 := rfl
  have cst1 : (1 : Int32).toInt = 1 := rfl
  have cst6 : (6 : Int32).toInt = 6 := rfl
  have cst13 : (13 : Int32).toInt = 13 := rfl
  have hcl0 := cl_nat (x := p0) (by first | exact g0 | omega)
  have hi0 : p0.toNatClampNeg < 8 := by first | exact oz_982748af7b hcl0 g1 | omega
  have J125 : ∀ (n_125 : Nat) (ce_125 sl_125 : Nat) (pz_125 : Nat → Option Nat) (tq_125 : Nat → Option Nat) (rq_125 : Nat → Option Nat) (kf_125 : Nat → Int32) (ka_125 : Nat → Nat → Int32) (TR_125 : Nat → Nat → Nat) (TO_125 : Nat → Option Nat) (TF_125 : Nat → Nat → Int32) (TA_125 : Nat → Nat → Nat → Int32) (RR_125 : Nat → Nat → Nat) (RM_125 : Nat → Option Nat) (RW_125 : Nat → Option Nat) (RF_125 : Nat → Nat → Int32) (RA_125 : Nat → Nat → Nat → Int32) (RC_125 : Nat → Nat → Int32) (x125_6 : Int32) (H : Heap) (locs : List Loc) (ls : Array Slot), (KnI pq PV pz_125 tq_125 rq_125 TO_125 TF_125 TA_125 RW_125 RF_125) → (RmI rq_125 RM_125) → ((kf_125 8).toInt = p2.toInt) → ((kf_125 9).toInt = p3.toInt) → (0 ≤ x125_6.toInt) → (x125_6.toInt ≤ 13) → (ce_125 + (5 * ndS 13 tq_125 + 4 * ndS 13 rq_125 + ndS 13 RM_125) ≤ 5 * ndS 13 tq + 4 * ndS 13 rq + ndS 13 RM) → (sl_125 + (9804 * ndS 13 tq_125 + 342 * ndS 13 rq_125 + 36864 * ndS 13 RM_125) ≤ 9804 * ndS 13 tq + 342 * ndS 13 rq + 36864 * ndS 13 RM) → 13 - x125_6.toInt < (n_125 : Int) → pw D A s.heap H locs [wd_Ker cs hk kr (fun _ => none) kf_125 ka_125 (gKe pq pz_125 tq_125 rq_125), fm 13 (fTx cs tq_125 TR_125 TO_125 TF_125 TA_125), fm 13 (fRw cs rq_125 RR_125 RM_125 RW_125 RF_125 RA_125 RC_125), fm 8 (fPp cs pq PV)] → lv_has ls 8 [(0, .ref hk), (1, .int p0), (2, .int p1), (3, .int p2), (4, .int p3), (6, .int x125_6)] → W p l e { frames := 14, cells := (5 * ndS 13 tq + 4 * ndS 13 rq + ndS 13 RM), slots := (9804 * ndS 13 tq + 342 * ndS 13 rq + 36864 * ndS 13 RM), locals := 600 } s m [.ref hk, .int p0, .int p1, .int p2, .int p3].toArray below meth c H locs ce_125 sl_125 (MQ below (va_Qi (fun v ps => ∃ (pz' : Nat → Option Nat) (tq' : Nat → Option Nat) (rq' : Nat → Option Nat) (kf' : Nat → Int32) (ka' : Nat → Nat → Int32) (TR' : Nat → Nat → Nat) (TO' : Nat → Option Nat) (TF' : Nat → Nat → Int32) (TA' : Nat → Nat → Nat → Int32) (RR' : Nat → Nat → Nat) (RM' : Nat → Option Nat) (RW' : Nat → Option Nat) (RF' : Nat → Nat → Int32) (RA' : Nat → Nat → Nat → Int32) (RC' : Nat → Nat → Int32), (ps.1 = [wd_Ker cs hk kr (fun _ => none) kf' ka' (gKe pq pz' tq' rq'), fm 13 (fTx cs tq' TR' TO' TF' TA'), fm 13 (fRw cs rq' RR' RM' RW' RF' RA' RC'), fm 8 (fPp cs pq PV)]) ∧ (KnR pq PV pz' tq' rq' TF' TA' RF') ∧ (RmI rq' RM') ∧ (ps.2.1 + (5 * ndS 13 tq' + 4 * ndS 13 rq' + ndS 13 RM') ≤ 5 * ndS 13 tq + 4 * ndS 13 rq + ndS 13 RM) ∧ (ps.2.2 + (9804 * ndS 13 tq' + 342 * ndS 13 rq' + 36864 * ndS 13 RM') ≤ 9804 * ndS 13 tq + 342 * ndS 13 rq + 36864 * ndS 13 RM)) (pg_B D (va_A ([wd_Ker cs hk kr (fun _ => none) kf ka (gKe pq pz tq rq), fm 13 (fTx cs tq TR TO TF TA), fm 13 (fRw cs rq RR RM RW RF RA RC), fm 8 (fPp cs pq PV)] : List va_W).flatten s.heap.size) s.heap.size (tot s.heap)) (va_A ([wd_Ker cs hk kr (fun _ => none) kf ka (gKe pq pz tq rq), fm 13 (fTx cs tq TR TO TF TA), fm 13 (fRw cs rq RR RM RW RF RA RC), fm 8 (fPp cs pq PV)] : List va_W).flatten s.heap.size)) [.ref hk, .int p0, .int p1, .int p2, .int p3].toArray s (5 * ndS 13 tq + 4 * ndS 13 rq + ndS 13 RM) (9804 * ndS 13 tq + 342 * ndS 13 rq + 36864 * ndS 13 RM) A) (F0 m 125 ls []) := by
    intro  n_125
    induction n_125 with
    | zero =>
      intro ce_125 sl_125 pz_125 tq_125 rq_125 kf_125 ka_125 TR_125 TO_125 TF_125 TA_125 RR_125 RM_125 RW_125 RF_125 RA_125 RC_125 x125_6 H locs ls k125_0 k125_1 k125_2 k125_3 k125_4 k125_5 k125_6 k125_7 hm hw hl
      have lx125_6 := Int32.le_toInt x125_6
      have ux125_6 := Int32.toInt_lt x125_6
      have hki := k125_0
      have hrm := k125_1
      exact absurd hm (by omega)
    | succ n_125 ih125 =>
      intro ce_125 sl_125 pz_125 tq_125 rq_125 kf_125 ka_125 TR_125 TO_125 TF_125 TA_125 RR_125 RM_125 RW_125 RF_125 RA_125 RC_125 x125_6 H locs ls k125_0 k125_1 k125_2 k125_3 k125_4 k125_5 k125_6 k125_7 hm hw hl
      have lx125_6 := Int32.le_toInt x125_6
      have ux125_6 := Int32.toInt_lt x125_6
      have hki := k125_0
      have hrm := k125_1
      refine lv_iload S.x S.b d_Ker_boot_125 (lv_at hl 5 rfl) ?_
      refine lv_bipush (v := 13) S.x S.b d_Ker_boot_127 (by decide) ?_
      refine lv_icmp_ge (tgt := 160) S.x S.b d_Ker_boot_129 (by decide) (fun c1 => ?_) (fun c1 => ?_)
      · have nc1 : (13 : Int) ≤ x125_6.toInt := (i_le (x := 13) (y := x125_6)).mp c1
        refine lv_aload_n S.x S.b d_Ker_boot_160 rfl (lv_at hl 0 rfl) ?_
        refine px_get S k_Ker hT hw 0 0 2 (v := .ref (kr 2)) rfl rfl rfl (by decide) m2_222 d_Ker_boot_161 ?_
        refine lv_iconst (v := 0) S.x S.b d_Ker_boot_164 (by decide) ?_
        refine px_aald S hT hw 0 3 6 (n := 13) (f := pz_125) rfl rfl rfl (x := 0) (vp_in_iff.mpr (by constructor <;> omega)) d_Ker_boot_165 ?_
        refine lq_top (fun y2 hy2 => ?_)
        refine lq_ifnonnull (x := y2) (tgt := 173) S.x S.b d_Ker_boot_166 (by decide) (fun q4 c3 => ?_) (fun c3 => ?_)
        ·
          subst c3
          have nd0_c3 := nd_1 q4
          have hc5 := cl_nat (x := (0 : Int32)) (by first | exact oz_b1de7dbe7e cst0 | omega)
          have hi5 : (0 : Int32).toNatClampNeg < 13 := by first | exact oz_a63a387477 hc5 cst0 | omega
          have hr5 := hy2.symm
          refine lv_aload_n S.x S.b d_Ker_boot_173 rfl (lv_at hl 0 rfl) ?_
          refine px_get S k_Ker hT hw 0 0 2 (v := .ref (kr 2)) rfl rfl rfl (by decide) m2_222 d_Ker_boot_174 ?_
          refine lv_iconst (v := 0) S.x S.b d_Ker_boot_177 (by decide) ?_
          refine px_aaldS S hT hw 0 3 6 (n := 13) (f := pz_125) rfl rfl rfl (x := 0) (vp_in_iff.mpr (by constructor <;> omega)) (sk := q4) hr5 d_Ker_boot_178 ?_
          rcases hki.2.2.2 (0 : Int32).toNatClampNeg hi5 with hno | ⟨h9, e9, hcu6⟩ | ⟨h9, e9, hcu6⟩
          · rw [hno] at hr5; cases hr5
          ·
            cases (hr5.symm.trans e9)
            obtain ⟨j7, hp7, hj7, hjq7, hto7, hf07⟩ := hcu6.2
            have hw : pw D A s.heap _ _ [wd_Ker cs hk kr (fun _ => none) kf_125 ka_125 (gKe pq pz_125 tq_125 rq_125), fm 13 (fRw cs rq_125 RR_125 RM_125 RW_125 RF_125 RA_125 RC_125), fm 8 (fPp cs pq PV), fm 13 (fTx cs tq_125 TR_125 TO_125 TF_125 TA_125)] := hw.sub [0, 2, 3, 1] rfl rfl
            have hw : pw D A s.heap _ _ [wd_Ker cs hk kr (fun _ => none) kf_125 ka_125 (gKe pq pz_125 tq_125 rq_125), fm 13 (fRw cs rq_125 RR_125 RM_125 RW_125 RF_125 RA_125 RC_125), fm 8 (fPp cs pq PV), fo 13 (fTx cs tq_125 TR_125 TO_125 TF_125 TA_125) (0 : Int32).toNatClampNeg, wd_Txp cs q4 (TR_125 (0 : Int32).toNatClampNeg) (fun k => if k = 3 then (some hp7) else none) (TF_125 (0 : Int32).toNatClampNeg) (TA_125 (0 : Int32).toNatClampNeg) (fun _ _ => none)] := ftx_out (pr := [wd_Ker cs hk kr (fun _ => none) kf_125 ka_125 (gKe pq pz_125 tq_125 rq_125), fm 13 (fRw cs rq_125 RR_125 RM_125 RW_125 RF_125 RA_125 RC_125), fm 8 (fPp cs pq PV)]) hw hi5 hcu6.1 hto7
            have htn8 : TxN (0 : Int32).toNatClampNeg (TF_125 (0 : Int32).toNatClampNeg) (TA_125 (0 : Int32).toNatClampNeg) := hki.2.1 (0 : Int32).toNatClampNeg hi5 _ hcu6.1
            obtain ⟨lk, ⟨i2, i3⟩, ⟨i4, i5⟩, ⟨i6, i7⟩, i8, ⟨i9, i11⟩, i10, hrt⟩ := htn8.1
            have hid8 := htn8.2.1
            have hch8 := htn8.2.2
            unfold KcI at hch8
            refine px_get S k_Txp hT hw 4 0 18 (v := .int ((TF_125 (0 : Int32).toNatClampNeg) 18)) rfl rfl rfl (by decide) m6_139 d_Ker_boot_179 ?_
            have hw : pw D A s.heap _ _ [wd_Ker cs hk kr (fun _ => none) kf_125 ka_125 (gKe pq pz_125 tq_125 rq_125), fm 13 (fRw cs rq_125 RR_125 RM_125 RW_125 RF_125 RA_125 RC_125), fm 8 (fPp cs pq PV), fm 13 (fTx cs tq_125 TR_125 TO_125 TF_125 TA_125)] := ftx_back (pr := [wd_Ker cs hk kr (fun _ => none) kf_125 ka_125 (gKe pq pz_125 tq_125 rq_125), fm 13 (fRw cs rq_125 RR_125 RM_125 RW_125 RF_125 RA_125 RC_125), fm 8 (fPp cs pq PV)]) hw hi5 hcu6.1 hto7
            have hw : pw D A s.heap _ _ [wd_Ker cs hk kr (fun _ => none) kf_125 ka_125 (gKe pq pz_125 tq_125 rq_125), fm 13 (fTx cs tq_125 TR_125 TO_125 TF_125 TA_125), fm 13 (fRw cs rq_125 RR_125 RM_125 RW_125 RF_125 RA_125 RC_125), fm 8 (fPp cs pq PV)] := hw.sub [0, 3, 1, 2] rfl rfl
            exact pg_iret (v := ((TF_125 (0 : Int32).toNatClampNeg) 18)) S hr rfl hlk hAe hw (show ce_125 ≤ (5 * ndS 13 tq + 4 * ndS 13 rq + ndS 13 RM) from by first | exact oz_dca5c4e7e4 k125_6 | omega) (show sl_125 ≤ (9804 * ndS 13 tq + 342 * ndS 13 rq + 36864 * ndS 13 RM) from by first | exact oz_f7eb847e67 k125_7 | omega) (⟨pz_125, tq_125, rq_125, kf_125, ka_125, TR_125, TO_125, TF_125, TA_125, RR_125, RM_125, RW_125, RF_125, RA_125, RC_125, rfl, (show KnR pq PV pz_125 tq_125 rq_125 TF_125 TA_125 RF_125 from hki.rest), (show RmI rq_125 RM_125 from hrm), (show ce_125 + (5 * ndS 13 tq_125 + 4 * ndS 13 rq_125 + ndS 13 RM_125) ≤ 5 * ndS 13 tq + 4 * ndS 13 rq + ndS 13 RM from by first | exact k125_6 | omega), (show sl_125 + (9804 * ndS 13 tq_125 + 342 * ndS 13 rq_125 + 36864 * ndS 13 RM_125) ≤ 9804 * ndS 13 tq + 342 * ndS 13 rq + 36864 * ndS 13 RM from by first | exact k125_7 | omega)⟩) d_Ker_boot_182
          ·
            cases (hr5.symm.trans e9)
            obtain ⟨j9, hp9, hj9, hjq9, hto9⟩ := hcu6.2
            have hw : pw D A s.heap _ _ [wd_Ker cs hk kr (fun _ => none) kf_125 ka_125 (gKe pq pz_125 tq_125 rq_125), fm 13 (fTx cs tq_125 TR_125 TO_125 TF_125 TA_125), fm 8 (fPp cs pq PV), fm 13 (fRw cs rq_125 RR_125 RM_125 RW_125 RF_125 RA_125 RC_125)] := hw.sub [0, 1, 3, 2] rfl rfl
            have hw : pw D A s.heap _ _ [wd_Ker cs hk kr (fun _ => none) kf_125 ka_125 (gKe pq pz_125 tq_125 rq_125), fm 13 (fTx cs tq_125 TR_125 TO_125 TF_125 TA_125), fm 8 (fPp cs pq PV), fo 13 (fRw cs rq_125 RR_125 RM_125 RW_125 RF_125 RA_125 RC_125) (0 : Int32).toNatClampNeg, wd_Raw cs q4 (RR_125 (0 : Int32).toNatClampNeg) (fun k => if k = 2 then (RM_125 (0 : Int32).toNatClampNeg) else if k = 4 then (some ((PV j9).r 1)) else none) (RF_125 (0 : Int32).toNatClampNeg) (RA_125 (0 : Int32).toNatClampNeg) (fun _ _ => none), nA cs (RM_125 (0 : Int32).toNatClampNeg) 36864 (RC_125 (0 : Int32).toNatClampNeg)] := frw_out (pr := [wd_Ker cs hk kr (fun _ => none) kf_125 ka_125 (gKe pq pz_125 tq_125 rq_125), fm 13 (fTx cs tq_125 TR_125 TO_125 TF_125 TA_125), fm 8 (fPp cs pq PV)]) hw hi5 hcu6.1 hto9
            have hng10 := ndS_ge 13 RM_125 (0 : Int32).toNatClampNeg hi5
            have hrn10 : RwN (0 : Int32).toNatClampNeg (RF_125 (0 : Int32).toNatClampNeg) := hki.2.2.1 (0 : Int32).toNatClampNeg hi5 _ hcu6.1
            have hro10 := hrn10.1
            unfold RwO at hro10
            have hid10 := hrn10.2.1
            have hch10 := hrn10.2.2
            unfold KcI at hch10
            refine px_get S k_Raw hT hw 4 0 11 (v := .int ((RF_125 (0 : Int32).toNatClampNeg) 11)) rfl rfl rfl (by decide) m6_139 d_Ker_boot_179 ?_
            have hw : pw D A s.heap _ _ [wd_Ker cs hk kr (fun _ => none) kf_125 ka_125 (gKe pq pz_125 tq_125 rq_125), fm 13 (fTx cs tq_125 TR_125 TO_125 TF_125 TA_125), fm 8 (fPp cs pq PV), fm 13 (fRw cs rq_125 RR_125 RM_125 RW_125 RF_125 RA_125 RC_125)] := frw_back (pr := [wd_Ker cs hk kr (fun _ => none) kf_125 ka_125 (gKe pq pz_125 tq_125 rq_125), fm 13 (fTx cs tq_125 TR_125 TO_125 TF_125 TA_125), fm 8 (fPp cs pq PV)]) hw hi5 hcu6.1 hto9
            have hw : pw D A s.heap _ _ [wd_Ker cs hk kr (fun _ => none) kf_125 ka_125 (gKe pq pz_125 tq_125 rq_125), fm 13 (fTx cs tq_125 TR_125 TO_125 TF_125 TA_125), fm 13 (fRw cs rq_125 RR_125 RM_125 RW_125 RF_125 RA_125 RC_125), fm 8 (fPp cs pq PV)] := hw.sub [0, 1, 3, 2] rfl rfl
            exact pg_iret (v := ((RF_125 (0 : Int32).toNatClampNeg) 11)) S hr rfl hlk hAe hw (show ce_125 ≤ (5 * ndS 13 tq + 4 * ndS 13 rq + ndS 13 RM) from by first | exact oz_dca5c4e7e4 k125_6 | omega) (show sl_125 ≤ (9804 * ndS 13 tq + 342 * ndS 13 rq + 36864 * ndS 13 RM) from by first | exact oz_f7eb847e67 k125_7 | omega) (⟨pz_125, tq_125, rq_125, kf_125, ka_125, TR_125, TO_125, TF_125, TA_125, RR_125, RM_125, RW_125, RF_125, RA_125, RC_125, rfl, (show KnR pq PV pz_125 tq_125 rq_125 TF_125 TA_125 RF_125 from hki.rest), (show RmI rq_125 RM_125 from hrm), (show ce_125 + (5 * ndS 13 tq_125 + 4 * ndS 13 rq_125 + ndS 13 RM_125) ≤ 5 * ndS 13 tq + 4 * ndS 13 rq + ndS 13 RM from by first | exact k125_6 | omega), (show sl_125 + (9804 * ndS 13 tq_125 + 342 * ndS 13 rq_125 + 36864 * ndS 13 RM_125) ≤ 9804 * ndS 13 tq + 342 * ndS 13 rq + 36864 * ndS 13 RM from by first | exact k125_7 | omega)⟩) d_Ker_boot_182
        ·
          subst c3
          have nd0_c3 := nd_0
          have hc11 := cl_nat (x := (0 : Int32)) (by first | exact oz_b1de7dbe7e cst0 | omega)
          have hi11 : (0 : Int32).toNatClampNeg < 13 := by first | exact oz_a63a387477 hc11 cst0 | omega
          have hr11 := hy2.symm
          refine lv_iconst (v := (-1)) S.x S.b d_Ker_boot_169 (by decide) ?_
          refine lv_goto (tgt := 182) S.x S.b d_Ker_boot_170 (by decide) ?_
          exact pg_iret (v := (-1)) S hr rfl hlk hAe hw (show ce_125 ≤ (5 * ndS 13 tq + 4 * ndS 13 rq + ndS 13 RM) from by first | exact oz_dca5c4e7e4 k125_6 | omega) (show sl_125 ≤ (9804 * ndS 13 tq + 342 * ndS 13 rq + 36864 * ndS 13 RM) from by first | exact oz_f7eb847e67 k125_7 | omega) (⟨pz_125, tq_125, rq_125, kf_125, ka_125, TR_125, TO_125, TF_125, TA_125, RR_125, RM_125, RW_125, RF_125, RA_125, RC_125, rfl, (show KnR pq PV pz_125 tq_125 rq_125 TF_125 TA_125 RF_125 from hki.rest), (show RmI rq_125 RM_125 from hrm), (show ce_125 + (5 * ndS 13 tq_125 + 4 * ndS 13 rq_125 + ndS 13 RM_125) ≤ 5 * ndS 13 tq + 4 * ndS 13 rq + ndS 13 RM from by first | exact k125_6 | omega), (show sl_125 + (9804 * ndS 13 tq_125 + 342 * ndS 13 rq_125 + 36864 * ndS 13 RM_125) ≤ 9804 * ndS 13 tq + 342 * ndS 13 rq + 36864 * ndS 13 RM from by first | exact k125_7 | omega)⟩) d_Ker_boot_182
      · have nc1 : ¬ (13 : Int) ≤ x125_6.toInt := mt (i_le (x := 13) (y := x125_6)).mpr c1
        refine lv_aload_n S.x S.b d_Ker_boot_132 rfl (lv_at hl 0 rfl) ?_
        refine lv_iload S.x S.b d_Ker_boot_133 (lv_at hl 5 rfl) ?_
        refine px_calli (pr := []) (px_runV (As := [.int x125_6]) (rest := []) S (c_k_isRunning l D cs hk kr pq pz_125 tq_125 rq_125 kf_125 ka_125 TR_125 TO_125 TF_125 TA_125 RR_125 RM_125 RW_125 RF_125 RA_125 RC_125 PV x125_6  (show 0 ≤ x125_6.toInt from by first | exact k125_4 | omega) (show x125_6.toInt ≤ 12 from by first | exact oz_c745c762bb nc1 | omega) hki _) hT (pr := []) (pcs := [wd_Ker cs hk kr (fun _ => none) kf_125 ka_125 (gKe pq pz_125 tq_125 rq_125), fm 13 (fTx cs tq_125 TR_125 TO_125 TF_125 TA_125), fm 13 (fRw cs rq_125 RR_125 RM_125 RW_125 RF_125 RA_125 RC_125), fm 8 (fPp cs pq PV)]) hw px_X.tt (px_recv hT hw 0 0 rfl rfl rfl) m8_154 m8_151 m8_153 ms_6_1 m1_19 q_Ker_isRunning ⟨Nat.le_of_ble_eq_true rfl, Nat.le_of_ble_eq_true rfl⟩ hl.1 rfl (Nat.le_of_ble_eq_true rfl) d_Ker_boot_135 ⟨show ce_125 + 0 ≤ (5 * ndS 13 tq + 4 * ndS 13 rq + ndS 13 RM) from by first | with_reducible rfl | with_reducible assumption | omega, show sl_125 + 0 ≤ (9804 * ndS 13 tq + 342 * ndS 13 rq + 36864 * ndS 13 RM) from by first | with_reducible rfl | with_reducible assumption | omega⟩) hw hA (fun v13 p12 H locs hp12 hw => ?_)
        obtain ⟨rfl, e14, e15⟩ := hp12
        have e14 := z_rng e14
        replace e15 : NnP pz_125 x125_6 v13 := e15
        replace hw : pw D A s.heap H locs [wd_Ker cs hk kr (fun _ => none) kf_125 ka_125 (gKe pq pz_125 tq_125 rq_125), fm 13 (fTx cs tq_125 TR_125 TO_125 TF_125 TA_125), fm 13 (fRw cs rq_125 RR_125 RM_125 RW_125 RF_125 RA_125 RC_125), fm 8 (fPp cs pq PV)] := hw
        have lv13 := Int32.le_toInt v13
        have uv13 := Int32.toInt_lt v13
        refine lv_if_eq (tgt := 154) S.x S.b d_Ker_boot_138 (by decide) (fun c16 => ?_) (fun c16 => ?_)
        · have nc16 : v13.toInt = (0 : Int) := (i_eq (x := v13) (y := 0)).mp c16
          obtain ⟨z17, ez17⟩ : ∃ y : Int32, y = x125_6 + 1 := ⟨_, rfl⟩
          have tz17 : z17.toInt = (x125_6.toInt + 1 + 2147483648) % 4294967296 - 2147483648 := by rw [ez17]; exact i_add x125_6 1
          have lz17 := Int32.le_toInt z17
          have uz17 := Int32.toInt_lt z17
          try replace tz17 : z17.toInt = x125_6.toInt + 1 := by omega
          refine lv_iinc (v := z17) (lv' := [(6, .int z17), (0, .ref hk), (1, .int p0), (2, .int p1), (3, .int p2), (4, .int p3)]) S.x S.b d_Ker_boot_154 hl (k := 5) rfl (by rw [ez17]; rfl) (by decide) rfl (fun ls hl => ?_)
          refine lv_goto (tgt := 125) S.x S.b d_Ker_boot_157 (by decide) ?_
          exact ih125 ce_125 sl_125 pz_125 tq_125 rq_125 kf_125 ka_125 TR_125 TO_125 TF_125 TA_125 RR_125 RM_125 RW_125 RF_125 RA_125 RC_125 z17 _ _ ls (show KnI pq PV pz_125 tq_125 rq_125 TO_125 TF_125 TA_125 RW_125 RF_125 from hki) (show RmI rq_125 RM_125 from hrm) (show (kf_125 8).toInt = p2.toInt from by first | exact k125_2 | omega) (show (kf_125 9).toInt = p3.toInt from by first | exact k125_3 | omega) (show 0 ≤ z17.toInt from by first | exact oz_ae613611c0 tz17 k125_4 | omega) (show z17.toInt ≤ 13 from by first | exact oz_d342e04a5c tz17 nc1 | omega) (show ce_125 + (5 * ndS 13 tq_125 + 4 * ndS 13 rq_125 + ndS 13 RM_125) ≤ 5 * ndS 13 tq + 4 * ndS 13 rq + ndS 13 RM from by first | exact k125_6 | omega) (show sl_125 + (9804 * ndS 13 tq_125 + 342 * ndS 13 rq_125 + 36864 * ndS 13 RM_125) ≤ 9804 * ndS 13 tq + 342 * ndS 13 rq + 36864 * ndS 13 RM from by first | exact k125_7 | omega) (show 13 - z17.toInt < (n_125 : Int) from by first | exact oz_6680d080b4 hm tz17 | omega) hw (lv_sub hl [1, 2, 3, 4, 5, 0] rfl)
        · have nc16 : ¬ v13.toInt = (0 : Int) := mt (i_eq (x := v13) (y := 0)).mpr c16
          refine lv_aload_n S.x S.b d_Ker_boot_141 rfl (lv_at hl 0 rfl) ?_
          refine px_get S k_Ker hT hw 0 0 2 (v := .ref (kr 2)) rfl rfl rfl (by decide) m2_222 d_Ker_boot_142 ?_
          refine lv_iload S.x S.b d_Ker_boot_145 (lv_at hl 5 rfl) ?_
          obtain ⟨q18, hr18⟩ := e15 (by omega)
          have hc18 := cl_nat (x := x125_6) (by first | exact k125_4 | omega)
          have hi18 : x125_6.toNatClampNeg < 13 := by first | exact oz_81bc16641b hc18 nc1 | omega
          refine px_aaldS S hT hw 0 3 6 (n := 13) (f := pz_125) rfl rfl rfl (x := x125_6) (vp_in_iff.mpr (by first | exact oz_10a7a22e11 k125_4 nc1 | (constructor <;> omega))) (sk := q18) hr18 d_Ker_boot_147 ?_
          refine lv_bipush (v := 6) S.x S.b d_Ker_boot_148 (by decide) ?_
          refine lv_iconst (v := 0) S.x S.b d_Ker_boot_150 (by decide) ?_
          rcases hki.2.2.2 x125_6.toNatClampNeg hi18 with hno | ⟨h9, e9, hcu19⟩ | ⟨h9, e9, hcu19⟩
          · rw [hno] at hr18; cases hr18
          ·
            cases (hr18.symm.trans e9)
            obtain ⟨j20, hp20, hj20, hjq20, hto20, hf020⟩ := hcu19.2
            have hw : pw D A s.heap _ _ [wd_Ker cs hk kr (fun _ => none) kf_125 ka_125 (gKe pq pz_125 tq_125 rq_125), fm 13 (fRw cs rq_125 RR_125 RM_125 RW_125 RF_125 RA_125 RC_125), fm 8 (fPp cs pq PV), fm 13 (fTx cs tq_125 TR_125 TO_125 TF_125 TA_125)] := hw.sub [0, 2, 3, 1] rfl rfl
            have hw : pw D A s.heap _ _ [wd_Ker cs hk kr (fun _ => none) kf_125 ka_125 (gKe pq pz_125 tq_125 rq_125), fm 13 (fRw cs rq_125 RR_125 RM_125 RW_125 RF_125 RA_125 RC_125), fm 8 (fPp cs pq PV), fo 13 (fTx cs tq_125 TR_125 TO_125 TF_125 TA_125) x125_6.toNatClampNeg, wd_Txp cs q18 (TR_125 x125_6.toNatClampNeg) (fun k => if k = 3 then (some hp20) else none) (TF_125 x125_6.toNatClampNeg) (TA_125 x125_6.toNatClampNeg) (fun _ _ => none)] := ftx_out (pr := [wd_Ker cs hk kr (fun _ => none) kf_125 ka_125 (gKe pq pz_125 tq_125 rq_125), fm 13 (fRw cs rq_125 RR_125 RM_125 RW_125 RF_125 RA_125 RC_125), fm 8 (fPp cs pq PV)]) hw hi18 hcu19.1 hto20
            have htn21 : TxN x125_6.toNatClampNeg (TF_125 x125_6.toNatClampNeg) (TA_125 x125_6.toNatClampNeg) := hki.2.1 x125_6.toNatClampNeg hi18 _ hcu19.1
            obtain ⟨lk, ⟨i2, i3⟩, ⟨i4, i5⟩, ⟨i6, i7⟩, i8, ⟨i9, i11⟩, i10, hrt⟩ := htn21.1
            have hid21 := htn21.2.1
            have hch21 := htn21.2.2
            unfold KcI at hch21
            refine px_callv (pr := [wd_Ker cs hk kr (fun _ => none) kf_125 ka_125 (gKe pq pz_125 tq_125 rq_125), fm 13 (fRw cs rq_125 RR_125 RM_125 RW_125 RF_125 RA_125 RC_125), fm 8 (fPp cs pq PV), fo 13 (fTx cs tq_125 TR_125 TO_125 TF_125 TA_125) x125_6.toNatClampNeg]) (px_runU (As := [.int 6, .int 0]) (rest := []) S (c_finish_Txp l D cs q18 (TR_125 x125_6.toNatClampNeg) (fun _ _ => none) hp20 (TF_125 x125_6.toNatClampNeg) (TA_125 x125_6.toNatClampNeg) 6 0  (show TxOk ((TF_125 x125_6.toNatClampNeg) 4) ((TF_125 x125_6.toNatClampNeg) 5) ((TF_125 x125_6.toNatClampNeg) 8) ((TF_125 x125_6.toNatClampNeg) 9) ((TF_125 x125_6.toNatClampNeg) 17) ((TF_125 x125_6.toNatClampNeg) 21) ((TA_125 x125_6.toNatClampNeg) 2) from ⟨(by first | exact lk | exact lk_eq lk (by omega) | exact lk_mk (by omega)), ⟨by omega, by omega⟩, ⟨by omega, by omega⟩, ⟨by omega, by omega⟩, by omega, ⟨by omega, by omega⟩, by omega, hrt⟩) _) hT (pr := [wd_Ker cs hk kr (fun _ => none) kf_125 ka_125 (gKe pq pz_125 tq_125 rq_125), fm 13 (fRw cs rq_125 RR_125 RM_125 RW_125 RF_125 RA_125 RC_125), fm 8 (fPp cs pq PV), fo 13 (fTx cs tq_125 TR_125 TO_125 TF_125 TA_125) x125_6.toNatClampNeg]) (pcs := [wd_Txp cs q18 (TR_125 x125_6.toNatClampNeg) (fun k => if k = 3 then (some hp20) else none) (TF_125 x125_6.toNatClampNeg) (TA_125 x125_6.toNatClampNeg) (fun _ _ => none)]) hw px_X.tt (C := "HomeSystem$TextProcess") (x := ⟨"HomeSystem$AnyProcess", "finish", "(II)V"⟩) (px_recv hT hw 4 0 rfl rfl rfl) m8_89 m8_84 m8_86 m8_85 m8_88 m1_33 rfl q_HomeSystem_AnyProcess_finish ⟨Nat.le_of_ble_eq_true rfl, Nat.le_of_ble_eq_true rfl⟩ hl.1 rfl (Nat.le_of_ble_eq_true rfl) d_Ker_boot_151 ⟨show ce_125 + 0 ≤ (5 * ndS 13 tq + 4 * ndS 13 rq + ndS 13 RM) from by first | with_reducible rfl | with_reducible assumption | omega, show sl_125 + 0 ≤ (9804 * ndS 13 tq + 342 * ndS 13 rq + 36864 * ndS 13 RM) from by first | with_reducible rfl | with_reducible assumption | omega⟩) hw hA (fun p24 H locs hp24 hw => ?_)
            obtain ⟨f22, a23, rfl, h31, e26, e27, e28, e29, e30⟩ := hp24
            obtain ⟨lk, ⟨i2, i3⟩, ⟨i4, i5⟩, ⟨i6, i7⟩, i8, ⟨i9, i11⟩, i10, hrt⟩ := h31
            replace e26 : (f22 9).toInt = ((TF_125 x125_6.toNatClampNeg) 9).toInt := e26
            replace e27 : (f22 17).toInt = ((TF_125 x125_6.toNatClampNeg) 17).toInt := e27
            replace e28 : (f22 21).toInt = 0 := e28
            replace e29 : (f22 15).toInt = ((TF_125 x125_6.toNatClampNeg) 15).toInt := e29
            replace e30 : (f22 20).toInt = ((TF_125 x125_6.toNatClampNeg) 20).toInt := e30
            replace hw : pw D A s.heap H locs [wd_Ker cs hk kr (fun _ => none) kf_125 ka_125 (gKe pq pz_125 tq_125 rq_125), fm 13 (fRw cs rq_125 RR_125 RM_125 RW_125 RF_125 RA_125 RC_125), fm 8 (fPp cs pq PV), fo 13 (fTx cs tq_125 TR_125 TO_125 TF_125 TA_125) x125_6.toNatClampNeg, wd_Txp cs q18 (TR_125 x125_6.toNatClampNeg) (fun k => if k = 3 then (some hp20) else none) f22 a23 (fun _ _ => none)] := hw
            obtain ⟨z32, ez32⟩ : ∃ y : Int32, y = x125_6 + 1 := ⟨_, rfl⟩
            have tz32 : z32.toInt = (x125_6.toInt + 1 + 2147483648) % 4294967296 - 2147483648 := by rw [ez32]; exact i_add x125_6 1
            have lz32 := Int32.le_toInt z32
            have uz32 := Int32.toInt_lt z32
            try replace tz32 : z32.toInt = x125_6.toInt + 1 := by omega
            refine lv_iinc (v := z32) (lv' := [(6, .int z32), (0, .ref hk), (1, .int p0), (2, .int p1), (3, .int p2), (4, .int p3)]) S.x S.b d_Ker_boot_154 hl (k := 5) rfl (by rw [ez32]; rfl) (by decide) rfl (fun ls hl => ?_)
            refine lv_goto (tgt := 125) S.x S.b d_Ker_boot_157 (by decide) ?_
            have hw := ftx_in0 (pr := [wd_Ker cs hk kr (fun _ => none) kf_125 ka_125 (gKe pq pz_125 tq_125 rq_125), fm 13 (fRw cs rq_125 RR_125 RM_125 RW_125 RF_125 RA_125 RC_125), fm 8 (fPp cs pq PV)]) hw hi18 hcu19.1 hto20
            obtain ⟨TF33, hu_TF33⟩ : ∃ y : Nat → Nat → Int32, y = va_up TF_125 x125_6.toNatClampNeg f22 := ⟨_, rfl⟩
            obtain ⟨TA34, hu_TA34⟩ : ∃ y : Nat → Nat → Nat → Int32, y = va_up TA_125 x125_6.toNatClampNeg a23 := ⟨_, rfl⟩
            have hw : pw D A s.heap _ _ [wd_Ker cs hk kr (fun _ => none) kf_125 ka_125 (gKe pq pz_125 tq_125 rq_125), fm 13 (fRw cs rq_125 RR_125 RM_125 RW_125 RF_125 RA_125 RC_125), fm 8 (fPp cs pq PV), fm 13 (fTx cs tq_125 TR_125 TO_125 TF33 TA34)] := (by rw [hu_TF33, hu_TA34]; exact hw)
            have hki : KnI pq PV pz_125 tq_125 rq_125 TO_125 TF33 TA34 RW_125 RF_125 := (by rw [hu_TF33, hu_TA34]; exact hki.upT (show TxN x125_6.toNatClampNeg f22 a23 from ⟨(show TxOk (f22 4) (f22 5) (f22 8) (f22 9) (f22 17) (f22 21) (a23 2) from ⟨(by first | exact lk | exact lk_eq lk (by omega) | exact lk_mk (by omega)), ⟨by omega, by omega⟩, ⟨by omega, by omega⟩, ⟨by omega, by omega⟩, by omega, ⟨by omega, by omega⟩, by omega, hrt⟩), (show ((f22 15).toInt) = ((x125_6.toNatClampNeg : Nat) : Int) from by first | with_reducible rfl | with_reducible assumption | omega), (show 0 ≤ (f22 20).toInt ∧ (f22 20).toInt ≤ 3 ∧ ((f22 20).toInt = 0 ∨ 3 * ((x125_6.toNatClampNeg : Nat) : Int) + (f22 20).toInt ≤ 12) from by first | with_reducible rfl | with_reducible assumption | omega)⟩))
            have hz21_TF33 : (TF33 x125_6.toNatClampNeg 21).toInt = (f22 21).toInt := (by rw [hu_TF33, va_up_s]; try rfl)
            have hw : pw D A s.heap _ _ [wd_Ker cs hk kr (fun _ => none) kf_125 ka_125 (gKe pq pz_125 tq_125 rq_125), fm 13 (fTx cs tq_125 TR_125 TO_125 TF33 TA34), fm 13 (fRw cs rq_125 RR_125 RM_125 RW_125 RF_125 RA_125 RC_125), fm 8 (fPp cs pq PV)] := hw.sub [0, 3, 1, 2] rfl rfl
            exact ih125 ce_125 sl_125 pz_125 tq_125 rq_125 kf_125 ka_125 TR_125 TO_125 TF33 TA34 RR_125 RM_125 RW_125 RF_125 RA_125 RC_125 z32 _ _ ls (show KnI pq PV pz_125 tq_125 rq_125 TO_125 TF33 TA34 RW_125 RF_125 from hki) (show RmI rq_125 RM_125 from hrm) (show (kf_125 8).toInt = p2.toInt from by first | exact k125_2 | omega) (show (kf_125 9).toInt = p3.toInt from by first | exact k125_3 | omega) (show 0 ≤ z32.toInt from by first | exact oz_ae613611c0 tz32 k125_4 | omega) (show z32.toInt ≤ 13 from by first | exact oz_d342e04a5c tz32 nc1 | omega) (show ce_125 + (5 * ndS 13 tq_125 + 4 * ndS 13 rq_125 + ndS 13 RM_125) ≤ 5 * ndS 13 tq + 4 * ndS 13 rq + ndS 13 RM from by first | exact k125_6 | omega) (show sl_125 + (9804 * ndS 13 tq_125 + 342 * ndS 13 rq_125 + 36864 * ndS 13 RM_125) ≤ 9804 * ndS 13 tq + 342 * ndS 13 rq + 36864 * ndS 13 RM from by first | exact k125_7 | omega) (show 13 - z32.toInt < (n_125 : Int) from by first | exact oz_6680d080b4 hm tz32 | omega) hw (lv_sub hl [1, 2, 3, 4, 5, 0] rfl)
          ·
            cases (hr18.symm.trans e9)
            obtain ⟨j35, hp35, hj35, hjq35, hto35⟩ := hcu19.2
            have hw : pw D A s.heap _ _ [wd_Ker cs hk kr (fun _ => none) kf_125 ka_125 (gKe pq pz_125 tq_125 rq_125), fm 13 (fTx cs tq_125 TR_125 TO_125 TF_125 TA_125), fm 8 (fPp cs pq PV), fm 13 (fRw cs rq_125 RR_125 RM_125 RW_125 RF_125 RA_125 RC_125)] := hw.sub [0, 1, 3, 2] rfl rfl
            have hw : pw D A s.heap _ _ [wd_Ker cs hk kr (fun _ => none) kf_125 ka_125 (gKe pq pz_125 tq_125 rq_125), fm 13 (fTx cs tq_125 TR_125 TO_125 TF_125 TA_125), fm 8 (fPp cs pq PV), fo 13 (fRw cs rq_125 RR_125 RM_125 RW_125 RF_125 RA_125 RC_125) x125_6.toNatClampNeg, wd_Raw cs q18 (RR_125 x125_6.toNatClampNeg) (fun k => if k = 2 then (RM_125 x125_6.toNatClampNeg) else if k = 4 then (some ((PV j35).r 1)) else none) (RF_125 x125_6.toNatClampNeg) (RA_125 x125_6.toNatClampNeg) (fun _ _ => none), nA cs (RM_125 x125_6.toNatClampNeg) 36864 (RC_125 x125_6.toNatClampNeg)] := frw_out (pr := [wd_Ker cs hk kr (fun _ => none) kf_125 ka_125 (gKe pq pz_125 tq_125 rq_125), fm 13 (fTx cs tq_125 TR_125 TO_125 TF_125 TA_125), fm 8 (fPp cs pq PV)]) hw hi18 hcu19.1 hto35
            have hng36 := ndS_ge 13 RM_125 x125_6.toNatClampNeg hi18
            have hrn36 : RwN x125_6.toNatClampNeg (RF_125 x125_6.toNatClampNeg) := hki.2.2.1 x125_6.toNatClampNeg hi18 _ hcu19.1
            have hro36 := hrn36.1
            unfold RwO at hro36
            have hid36 := hrn36.2.1
            have hch36 := hrn36.2.2
            unfold KcI at hch36
            have hw : pw D A s.heap _ _ [wd_Ker cs hk kr (fun _ => none) kf_125 ka_125 (gKe pq pz_125 tq_125 rq_125), fm 13 (fTx cs tq_125 TR_125 TO_125 TF_125 TA_125), fm 8 (fPp cs pq PV), fo 13 (fRw cs rq_125 RR_125 RM_125 RW_125 RF_125 RA_125 RC_125) x125_6.toNatClampNeg, nA cs (RM_125 x125_6.toNatClampNeg) 36864 (RC_125 x125_6.toNatClampNeg), wd_Raw cs q18 (RR_125 x125_6.toNatClampNeg) (fun k => if k = 2 then (RM_125 x125_6.toNatClampNeg) else if k = 4 then (some ((PV j35).r 1)) else none) (RF_125 x125_6.toNatClampNeg) (RA_125 x125_6.toNatClampNeg) (fun _ _ => none)] := hw.sub [0, 1, 2, 3, 5, 4] rfl rfl
            refine px_callv (pr := [wd_Ker cs hk kr (fun _ => none) kf_125 ka_125 (gKe pq pz_125 tq_125 rq_125), fm 13 (fTx cs tq_125 TR_125 TO_125 TF_125 TA_125), fm 8 (fPp cs pq PV), fo 13 (fRw cs rq_125 RR_125 RM_125 RW_125 RF_125 RA_125 RC_125) x125_6.toNatClampNeg, nA cs (RM_125 x125_6.toNatClampNeg) 36864 (RC_125 x125_6.toNatClampNeg)]) (px_runU (As := [.int 6, .int 0]) (rest := []) S (c_finish_Raw l D cs q18 (RR_125 x125_6.toNatClampNeg) (fun _ _ => none) (RM_125 x125_6.toNatClampNeg) (some ((PV j35).r 1)) (RF_125 x125_6.toNatClampNeg) (RA_125 x125_6.toNatClampNeg) 6 0   _) hT (pr := [wd_Ker cs hk kr (fun _ => none) kf_125 ka_125 (gKe pq pz_125 tq_125 rq_125), fm 13 (fTx cs tq_125 TR_125 TO_125 TF_125 TA_125), fm 8 (fPp cs pq PV), fo 13 (fRw cs rq_125 RR_125 RM_125 RW_125 RF_125 RA_125 RC_125) x125_6.toNatClampNeg, nA cs (RM_125 x125_6.toNatClampNeg) 36864 (RC_125 x125_6.toNatClampNeg)]) (pcs := [wd_Raw cs q18 (RR_125 x125_6.toNatClampNeg) (fun k => if k = 2 then (RM_125 x125_6.toNatClampNeg) else if k = 4 then (some ((PV j35).r 1)) else none) (RF_125 x125_6.toNatClampNeg) (RA_125 x125_6.toNatClampNeg) (fun _ _ => none)]) hw px_X.tt (C := "HomeSystem$RawProcess") (x := ⟨"HomeSystem$AnyProcess", "finish", "(II)V"⟩) (px_recv hT hw 5 0 rfl rfl rfl) m8_89 m8_84 m8_86 m8_85 m8_87 m1_33 rfl q_HomeSystem_AnyProcess_finish ⟨Nat.le_of_ble_eq_true rfl, Nat.le_of_ble_eq_true rfl⟩ hl.1 rfl (Nat.le_of_ble_eq_true rfl) d_Ker_boot_151 ⟨show ce_125 + 0 ≤ (5 * ndS 13 tq + 4 * ndS 13 rq + ndS 13 RM) from by first | with_reducible rfl | with_reducible assumption | omega, show sl_125 + 0 ≤ (9804 * ndS 13 tq + 342 * ndS 13 rq + 36864 * ndS 13 RM) from by first | with_reducible rfl | with_reducible assumption | omega⟩) hw hA (fun p39 H locs hp39 hw => ?_)
            obtain ⟨f37, a38, rfl, e41, e42, e43, e44, e45, e46, e47⟩ := hp39
            replace e41 : (f37 3).toInt = ((RF_125 x125_6.toNatClampNeg) 3).toInt := e41
            replace e42 : (f37 7).toInt = ((RF_125 x125_6.toNatClampNeg) 7).toInt := e42
            replace e43 : (f37 8).toInt = ((RF_125 x125_6.toNatClampNeg) 8).toInt := e43
            replace e44 : (f37 10).toInt = ((RF_125 x125_6.toNatClampNeg) 10).toInt := e44
            replace e45 : (f37 13).toInt = ((RF_125 x125_6.toNatClampNeg) 13).toInt := e45
            replace e46 : (f37 14).toInt = 0 := e46
            replace e47 : (f37 11).toInt = (6 : Int) := e47
            replace hw : pw D A s.heap H locs [wd_Ker cs hk kr (fun _ => none) kf_125 ka_125 (gKe pq pz_125 tq_125 rq_125), fm 13 (fTx cs tq_125 TR_125 TO_125 TF_125 TA_125), fm 8 (fPp cs pq PV), fo 13 (fRw cs rq_125 RR_125 RM_125 RW_125 RF_125 RA_125 RC_125) x125_6.toNatClampNeg, nA cs (RM_125 x125_6.toNatClampNeg) 36864 (RC_125 x125_6.toNatClampNeg), wd_Raw cs q18 (RR_125 x125_6.toNatClampNeg) (fun k => if k = 2 then (RM_125 x125_6.toNatClampNeg) else if k = 4 then (some ((PV j35).r 1)) else none) f37 a38 (fun _ _ => none)] := hw
            obtain ⟨z48, ez48⟩ : ∃ y : Int32, y = x125_6 + 1 := ⟨_, rfl⟩
            have tz48 : z48.toInt = (x125_6.toInt + 1 + 2147483648) % 4294967296 - 2147483648 := by rw [ez48]; exact i_add x125_6 1
            have lz48 := Int32.le_toInt z48
            have uz48 := Int32.toInt_lt z48
            try replace tz48 : z48.toInt = x125_6.toInt + 1 := by omega
            refine lv_iinc (v := z48) (lv' := [(6, .int z48), (0, .ref hk), (1, .int p0), (2, .int p1), (3, .int p2), (4, .int p3)]) S.x S.b d_Ker_boot_154 hl (k := 5) rfl (by rw [ez48]; rfl) (by decide) rfl (fun ls hl => ?_)
            refine lv_goto (tgt := 125) S.x S.b d_Ker_boot_157 (by decide) ?_
            have hw : pw D A s.heap _ _ [wd_Ker cs hk kr (fun _ => none) kf_125 ka_125 (gKe pq pz_125 tq_125 rq_125), fm 13 (fTx cs tq_125 TR_125 TO_125 TF_125 TA_125), fm 8 (fPp cs pq PV), fo 13 (fRw cs rq_125 RR_125 RM_125 RW_125 RF_125 RA_125 RC_125) x125_6.toNatClampNeg, wd_Raw cs q18 (RR_125 x125_6.toNatClampNeg) (fun k => if k = 2 then (RM_125 x125_6.toNatClampNeg) else if k = 4 then (some ((PV j35).r 1)) else none) f37 a38 (fun _ _ => none), nA cs (RM_125 x125_6.toNatClampNeg) 36864 (RC_125 x125_6.toNatClampNeg)] := hw.sub [0, 1, 2, 3, 5, 4] rfl rfl
            have hw := frw_in0 (pr := [wd_Ker cs hk kr (fun _ => none) kf_125 ka_125 (gKe pq pz_125 tq_125 rq_125), fm 13 (fTx cs tq_125 TR_125 TO_125 TF_125 TA_125), fm 8 (fPp cs pq PV)]) hw hi18 hcu19.1 hto35
            obtain ⟨RM49, hu_RM49⟩ : ∃ y : Nat → Option Nat, y = va_up RM_125 x125_6.toNatClampNeg (RM_125 x125_6.toNatClampNeg) := ⟨_, rfl⟩
            obtain ⟨RF50, hu_RF50⟩ : ∃ y : Nat → Nat → Int32, y = va_up RF_125 x125_6.toNatClampNeg f37 := ⟨_, rfl⟩
            obtain ⟨RA51, hu_RA51⟩ : ∃ y : Nat → Nat → Nat → Int32, y = va_up RA_125 x125_6.toNatClampNeg a38 := ⟨_, rfl⟩
            obtain ⟨RC52, hu_RC52⟩ : ∃ y : Nat → Nat → Int32, y = va_up RC_125 x125_6.toNatClampNeg (RC_125 x125_6.toNatClampNeg) := ⟨_, rfl⟩
            have hw : pw D A s.heap _ _ [wd_Ker cs hk kr (fun _ => none) kf_125 ka_125 (gKe pq pz_125 tq_125 rq_125), fm 13 (fTx cs tq_125 TR_125 TO_125 TF_125 TA_125), fm 8 (fPp cs pq PV), fm 13 (fRw cs rq_125 RR_125 RM49 RW_125 RF50 RA51 RC52)] := (by rw [hu_RM49, hu_RF50, hu_RA51, hu_RC52]; exact hw)
            have hki : KnI pq PV pz_125 tq_125 rq_125 TO_125 TF_125 TA_125 RW_125 RF50 := (by rw [hu_RF50]; exact hki.upR (show RwN x125_6.toNatClampNeg f37 from ⟨(show (0 ≤ (f37 7).toInt ∧ (f37 7).toInt ≤ 1600) ∧ (0 ≤ (f37 10).toInt ∧ (f37 10).toInt + (f37 7).toInt ≤ 1600) ∧ ((f37 14).toInt = 0 ∨ (f37 14).toInt = 1) ∧ ((f37 14).toInt = 1 → 1 ≤ (f37 7).toInt) from by first | with_reducible rfl | with_reducible assumption | omega), (show ((f37 8).toInt) = ((x125_6.toNatClampNeg : Nat) : Int) from by first | with_reducible rfl | with_reducible assumption | omega), (show 0 ≤ (f37 13).toInt ∧ (f37 13).toInt ≤ 3 ∧ ((f37 13).toInt = 0 ∨ 3 * ((x125_6.toNatClampNeg : Nat) : Int) + (f37 13).toInt ≤ 12) from by first | with_reducible rfl | with_reducible assumption | omega)⟩))
            have hrm : RmI rq_125 RM49 := (by rw [hu_RM49]; exact hrm.up hcu19.1)
            have hnd_RM49 := ndS_up 13 RM_125 x125_6.toNatClampNeg (RM_125 x125_6.toNatClampNeg) hi18; rw [← hu_RM49] at hnd_RM49
            have hz14_RF50 : (RF50 x125_6.toNatClampNeg 14).toInt = (f37 14).toInt := (by rw [hu_RF50, va_up_s]; try rfl)
            have hw : pw D A s.heap _ _ [wd_Ker cs hk kr (fun _ => none) kf_125 ka_125 (gKe pq pz_125 tq_125 rq_125), fm 13 (fTx cs tq_125 TR_125 TO_125 TF_125 TA_125), fm 13 (fRw cs rq_125 RR_125 RM49 RW_125 RF50 RA51 RC52), fm 8 (fPp cs pq PV)] := hw.sub [0, 1, 3, 2] rfl rfl
            exact ih125 ce_125 sl_125 pz_125 tq_125 rq_125 kf_125 ka_125 TR_125 TO_125 TF_125 TA_125 RR_125 RM49 RW_125 RF50 RA51 RC52 z48 _ _ ls (show KnI pq PV pz_125 tq_125 rq_125 TO_125 TF_125 TA_125 RW_125 RF50 from hki) (show RmI rq_125 RM49 from hrm) (show (kf_125 8).toInt = p2.toInt from by first | exact k125_2 | omega) (show (kf_125 9).toInt = p3.toInt from by first | exact k125_3 | omega) (show 0 ≤ z48.toInt from by first | exact oz_ae613611c0 tz48 k125_4 | omega) (show z48.toInt ≤ 13 from by first | exact oz_d342e04a5c tz48 nc1 | omega) (show ce_125 + (5 * ndS 13 tq_125 + 4 * ndS 13 rq_125 + ndS 13 RM49) ≤ 5 * ndS 13 tq + 4 * ndS 13 rq + ndS 13 RM from by first | with_reducible rfl | with_reducible assumption | omega) (show sl_125 + (9804 * ndS 13 tq_125 + 342 * ndS 13 rq_125 + 36864 * ndS 13 RM49) ≤ 9804 * ndS 13 tq + 342 * ndS 13 rq + 36864 * ndS 13 RM from by first | with_reducible rfl | with_reducible assumption | omega) (show 13 - z48.toInt < (n_125 : Int) from by first | exact oz_6680d080b4 hm tz48 | omega) hw (lv_sub hl [1, 2, 3, 4, 5, 0] rfl)
  have J69 : ∀ (n_69 : Nat) (ce_69 sl_69 : Nat) (pz_69 : Nat → Option Nat) (tq_69 : Nat → Option Nat) (rq_69 : Nat → Option Nat) (kf_69 : Nat → Int32) (ka_69 : Nat → Nat → Int32) (TR_69 : Nat → Nat → Nat) (TO_69 : Nat → Option Nat) (TF_69 : Nat → Nat → Int32) (TA_69 : Nat → Nat → Nat → Int32) (RR_69 : Nat → Nat → Nat) (RM_69 : Nat → Option Nat) (RW_69 : Nat → Option Nat) (RF_69 : Nat → Nat → Int32) (RA_69 : Nat → Nat → Nat → Int32) (RC_69 : Nat → Nat → Int32) (x69_5 x69_6 : Int32) (H : Heap) (locs : List Loc) (ls : Array Slot), (KnI pq PV pz_69 tq_69 rq_69 TO_69 TF_69 TA_69 RW_69 RF_69) → (RoI ka_69) → (RmI rq_69 RM_69) → ((kf_69 8).toInt = p2.toInt) → ((kf_69 9).toInt = p3.toInt) → (0 ≤ x69_6.toInt) → (x69_6.toInt ≤ 1000000) → (ce_69 + (5 * ndS 13 tq_69 + 4 * ndS 13 rq_69 + ndS 13 RM_69) ≤ 5 * ndS 13 tq + 4 * ndS 13 rq + ndS 13 RM) → (sl_69 + (9804 * ndS 13 tq_69 + 342 * ndS 13 rq_69 + 36864 * ndS 13 RM_69) ≤ 9804 * ndS 13 tq + 342 * ndS 13 rq + 36864 * ndS 13 RM) → 1000000 - x69_6.toInt < (n_69 : Int) → pw D A s.heap H locs [wd_Ker cs hk kr (fun _ => none) kf_69 ka_69 (gKe pq pz_69 tq_69 rq_69), fm 13 (fTx cs tq_69 TR_69 TO_69 TF_69 TA_69), fm 13 (fRw cs rq_69 RR_69 RM_69 RW_69 RF_69 RA_69 RC_69), fm 8 (fPp cs pq PV)] → lv_has ls 8 [(0, .ref hk), (1, .int p0), (2, .int p1), (3, .int p2), (4, .int p3), (5, .int x69_5), (6, .int x69_6)] → W p l e { frames := 14, cells := (5 * ndS 13 tq + 4 * ndS 13 rq + ndS 13 RM), slots := (9804 * ndS 13 tq + 342 * ndS 13 rq + 36864 * ndS 13 RM), locals := 600 } s m [.ref hk, .int p0, .int p1, .int p2, .int p3].toArray below meth c H locs ce_69 sl_69 (MQ below (va_Qi (fun v ps => ∃ (pz' : Nat → Option Nat) (tq' : Nat → Option Nat) (rq' : Nat → Option Nat) (kf' : Nat → Int32) (ka' : Nat → Nat → Int32) (TR' : Nat → Nat → Nat) (TO' : Nat → Option Nat) (TF' : Nat → Nat → Int32) (TA' : Nat → Nat → Nat → Int32) (RR' : Nat → Nat → Nat) (RM' : Nat → Option Nat) (RW' : Nat → Option Nat) (RF' : Nat → Nat → Int32) (RA' : Nat → Nat → Nat → Int32) (RC' : Nat → Nat → Int32), (ps.1 = [wd_Ker cs hk kr (fun _ => none) kf' ka' (gKe pq pz' tq' rq'), fm 13 (fTx cs tq' TR' TO' TF' TA'), fm 13 (fRw cs rq' RR' RM' RW' RF' RA' RC'), fm 8 (fPp cs pq PV)]) ∧ (KnR pq PV pz' tq' rq' TF' TA' RF') ∧ (RmI rq' RM') ∧ (ps.2.1 + (5 * ndS 13 tq' + 4 * ndS 13 rq' + ndS 13 RM') ≤ 5 * ndS 13 tq + 4 * ndS 13 rq + ndS 13 RM) ∧ (ps.2.2 + (9804 * ndS 13 tq' + 342 * ndS 13 rq' + 36864 * ndS 13 RM') ≤ 9804 * ndS 13 tq + 342 * ndS 13 rq + 36864 * ndS 13 RM)) (pg_B D (va_A ([wd_Ker cs hk kr (fun _ => none) kf ka (gKe pq pz tq rq), fm 13 (fTx cs tq TR TO TF TA), fm 13 (fRw cs rq RR RM RW RF RA RC), fm 8 (fPp cs pq PV)] : List va_W).flatten s.heap.size) s.heap.size (tot s.heap)) (va_A ([wd_Ker cs hk kr (fun _ => none) kf ka (gKe pq pz tq rq), fm 13 (fTx cs tq TR TO TF TA), fm 13 (fRw cs rq RR RM RW RF RA RC), fm 8 (fPp cs pq PV)] : List va_W).flatten s.heap.size)) [.ref hk, .int p0, .int p1, .int p2, .int p3].toArray s (5 * ndS 13 tq + 4 * ndS 13 rq + ndS 13 RM) (9804 * ndS 13 tq + 342 * ndS 13 rq + 36864 * ndS 13 RM) A) (F0 m 69 ls []) := by
    intro  n_69
    induction n_69 with
    | zero =>
      intro ce_69 sl_69 pz_69 tq_69 rq_69 kf_69 ka_69 TR_69 TO_69 TF_69 TA_69 RR_69 RM_69 RW_69 RF_69 RA_69 RC_69 x69_5 x69_6 H locs ls k69_0 k69_1 k69_2 k69_3 k69_4 k69_5 k69_6 k69_7 k69_8 hm hw hl
      have lx69_5 := Int32.le_toInt x69_5
      have ux69_5 := Int32.toInt_lt x69_5
      have lx69_6 := Int32.le_toInt x69_6
      have ux69_6 := Int32.toInt_lt x69_6
      have hki := k69_0
      have hro := k69_1
      have hrm := k69_2
      exact absurd hm (by omega)
    | succ n_69 ih69 =>
      intro ce_69 sl_69 pz_69 tq_69 rq_69 kf_69 ka_69 TR_69 TO_69 TF_69 TA_69 RR_69 RM_69 RW_69 RF_69 RA_69 RC_69 x69_5 x69_6 H locs ls k69_0 k69_1 k69_2 k69_3 k69_4 k69_5 k69_6 k69_7 k69_8 hm hw hl
      have lx69_5 := Int32.le_toInt x69_5
      have ux69_5 := Int32.toInt_lt x69_5
      have lx69_6 := Int32.le_toInt x69_6
      have ux69_6 := Int32.toInt_lt x69_6
      have hki := k69_0
      have hro := k69_1
      have hrm := k69_2
      have J87 : ∀ (n_87 : Nat) (ce_87 sl_87 : Nat) (pz_87 : Nat → Option Nat) (tq_87 : Nat → Option Nat) (rq_87 : Nat → Option Nat) (kf_87 : Nat → Int32) (ka_87 : Nat → Nat → Int32) (TR_87 : Nat → Nat → Nat) (TO_87 : Nat → Option Nat) (TF_87 : Nat → Nat → Int32) (TA_87 : Nat → Nat → Nat → Int32) (RR_87 : Nat → Nat → Nat) (RM_87 : Nat → Option Nat) (RW_87 : Nat → Option Nat) (RF_87 : Nat → Nat → Int32) (RA_87 : Nat → Nat → Nat → Int32) (RC_87 : Nat → Nat → Int32) (x87_5 x87_6 x87_7 : Int32) (H : Heap) (locs : List Loc) (ls : Array Slot), (KnI pq PV pz_87 tq_87 rq_87 TO_87 TF_87 TA_87 RW_87 RF_87) → (RoI ka_87) → (RmI rq_87 RM_87) → ((kf_87 8).toInt = p2.toInt) → ((kf_87 9).toInt = p3.toInt) → (0 ≤ x87_7.toInt) → (x87_7.toInt ≤ 13) → (0 ≤ x87_6.toInt) → (x87_6.toInt ≤ 999999) → (1000000 - x87_6.toInt < (n_69 : Int) + 1) → (ce_87 + (5 * ndS 13 tq_87 + 4 * ndS 13 rq_87 + ndS 13 RM_87) ≤ 5 * ndS 13 tq + 4 * ndS 13 rq + ndS 13 RM) → (sl_87 + (9804 * ndS 13 tq_87 + 342 * ndS 13 rq_87 + 36864 * ndS 13 RM_87) ≤ 9804 * ndS 13 tq + 342 * ndS 13 rq + 36864 * ndS 13 RM) → 13 - x87_7.toInt < (n_87 : Int) → pw D A s.heap H locs [wd_Ker cs hk kr (fun _ => none) kf_87 ka_87 (gKe pq pz_87 tq_87 rq_87), fm 13 (fTx cs tq_87 TR_87 TO_87 TF_87 TA_87), fm 13 (fRw cs rq_87 RR_87 RM_87 RW_87 RF_87 RA_87 RC_87), fm 8 (fPp cs pq PV)] → lv_has ls 8 [(0, .ref hk), (1, .int p0), (2, .int p1), (3, .int p2), (4, .int p3), (5, .int x87_5), (6, .int x87_6), (7, .int x87_7)] → W p l e { frames := 14, cells := (5 * ndS 13 tq + 4 * ndS 13 rq + ndS 13 RM), slots := (9804 * ndS 13 tq + 342 * ndS 13 rq + 36864 * ndS 13 RM), locals := 600 } s m [.ref hk, .int p0, .int p1, .int p2, .int p3].toArray below meth c H locs ce_87 sl_87 (MQ below (va_Qi (fun v ps => ∃ (pz' : Nat → Option Nat) (tq' : Nat → Option Nat) (rq' : Nat → Option Nat) (kf' : Nat → Int32) (ka' : Nat → Nat → Int32) (TR' : Nat → Nat → Nat) (TO' : Nat → Option Nat) (TF' : Nat → Nat → Int32) (TA' : Nat → Nat → Nat → Int32) (RR' : Nat → Nat → Nat) (RM' : Nat → Option Nat) (RW' : Nat → Option Nat) (RF' : Nat → Nat → Int32) (RA' : Nat → Nat → Nat → Int32) (RC' : Nat → Nat → Int32), (ps.1 = [wd_Ker cs hk kr (fun _ => none) kf' ka' (gKe pq pz' tq' rq'), fm 13 (fTx cs tq' TR' TO' TF' TA'), fm 13 (fRw cs rq' RR' RM' RW' RF' RA' RC'), fm 8 (fPp cs pq PV)]) ∧ (KnR pq PV pz' tq' rq' TF' TA' RF') ∧ (RmI rq' RM') ∧ (ps.2.1 + (5 * ndS 13 tq' + 4 * ndS 13 rq' + ndS 13 RM') ≤ 5 * ndS 13 tq + 4 * ndS 13 rq + ndS 13 RM) ∧ (ps.2.2 + (9804 * ndS 13 tq' + 342 * ndS 13 rq' + 36864 * ndS 13 RM') ≤ 9804 * ndS 13 tq + 342 * ndS 13 rq + 36864 * ndS 13 RM)) (pg_B D (va_A ([wd_Ker cs hk kr (fun _ => none) kf ka (gKe pq pz tq rq), fm 13 (fTx cs tq TR TO TF TA), fm 13 (fRw cs rq RR RM RW RF RA RC), fm 8 (fPp cs pq PV)] : List va_W).flatten s.heap.size) s.heap.size (tot s.heap)) (va_A ([wd_Ker cs hk kr (fun _ => none) kf ka (gKe pq pz tq rq), fm 13 (fTx cs tq TR TO TF TA), fm 13 (fRw cs rq RR RM RW RF RA RC), fm 8 (fPp cs pq PV)] : List va_W).flatten s.heap.size)) [.ref hk, .int p0, .int p1, .int p2, .int p3].toArray s (5 * ndS 13 tq + 4 * ndS 13 rq + ndS 13 RM) (9804 * ndS 13 tq + 342 * ndS 13 rq + 36864 * ndS 13 RM) A) (F0 m 87 ls []) := by
        intro  n_87
        induction n_87 with
        | zero =>
          intro ce_87 sl_87 pz_87 tq_87 rq_87 kf_87 ka_87 TR_87 TO_87 TF_87 TA_87 RR_87 RM_87 RW_87 RF_87 RA_87 RC_87 x87_5 x87_6 x87_7 H locs ls k87_0 k87_1 k87_2 k87_3 k87_4 k87_5 k87_6 k87_7 k87_8 k87_9 k87_10 k87_11 hm hw hl
          have lx87_5 := Int32.le_toInt x87_5
          have ux87_5 := Int32.toInt_lt x87_5
          have lx87_6 := Int32.le_toInt x87_6
          have ux87_6 := Int32.toInt_lt x87_6
          have lx87_7 := Int32.le_toInt x87_7
          have ux87_7 := Int32.toInt_lt x87_7
          have hki := k87_0
          have hro := k87_1
          have hrm := k87_2
          exact absurd hm (by omega)
        | succ n_87 ih87 =>
          intro ce_87 sl_87 pz_87 tq_87 rq_87 kf_87 ka_87 TR_87 TO_87 TF_87 TA_87 RR_87 RM_87 RW_87 RF_87 RA_87 RC_87 x87_5 x87_6 x87_7 H locs ls k87_0 k87_1 k87_2 k87_3 k87_4 k87_5 k87_6 k87_7 k87_8 k87_9 k87_10 k87_11 hm hw hl
          have lx87_5 := Int32.le_toInt x87_5
          have ux87_5 := Int32.toInt_lt x87_5
          have lx87_6 := Int32.le_toInt x87_6
          have ux87_6 := Int32.toInt_lt x87_6
          have lx87_7 := Int32.le_toInt x87_7
          have ux87_7 := Int32.toInt_lt x87_7
          have hki := k87_0
          have hro := k87_1
          have hrm := k87_2
          refine lv_iload S.x S.b d_Ker_boot_87 (lv_at hl 7 rfl) ?_
          refine lv_bipush (v := 13) S.x S.b d_Ker_boot_89 (by decide) ?_
          refine lv_icmp_ge (tgt := 116) S.x S.b d_Ker_boot_91 (by decide) (fun c53 => ?_) (fun c53 => ?_)
          · have nc53 : (13 : Int) ≤ x87_7.toInt := (i_le (x := 13) (y := x87_7)).mp c53
            obtain ⟨z54, ez54⟩ : ∃ y : Int32, y = x87_6 + 1 := ⟨_, rfl⟩
            have tz54 : z54.toInt = (x87_6.toInt + 1 + 2147483648) % 4294967296 - 2147483648 := by rw [ez54]; exact i_add x87_6 1
            have lz54 := Int32.le_toInt z54
            have uz54 := Int32.toInt_lt z54
            try replace tz54 : z54.toInt = x87_6.toInt + 1 := by omega
            refine lv_iinc (v := z54) (lv' := [(6, .int z54), (0, .ref hk), (1, .int p0), (2, .int p1), (3, .int p2), (4, .int p3), (5, .int x87_5), (7, .int x87_7)]) S.x S.b d_Ker_boot_116 hl (k := 6) rfl (by rw [ez54]; rfl) (by decide) rfl (fun ls hl => ?_)
            refine lv_goto (tgt := 69) S.x S.b d_Ker_boot_119 (by decide) ?_
            exact ih69 ce_87 sl_87 pz_87 tq_87 rq_87 kf_87 ka_87 TR_87 TO_87 TF_87 TA_87 RR_87 RM_87 RW_87 RF_87 RA_87 RC_87 x87_5 z54 _ _ ls (show KnI pq PV pz_87 tq_87 rq_87 TO_87 TF_87 TA_87 RW_87 RF_87 from hki) (show RoI ka_87 from hro) (show RmI rq_87 RM_87 from hrm) (show (kf_87 8).toInt = p2.toInt from by first | exact k87_3 | omega) (show (kf_87 9).toInt = p3.toInt from by first | exact k87_4 | omega) (show 0 ≤ z54.toInt from by first | exact oz_ae613611c0 tz54 k87_7 | omega) (show z54.toInt ≤ 1000000 from by first | exact oz_2466c61d38 tz54 k87_8 | omega) (show ce_87 + (5 * ndS 13 tq_87 + 4 * ndS 13 rq_87 + ndS 13 RM_87) ≤ 5 * ndS 13 tq + 4 * ndS 13 rq + ndS 13 RM from by first | exact k87_10 | omega) (show sl_87 + (9804 * ndS 13 tq_87 + 342 * ndS 13 rq_87 + 36864 * ndS 13 RM_87) ≤ 9804 * ndS 13 tq + 342 * ndS 13 rq + 36864 * ndS 13 RM from by first | exact k87_11 | omega) (show 1000000 - z54.toInt < (n_69 : Int) from by first | exact oz_dcf11d8045 k87_9 tz54 | omega) hw (lv_sub hl [1, 2, 3, 4, 5, 6, 0] rfl)
          · have nc53 : ¬ (13 : Int) ≤ x87_7.toInt := mt (i_le (x := 13) (y := x87_7)).mpr c53
            refine lv_iload S.x S.b d_Ker_boot_94 (lv_at hl 5 rfl) ?_
            refine lv_aload_n S.x S.b d_Ker_boot_96 rfl (lv_at hl 0 rfl) ?_
            refine lv_aload_n S.x S.b d_Ker_boot_97 rfl (lv_at hl 0 rfl) ?_
            refine px_get S k_Ker hT hw 0 0 2 (v := .ref (kr 2)) rfl rfl rfl (by decide) m2_222 d_Ker_boot_98 ?_
            refine lv_iload S.x S.b d_Ker_boot_101 (lv_at hl 7 rfl) ?_
            refine px_aald S hT hw 0 3 6 (n := 13) (f := pz_87) rfl rfl rfl (x := x87_7) (vp_in_iff.mpr (by first | exact oz_10a7a22e11 k87_5 nc53 | (constructor <;> omega))) d_Ker_boot_103 ?_
            refine lq_top (fun y55 hy55 => ?_)
            have hc56 := cl_nat (x := x87_7) (by first | exact k87_5 | omega)
            have hi56 : x87_7.toNatClampNeg < 13 := by first | exact oz_81bc16641b hc56 nc53 | omega
            rcases hki.2.2.2 x87_7.toNatClampNeg hi56 with hno | ⟨q56, e9, hcu56⟩ | ⟨q56, e9, hcu56⟩
            ·
              have hy9 := hy55.trans hno
              subst hy9
              refine pg_calli (pr := []) (px_runV (As := [.null]) (rest := [.int x87_5]) S (c_k_advance_n l D cs hk kr pq kf_87 PV pz_87 tq_87 rq_87 ka_87 TR_87 TO_87 TF_87 TA_87 RR_87 RM_87 RW_87 RF_87 RA_87 RC_87   hki hro hrm _ _) hT (pr := []) (pcs := [wd_Ker cs hk kr (fun _ => none) kf_87 ka_87 (gKe pq pz_87 tq_87 rq_87), fm 13 (fTx cs tq_87 TR_87 TO_87 TF_87 TA_87), fm 13 (fRw cs rq_87 RR_87 RM_87 RW_87 RF_87 RA_87 RC_87), fm 8 (fPp cs pq PV)]) hw (px_X.tot px_X.tt) (px_recv hT hw 0 0 rfl rfl rfl) m8_52 m8_49 m8_51 ms_5_7 m1_19 q_Ker_advance ⟨Nat.le_of_ble_eq_true rfl, Nat.le_of_ble_eq_true rfl⟩ hl.1 rfl (Nat.le_of_ble_eq_true rfl) d_Ker_boot_104 ⟨show ce_87 + (5 * ndS 13 tq_87 + 4 * ndS 13 rq_87 + ndS 13 RM_87) ≤ (5 * ndS 13 tq + 4 * ndS 13 rq + ndS 13 RM) from by first | with_reducible rfl | with_reducible assumption | omega, show sl_87 + (9804 * ndS 13 tq_87 + 342 * ndS 13 rq_87 + 36864 * ndS 13 RM_87) ≤ (9804 * ndS 13 tq + 342 * ndS 13 rq + 36864 * ndS 13 RM) from by first | with_reducible rfl | with_reducible assumption | omega⟩) hw hA (fun v86 p85 k87 n88 H locs hp85 hw => ?_)
              dsimp only at hp85
              obtain ⟨pz71, tq72, rq73, ka74, TR75, TO76, TF77, TA78, RR79, RM80, RW81, RF82, RA83, RC84, rfl, e89, e90, e91, e92, e93, e94⟩ := hp85
              have e89 := z_rng e89
              replace e90 : KnI pq PV pz71 tq72 rq73 TO76 TF77 TA78 RW81 RF82 := e90
              have hki := e90
              replace e91 : RoI ka74 := e91
              have hro := e91
              replace e92 : RmI rq73 RM80 := e92
              have hrm := e92
              replace e93 : k87 + (5 * ndS 13 tq72 + 4 * ndS 13 rq73 + ndS 13 RM80) ≤ 5 * ndS 13 tq_87 + 4 * ndS 13 rq_87 + ndS 13 RM_87 := e93
              replace e94 : n88 + (9804 * ndS 13 tq72 + 342 * ndS 13 rq73 + 36864 * ndS 13 RM80) ≤ 9804 * ndS 13 tq_87 + 342 * ndS 13 rq_87 + 36864 * ndS 13 RM_87 := e94
              replace hw : pw D A s.heap H locs [wd_Ker cs hk kr (fun _ => none) kf_87 ka74 (gKe pq pz71 tq72 rq73), fm 13 (fTx cs tq72 TR75 TO76 TF77 TA78), fm 13 (fRw cs rq73 RR79 RM80 RW81 RF82 RA83 RC84), fm 8 (fPp cs pq PV)] := hw
              have lv86 := Int32.le_toInt v86
              have uv86 := Int32.toInt_lt v86
              refine lv_ior S.x S.b d_Ker_boot_107 ?_
              refine lv_topi (fun z95 ez95 => ?_)
              have lz95 := Int32.le_toInt z95
              have uz95 := Int32.toInt_lt z95
              refine lv_istore (lv' := [(5, .int z95), (0, .ref hk), (1, .int p0), (2, .int p1), (3, .int p2), (4, .int p3), (6, .int x87_6), (7, .int x87_7)]) S.x S.b d_Ker_boot_108 hl (by decide) rfl (fun ls hl => ?_)
              obtain ⟨z96, ez96⟩ : ∃ y : Int32, y = x87_7 + 1 := ⟨_, rfl⟩
              have tz96 : z96.toInt = (x87_7.toInt + 1 + 2147483648) % 4294967296 - 2147483648 := by rw [ez96]; exact i_add x87_7 1
              have lz96 := Int32.le_toInt z96
              have uz96 := Int32.toInt_lt z96
              try replace tz96 : z96.toInt = x87_7.toInt + 1 := by omega
              refine lv_iinc (v := z96) (lv' := [(7, .int z96), (5, .int z95), (0, .ref hk), (1, .int p0), (2, .int p1), (3, .int p2), (4, .int p3), (6, .int x87_6)]) S.x S.b d_Ker_boot_110 hl (k := 7) rfl (by rw [ez96]; rfl) (by decide) rfl (fun ls hl => ?_)
              refine lv_goto (tgt := 87) S.x S.b d_Ker_boot_113 (by decide) ?_
              exact ih87 (ce_87 + k87) (sl_87 + n88) pz71 tq72 rq73 kf_87 ka74 TR75 TO76 TF77 TA78 RR79 RM80 RW81 RF82 RA83 RC84 z95 x87_6 z96 _ _ ls (show KnI pq PV pz71 tq72 rq73 TO76 TF77 TA78 RW81 RF82 from hki) (show RoI ka74 from hro) (show RmI rq73 RM80 from hrm) (show (kf_87 8).toInt = p2.toInt from by first | exact k87_3 | omega) (show (kf_87 9).toInt = p3.toInt from by first | exact k87_4 | omega) (show 0 ≤ z96.toInt from by first | exact oz_ae613611c0 tz96 k87_5 | omega) (show z96.toInt ≤ 13 from by first | exact oz_d342e04a5c tz96 nc53 | omega) (show 0 ≤ x87_6.toInt from by first | exact k87_7 | omega) (show x87_6.toInt ≤ 999999 from by first | exact k87_8 | omega) (show 1000000 - x87_6.toInt < (n_69 : Int) + 1 from by first | exact k87_9 | omega) (show (ce_87 + k87) + (5 * ndS 13 tq72 + 4 * ndS 13 rq73 + ndS 13 RM80) ≤ 5 * ndS 13 tq + 4 * ndS 13 rq + ndS 13 RM from by first | exact oz_09730e4356 k87_10 e93 | omega) (show (sl_87 + n88) + (9804 * ndS 13 tq72 + 342 * ndS 13 rq73 + 36864 * ndS 13 RM80) ≤ 9804 * ndS 13 tq + 342 * ndS 13 rq + 36864 * ndS 13 RM from by first | exact oz_0d0bbc14c3 k87_11 e94 | omega) (show 13 - z96.toInt < (n_87 : Int) from by first | exact oz_6680d080b4 hm tz96 | omega) hw (lv_sub hl [2, 3, 4, 5, 6, 1, 7, 0] rfl)
            ·
              have hy9 := hy55.trans e9
              subst hy9
              obtain ⟨j97, hp97, hj97, hjq97, hto97, hf097⟩ := hcu56.2
              refine pg_calli (pr := []) (px_runV (As := [.ref q56]) (rest := [.int x87_5]) S (c_k_advance_T l D cs hk kr pq kf_87 PV pz_87 tq_87 rq_87 ka_87 TR_87 TO_87 TF_87 TA_87 RR_87 RM_87 RW_87 RF_87 RA_87 RC_87  x87_7.toNatClampNeg q56 (show 0 ≤ (kf_87 8).toInt from by first | exact oz_f3ebed1ad0 k87_3 g2 | omega) (show (kf_87 8).toInt ≤ 100 from by first | exact oz_b2552476a0 k87_3 g3 | omega) hki hro hrm hi56 hcu56 _ _) hT (pr := []) (pcs := [wd_Ker cs hk kr (fun _ => none) kf_87 ka_87 (gKe pq pz_87 tq_87 rq_87), fm 13 (fTx cs tq_87 TR_87 TO_87 TF_87 TA_87), fm 13 (fRw cs rq_87 RR_87 RM_87 RW_87 RF_87 RA_87 RC_87), fm 8 (fPp cs pq PV)]) hw (px_X.tot px_X.tt) (px_recv hT hw 0 0 rfl rfl rfl) m8_52 m8_49 m8_51 ms_5_7 m1_19 q_Ker_advance ⟨Nat.le_of_ble_eq_true rfl, Nat.le_of_ble_eq_true rfl⟩ hl.1 rfl (Nat.le_of_ble_eq_true rfl) d_Ker_boot_104 ⟨show ce_87 + (5 * ndS 13 tq_87 + 4 * ndS 13 rq_87 + ndS 13 RM_87) ≤ (5 * ndS 13 tq + 4 * ndS 13 rq + ndS 13 RM) from by first | with_reducible rfl | with_reducible assumption | omega, show sl_87 + (9804 * ndS 13 tq_87 + 342 * ndS 13 rq_87 + 36864 * ndS 13 RM_87) ≤ (9804 * ndS 13 tq + 342 * ndS 13 rq + 36864 * ndS 13 RM) from by first | with_reducible rfl | with_reducible assumption | omega⟩) hw hA (fun v127 p126 k128 n129 H locs hp126 hw => ?_)
              dsimp only at hp126
              obtain ⟨pz112, tq113, rq114, ka115, TR116, TO117, TF118, TA119, RR120, RM121, RW122, RF123, RA124, RC125, rfl, e130, e131, e132, e133, e134, e135⟩ := hp126
              have e130 := z_rng e130
              replace e131 : KnI pq PV pz112 tq113 rq114 TO117 TF118 TA119 RW122 RF123 := e131
              have hki := e131
              replace e132 : RoI ka115 := e132
              have hro := e132
              replace e133 : RmI rq114 RM121 := e133
              have hrm := e133
              replace e134 : k128 + (5 * ndS 13 tq113 + 4 * ndS 13 rq114 + ndS 13 RM121) ≤ 5 * ndS 13 tq_87 + 4 * ndS 13 rq_87 + ndS 13 RM_87 := e134
              replace e135 : n129 + (9804 * ndS 13 tq113 + 342 * ndS 13 rq114 + 36864 * ndS 13 RM121) ≤ 9804 * ndS 13 tq_87 + 342 * ndS 13 rq_87 + 36864 * ndS 13 RM_87 := e135
              replace hw : pw D A s.heap H locs [wd_Ker cs hk kr (fun _ => none) kf_87 ka115 (gKe pq pz112 tq113 rq114), fm 13 (fTx cs tq113 TR116 TO117 TF118 TA119), fm 13 (fRw cs rq114 RR120 RM121 RW122 RF123 RA124 RC125), fm 8 (fPp cs pq PV)] := hw
              have lv127 := Int32.le_toInt v127
              have uv127 := Int32.toInt_lt v127
              refine lv_ior S.x S.b d_Ker_boot_107 ?_
              refine lv_topi (fun z136 ez136 => ?_)
              have lz136 := Int32.le_toInt z136
              have uz136 := Int32.toInt_lt z136
              refine lv_istore (lv' := [(5, .int z136), (0, .ref hk), (1, .int p0), (2, .int p1), (3, .int p2), (4, .int p3), (6, .int x87_6), (7, .int x87_7)]) S.x S.b d_Ker_boot_108 hl (by decide) rfl (fun ls hl => ?_)
              obtain ⟨z137, ez137⟩ : ∃ y : Int32, y = x87_7 + 1 := ⟨_, rfl⟩
              have tz137 : z137.toInt = (x87_7.toInt + 1 + 2147483648) % 4294967296 - 2147483648 := by rw [ez137]; exact i_add x87_7 1
              have lz137 := Int32.le_toInt z137
              have uz137 := Int32.toInt_lt z137
              try replace tz137 : z137.toInt = x87_7.toInt + 1 := by omega
              refine lv_iinc (v := z137) (lv' := [(7, .int z137), (5, .int z136), (0, .ref hk), (1, .int p0), (2, .int p1), (3, .int p2), (4, .int p3), (6, .int x87_6)]) S.x S.b d_Ker_boot_110 hl (k := 7) rfl (by rw [ez137]; rfl) (by decide) rfl (fun ls hl => ?_)
              refine lv_goto (tgt := 87) S.x S.b d_Ker_boot_113 (by decide) ?_
              exact ih87 (ce_87 + k128) (sl_87 + n129) pz112 tq113 rq114 kf_87 ka115 TR116 TO117 TF118 TA119 RR120 RM121 RW122 RF123 RA124 RC125 z136 x87_6 z137 _ _ ls (show KnI pq PV pz112 tq113 rq114 TO117 TF118 TA119 RW122 RF123 from hki) (show RoI ka115 from hro) (show RmI rq114 RM121 from hrm) (show (kf_87 8).toInt = p2.toInt from by first | exact k87_3 | omega) (show (kf_87 9).toInt = p3.toInt from by first | exact k87_4 | omega) (show 0 ≤ z137.toInt from by first | exact oz_ae613611c0 tz137 k87_5 | omega) (show z137.toInt ≤ 13 from by first | exact oz_d342e04a5c tz137 nc53 | omega) (show 0 ≤ x87_6.toInt from by first | exact k87_7 | omega) (show x87_6.toInt ≤ 999999 from by first | exact k87_8 | omega) (show 1000000 - x87_6.toInt < (n_69 : Int) + 1 from by first | exact k87_9 | omega) (show (ce_87 + k128) + (5 * ndS 13 tq113 + 4 * ndS 13 rq114 + ndS 13 RM121) ≤ 5 * ndS 13 tq + 4 * ndS 13 rq + ndS 13 RM from by first | exact oz_09730e4356 k87_10 e134 | omega) (show (sl_87 + n129) + (9804 * ndS 13 tq113 + 342 * ndS 13 rq114 + 36864 * ndS 13 RM121) ≤ 9804 * ndS 13 tq + 342 * ndS 13 rq + 36864 * ndS 13 RM from by first | exact oz_0d0bbc14c3 k87_11 e135 | omega) (show 13 - z137.toInt < (n_87 : Int) from by first | exact oz_6680d080b4 hm tz137 | omega) hw (lv_sub hl [2, 3, 4, 5, 6, 1, 7, 0] rfl)
            ·
              have hy9 := hy55.trans e9
              subst hy9
              obtain ⟨j138, hp138, hj138, hjq138, hto138⟩ := hcu56.2
              refine pg_calli (pr := []) (px_runV (As := [.ref q56]) (rest := [.int x87_5]) S (c_k_advance_R l D cs hk kr pq kf_87 PV pz_87 tq_87 rq_87 ka_87 TR_87 TO_87 TF_87 TA_87 RR_87 RM_87 RW_87 RF_87 RA_87 RC_87  x87_7.toNatClampNeg q56 (show 0 ≤ (kf_87 8).toInt from by first | exact oz_f3ebed1ad0 k87_3 g2 | omega) (show (kf_87 8).toInt ≤ 100 from by first | exact oz_b2552476a0 k87_3 g3 | omega) hki hro hrm hi56 hcu56 _ _) hT (pr := []) (pcs := [wd_Ker cs hk kr (fun _ => none) kf_87 ka_87 (gKe pq pz_87 tq_87 rq_87), fm 13 (fTx cs tq_87 TR_87 TO_87 TF_87 TA_87), fm 13 (fRw cs rq_87 RR_87 RM_87 RW_87 RF_87 RA_87 RC_87), fm 8 (fPp cs pq PV)]) hw (px_X.tot px_X.tt) (px_recv hT hw 0 0 rfl rfl rfl) m8_52 m8_49 m8_51 ms_5_7 m1_19 q_Ker_advance ⟨Nat.le_of_ble_eq_true rfl, Nat.le_of_ble_eq_true rfl⟩ hl.1 rfl (Nat.le_of_ble_eq_true rfl) d_Ker_boot_104 ⟨show ce_87 + (5 * ndS 13 tq_87 + 4 * ndS 13 rq_87 + ndS 13 RM_87) ≤ (5 * ndS 13 tq + 4 * ndS 13 rq + ndS 13 RM) from by first | with_reducible rfl | with_reducible assumption | omega, show sl_87 + (9804 * ndS 13 tq_87 + 342 * ndS 13 rq_87 + 36864 * ndS 13 RM_87) ≤ (9804 * ndS 13 tq + 342 * ndS 13 rq + 36864 * ndS 13 RM) from by first | with_reducible rfl | with_reducible assumption | omega⟩) hw hA (fun v168 p167 k169 n170 H locs hp167 hw => ?_)
              dsimp only at hp167
              obtain ⟨pz153, tq154, rq155, ka156, TR157, TO158, TF159, TA160, RR161, RM162, RW163, RF164, RA165, RC166, rfl, e171, e172, e173, e174, e175, e176⟩ := hp167
              have e171 := z_rng e171
              replace e172 : KnI pq PV pz153 tq154 rq155 TO158 TF159 TA160 RW163 RF164 := e172
              have hki := e172
              replace e173 : RoI ka156 := e173
              have hro := e173
              replace e174 : RmI rq155 RM162 := e174
              have hrm := e174
              replace e175 : k169 + (5 * ndS 13 tq154 + 4 * ndS 13 rq155 + ndS 13 RM162) ≤ 5 * ndS 13 tq_87 + 4 * ndS 13 rq_87 + ndS 13 RM_87 := e175
              replace e176 : n170 + (9804 * ndS 13 tq154 + 342 * ndS 13 rq155 + 36864 * ndS 13 RM162) ≤ 9804 * ndS 13 tq_87 + 342 * ndS 13 rq_87 + 36864 * ndS 13 RM_87 := e176
              replace hw : pw D A s.heap H locs [wd_Ker cs hk kr (fun _ => none) kf_87 ka156 (gKe pq pz153 tq154 rq155), fm 13 (fTx cs tq154 TR157 TO158 TF159 TA160), fm 13 (fRw cs rq155 RR161 RM162 RW163 RF164 RA165 RC166), fm 8 (fPp cs pq PV)] := hw
              have lv168 := Int32.le_toInt v168
              have uv168 := Int32.toInt_lt v168
              refine lv_ior S.x S.b d_Ker_boot_107 ?_
              refine lv_topi (fun z177 ez177 => ?_)
              have lz177 := Int32.le_toInt z177
              have uz177 := Int32.toInt_lt z177
              refine lv_istore (lv' := [(5, .int z177), (0, .ref hk), (1, .int p0), (2, .int p1), (3, .int p2), (4, .int p3), (6, .int x87_6), (7, .int x87_7)]) S.x S.b d_Ker_boot_108 hl (by decide) rfl (fun ls hl => ?_)
              obtain ⟨z178, ez178⟩ : ∃ y : Int32, y = x87_7 + 1 := ⟨_, rfl⟩
              have tz178 : z178.toInt = (x87_7.toInt + 1 + 2147483648) % 4294967296 - 2147483648 := by rw [ez178]; exact i_add x87_7 1
              have lz178 := Int32.le_toInt z178
              have uz178 := Int32.toInt_lt z178
              try replace tz178 : z178.toInt = x87_7.toInt + 1 := by omega
              refine lv_iinc (v := z178) (lv' := [(7, .int z178), (5, .int z177), (0, .ref hk), (1, .int p0), (2, .int p1), (3, .int p2), (4, .int p3), (6, .int x87_6)]) S.x S.b d_Ker_boot_110 hl (k := 7) rfl (by rw [ez178]; rfl) (by decide) rfl (fun ls hl => ?_)
              refine lv_goto (tgt := 87) S.x S.b d_Ker_boot_113 (by decide) ?_
              exact ih87 (ce_87 + k169) (sl_87 + n170) pz153 tq154 rq155 kf_87 ka156 TR157 TO158 TF159 TA160 RR161 RM162 RW163 RF164 RA165 RC166 z177 x87_6 z178 _ _ ls (show KnI pq PV pz153 tq154 rq155 TO158 TF159 TA160 RW163 RF164 from hki) (show RoI ka156 from hro) (show RmI rq155 RM162 from hrm) (show (kf_87 8).toInt = p2.toInt from by first | exact k87_3 | omega) (show (kf_87 9).toInt = p3.toInt from by first | exact k87_4 | omega) (show 0 ≤ z178.toInt from by first | exact oz_ae613611c0 tz178 k87_5 | omega) (show z178.toInt ≤ 13 from by first | exact oz_d342e04a5c tz178 nc53 | omega) (show 0 ≤ x87_6.toInt from by first | exact k87_7 | omega) (show x87_6.toInt ≤ 999999 from by first | exact k87_8 | omega) (show 1000000 - x87_6.toInt < (n_69 : Int) + 1 from by first | exact k87_9 | omega) (show (ce_87 + k169) + (5 * ndS 13 tq154 + 4 * ndS 13 rq155 + ndS 13 RM162) ≤ 5 * ndS 13 tq + 4 * ndS 13 rq + ndS 13 RM from by first | exact oz_09730e4356 k87_10 e175 | omega) (show (sl_87 + n170) + (9804 * ndS 13 tq154 + 342 * ndS 13 rq155 + 36864 * ndS 13 RM162) ≤ 9804 * ndS 13 tq + 342 * ndS 13 rq + 36864 * ndS 13 RM from by first | exact oz_0d0bbc14c3 k87_11 e176 | omega) (show 13 - z178.toInt < (n_87 : Int) from by first | exact oz_6680d080b4 hm tz178 | omega) hw (lv_sub hl [2, 3, 4, 5, 6, 1, 7, 0] rfl)
      refine lv_iload S.x S.b d_Ker_boot_69 (lv_at hl 6 rfl) ?_
      refine lv_ldc (v := 1000000) S.x S.b S.own (S.w m8_48) d_Ker_boot_71 ?_
      refine lv_icmp_ge (tgt := 122) S.x S.b d_Ker_boot_73 (by decide) (fun c179 => ?_) (fun c179 => ?_)
      · have nc179 : (1000000 : Int) ≤ x69_6.toInt := (i_le (x := 1000000) (y := x69_6)).mp c179
        refine lv_iconst (v := 0) S.x S.b d_Ker_boot_122 (by decide) ?_
        refine lv_istore (lv' := [(6, .int 0), (0, .ref hk), (1, .int p0), (2, .int p1), (3, .int p2), (4, .int p3), (5, .int x69_5)]) S.x S.b d_Ker_boot_123 hl (by decide) rfl (fun ls hl => ?_)
        exact J125 ((13 - (0 : Int)).toNat + 1) ce_69 sl_69 pz_69 tq_69 rq_69 kf_69 ka_69 TR_69 TO_69 TF_69 TA_69 RR_69 RM_69 RW_69 RF_69 RA_69 RC_69 (0 : Int32) _ _ ls (show KnI pq PV pz_69 tq_69 rq_69 TO_69 TF_69 TA_69 RW_69 RF_69 from hki) (show RmI rq_69 RM_69 from hrm) (show (kf_69 8).toInt = p2.toInt from by first | exact k69_3 | omega) (show (kf_69 9).toInt = p3.toInt from by first | exact k69_4 | omega) (show 0 ≤ (0 : Int) from by first | decide | omega) (show (0 : Int) ≤ 13 from by first | decide | omega) (show ce_69 + (5 * ndS 13 tq_69 + 4 * ndS 13 rq_69 + ndS 13 RM_69) ≤ 5 * ndS 13 tq + 4 * ndS 13 rq + ndS 13 RM from by first | exact k69_7 | omega) (show sl_69 + (9804 * ndS 13 tq_69 + 342 * ndS 13 rq_69 + 36864 * ndS 13 RM_69) ≤ 9804 * ndS 13 tq + 342 * ndS 13 rq + 36864 * ndS 13 RM from by first | exact k69_8 | omega) (show 13 - (0 : Int) < ((((13 - (0 : Int)).toNat + 1 : Nat) : Int) : Int) from by first | exact oz_natlt | omega) hw (lv_sub hl [1, 2, 3, 4, 5, 0] rfl)
      · have nc179 : ¬ (1000000 : Int) ≤ x69_6.toInt := mt (i_le (x := 1000000) (y := x69_6)).mpr c179
        refine lv_iload S.x S.b d_Ker_boot_76 (lv_at hl 5 rfl) ?_
        refine lv_if_eq (tgt := 122) S.x S.b d_Ker_boot_78 (by decide) (fun c180 => ?_) (fun c180 => ?_)
        · have nc180 : x69_5.toInt = (0 : Int) := (i_eq (x := x69_5) (y := 0)).mp c180
          refine lv_iconst (v := 0) S.x S.b d_Ker_boot_122 (by decide) ?_
          refine lv_istore (lv' := [(6, .int 0), (0, .ref hk), (1, .int p0), (2, .int p1), (3, .int p2), (4, .int p3), (5, .int x69_5)]) S.x S.b d_Ker_boot_123 hl (by decide) rfl (fun ls hl => ?_)
          exact J125 ((13 - (0 : Int)).toNat + 1) ce_69 sl_69 pz_69 tq_69 rq_69 kf_69 ka_69 TR_69 TO_69 TF_69 TA_69 RR_69 RM_69 RW_69 RF_69 RA_69 RC_69 (0 : Int32) _ _ ls (show KnI pq PV pz_69 tq_69 rq_69 TO_69 TF_69 TA_69 RW_69 RF_69 from hki) (show RmI rq_69 RM_69 from hrm) (show (kf_69 8).toInt = p2.toInt from by first | exact k69_3 | omega) (show (kf_69 9).toInt = p3.toInt from by first | exact k69_4 | omega) (show 0 ≤ (0 : Int) from by first | decide | omega) (show (0 : Int) ≤ 13 from by first | decide | omega) (show ce_69 + (5 * ndS 13 tq_69 + 4 * ndS 13 rq_69 + ndS 13 RM_69) ≤ 5 * ndS 13 tq + 4 * ndS 13 rq + ndS 13 RM from by first | exact k69_7 | omega) (show sl_69 + (9804 * ndS 13 tq_69 + 342 * ndS 13 rq_69 + 36864 * ndS 13 RM_69) ≤ 9804 * ndS 13 tq + 342 * ndS 13 rq + 36864 * ndS 13 RM from by first | exact k69_8 | omega) (show 13 - (0 : Int) < ((((13 - (0 : Int)).toNat + 1 : Nat) : Int) : Int) from by first | exact oz_natlt | omega) hw (lv_sub hl [1, 2, 3, 4, 5, 0] rfl)
        · have nc180 : ¬ x69_5.toInt = (0 : Int) := mt (i_eq (x := x69_5) (y := 0)).mpr c180
          refine lv_iconst (v := 0) S.x S.b d_Ker_boot_81 (by decide) ?_
          refine lv_istore (lv' := [(5, .int 0), (0, .ref hk), (1, .int p0), (2, .int p1), (3, .int p2), (4, .int p3), (6, .int x69_6)]) S.x S.b d_Ker_boot_82 hl (by decide) rfl (fun ls hl => ?_)
          refine lv_iconst (v := 0) S.x S.b d_Ker_boot_84 (by decide) ?_
          refine lv_istore (lv' := [(7, .int 0), (5, .int 0), (0, .ref hk), (1, .int p0), (2, .int p1), (3, .int p2), (4, .int p3), (6, .int x69_6)]) S.x S.b d_Ker_boot_85 hl (by decide) rfl (fun ls hl => ?_)
          exact J87 ((13 - (0 : Int)).toNat + 1) ce_69 sl_69 pz_69 tq_69 rq_69 kf_69 ka_69 TR_69 TO_69 TF_69 TA_69 RR_69 RM_69 RW_69 RF_69 RA_69 RC_69 (0 : Int32) x69_6 (0 : Int32) _ _ ls (show KnI pq PV pz_69 tq_69 rq_69 TO_69 TF_69 TA_69 RW_69 RF_69 from hki) (show RoI ka_69 from hro) (show RmI rq_69 RM_69 from hrm) (show (kf_69 8).toInt = p2.toInt from by first | exact k69_3 | omega) (show (kf_69 9).toInt = p3.toInt from by first | exact k69_4 | omega) (show 0 ≤ (0 : Int) from by first | decide | omega) (show (0 : Int) ≤ 13 from by first | decide | omega) (show 0 ≤ x69_6.toInt from by first | exact k69_5 | omega) (show x69_6.toInt ≤ 999999 from by first | exact oz_b28ddce073 nc179 | omega) (show 1000000 - x69_6.toInt < (n_69 : Int) + 1 from by first | exact oz_9e74bf7961 hm | omega) (show ce_69 + (5 * ndS 13 tq_69 + 4 * ndS 13 rq_69 + ndS 13 RM_69) ≤ 5 * ndS 13 tq + 4 * ndS 13 rq + ndS 13 RM from by first | exact k69_7 | omega) (show sl_69 + (9804 * ndS 13 tq_69 + 342 * ndS 13 rq_69 + 36864 * ndS 13 RM_69) ≤ 9804 * ndS 13 tq + 342 * ndS 13 rq + 36864 * ndS 13 RM from by first | exact k69_8 | omega) (show 13 - (0 : Int) < ((((13 - (0 : Int)).toNat + 1 : Nat) : Int) : Int) from by first | exact oz_natlt | omega) hw (lv_sub hl [2, 3, 4, 5, 6, 1, 7, 0] rfl)
  have J30 : ∀ (n_30 : Nat) (ce_30 sl_30 : Nat) (pz_30 : Nat → Option Nat) (tq_30 : Nat → Option Nat) (rq_30 : Nat → Option Nat) (kf_30 : Nat → Int32) (ka_30 : Nat → Nat → Int32) (TR_30 : Nat → Nat → Nat) (TO_30 : Nat → Option Nat) (TF_30 : Nat → Nat → Int32) (TA_30 : Nat → Nat → Nat → Int32) (RR_30 : Nat → Nat → Nat) (RM_30 : Nat → Option Nat) (RW_30 : Nat → Option Nat) (RF_30 : Nat → Nat → Int32) (RA_30 : Nat → Nat → Nat → Int32) (RC_30 : Nat → Nat → Int32) (x30_5 : Int32) (H : Heap) (locs : List Loc) (ls : Array Slot), (KnR pq PV pz_30 tq_30 rq_30 TF_30 TA_30 RF_30) → (RoI ka_30) → (RmI rq_30 RM_30) → (PsZ pz_30 x30_5.toInt) → ((kf_30 8).toInt = p2.toInt) → ((kf_30 9).toInt = p3.toInt) → (0 ≤ x30_5.toInt) → (x30_5.toInt ≤ 13) → (ce_30 + (5 * ndS 13 tq_30 + 4 * ndS 13 rq_30 + ndS 13 RM_30) ≤ 5 * ndS 13 tq + 4 * ndS 13 rq + ndS 13 RM) → (sl_30 + (9804 * ndS 13 tq_30 + 342 * ndS 13 rq_30 + 36864 * ndS 13 RM_30) ≤ 9804 * ndS 13 tq + 342 * ndS 13 rq + 36864 * ndS 13 RM) → 13 - x30_5.toInt < (n_30 : Int) → pw D A s.heap H locs [wd_Ker cs hk kr (fun _ => none) kf_30 ka_30 (gKe pq pz_30 tq_30 rq_30), fm 13 (fTx cs tq_30 TR_30 TO_30 TF_30 TA_30), fm 13 (fRw cs rq_30 RR_30 RM_30 RW_30 RF_30 RA_30 RC_30), fm 8 (fPp cs pq PV)] → lv_has ls 8 [(0, .ref hk), (1, .int p0), (2, .int p1), (3, .int p2), (4, .int p3), (5, .int x30_5)] → W p l e { frames := 14, cells := (5 * ndS 13 tq + 4 * ndS 13 rq + ndS 13 RM), slots := (9804 * ndS 13 tq + 342 * ndS 13 rq + 36864 * ndS 13 RM), locals := 600 } s m [.ref hk, .int p0, .int p1, .int p2, .int p3].toArray below meth c H locs ce_30 sl_30 (MQ below (va_Qi (fun v ps => ∃ (pz' : Nat → Option Nat) (tq' : Nat → Option Nat) (rq' : Nat → Option Nat) (kf' : Nat → Int32) (ka' : Nat → Nat → Int32) (TR' : Nat → Nat → Nat) (TO' : Nat → Option Nat) (TF' : Nat → Nat → Int32) (TA' : Nat → Nat → Nat → Int32) (RR' : Nat → Nat → Nat) (RM' : Nat → Option Nat) (RW' : Nat → Option Nat) (RF' : Nat → Nat → Int32) (RA' : Nat → Nat → Nat → Int32) (RC' : Nat → Nat → Int32), (ps.1 = [wd_Ker cs hk kr (fun _ => none) kf' ka' (gKe pq pz' tq' rq'), fm 13 (fTx cs tq' TR' TO' TF' TA'), fm 13 (fRw cs rq' RR' RM' RW' RF' RA' RC'), fm 8 (fPp cs pq PV)]) ∧ (KnR pq PV pz' tq' rq' TF' TA' RF') ∧ (RmI rq' RM') ∧ (ps.2.1 + (5 * ndS 13 tq' + 4 * ndS 13 rq' + ndS 13 RM') ≤ 5 * ndS 13 tq + 4 * ndS 13 rq + ndS 13 RM) ∧ (ps.2.2 + (9804 * ndS 13 tq' + 342 * ndS 13 rq' + 36864 * ndS 13 RM') ≤ 9804 * ndS 13 tq + 342 * ndS 13 rq + 36864 * ndS 13 RM)) (pg_B D (va_A ([wd_Ker cs hk kr (fun _ => none) kf ka (gKe pq pz tq rq), fm 13 (fTx cs tq TR TO TF TA), fm 13 (fRw cs rq RR RM RW RF RA RC), fm 8 (fPp cs pq PV)] : List va_W).flatten s.heap.size) s.heap.size (tot s.heap)) (va_A ([wd_Ker cs hk kr (fun _ => none) kf ka (gKe pq pz tq rq), fm 13 (fTx cs tq TR TO TF TA), fm 13 (fRw cs rq RR RM RW RF RA RC), fm 8 (fPp cs pq PV)] : List va_W).flatten s.heap.size)) [.ref hk, .int p0, .int p1, .int p2, .int p3].toArray s (5 * ndS 13 tq + 4 * ndS 13 rq + ndS 13 RM) (9804 * ndS 13 tq + 342 * ndS 13 rq + 36864 * ndS 13 RM) A) (F0 m 30 ls []) := by
    intro  n_30
    induction n_30 with
    | zero =>
      intro ce_30 sl_30 pz_30 tq_30 rq_30 kf_30 ka_30 TR_30 TO_30 TF_30 TA_30 RR_30 RM_30 RW_30 RF_30 RA_30 RC_30 x30_5 H locs ls k30_0 k30_1 k30_2 k30_3 k30_4 k30_5 k30_6 k30_7 k30_8 k30_9 hm hw hl
      have lx30_5 := Int32.le_toInt x30_5
      have ux30_5 := Int32.toInt_lt x30_5
      have hki := k30_0
      have hro := k30_1
      have hrm := k30_2
      have hpz9 := k30_3
      exact absurd hm (by omega)
    | succ n_30 ih30 =>
      intro ce_30 sl_30 pz_30 tq_30 rq_30 kf_30 ka_30 TR_30 TO_30 TF_30 TA_30 RR_30 RM_30 RW_30 RF_30 RA_30 RC_30 x30_5 H locs ls k30_0 k30_1 k30_2 k30_3 k30_4 k30_5 k30_6 k30_7 k30_8 k30_9 hm hw hl
      have lx30_5 := Int32.le_toInt x30_5
      have ux30_5 := Int32.toInt_lt x30_5
      have hki := k30_0
      have hro := k30_1
      have hrm := k30_2
      have hpz9 := k30_3
      refine lv_iload S.x S.b d_Ker_boot_30 (lv_at hl 5 rfl) ?_
      refine lv_bipush (v := 13) S.x S.b d_Ker_boot_32 (by decide) ?_
      refine lv_icmp_ge (tgt := 51) S.x S.b d_Ker_boot_34 (by decide) (fun c181 => ?_) (fun c181 => ?_)
      · have nc181 : (13 : Int) ≤ x30_5.toInt := (i_le (x := 13) (y := x30_5)).mp c181
        refine lv_aload_n S.x S.b d_Ker_boot_51 rfl (lv_at hl 0 rfl) ?_
        have hki : KnI pq PV pz_30 tq_30 rq_30 TO_30 TF_30 TA_30 RW_30 RF_30 := hki.run (fun i9 q9 => hpz9 i9 (by omega))
        refine lv_iconst (v := 0) S.x S.b d_Ker_boot_52 (by decide) ?_
        refine lv_aload_n S.x S.b d_Ker_boot_53 rfl (lv_at hl 0 rfl) ?_
        refine px_get S k_Ker hT hw 0 0 0 (v := .ref (kr 0)) rfl rfl rfl (by decide) m2_218 d_Ker_boot_54 ?_
        refine lv_iload_n S.x S.b d_Ker_boot_57 rfl (lv_at hl 1 rfl) ?_
        refine px_aaldS S hT hw 0 1 5 (n := 8) (f := pq) rfl rfl rfl (x := p0) (vp_in_iff.mpr (by first | exact oz_3789b25239 g0 g1 | (constructor <;> omega))) (sk := hp) hpq0 d_Ker_boot_58 ?_
        refine lv_iload_n S.x S.b d_Ker_boot_59 rfl (lv_at hl 2 rfl) ?_
        refine pg_callv (pr := []) (px_runV (As := [.int 0, .ref hp, .int p1]) (rest := []) S (c_k_begin l D cs hk kr pq kf_30 PV pz_30 tq_30 rq_30 ka_30 TR_30 TO_30 TF_30 TA_30 RR_30 RM_30 RW_30 RF_30 RA_30 RC_30 0 p1 p0.toNatClampNeg hp (show 0 ≤ (0 : Int) from by first | decide | omega) (show (0 : Int) ≤ 12 from by first | decide | omega) (show 0 ≤ (kf_30 8).toInt from by first | exact oz_f3ebed1ad0 k30_4 g2 | omega) (show (kf_30 8).toInt ≤ 100 from by first | exact oz_b2552476a0 k30_4 g3 | omega) hki hro hrm hi0 hpq0 _ _) hT (pr := []) (pcs := [wd_Ker cs hk kr (fun _ => none) kf_30 ka_30 (gKe pq pz_30 tq_30 rq_30), fm 13 (fTx cs tq_30 TR_30 TO_30 TF_30 TA_30), fm 13 (fRw cs rq_30 RR_30 RM_30 RW_30 RF_30 RA_30 RC_30), fm 8 (fPp cs pq PV)]) hw (px_X.tot px_X.tt) (px_recv hT hw 0 0 rfl rfl rfl) m6_115 m6_112 m6_114 ms_5_5 m1_19 q_Ker_begin ⟨Nat.le_of_ble_eq_true rfl, Nat.le_of_ble_eq_true rfl⟩ hl.1 rfl (Nat.le_of_ble_eq_true rfl) d_Ker_boot_60 ⟨show ce_30 + (5 * ndS 13 tq_30 + 4 * ndS 13 rq_30 + ndS 13 RM_30) ≤ (5 * ndS 13 tq + 4 * ndS 13 rq + ndS 13 RM) from by first | with_reducible rfl | with_reducible assumption | omega, show sl_30 + (9804 * ndS 13 tq_30 + 342 * ndS 13 rq_30 + 36864 * ndS 13 RM_30) ≤ (9804 * ndS 13 tq + 342 * ndS 13 rq + 36864 * ndS 13 RM) from by first | with_reducible rfl | with_reducible assumption | omega⟩) hw hA (fun p210 k212 n213 H locs hp210 hw => ?_)
        dsimp only at hp210
        obtain ⟨pz196, tq197, rq198, ka199, TR200, TO201, TF202, TA203, RR204, RM205, RW206, RF207, RA208, RC209, rfl, e214, e215, e216, e217, e218, e219, e220⟩ := hp210
        replace e214 : KpQ (0 : Int32).toNatClampNeg tq_30 TO_30 rq_30 RW_30 tq197 TO201 rq198 RW206 := e214
        have hcl9 := cl_nat (x := 0) (by omega)
        replace e215 : KpG (0 : Int32).toNatClampNeg RF_30 RF207 := e215
        replace e216 : KnI pq PV pz196 tq197 rq198 TO201 TF202 TA203 RW206 RF207 := e216
        have hki := e216
        replace e217 : RoI ka199 := e217
        have hro := e217
        replace e218 : RmI rq198 RM205 := e218
        have hrm := e218
        replace e219 : k212 + (5 * ndS 13 tq197 + 4 * ndS 13 rq198 + ndS 13 RM205) ≤ 5 * ndS 13 tq_30 + 4 * ndS 13 rq_30 + ndS 13 RM_30 := e219
        replace e220 : n213 + (9804 * ndS 13 tq197 + 342 * ndS 13 rq198 + 36864 * ndS 13 RM205) ≤ 9804 * ndS 13 tq_30 + 342 * ndS 13 rq_30 + 36864 * ndS 13 RM_30 := e220
        replace hw : pw D A s.heap H locs [wd_Ker cs hk kr (fun _ => none) kf_30 ka199 (gKe pq pz196 tq197 rq198), fm 13 (fTx cs tq197 TR200 TO201 TF202 TA203), fm 13 (fRw cs rq198 RR204 RM205 RW206 RF207 RA208 RC209), fm 8 (fPp cs pq PV)] := hw
        refine lv_iconst (v := 1) S.x S.b d_Ker_boot_63 (by decide) ?_
        refine lv_istore (lv' := [(5, .int 1), (0, .ref hk), (1, .int p0), (2, .int p1), (3, .int p2), (4, .int p3)]) S.x S.b d_Ker_boot_64 hl (by decide) rfl (fun ls hl => ?_)
        refine lv_iconst (v := 0) S.x S.b d_Ker_boot_66 (by decide) ?_
        refine lv_istore (lv' := [(6, .int 0), (5, .int 1), (0, .ref hk), (1, .int p0), (2, .int p1), (3, .int p2), (4, .int p3)]) S.x S.b d_Ker_boot_67 hl (by decide) rfl (fun ls hl => ?_)
        exact J69 ((1000000 - (0 : Int)).toNat + 1) (ce_30 + k212) (sl_30 + n213) pz196 tq197 rq198 kf_30 ka199 TR200 TO201 TF202 TA203 RR204 RM205 RW206 RF207 RA208 RC209 (1 : Int32) (0 : Int32) _ _ ls (show KnI pq PV pz196 tq197 rq198 TO201 TF202 TA203 RW206 RF207 from hki) (show RoI ka199 from hro) (show RmI rq198 RM205 from hrm) (show (kf_30 8).toInt = p2.toInt from by first | exact k30_4 | omega) (show (kf_30 9).toInt = p3.toInt from by first | exact k30_5 | omega) (show 0 ≤ (0 : Int) from by first | decide | omega) (show (0 : Int) ≤ 1000000 from by first | decide | omega) (show (ce_30 + k212) + (5 * ndS 13 tq197 + 4 * ndS 13 rq198 + ndS 13 RM205) ≤ 5 * ndS 13 tq + 4 * ndS 13 rq + ndS 13 RM from by first | exact oz_09730e4356 k30_8 e219 | omega) (show (sl_30 + n213) + (9804 * ndS 13 tq197 + 342 * ndS 13 rq198 + 36864 * ndS 13 RM205) ≤ 9804 * ndS 13 tq + 342 * ndS 13 rq + 36864 * ndS 13 RM from by first | exact oz_0d0bbc14c3 k30_9 e220 | omega) (show 1000000 - (0 : Int) < ((((1000000 - (0 : Int)).toNat + 1 : Nat) : Int) : Int) from by first | exact oz_natlt | omega) hw (lv_sub hl [2, 3, 4, 5, 6, 1, 0] rfl)
      · have nc181 : ¬ (13 : Int) ≤ x30_5.toInt := mt (i_le (x := 13) (y := x30_5)).mpr c181
        refine lv_aload_n S.x S.b d_Ker_boot_37 rfl (lv_at hl 0 rfl) ?_
        refine px_get S k_Ker hT hw 0 0 2 (v := .ref (kr 2)) rfl rfl rfl (by decide) m2_222 d_Ker_boot_38 ?_
        refine lv_iload S.x S.b d_Ker_boot_41 (lv_at hl 5 rfl) ?_
        refine lv_null S.x S.b d_Ker_boot_43 ?_
        refine px_aastN S hT hw 0 3 6 (n := 13) (f := pz_30) rfl rfl rfl (x := x30_5) (vp_in_iff.mpr (by first | exact oz_10a7a22e11 k30_6 nc181 | (constructor <;> omega))) d_Ker_boot_44 (w' := wd_Ker cs hk kr (fun _ => none) kf_30 ka_30 (gKe pq (va_up pz_30 x30_5.toNatClampNeg none) tq_30 rq_30)) (ps' := [wd_Ker cs hk kr (fun _ => none) kf_30 ka_30 (gKe pq (va_up pz_30 x30_5.toNatClampNeg none) tq_30 rq_30), fm 13 (fTx cs tq_30 TR_30 TO_30 TF_30 TA_30), fm 13 (fRw cs rq_30 RR_30 RM_30 RW_30 RF_30 RA_30 RC_30), fm 8 (fPp cs pq PV)]) rfl rfl (fun H locs hw => ?_)
        have hki := hki.nul (p := x30_5.toNatClampNeg)
        obtain ⟨z221, ez221⟩ : ∃ y : Int32, y = x30_5 + 1 := ⟨_, rfl⟩
        have tz221 : z221.toInt = (x30_5.toInt + 1 + 2147483648) % 4294967296 - 2147483648 := by rw [ez221]; exact i_add x30_5 1
        have lz221 := Int32.le_toInt z221
        have uz221 := Int32.toInt_lt z221
        try replace tz221 : z221.toInt = x30_5.toInt + 1 := by omega
        refine lv_iinc (v := z221) (lv' := [(5, .int z221), (0, .ref hk), (1, .int p0), (2, .int p1), (3, .int p2), (4, .int p3)]) S.x S.b d_Ker_boot_45 hl (k := 5) rfl (by rw [ez221]; rfl) (by decide) rfl (fun ls hl => ?_)
        refine lv_goto (tgt := 30) S.x S.b d_Ker_boot_48 (by decide) ?_
        exact ih30 ce_30 sl_30 (va_up pz_30 x30_5.toNatClampNeg none) tq_30 rq_30 kf_30 ka_30 TR_30 TO_30 TF_30 TA_30 RR_30 RM_30 RW_30 RF_30 RA_30 RC_30 z221 _ _ ls (show KnR pq PV (va_up pz_30 x30_5.toNatClampNeg none) tq_30 rq_30 TF_30 TA_30 RF_30 from hki) (show RoI ka_30 from hro) (show RmI rq_30 RM_30 from hrm) (show PsZ (va_up pz_30 x30_5.toNatClampNeg none) z221.toInt from (psz_up hpz9 (by omega) (by omega))) (show (kf_30 8).toInt = p2.toInt from by first | exact k30_4 | omega) (show (kf_30 9).toInt = p3.toInt from by first | exact k30_5 | omega) (show 0 ≤ z221.toInt from by first | exact oz_ae613611c0 tz221 k30_6 | omega) (show z221.toInt ≤ 13 from by first | exact oz_d342e04a5c tz221 nc181 | omega) (show ce_30 + (5 * ndS 13 tq_30 + 4 * ndS 13 rq_30 + ndS 13 RM_30) ≤ 5 * ndS 13 tq + 4 * ndS 13 rq + ndS 13 RM from by first | exact k30_8 | omega) (show sl_30 + (9804 * ndS 13 tq_30 + 342 * ndS 13 rq_30 + 36864 * ndS 13 RM_30) ≤ 9804 * ndS 13 tq + 342 * ndS 13 rq + 36864 * ndS 13 RM from by first | exact k30_9 | omega) (show 13 - z221.toInt < (n_30 : Int) from by first | exact oz_6680d080b4 hm tz221 | omega) hw (lv_sub hl [1, 2, 3, 4, 5, 0] rfl)
  refine lv_aload_n S.x S.b d_Ker_boot_0 rfl (lv_at hl 0 rfl) ?_
  refine lv_iload_n S.x S.b d_Ker_boot_1 rfl (lv_at hl 3 rfl) ?_
  refine px_put S k_Ker hT hw 0 0 8 rfl rfl (by decide) m2_229 rfl rfl rfl (Nat.le_of_ble_eq_true rfl) d_Ker_boot_2 (w' := wd_Ker cs hk kr (fun _ => none) (upd kf 8 p2) ka (gKe pq pz tq rq)) (ps' := [wd_Ker cs hk kr (fun _ => none) (upd kf 8 p2) ka (gKe pq pz tq rq), fm 13 (fTx cs tq TR TO TF TA), fm 13 (fRw cs rq RR RM RW RF RA RC), fm 8 (fPp cs pq PV)]) rfl rfl (fun H locs hw => ?_)
  refine lv_aload_n S.x S.b d_Ker_boot_5 rfl (lv_at hl 0 rfl) ?_
  refine lv_iload S.x S.b d_Ker_boot_6 (lv_at hl 4 rfl) ?_
  refine px_put S k_Ker hT hw 0 0 9 rfl rfl (by decide) m2_230 rfl rfl rfl (Nat.le_of_ble_eq_true rfl) d_Ker_boot_8 (w' := wd_Ker cs hk kr (fun _ => none) (upd (upd kf 8 p2) 9 p3) ka (gKe pq pz tq rq)) (ps' := [wd_Ker cs hk kr (fun _ => none) (upd (upd kf 8 p2) 9 p3) ka (gKe pq pz tq rq), fm 13 (fTx cs tq TR TO TF TA), fm 13 (fRw cs rq RR RM RW RF RA RC), fm 8 (fPp cs pq PV)]) rfl rfl (fun H locs hw => ?_)
  refine lv_aload_n S.x S.b d_Ker_boot_11 rfl (lv_at hl 0 rfl) ?_
  refine px_get S k_Ker hT hw 0 0 6 (v := .ref (kr 6)) rfl rfl rfl (by decide) m2_227 d_Ker_boot_12 ?_
  refine lv_iconst (v := 0) S.x S.b d_Ker_boot_15 (by decide) ?_
  have hw : pw D A s.heap _ _ [fm 13 (fTx cs tq TR TO TF TA), fm 13 (fRw cs rq RR RM RW RF RA RC), fm 8 (fPp cs pq PV), wd_Ker cs hk kr (fun _ => none) (upd (upd kf 8 p2) 9 p3) ka (gKe pq pz tq rq)] := hw.sub [1, 2, 3, 0] rfl rfl
  have hw : pw D A s.heap _ _ [fm 13 (fTx cs tq TR TO TF TA), fm 13 (fRw cs rq RR RM RW RF RA RC), fm 8 (fPp cs pq PV), [(hk, .inr (7, [.ref (kr 0), .ref (kr 1), .ref (kr 2), .ref (kr 3), .ref (kr 4), .ref (kr 5), .ref (kr 6), .ref (kr 7), .int p2, .int p3]))], [((kr 0), .inl (cs 5, 8, .inr (.inr (.inr (.inr pq)))))], [((kr 1), .inl (cs 0, 128, .inl (ka 1)))], [((kr 2), .inl (cs 6, 13, .inr (.inr (.inr (.inr pz)))))], [((kr 3), .inl (cs 7, 13, .inr (.inr (.inr (.inr tq)))))], [((kr 4), .inl (cs 8, 13, .inr (.inr (.inr (.inr rq)))))], [((kr 5), .inl (cs 0, 104, .inl (ka 5)))], [((kr 6), .inl (cs 0, 26, .inl (ka 6)))], [((kr 7), .inl (cs 0, 26, .inl (ka 7)))]] := hw.eq rfl
  have hw : pw D A s.heap _ _ [fm 13 (fTx cs tq TR TO TF TA), fm 13 (fRw cs rq RR RM RW RF RA RC), fm 8 (fPp cs pq PV), [(hk, .inr (7, [.ref (kr 0), .ref (kr 1), .ref (kr 2), .ref (kr 3), .ref (kr 4), .ref (kr 5), .ref (kr 6), .ref (kr 7), .int p2, .int p3]))], [((kr 0), .inl (cs 5, 8, .inr (.inr (.inr (.inr pq)))))], [((kr 1), .inl (cs 0, 128, .inl (ka 1)))], [((kr 2), .inl (cs 6, 13, .inr (.inr (.inr (.inr pz)))))], [((kr 3), .inl (cs 7, 13, .inr (.inr (.inr (.inr tq)))))], [((kr 4), .inl (cs 8, 13, .inr (.inr (.inr (.inr rq)))))], [((kr 5), .inl (cs 0, 104, .inl (ka 5)))], [((kr 7), .inl (cs 0, 26, .inl (ka 7)))], [((kr 6), .inl (cs 0, 26, .inl (ka 6)))]] := hw.sub [0, 1, 2, 3, 4, 5, 6, 7, 8, 9, 11, 10] rfl rfl
  refine px_callv (pr := [fm 13 (fTx cs tq TR TO TF TA), fm 13 (fRw cs rq RR RM RW RF RA RC), fm 8 (fPp cs pq PV), [(hk, .inr (7, [.ref (kr 0), .ref (kr 1), .ref (kr 2), .ref (kr 3), .ref (kr 4), .ref (kr 5), .ref (kr 6), .ref (kr 7), .int p2, .int p3]))], [((kr 0), .inl (cs 5, 8, .inr (.inr (.inr (.inr pq)))))], [((kr 1), .inl (cs 0, 128, .inl (ka 1)))], [((kr 2), .inl (cs 6, 13, .inr (.inr (.inr (.inr pz)))))], [((kr 3), .inl (cs 7, 13, .inr (.inr (.inr (.inr tq)))))], [((kr 4), .inl (cs 8, 13, .inr (.inr (.inr (.inr rq)))))], [((kr 5), .inl (cs 0, 104, .inl (ka 5)))], [((kr 7), .inl (cs 0, 26, .inl (ka 7)))]]) (px_runS (As := [.ref (kr 6), .int 0]) (rest := []) S (c_Arrays_fillA l D cs (kr 6) 26 (ka 6) 0  (show 26 ≤ 1000000 from by first | decide | omega) _) hT (pr := [fm 13 (fTx cs tq TR TO TF TA), fm 13 (fRw cs rq RR RM RW RF RA RC), fm 8 (fPp cs pq PV), [(hk, .inr (7, [.ref (kr 0), .ref (kr 1), .ref (kr 2), .ref (kr 3), .ref (kr 4), .ref (kr 5), .ref (kr 6), .ref (kr 7), .int p2, .int p3]))], [((kr 0), .inl (cs 5, 8, .inr (.inr (.inr (.inr pq)))))], [((kr 1), .inl (cs 0, 128, .inl (ka 1)))], [((kr 2), .inl (cs 6, 13, .inr (.inr (.inr (.inr pz)))))], [((kr 3), .inl (cs 7, 13, .inr (.inr (.inr (.inr tq)))))], [((kr 4), .inl (cs 8, 13, .inr (.inr (.inr (.inr rq)))))], [((kr 5), .inl (cs 0, 104, .inl (ka 5)))], [((kr 7), .inl (cs 0, 26, .inl (ka 7)))]]) (pcs := [[((kr 6), .inl (cs 0, 26, .inl (ka 6)))]]) hw px_X.tt m6_111 m6_109 m6_110 m1_14 q_Arrays_fill ⟨Nat.le_of_ble_eq_true rfl, Nat.le_of_ble_eq_true rfl⟩ hl.1 rfl (Nat.le_of_ble_eq_true rfl) d_Ker_boot_16 ⟨show 0 + 0 ≤ (5 * ndS 13 tq + 4 * ndS 13 rq + ndS 13 RM) from by first | with_reducible rfl | with_reducible assumption | omega, show 0 + 0 ≤ (9804 * ndS 13 tq + 342 * ndS 13 rq + 36864 * ndS 13 RM) from by first | with_reducible rfl | with_reducible assumption | omega⟩) hw hA (fun p224 H locs hp224 hw => ?_)
  obtain ⟨ca223, rfl, e226⟩ := hp224
  replace e226 : Fl ca223 (26 : Int) (0 : Int32) := e226
  replace hw : pw D A s.heap H locs [fm 13 (fTx cs tq TR TO TF TA), fm 13 (fRw cs rq RR RM RW RF RA RC), fm 8 (fPp cs pq PV), [(hk, .inr (7, [.ref (kr 0), .ref (kr 1), .ref (kr 2), .ref (kr 3), .ref (kr 4), .ref (kr 5), .ref (kr 6), .ref (kr 7), .int p2, .int p3]))], [((kr 0), .inl (cs 5, 8, .inr (.inr (.inr (.inr pq)))))], [((kr 1), .inl (cs 0, 128, .inl (ka 1)))], [((kr 2), .inl (cs 6, 13, .inr (.inr (.inr (.inr pz)))))], [((kr 3), .inl (cs 7, 13, .inr (.inr (.inr (.inr tq)))))], [((kr 4), .inl (cs 8, 13, .inr (.inr (.inr (.inr rq)))))], [((kr 5), .inl (cs 0, 104, .inl (ka 5)))], [((kr 7), .inl (cs 0, 26, .inl (ka 7)))], [((kr 6), .inl (cs 0, 26, .inl ca223))]] := hw
  have hw : pw D A s.heap _ _ [fm 13 (fTx cs tq TR TO TF TA), fm 13 (fRw cs rq RR RM RW RF RA RC), fm 8 (fPp cs pq PV), [(hk, .inr (7, [.ref (kr 0), .ref (kr 1), .ref (kr 2), .ref (kr 3), .ref (kr 4), .ref (kr 5), .ref (kr 6), .ref (kr 7), .int p2, .int p3]))], [((kr 0), .inl (cs 5, 8, .inr (.inr (.inr (.inr pq)))))], [((kr 1), .inl (cs 0, 128, .inl (ka 1)))], [((kr 2), .inl (cs 6, 13, .inr (.inr (.inr (.inr pz)))))], [((kr 3), .inl (cs 7, 13, .inr (.inr (.inr (.inr tq)))))], [((kr 4), .inl (cs 8, 13, .inr (.inr (.inr (.inr rq)))))], [((kr 5), .inl (cs 0, 104, .inl (ka 5)))], [((kr 6), .inl (cs 0, 26, .inl ca223))], [((kr 7), .inl (cs 0, 26, .inl (ka 7)))]] := hw.sub [0, 1, 2, 3, 4, 5, 6, 7, 8, 9, 11, 10] rfl rfl
  have hw : pw D A s.heap _ _ [fm 13 (fTx cs tq TR TO TF TA), fm 13 (fRw cs rq RR RM RW RF RA RC), fm 8 (fPp cs pq PV), wd_Ker cs hk kr (fun _ => none) (upd (upd kf 8 p2) 9 p3) (va_up ka 6 ca223) (gKe pq pz tq rq)] := hw.eq rfl
  refine lv_aload_n S.x S.b d_Ker_boot_19 rfl (lv_at hl 0 rfl) ?_
  refine px_get S k_Ker hT hw 3 0 7 (v := .ref (kr 7)) rfl rfl rfl (by decide) m2_228 d_Ker_boot_20 ?_
  refine lv_iconst (v := 0) S.x S.b d_Ker_boot_23 (by decide) ?_
  have hw : pw D A s.heap _ _ [fm 13 (fTx cs tq TR TO TF TA), fm 13 (fRw cs rq RR RM RW RF RA RC), fm 8 (fPp cs pq PV), [(hk, .inr (7, [.ref (kr 0), .ref (kr 1), .ref (kr 2), .ref (kr 3), .ref (kr 4), .ref (kr 5), .ref (kr 6), .ref (kr 7), .int p2, .int p3]))], [((kr 0), .inl (cs 5, 8, .inr (.inr (.inr (.inr pq)))))], [((kr 1), .inl (cs 0, 128, .inl ((va_up ka 6 ca223) 1)))], [((kr 2), .inl (cs 6, 13, .inr (.inr (.inr (.inr pz)))))], [((kr 3), .inl (cs 7, 13, .inr (.inr (.inr (.inr tq)))))], [((kr 4), .inl (cs 8, 13, .inr (.inr (.inr (.inr rq)))))], [((kr 5), .inl (cs 0, 104, .inl ((va_up ka 6 ca223) 5)))], [((kr 6), .inl (cs 0, 26, .inl ((va_up ka 6 ca223) 6)))], [((kr 7), .inl (cs 0, 26, .inl ((va_up ka 6 ca223) 7)))]] := hw.eq rfl
  refine px_callv (pr := [fm 13 (fTx cs tq TR TO TF TA), fm 13 (fRw cs rq RR RM RW RF RA RC), fm 8 (fPp cs pq PV), [(hk, .inr (7, [.ref (kr 0), .ref (kr 1), .ref (kr 2), .ref (kr 3), .ref (kr 4), .ref (kr 5), .ref (kr 6), .ref (kr 7), .int p2, .int p3]))], [((kr 0), .inl (cs 5, 8, .inr (.inr (.inr (.inr pq)))))], [((kr 1), .inl (cs 0, 128, .inl ((va_up ka 6 ca223) 1)))], [((kr 2), .inl (cs 6, 13, .inr (.inr (.inr (.inr pz)))))], [((kr 3), .inl (cs 7, 13, .inr (.inr (.inr (.inr tq)))))], [((kr 4), .inl (cs 8, 13, .inr (.inr (.inr (.inr rq)))))], [((kr 5), .inl (cs 0, 104, .inl ((va_up ka 6 ca223) 5)))], [((kr 6), .inl (cs 0, 26, .inl ((va_up ka 6 ca223) 6)))]]) (px_runS (As := [.ref (kr 7), .int 0]) (rest := []) S (c_Arrays_fillA l D cs (kr 7) 26 ((va_up ka 6 ca223) 7) 0  (show 26 ≤ 1000000 from by first | decide | omega) _) hT (pr := [fm 13 (fTx cs tq TR TO TF TA), fm 13 (fRw cs rq RR RM RW RF RA RC), fm 8 (fPp cs pq PV), [(hk, .inr (7, [.ref (kr 0), .ref (kr 1), .ref (kr 2), .ref (kr 3), .ref (kr 4), .ref (kr 5), .ref (kr 6), .ref (kr 7), .int p2, .int p3]))], [((kr 0), .inl (cs 5, 8, .inr (.inr (.inr (.inr pq)))))], [((kr 1), .inl (cs 0, 128, .inl ((va_up ka 6 ca223) 1)))], [((kr 2), .inl (cs 6, 13, .inr (.inr (.inr (.inr pz)))))], [((kr 3), .inl (cs 7, 13, .inr (.inr (.inr (.inr tq)))))], [((kr 4), .inl (cs 8, 13, .inr (.inr (.inr (.inr rq)))))], [((kr 5), .inl (cs 0, 104, .inl ((va_up ka 6 ca223) 5)))], [((kr 6), .inl (cs 0, 26, .inl ((va_up ka 6 ca223) 6)))]]) (pcs := [[((kr 7), .inl (cs 0, 26, .inl ((va_up ka 6 ca223) 7)))]]) hw px_X.tt m6_111 m6_109 m6_110 m1_14 q_Arrays_fill ⟨Nat.le_of_ble_eq_true rfl, Nat.le_of_ble_eq_true rfl⟩ hl.1 rfl (Nat.le_of_ble_eq_true rfl) d_Ker_boot_24 ⟨show 0 + 0 ≤ (5 * ndS 13 tq + 4 * ndS 13 rq + ndS 13 RM) from by first | with_reducible rfl | with_reducible assumption | omega, show 0 + 0 ≤ (9804 * ndS 13 tq + 342 * ndS 13 rq + 36864 * ndS 13 RM) from by first | with_reducible rfl | with_reducible assumption | omega⟩) hw hA (fun p229 H locs hp229 hw => ?_)
  obtain ⟨ca228, rfl, e231⟩ := hp229
  replace e231 : Fl ca228 (26 : Int) (0 : Int32) := e231
  replace hw : pw D A s.heap H locs [fm 13 (fTx cs tq TR TO TF TA), fm 13 (fRw cs rq RR RM RW RF RA RC), fm 8 (fPp cs pq PV), [(hk, .inr (7, [.ref (kr 0), .ref (kr 1), .ref (kr 2), .ref (kr 3), .ref (kr 4), .ref (kr 5), .ref (kr 6), .ref (kr 7), .int p2, .int p3]))], [((kr 0), .inl (cs 5, 8, .inr (.inr (.inr (.inr pq)))))], [((kr 1), .inl (cs 0, 128, .inl ((va_up ka 6 ca223) 1)))], [((kr 2), .inl (cs 6, 13, .inr (.inr (.inr (.inr pz)))))], [((kr 3), .inl (cs 7, 13, .inr (.inr (.inr (.inr tq)))))], [((kr 4), .inl (cs 8, 13, .inr (.inr (.inr (.inr rq)))))], [((kr 5), .inl (cs 0, 104, .inl ((va_up ka 6 ca223) 5)))], [((kr 6), .inl (cs 0, 26, .inl ((va_up ka 6 ca223) 6)))], [((kr 7), .inl (cs 0, 26, .inl ca228))]] := hw
  have hw : pw D A s.heap _ _ [fm 13 (fTx cs tq TR TO TF TA), fm 13 (fRw cs rq RR RM RW RF RA RC), fm 8 (fPp cs pq PV), [(hk, .inr (7, [.ref (kr 0), .ref (kr 1), .ref (kr 2), .ref (kr 3), .ref (kr 4), .ref (kr 5), .ref (kr 6), .ref (kr 7), .int p2, .int p3]))], [((kr 0), .inl (cs 5, 8, .inr (.inr (.inr (.inr pq)))))], [((kr 1), .inl (cs 0, 128, .inl ((va_up ka 6 ca223) 1)))], [((kr 2), .inl (cs 6, 13, .inr (.inr (.inr (.inr pz)))))], [((kr 3), .inl (cs 7, 13, .inr (.inr (.inr (.inr tq)))))], [((kr 4), .inl (cs 8, 13, .inr (.inr (.inr (.inr rq)))))], [((kr 5), .inl (cs 0, 104, .inl ((va_up ka 6 ca223) 5)))], [((kr 6), .inl (cs 0, 26, .inl ((va_up ka 6 ca223) 6)))], [((kr 7), .inl (cs 0, 26, .inl ca228))]] := hw.sub [0, 1, 2, 3, 4, 5, 6, 7, 8, 9, 10, 11] rfl rfl
  have hw : pw D A s.heap _ _ [fm 13 (fTx cs tq TR TO TF TA), fm 13 (fRw cs rq RR RM RW RF RA RC), fm 8 (fPp cs pq PV), wd_Ker cs hk kr (fun _ => none) (upd (upd kf 8 p2) 9 p3) (va_up (va_up ka 6 ca223) 7 ca228) (gKe pq pz tq rq)] := hw.eq rfl
  have hro : RoI (va_up (va_up ka 6 ca223) 7 ca228) := roi_00 e226 e231
  refine lv_iconst (v := 0) S.x S.b d_Ker_boot_27 (by decide) ?_
  refine lv_istore (lv' := [(5, .int 0), (0, .ref hk), (1, .int p0), (2, .int p1), (3, .int p2), (4, .int p3)]) S.x S.b d_Ker_boot_28 hl (by decide) rfl (fun ls hl => ?_)
  have hw : pw D A s.heap _ _ [wd_Ker cs hk kr (fun _ => none) (upd (upd kf 8 p2) 9 p3) (va_up (va_up ka 6 ca223) 7 ca228) (gKe pq pz tq rq), fm 13 (fTx cs tq TR TO TF TA), fm 13 (fRw cs rq RR RM RW RF RA RC), fm 8 (fPp cs pq PV)] := hw.sub [3, 0, 1, 2] rfl rfl
  exact J30 ((13 - (0 : Int)).toNat + 1) 0 0 pz tq rq (upd (upd kf 8 p2) 9 p3) (va_up (va_up ka 6 ca223) 7 ca228) TR TO TF TA RR RM RW RF RA RC (0 : Int32) _ _ ls (show KnR pq PV pz tq rq TF TA RF from hki) (show RoI (va_up (va_up ka 6 ca223) 7 ca228) from hro) (show RmI rq RM from hrm) (show PsZ pz (0 : Int) from (fun i9 q9 => absurd q9 (by omega))) (show p2.toInt = p2.toInt from rfl) (show p3.toInt = p3.toInt from rfl) (show 0 ≤ (0 : Int) from by first | decide | omega) (show (0 : Int) ≤ 13 from by first | decide | omega) (show 0 + (5 * ndS 13 tq + 4 * ndS 13 rq + ndS 13 RM) ≤ 5 * ndS 13 tq + 4 * ndS 13 rq + ndS 13 RM from by first | exact oz_9d19b050ad | omega) (show 0 + (9804 * ndS 13 tq + 342 * ndS 13 rq + 36864 * ndS 13 RM) ≤ 9804 * ndS 13 tq + 342 * ndS 13 rq + 36864 * ndS 13 RM from by first | exact oz_b5592d0ae7 | omega) (show 13 - (0 : Int) < ((((13 - (0 : Int)).toNat + 1 : Nat) : Int) : Int) from by first | exact oz_natlt | omega) hw (lv_sub hl [1, 2, 3, 4, 5, 0] rfl)
abbrev b_Ker_left : ByteArray := prog_4_method_13_code
def y_Ker_left : MethodName := ⟨"HomeSystem$Kernel", "left", "(IZ)I"⟩
theorem d_Ker_left_0 : decode b_Ker_left 0 = .ok (.iload_n 2, 1) := by decide +kernel
theorem d_Ker_left_1 : decode b_Ker_left 1 = .ok (.ifCond .eq 11, 3) := by decide +kernel
theorem d_Ker_left_4 : decode b_Ker_left 4 = .ok (.iload_n 1, 1) := by decide +kernel
theorem d_Ker_left_5 : decode b_Ker_left 5 = .ok (.iconst 1, 1) := by decide +kernel
theorem d_Ker_left_6 : decode b_Ker_left 6 = .ok (.isub, 1) := by decide +kernel
theorem d_Ker_left_7 : decode b_Ker_left 7 = .ok (.iconst 3, 1) := by decide +kernel
theorem d_Ker_left_8 : decode b_Ker_left 8 = .ok (.idiv, 1) := by decide +kernel
theorem d_Ker_left_9 : decode b_Ker_left 9 = .ok (.goto 4, 3) := by decide +kernel
theorem d_Ker_left_12 : decode b_Ker_left 12 = .ok (.iload_n 1, 1) := by decide +kernel
theorem d_Ker_left_13 : decode b_Ker_left 13 = .ok (.istore_n 3, 1) := by decide +kernel
theorem d_Ker_left_14 : decode b_Ker_left 14 = .ok (.aload_n 0, 1) := by decide +kernel
theorem d_Ker_left_15 : decode b_Ker_left 15 = .ok (.getfield 23, 3) := by decide +kernel
theorem d_Ker_left_18 : decode b_Ker_left 18 = .ok (.iload_n 1, 1) := by decide +kernel
theorem d_Ker_left_19 : decode b_Ker_left 19 = .ok (.aaload, 1) := by decide +kernel
theorem d_Ker_left_20 : decode b_Ker_left 20 = .ok (.ifnull 30, 3) := by decide +kernel
theorem d_Ker_left_23 : decode b_Ker_left 23 = .ok (.aload_n 0, 1) := by decide +kernel
theorem d_Ker_left_24 : decode b_Ker_left 24 = .ok (.getfield 23, 3) := by decide +kernel
theorem d_Ker_left_27 : decode b_Ker_left 27 = .ok (.iload_n 3, 1) := by decide +kernel
theorem d_Ker_left_28 : decode b_Ker_left 28 = .ok (.aaload, 1) := by decide +kernel
theorem d_Ker_left_29 : decode b_Ker_left 29 = .ok (.ifnull 21, 3) := by decide +kernel
theorem d_Ker_left_32 : decode b_Ker_left 32 = .ok (.aload_n 0, 1) := by decide +kernel
theorem d_Ker_left_33 : decode b_Ker_left 33 = .ok (.getfield 23, 3) := by decide +kernel
theorem d_Ker_left_36 : decode b_Ker_left 36 = .ok (.iload_n 3, 1) := by decide +kernel
theorem d_Ker_left_37 : decode b_Ker_left 37 = .ok (.aaload, 1) := by decide +kernel
theorem d_Ker_left_38 : decode b_Ker_left 38 = .ok (.getfield 78, 3) := by decide +kernel
theorem d_Ker_left_41 : decode b_Ker_left 41 = .ok (.bipush 6, 2) := by decide +kernel
theorem d_Ker_left_43 : decode b_Ker_left 43 = .ok (.if_icmp .ne 7, 3) := by decide +kernel
theorem d_Ker_left_46 : decode b_Ker_left 46 = .ok (.iconst 1, 1) := by decide +kernel
theorem d_Ker_left_47 : decode b_Ker_left 47 = .ok (.goto 4, 3) := by decide +kernel
theorem d_Ker_left_50 : decode b_Ker_left 50 = .ok (.iconst 0, 1) := by decide +kernel
theorem d_Ker_left_51 : decode b_Ker_left 51 = .ok (.istore 4, 2) := by decide +kernel
theorem d_Ker_left_53 : decode b_Ker_left 53 = .ok (.iload 4, 2) := by decide +kernel
theorem d_Ker_left_55 : decode b_Ker_left 55 = .ok (.ifCond .eq 26, 3) := by decide +kernel
theorem d_Ker_left_58 : decode b_Ker_left 58 = .ok (.aload_n 0, 1) := by decide +kernel
theorem d_Ker_left_59 : decode b_Ker_left 59 = .ok (.getfield 45, 3) := by decide +kernel
theorem d_Ker_left_62 : decode b_Ker_left 62 = .ok (.iload_n 2, 1) := by decide +kernel
theorem d_Ker_left_63 : decode b_Ker_left 63 = .ok (.ifCond .eq 9, 3) := by decide +kernel
theorem d_Ker_left_66 : decode b_Ker_left 66 = .ok (.iconst 2, 1) := by decide +kernel
theorem d_Ker_left_67 : decode b_Ker_left 67 = .ok (.iload_n 1, 1) := by decide +kernel
theorem d_Ker_left_68 : decode b_Ker_left 68 = .ok (.imul, 1) := by decide +kernel
theorem d_Ker_left_69 : decode b_Ker_left 69 = .ok (.goto 8, 3) := by decide +kernel
theorem d_Ker_left_72 : decode b_Ker_left 72 = .ok (.iconst 2, 1) := by decide +kernel
theorem d_Ker_left_73 : decode b_Ker_left 73 = .ok (.iload_n 1, 1) := by decide +kernel
theorem d_Ker_left_74 : decode b_Ker_left 74 = .ok (.imul, 1) := by decide +kernel
theorem d_Ker_left_75 : decode b_Ker_left 75 = .ok (.iconst 1, 1) := by decide +kernel
theorem d_Ker_left_76 : decode b_Ker_left 76 = .ok (.iadd, 1) := by decide +kernel
theorem d_Ker_left_77 : decode b_Ker_left 77 = .ok (.iaload, 1) := by decide +kernel
theorem d_Ker_left_78 : decode b_Ker_left 78 = .ok (.goto 4, 3) := by decide +kernel
theorem d_Ker_left_81 : decode b_Ker_left 81 = .ok (.iconst 0, 1) := by decide +kernel
theorem d_Ker_left_82 : decode b_Ker_left 82 = .ok (.ireturn, 1) := by decide +kernel
theorem q_Ker_left : px_y y_Ker_left 2 := by unfold px_y; decide +kernel
set_option maxHeartbeats 4000000 in
set_option maxRecDepth 100000 in
theorem c_k_left (l : Launch) (D : va_G) (cs : Nat → ClassId) (hk : Nat) (kr : Nat → Nat) (pq : Nat → Option Nat) (pz : Nat → Option Nat) (tq : Nat → Option Nat) (rq : Nat → Option Nat) (kf : Nat → Int32) (ka : Nat → Nat → Int32) (TR : Nat → Nat → Nat) (TO : Nat → Option Nat) (TF : Nat → Nat → Int32) (TA : Nat → Nat → Nat → Int32) (RR : Nat → Nat → Nat) (RM : Nat → Option Nat) (RW : Nat → Option Nat) (RF : Nat → Nat → Int32) (RA : Nat → Nat → Nat → Int32) (RC : Nat → Nat → Int32) (PV : Nat → Pvs) (p0 p1 : Int32)  (g0 : 1 ≤ p0.toInt) (g1 : p0.toInt ≤ 12) (hki : KnR pq PV pz tq rq TF TA RF) : MetI l y_Ker_left b_Ker_left 5 (.int) D cs 0 0 (0) (0) [.ref hk, .int p0, .int p1] [wd_Ker cs hk kr (fun _ => none) kf ka (gKe pq pz tq rq), fm 13 (fTx cs tq TR TO TF TA), fm 13 (fRw cs rq RR RM RW RF RA RC), fm 8 (fPp cs pq PV)] (fun _ => True) (fun v ps => (ps = [wd_Ker cs hk kr (fun _ => none) kf ka (gKe pq pz tq rq), fm 13 (fTx cs tq TR TO TF TA), fm 13 (fRw cs rq RR RM RW RF RA RC), fm 8 (fPp cs pq PV)])) := by
  refine px_enter (by decide) (Nat.le_of_ble_eq_true rfl) ?_
  intro p e s m below meth c A ls hAe S hr hlk hnm hA hT hX hw hl
  replace hl : lv_has ls 5 [(0, .ref hk), (1, .int p0), (2, .int p1)] := hl
  have lp0 := Int32.le_toInt p0
  have up0 := Int32.toInt_lt p0
  have lp1 := Int32.le_toInt p1
  have up1 := Int32.toInt_lt p1
  have cst0 : (0 : Int32).toInt = 0 := rfl
  have cst1 : (1 : Int32).toInt = 1 := rfl
  have cst2 : (2 : Int32).toInt = 2 := rfl
  have cst3 : (3 : Int32).toInt = 3 := rfl
  have cst6 : (6 : Int32).toInt = 6 := rfl
  refine lv_iload_n S.x S.b d_Ker_left_0 rfl (lv_at hl 2 rfl) ?_
  refine lv_if_eq (tgt := 12) S.x S.b d_Ker_left_1 (by decide) (fun c1 => ?_) (fun c1 => ?_)
  · have nc1 : p1.toInt = (0 : Int) := (i_eq (x := p1) (y := 0)).mp c1
    refine lv_iload_n S.x S.b d_Ker_left_12 rfl (lv_at hl 1 rfl) ?_
    refine lv_istore_n (lv' := [(3, .int p0), (0, .ref hk), (1, .int p0), (2, .int p1)]) S.x S.b d_Ker_left_13 rfl hl (by decide) rfl (fun ls hl => ?_)
    refine lv_aload_n S.x S.b d_Ker_left_14 rfl (lv_at hl 1 rfl) ?_
    refine px_get S k_Ker hT hw 0 0 2 (v := .ref (kr 2)) rfl rfl rfl (by decide) m2_222 d_Ker_left_15 ?_
    refine lv_iload_n S.x S.b d_Ker_left_18 rfl (lv_at hl 2 rfl) ?_
    refine px_aald S hT hw 0 3 6 (n := 13) (f := pz) rfl rfl rfl (x := p0) (vp_in_iff.mpr (by first | exact oz_c5bdeb443a g0 g1 | (constructor <;> omega))) d_Ker_left_19 ?_
    refine lq_top (fun y2 hy2 => ?_)
    refine lq_ifnull (x := y2) (tgt := 50) S.x S.b d_Ker_left_20 (by decide) (fun c3 => ?_) (fun q4 c3 => ?_)
    ·
      subst c3
      have hc5 := cl_nat (x := p0) (by first | exact oz_71d41aa126 g0 | omega)
      have hi5 : p0.toNatClampNeg < 13 := by first | exact oz_52b7a52644 hc5 g1 | omega
      have hr5 := hy2.symm
      refine lv_iconst (v := 0) S.x S.b d_Ker_left_50 (by decide) ?_
      refine lv_istore (lv' := [(4, .int 0), (3, .int p0), (0, .ref hk), (1, .int p0), (2, .int p1)]) S.x S.b d_Ker_left_51 hl (by decide) rfl (fun ls hl => ?_)
      refine lv_iload S.x S.b d_Ker_left_53 (lv_at hl 0 rfl) ?_
      refine lv_if_eq (tgt := 81) S.x S.b d_Ker_left_55 (by decide) (fun c6 => ?_) (fun c6 => ?_)
      ·
        refine lv_iconst (v := 0) S.x S.b d_Ker_left_81 (by decide) ?_
        exact px_iret (v := 0) S hr rfl hlk hAe hw (Nat.le_of_ble_eq_true rfl) (Nat.le_of_ble_eq_true rfl) (rfl) d_Ker_left_82
      · exact absurd c6 (by decide)
    ·
      subst c3
      have hc7 := cl_nat (x := p0) (by first | exact oz_71d41aa126 g0 | omega)
      have hi7 : p0.toNatClampNeg < 13 := by first | exact oz_52b7a52644 hc7 g1 | omega
      have hr7 := hy2.symm
      refine lv_aload_n S.x S.b d_Ker_left_23 rfl (lv_at hl 1 rfl) ?_
      refine px_get S k_Ker hT hw 0 0 2 (v := .ref (kr 2)) rfl rfl rfl (by decide) m2_222 d_Ker_left_24 ?_
      refine lv_iload_n S.x S.b d_Ker_left_27 rfl (lv_at hl 0 rfl) ?_
      refine px_aaldS S hT hw 0 3 6 (n := 13) (f := pz) rfl rfl rfl (x := p0) (vp_in_iff.mpr (by first | exact oz_c5bdeb443a g0 g1 | (constructor <;> omega))) (sk := q4) hr7 d_Ker_left_28 ?_
      refine lv_ifnull S.x S.b d_Ker_left_29 ?_
      refine lv_aload_n S.x S.b d_Ker_left_32 rfl (lv_at hl 1 rfl) ?_
      refine px_get S k_Ker hT hw 0 0 2 (v := .ref (kr 2)) rfl rfl rfl (by decide) m2_222 d_Ker_left_33 ?_
      refine lv_iload_n S.x S.b d_Ker_left_36 rfl (lv_at hl 0 rfl) ?_
      refine px_aaldS S hT hw 0 3 6 (n := 13) (f := pz) rfl rfl rfl (x := p0) (vp_in_iff.mpr (by first | exact oz_c5bdeb443a g0 g1 | (constructor <;> omega))) (sk := q4) hr7 d_Ker_left_37 ?_
      rcases hki.2.2.2 p0.toNatClampNeg hi7 with hno | ⟨h9, e9, hcu8⟩ | ⟨h9, e9, hcu8⟩
      · rw [hno] at hr7; cases hr7
      ·
        cases (hr7.symm.trans e9)
        have hw : pw D A s.heap _ _ [wd_Ker cs hk kr (fun _ => none) kf ka (gKe pq pz tq rq), fm 13 (fRw cs rq RR RM RW RF RA RC), fm 8 (fPp cs pq PV), fm 13 (fTx cs tq TR TO TF TA)] := hw.sub [0, 2, 3, 1] rfl rfl
        have hw : pw D A s.heap _ _ [wd_Ker cs hk kr (fun _ => none) kf ka (gKe pq pz tq rq), fm 13 (fRw cs rq RR RM RW RF RA RC), fm 8 (fPp cs pq PV), fo 13 (fTx cs tq TR TO TF TA) p0.toNatClampNeg, wd_Txp cs q4 (TR p0.toNatClampNeg) (fun k => if k = 3 then (TO p0.toNatClampNeg) else none) (TF p0.toNatClampNeg) (TA p0.toNatClampNeg) (fun _ _ => none)] := ftx_out (pr := [wd_Ker cs hk kr (fun _ => none) kf ka (gKe pq pz tq rq), fm 13 (fRw cs rq RR RM RW RF RA RC), fm 8 (fPp cs pq PV)]) hw hi7 hcu8 rfl
        have htn9 : TxN p0.toNatClampNeg (TF p0.toNatClampNeg) (TA p0.toNatClampNeg) := hki.2.1 p0.toNatClampNeg hi7 _ hcu8
        obtain ⟨lk, ⟨i2, i3⟩, ⟨i4, i5⟩, ⟨i6, i7⟩, i8, ⟨i9, i11⟩, i10, hrt⟩ := htn9.1
        have hid9 := htn9.2.1
        have hch9 := htn9.2.2
        unfold KcI at hch9
        refine px_get S k_Txp hT hw 4 0 18 (v := .int ((TF p0.toNatClampNeg) 18)) rfl rfl rfl (by decide) m6_139 d_Ker_left_38 ?_
        refine lv_bipush (v := 6) S.x S.b d_Ker_left_41 (by decide) ?_
        refine lv_icmp_ne (tgt := 50) S.x S.b d_Ker_left_43 (by decide) (fun c10 => ?_) (fun c10 => ?_)
        · have nc10 : ¬ ((TF p0.toNatClampNeg) 18).toInt = (6 : Int) := mt (i_eq (x := ((TF p0.toNatClampNeg) 18)) (y := 6)).mpr c10
          refine lv_iconst (v := 0) S.x S.b d_Ker_left_50 (by decide) ?_
          refine lv_istore (lv' := [(4, .int 0), (3, .int p0), (0, .ref hk), (1, .int p0), (2, .int p1)]) S.x S.b d_Ker_left_51 hl (by decide) rfl (fun ls hl => ?_)
          refine lv_iload S.x S.b d_Ker_left_53 (lv_at hl 0 rfl) ?_
          refine lv_if_eq (tgt := 81) S.x S.b d_Ker_left_55 (by decide) (fun c11 => ?_) (fun c11 => ?_)
          ·
            refine lv_iconst (v := 0) S.x S.b d_Ker_left_81 (by decide) ?_
            have hw : pw D A s.heap _ _ [wd_Ker cs hk kr (fun _ => none) kf ka (gKe pq pz tq rq), fm 13 (fRw cs rq RR RM RW RF RA RC), fm 8 (fPp cs pq PV), fm 13 (fTx cs tq TR TO TF TA)] := ftx_back (pr := [wd_Ker cs hk kr (fun _ => none) kf ka (gKe pq pz tq rq), fm 13 (fRw cs rq RR RM RW RF RA RC), fm 8 (fPp cs pq PV)]) hw hi7 hcu8 rfl
            have hw : pw D A s.heap _ _ [wd_Ker cs hk kr (fun _ => none) kf ka (gKe pq pz tq rq), fm 13 (fTx cs tq TR TO TF TA), fm 13 (fRw cs rq RR RM RW RF RA RC), fm 8 (fPp cs pq PV)] := hw.sub [0, 3, 1, 2] rfl rfl
            exact px_iret (v := 0) S hr rfl hlk hAe hw (Nat.le_of_ble_eq_true rfl) (Nat.le_of_ble_eq_true rfl) (rfl) d_Ker_left_82
          · exact absurd c11 (by decide)
        · have nc10 : ((TF p0.toNatClampNeg) 18).toInt = (6 : Int) := (i_eq (x := ((TF p0.toNatClampNeg) 18)) (y := 6)).mp c10
          refine lv_iconst (v := 1) S.x S.b d_Ker_left_46 (by decide) ?_
          refine lv_goto (tgt := 51) S.x S.b d_Ker_left_47 (by decide) ?_
          refine lv_istore (lv' := [(4, .int 1), (3, .int p0), (0, .ref hk), (1, .int p0), (2, .int p1)]) S.x S.b d_Ker_left_51 hl (by decide) rfl (fun ls hl => ?_)
          refine lv_iload S.x S.b d_Ker_left_53 (lv_at hl 0 rfl) ?_
          refine lv_if_eq (tgt := 81) S.x S.b d_Ker_left_55 (by decide) (fun c12 => ?_) (fun c12 => ?_)
          · exact absurd c12 (by decide)
          ·
            refine lv_aload_n S.x S.b d_Ker_left_58 rfl (lv_at hl 2 rfl) ?_
            refine px_get S k_Ker hT hw 0 0 7 (v := .ref (kr 7)) rfl rfl rfl (by decide) m2_228 d_Ker_left_59 ?_
            refine lv_iload_n S.x S.b d_Ker_left_62 rfl (lv_at hl 4 rfl) ?_
            refine lv_if_eq (tgt := 72) S.x S.b d_Ker_left_63 (by decide) (fun c13 => ?_) (fun c13 => ?_)
            · have nc13 : p1.toInt = (0 : Int) := (i_eq (x := p1) (y := 0)).mp c13
              refine lv_iconst (v := 2) S.x S.b d_Ker_left_72 (by decide) ?_
              refine lv_iload_n S.x S.b d_Ker_left_73 rfl (lv_at hl 3 rfl) ?_
              refine lv_imul S.x S.b d_Ker_left_74 ?_
              refine lv_topi (fun z14 ez14 => ?_)
              have lz14 := Int32.le_toInt z14
              have uz14 := Int32.toInt_lt z14
              have tz14 : -2147483648 ≤ 2 * p0.toInt → 2 * p0.toInt < 2147483648 → z14.toInt = 2 * p0.toInt := by rw [ez14]; exact i_mulc 2 p0 (by decide)
              try replace tz14 : z14.toInt = 2 * p0.toInt := by omega
              refine lv_iconst (v := 1) S.x S.b d_Ker_left_75 (by decide) ?_
              refine lv_iadd S.x S.b d_Ker_left_76 ?_
              refine lv_topi (fun z15 ez15 => ?_)
              have tz15 : z15.toInt = (z14.toInt + (1 : Int) + 2147483648) % 4294967296 - 2147483648 := by rw [ez15]; exact i_add z14 1
              have lz15 := Int32.le_toInt z15
              have uz15 := Int32.toInt_lt z15
              try replace tz15 : z15.toInt = z14.toInt + (1 : Int) := by omega
              refine px_iald S hT hw 0 8 (n := 26) (f := (ka 7)) rfl (ga_Ker_7 _ _ _ _ _ _ _) (x := z15) (vp_in_iff.mpr (by first | exact oz_6bed5c79fa tz15 tz14 g0 g1 | (constructor <;> omega))) d_Ker_left_77 ?_
              refine lv_topi (fun z16 ez16 => ?_)
              have lz16 := Int32.le_toInt z16
              have uz16 := Int32.toInt_lt z16
              refine lv_goto (tgt := 82) S.x S.b d_Ker_left_78 (by decide) ?_
              have hw : pw D A s.heap _ _ [wd_Ker cs hk kr (fun _ => none) kf ka (gKe pq pz tq rq), fm 13 (fRw cs rq RR RM RW RF RA RC), fm 8 (fPp cs pq PV), fm 13 (fTx cs tq TR TO TF TA)] := ftx_back (pr := [wd_Ker cs hk kr (fun _ => none) kf ka (gKe pq pz tq rq), fm 13 (fRw cs rq RR RM RW RF RA RC), fm 8 (fPp cs pq PV)]) hw hi7 hcu8 rfl
              have hw : pw D A s.heap _ _ [wd_Ker cs hk kr (fun _ => none) kf ka (gKe pq pz tq rq), fm 13 (fTx cs tq TR TO TF TA), fm 13 (fRw cs rq RR RM RW RF RA RC), fm 8 (fPp cs pq PV)] := hw.sub [0, 3, 1, 2] rfl rfl
              exact px_iret (v := z16) S hr rfl hlk hAe hw (Nat.le_of_ble_eq_true rfl) (Nat.le_of_ble_eq_true rfl) (rfl) d_Ker_left_82
            · have nc13 : ¬ p1.toInt = (0 : Int) := mt (i_eq (x := p1) (y := 0)).mpr c13
              refine lv_iconst (v := 2) S.x S.b d_Ker_left_66 (by decide) ?_
              refine lv_iload_n S.x S.b d_Ker_left_67 rfl (lv_at hl 3 rfl) ?_
              refine lv_imul S.x S.b d_Ker_left_68 ?_
              refine lv_topi (fun z17 ez17 => ?_)
              have lz17 := Int32.le_toInt z17
              have uz17 := Int32.toInt_lt z17
              have tz17 : -2147483648 ≤ 2 * p0.toInt → 2 * p0.toInt < 2147483648 → z17.toInt = 2 * p0.toInt := by rw [ez17]; exact i_mulc 2 p0 (by decide)
              try replace tz17 : z17.toInt = 2 * p0.toInt := by omega
              refine lv_goto (tgt := 77) S.x S.b d_Ker_left_69 (by decide) ?_
              refine px_iald S hT hw 0 8 (n := 26) (f := (ka 7)) rfl (ga_Ker_7 _ _ _ _ _ _ _) (x := z17) (vp_in_iff.mpr (by first | exact oz_e90802111b tz17 g0 g1 | (constructor <;> omega))) d_Ker_left_77 ?_
              refine lv_topi (fun z18 ez18 => ?_)
              have lz18 := Int32.le_toInt z18
              have uz18 := Int32.toInt_lt z18
              refine lv_goto (tgt := 82) S.x S.b d_Ker_left_78 (by decide) ?_
              have hw : pw D A s.heap _ _ [wd_Ker cs hk kr (fun _ => none) kf ka (gKe pq pz tq rq), fm 13 (fRw cs rq RR RM RW RF RA RC), fm 8 (fPp cs pq PV), fm 13 (fTx cs tq TR TO TF TA)] := ftx_back (pr := [wd_Ker cs hk kr (fun _ => none) kf ka (gKe pq pz tq rq), fm 13 (fRw cs rq RR RM RW RF RA RC), fm 8 (fPp cs pq PV)]) hw hi7 hcu8 rfl
              have hw : pw D A s.heap _ _ [wd_Ker cs hk kr (fun _ => none) kf ka (gKe pq pz tq rq), fm 13 (fTx cs tq TR TO TF TA), fm 13 (fRw cs rq RR RM RW RF RA RC), fm 8 (fPp cs pq PV)] := hw.sub [0, 3, 1, 2] rfl rfl
              exact px_iret (v := z18) S hr rfl hlk hAe hw (Nat.le_of_ble_eq_true rfl) (Nat.le_of_ble_eq_true rfl) (rfl) d_Ker_left_82
      ·
        cases (hr7.symm.trans e9)
        have hw : pw D A s.heap _ _ [wd_Ker cs hk kr (fun _ => none) kf ka (gKe pq pz tq rq), fm 13 (fTx cs tq TR TO TF TA), fm 8 (fPp cs pq PV), fm 13 (fRw cs rq RR RM RW RF RA RC)] := hw.sub [0, 1, 3, 2] rfl rfl
        have hw : pw D A s.heap _ _ [wd_Ker cs hk kr (fun _ => none) kf ka (gKe pq pz tq rq), fm 13 (fTx cs tq TR TO TF TA), fm 8 (fPp cs pq PV), fo 13 (fRw cs rq RR RM RW RF RA RC) p0.toNatClampNeg, wd_Raw cs q4 (RR p0.toNatClampNeg) (fun k => if k = 2 then (RM p0.toNatClampNeg) else if k = 4 then (RW p0.toNatClampNeg) else none) (RF p0.toNatClampNeg) (RA p0.toNatClampNeg) (fun _ _ => none), nA cs (RM p0.toNatClampNeg) 36864 (RC p0.toNatClampNeg)] := frw_out (pr := [wd_Ker cs hk kr (fun _ => none) kf ka (gKe pq pz tq rq), fm 13 (fTx cs tq TR TO TF TA), fm 8 (fPp cs pq PV)]) hw hi7 hcu8 rfl
        have hng19 := ndS_ge 13 RM p0.toNatClampNeg hi7
        have hrn19 : RwN p0.toNatClampNeg (RF p0.toNatClampNeg) := hki.2.2.1 p0.toNatClampNeg hi7 _ hcu8
        have hro19 := hrn19.1
        unfold RwO at hro19
        have hid19 := hrn19.2.1
        have hch19 := hrn19.2.2
        unfold KcI at hch19
        refine px_get S k_Raw hT hw 4 0 11 (v := .int ((RF p0.toNatClampNeg) 11)) rfl rfl rfl (by decide) m6_139 d_Ker_left_38 ?_
        refine lv_bipush (v := 6) S.x S.b d_Ker_left_41 (by decide) ?_
        refine lv_icmp_ne (tgt := 50) S.x S.b d_Ker_left_43 (by decide) (fun c20 => ?_) (fun c20 => ?_)
        · have nc20 : ¬ ((RF p0.toNatClampNeg) 11).toInt = (6 : Int) := mt (i_eq (x := ((RF p0.toNatClampNeg) 11)) (y := 6)).mpr c20
          refine lv_iconst (v := 0) S.x S.b d_Ker_left_50 (by decide) ?_
          refine lv_istore (lv' := [(4, .int 0), (3, .int p0), (0, .ref hk), (1, .int p0), (2, .int p1)]) S.x S.b d_Ker_left_51 hl (by decide) rfl (fun ls hl => ?_)
          refine lv_iload S.x S.b d_Ker_left_53 (lv_at hl 0 rfl) ?_
          refine lv_if_eq (tgt := 81) S.x S.b d_Ker_left_55 (by decide) (fun c21 => ?_) (fun c21 => ?_)
          ·
            refine lv_iconst (v := 0) S.x S.b d_Ker_left_81 (by decide) ?_
            have hw : pw D A s.heap _ _ [wd_Ker cs hk kr (fun _ => none) kf ka (gKe pq pz tq rq), fm 13 (fTx cs tq TR TO TF TA), fm 8 (fPp cs pq PV), fm 13 (fRw cs rq RR RM RW RF RA RC)] := frw_back (pr := [wd_Ker cs hk kr (fun _ => none) kf ka (gKe pq pz tq rq), fm 13 (fTx cs tq TR TO TF TA), fm 8 (fPp cs pq PV)]) hw hi7 hcu8 rfl
            have hw : pw D A s.heap _ _ [wd_Ker cs hk kr (fun _ => none) kf ka (gKe pq pz tq rq), fm 13 (fTx cs tq TR TO TF TA), fm 13 (fRw cs rq RR RM RW RF RA RC), fm 8 (fPp cs pq PV)] := hw.sub [0, 1, 3, 2] rfl rfl
            exact px_iret (v := 0) S hr rfl hlk hAe hw (Nat.le_of_ble_eq_true rfl) (Nat.le_of_ble_eq_true rfl) (rfl) d_Ker_left_82
          · exact absurd c21 (by decide)
        · have nc20 : ((RF p0.toNatClampNeg) 11).toInt = (6 : Int) := (i_eq (x := ((RF p0.toNatClampNeg) 11)) (y := 6)).mp c20
          refine lv_iconst (v := 1) S.x S.b d_Ker_left_46 (by decide) ?_
          refine lv_goto (tgt := 51) S.x S.b d_Ker_left_47 (by decide) ?_
          refine lv_istore (lv' := [(4, .int 1), (3, .int p0), (0, .ref hk), (1, .int p0), (2, .int p1)]) S.x S.b d_Ker_left_51 hl (by decide) rfl (fun ls hl => ?_)
          refine lv_iload S.x S.b d_Ker_left_53 (lv_at hl 0 rfl) ?_
          refine lv_if_eq (tgt := 81) S.x S.b d_Ker_left_55 (by decide) (fun c22 => ?_) (fun c22 => ?_)
          · exact absurd c22 (by decide)
          ·
            refine lv_aload_n S.x S.b d_Ker_left_58 rfl (lv_at hl 2 rfl) ?_
            refine px_get S k_Ker hT hw 0 0 7 (v := .ref (kr 7)) rfl rfl rfl (by decide) m2_228 d_Ker_left_59 ?_
            refine lv_iload_n S.x S.b d_Ker_left_62 rfl (lv_at hl 4 rfl) ?_
            refine lv_if_eq (tgt := 72) S.x S.b d_Ker_left_63 (by decide) (fun c23 => ?_) (fun c23 => ?_)
            · have nc23 : p1.toInt = (0 : Int) := (i_eq (x := p1) (y := 0)).mp c23
              refine lv_iconst (v := 2) S.x S.b d_Ker_left_72 (by decide) ?_
              refine lv_iload_n S.x S.b d_Ker_left_73 rfl (lv_at hl 3 rfl) ?_
              refine lv_imul S.x S.b d_Ker_left_74 ?_
              refine lv_topi (fun z24 ez24 => ?_)
              have lz24 := Int32.le_toInt z24
              have uz24 := Int32.toInt_lt z24
              have tz24 : -2147483648 ≤ 2 * p0.toInt → 2 * p0.toInt < 2147483648 → z24.toInt = 2 * p0.toInt := by rw [ez24]; exact i_mulc 2 p0 (by decide)
              try replace tz24 : z24.toInt = 2 * p0.toInt := by omega
              refine lv_iconst (v := 1) S.x S.b d_Ker_left_75 (by decide) ?_
              refine lv_iadd S.x S.b d_Ker_left_76 ?_
              refine lv_topi (fun z25 ez25 => ?_)
              have tz25 : z25.toInt = (z24.toInt + (1 : Int) + 2147483648) % 4294967296 - 2147483648 := by rw [ez25]; exact i_add z24 1
              have lz25 := Int32.le_toInt z25
              have uz25 := Int32.toInt_lt z25
              try replace tz25 : z25.toInt = z24.toInt + (1 : Int) := by omega
              refine px_iald S hT hw 0 8 (n := 26) (f := (ka 7)) rfl (ga_Ker_7 _ _ _ _ _ _ _) (x := z25) (vp_in_iff.mpr (by first | exact oz_6bed5c79fa tz25 tz24 g0 g1 | (constructor <;> omega))) d_Ker_left_77 ?_
              refine lv_topi (fun z26 ez26 => ?_)
              have lz26 := Int32.le_toInt z26
              have uz26 := Int32.toInt_lt z26
              refine lv_goto (tgt := 82) S.x S.b d_Ker_left_78 (by decide) ?_
              have hw : pw D A s.heap _ _ [wd_Ker cs hk kr (fun _ => none) kf ka (gKe pq pz tq rq), fm 13 (fTx cs tq TR TO TF TA), fm 8 (fPp cs pq PV), fm 13 (fRw cs rq RR RM RW RF RA RC)] := frw_back (pr := [wd_Ker cs hk kr (fun _ => none) kf ka (gKe pq pz tq rq), fm 13 (fTx cs tq TR TO TF TA), fm 8 (fPp cs pq PV)]) hw hi7 hcu8 rfl
              have hw : pw D A s.heap _ _ [wd_Ker cs hk kr (fun _ => none) kf ka (gKe pq pz tq rq), fm 13 (fTx cs tq TR TO TF TA), fm 13 (fRw cs rq RR RM RW RF RA RC), fm 8 (fPp cs pq PV)] := hw.sub [0, 1, 3, 2] rfl rfl
              exact px_iret (v := z26) S hr rfl hlk hAe hw (Nat.le_of_ble_eq_true rfl) (Nat.le_of_ble_eq_true rfl) (rfl) d_Ker_left_82
            · have nc23 : ¬ p1.toInt = (0 : Int) := mt (i_eq (x := p1) (y := 0)).mpr c23
              refine lv_iconst (v := 2) S.x S.b d_Ker_left_66 (by decide) ?_
              refine lv_iload_n S.x S.b d_Ker_left_67 rfl (lv_at hl 3 rfl) ?_
              refine lv_imul S.x S.b d_Ker_left_68 ?_
              refine lv_topi (fun z27 ez27 => ?_)
              have lz27 := Int32.le_toInt z27
              have uz27 := Int32.toInt_lt z27
              have tz27 : -2147483648 ≤ 2 * p0.toInt → 2 * p0.toInt < 2147483648 → z27.toInt = 2 * p0.toInt := by rw [ez27]; exact i_mulc 2 p0 (by decide)
              try replace tz27 : z27.toInt = 2 * p0.toInt := by omega
              refine lv_goto (tgt := 77) S.x S.b d_Ker_left_69 (by decide) ?_
              refine px_iald S hT hw 0 8 (n := 26) (f := (ka 7)) rfl (ga_Ker_7 _ _ _ _ _ _ _) (x := z27) (vp_in_iff.mpr (by first | exact oz_e90802111b tz27 g0 g1 | (constructor <;> omega))) d_Ker_left_77 ?_
              refine lv_topi (fun z28 ez28 => ?_)
              have lz28 := Int32.le_toInt z28
              have uz28 := Int32.toInt_lt z28
              refine lv_goto (tgt := 82) S.x S.b d_Ker_left_78 (by decide) ?_
              have hw : pw D A s.heap _ _ [wd_Ker cs hk kr (fun _ => none) kf ka (gKe pq pz tq rq), fm 13 (fTx cs tq TR TO TF TA), fm 8 (fPp cs pq PV), fm 13 (fRw cs rq RR RM RW RF RA RC)] := frw_back (pr := [wd_Ker cs hk kr (fun _ => none) kf ka (gKe pq pz tq rq), fm 13 (fTx cs tq TR TO TF TA), fm 8 (fPp cs pq PV)]) hw hi7 hcu8 rfl
              have hw : pw D A s.heap _ _ [wd_Ker cs hk kr (fun _ => none) kf ka (gKe pq pz tq rq), fm 13 (fTx cs tq TR TO TF TA), fm 13 (fRw cs rq RR RM RW RF RA RC), fm 8 (fPp cs pq PV)] := hw.sub [0, 1, 3, 2] rfl rfl
              exact px_iret (v := z28) S hr rfl hlk hAe hw (Nat.le_of_ble_eq_true rfl) (Nat.le_of_ble_eq_true rfl) (rfl) d_Ker_left_82
  · have nc1 : ¬ p1.toInt = (0 : Int) := mt (i_eq (x := p1) (y := 0)).mpr c1
    refine lv_iload_n S.x S.b d_Ker_left_4 rfl (lv_at hl 1 rfl) ?_
    refine lv_iconst (v := 1) S.x S.b d_Ker_left_5 (by decide) ?_
    refine lv_isub S.x S.b d_Ker_left_6 ?_
    refine lv_topi (fun z29 ez29 => ?_)
    have tz29 : z29.toInt = (p0.toInt - (1 : Int) + 2147483648) % 4294967296 - 2147483648 := by rw [ez29]; exact i_sub p0 1
    have lz29 := Int32.le_toInt z29
    have uz29 := Int32.toInt_lt z29
    try replace tz29 : z29.toInt = p0.toInt - (1 : Int) := by omega
    refine lv_iconst (v := 3) S.x S.b d_Ker_left_7 (by decide) ?_
    refine lv_idiv S.x S.b d_Ker_left_8 (by decide) ?_
    refine lv_topi (fun z30 ez30 => ?_)
    have lz30 := Int32.le_toInt z30
    have uz30 := Int32.toInt_lt z30
    have tz30 : 0 ≤ z29.toInt → z30.toInt = z29.toInt / 3 := (by intro h9; rw [ez30]; exact i_idiv9 h9 (y := 3) (d := 3) (by decide) (by decide))
    try replace tz30 := tz30 (by omega)
    refine lv_goto (tgt := 13) S.x S.b d_Ker_left_9 (by decide) ?_
    refine lv_istore_n (lv' := [(3, .int z30), (0, .ref hk), (1, .int p0), (2, .int p1)]) S.x S.b d_Ker_left_13 rfl hl (by decide) rfl (fun ls hl => ?_)
    refine lv_aload_n S.x S.b d_Ker_left_14 rfl (lv_at hl 1 rfl) ?_
    refine px_get S k_Ker hT hw 0 0 2 (v := .ref (kr 2)) rfl rfl rfl (by decide) m2_222 d_Ker_left_15 ?_
    refine lv_iload_n S.x S.b d_Ker_left_18 rfl (lv_at hl 2 rfl) ?_
    refine px_aald S hT hw 0 3 6 (n := 13) (f := pz) rfl rfl rfl (x := p0) (vp_in_iff.mpr (by first | exact oz_c5bdeb443a g0 g1 | (constructor <;> omega))) d_Ker_left_19 ?_
    refine lq_top (fun y31 hy31 => ?_)
    refine lq_ifnull (x := y31) (tgt := 50) S.x S.b d_Ker_left_20 (by decide) (fun c32 => ?_) (fun q33 c32 => ?_)
    ·
      subst c32
      have hc34 := cl_nat (x := p0) (by first | exact oz_71d41aa126 g0 | omega)
      have hi34 : p0.toNatClampNeg < 13 := by first | exact oz_52b7a52644 hc34 g1 | omega
      have hr34 := hy31.symm
      refine lv_iconst (v := 0) S.x S.b d_Ker_left_50 (by decide) ?_
      refine lv_istore (lv' := [(4, .int 0), (3, .int z30), (0, .ref hk), (1, .int p0), (2, .int p1)]) S.x S.b d_Ker_left_51 hl (by decide) rfl (fun ls hl => ?_)
      refine lv_iload S.x S.b d_Ker_left_53 (lv_at hl 0 rfl) ?_
      refine lv_if_eq (tgt := 81) S.x S.b d_Ker_left_55 (by decide) (fun c35 => ?_) (fun c35 => ?_)
      ·
        refine lv_iconst (v := 0) S.x S.b d_Ker_left_81 (by decide) ?_
        exact px_iret (v := 0) S hr rfl hlk hAe hw (Nat.le_of_ble_eq_true rfl) (Nat.le_of_ble_eq_true rfl) (rfl) d_Ker_left_82
      · exact absurd c35 (by decide)
    ·
      subst c32
      have hc36 := cl_nat (x := p0) (by first | exact oz_71d41aa126 g0 | omega)
      have hi36 : p0.toNatClampNeg < 13 := by first | exact oz_52b7a52644 hc36 g1 | omega
      have hr36 := hy31.symm
      refine lv_aload_n S.x S.b d_Ker_left_23 rfl (lv_at hl 1 rfl) ?_
      refine px_get S k_Ker hT hw 0 0 2 (v := .ref (kr 2)) rfl rfl rfl (by decide) m2_222 d_Ker_left_24 ?_
      refine lv_iload_n S.x S.b d_Ker_left_27 rfl (lv_at hl 0 rfl) ?_
      refine px_aald S hT hw 0 3 6 (n := 13) (f := pz) rfl rfl rfl (x := z30) (vp_in_iff.mpr (by constructor <;> omega)) d_Ker_left_28 ?_
      refine lq_top (fun y37 hy37 => ?_)
      refine lq_ifnull (x := y37) (tgt := 50) S.x S.b d_Ker_left_29 (by decide) (fun c38 => ?_) (fun q39 c38 => ?_)
      ·
        subst c38
        have hc40 := cl_nat (x := z30) (by first | exact oz_016f458179 hc40 | omega)
        have hi40 : z30.toNatClampNeg < 13 := by omega
        have hr40 := hy37.symm
        refine lv_iconst (v := 0) S.x S.b d_Ker_left_50 (by decide) ?_
        refine lv_istore (lv' := [(4, .int 0), (3, .int z30), (0, .ref hk), (1, .int p0), (2, .int p1)]) S.x S.b d_Ker_left_51 hl (by decide) rfl (fun ls hl => ?_)
        refine lv_iload S.x S.b d_Ker_left_53 (lv_at hl 0 rfl) ?_
        refine lv_if_eq (tgt := 81) S.x S.b d_Ker_left_55 (by decide) (fun c41 => ?_) (fun c41 => ?_)
        ·
          refine lv_iconst (v := 0) S.x S.b d_Ker_left_81 (by decide) ?_
          exact px_iret (v := 0) S hr rfl hlk hAe hw (Nat.le_of_ble_eq_true rfl) (Nat.le_of_ble_eq_true rfl) (rfl) d_Ker_left_82
        · exact absurd c41 (by decide)
      ·
        subst c38
        have hc42 := cl_nat (x := z30) (by first | exact oz_016f458179 hc42 | omega)
        have hi42 : z30.toNatClampNeg < 13 := by omega
        have hr42 := hy37.symm
        refine lv_aload_n S.x S.b d_Ker_left_32 rfl (lv_at hl 1 rfl) ?_
        refine px_get S k_Ker hT hw 0 0 2 (v := .ref (kr 2)) rfl rfl rfl (by decide) m2_222 d_Ker_left_33 ?_
        refine lv_iload_n S.x S.b d_Ker_left_36 rfl (lv_at hl 0 rfl) ?_
        refine px_aaldS S hT hw 0 3 6 (n := 13) (f := pz) rfl rfl rfl (x := z30) (vp_in_iff.mpr (by first | exact oz_3859d57d28 hc42 hi42 | (constructor <;> omega))) (sk := q39) hr42 d_Ker_left_37 ?_
        rcases hki.2.2.2 z30.toNatClampNeg hi42 with hno | ⟨h9, e9, hcu43⟩ | ⟨h9, e9, hcu43⟩
        · rw [hno] at hr42; cases hr42
        ·
          cases (hr42.symm.trans e9)
          have hw : pw D A s.heap _ _ [wd_Ker cs hk kr (fun _ => none) kf ka (gKe pq pz tq rq), fm 13 (fRw cs rq RR RM RW RF RA RC), fm 8 (fPp cs pq PV), fm 13 (fTx cs tq TR TO TF TA)] := hw.sub [0, 2, 3, 1] rfl rfl
          have hw : pw D A s.heap _ _ [wd_Ker cs hk kr (fun _ => none) kf ka (gKe pq pz tq rq), fm 13 (fRw cs rq RR RM RW RF RA RC), fm 8 (fPp cs pq PV), fo 13 (fTx cs tq TR TO TF TA) z30.toNatClampNeg, wd_Txp cs q39 (TR z30.toNatClampNeg) (fun k => if k = 3 then (TO z30.toNatClampNeg) else none) (TF z30.toNatClampNeg) (TA z30.toNatClampNeg) (fun _ _ => none)] := ftx_out (pr := [wd_Ker cs hk kr (fun _ => none) kf ka (gKe pq pz tq rq), fm 13 (fRw cs rq RR RM RW RF RA RC), fm 8 (fPp cs pq PV)]) hw hi42 hcu43 rfl
          have htn44 : TxN z30.toNatClampNeg (TF z30.toNatClampNeg) (TA z30.toNatClampNeg) := hki.2.1 z30.toNatClampNeg hi42 _ hcu43
          obtain ⟨lk, ⟨i2, i3⟩, ⟨i4, i5⟩, ⟨i6, i7⟩, i8, ⟨i9, i11⟩, i10, hrt⟩ := htn44.1
          have hid44 := htn44.2.1
          have hch44 := htn44.2.2
          unfold KcI at hch44
          refine px_get S k_Txp hT hw 4 0 18 (v := .int ((TF z30.toNatClampNeg) 18)) rfl rfl rfl (by decide) m6_139 d_Ker_left_38 ?_
          refine lv_bipush (v := 6) S.x S.b d_Ker_left_41 (by decide) ?_
          refine lv_icmp_ne (tgt := 50) S.x S.b d_Ker_left_43 (by decide) (fun c45 => ?_) (fun c45 => ?_)
          · have nc45 : ¬ ((TF z30.toNatClampNeg) 18).toInt = (6 : Int) := mt (i_eq (x := ((TF z30.toNatClampNeg) 18)) (y := 6)).mpr c45
            refine lv_iconst (v := 0) S.x S.b d_Ker_left_50 (by decide) ?_
            refine lv_istore (lv' := [(4, .int 0), (3, .int z30), (0, .ref hk), (1, .int p0), (2, .int p1)]) S.x S.b d_Ker_left_51 hl (by decide) rfl (fun ls hl => ?_)
            refine lv_iload S.x S.b d_Ker_left_53 (lv_at hl 0 rfl) ?_
            refine lv_if_eq (tgt := 81) S.x S.b d_Ker_left_55 (by decide) (fun c46 => ?_) (fun c46 => ?_)
            ·
              refine lv_iconst (v := 0) S.x S.b d_Ker_left_81 (by decide) ?_
              have hw : pw D A s.heap _ _ [wd_Ker cs hk kr (fun _ => none) kf ka (gKe pq pz tq rq), fm 13 (fRw cs rq RR RM RW RF RA RC), fm 8 (fPp cs pq PV), fm 13 (fTx cs tq TR TO TF TA)] := ftx_back (pr := [wd_Ker cs hk kr (fun _ => none) kf ka (gKe pq pz tq rq), fm 13 (fRw cs rq RR RM RW RF RA RC), fm 8 (fPp cs pq PV)]) hw hi42 hcu43 rfl
              have hw : pw D A s.heap _ _ [wd_Ker cs hk kr (fun _ => none) kf ka (gKe pq pz tq rq), fm 13 (fTx cs tq TR TO TF TA), fm 13 (fRw cs rq RR RM RW RF RA RC), fm 8 (fPp cs pq PV)] := hw.sub [0, 3, 1, 2] rfl rfl
              exact px_iret (v := 0) S hr rfl hlk hAe hw (Nat.le_of_ble_eq_true rfl) (Nat.le_of_ble_eq_true rfl) (rfl) d_Ker_left_82
            · exact absurd c46 (by decide)
          · have nc45 : ((TF z30.toNatClampNeg) 18).toInt = (6 : Int) := (i_eq (x := ((TF z30.toNatClampNeg) 18)) (y := 6)).mp c45
            refine lv_iconst (v := 1) S.x S.b d_Ker_left_46 (by decide) ?_
            refine lv_goto (tgt := 51) S.x S.b d_Ker_left_47 (by decide) ?_
            refine lv_istore (lv' := [(4, .int 1), (3, .int z30), (0, .ref hk), (1, .int p0), (2, .int p1)]) S.x S.b d_Ker_left_51 hl (by decide) rfl (fun ls hl => ?_)
            refine lv_iload S.x S.b d_Ker_left_53 (lv_at hl 0 rfl) ?_
            refine lv_if_eq (tgt := 81) S.x S.b d_Ker_left_55 (by decide) (fun c47 => ?_) (fun c47 => ?_)
            · exact absurd c47 (by decide)
            ·
              refine lv_aload_n S.x S.b d_Ker_left_58 rfl (lv_at hl 2 rfl) ?_
              refine px_get S k_Ker hT hw 0 0 7 (v := .ref (kr 7)) rfl rfl rfl (by decide) m2_228 d_Ker_left_59 ?_
              refine lv_iload_n S.x S.b d_Ker_left_62 rfl (lv_at hl 4 rfl) ?_
              refine lv_if_eq (tgt := 72) S.x S.b d_Ker_left_63 (by decide) (fun c48 => ?_) (fun c48 => ?_)
              · have nc48 : p1.toInt = (0 : Int) := (i_eq (x := p1) (y := 0)).mp c48
                refine lv_iconst (v := 2) S.x S.b d_Ker_left_72 (by decide) ?_
                refine lv_iload_n S.x S.b d_Ker_left_73 rfl (lv_at hl 3 rfl) ?_
                refine lv_imul S.x S.b d_Ker_left_74 ?_
                refine lv_topi (fun z49 ez49 => ?_)
                have lz49 := Int32.le_toInt z49
                have uz49 := Int32.toInt_lt z49
                have tz49 : -2147483648 ≤ 2 * p0.toInt → 2 * p0.toInt < 2147483648 → z49.toInt = 2 * p0.toInt := by rw [ez49]; exact i_mulc 2 p0 (by decide)
                try replace tz49 : z49.toInt = 2 * p0.toInt := by omega
                refine lv_iconst (v := 1) S.x S.b d_Ker_left_75 (by decide) ?_
                refine lv_iadd S.x S.b d_Ker_left_76 ?_
                refine lv_topi (fun z50 ez50 => ?_)
                have tz50 : z50.toInt = (z49.toInt + (1 : Int) + 2147483648) % 4294967296 - 2147483648 := by rw [ez50]; exact i_add z49 1
                have lz50 := Int32.le_toInt z50
                have uz50 := Int32.toInt_lt z50
                try replace tz50 : z50.toInt = z49.toInt + (1 : Int) := by omega
                refine px_iald S hT hw 0 8 (n := 26) (f := (ka 7)) rfl (ga_Ker_7 _ _ _ _ _ _ _) (x := z50) (vp_in_iff.mpr (by first | exact oz_6bed5c79fa tz50 tz49 g0 g1 | (constructor <;> omega))) d_Ker_left_77 ?_
                refine lv_topi (fun z51 ez51 => ?_)
                have lz51 := Int32.le_toInt z51
                have uz51 := Int32.toInt_lt z51
                refine lv_goto (tgt := 82) S.x S.b d_Ker_left_78 (by decide) ?_
                have hw : pw D A s.heap _ _ [wd_Ker cs hk kr (fun _ => none) kf ka (gKe pq pz tq rq), fm 13 (fRw cs rq RR RM RW RF RA RC), fm 8 (fPp cs pq PV), fm 13 (fTx cs tq TR TO TF TA)] := ftx_back (pr := [wd_Ker cs hk kr (fun _ => none) kf ka (gKe pq pz tq rq), fm 13 (fRw cs rq RR RM RW RF RA RC), fm 8 (fPp cs pq PV)]) hw hi42 hcu43 rfl
                have hw : pw D A s.heap _ _ [wd_Ker cs hk kr (fun _ => none) kf ka (gKe pq pz tq rq), fm 13 (fTx cs tq TR TO TF TA), fm 13 (fRw cs rq RR RM RW RF RA RC), fm 8 (fPp cs pq PV)] := hw.sub [0, 3, 1, 2] rfl rfl
                exact px_iret (v := z51) S hr rfl hlk hAe hw (Nat.le_of_ble_eq_true rfl) (Nat.le_of_ble_eq_true rfl) (rfl) d_Ker_left_82
              · have nc48 : ¬ p1.toInt = (0 : Int) := mt (i_eq (x := p1) (y := 0)).mpr c48
                refine lv_iconst (v := 2) S.x S.b d_Ker_left_66 (by decide) ?_
                refine lv_iload_n S.x S.b d_Ker_left_67 rfl (lv_at hl 3 rfl) ?_
                refine lv_imul S.x S.b d_Ker_left_68 ?_
                refine lv_topi (fun z52 ez52 => ?_)
                have lz52 := Int32.le_toInt z52
                have uz52 := Int32.toInt_lt z52
                have tz52 : -2147483648 ≤ 2 * p0.toInt → 2 * p0.toInt < 2147483648 → z52.toInt = 2 * p0.toInt := by rw [ez52]; exact i_mulc 2 p0 (by decide)
                try replace tz52 : z52.toInt = 2 * p0.toInt := by omega
                refine lv_goto (tgt := 77) S.x S.b d_Ker_left_69 (by decide) ?_
                refine px_iald S hT hw 0 8 (n := 26) (f := (ka 7)) rfl (ga_Ker_7 _ _ _ _ _ _ _) (x := z52) (vp_in_iff.mpr (by first | exact oz_e90802111b tz52 g0 g1 | (constructor <;> omega))) d_Ker_left_77 ?_
                refine lv_topi (fun z53 ez53 => ?_)
                have lz53 := Int32.le_toInt z53
                have uz53 := Int32.toInt_lt z53
                refine lv_goto (tgt := 82) S.x S.b d_Ker_left_78 (by decide) ?_
                have hw : pw D A s.heap _ _ [wd_Ker cs hk kr (fun _ => none) kf ka (gKe pq pz tq rq), fm 13 (fRw cs rq RR RM RW RF RA RC), fm 8 (fPp cs pq PV), fm 13 (fTx cs tq TR TO TF TA)] := ftx_back (pr := [wd_Ker cs hk kr (fun _ => none) kf ka (gKe pq pz tq rq), fm 13 (fRw cs rq RR RM RW RF RA RC), fm 8 (fPp cs pq PV)]) hw hi42 hcu43 rfl
                have hw : pw D A s.heap _ _ [wd_Ker cs hk kr (fun _ => none) kf ka (gKe pq pz tq rq), fm 13 (fTx cs tq TR TO TF TA), fm 13 (fRw cs rq RR RM RW RF RA RC), fm 8 (fPp cs pq PV)] := hw.sub [0, 3, 1, 2] rfl rfl
                exact px_iret (v := z53) S hr rfl hlk hAe hw (Nat.le_of_ble_eq_true rfl) (Nat.le_of_ble_eq_true rfl) (rfl) d_Ker_left_82
        ·
          cases (hr42.symm.trans e9)
          have hw : pw D A s.heap _ _ [wd_Ker cs hk kr (fun _ => none) kf ka (gKe pq pz tq rq), fm 13 (fTx cs tq TR TO TF TA), fm 8 (fPp cs pq PV), fm 13 (fRw cs rq RR RM RW RF RA RC)] := hw.sub [0, 1, 3, 2] rfl rfl
          have hw : pw D A s.heap _ _ [wd_Ker cs hk kr (fun _ => none) kf ka (gKe pq pz tq rq), fm 13 (fTx cs tq TR TO TF TA), fm 8 (fPp cs pq PV), fo 13 (fRw cs rq RR RM RW RF RA RC) z30.toNatClampNeg, wd_Raw cs q39 (RR z30.toNatClampNeg) (fun k => if k = 2 then (RM z30.toNatClampNeg) else if k = 4 then (RW z30.toNatClampNeg) else none) (RF z30.toNatClampNeg) (RA z30.toNatClampNeg) (fun _ _ => none), nA cs (RM z30.toNatClampNeg) 36864 (RC z30.toNatClampNeg)] := frw_out (pr := [wd_Ker cs hk kr (fun _ => none) kf ka (gKe pq pz tq rq), fm 13 (fTx cs tq TR TO TF TA), fm 8 (fPp cs pq PV)]) hw hi42 hcu43 rfl
          have hng54 := ndS_ge 13 RM z30.toNatClampNeg hi42
          have hrn54 : RwN z30.toNatClampNeg (RF z30.toNatClampNeg) := hki.2.2.1 z30.toNatClampNeg hi42 _ hcu43
          have hro54 := hrn54.1
          unfold RwO at hro54
          have hid54 := hrn54.2.1
          have hch54 := hrn54.2.2
          unfold KcI at hch54
          refine px_get S k_Raw hT hw 4 0 11 (v := .int ((RF z30.toNatClampNeg) 11)) rfl rfl rfl (by decide) m6_139 d_Ker_left_38 ?_
          refine lv_bipush (v := 6) S.x S.b d_Ker_left_41 (by decide) ?_
          refine lv_icmp_ne (tgt := 50) S.x S.b d_Ker_left_43 (by decide) (fun c55 => ?_) (fun c55 => ?_)
          · have nc55 : ¬ ((RF z30.toNatClampNeg) 11).toInt = (6 : Int) := mt (i_eq (x := ((RF z30.toNatClampNeg) 11)) (y := 6)).mpr c55
            refine lv_iconst (v := 0) S.x S.b d_Ker_left_50 (by decide) ?_
            refine lv_istore (lv' := [(4, .int 0), (3, .int z30), (0, .ref hk), (1, .int p0), (2, .int p1)]) S.x S.b d_Ker_left_51 hl (by decide) rfl (fun ls hl => ?_)
            refine lv_iload S.x S.b d_Ker_left_53 (lv_at hl 0 rfl) ?_
            refine lv_if_eq (tgt := 81) S.x S.b d_Ker_left_55 (by decide) (fun c56 => ?_) (fun c56 => ?_)
            ·
              refine lv_iconst (v := 0) S.x S.b d_Ker_left_81 (by decide) ?_
              have hw : pw D A s.heap _ _ [wd_Ker cs hk kr (fun _ => none) kf ka (gKe pq pz tq rq), fm 13 (fTx cs tq TR TO TF TA), fm 8 (fPp cs pq PV), fm 13 (fRw cs rq RR RM RW RF RA RC)] := frw_back (pr := [wd_Ker cs hk kr (fun _ => none) kf ka (gKe pq pz tq rq), fm 13 (fTx cs tq TR TO TF TA), fm 8 (fPp cs pq PV)]) hw hi42 hcu43 rfl
              have hw : pw D A s.heap _ _ [wd_Ker cs hk kr (fun _ => none) kf ka (gKe pq pz tq rq), fm 13 (fTx cs tq TR TO TF TA), fm 13 (fRw cs rq RR RM RW RF RA RC), fm 8 (fPp cs pq PV)] := hw.sub [0, 1, 3, 2] rfl rfl
              exact px_iret (v := 0) S hr rfl hlk hAe hw (Nat.le_of_ble_eq_true rfl) (Nat.le_of_ble_eq_true rfl) (rfl) d_Ker_left_82
            · exact absurd c56 (by decide)
          · have nc55 : ((RF z30.toNatClampNeg) 11).toInt = (6 : Int) := (i_eq (x := ((RF z30.toNatClampNeg) 11)) (y := 6)).mp c55
            refine lv_iconst (v := 1) S.x S.b d_Ker_left_46 (by decide) ?_
            refine lv_goto (tgt := 51) S.x S.b d_Ker_left_47 (by decide) ?_
            refine lv_istore (lv' := [(4, .int 1), (3, .int z30), (0, .ref hk), (1, .int p0), (2, .int p1)]) S.x S.b d_Ker_left_51 hl (by decide) rfl (fun ls hl => ?_)
            refine lv_iload S.x S.b d_Ker_left_53 (lv_at hl 0 rfl) ?_
            refine lv_if_eq (tgt := 81) S.x S.b d_Ker_left_55 (by decide) (fun c57 => ?_) (fun c57 => ?_)
            · exact absurd c57 (by decide)
            ·
              refine lv_aload_n S.x S.b d_Ker_left_58 rfl (lv_at hl 2 rfl) ?_
              refine px_get S k_Ker hT hw 0 0 7 (v := .ref (kr 7)) rfl rfl rfl (by decide) m2_228 d_Ker_left_59 ?_
              refine lv_iload_n S.x S.b d_Ker_left_62 rfl (lv_at hl 4 rfl) ?_
              refine lv_if_eq (tgt := 72) S.x S.b d_Ker_left_63 (by decide) (fun c58 => ?_) (fun c58 => ?_)
              · have nc58 : p1.toInt = (0 : Int) := (i_eq (x := p1) (y := 0)).mp c58
                refine lv_iconst (v := 2) S.x S.b d_Ker_left_72 (by decide) ?_
                refine lv_iload_n S.x S.b d_Ker_left_73 rfl (lv_at hl 3 rfl) ?_
                refine lv_imul S.x S.b d_Ker_left_74 ?_
                refine lv_topi (fun z59 ez59 => ?_)
                have lz59 := Int32.le_toInt z59
                have uz59 := Int32.toInt_lt z59
                have tz59 : -2147483648 ≤ 2 * p0.toInt → 2 * p0.toInt < 2147483648 → z59.toInt = 2 * p0.toInt := by rw [ez59]; exact i_mulc 2 p0 (by decide)
                try replace tz59 : z59.toInt = 2 * p0.toInt := by omega
                refine lv_iconst (v := 1) S.x S.b d_Ker_left_75 (by decide) ?_
                refine lv_iadd S.x S.b d_Ker_left_76 ?_
                refine lv_topi (fun z60 ez60 => ?_)
                have tz60 : z60.toInt = (z59.toInt + (1 : Int) + 2147483648) % 4294967296 - 2147483648 := by rw [ez60]; exact i_add z59 1
                have lz60 := Int32.le_toInt z60
                have uz60 := Int32.toInt_lt z60
                try replace tz60 : z60.toInt = z59.toInt + (1 : Int) := by omega
                refine px_iald S hT hw 0 8 (n := 26) (f := (ka 7)) rfl (ga_Ker_7 _ _ _ _ _ _ _) (x := z60) (vp_in_iff.mpr (by first | exact oz_6bed5c79fa tz60 tz59 g0 g1 | (constructor <;> omega))) d_Ker_left_77 ?_
                refine lv_topi (fun z61 ez61 => ?_)
                have lz61 := Int32.le_toInt z61
                have uz61 := Int32.toInt_lt z61
                refine lv_goto (tgt := 82) S.x S.b d_Ker_left_78 (by decide) ?_
                have hw : pw D A s.heap _ _ [wd_Ker cs hk kr (fun _ => none) kf ka (gKe pq pz tq rq), fm 13 (fTx cs tq TR TO TF TA), fm 8 (fPp cs pq PV), fm 13 (fRw cs rq RR RM RW RF RA RC)] := frw_back (pr := [wd_Ker cs hk kr (fun _ => none) kf ka (gKe pq pz tq rq), fm 13 (fTx cs tq TR TO TF TA), fm 8 (fPp cs pq PV)]) hw hi42 hcu43 rfl
                have hw : pw D A s.heap _ _ [wd_Ker cs hk kr (fun _ => none) kf ka (gKe pq pz tq rq), fm 13 (fTx cs tq TR TO TF TA), fm 13 (fRw cs rq RR RM RW RF RA RC), fm 8 (fPp cs pq PV)] := hw.sub [0, 1, 3, 2] rfl rfl
                exact px_iret (v := z61) S hr rfl hlk hAe hw (Nat.le_of_ble_eq_true rfl) (Nat.le_of_ble_eq_true rfl) (rfl) d_Ker_left_82
              · have nc58 : ¬ p1.toInt = (0 : Int) := mt (i_eq (x := p1) (y := 0)).mpr c58
                refine lv_iconst (v := 2) S.x S.b d_Ker_left_66 (by decide) ?_
                refine lv_iload_n S.x S.b d_Ker_left_67 rfl (lv_at hl 3 rfl) ?_
                refine lv_imul S.x S.b d_Ker_left_68 ?_
                refine lv_topi (fun z62 ez62 => ?_)
                have lz62 := Int32.le_toInt z62
                have uz62 := Int32.toInt_lt z62
                have tz62 : -2147483648 ≤ 2 * p0.toInt → 2 * p0.toInt < 2147483648 → z62.toInt = 2 * p0.toInt := by rw [ez62]; exact i_mulc 2 p0 (by decide)
                try replace tz62 : z62.toInt = 2 * p0.toInt := by omega
                refine lv_goto (tgt := 77) S.x S.b d_Ker_left_69 (by decide) ?_
                refine px_iald S hT hw 0 8 (n := 26) (f := (ka 7)) rfl (ga_Ker_7 _ _ _ _ _ _ _) (x := z62) (vp_in_iff.mpr (by first | exact oz_e90802111b tz62 g0 g1 | (constructor <;> omega))) d_Ker_left_77 ?_
                refine lv_topi (fun z63 ez63 => ?_)
                have lz63 := Int32.le_toInt z63
                have uz63 := Int32.toInt_lt z63
                refine lv_goto (tgt := 82) S.x S.b d_Ker_left_78 (by decide) ?_
                have hw : pw D A s.heap _ _ [wd_Ker cs hk kr (fun _ => none) kf ka (gKe pq pz tq rq), fm 13 (fTx cs tq TR TO TF TA), fm 8 (fPp cs pq PV), fm 13 (fRw cs rq RR RM RW RF RA RC)] := frw_back (pr := [wd_Ker cs hk kr (fun _ => none) kf ka (gKe pq pz tq rq), fm 13 (fTx cs tq TR TO TF TA), fm 8 (fPp cs pq PV)]) hw hi42 hcu43 rfl
                have hw : pw D A s.heap _ _ [wd_Ker cs hk kr (fun _ => none) kf ka (gKe pq pz tq rq), fm 13 (fTx cs tq TR TO TF TA), fm 13 (fRw cs rq RR RM RW RF RA RC), fm 8 (fPp cs pq PV)] := hw.sub [0, 1, 3, 2] rfl rfl
                exact px_iret (v := z63) S hr rfl hlk hAe hw (Nat.le_of_ble_eq_true rfl) (Nat.le_of_ble_eq_true rfl) (rfl) d_Ker_left_82
