theorem oz_982748af7b {a1 : Int} {n0 : Nat} (h0 : (n0 : Int) = a1) (h1 : a1 ≤ 7) : n0 < 8 := by omega
theorem oz_c745c762bb {a0 : Int} (h0 : ¬ (13 : Int) ≤ a0) : a0 ≤ 12 := by omega
theorem oz_2466c61d38 {a0 a1 : Int} (h0 : a0 = a1 + 1) (h1 : a1 ≤ 999999) : a0 ≤ 1000000 := by omega
theorem oz_dcf11d8045 {a0 a2 : Int} {n1 : Nat} (h0 : 1000000 - a2 < (n1 : Int) + 1) (h1 : a0 = a2 + 1) : 1000000 - a0 < (n1 : Int) := by omega
theorem oz_b28ddce073 {a0 : Int} (h0 : ¬ (1000000 : Int) ≤ a0) : a0 ≤ 999999 := by omega
theorem oz_9e74bf7961 {a0 : Int} {n1 : Nat} (h0 : 1000000 - a0 < ((n1 + 1 : Nat) : Int)) : 1000000 - a0 < (n1 : Int) + 1 := by omega
theorem oz_3789b25239 {a0 : Int} (h0 : 0 ≤ a0) (h1 : a0 ≤ 7) : 0 ≤ a0 ∧ a0 < ((8 : Nat) : Int) := by omega
theorem oz_b6f6076676  : (0 : Int) ≤ 12 := by omega
theorem oz_c5bdeb443a {a0 : Int} (h0 : 1 ≤ a0) (h1 : a0 ≤ 12) : 0 ≤ a0 ∧ a0 < ((13 : Nat) : Int) := by omega
theorem oz_6bed5c79fa {a0 a1 a2 : Int} (h0 : a0 = a1 + (1 : Int)) (h1 : a1 = 2 * a2) (h2 : 1 ≤ a2) (h3 : a2 ≤ 12) : 0 ≤ a0 ∧ a0 < ((26 : Nat) : Int) := by omega
theorem oz_e90802111b {a0 a1 : Int} (h0 : a0 = 2 * a1) (h1 : 1 ≤ a1) (h2 : a1 ≤ 12) : 0 ≤ a0 ∧ a0 < ((26 : Nat) : Int) := by omega
theorem m8_49 : Cond.methodLink "HomeSystem$Kernel" 66 ⟨"HomeSystem$Kernel", "advance", "(LHomeSystem$AnyProcess;)Z"⟩ ∈ AL := AL_8 (List.mem_of_getElem? (i := 49) rfl) rfl
theorem m8_52 : Cond.code ⟨"HomeSystem$Kernel", "advance", "(LHomeSystem$AnyProcess;)Z"⟩ prog_4_method_5_code 5 (Option.some FieldType.boolean) ∈ AL := AL_8 (List.mem_of_getElem? (i := 52) rfl) rfl
theorem ms_5_7 : Cond.selects "HomeSystem$Kernel" ⟨"HomeSystem$Kernel", "advance", "(LHomeSystem$AnyProcess;)Z"⟩ ⟨"HomeSystem$Kernel", "advance", "(LHomeSystem$AnyProcess;)Z"⟩ ∈ AL := AL_p (q := (⟨"HomeSystem$Kernel", "advance", "(LHomeSystem$AnyProcess;)Z"⟩, 10)) (by unfold lw_privs; exact List.mem_append_right _ (List.mem_append_right _ (List.mem_append_right _ (List.mem_append_right _ (List.mem_append_left _ (List.mem_of_getElem? (i := 7) rfl))))))
theorem m8_51 : Cond.instanceMethod ⟨"HomeSystem$Kernel", "advance", "(LHomeSystem$AnyProcess;)Z"⟩ ∈ AL := AL_8 (List.mem_of_getElem? (i := 51) rfl) rfl
theorem m6_109 : Cond.methodLink "HomeSystem$Kernel" 55 ⟨"java/util/Arrays", "fill", "([II)V"⟩ ∈ AL := AL_6 (List.mem_of_getElem? (i := 109) rfl) rfl
section KN7
variable {pq ps tq rq : Nat → Option Nat} {PV : Nat → Pvs} {TF RF : Nat → Nat → Int32} {TA : Nat → Nat → Nat → Int32} {p : Nat}
theorem KnR.nul (k : KnR pq PV ps tq rq TF TA RF) : KnR pq PV (va_up ps p none) tq rq TF TA RF := ⟨k.1, k.2.1, k.2.2.1, fun i hi => by
  by_cases e : i = p
  · subst e; rw [va_up_s]; exact Or.inl rfl
  · rw [va_up_n e]; exact k.2.2.2 i hi⟩
end KN7
abbrev b_Ker_boot : ByteArray := prog_4_method_2_code
def y_Ker_boot : MethodName := ⟨"HomeSystem$Kernel", "boot", "(IIII)I"⟩
theorem d_Ker_boot_0 : decode b_Ker_boot 0 = .ok (.aload_n 0, 1) := by decide +kernel
theorem d_Ker_boot_1 : decode b_Ker_boot 1 = .ok (.iload_n 3, 1) := by decide +kernel
theorem d_Ker_boot_2 : decode b_Ker_boot 2 = .ok (.putfield 48, 3) := by decide +kernel
theorem d_Ker_boot_5 : decode b_Ker_boot 5 = .ok (.aload_n 0, 1) := by decide +kernel
theorem d_Ker_boot_6 : decode b_Ker_boot 6 = .ok (.iload 4, 2) := by decide +kernel
theorem d_Ker_boot_8 : decode b_Ker_boot 8 = .ok (.putfield 52, 3) := by decide +kernel
theorem d_Ker_boot_11 : decode b_Ker_boot 11 = .ok (.aload_n 0, 1) := by decide +kernel
theorem d_Ker_boot_12 : decode b_Ker_boot 12 = .ok (.getfield 42, 3) := by decide +kernel
theorem d_Ker_boot_15 : decode b_Ker_boot 15 = .ok (.iconst 0, 1) := by decide +kernel
theorem d_Ker_boot_16 : decode b_Ker_boot 16 = .ok (.invokestatic 55, 3) := by decide +kernel
theorem d_Ker_boot_19 : decode b_Ker_boot 19 = .ok (.aload_n 0, 1) := by decide +kernel
theorem d_Ker_boot_20 : decode b_Ker_boot 20 = .ok (.getfield 45, 3) := by decide +kernel
theorem d_Ker_boot_23 : decode b_Ker_boot 23 = .ok (.iconst 0, 1) := by decide +kernel
theorem d_Ker_boot_24 : decode b_Ker_boot 24 = .ok (.invokestatic 55, 3) := by decide +kernel
theorem d_Ker_boot_27 : decode b_Ker_boot 27 = .ok (.iconst 0, 1) := by decide +kernel
theorem d_Ker_boot_28 : decode b_Ker_boot 28 = .ok (.istore 5, 2) := by decide +kernel
theorem d_Ker_boot_30 : decode b_Ker_boot 30 = .ok (.iload 5, 2) := by decide +kernel
theorem d_Ker_boot_32 : decode b_Ker_boot 32 = .ok (.bipush 13, 2) := by decide +kernel
theorem d_Ker_boot_34 : decode b_Ker_boot 34 = .ok (.if_icmp .ge 17, 3) := by decide +kernel
theorem d_Ker_boot_37 : decode b_Ker_boot 37 = .ok (.aload_n 0, 1) := by decide +kernel
theorem d_Ker_boot_38 : decode b_Ker_boot 38 = .ok (.getfield 23, 3) := by decide +kernel
theorem d_Ker_boot_41 : decode b_Ker_boot 41 = .ok (.iload 5, 2) := by decide +kernel
theorem d_Ker_boot_43 : decode b_Ker_boot 43 = .ok (.aconst_null, 1) := by decide +kernel
theorem d_Ker_boot_44 : decode b_Ker_boot 44 = .ok (.aastore, 1) := by decide +kernel
theorem d_Ker_boot_45 : decode b_Ker_boot 45 = .ok (.iinc 5 1, 3) := by decide +kernel
theorem d_Ker_boot_48 : decode b_Ker_boot 48 = .ok (.goto (-18), 3) := by decide +kernel
theorem d_Ker_boot_51 : decode b_Ker_boot 51 = .ok (.aload_n 0, 1) := by decide +kernel
theorem d_Ker_boot_52 : decode b_Ker_boot 52 = .ok (.iconst 0, 1) := by decide +kernel
theorem d_Ker_boot_53 : decode b_Ker_boot 53 = .ok (.aload_n 0, 1) := by decide +kernel
theorem d_Ker_boot_54 : decode b_Ker_boot 54 = .ok (.getfield 11, 3) := by decide +kernel
theorem d_Ker_boot_57 : decode b_Ker_boot 57 = .ok (.iload_n 1, 1) := by decide +kernel
theorem d_Ker_boot_58 : decode b_Ker_boot 58 = .ok (.aaload, 1) := by decide +kernel
theorem d_Ker_boot_59 : decode b_Ker_boot 59 = .ok (.iload_n 2, 1) := by decide +kernel
theorem d_Ker_boot_60 : decode b_Ker_boot 60 = .ok (.invokevirtual 61, 3) := by decide +kernel
theorem d_Ker_boot_63 : decode b_Ker_boot 63 = .ok (.iconst 1, 1) := by decide +kernel
theorem d_Ker_boot_64 : decode b_Ker_boot 64 = .ok (.istore 5, 2) := by decide +kernel
theorem d_Ker_boot_66 : decode b_Ker_boot 66 = .ok (.iconst 0, 1) := by decide +kernel
theorem d_Ker_boot_67 : decode b_Ker_boot 67 = .ok (.istore 6, 2) := by decide +kernel
theorem d_Ker_boot_69 : decode b_Ker_boot 69 = .ok (.iload 6, 2) := by decide +kernel
theorem d_Ker_boot_71 : decode b_Ker_boot 71 = .ok (.ldc 65, 2) := by decide +kernel
theorem d_Ker_boot_73 : decode b_Ker_boot 73 = .ok (.if_icmp .ge 49, 3) := by decide +kernel
theorem d_Ker_boot_76 : decode b_Ker_boot 76 = .ok (.iload 5, 2) := by decide +kernel
theorem d_Ker_boot_78 : decode b_Ker_boot 78 = .ok (.ifCond .eq 44, 3) := by decide +kernel
theorem d_Ker_boot_81 : decode b_Ker_boot 81 = .ok (.iconst 0, 1) := by decide +kernel
theorem d_Ker_boot_82 : decode b_Ker_boot 82 = .ok (.istore 5, 2) := by decide +kernel
theorem d_Ker_boot_84 : decode b_Ker_boot 84 = .ok (.iconst 0, 1) := by decide +kernel
theorem d_Ker_boot_85 : decode b_Ker_boot 85 = .ok (.istore 7, 2) := by decide +kernel
theorem d_Ker_boot_87 : decode b_Ker_boot 87 = .ok (.iload 7, 2) := by decide +kernel
theorem d_Ker_boot_89 : decode b_Ker_boot 89 = .ok (.bipush 13, 2) := by decide +kernel
theorem d_Ker_boot_91 : decode b_Ker_boot 91 = .ok (.if_icmp .ge 25, 3) := by decide +kernel
theorem d_Ker_boot_94 : decode b_Ker_boot 94 = .ok (.iload 5, 2) := by decide +kernel
theorem d_Ker_boot_96 : decode b_Ker_boot 96 = .ok (.aload_n 0, 1) := by decide +kernel
theorem d_Ker_boot_97 : decode b_Ker_boot 97 = .ok (.aload_n 0, 1) := by decide +kernel
theorem d_Ker_boot_98 : decode b_Ker_boot 98 = .ok (.getfield 23, 3) := by decide +kernel
theorem d_Ker_boot_101 : decode b_Ker_boot 101 = .ok (.iload 7, 2) := by decide +kernel
theorem d_Ker_boot_103 : decode b_Ker_boot 103 = .ok (.aaload, 1) := by decide +kernel
theorem d_Ker_boot_104 : decode b_Ker_boot 104 = .ok (.invokevirtual 66, 3) := by decide +kernel
theorem d_Ker_boot_107 : decode b_Ker_boot 107 = .ok (.ior, 1) := by decide +kernel
theorem d_Ker_boot_108 : decode b_Ker_boot 108 = .ok (.istore 5, 2) := by decide +kernel
theorem d_Ker_boot_110 : decode b_Ker_boot 110 = .ok (.iinc 7 1, 3) := by decide +kernel
theorem d_Ker_boot_113 : decode b_Ker_boot 113 = .ok (.goto (-26), 3) := by decide +kernel
theorem d_Ker_boot_116 : decode b_Ker_boot 116 = .ok (.iinc 6 1, 3) := by decide +kernel
theorem d_Ker_boot_119 : decode b_Ker_boot 119 = .ok (.goto (-50), 3) := by decide +kernel
theorem d_Ker_boot_122 : decode b_Ker_boot 122 = .ok (.iconst 0, 1) := by decide +kernel
theorem d_Ker_boot_123 : decode b_Ker_boot 123 = .ok (.istore 6, 2) := by decide +kernel
theorem d_Ker_boot_125 : decode b_Ker_boot 125 = .ok (.iload 6, 2) := by decide +kernel
theorem d_Ker_boot_127 : decode b_Ker_boot 127 = .ok (.bipush 13, 2) := by decide +kernel
theorem d_Ker_boot_129 : decode b_Ker_boot 129 = .ok (.if_icmp .ge 31, 3) := by decide +kernel
theorem d_Ker_boot_132 : decode b_Ker_boot 132 = .ok (.aload_n 0, 1) := by decide +kernel
theorem d_Ker_boot_133 : decode b_Ker_boot 133 = .ok (.iload 6, 2) := by decide +kernel
theorem d_Ker_boot_135 : decode b_Ker_boot 135 = .ok (.invokevirtual 70, 3) := by decide +kernel
theorem d_Ker_boot_138 : decode b_Ker_boot 138 = .ok (.ifCond .eq 16, 3) := by decide +kernel
theorem d_Ker_boot_141 : decode b_Ker_boot 141 = .ok (.aload_n 0, 1) := by decide +kernel
theorem d_Ker_boot_142 : decode b_Ker_boot 142 = .ok (.getfield 23, 3) := by decide +kernel
theorem d_Ker_boot_145 : decode b_Ker_boot 145 = .ok (.iload 6, 2) := by decide +kernel
theorem d_Ker_boot_147 : decode b_Ker_boot 147 = .ok (.aaload, 1) := by decide +kernel
theorem d_Ker_boot_148 : decode b_Ker_boot 148 = .ok (.bipush 6, 2) := by decide +kernel
theorem d_Ker_boot_150 : decode b_Ker_boot 150 = .ok (.iconst 0, 1) := by decide +kernel
theorem d_Ker_boot_151 : decode b_Ker_boot 151 = .ok (.invokevirtual 74, 3) := by decide +kernel
theorem d_Ker_boot_154 : decode b_Ker_boot 154 = .ok (.iinc 6 1, 3) := by decide +kernel
theorem d_Ker_boot_157 : decode b_Ker_boot 157 = .ok (.goto (-32), 3) := by decide +kernel
theorem d_Ker_boot_160 : decode b_Ker_boot 160 = .ok (.aload_n 0, 1) := by decide +kernel
theorem d_Ker_boot_161 : decode b_Ker_boot 161 = .ok (.getfield 23, 3) := by decide +kernel
theorem d_Ker_boot_164 : decode b_Ker_boot 164 = .ok (.iconst 0, 1) := by decide +kernel
theorem d_Ker_boot_165 : decode b_Ker_boot 165 = .ok (.aaload, 1) := by decide +kernel
theorem d_Ker_boot_166 : decode b_Ker_boot 166 = .ok (.ifnonnull 7, 3) := by decide +kernel
theorem d_Ker_boot_169 : decode b_Ker_boot 169 = .ok (.iconst (-1), 1) := by decide +kernel
theorem d_Ker_boot_170 : decode b_Ker_boot 170 = .ok (.goto 12, 3) := by decide +kernel
theorem d_Ker_boot_173 : decode b_Ker_boot 173 = .ok (.aload_n 0, 1) := by decide +kernel
theorem d_Ker_boot_174 : decode b_Ker_boot 174 = .ok (.getfield 23, 3) := by decide +kernel
theorem d_Ker_boot_177 : decode b_Ker_boot 177 = .ok (.iconst 0, 1) := by decide +kernel
theorem d_Ker_boot_178 : decode b_Ker_boot 178 = .ok (.aaload, 1) := by decide +kernel
theorem d_Ker_boot_179 : decode b_Ker_boot 179 = .ok (.getfield 78, 3) := by decide +kernel
theorem d_Ker_boot_182 : decode b_Ker_boot 182 = .ok (.ireturn, 1) := by decide +kernel
theorem q_Ker_boot : px_y y_Ker_boot 4 := by unfold px_y; decide +kernel
set_option maxHeartbeats 4000000 in
set_option maxRecDepth 100000 in
theorem c_k_boot (l : Launch) (D : va_G) (cs : Nat → ClassId) (hk : Nat) (kr : Nat → Nat) (pq : Nat → Option Nat) (PV : Nat → Pvs) (pz : Nat → Option Nat) (tq : Nat → Option Nat) (rq : Nat → Option Nat) (kf : Nat → Int32) (ka : Nat → Nat → Int32) (TR : Nat → Nat → Nat) (TO : Nat → Option Nat) (TF : Nat → Nat → Int32) (TA : Nat → Nat → Nat → Int32) (RR : Nat → Nat → Nat) (RM : Nat → Option Nat) (RW : Nat → Option Nat) (RF : Nat → Nat → Int32) (RA : Nat → Nat → Nat → Int32) (RC : Nat → Nat → Int32) (p0 p1 p2 p3 : Int32) (hp : Nat) (g0 : 0 ≤ p0.toInt) (g1 : p0.toInt ≤ 7) (g2 : 0 ≤ p2.toInt) (g3 : p2.toInt ≤ 100) (hki : KnR pq PV pz tq rq TF TA RF) (hrm : RmI rq RM) (hpq0 : pq p0.toNatClampNeg = some hp) : MgI l y_Ker_boot b_Ker_boot 8 (.int) D cs 14 600 ((5 * ndS 13 tq + 4 * ndS 13 rq + ndS 13 RM)) ((9804 * ndS 13 tq + 342 * ndS 13 rq + 36864 * ndS 13 RM)) [.ref hk, .int p0, .int p1, .int p2, .int p3] [wd_Ker cs hk kr (fun _ => none) kf ka (gKe pq pz tq rq), fm 13 (fTx cs tq TR TO TF TA), fm 13 (fRw cs rq RR RM RW RF RA RC), fm 8 (fPp cs pq PV)] (fun _ => True) (fun v ps => ∃ (pz' : Nat → Option Nat) (tq' : Nat → Option Nat) (rq' : Nat → Option Nat) (kf' : Nat → Int32) (ka' : Nat → Nat → Int32) (TR' : Nat → Nat → Nat) (TO' : Nat → Option Nat) (TF' : Nat → Nat → Int32) (TA' : Nat → Nat → Nat → Int32) (RR' : Nat → Nat → Nat) (RM' : Nat → Option Nat) (RW' : Nat → Option Nat) (RF' : Nat → Nat → Int32) (RA' : Nat → Nat → Nat → Int32) (RC' : Nat → Nat → Int32), (ps.1 = [wd_Ker cs hk kr (fun _ => none) kf' ka' (gKe pq pz' tq' rq'), fm 13 (fTx cs tq' TR' TO' TF' TA'), fm 13 (fRw cs rq' RR' RM' RW' RF' RA' RC'), fm 8 (fPp cs pq PV)]) ∧ (KnR pq PV pz' tq' rq' TF' TA' RF') ∧ (RmI rq' RM') ∧ (ps.2.1 + (5 * ndS 13 tq' + 4 * ndS 13 rq' + ndS 13 RM') ≤ 5 * ndS 13 tq + 4 * ndS 13 rq + ndS 13 RM) ∧ (ps.2.2 + (9804 * ndS 13 tq' + 342 * ndS 13 rq' + 36864 * ndS 13 RM') ≤ 9804 * ndS 13 tq + 342 * ndS 13 rq + 36864 * ndS 13 RM)) := by
  refine pg_enter (by decide) (Nat.le_of_ble_eq_true rfl) ?_
  intro p e s m below meth c A ls hAe S hr hlk hnm hA hT hX hw hl
  have hl : lv_has ls 8 [(0, .ref hk), (1, .int p0), (2, .int p1), (3, .int p2), (4, .int p3)] := hl
  have lp0 := Int32.le_toInt p0
  have up0 := Int32.toInt_lt p0
  have lp1 := Int32.le_toInt p1
  have up1 := Int32.toInt_lt p1
  have lp2 := Int32.le_toInt p2
  have up2 := Int32.toInt_lt p2
  have lp3 := Int32.le_toInt p3
  have up3 := Int32.toInt_lt p3
  have cstm1 : ((-1) : Int32).toInt = (-1) := rfl
  have cst0 : (0 : Int32).toInt = 0 := rfl
  have cst1 : (1 : Int32).toInt = 1 := rfl
  have cst6 : (6 : Int32).toInt = 6 := rfl
  have cst13 : (13 : Int32).toInt = 13 := rfl
  have hcl0 := cl_nat (x := p0) (by first | exact g0 | omega)
  have hi0 : p0.toNatClampNeg < 8 := by first | exact oz_982748af7b hcl0 g1 | omega
  have J125 : ∀ (n_125 : Nat) (ce_125 sl_125 : Nat) (pz_125 : Nat → Option Nat) (tq_125 : Nat → Option Nat) (rq_125 : Nat → Option Nat) (kf_125 : Nat → Int32) (ka_125 : Nat → Nat → Int32) (TR_125 : Nat → Nat → Nat) (TO_125 : Nat → Option Nat) (TF_125 : Nat → Nat → Int32) (TA_125 : Nat → Nat → Nat → Int32) (RR_125 : Nat → Nat → Nat) (RM_125 : Nat → Option Nat) (RW_125 : Nat → Option Nat) (RF_125 : Nat → Nat → Int32) (RA_125 : Nat → Nat → Nat → Int32) (RC_125 : Nat → Nat → Int32) (x125_6 : Int32) (H : Heap) (locs : List Loc) (ls : Array Slot), (KnI pq PV pz_125 tq_125 rq_125 TO_125 TF_125 TA_125 RW_125 RF_125) → (RmI rq_125 RM_125) → ((kf_125 8).toInt = p2.toInt) → ((kf_125 9).toInt = p3.toInt) → (0 ≤ x125_6.toInt) → (x125_6.toInt ≤ 13) → (ce_125 + (5 * ndS 13 tq_125 + 4 * ndS 13 rq_125 + ndS 13 RM_125) ≤ 5 * ndS 13 tq + 4 * ndS 13 rq + ndS 13 RM) → (sl_125 + (9804 * ndS 13 tq_125 + 342 * ndS 13 rq_125 + 36864 * ndS 13 RM_125) ≤ 9804 * ndS 13 tq + 342 * ndS 13 rq + 36864 * ndS 13 RM) → 13 - x125_6.toInt < (n_125 : Int) → pw D A s.heap H locs [wd_Ker cs hk kr (fun _ => none) kf_125 ka_125 (gKe pq pz_125 tq_125 rq_125), fm 13 (fTx cs tq_125 TR_125 TO_125 TF_125 TA_125), fm 13 (fRw cs rq_125 RR_125 RM_125 RW_125 RF_125 RA_125 RC_125), fm 8 (fPp cs pq PV)] → lv_has ls 8 [(0, .ref hk), (1, .int p0), (2, .int p1), (3, .int p2), (4, .int p3), (6, .int x125_6)] → W p l e { frames := 14, cells := (5 * ndS 13 tq + 4 * ndS 13 rq + ndS 13 RM), slots := (9804 * ndS 13 tq + 342 * ndS 13 rq + 36864 * ndS 13 RM), locals := 600 } s m [.ref hk, .int p0, .int p1, .int p2, .int p3].toArray below meth c H locs ce_125 sl_125 (MQ below (va_Qi (fun v ps => ∃ (pz' : Nat → Option Nat) (tq' : Nat → Option Nat) (rq' : Nat → Option Nat) (kf' : Nat → Int32) (ka' : Nat → Nat → Int32) (TR' : Nat → Nat → Nat) (TO' : Nat → Option Nat) (TF' : Nat → Nat → Int32) (TA' : Nat → Nat → Nat → Int32) (RR' : Nat → Nat → Nat) (RM' : Nat → Option Nat) (RW' : Nat → Option Nat) (RF' : Nat → Nat → Int32) (RA' : Nat → Nat → Nat → Int32) (RC' : Nat → Nat → Int32), (ps.1 = [wd_Ker cs hk kr (fun _ => none) kf' ka' (gKe pq pz' tq' rq'), fm 13 (fTx cs tq' TR' TO' TF' TA'), fm 13 (fRw cs rq' RR' RM' RW' RF' RA' RC'), fm 8 (fPp cs pq PV)]) ∧ (KnR pq PV pz' tq' rq' TF' TA' RF') ∧ (RmI rq' RM') ∧ (ps.2.1 + (5 * ndS 13 tq' + 4 * ndS 13 rq' + ndS 13 RM') ≤ 5 * ndS 13 tq + 4 * ndS 13 rq + ndS 13 RM) ∧ (ps.2.2 + (9804 * ndS 13 tq' + 342 * ndS 13 rq' + 36864 * ndS 13 RM') ≤ 9804 * ndS 13 tq + 342 * ndS 13 rq + 36864 * ndS 13 RM)) (pg_B D (va_A ([wd_Ker cs hk kr (fun _ => none) kf ka (gKe pq pz tq rq), fm 13 (fTx cs tq TR TO TF TA), fm 13 (fRw cs rq RR RM RW RF RA RC), fm 8 (fPp cs pq PV)] : List va_W).flatten s.heap.size) s.heap.size (tot s.heap)) (va_A ([wd_Ker cs hk kr (fun _ => none) kf ka (gKe pq pz tq rq), fm 13 (fTx cs tq TR TO TF TA), fm 13 (fRw cs rq RR RM RW RF RA RC), fm 8 (fPp cs pq PV)] : List va_W).flatten s.heap.size)) [.ref hk, .int p0, .int p1, .int p2, .int p3].toArray s (5 * ndS 13 tq + 4 * ndS 13 rq + ndS 13 RM) (9804 * ndS 13 tq + 342 * ndS 13 rq + 36864 * ndS 13 RM) A) (F0 m 125 ls []) := by
    intro  n_125
    induction n_125 with
    | zero =>
      intro ce_125 sl_125 pz_125 tq_125 rq_125 kf_125 ka_125 TR_125 TO_125 TF_125 TA_125 RR_125 RM_125 RW_125 RF_125 RA_125 RC_125 x125_6 H locs ls k125_0 k125_1 k125_2 k125_3 k125_4 k125_5 k125_6 k125_7 hm hw hl
      have lx125_6 := Int32.le_toInt x125_6
      have ux125_6 := Int32.toInt_lt x125_6
      have hki := k125_0
      have hrm := k125_1
      exact absurd hm (by omega)
    | succ n_125 ih125 =>
      intro ce_125 sl_125 pz_125 tq_125 rq_125 kf_125 ka_125 TR_125 TO_125 TF_125 TA_125 RR_125 RM_125 RW_125 RF_125 RA_125 RC_125 x125_6 H locs ls k125_0 k125_1 k125_2 k125_3 k125_4 k125_5 k125_6 k125_7 hm hw hl
      have lx125_6 := Int32.le_toInt x125_6
      have ux125_6 := Int32.toInt_lt x125_6
      have hki := k125_0
      have hrm := k125_1
      refine lv_iload S.x S.b d_Ker_boot_125 (lv_at hl 5 rfl) ?_
      refine lv_bipush (v := 13) S.x S.b d_Ker_boot_127 (by decide) ?_
      refine lv_icmp_ge (tgt := 160) S.x S.b d_Ker_boot_129 (by decide) (fun c1 => ?_) (fun c1 => ?_)
      · have nc1 : (13 : Int) ≤ x125_6.toInt := (i_le (x := 13) (y := x125_6)).mp c1
        refine lv_aload_n S.x S.b d_Ker_boot_160 rfl (lv_at hl 0 rfl) ?_
        refine px_get S k_Ker hT hw 0 0 2 (v := .ref (kr 2)) rfl rfl rfl (by decide) m2_222 d_Ker_boot_161 ?_
        refine lv_iconst (v := 0) S.x S.b d_Ker_boot_164 (by decide) ?_
        refine px_aald S hT hw 0 3 6 (n := 13) (f := pz_125) rfl rfl rfl (x := 0) (vp_in_iff.mpr (by constructor <;> omega)) d_Ker_boot_165 ?_
        refine lq_top (fun y3 hy3 => ?_)
        refine lq_ifnonnull (x := y3) (tgt := 173) S.x S.b d_Ker_boot_166 (by decide) (fun q5 c4 => ?_) (fun c4 => ?_)
        ·
          subst c4
          have nd0_c4 := nd_1 q5
          have hc7 := cl_nat (x := (0 : Int32)) (by first | exact oz_b1de7dbe7e cst0 | omega)
          have hi7 : (0 : Int32).toNatClampNeg < 13 := by first | exact oz_a63a387477 hc7 cst0 | omega
          have hr7 := hy3.symm
          refine lv_aload_n S.x S.b d_Ker_boot_173 rfl (lv_at hl 0 rfl) ?_
          refine px_get S k_Ker hT hw 0 0 2 (v := .ref (kr 2)) rfl rfl rfl (by decide) m2_222 d_Ker_boot_174 ?_
          refine lv_iconst (v := 0) S.x S.b d_Ker_boot_177 (by decide) ?_
          refine px_aaldS S hT hw 0 3 6 (n := 13) (f := pz_125) rfl rfl rfl (x := 0) (vp_in_iff.mpr (by constructor <;> omega)) (sk := q5) hr7 d_Ker_boot_178 ?_
          rcases hki.2.2.2 (0 : Int32).toNatClampNeg hi7 with hno | ⟨h9, e9, hcu8⟩ | ⟨h9, e9, hcu8⟩
          · rw [hno] at hr7; cases hr7
          ·
            cases (hr7.symm.trans e9)
            obtain ⟨j9, hp9, hj9, hjq9, hto9, hf09⟩ := hcu8.2
            have hw : pw D A s.heap _ _ [wd_Ker cs hk kr (fun _ => none) kf_125 ka_125 (gKe pq pz_125 tq_125 rq_125), fm 13 (fRw cs rq_125 RR_125 RM_125 RW_125 RF_125 RA_125 RC_125), fm 8 (fPp cs pq PV), fm 13 (fTx cs tq_125 TR_125 TO_125 TF_125 TA_125)] := hw.sub [0, 2, 3, 1] rfl rfl
            have hw : pw D A s.heap _ _ [wd_Ker cs hk kr (fun _ => none) kf_125 ka_125 (gKe pq pz_125 tq_125 rq_125), fm 13 (fRw cs rq_125 RR_125 RM_125 RW_125 RF_125 RA_125 RC_125), fm 8 (fPp cs pq PV), fo 13 (fTx cs tq_125 TR_125 TO_125 TF_125 TA_125) (0 : Int32).toNatClampNeg, wd_Txp cs q5 (TR_125 (0 : Int32).toNatClampNeg) (fun k => if k = 3 then (some hp9) else none) (TF_125 (0 : Int32).toNatClampNeg) (TA_125 (0 : Int32).toNatClampNeg) (fun _ _ => none)] := ftx_out (pr := [wd_Ker cs hk kr (fun _ => none) kf_125 ka_125 (gKe pq pz_125 tq_125 rq_125), fm 13 (fRw cs rq_125 RR_125 RM_125 RW_125 RF_125 RA_125 RC_125), fm 8 (fPp cs pq PV)]) hw hi7 hcu8.1 hto9
            have htn10 : TxN (0 : Int32).toNatClampNeg (TF_125 (0 : Int32).toNatClampNeg) (TA_125 (0 : Int32).toNatClampNeg) := hki.2.1 (0 : Int32).toNatClampNeg hi7 _ hcu8.1
            obtain ⟨lk, ⟨i2, i3⟩, ⟨i4, i5⟩, ⟨i6, i7⟩, i8, ⟨i9, i11⟩, i10, hrt⟩ := htn10.1
            have hid10 := htn10.2.1
            have hch10 := htn10.2.2
            unfold KcI at hch10
            refine px_get S k_Txp hT hw 4 0 18 (v := .int ((TF_125 (0 : Int32).toNatClampNeg) 18)) rfl rfl rfl (by decide) m6_139 d_Ker_boot_179 ?_
            have hw : pw D A s.heap _ _ [wd_Ker cs hk kr (fun _ => none) kf_125 ka_125 (gKe pq pz_125 tq_125 rq_125), fm 13 (fRw cs rq_125 RR_125 RM_125 RW_125 RF_125 RA_125 RC_125), fm 8 (fPp cs pq PV), fm 13 (fTx cs tq_125 TR_125 TO_125 TF_125 TA_125)] := ftx_back (pr := [wd_Ker cs hk kr (fun _ => none) kf_125 ka_125 (gKe pq pz_125 tq_125 rq_125), fm 13 (fRw cs rq_125 RR_125 RM_125 RW_125 RF_125 RA_125 RC_125), fm 8 (fPp cs pq PV)]) hw hi7 hcu8.1 hto9
            have hw : pw D A s.heap _ _ [wd_Ker cs hk kr (fun _ => none) kf_125 ka_125 (gKe pq pz_125 tq_125 rq_125), fm 13 (fTx cs tq_125 TR_125 TO_125 TF_125 TA_125), fm 13 (fRw cs rq_125 RR_125 RM_125 RW_125 RF_125 RA_125 RC_125), fm 8 (fPp cs pq PV)] := hw.sub [0, 3, 1, 2] rfl rfl
            exact pg_iret (v := ((TF_125 (0 : Int32).toNatClampNeg) 18)) S hr rfl hlk hAe hw (show ce_125 ≤ (5 * ndS 13 tq + 4 * ndS 13 rq + ndS 13 RM) from by first | exact oz_dca5c4e7e4 k125_6 | omega) (show sl_125 ≤ (9804 * ndS 13 tq + 342 * ndS 13 rq + 36864 * ndS 13 RM) from by first | exact oz_f7eb847e67 k125_7 | omega) (⟨pz_125, tq_125, rq_125, kf_125, ka_125, TR_125, TO_125, TF_125, TA_125, RR_125, RM_125, RW_125, RF_125, RA_125, RC_125, rfl, (show KnR pq PV pz_125 tq_125 rq_125 TF_125 TA_125 RF_125 from hki.rest), (show RmI rq_125 RM_125 from hrm), (show ce_125 + (5 * ndS 13 tq_125 + 4 * ndS 13 rq_125 + ndS 13 RM_125) ≤ 5 * ndS 13 tq + 4 * ndS 13 rq + ndS 13 RM from by first | exact k125_6 | omega), (show sl_125 + (9804 * ndS 13 tq_125 + 342 * ndS 13 rq_125 + 36864 * ndS 13 RM_125) ≤ 9804 * ndS 13 tq + 342 * ndS 13 rq + 36864 * ndS 13 RM from by first | exact k125_7 | omega)⟩) d_Ker_boot_182
          ·
            cases (hr7.symm.trans e9)
            obtain ⟨j11, hp11, hj11, hjq11, hto11⟩ := hcu8.2
            have hw : pw D A s.heap _ _ [wd_Ker cs hk kr (fun _ => none) kf_125 ka_125 (gKe pq pz_125 tq_125 rq_125), fm 13 (fTx cs tq_125 TR_125 TO_125 TF_125 TA_125), fm 8 (fPp cs pq PV), fm 13 (fRw cs rq_125 RR_125 RM_125 RW_125 RF_125 RA_125 RC_125)] := hw.sub [0, 1, 3, 2] rfl rfl
            have hw : pw D A s.heap _ _ [wd_Ker cs hk kr (fun _ => none) kf_125 ka_125 (gKe pq pz_125 tq_125 rq_125), fm 13 (fTx cs tq_125 TR_125 TO_125 TF_125 TA_125), fm 8 (fPp cs pq PV), fo 13 (fRw cs rq_125 RR_125 RM_125 RW_125 RF_125 RA_125 RC_125) (0 : Int32).toNatClampNeg, wd_Raw cs q5 (RR_125 (0 : Int32).toNatClampNeg) (fun k => if k = 2 then (RM_125 (0 : Int32).toNatClampNeg) else if k = 4 then (some ((PV j11).r 1)) else none) (RF_125 (0 : Int32).toNatClampNeg) (RA_125 (0 : Int32).toNatClampNeg) (fun _ _ => none), nA cs (RM_125 (0 : Int32).toNatClampNeg) 36864 (RC_125 (0 : Int32).toNatClampNeg)] := frw_out (pr := [wd_Ker cs hk kr (fun _ => none) kf_125 ka_125 (gKe pq pz_125 tq_125 rq_125), fm 13 (fTx cs tq_125 TR_125 TO_125 TF_125 TA_125), fm 8 (fPp cs pq PV)]) hw hi7 hcu8.1 hto11
            have hng12 := ndS_ge 13 RM_125 (0 : Int32).toNatClampNeg hi7
            have hrn12 : RwN (0 : Int32).toNatClampNeg (RF_125 (0 : Int32).toNatClampNeg) := hki.2.2.1 (0 : Int32).toNatClampNeg hi7 _ hcu8.1
            have hro12 := hrn12.1
            unfold RwO at hro12
            have hid12 := hrn12.2.1
            have hch12 := hrn12.2.2
            unfold KcI at hch12
            refine px_get S k_Raw hT hw 4 0 11 (v := .int ((RF_125 (0 : Int32).toNatClampNeg) 11)) rfl rfl rfl (by decide) m6_139 d_Ker_boot_179 ?_
            have hw : pw D A s.heap _ _ [wd_Ker cs hk kr (fun _ => none) kf_125 ka_125 (gKe pq pz_125 tq_125 rq_125), fm 13 (fTx cs tq_125 TR_125 TO_125 TF_125 TA_125), fm 8 (fPp cs pq PV), fm 13 (fRw cs rq_125 RR_125 RM_125 RW_125 RF_125 RA_125 RC_125)] := frw_back (pr := [wd_Ker cs hk kr (fun _ => none) kf_125 ka_125 (gKe pq pz_125 tq_125 rq_125), fm 13 (fTx cs tq_125 TR_125 TO_125 TF_125 TA_125), fm 8 (fPp cs pq PV)]) hw hi7 hcu8.1 hto11
            have hw : pw D A s.heap _ _ [wd_Ker cs hk kr (fun _ => none) kf_125 ka_125 (gKe pq pz_125 tq_125 rq_125), fm 13 (fTx cs tq_125 TR_125 TO_125 TF_125 TA_125), fm 13 (fRw cs rq_125 RR_125 RM_125 RW_125 RF_125 RA_125 RC_125), fm 8 (fPp cs pq PV)] := hw.sub [0, 1, 3, 2] rfl rfl
            exact pg_iret (v := ((RF_125 (0 : Int32).toNatClampNeg) 11)) S hr rfl hlk hAe hw (show ce_125 ≤ (5 * ndS 13 tq + 4 * ndS 13 rq + ndS 13 RM) from by first | exact oz_dca5c4e7e4 k125_6 | omega) (show sl_125 ≤ (9804 * ndS 13 tq + 342 * ndS 13 rq + 36864 * ndS 13 RM) from by first | exact oz_f7eb847e67 k125_7 | omega) (⟨pz_125, tq_125, rq_125, kf_125, ka_125, TR_125, TO_125, TF_125, TA_125, RR_125, RM_125, RW_125, RF_125, RA_125, RC_125, rfl, (show KnR pq PV pz_125 tq_125 rq_125 TF_125 TA_125 RF_125 from hki.rest), (show RmI rq_125 RM_125 from hrm), (show ce_125 + (5 * ndS 13 tq_125 + 4 * ndS 13 rq_125 + ndS 13 RM_125) ≤ 5 * ndS 13 tq + 4 * ndS 13 rq + ndS 13 RM from by first | exact k125_6 | omega), (show sl_125 + (9804 * ndS 13 tq_125 + 342 * ndS 13 rq_125 + 36864 * ndS 13 RM_125) ≤ 9804 * ndS 13 tq + 342 * ndS 13 rq + 36864 * ndS 13 RM from by first | exact k125_7 | omega)⟩) d_Ker_boot_182
        ·
          subst c4
          have nd0_c4 := nd_0
          have hc13 := cl_nat (x := (0 : Int32)) (by first | exact oz_b1de7dbe7e cst0 | omega)
          have hi13 : (0 : Int32).toNatClampNeg < 13 := by first | exact oz_a63a387477 hc13 cst0 | omega
          have hr13 := hy3.symm
          refine lv_iconst (v := (-1)) S.x S.b d_Ker_boot_169 (by decide) ?_
          refine lv_goto (tgt := 182) S.x S.b d_Ker_boot_170 (by decide) ?_
          exact pg_iret (v := (-1)) S hr rfl hlk hAe hw (show ce_125 ≤ (5 * ndS 13 tq + 4 * ndS 13 rq + ndS 13 RM) from by first | exact oz_dca5c4e7e4 k125_6 | omega) (show sl_125 ≤ (9804 * ndS 13 tq + 342 * ndS 13 rq + 36864 * ndS 13 RM) from by first | exact oz_f7eb847e67 k125_7 | omega) (⟨pz_125, tq_125, rq_125, kf_125, ka_125, TR_125, TO_125, TF_125, TA_125, RR_125, RM_125, RW_125, RF_125, RA_125, RC_125, rfl, (show KnR pq PV pz_125 tq_125 rq_125 TF_125 TA_125 RF_125 from hki.rest), (show RmI rq_125 RM_125 from hrm), (show ce_125 + (5 * ndS 13 tq_125 + 4 * ndS 13 rq_125 + ndS 13 RM_125) ≤ 5 * ndS 13 tq + 4 * ndS 13 rq + ndS 13 RM from by first | exact k125_6 | omega), (show sl_125 + (9804 * ndS 13 tq_125 + 342 * ndS 13 rq_125 + 36864 * ndS 13 RM_125) ≤ 9804 * ndS 13 tq + 342 * ndS 13 rq + 36864 * ndS 13 RM from by first | exact k125_7 | omega)⟩) d_Ker_boot_182
      · have nc1 : ¬ (13 : Int) ≤ x125_6.toInt := mt (i_le (x := 13) (y := x125_6)).mpr c1
        refine lv_aload_n S.x S.b d_Ker_boot_132 rfl (lv_at hl 0 rfl) ?_
        refine lv_iload S.x S.b d_Ker_boot_133 (lv_at hl 5 rfl) ?_
        refine px_calli (pr := []) (px_runV (As := [.int x125_6]) (rest := []) S (c_k_isRunning l D cs hk kr pq pz_125 tq_125 rq_125 kf_125 ka_125 TR_125 TO_125 TF_125 TA_125 RR_125 RM_125 RW_125 RF_125 RA_125 RC_125 PV x125_6  (show 0 ≤ x125_6.toInt from by first | exact k125_4 | omega) (show x125_6.toInt ≤ 12 from by first | exact oz_c745c762bb nc1 | omega) hki _) hT (pr := []) (pcs := [wd_Ker cs hk kr (fun _ => none) kf_125 ka_125 (gKe pq pz_125 tq_125 rq_125), fm 13 (fTx cs tq_125 TR_125 TO_125 TF_125 TA_125), fm 13 (fRw cs rq_125 RR_125 RM_125 RW_125 RF_125 RA_125 RC_125), fm 8 (fPp cs pq PV)]) hw px_X.tt (px_recv hT hw 0 0 rfl rfl rfl) m8_154 m8_151 m8_153 ms_6_1 m1_19 q_Ker_isRunning ⟨Nat.le_of_ble_eq_true rfl, Nat.le_of_ble_eq_true rfl⟩ hl.1 rfl (Nat.le_of_ble_eq_true rfl) d_Ker_boot_135 ⟨show ce_125 + 0 ≤ (5 * ndS 13 tq + 4 * ndS 13 rq + ndS 13 RM) from (by first | exact oz_3e0efcc333 k125_6 | omega), show sl_125 + 0 ≤ (9804 * ndS 13 tq + 342 * ndS 13 rq + 36864 * ndS 13 RM) from (by first | exact oz_93e1379802 k125_7 | omega)⟩) hw hA (fun v15 p14 H locs hp14 hw => ?_)
        obtain ⟨rfl, e16, e17⟩ := hp14
        have e16 := z_rng e16
        have e17 : NnP pz_125 x125_6 v15 := e17
        have hw : pw D A s.heap H locs [wd_Ker cs hk kr (fun _ => none) kf_125 ka_125 (gKe pq pz_125 tq_125 rq_125), fm 13 (fTx cs tq_125 TR_125 TO_125 TF_125 TA_125), fm 13 (fRw cs rq_125 RR_125 RM_125 RW_125 RF_125 RA_125 RC_125), fm 8 (fPp cs pq PV)] := hw
        have lv15 := Int32.le_toInt v15
        have uv15 := Int32.toInt_lt v15
        refine lv_if_eq (tgt := 154) S.x S.b d_Ker_boot_138 (by decide) (fun c18 => ?_) (fun c18 => ?_)
        · have nc18 : v15.toInt = (0 : Int) := (i_eq (x := v15) (y := 0)).mp c18
          obtain ⟨z20, ez20⟩ : ∃ y : Int32, y = x125_6 + 1 := ⟨_, rfl⟩
          have tz20 : z20.toInt = (x125_6.toInt + 1 + 2147483648) % 4294967296 - 2147483648 := by rw [ez20]; exact i_add x125_6 1
          have lz20 := Int32.le_toInt z20
          have uz20 := Int32.toInt_lt z20
          try replace tz20 : z20.toInt = x125_6.toInt + 1 := by omega
          refine lv_iinc (v := z20) (lv' := [(6, .int z20), (0, .ref hk), (1, .int p0), (2, .int p1), (3, .int p2), (4, .int p3)]) S.x S.b d_Ker_boot_154 hl (k := 5) rfl (by rw [ez20]; rfl) (by decide) rfl (fun ls hl => ?_)
          refine lv_goto (tgt := 125) S.x S.b d_Ker_boot_157 (by decide) ?_
          exact ih125 ce_125 sl_125 pz_125 tq_125 rq_125 kf_125 ka_125 TR_125 TO_125 TF_125 TA_125 RR_125 RM_125 RW_125 RF_125 RA_125 RC_125 z20 _ _ ls (show KnI pq PV pz_125 tq_125 rq_125 TO_125 TF_125 TA_125 RW_125 RF_125 from hki) (show RmI rq_125 RM_125 from hrm) (show (kf_125 8).toInt = p2.toInt from by first | exact k125_2 | omega) (show (kf_125 9).toInt = p3.toInt from by first | exact k125_3 | omega) (show 0 ≤ z20.toInt from by first | exact oz_ae613611c0 tz20 k125_4 | omega) (show z20.toInt ≤ 13 from by first | exact oz_d342e04a5c tz20 nc1 | omega) (show ce_125 + (5 * ndS 13 tq_125 + 4 * ndS 13 rq_125 + ndS 13 RM_125) ≤ 5 * ndS 13 tq + 4 * ndS 13 rq + ndS 13 RM from by first | exact k125_6 | omega) (show sl_125 + (9804 * ndS 13 tq_125 + 342 * ndS 13 rq_125 + 36864 * ndS 13 RM_125) ≤ 9804 * ndS 13 tq + 342 * ndS 13 rq + 36864 * ndS 13 RM from by first | exact k125_7 | omega) (show 13 - z20.toInt < (n_125 : Int) from by first | exact oz_6680d080b4 hm tz20 | omega) hw (lv_sub hl [1, 2, 3, 4, 5, 0] rfl)
        · have nc18 : ¬ v15.toInt = (0 : Int) := mt (i_eq (x := v15) (y := 0)).mpr c18
          refine lv_aload_n S.x S.b d_Ker_boot_141 rfl (lv_at hl 0 rfl) ?_
          refine px_get S k_Ker hT hw 0 0 2 (v := .ref (kr 2)) rfl rfl rfl (by decide) m2_222 d_Ker_boot_142 ?_
          refine lv_iload S.x S.b d_Ker_boot_145 (lv_at hl 5 rfl) ?_
          obtain ⟨q21, hr21⟩ := e17 (by omega)
          have hc21 := cl_nat (x := x125_6) (by first | exact k125_4 | omega)
          have hi21 : x125_6.toNatClampNeg < 13 := by first | exact oz_81bc16641b hc21 nc1 | omega
          refine px_aaldS S hT hw 0 3 6 (n := 13) (f := pz_125) rfl rfl rfl (x := x125_6) (vp_in_iff.mpr (by first | exact oz_10a7a22e11 k125_4 nc1 | (constructor <;> omega))) (sk := q21) hr21 d_Ker_boot_147 ?_
          refine lv_bipush (v := 6) S.x S.b d_Ker_boot_148 (by decide) ?_
          refine lv_iconst (v := 0) S.x S.b d_Ker_boot_150 (by decide) ?_
          rcases hki.2.2.2 x125_6.toNatClampNeg hi21 with hno | ⟨h9, e9, hcu22⟩ | ⟨h9, e9, hcu22⟩
          · rw [hno] at hr21; cases hr21
          ·
            cases (hr21.symm.trans e9)
            obtain ⟨j23, hp23, hj23, hjq23, hto23, hf023⟩ := hcu22.2
            have hw : pw D A s.heap _ _ [wd_Ker cs hk kr (fun _ => none) kf_125 ka_125 (gKe pq pz_125 tq_125 rq_125), fm 13 (fRw cs rq_125 RR_125 RM_125 RW_125 RF_125 RA_125 RC_125), fm 8 (fPp cs pq PV), fm 13 (fTx cs tq_125 TR_125 TO_125 TF_125 TA_125)] := hw.sub [0, 2, 3, 1] rfl rfl
            have hw : pw D A s.heap _ _ [wd_Ker cs hk kr (fun _ => none) kf_125 ka_125 (gKe pq pz_125 tq_125 rq_125), fm 13 (fRw cs rq_125 RR_125 RM_125 RW_125 RF_125 RA_125 RC_125), fm 8 (fPp cs pq PV), fo 13 (fTx cs tq_125 TR_125 TO_125 TF_125 TA_125) x125_6.toNatClampNeg, wd_Txp cs q21 (TR_125 x125_6.toNatClampNeg) (fun k => if k = 3 then (some hp23) else none) (TF_125 x125_6.toNatClampNeg) (TA_125 x125_6.toNatClampNeg) (fun _ _ => none)] := ftx_out (pr := [wd_Ker cs hk kr (fun _ => none) kf_125 ka_125 (gKe pq pz_125 tq_125 rq_125), fm 13 (fRw cs rq_125 RR_125 RM_125 RW_125 RF_125 RA_125 RC_125), fm 8 (fPp cs pq PV)]) hw hi21 hcu22.1 hto23
            have htn24 : TxN x125_6.toNatClampNeg (TF_125 x125_6.toNatClampNeg) (TA_125 x125_6.toNatClampNeg) := hki.2.1 x125_6.toNatClampNeg hi21 _ hcu22.1
            obtain ⟨lk, ⟨i2, i3⟩, ⟨i4, i5⟩, ⟨i6, i7⟩, i8, ⟨i9, i11⟩, i10, hrt⟩ := htn24.1
            have hid24 := htn24.2.1
            have hch24 := htn24.2.2
            unfold KcI at hch24
            refine px_callv (pr := [wd_Ker cs hk kr (fun _ => none) kf_125 ka_125 (gKe pq pz_125 tq_125 rq_125), fm 13 (fRw cs rq_125 RR_125 RM_125 RW_125 RF_125 RA_125 RC_125), fm 8 (fPp cs pq PV), fo 13 (fTx cs tq_125 TR_125 TO_125 TF_125 TA_125) x125_6.toNatClampNeg]) (px_runU (As := [.int 6, .int 0]) (rest := []) S (c_finish_Txp l D cs q21 (TR_125 x125_6.toNatClampNeg) (fun _ _ => none) hp23 (TF_125 x125_6.toNatClampNeg) (TA_125 x125_6.toNatClampNeg) 6 0  (show TxOk ((TF_125 x125_6.toNatClampNeg) 4) ((TF_125 x125_6.toNatClampNeg) 5) ((TF_125 x125_6.toNatClampNeg) 8) ((TF_125 x125_6.toNatClampNeg) 9) ((TF_125 x125_6.toNatClampNeg) 17) ((TF_125 x125_6.toNatClampNeg) 21) ((TA_125 x125_6.toNatClampNeg) 2) from ⟨(by first | exact lk | exact lk_eq lk (by omega) | exact lk_mk (by omega)), ⟨by omega, by omega⟩, ⟨by omega, by omega⟩, ⟨by omega, by omega⟩, by omega, ⟨by omega, by omega⟩, by omega, hrt⟩) _) hT (pr := [wd_Ker cs hk kr (fun _ => none) kf_125 ka_125 (gKe pq pz_125 tq_125 rq_125), fm 13 (fRw cs rq_125 RR_125 RM_125 RW_125 RF_125 RA_125 RC_125), fm 8 (fPp cs pq PV), fo 13 (fTx cs tq_125 TR_125 TO_125 TF_125 TA_125) x125_6.toNatClampNeg]) (pcs := [wd_Txp cs q21 (TR_125 x125_6.toNatClampNeg) (fun k => if k = 3 then (some hp23) else none) (TF_125 x125_6.toNatClampNeg) (TA_125 x125_6.toNatClampNeg) (fun _ _ => none)]) hw px_X.tt (C := "HomeSystem$TextProcess") (x := ⟨"HomeSystem$AnyProcess", "finish", "(II)V"⟩) (px_recv hT hw 4 0 rfl rfl rfl) m8_89 m8_84 m8_86 m8_85 m8_88 m1_33 rfl q_HomeSystem_AnyProcess_finish ⟨Nat.le_of_ble_eq_true rfl, Nat.le_of_ble_eq_true rfl⟩ hl.1 rfl (Nat.le_of_ble_eq_true rfl) d_Ker_boot_151 ⟨show ce_125 + 0 ≤ (5 * ndS 13 tq + 4 * ndS 13 rq + ndS 13 RM) from (by first | exact oz_3e0efcc333 k125_6 | omega), show sl_125 + 0 ≤ (9804 * ndS 13 tq + 342 * ndS 13 rq + 36864 * ndS 13 RM) from (by first | exact oz_93e1379802 k125_7 | omega)⟩) hw hA (fun p27 H locs hp27 hw => ?_)
            obtain ⟨f25, a26, rfl, h35, e29, e30, e31, e32, e33, e34⟩ := hp27
            obtain ⟨lk, ⟨i2, i3⟩, ⟨i4, i5⟩, ⟨i6, i7⟩, i8, ⟨i9, i11⟩, i10, hrt⟩ := h35
            have e29 : (f25 9).toInt = ((TF_125 x125_6.toNatClampNeg) 9).toInt := e29
            have e30 : (f25 17).toInt = ((TF_125 x125_6.toNatClampNeg) 17).toInt := e30
            have e31 : (f25 21).toInt = 0 := e31
            have e32 : (f25 15).toInt = ((TF_125 x125_6.toNatClampNeg) 15).toInt := e32
            have e33 : (f25 20).toInt = ((TF_125 x125_6.toNatClampNeg) 20).toInt := e33
            have e34 : R_finish_Txp (6 : Int32) (0 : Int32) (TF_125 x125_6.toNatClampNeg) (TA_125 x125_6.toNatClampNeg) f25 a26 := e34
            have hw : pw D A s.heap H locs [wd_Ker cs hk kr (fun _ => none) kf_125 ka_125 (gKe pq pz_125 tq_125 rq_125), fm 13 (fRw cs rq_125 RR_125 RM_125 RW_125 RF_125 RA_125 RC_125), fm 8 (fPp cs pq PV), fo 13 (fTx cs tq_125 TR_125 TO_125 TF_125 TA_125) x125_6.toNatClampNeg, wd_Txp cs q21 (TR_125 x125_6.toNatClampNeg) (fun k => if k = 3 then (some hp23) else none) f25 a26 (fun _ _ => none)] := hw
            obtain ⟨z36, ez36⟩ : ∃ y : Int32, y = x125_6 + 1 := ⟨_, rfl⟩
            have tz36 : z36.toInt = (x125_6.toInt + 1 + 2147483648) % 4294967296 - 2147483648 := by rw [ez36]; exact i_add x125_6 1
            have lz36 := Int32.le_toInt z36
            have uz36 := Int32.toInt_lt z36
            try replace tz36 : z36.toInt = x125_6.toInt + 1 := by omega
            refine lv_iinc (v := z36) (lv' := [(6, .int z36), (0, .ref hk), (1, .int p0), (2, .int p1), (3, .int p2), (4, .int p3)]) S.x S.b d_Ker_boot_154 hl (k := 5) rfl (by rw [ez36]; rfl) (by decide) rfl (fun ls hl => ?_)
            refine lv_goto (tgt := 125) S.x S.b d_Ker_boot_157 (by decide) ?_
            have hw := ftx_in0 (pr := [wd_Ker cs hk kr (fun _ => none) kf_125 ka_125 (gKe pq pz_125 tq_125 rq_125), fm 13 (fRw cs rq_125 RR_125 RM_125 RW_125 RF_125 RA_125 RC_125), fm 8 (fPp cs pq PV)]) hw hi21 hcu22.1 hto23
            obtain ⟨TF37, hu_TF37⟩ : ∃ y : Nat → Nat → Int32, y = va_up TF_125 x125_6.toNatClampNeg f25 := ⟨_, rfl⟩
            obtain ⟨TA38, hu_TA38⟩ : ∃ y : Nat → Nat → Nat → Int32, y = va_up TA_125 x125_6.toNatClampNeg a26 := ⟨_, rfl⟩
            have hw : pw D A s.heap _ _ [wd_Ker cs hk kr (fun _ => none) kf_125 ka_125 (gKe pq pz_125 tq_125 rq_125), fm 13 (fRw cs rq_125 RR_125 RM_125 RW_125 RF_125 RA_125 RC_125), fm 8 (fPp cs pq PV), fm 13 (fTx cs tq_125 TR_125 TO_125 TF37 TA38)] := (by rw [hu_TF37, hu_TA38]; exact hw)
            have hki : KnI pq PV pz_125 tq_125 rq_125 TO_125 TF37 TA38 RW_125 RF_125 := (by rw [hu_TF37, hu_TA38]; exact hki.upT (show TxN x125_6.toNatClampNeg f25 a26 from ⟨(show TxOk (f25 4) (f25 5) (f25 8) (f25 9) (f25 17) (f25 21) (a26 2) from ⟨(by first | exact lk | exact lk_eq lk (by omega) | exact lk_mk (by omega)), ⟨by omega, by omega⟩, ⟨by omega, by omega⟩, ⟨by omega, by omega⟩, by omega, ⟨by omega, by omega⟩, by omega, hrt⟩), (show ((f25 15).toInt) = ((x125_6.toNatClampNeg : Nat) : Int) from by omega), (show 0 ≤ (f25 20).toInt ∧ (f25 20).toInt ≤ 3 ∧ ((f25 20).toInt = 0 ∨ 3 * ((x125_6.toNatClampNeg : Nat) : Int) + (f25 20).toInt ≤ 12) from by omega)⟩))
            have hz21_TF37 : (TF37 x125_6.toNatClampNeg 21).toInt = (f25 21).toInt := (by rw [hu_TF37, va_up_s]; try rfl)
            have hw : pw D A s.heap _ _ [wd_Ker cs hk kr (fun _ => none) kf_125 ka_125 (gKe pq pz_125 tq_125 rq_125), fm 13 (fTx cs tq_125 TR_125 TO_125 TF37 TA38), fm 13 (fRw cs rq_125 RR_125 RM_125 RW_125 RF_125 RA_125 RC_125), fm 8 (fPp cs pq PV)] := hw.sub [0, 3, 1, 2] rfl rfl
            exact ih125 ce_125 sl_125 pz_125 tq_125 rq_125 kf_125 ka_125 TR_125 TO_125 TF37 TA38 RR_125 RM_125 RW_125 RF_125 RA_125 RC_125 z36 _ _ ls (show KnI pq PV pz_125 tq_125 rq_125 TO_125 TF37 TA38 RW_125 RF_125 from hki) (show RmI rq_125 RM_125 from hrm) (show (kf_125 8).toInt = p2.toInt from by first | exact k125_2 | omega) (show (kf_125 9).toInt = p3.toInt from by first | exact k125_3 | omega) (show 0 ≤ z36.toInt from by first | exact oz_ae613611c0 tz36 k125_4 | omega) (show z36.toInt ≤ 13 from by first | exact oz_d342e04a5c tz36 nc1 | omega) (show ce_125 + (5 * ndS 13 tq_125 + 4 * ndS 13 rq_125 + ndS 13 RM_125) ≤ 5 * ndS 13 tq + 4 * ndS 13 rq + ndS 13 RM from by first | exact k125_6 | omega) (show sl_125 + (9804 * ndS 13 tq_125 + 342 * ndS 13 rq_125 + 36864 * ndS 13 RM_125) ≤ 9804 * ndS 13 tq + 342 * ndS 13 rq + 36864 * ndS 13 RM from by first | exact k125_7 | omega) (show 13 - z36.toInt < (n_125 : Int) from by first | exact oz_6680d080b4 hm tz36 | omega) hw (lv_sub hl [1, 2, 3, 4, 5, 0] rfl)
          ·
            cases (hr21.symm.trans e9)
            obtain ⟨j39, hp39, hj39, hjq39, hto39⟩ := hcu22.2
            have hw : pw D A s.heap _ _ [wd_Ker cs hk kr (fun _ => none) kf_125 ka_125 (gKe pq pz_125 tq_125 rq_125), fm 13 (fTx cs tq_125 TR_125 TO_125 TF_125 TA_125), fm 8 (fPp cs pq PV), fm 13 (fRw cs rq_125 RR_125 RM_125 RW_125 RF_125 RA_125 RC_125)] := hw.sub [0, 1, 3, 2] rfl rfl
            have hw : pw D A s.heap _ _ [wd_Ker cs hk kr (fun _ => none) kf_125 ka_125 (gKe pq pz_125 tq_125 rq_125), fm 13 (fTx cs tq_125 TR_125 TO_125 TF_125 TA_125), fm 8 (fPp cs pq PV), fo 13 (fRw cs rq_125 RR_125 RM_125 RW_125 RF_125 RA_125 RC_125) x125_6.toNatClampNeg, wd_Raw cs q21 (RR_125 x125_6.toNatClampNeg) (fun k => if k = 2 then (RM_125 x125_6.toNatClampNeg) else if k = 4 then (some ((PV j39).r 1)) else none) (RF_125 x125_6.toNatClampNeg) (RA_125 x125_6.toNatClampNeg) (fun _ _ => none), nA cs (RM_125 x125_6.toNatClampNeg) 36864 (RC_125 x125_6.toNatClampNeg)] := frw_out (pr := [wd_Ker cs hk kr (fun _ => none) kf_125 ka_125 (gKe pq pz_125 tq_125 rq_125), fm 13 (fTx cs tq_125 TR_125 TO_125 TF_125 TA_125), fm 8 (fPp cs pq PV)]) hw hi21 hcu22.1 hto39
            have hng40 := ndS_ge 13 RM_125 x125_6.toNatClampNeg hi21
            have hrn40 : RwN x125_6.toNatClampNeg (RF_125 x125_6.toNatClampNeg) := hki.2.2.1 x125_6.toNatClampNeg hi21 _ hcu22.1
            have hro40 := hrn40.1
            unfold RwO at hro40
            have hid40 := hrn40.2.1
            have hch40 := hrn40.2.2
            unfold KcI at hch40
            have hw : pw D A s.heap _ _ [wd_Ker cs hk kr (fun _ => none) kf_125 ka_125 (gKe pq pz_125 tq_125 rq_125), fm 13 (fTx cs tq_125 TR_125 TO_125 TF_125 TA_125), fm 8 (fPp cs pq PV), fo 13 (fRw cs rq_125 RR_125 RM_125 RW_125 RF_125 RA_125 RC_125) x125_6.toNatClampNeg, nA cs (RM_125 x125_6.toNatClampNeg) 36864 (RC_125 x125_6.toNatClampNeg), wd_Raw cs q21 (RR_125 x125_6.toNatClampNeg) (fun k => if k = 2 then (RM_125 x125_6.toNatClampNeg) else if k = 4 then (some ((PV j39).r 1)) else none) (RF_125 x125_6.toNatClampNeg) (RA_125 x125_6.toNatClampNeg) (fun _ _ => none)] := hw.sub [0, 1, 2, 3, 5, 4] rfl rfl
            refine px_callv (pr := [wd_Ker cs hk kr (fun _ => none) kf_125 ka_125 (gKe pq pz_125 tq_125 rq_125), fm 13 (fTx cs tq_125 TR_125 TO_125 TF_125 TA_125), fm 8 (fPp cs pq PV), fo 13 (fRw cs rq_125 RR_125 RM_125 RW_125 RF_125 RA_125 RC_125) x125_6.toNatClampNeg, nA cs (RM_125 x125_6.toNatClampNeg) 36864 (RC_125 x125_6.toNatClampNeg)]) (px_runU (As := [.int 6, .int 0]) (rest := []) S (c_finish_Raw l D cs q21 (RR_125 x125_6.toNatClampNeg) (fun _ _ => none) (RM_125 x125_6.toNatClampNeg) (some ((PV j39).r 1)) (RF_125 x125_6.toNatClampNeg) (RA_125 x125_6.toNatClampNeg) 6 0   _) hT (pr := [wd_Ker cs hk kr (fun _ => none) kf_125 ka_125 (gKe pq pz_125 tq_125 rq_125), fm 13 (fTx cs tq_125 TR_125 TO_125 TF_125 TA_125), fm 8 (fPp cs pq PV), fo 13 (fRw cs rq_125 RR_125 RM_125 RW_125 RF_125 RA_125 RC_125) x125_6.toNatClampNeg, nA cs (RM_125 x125_6.toNatClampNeg) 36864 (RC_125 x125_6.toNatClampNeg)]) (pcs := [wd_Raw cs q21 (RR_125 x125_6.toNatClampNeg) (fun k => if k = 2 then (RM_125 x125_6.toNatClampNeg) else if k = 4 then (some ((PV j39).r 1)) else none) (RF_125 x125_6.toNatClampNeg) (RA_125 x125_6.toNatClampNeg) (fun _ _ => none)]) hw px_X.tt (C := "HomeSystem$RawProcess") (x := ⟨"HomeSystem$AnyProcess", "finish", "(II)V"⟩) (px_recv hT hw 5 0 rfl rfl rfl) m8_89 m8_84 m8_86 m8_85 m8_87 m1_33 rfl q_HomeSystem_AnyProcess_finish ⟨Nat.le_of_ble_eq_true rfl, Nat.le_of_ble_eq_true rfl⟩ hl.1 rfl (Nat.le_of_ble_eq_true rfl) d_Ker_boot_151 ⟨show ce_125 + 0 ≤ (5 * ndS 13 tq + 4 * ndS 13 rq + ndS 13 RM) from (by first | exact oz_3e0efcc333 k125_6 | omega), show sl_125 + 0 ≤ (9804 * ndS 13 tq + 342 * ndS 13 rq + 36864 * ndS 13 RM) from (by first | exact oz_93e1379802 k125_7 | omega)⟩) hw hA (fun p43 H locs hp43 hw => ?_)
            obtain ⟨f41, a42, rfl, e45, e46, e47, e48, e49, e50, e51⟩ := hp43
            have e45 : (f41 3).toInt = ((RF_125 x125_6.toNatClampNeg) 3).toInt := e45
            have e46 : (f41 7).toInt = ((RF_125 x125_6.toNatClampNeg) 7).toInt := e46
            have e47 : (f41 8).toInt = ((RF_125 x125_6.toNatClampNeg) 8).toInt := e47
            have e48 : (f41 10).toInt = ((RF_125 x125_6.toNatClampNeg) 10).toInt := e48
            have e49 : (f41 13).toInt = ((RF_125 x125_6.toNatClampNeg) 13).toInt := e49
            have e50 : (f41 14).toInt = 0 := e50
            have e51 : (f41 11).toInt = (6 : Int) := e51
            have hw : pw D A s.heap H locs [wd_Ker cs hk kr (fun _ => none) kf_125 ka_125 (gKe pq pz_125 tq_125 rq_125), fm 13 (fTx cs tq_125 TR_125 TO_125 TF_125 TA_125), fm 8 (fPp cs pq PV), fo 13 (fRw cs rq_125 RR_125 RM_125 RW_125 RF_125 RA_125 RC_125) x125_6.toNatClampNeg, nA cs (RM_125 x125_6.toNatClampNeg) 36864 (RC_125 x125_6.toNatClampNeg), wd_Raw cs q21 (RR_125 x125_6.toNatClampNeg) (fun k => if k = 2 then (RM_125 x125_6.toNatClampNeg) else if k = 4 then (some ((PV j39).r 1)) else none) f41 a42 (fun _ _ => none)] := hw
            obtain ⟨z52, ez52⟩ : ∃ y : Int32, y = x125_6 + 1 := ⟨_, rfl⟩
            have tz52 : z52.toInt = (x125_6.toInt + 1 + 2147483648) % 4294967296 - 2147483648 := by rw [ez52]; exact i_add x125_6 1
            have lz52 := Int32.le_toInt z52
            have uz52 := Int32.toInt_lt z52
            try replace tz52 : z52.toInt = x125_6.toInt + 1 := by omega
            refine lv_iinc (v := z52) (lv' := [(6, .int z52), (0, .ref hk), (1, .int p0), (2, .int p1), (3, .int p2), (4, .int p3)]) S.x S.b d_Ker_boot_154 hl (k := 5) rfl (by rw [ez52]; rfl) (by decide) rfl (fun ls hl => ?_)
            refine lv_goto (tgt := 125) S.x S.b d_Ker_boot_157 (by decide) ?_
            have hw : pw D A s.heap _ _ [wd_Ker cs hk kr (fun _ => none) kf_125 ka_125 (gKe pq pz_125 tq_125 rq_125), fm 13 (fTx cs tq_125 TR_125 TO_125 TF_125 TA_125), fm 8 (fPp cs pq PV), fo 13 (fRw cs rq_125 RR_125 RM_125 RW_125 RF_125 RA_125 RC_125) x125_6.toNatClampNeg, wd_Raw cs q21 (RR_125 x125_6.toNatClampNeg) (fun k => if k = 2 then (RM_125 x125_6.toNatClampNeg) else if k = 4 then (some ((PV j39).r 1)) else none) f41 a42 (fun _ _ => none), nA cs (RM_125 x125_6.toNatClampNeg) 36864 (RC_125 x125_6.toNatClampNeg)] := hw.sub [0, 1, 2, 3, 5, 4] rfl rfl
            have hw := frw_in0 (pr := [wd_Ker cs hk kr (fun _ => none) kf_125 ka_125 (gKe pq pz_125 tq_125 rq_125), fm 13 (fTx cs tq_125 TR_125 TO_125 TF_125 TA_125), fm 8 (fPp cs pq PV)]) hw hi21 hcu22.1 hto39
            obtain ⟨RM53, hu_RM53⟩ : ∃ y : Nat → Option Nat, y = va_up RM_125 x125_6.toNatClampNeg (RM_125 x125_6.toNatClampNeg) := ⟨_, rfl⟩
            obtain ⟨RF54, hu_RF54⟩ : ∃ y : Nat → Nat → Int32, y = va_up RF_125 x125_6.toNatClampNeg f41 := ⟨_, rfl⟩
            obtain ⟨RA55, hu_RA55⟩ : ∃ y : Nat → Nat → Nat → Int32, y = va_up RA_125 x125_6.toNatClampNeg a42 := ⟨_, rfl⟩
            obtain ⟨RC56, hu_RC56⟩ : ∃ y : Nat → Nat → Int32, y = va_up RC_125 x125_6.toNatClampNeg (RC_125 x125_6.toNatClampNeg) := ⟨_, rfl⟩
            have hw : pw D A s.heap _ _ [wd_Ker cs hk kr (fun _ => none) kf_125 ka_125 (gKe pq pz_125 tq_125 rq_125), fm 13 (fTx cs tq_125 TR_125 TO_125 TF_125 TA_125), fm 8 (fPp cs pq PV), fm 13 (fRw cs rq_125 RR_125 RM53 RW_125 RF54 RA55 RC56)] := (by rw [hu_RM53, hu_RF54, hu_RA55, hu_RC56]; exact hw)
            have hki : KnI pq PV pz_125 tq_125 rq_125 TO_125 TF_125 TA_125 RW_125 RF54 := (by rw [hu_RF54]; exact hki.upR (show RwN x125_6.toNatClampNeg f41 from ⟨(show (0 ≤ (f41 7).toInt ∧ (f41 7).toInt ≤ 1600) ∧ (0 ≤ (f41 10).toInt ∧ (f41 10).toInt + (f41 7).toInt ≤ 1600) ∧ ((f41 14).toInt = 0 ∨ (f41 14).toInt = 1) ∧ ((f41 14).toInt = 1 → 1 ≤ (f41 7).toInt) from by omega), (show ((f41 8).toInt) = ((x125_6.toNatClampNeg : Nat) : Int) from by omega), (show 0 ≤ (f41 13).toInt ∧ (f41 13).toInt ≤ 3 ∧ ((f41 13).toInt = 0 ∨ 3 * ((x125_6.toNatClampNeg : Nat) : Int) + (f41 13).toInt ≤ 12) from by omega)⟩))
            have hrm : RmI rq_125 RM53 := (by rw [hu_RM53]; exact hrm.up hcu22.1)
            have hnd_RM53 := ndS_up 13 RM_125 x125_6.toNatClampNeg (RM_125 x125_6.toNatClampNeg) hi21; rw [← hu_RM53] at hnd_RM53
            have hz14_RF54 : (RF54 x125_6.toNatClampNeg 14).toInt = (f41 14).toInt := (by rw [hu_RF54, va_up_s]; try rfl)
            have hw : pw D A s.heap _ _ [wd_Ker cs hk kr (fun _ => none) kf_125 ka_125 (gKe pq pz_125 tq_125 rq_125), fm 13 (fTx cs tq_125 TR_125 TO_125 TF_125 TA_125), fm 13 (fRw cs rq_125 RR_125 RM53 RW_125 RF54 RA55 RC56), fm 8 (fPp cs pq PV)] := hw.sub [0, 1, 3, 2] rfl rfl
            exact ih125 ce_125 sl_125 pz_125 tq_125 rq_125 kf_125 ka_125 TR_125 TO_125 TF_125 TA_125 RR_125 RM53 RW_125 RF54 RA55 RC56 z52 _ _ ls (show KnI pq PV pz_125 tq_125 rq_125 TO_125 TF_125 TA_125 RW_125 RF54 from hki) (show RmI rq_125 RM53 from hrm) (show (kf_125 8).toInt = p2.toInt from by first | exact k125_2 | omega) (show (kf_125 9).toInt = p3.toInt from by first | exact k125_3 | omega) (show 0 ≤ z52.toInt from by first | exact oz_ae613611c0 tz52 k125_4 | omega) (show z52.toInt ≤ 13 from by first | exact oz_d342e04a5c tz52 nc1 | omega) (show ce_125 + (5 * ndS 13 tq_125 + 4 * ndS 13 rq_125 + ndS 13 RM53) ≤ 5 * ndS 13 tq + 4 * ndS 13 rq + ndS 13 RM from by omega) (show sl_125 + (9804 * ndS 13 tq_125 + 342 * ndS 13 rq_125 + 36864 * ndS 13 RM53) ≤ 9804 * ndS 13 tq + 342 * ndS 13 rq + 36864 * ndS 13 RM from by omega) (show 13 - z52.toInt < (n_125 : Int) from by first | exact oz_6680d080b4 hm tz52 | omega) hw (lv_sub hl [1, 2, 3, 4, 5, 0] rfl)
  have J69 : ∀ (n_69 : Nat) (ce_69 sl_69 : Nat) (pz_69 : Nat → Option Nat) (tq_69 : Nat → Option Nat) (rq_69 : Nat → Option Nat) (kf_69 : Nat → Int32) (ka_69 : Nat → Nat → Int32) (TR_69 : Nat → Nat → Nat) (TO_69 : Nat → Option Nat) (TF_69 : Nat → Nat → Int32) (TA_69 : Nat → Nat → Nat → Int32) (RR_69 : Nat → Nat → Nat) (RM_69 : Nat → Option Nat) (RW_69 : Nat → Option Nat) (RF_69 : Nat → Nat → Int32) (RA_69 : Nat → Nat → Nat → Int32) (RC_69 : Nat → Nat → Int32) (x69_5 x69_6 : Int32) (H : Heap) (locs : List Loc) (ls : Array Slot), (KnI pq PV pz_69 tq_69 rq_69 TO_69 TF_69 TA_69 RW_69 RF_69) → (RoI ka_69) → (RmI rq_69 RM_69) → ((kf_69 8).toInt = p2.toInt) → ((kf_69 9).toInt = p3.toInt) → (0 ≤ x69_6.toInt) → (x69_6.toInt ≤ 1000000) → (ce_69 + (5 * ndS 13 tq_69 + 4 * ndS 13 rq_69 + ndS 13 RM_69) ≤ 5 * ndS 13 tq + 4 * ndS 13 rq + ndS 13 RM) → (sl_69 + (9804 * ndS 13 tq_69 + 342 * ndS 13 rq_69 + 36864 * ndS 13 RM_69) ≤ 9804 * ndS 13 tq + 342 * ndS 13 rq + 36864 * ndS 13 RM) → 1000000 - x69_6.toInt < (n_69 : Int) → pw D A s.heap H locs [wd_Ker cs hk kr (fun _ => none) kf_69 ka_69 (gKe pq pz_69 tq_69 rq_69), fm 13 (fTx cs tq_69 TR_69 TO_69 TF_69 TA_69), fm 13 (fRw cs rq_69 RR_69 RM_69 RW_69 RF_69 RA_69 RC_69), fm 8 (fPp cs pq PV)] → lv_has ls 8 [(0, .ref hk), (1, .int p0), (2, .int p1), (3, .int p2), (4, .int p3), (5, .int x69_5), (6, .int x69_6)] → W p l e { frames := 14, cells := (5 * ndS 13 tq + 4 * ndS 13 rq + ndS 13 RM), slots := (9804 * ndS 13 tq + 342 * ndS 13 rq + 36864 * ndS 13 RM), locals := 600 } s m [.ref hk, .int p0, .int p1, .int p2, .int p3].toArray below meth c H locs ce_69 sl_69 (MQ below (va_Qi (fun v ps => ∃ (pz' : Nat → Option Nat) (tq' : Nat → Option Nat) (rq' : Nat → Option Nat) (kf' : Nat → Int32) (ka' : Nat → Nat → Int32) (TR' : Nat → Nat → Nat) (TO' : Nat → Option Nat) (TF' : Nat → Nat → Int32) (TA' : Nat → Nat → Nat → Int32) (RR' : Nat → Nat → Nat) (RM' : Nat → Option Nat) (RW' : Nat → Option Nat) (RF' : Nat → Nat → Int32) (RA' : Nat → Nat → Nat → Int32) (RC' : Nat → Nat → Int32), (ps.1 = [wd_Ker cs hk kr (fun _ => none) kf' ka' (gKe pq pz' tq' rq'), fm 13 (fTx cs tq' TR' TO' TF' TA'), fm 13 (fRw cs rq' RR' RM' RW' RF' RA' RC'), fm 8 (fPp cs pq PV)]) ∧ (KnR pq PV pz' tq' rq' TF' TA' RF') ∧ (RmI rq' RM') ∧ (ps.2.1 + (5 * ndS 13 tq' + 4 * ndS 13 rq' + ndS 13 RM') ≤ 5 * ndS 13 tq + 4 * ndS 13 rq + ndS 13 RM) ∧ (ps.2.2 + (9804 * ndS 13 tq' + 342 * ndS 13 rq' + 36864 * ndS 13 RM') ≤ 9804 * ndS 13 tq + 342 * ndS 13 rq + 36864 * ndS 13 RM)) (pg_B D (va_A ([wd_Ker cs hk kr (fun _ => none) kf ka (gKe pq pz tq rq), fm 13 (fTx cs tq TR TO TF TA), fm 13 (fRw cs rq RR RM RW RF RA RC), fm 8 (fPp cs pq PV)] : List va_W).flatten s.heap.size) s.heap.size (tot s.heap)) (va_A ([wd_Ker cs hk kr (fun _ => none) kf ka (gKe pq pz tq rq), fm 13 (fTx cs tq TR TO TF TA), fm 13 (fRw cs rq RR RM RW RF RA RC), fm 8 (fPp cs pq PV)] : List va_W).flatten s.heap.size)) [.ref hk, .int p0, .int p1, .int p2, .int p3].toArray s (5 * ndS 13 tq + 4 * ndS 13 rq + ndS 13 RM) (9804 * ndS 13 tq + 342 * ndS 13 rq + 36864 * ndS 13 RM) A) (F0 m 69 ls []) := by
    intro  n_69
    induction n_69 with
    | zero =>
      intro ce_69 sl_69 pz_69 tq_69 rq_69 kf_69 ka_69 TR_69 TO_69 TF_69 TA_69 RR_69 RM_69 RW_69 RF_69 RA_69 RC_69 x69_5 x69_6 H locs ls k69_0 k69_1 k69_2 k69_3 k69_4 k69_5 k69_6 k69_7 k69_8 hm hw hl
      have lx69_5 := Int32.le_toInt x69_5
      have ux69_5 := Int32.toInt_lt x69_5
      have lx69_6 := Int32.le_toInt x69_6
      have ux69_6 := Int32.toInt_lt x69_6
      have hki := k69_0
      have hro := k69_1
      have hrm := k69_2
      exact absurd hm (by omega)
    | succ n_69 ih69 =>
      intro ce_69 sl_69 pz_69 tq_69 rq_69 kf_69 ka_69 TR_69 TO_69 TF_69 TA_69 RR_69 RM_69 RW_69 RF_69 RA_69 RC_69 x69_5 x69_6 H locs ls k69_0 k69_1 k69_2 k69_3 k69_4 k69_5 k69_6 k69_7 k69_8 hm hw hl
      have lx69_5 := Int32.le_toInt x69_5
      have ux69_5 := Int32.toInt_lt x69_5
      have lx69_6 := Int32.le_toInt x69_6
      have ux69_6 := Int32.toInt_lt x69_6
      have hki := k69_0
      have hro := k69_1
      have hrm := k69_2
      have J87 : ∀ (n_87 : Nat) (ce_87 sl_87 : Nat) (pz_87 : Nat → Option Nat) (tq_87 : Nat → Option Nat) (rq_87 : Nat → Option Nat) (kf_87 : Nat → Int32) (ka_87 : Nat → Nat → Int32) (TR_87 : Nat → Nat → Nat) (TO_87 : Nat → Option Nat) (TF_87 : Nat → Nat → Int32) (TA_87 : Nat → Nat → Nat → Int32) (RR_87 : Nat → Nat → Nat) (RM_87 : Nat → Option Nat) (RW_87 : Nat → Option Nat) (RF_87 : Nat → Nat → Int32) (RA_87 : Nat → Nat → Nat → Int32) (RC_87 : Nat → Nat → Int32) (x87_5 x87_6 x87_7 : Int32) (H : Heap) (locs : List Loc) (ls : Array Slot), (KnI pq PV pz_87 tq_87 rq_87 TO_87 TF_87 TA_87 RW_87 RF_87) → (RoI ka_87) → (RmI rq_87 RM_87) → ((kf_87 8).toInt = p2.toInt) → ((kf_87 9).toInt = p3.toInt) → (0 ≤ x87_7.toInt) → (x87_7.toInt ≤ 13) → (0 ≤ x87_6.toInt) → (x87_6.toInt ≤ 999999) → (1000000 - x87_6.toInt < (n_69 : Int) + 1) → (ce_87 + (5 * ndS 13 tq_87 + 4 * ndS 13 rq_87 + ndS 13 RM_87) ≤ 5 * ndS 13 tq + 4 * ndS 13 rq + ndS 13 RM) → (sl_87 + (9804 * ndS 13 tq_87 + 342 * ndS 13 rq_87 + 36864 * ndS 13 RM_87) ≤ 9804 * ndS 13 tq + 342 * ndS 13 rq + 36864 * ndS 13 RM) → 13 - x87_7.toInt < (n_87 : Int) → pw D A s.heap H locs [wd_Ker cs hk kr (fun _ => none) kf_87 ka_87 (gKe pq pz_87 tq_87 rq_87), fm 13 (fTx cs tq_87 TR_87 TO_87 TF_87 TA_87), fm 13 (fRw cs rq_87 RR_87 RM_87 RW_87 RF_87 RA_87 RC_87), fm 8 (fPp cs pq PV)] → lv_has ls 8 [(0, .ref hk), (1, .int p0), (2, .int p1), (3, .int p2), (4, .int p3), (5, .int x87_5), (6, .int x87_6), (7, .int x87_7)] → W p l e { frames := 14, cells := (5 * ndS 13 tq + 4 * ndS 13 rq + ndS 13 RM), slots := (9804 * ndS 13 tq + 342 * ndS 13 rq + 36864 * ndS 13 RM), locals := 600 } s m [.ref hk, .int p0, .int p1, .int p2, .int p3].toArray below meth c H locs ce_87 sl_87 (MQ below (va_Qi (fun v ps => ∃ (pz' : Nat → Option Nat) (tq' : Nat → Option Nat) (rq' : Nat → Option Nat) (kf' : Nat → Int32) (ka' : Nat → Nat → Int32) (TR' : Nat → Nat → Nat) (TO' : Nat → Option Nat) (TF' : Nat → Nat → Int32) (TA' : Nat → Nat → Nat → Int32) (RR' : Nat → Nat → Nat) (RM' : Nat → Option Nat) (RW' : Nat → Option Nat) (RF' : Nat → Nat → Int32) (RA' : Nat → Nat → Nat → Int32) (RC' : Nat → Nat → Int32), (ps.1 = [wd_Ker cs hk kr (fun _ => none) kf' ka' (gKe pq pz' tq' rq'), fm 13 (fTx cs tq' TR' TO' TF' TA'), fm 13 (fRw cs rq' RR' RM' RW' RF' RA' RC'), fm 8 (fPp cs pq PV)]) ∧ (KnR pq PV pz' tq' rq' TF' TA' RF') ∧ (RmI rq' RM') ∧ (ps.2.1 + (5 * ndS 13 tq' + 4 * ndS 13 rq' + ndS 13 RM') ≤ 5 * ndS 13 tq + 4 * ndS 13 rq + ndS 13 RM) ∧ (ps.2.2 + (9804 * ndS 13 tq' + 342 * ndS 13 rq' + 36864 * ndS 13 RM') ≤ 9804 * ndS 13 tq + 342 * ndS 13 rq + 36864 * ndS 13 RM)) (pg_B D (va_A ([wd_Ker cs hk kr (fun _ => none) kf ka (gKe pq pz tq rq), fm 13 (fTx cs tq TR TO TF TA), fm 13 (fRw cs rq RR RM RW RF RA RC), fm 8 (fPp cs pq PV)] : List va_W).flatten s.heap.size) s.heap.size (tot s.heap)) (va_A ([wd_Ker cs hk kr (fun _ => none) kf ka (gKe pq pz tq rq), fm 13 (fTx cs tq TR TO TF TA), fm 13 (fRw cs rq RR RM RW RF RA RC), fm 8 (fPp cs pq PV)] : List va_W).flatten s.heap.size)) [.ref hk, .int p0, .int p1, .int p2, .int p3].toArray s (5 * ndS 13 tq + 4 * ndS 13 rq + ndS 13 RM) (9804 * ndS 13 tq + 342 * ndS 13 rq + 36864 * ndS 13 RM) A) (F0 m 87 ls []) := by
        intro  n_87
        induction n_87 with
        | zero =>
          intro ce_87 sl_87 pz_87 tq_87 rq_87 kf_87 ka_87 TR_87 TO_87 TF_87 TA_87 RR_87 RM_87 RW_87 RF_87 RA_87 RC_87 x87_5 x87_6 x87_7 H locs ls k87_0 k87_1 k87_2 k87_3 k87_4 k87_5 k87_6 k87_7 k87_8 k87_9 k87_10 k87_11 hm hw hl
          have lx87_5 := Int32.le_toInt x87_5
          have ux87_5 := Int32.toInt_lt x87_5
          have lx87_6 := Int32.le_toInt x87_6
          have ux87_6 := Int32.toInt_lt x87_6
          have lx87_7 := Int32.le_toInt x87_7
          have ux87_7 := Int32.toInt_lt x87_7
          have hki := k87_0
          have hro := k87_1
          have hrm := k87_2
          exact absurd hm (by omega)
        | succ n_87 ih87 =>
          intro ce_87 sl_87 pz_87 tq_87 rq_87 kf_87 ka_87 TR_87 TO_87 TF_87 TA_87 RR_87 RM_87 RW_87 RF_87 RA_87 RC_87 x87_5 x87_6 x87_7 H locs ls k87_0 k87_1 k87_2 k87_3 k87_4 k87_5 k87_6 k87_7 k87_8 k87_9 k87_10 k87_11 hm hw hl
          have lx87_5 := Int32.le_toInt x87_5
          have ux87_5 := Int32.toInt_lt x87_5
          have lx87_6 := Int32.le_toInt x87_6
          have ux87_6 := Int32.toInt_lt x87_6
          have lx87_7 := Int32.le_toInt x87_7
          have ux87_7 := Int32.toInt_lt x87_7
          have hki := k87_0
          have hro := k87_1
          have hrm := k87_2
          refine lv_iload S.x S.b d_Ker_boot_87 (lv_at hl 7 rfl) ?_
          refine lv_bipush (v := 13) S.x S.b d_Ker_boot_89 (by decide) ?_
          refine lv_icmp_ge (tgt := 116) S.x S.b d_Ker_boot_91 (by decide) (fun c57 => ?_) (fun c57 => ?_)
          · have nc57 : (13 : Int) ≤ x87_7.toInt := (i_le (x := 13) (y := x87_7)).mp c57
            obtain ⟨z59, ez59⟩ : ∃ y : Int32, y = x87_6 + 1 := ⟨_, rfl⟩
            have tz59 : z59.toInt = (x87_6.toInt + 1 + 2147483648) % 4294967296 - 2147483648 := by rw [ez59]; exact i_add x87_6 1
            have lz59 := Int32.le_toInt z59
            have uz59 := Int32.toInt_lt z59
            try replace tz59 : z59.toInt = x87_6.toInt + 1 := by omega
            refine lv_iinc (v := z59) (lv' := [(6, .int z59), (0, .ref hk), (1, .int p0), (2, .int p1), (3, .int p2), (4, .int p3), (5, .int x87_5), (7, .int x87_7)]) S.x S.b d_Ker_boot_116 hl (k := 6) rfl (by rw [ez59]; rfl) (by decide) rfl (fun ls hl => ?_)
            refine lv_goto (tgt := 69) S.x S.b d_Ker_boot_119 (by decide) ?_
            exact ih69 ce_87 sl_87 pz_87 tq_87 rq_87 kf_87 ka_87 TR_87 TO_87 TF_87 TA_87 RR_87 RM_87 RW_87 RF_87 RA_87 RC_87 x87_5 z59 _ _ ls (show KnI pq PV pz_87 tq_87 rq_87 TO_87 TF_87 TA_87 RW_87 RF_87 from hki) (show RoI ka_87 from hro) (show RmI rq_87 RM_87 from hrm) (show (kf_87 8).toInt = p2.toInt from by first | exact k87_3 | omega) (show (kf_87 9).toInt = p3.toInt from by first | exact k87_4 | omega) (show 0 ≤ z59.toInt from by first | exact oz_ae613611c0 tz59 k87_7 | omega) (show z59.toInt ≤ 1000000 from by first | exact oz_2466c61d38 tz59 k87_8 | omega) (show ce_87 + (5 * ndS 13 tq_87 + 4 * ndS 13 rq_87 + ndS 13 RM_87) ≤ 5 * ndS 13 tq + 4 * ndS 13 rq + ndS 13 RM from by first | exact k87_10 | omega) (show sl_87 + (9804 * ndS 13 tq_87 + 342 * ndS 13 rq_87 + 36864 * ndS 13 RM_87) ≤ 9804 * ndS 13 tq + 342 * ndS 13 rq + 36864 * ndS 13 RM from by first | exact k87_11 | omega) (show 1000000 - z59.toInt < (n_69 : Int) from by first | exact oz_dcf11d8045 k87_9 tz59 | omega) hw (lv_sub hl [1, 2, 3, 4, 5, 6, 0] rfl)
          · have nc57 : ¬ (13 : Int) ≤ x87_7.toInt := mt (i_le (x := 13) (y := x87_7)).mpr c57
            refine lv_iload S.x S.b d_Ker_boot_94 (lv_at hl 5 rfl) ?_
            refine lv_aload_n S.x S.b d_Ker_boot_96 rfl (lv_at hl 0 rfl) ?_
            refine lv_aload_n S.x S.b d_Ker_boot_97 rfl (lv_at hl 0 rfl) ?_
            refine px_get S k_Ker hT hw 0 0 2 (v := .ref (kr 2)) rfl rfl rfl (by decide) m2_222 d_Ker_boot_98 ?_
            refine lv_iload S.x S.b d_Ker_boot_101 (lv_at hl 7 rfl) ?_
            refine px_aald S hT hw 0 3 6 (n := 13) (f := pz_87) rfl rfl rfl (x := x87_7) (vp_in_iff.mpr (by first | exact oz_10a7a22e11 k87_5 nc57 | (constructor <;> omega))) d_Ker_boot_103 ?_
            refine lq_top (fun y60 hy60 => ?_)
            have hc61 := cl_nat (x := x87_7) (by first | exact k87_5 | omega)
            have hi61 : x87_7.toNatClampNeg < 13 := by first | exact oz_81bc16641b hc61 nc57 | omega
            rcases hki.2.2.2 x87_7.toNatClampNeg hi61 with hno | ⟨q61, e9, hcu61⟩ | ⟨q61, e9, hcu61⟩
            ·
              have hy9 := hy60.trans hno
              subst hy9
              refine pg_calli (pr := []) (px_runV (As := [.null]) (rest := [.int x87_5]) S (c_k_advance_n l D cs hk kr pq kf_87 PV pz_87 tq_87 rq_87 ka_87 TR_87 TO_87 TF_87 TA_87 RR_87 RM_87 RW_87 RF_87 RA_87 RC_87   hki hro hrm _ _) hT (pr := []) (pcs := [wd_Ker cs hk kr (fun _ => none) kf_87 ka_87 (gKe pq pz_87 tq_87 rq_87), fm 13 (fTx cs tq_87 TR_87 TO_87 TF_87 TA_87), fm 13 (fRw cs rq_87 RR_87 RM_87 RW_87 RF_87 RA_87 RC_87), fm 8 (fPp cs pq PV)]) hw (px_X.tot px_X.tt) (px_recv hT hw 0 0 rfl rfl rfl) m8_52 m8_49 m8_51 ms_5_7 m1_19 q_Ker_advance ⟨Nat.le_of_ble_eq_true rfl, Nat.le_of_ble_eq_true rfl⟩ hl.1 rfl (Nat.le_of_ble_eq_true rfl) d_Ker_boot_104 ⟨show ce_87 + (5 * ndS 13 tq_87 + 4 * ndS 13 rq_87 + ndS 13 RM_87) ≤ (5 * ndS 13 tq + 4 * ndS 13 rq + ndS 13 RM) from (by first | exact oz_8d9c241760 k87_10 | omega), show sl_87 + (9804 * ndS 13 tq_87 + 342 * ndS 13 rq_87 + 36864 * ndS 13 RM_87) ≤ (9804 * ndS 13 tq + 342 * ndS 13 rq + 36864 * ndS 13 RM) from (by first | exact oz_7d29951c31 k87_11 | omega)⟩) hw hA (fun v91 p90 k92 n93 H locs hp90 hw => ?_)
              dsimp only at hp90
              obtain ⟨pz76, tq77, rq78, ka79, TR80, TO81, TF82, TA83, RR84, RM85, RW86, RF87, RA88, RC89, rfl, e94, e95, e96, e97, e98, e99⟩ := hp90
              have e94 := z_rng e94
              have e95 : KnI pq PV pz76 tq77 rq78 TO81 TF82 TA83 RW86 RF87 := e95
              have hki := e95
              have e96 : RoI ka79 := e96
              have hro := e96
              have e97 : RmI rq78 RM85 := e97
              have hrm := e97
              have e98 : k92 + (5 * ndS 13 tq77 + 4 * ndS 13 rq78 + ndS 13 RM85) ≤ 5 * ndS 13 tq_87 + 4 * ndS 13 rq_87 + ndS 13 RM_87 := e98
              have e99 : n93 + (9804 * ndS 13 tq77 + 342 * ndS 13 rq78 + 36864 * ndS 13 RM85) ≤ 9804 * ndS 13 tq_87 + 342 * ndS 13 rq_87 + 36864 * ndS 13 RM_87 := e99
              have hw : pw D A s.heap H locs [wd_Ker cs hk kr (fun _ => none) kf_87 ka79 (gKe pq pz76 tq77 rq78), fm 13 (fTx cs tq77 TR80 TO81 TF82 TA83), fm 13 (fRw cs rq78 RR84 RM85 RW86 RF87 RA88 RC89), fm 8 (fPp cs pq PV)] := hw
              have lv91 := Int32.le_toInt v91
              have uv91 := Int32.toInt_lt v91
              refine lv_ior S.x S.b d_Ker_boot_107 ?_
              refine lv_topi (fun z100 ez100 => ?_)
              have lz100 := Int32.le_toInt z100
              have uz100 := Int32.toInt_lt z100
              refine lv_istore (lv' := [(5, .int z100), (0, .ref hk), (1, .int p0), (2, .int p1), (3, .int p2), (4, .int p3), (6, .int x87_6), (7, .int x87_7)]) S.x S.b d_Ker_boot_108 hl (by decide) rfl (fun ls hl => ?_)
              obtain ⟨z101, ez101⟩ : ∃ y : Int32, y = x87_7 + 1 := ⟨_, rfl⟩
              have tz101 : z101.toInt = (x87_7.toInt + 1 + 2147483648) % 4294967296 - 2147483648 := by rw [ez101]; exact i_add x87_7 1
              have lz101 := Int32.le_toInt z101
              have uz101 := Int32.toInt_lt z101
              try replace tz101 : z101.toInt = x87_7.toInt + 1 := by omega
              refine lv_iinc (v := z101) (lv' := [(7, .int z101), (5, .int z100), (0, .ref hk), (1, .int p0), (2, .int p1), (3, .int p2), (4, .int p3), (6, .int x87_6)]) S.x S.b d_Ker_boot_110 hl (k := 7) rfl (by rw [ez101]; rfl) (by decide) rfl (fun ls hl => ?_)
              refine lv_goto (tgt := 87) S.x S.b d_Ker_boot_113 (by decide) ?_
              exact ih87 (ce_87 + k92) (sl_87 + n93) pz76 tq77 rq78 kf_87 ka79 TR80 TO81 TF82 TA83 RR84 RM85 RW86 RF87 RA88 RC89 z100 x87_6 z101 _ _ ls (show KnI pq PV pz76 tq77 rq78 TO81 TF82 TA83 RW86 RF87 from hki) (show RoI ka79 from hro) (show RmI rq78 RM85 from hrm) (show (kf_87 8).toInt = p2.toInt from by first | exact k87_3 | omega) (show (kf_87 9).toInt = p3.toInt from by first | exact k87_4 | omega) (show 0 ≤ z101.toInt from by first | exact oz_ae613611c0 tz101 k87_5 | omega) (show z101.toInt ≤ 13 from by first | exact oz_d342e04a5c tz101 nc57 | omega) (show 0 ≤ x87_6.toInt from by first | exact k87_7 | omega) (show x87_6.toInt ≤ 999999 from by first | exact k87_8 | omega) (show 1000000 - x87_6.toInt < (n_69 : Int) + 1 from by first | exact k87_9 | omega) (show (ce_87 + k92) + (5 * ndS 13 tq77 + 4 * ndS 13 rq78 + ndS 13 RM85) ≤ 5 * ndS 13 tq + 4 * ndS 13 rq + ndS 13 RM from by first | exact oz_09730e4356 k87_10 e98 | omega) (show (sl_87 + n93) + (9804 * ndS 13 tq77 + 342 * ndS 13 rq78 + 36864 * ndS 13 RM85) ≤ 9804 * ndS 13 tq + 342 * ndS 13 rq + 36864 * ndS 13 RM from by first | exact oz_0d0bbc14c3 k87_11 e99 | omega) (show 13 - z101.toInt < (n_87 : Int) from by first | exact oz_6680d080b4 hm tz101 | omega) hw (lv_sub hl [2, 3, 4, 5, 6, 1, 7, 0] rfl)
            ·
              have hy9 := hy60.trans e9
              subst hy9
              obtain ⟨j102, hp102, hj102, hjq102, hto102, hf0102⟩ := hcu61.2
              refine pg_calli (pr := []) (px_runV (As := [.ref q61]) (rest := [.int x87_5]) S (c_k_advance_T l D cs hk kr pq kf_87 PV pz_87 tq_87 rq_87 ka_87 TR_87 TO_87 TF_87 TA_87 RR_87 RM_87 RW_87 RF_87 RA_87 RC_87  x87_7.toNatClampNeg q61 (show 0 ≤ (kf_87 8).toInt from by first | exact oz_f3ebed1ad0 k87_3 g2 | omega) (show (kf_87 8).toInt ≤ 100 from by first | exact oz_b2552476a0 k87_3 g3 | omega) hki hro hrm hi61 hcu61 _ _) hT (pr := []) (pcs := [wd_Ker cs hk kr (fun _ => none) kf_87 ka_87 (gKe pq pz_87 tq_87 rq_87), fm 13 (fTx cs tq_87 TR_87 TO_87 TF_87 TA_87), fm 13 (fRw cs rq_87 RR_87 RM_87 RW_87 RF_87 RA_87 RC_87), fm 8 (fPp cs pq PV)]) hw (px_X.tot px_X.tt) (px_recv hT hw 0 0 rfl rfl rfl) m8_52 m8_49 m8_51 ms_5_7 m1_19 q_Ker_advance ⟨Nat.le_of_ble_eq_true rfl, Nat.le_of_ble_eq_true rfl⟩ hl.1 rfl (Nat.le_of_ble_eq_true rfl) d_Ker_boot_104 ⟨show ce_87 + (5 * ndS 13 tq_87 + 4 * ndS 13 rq_87 + ndS 13 RM_87) ≤ (5 * ndS 13 tq + 4 * ndS 13 rq + ndS 13 RM) from (by first | exact oz_8d9c241760 k87_10 | omega), show sl_87 + (9804 * ndS 13 tq_87 + 342 * ndS 13 rq_87 + 36864 * ndS 13 RM_87) ≤ (9804 * ndS 13 tq + 342 * ndS 13 rq + 36864 * ndS 13 RM) from (by first | exact oz_7d29951c31 k87_11 | omega)⟩) hw hA (fun v132 p131 k133 n134 H locs hp131 hw => ?_)
              dsimp only at hp131
              obtain ⟨pz117, tq118, rq119, ka120, TR121, TO122, TF123, TA124, RR125, RM126, RW127, RF128, RA129, RC130, rfl, e135, e136, e137, e138, e139, e140⟩ := hp131
              have e135 := z_rng e135
              have e136 : KnI pq PV pz117 tq118 rq119 TO122 TF123 TA124 RW127 RF128 := e136
              have hki := e136
              have e137 : RoI ka120 := e137
              have hro := e137
              have e138 : RmI rq119 RM126 := e138
              have hrm := e138
              have e139 : k133 + (5 * ndS 13 tq118 + 4 * ndS 13 rq119 + ndS 13 RM126) ≤ 5 * ndS 13 tq_87 + 4 * ndS 13 rq_87 + ndS 13 RM_87 := e139
              have e140 : n134 + (9804 * ndS 13 tq118 + 342 * ndS 13 rq119 + 36864 * ndS 13 RM126) ≤ 9804 * ndS 13 tq_87 + 342 * ndS 13 rq_87 + 36864 * ndS 13 RM_87 := e140
              have hw : pw D A s.heap H locs [wd_Ker cs hk kr (fun _ => none) kf_87 ka120 (gKe pq pz117 tq118 rq119), fm 13 (fTx cs tq118 TR121 TO122 TF123 TA124), fm 13 (fRw cs rq119 RR125 RM126 RW127 RF128 RA129 RC130), fm 8 (fPp cs pq PV)] := hw
              have lv132 := Int32.le_toInt v132
              have uv132 := Int32.toInt_lt v132
              refine lv_ior S.x S.b d_Ker_boot_107 ?_
              refine lv_topi (fun z141 ez141 => ?_)
              have lz141 := Int32.le_toInt z141
              have uz141 := Int32.toInt_lt z141
              refine lv_istore (lv' := [(5, .int z141), (0, .ref hk), (1, .int p0), (2, .int p1), (3, .int p2), (4, .int p3), (6, .int x87_6), (7, .int x87_7)]) S.x S.b d_Ker_boot_108 hl (by decide) rfl (fun ls hl => ?_)
              obtain ⟨z142, ez142⟩ : ∃ y : Int32, y = x87_7 + 1 := ⟨_, rfl⟩
              have tz142 : z142.toInt = (x87_7.toInt + 1 + 2147483648) % 4294967296 - 2147483648 := by rw [ez142]; exact i_add x87_7 1
              have lz142 := Int32.le_toInt z142
              have uz142 := Int32.toInt_lt z142
              try replace tz142 : z142.toInt = x87_7.toInt + 1 := by omega
              refine lv_iinc (v := z142) (lv' := [(7, .int z142), (5, .int z141), (0, .ref hk), (1, .int p0), (2, .int p1), (3, .int p2), (4, .int p3), (6, .int x87_6)]) S.x S.b d_Ker_boot_110 hl (k := 7) rfl (by rw [ez142]; rfl) (by decide) rfl (fun ls hl => ?_)
              refine lv_goto (tgt := 87) S.x S.b d_Ker_boot_113 (by decide) ?_
              exact ih87 (ce_87 + k133) (sl_87 + n134) pz117 tq118 rq119 kf_87 ka120 TR121 TO122 TF123 TA124 RR125 RM126 RW127 RF128 RA129 RC130 z141 x87_6 z142 _ _ ls (show KnI pq PV pz117 tq118 rq119 TO122 TF123 TA124 RW127 RF128 from hki) (show RoI ka120 from hro) (show RmI rq119 RM126 from hrm) (show (kf_87 8).toInt = p2.toInt from by first | exact k87_3 | omega) (show (kf_87 9).toInt = p3.toInt from by first | exact k87_4 | omega) (show 0 ≤ z142.toInt from by first | exact oz_ae613611c0 tz142 k87_5 | omega) (show z142.toInt ≤ 13 from by first | exact oz_d342e04a5c tz142 nc57 | omega) (show 0 ≤ x87_6.toInt from by first | exact k87_7 | omega) (show x87_6.toInt ≤ 999999 from by first | exact k87_8 | omega) (show 1000000 - x87_6.toInt < (n_69 : Int) + 1 from by first | exact k87_9 | omega) (show (ce_87 + k133) + (5 * ndS 13 tq118 + 4 * ndS 13 rq119 + ndS 13 RM126) ≤ 5 * ndS 13 tq + 4 * ndS 13 rq + ndS 13 RM from by first | exact oz_09730e4356 k87_10 e139 | omega) (show (sl_87 + n134) + (9804 * ndS 13 tq118 + 342 * ndS 13 rq119 + 36864 * ndS 13 RM126) ≤ 9804 * ndS 13 tq + 342 * ndS 13 rq + 36864 * ndS 13 RM from by first | exact oz_0d0bbc14c3 k87_11 e140 | omega) (show 13 - z142.toInt < (n_87 : Int) from by first | exact oz_6680d080b4 hm tz142 | omega) hw (lv_sub hl [2, 3, 4, 5, 6, 1, 7, 0] rfl)
            ·
              have hy9 := hy60.trans e9
              subst hy9
              obtain ⟨j143, hp143, hj143, hjq143, hto143⟩ := hcu61.2
              refine pg_calli (pr := []) (px_runV (As := [.ref q61]) (rest := [.int x87_5]) S (c_k_advance_R l D cs hk kr pq kf_87 PV pz_87 tq_87 rq_87 ka_87 TR_87 TO_87 TF_87 TA_87 RR_87 RM_87 RW_87 RF_87 RA_87 RC_87  x87_7.toNatClampNeg q61 (show 0 ≤ (kf_87 8).toInt from by first | exact oz_f3ebed1ad0 k87_3 g2 | omega) (show (kf_87 8).toInt ≤ 100 from by first | exact oz_b2552476a0 k87_3 g3 | omega) hki hro hrm hi61 hcu61 _ _) hT (pr := []) (pcs := [wd_Ker cs hk kr (fun _ => none) kf_87 ka_87 (gKe pq pz_87 tq_87 rq_87), fm 13 (fTx cs tq_87 TR_87 TO_87 TF_87 TA_87), fm 13 (fRw cs rq_87 RR_87 RM_87 RW_87 RF_87 RA_87 RC_87), fm 8 (fPp cs pq PV)]) hw (px_X.tot px_X.tt) (px_recv hT hw 0 0 rfl rfl rfl) m8_52 m8_49 m8_51 ms_5_7 m1_19 q_Ker_advance ⟨Nat.le_of_ble_eq_true rfl, Nat.le_of_ble_eq_true rfl⟩ hl.1 rfl (Nat.le_of_ble_eq_true rfl) d_Ker_boot_104 ⟨show ce_87 + (5 * ndS 13 tq_87 + 4 * ndS 13 rq_87 + ndS 13 RM_87) ≤ (5 * ndS 13 tq + 4 * ndS 13 rq + ndS 13 RM) from (by first | exact oz_8d9c241760 k87_10 | omega), show sl_87 + (9804 * ndS 13 tq_87 + 342 * ndS 13 rq_87 + 36864 * ndS 13 RM_87) ≤ (9804 * ndS 13 tq + 342 * ndS 13 rq + 36864 * ndS 13 RM) from (by first | exact oz_7d29951c31 k87_11 | omega)⟩) hw hA (fun v173 p172 k174 n175 H locs hp172 hw => ?_)
              dsimp only at hp172
              obtain ⟨pz158, tq159, rq160, ka161, TR162, TO163, TF164, TA165, RR166, RM167, RW168, RF169, RA170, RC171, rfl, e176, e177, e178, e179, e180, e181⟩ := hp172
              have e176 := z_rng e176
              have e177 : KnI pq PV pz158 tq159 rq160 TO163 TF164 TA165 RW168 RF169 := e177
              have hki := e177
              have e178 : RoI ka161 := e178
              have hro := e178
              have e179 : RmI rq160 RM167 := e179
              have hrm := e179
              have e180 : k174 + (5 * ndS 13 tq159 + 4 * ndS 13 rq160 + ndS 13 RM167) ≤ 5 * ndS 13 tq_87 + 4 * ndS 13 rq_87 + ndS 13 RM_87 := e180
              have e181 : n175 + (9804 * ndS 13 tq159 + 342 * ndS 13 rq160 + 36864 * ndS 13 RM167) ≤ 9804 * ndS 13 tq_87 + 342 * ndS 13 rq_87 + 36864 * ndS 13 RM_87 := e181
              have hw : pw D A s.heap H locs [wd_Ker cs hk kr (fun _ => none) kf_87 ka161 (gKe pq pz158 tq159 rq160), fm 13 (fTx cs tq159 TR162 TO163 TF164 TA165), fm 13 (fRw cs rq160 RR166 RM167 RW168 RF169 RA170 RC171), fm 8 (fPp cs pq PV)] := hw
              have lv173 := Int32.le_toInt v173
              have uv173 := Int32.toInt_lt v173
              refine lv_ior S.x S.b d_Ker_boot_107 ?_
              refine lv_topi (fun z182 ez182 => ?_)
              have lz182 := Int32.le_toInt z182
              have uz182 := Int32.toInt_lt z182
              refine lv_istore (lv' := [(5, .int z182), (0, .ref hk), (1, .int p0), (2, .int p1), (3, .int p2), (4, .int p3), (6, .int x87_6), (7, .int x87_7)]) S.x S.b d_Ker_boot_108 hl (by decide) rfl (fun ls hl => ?_)
              obtain ⟨z183, ez183⟩ : ∃ y : Int32, y = x87_7 + 1 := ⟨_, rfl⟩
              have tz183 : z183.toInt = (x87_7.toInt + 1 + 2147483648) % 4294967296 - 2147483648 := by rw [ez183]; exact i_add x87_7 1
              have lz183 := Int32.le_toInt z183
              have uz183 := Int32.toInt_lt z183
              try replace tz183 : z183.toInt = x87_7.toInt + 1 := by omega
              refine lv_iinc (v := z183) (lv' := [(7, .int z183), (5, .int z182), (0, .ref hk), (1, .int p0), (2, .int p1), (3, .int p2), (4, .int p3), (6, .int x87_6)]) S.x S.b d_Ker_boot_110 hl (k := 7) rfl (by rw [ez183]; rfl) (by decide) rfl (fun ls hl => ?_)
              refine lv_goto (tgt := 87) S.x S.b d_Ker_boot_113 (by decide) ?_
              exact ih87 (ce_87 + k174) (sl_87 + n175) pz158 tq159 rq160 kf_87 ka161 TR162 TO163 TF164 TA165 RR166 RM167 RW168 RF169 RA170 RC171 z182 x87_6 z183 _ _ ls (show KnI pq PV pz158 tq159 rq160 TO163 TF164 TA165 RW168 RF169 from hki) (show RoI ka161 from hro) (show RmI rq160 RM167 from hrm) (show (kf_87 8).toInt = p2.toInt from by first | exact k87_3 | omega) (show (kf_87 9).toInt = p3.toInt from by first | exact k87_4 | omega) (show 0 ≤ z183.toInt from by first | exact oz_ae613611c0 tz183 k87_5 | omega) (show z183.toInt ≤ 13 from by first | exact oz_d342e04a5c tz183 nc57 | omega) (show 0 ≤ x87_6.toInt from by first | exact k87_7 | omega) (show x87_6.toInt ≤ 999999 from by first | exact k87_8 | omega) (show 1000000 - x87_6.toInt < (n_69 : Int) + 1 from by first | exact k87_9 | omega) (show (ce_87 + k174) + (5 * ndS 13 tq159 + 4 * ndS 13 rq160 + ndS 13 RM167) ≤ 5 * ndS 13 tq + 4 * ndS 13 rq + ndS 13 RM from by first | exact oz_09730e4356 k87_10 e180 | omega) (show (sl_87 + n175) + (9804 * ndS 13 tq159 + 342 * ndS 13 rq160 + 36864 * ndS 13 RM167) ≤ 9804 * ndS 13 tq + 342 * ndS 13 rq + 36864 * ndS 13 RM from by first | exact oz_0d0bbc14c3 k87_11 e181 | omega) (show 13 - z183.toInt < (n_87 : Int) from by first | exact oz_6680d080b4 hm tz183 | omega) hw (lv_sub hl [2, 3, 4, 5, 6, 1, 7, 0] rfl)
      refine lv_iload S.x S.b d_Ker_boot_69 (lv_at hl 6 rfl) ?_
      refine lv_ldc (v := 1000000) S.x S.b S.own (S.w m8_48) d_Ker_boot_71 ?_
      refine lv_icmp_ge (tgt := 122) S.x S.b d_Ker_boot_73 (by decide) (fun c184 => ?_) (fun c184 => ?_)
      · have nc184 : (1000000 : Int) ≤ x69_6.toInt := (i_le (x := 1000000) (y := x69_6)).mp c184
        refine lv_iconst (v := 0) S.x S.b d_Ker_boot_122 (by decide) ?_
        refine lv_istore (lv' := [(6, .int 0), (0, .ref hk), (1, .int p0), (2, .int p1), (3, .int p2), (4, .int p3), (5, .int x69_5)]) S.x S.b d_Ker_boot_123 hl (by decide) rfl (fun ls hl => ?_)
        exact J125 ((13 - (0 : Int)).toNat + 1) ce_69 sl_69 pz_69 tq_69 rq_69 kf_69 ka_69 TR_69 TO_69 TF_69 TA_69 RR_69 RM_69 RW_69 RF_69 RA_69 RC_69 (0 : Int32) _ _ ls (show KnI pq PV pz_69 tq_69 rq_69 TO_69 TF_69 TA_69 RW_69 RF_69 from hki) (show RmI rq_69 RM_69 from hrm) (show (kf_69 8).toInt = p2.toInt from by first | exact k69_3 | omega) (show (kf_69 9).toInt = p3.toInt from by first | exact k69_4 | omega) (show 0 ≤ (0 : Int) from by first | exact oz_5a341f00aa | omega) (show (0 : Int) ≤ 13 from by first | exact oz_fc8b4ec74a | omega) (show ce_69 + (5 * ndS 13 tq_69 + 4 * ndS 13 rq_69 + ndS 13 RM_69) ≤ 5 * ndS 13 tq + 4 * ndS 13 rq + ndS 13 RM from by first | exact k69_7 | omega) (show sl_69 + (9804 * ndS 13 tq_69 + 342 * ndS 13 rq_69 + 36864 * ndS 13 RM_69) ≤ 9804 * ndS 13 tq + 342 * ndS 13 rq + 36864 * ndS 13 RM from by first | exact k69_8 | omega) (show 13 - (0 : Int) < ((((13 - (0 : Int)).toNat + 1 : Nat) : Int) : Int) from by first | exact oz_natlt | omega) hw (lv_sub hl [1, 2, 3, 4, 5, 0] rfl)
      · have nc184 : ¬ (1000000 : Int) ≤ x69_6.toInt := mt (i_le (x := 1000000) (y := x69_6)).mpr c184
        refine lv_iload S.x S.b d_Ker_boot_76 (lv_at hl 5 rfl) ?_
        refine lv_if_eq (tgt := 122) S.x S.b d_Ker_boot_78 (by decide) (fun c186 => ?_) (fun c186 => ?_)
        · have nc186 : x69_5.toInt = (0 : Int) := (i_eq (x := x69_5) (y := 0)).mp c186
          refine lv_iconst (v := 0) S.x S.b d_Ker_boot_122 (by decide) ?_
          refine lv_istore (lv' := [(6, .int 0), (0, .ref hk), (1, .int p0), (2, .int p1), (3, .int p2), (4, .int p3), (5, .int x69_5)]) S.x S.b d_Ker_boot_123 hl (by decide) rfl (fun ls hl => ?_)
          exact J125 ((13 - (0 : Int)).toNat + 1) ce_69 sl_69 pz_69 tq_69 rq_69 kf_69 ka_69 TR_69 TO_69 TF_69 TA_69 RR_69 RM_69 RW_69 RF_69 RA_69 RC_69 (0 : Int32) _ _ ls (show KnI pq PV pz_69 tq_69 rq_69 TO_69 TF_69 TA_69 RW_69 RF_69 from hki) (show RmI rq_69 RM_69 from hrm) (show (kf_69 8).toInt = p2.toInt from by first | exact k69_3 | omega) (show (kf_69 9).toInt = p3.toInt from by first | exact k69_4 | omega) (show 0 ≤ (0 : Int) from by first | exact oz_5a341f00aa | omega) (show (0 : Int) ≤ 13 from by first | exact oz_fc8b4ec74a | omega) (show ce_69 + (5 * ndS 13 tq_69 + 4 * ndS 13 rq_69 + ndS 13 RM_69) ≤ 5 * ndS 13 tq + 4 * ndS 13 rq + ndS 13 RM from by first | exact k69_7 | omega) (show sl_69 + (9804 * ndS 13 tq_69 + 342 * ndS 13 rq_69 + 36864 * ndS 13 RM_69) ≤ 9804 * ndS 13 tq + 342 * ndS 13 rq + 36864 * ndS 13 RM from by first | exact k69_8 | omega) (show 13 - (0 : Int) < ((((13 - (0 : Int)).toNat + 1 : Nat) : Int) : Int) from by first | exact oz_natlt | omega) hw (lv_sub hl [1, 2, 3, 4, 5, 0] rfl)
        · have nc186 : ¬ x69_5.toInt = (0 : Int) := mt (i_eq (x := x69_5) (y := 0)).mpr c186
          refine lv_iconst (v := 0) S.x S.b d_Ker_boot_81 (by decide) ?_
          refine lv_istore (lv' := [(5, .int 0), (0, .ref hk), (1, .int p0), (2, .int p1), (3, .int p2), (4, .int p3), (6, .int x69_6)]) S.x S.b d_Ker_boot_82 hl (by decide) rfl (fun ls hl => ?_)
          refine lv_iconst (v := 0) S.x S.b d_Ker_boot_84 (by decide) ?_
          refine lv_istore (lv' := [(7, .int 0), (5, .int 0), (0, .ref hk), (1, .int p0), (2, .int p1), (3, .int p2), (4, .int p3), (6, .int x69_6)]) S.x S.b d_Ker_boot_85 hl (by decide) rfl (fun ls hl => ?_)
          exact J87 ((13 - (0 : Int)).toNat + 1) ce_69 sl_69 pz_69 tq_69 rq_69 kf_69 ka_69 TR_69 TO_69 TF_69 TA_69 RR_69 RM_69 RW_69 RF_69 RA_69 RC_69 (0 : Int32) x69_6 (0 : Int32) _ _ ls (show KnI pq PV pz_69 tq_69 rq_69 TO_69 TF_69 TA_69 RW_69 RF_69 from hki) (show RoI ka_69 from hro) (show RmI rq_69 RM_69 from hrm) (show (kf_69 8).toInt = p2.toInt from by first | exact k69_3 | omega) (show (kf_69 9).toInt = p3.toInt from by first | exact k69_4 | omega) (show 0 ≤ (0 : Int) from by first | exact oz_5a341f00aa | omega) (show (0 : Int) ≤ 13 from by first | exact oz_fc8b4ec74a | omega) (show 0 ≤ x69_6.toInt from by first | exact k69_5 | omega) (show x69_6.toInt ≤ 999999 from by first | exact oz_b28ddce073 nc184 | omega) (show 1000000 - x69_6.toInt < (n_69 : Int) + 1 from by first | exact oz_9e74bf7961 hm | omega) (show ce_69 + (5 * ndS 13 tq_69 + 4 * ndS 13 rq_69 + ndS 13 RM_69) ≤ 5 * ndS 13 tq + 4 * ndS 13 rq + ndS 13 RM from by first | exact k69_7 | omega) (show sl_69 + (9804 * ndS 13 tq_69 + 342 * ndS 13 rq_69 + 36864 * ndS 13 RM_69) ≤ 9804 * ndS 13 tq + 342 * ndS 13 rq + 36864 * ndS 13 RM from by first | exact k69_8 | omega) (show 13 - (0 : Int) < ((((13 - (0 : Int)).toNat + 1 : Nat) : Int) : Int) from by first | exact oz_natlt | omega) hw (lv_sub hl [2, 3, 4, 5, 6, 1, 7, 0] rfl)
  have J30 : ∀ (n_30 : Nat) (ce_30 sl_30 : Nat) (pz_30 : Nat → Option Nat) (tq_30 : Nat → Option Nat) (rq_30 : Nat → Option Nat) (kf_30 : Nat → Int32) (ka_30 : Nat → Nat → Int32) (TR_30 : Nat → Nat → Nat) (TO_30 : Nat → Option Nat) (TF_30 : Nat → Nat → Int32) (TA_30 : Nat → Nat → Nat → Int32) (RR_30 : Nat → Nat → Nat) (RM_30 : Nat → Option Nat) (RW_30 : Nat → Option Nat) (RF_30 : Nat → Nat → Int32) (RA_30 : Nat → Nat → Nat → Int32) (RC_30 : Nat → Nat → Int32) (x30_5 : Int32) (H : Heap) (locs : List Loc) (ls : Array Slot), (KnR pq PV pz_30 tq_30 rq_30 TF_30 TA_30 RF_30) → (RoI ka_30) → (RmI rq_30 RM_30) → (PsZ pz_30 x30_5.toInt) → ((kf_30 8).toInt = p2.toInt) → ((kf_30 9).toInt = p3.toInt) → (0 ≤ x30_5.toInt) → (x30_5.toInt ≤ 13) → (ce_30 + (5 * ndS 13 tq_30 + 4 * ndS 13 rq_30 + ndS 13 RM_30) ≤ 5 * ndS 13 tq + 4 * ndS 13 rq + ndS 13 RM) → (sl_30 + (9804 * ndS 13 tq_30 + 342 * ndS 13 rq_30 + 36864 * ndS 13 RM_30) ≤ 9804 * ndS 13 tq + 342 * ndS 13 rq + 36864 * ndS 13 RM) → 13 - x30_5.toInt < (n_30 : Int) → pw D A s.heap H locs [wd_Ker cs hk kr (fun _ => none) kf_30 ka_30 (gKe pq pz_30 tq_30 rq_30), fm 13 (fTx cs tq_30 TR_30 TO_30 TF_30 TA_30), fm 13 (fRw cs rq_30 RR_30 RM_30 RW_30 RF_30 RA_30 RC_30), fm 8 (fPp cs pq PV)] → lv_has ls 8 [(0, .ref hk), (1, .int p0), (2, .int p1), (3, .int p2), (4, .int p3), (5, .int x30_5)] → W p l e { frames := 14, cells := (5 * ndS 13 tq + 4 * ndS 13 rq + ndS 13 RM), slots := (9804 * ndS 13 tq + 342 * ndS 13 rq + 36864 * ndS 13 RM), locals := 600 } s m [.ref hk, .int p0, .int p1, .int p2, .int p3].toArray below meth c H locs ce_30 sl_30 (MQ below (va_Qi (fun v ps => ∃ (pz' : Nat → Option Nat) (tq' : Nat → Option Nat) (rq' : Nat → Option Nat) (kf' : Nat → Int32) (ka' : Nat → Nat → Int32) (TR' : Nat → Nat → Nat) (TO' : Nat → Option Nat) (TF' : Nat → Nat → Int32) (TA' : Nat → Nat → Nat → Int32) (RR' : Nat → Nat → Nat) (RM' : Nat → Option Nat) (RW' : Nat → Option Nat) (RF' : Nat → Nat → Int32) (RA' : Nat → Nat → Nat → Int32) (RC' : Nat → Nat → Int32), (ps.1 = [wd_Ker cs hk kr (fun _ => none) kf' ka' (gKe pq pz' tq' rq'), fm 13 (fTx cs tq' TR' TO' TF' TA'), fm 13 (fRw cs rq' RR' RM' RW' RF' RA' RC'), fm 8 (fPp cs pq PV)]) ∧ (KnR pq PV pz' tq' rq' TF' TA' RF') ∧ (RmI rq' RM') ∧ (ps.2.1 + (5 * ndS 13 tq' + 4 * ndS 13 rq' + ndS 13 RM') ≤ 5 * ndS 13 tq + 4 * ndS 13 rq + ndS 13 RM) ∧ (ps.2.2 + (9804 * ndS 13 tq' + 342 * ndS 13 rq' + 36864 * ndS 13 RM') ≤ 9804 * ndS 13 tq + 342 * ndS 13 rq + 36864 * ndS 13 RM)) (pg_B D (va_A ([wd_Ker cs hk kr (fun _ => none) kf ka (gKe pq pz tq rq), fm 13 (fTx cs tq TR TO TF TA), fm 13 (fRw cs rq RR RM RW RF RA RC), fm 8 (fPp cs pq PV)] : List va_W).flatten s.heap.size) s.heap.size (tot s.heap)) (va_A ([wd_Ker cs hk kr (fun _ => none) kf ka (gKe pq pz tq rq), fm 13 (fTx cs tq TR TO TF TA), fm 13 (fRw cs rq RR RM RW RF RA RC), fm 8 (fPp cs pq PV)] : List va_W).flatten s.heap.size)) [.ref hk, .int p0, .int p1, .int p2, .int p3].toArray s (5 * ndS 13 tq + 4 * ndS 13 rq + ndS 13 RM) (9804 * ndS 13 tq + 342 * ndS 13 rq + 36864 * ndS 13 RM) A) (F0 m 30 ls []) := by
    intro  n_30
    induction n_30 with
    | zero =>
      intro ce_30 sl_30 pz_30 tq_30 rq_30 kf_30 ka_30 TR_30 TO_30 TF_30 TA_30 RR_30 RM_30 RW_30 RF_30 RA_30 RC_30 x30_5 H locs ls k30_0 k30_1 k30_2 k30_3 k30_4 k30_5 k30_6 k30_7 k30_8 k30_9 hm hw hl
      have lx30_5 := Int32.le_toInt x30_5
      have ux30_5 := Int32.toInt_lt x30_5
      have hki := k30_0
      have hro := k30_1
      have hrm := k30_2
      have hpz9 := k30_3
      exact absurd hm (by omega)
    | succ n_30 ih30 =>
      intro ce_30 sl_30 pz_30 tq_30 rq_30 kf_30 ka_30 TR_30 TO_30 TF_30 TA_30 RR_30 RM_30 RW_30 RF_30 RA_30 RC_30 x30_5 H locs ls k30_0 k30_1 k30_2 k30_3 k30_4 k30_5 k30_6 k30_7 k30_8 k30_9 hm hw hl
      have lx30_5 := Int32.le_toInt x30_5
      have ux30_5 := Int32.toInt_lt x30_5
      have hki := k30_0
      have hro := k30_1
      have hrm := k30_2
      have hpz9 := k30_3
      refine lv_iload S.x S.b d_Ker_boot_30 (lv_at hl 5 rfl) ?_
      refine lv_bipush (v := 13) S.x S.b d_Ker_boot_32 (by decide) ?_
      refine lv_icmp_ge (tgt := 51) S.x S.b d_Ker_boot_34 (by decide) (fun c188 => ?_) (fun c188 => ?_)
      · have nc188 : (13 : Int) ≤ x30_5.toInt := (i_le (x := 13) (y := x30_5)).mp c188
        refine lv_aload_n S.x S.b d_Ker_boot_51 rfl (lv_at hl 0 rfl) ?_
        have hki : KnI pq PV pz_30 tq_30 rq_30 TO_30 TF_30 TA_30 RW_30 RF_30 := hki.run (fun i9 q9 => hpz9 i9 (by omega))
        refine lv_iconst (v := 0) S.x S.b d_Ker_boot_52 (by decide) ?_
        refine lv_aload_n S.x S.b d_Ker_boot_53 rfl (lv_at hl 0 rfl) ?_
        refine px_get S k_Ker hT hw 0 0 0 (v := .ref (kr 0)) rfl rfl rfl (by decide) m2_218 d_Ker_boot_54 ?_
        refine lv_iload_n S.x S.b d_Ker_boot_57 rfl (lv_at hl 1 rfl) ?_
        refine px_aaldS S hT hw 0 1 5 (n := 8) (f := pq) rfl rfl rfl (x := p0) (vp_in_iff.mpr (by first | exact oz_3789b25239 g0 g1 | (constructor <;> omega))) (sk := hp) hpq0 d_Ker_boot_58 ?_
        refine lv_iload_n S.x S.b d_Ker_boot_59 rfl (lv_at hl 2 rfl) ?_
        refine pg_callv (pr := []) (px_runV (As := [.int 0, .ref hp, .int p1]) (rest := []) S (c_k_begin l D cs hk kr pq kf_30 PV pz_30 tq_30 rq_30 ka_30 TR_30 TO_30 TF_30 TA_30 RR_30 RM_30 RW_30 RF_30 RA_30 RC_30 0 p1 p0.toNatClampNeg hp (show 0 ≤ (0 : Int) from by first | exact oz_5a341f00aa | omega) (show (0 : Int) ≤ 12 from by first | exact oz_b6f6076676 | omega) (show 0 ≤ (kf_30 8).toInt from by first | exact oz_f3ebed1ad0 k30_4 g2 | omega) (show (kf_30 8).toInt ≤ 100 from by first | exact oz_b2552476a0 k30_4 g3 | omega) hki hro hrm hi0 hpq0 _ _) hT (pr := []) (pcs := [wd_Ker cs hk kr (fun _ => none) kf_30 ka_30 (gKe pq pz_30 tq_30 rq_30), fm 13 (fTx cs tq_30 TR_30 TO_30 TF_30 TA_30), fm 13 (fRw cs rq_30 RR_30 RM_30 RW_30 RF_30 RA_30 RC_30), fm 8 (fPp cs pq PV)]) hw (px_X.tot px_X.tt) (px_recv hT hw 0 0 rfl rfl rfl) m6_115 m6_112 m6_114 ms_5_5 m1_19 q_Ker_begin ⟨Nat.le_of_ble_eq_true rfl, Nat.le_of_ble_eq_true rfl⟩ hl.1 rfl (Nat.le_of_ble_eq_true rfl) d_Ker_boot_60 ⟨show ce_30 + (5 * ndS 13 tq_30 + 4 * ndS 13 rq_30 + ndS 13 RM_30) ≤ (5 * ndS 13 tq + 4 * ndS 13 rq + ndS 13 RM) from (by first | exact oz_8d9c241760 k30_8 | omega), show sl_30 + (9804 * ndS 13 tq_30 + 342 * ndS 13 rq_30 + 36864 * ndS 13 RM_30) ≤ (9804 * ndS 13 tq + 342 * ndS 13 rq + 36864 * ndS 13 RM) from (by first | exact oz_7d29951c31 k30_9 | omega)⟩) hw hA (fun p218 k220 n221 H locs hp218 hw => ?_)
        dsimp only at hp218
        obtain ⟨pz204, tq205, rq206, ka207, TR208, TO209, TF210, TA211, RR212, RM213, RW214, RF215, RA216, RC217, rfl, e222, e223, e224, e225, e226, e227, e228⟩ := hp218
        have e222 : KpQ (0 : Int32).toNatClampNeg tq_30 TO_30 rq_30 RW_30 tq205 TO209 rq206 RW214 := e222
        have hcl9 := cl_nat (x := 0) (by omega)
        have e223 : KpG (0 : Int32).toNatClampNeg RF_30 RF215 := e223
        have e224 : KnI pq PV pz204 tq205 rq206 TO209 TF210 TA211 RW214 RF215 := e224
        have hki := e224
        have e225 : RoI ka207 := e225
        have hro := e225
        have e226 : RmI rq206 RM213 := e226
        have hrm := e226
        have e227 : k220 + (5 * ndS 13 tq205 + 4 * ndS 13 rq206 + ndS 13 RM213) ≤ 5 * ndS 13 tq_30 + 4 * ndS 13 rq_30 + ndS 13 RM_30 := e227
        have e228 : n221 + (9804 * ndS 13 tq205 + 342 * ndS 13 rq206 + 36864 * ndS 13 RM213) ≤ 9804 * ndS 13 tq_30 + 342 * ndS 13 rq_30 + 36864 * ndS 13 RM_30 := e228
        have hw : pw D A s.heap H locs [wd_Ker cs hk kr (fun _ => none) kf_30 ka207 (gKe pq pz204 tq205 rq206), fm 13 (fTx cs tq205 TR208 TO209 TF210 TA211), fm 13 (fRw cs rq206 RR212 RM213 RW214 RF215 RA216 RC217), fm 8 (fPp cs pq PV)] := hw
        refine lv_iconst (v := 1) S.x S.b d_Ker_boot_63 (by decide) ?_
        refine lv_istore (lv' := [(5, .int 1), (0, .ref hk), (1, .int p0), (2, .int p1), (3, .int p2), (4, .int p3)]) S.x S.b d_Ker_boot_64 hl (by decide) rfl (fun ls hl => ?_)
        refine lv_iconst (v := 0) S.x S.b d_Ker_boot_66 (by decide) ?_
        refine lv_istore (lv' := [(6, .int 0), (5, .int 1), (0, .ref hk), (1, .int p0), (2, .int p1), (3, .int p2), (4, .int p3)]) S.x S.b d_Ker_boot_67 hl (by decide) rfl (fun ls hl => ?_)
        exact J69 ((1000000 - (0 : Int)).toNat + 1) (ce_30 + k220) (sl_30 + n221) pz204 tq205 rq206 kf_30 ka207 TR208 TO209 TF210 TA211 RR212 RM213 RW214 RF215 RA216 RC217 (1 : Int32) (0 : Int32) _ _ ls (show KnI pq PV pz204 tq205 rq206 TO209 TF210 TA211 RW214 RF215 from hki) (show RoI ka207 from hro) (show RmI rq206 RM213 from hrm) (show (kf_30 8).toInt = p2.toInt from by first | exact k30_4 | omega) (show (kf_30 9).toInt = p3.toInt from by first | exact k30_5 | omega) (show 0 ≤ (0 : Int) from by first | exact oz_5a341f00aa | omega) (show (0 : Int) ≤ 1000000 from by first | exact oz_302d31b646 | omega) (show (ce_30 + k220) + (5 * ndS 13 tq205 + 4 * ndS 13 rq206 + ndS 13 RM213) ≤ 5 * ndS 13 tq + 4 * ndS 13 rq + ndS 13 RM from by first | exact oz_09730e4356 k30_8 e227 | omega) (show (sl_30 + n221) + (9804 * ndS 13 tq205 + 342 * ndS 13 rq206 + 36864 * ndS 13 RM213) ≤ 9804 * ndS 13 tq + 342 * ndS 13 rq + 36864 * ndS 13 RM from by first | exact oz_0d0bbc14c3 k30_9 e228 | omega) (show 1000000 - (0 : Int) < ((((1000000 - (0 : Int)).toNat + 1 : Nat) : Int) : Int) from by first | exact oz_natlt | omega) hw (lv_sub hl [2, 3, 4, 5, 6, 1, 0] rfl)
      · have nc188 : ¬ (13 : Int) ≤ x30_5.toInt := mt (i_le (x := 13) (y := x30_5)).mpr c188
        refine lv_aload_n S.x S.b d_Ker_boot_37 rfl (lv_at hl 0 rfl) ?_
        refine px_get S k_Ker hT hw 0 0 2 (v := .ref (kr 2)) rfl rfl rfl (by decide) m2_222 d_Ker_boot_38 ?_
        refine lv_iload S.x S.b d_Ker_boot_41 (lv_at hl 5 rfl) ?_
        refine lv_null S.x S.b d_Ker_boot_43 ?_
        refine px_aastN S hT hw 0 3 6 (n := 13) (f := pz_30) rfl rfl rfl (x := x30_5) (vp_in_iff.mpr (by first | exact oz_10a7a22e11 k30_6 nc188 | (constructor <;> omega))) d_Ker_boot_44 (w' := wd_Ker cs hk kr (fun _ => none) kf_30 ka_30 (gKe pq (va_up pz_30 x30_5.toNatClampNeg none) tq_30 rq_30)) (ps' := [wd_Ker cs hk kr (fun _ => none) kf_30 ka_30 (gKe pq (va_up pz_30 x30_5.toNatClampNeg none) tq_30 rq_30), fm 13 (fTx cs tq_30 TR_30 TO_30 TF_30 TA_30), fm 13 (fRw cs rq_30 RR_30 RM_30 RW_30 RF_30 RA_30 RC_30), fm 8 (fPp cs pq PV)]) rfl rfl (fun H locs hw => ?_)
        have hki := hki.nul (p := x30_5.toNatClampNeg)
        obtain ⟨z229, ez229⟩ : ∃ y : Int32, y = x30_5 + 1 := ⟨_, rfl⟩
        have tz229 : z229.toInt = (x30_5.toInt + 1 + 2147483648) % 4294967296 - 2147483648 := by rw [ez229]; exact i_add x30_5 1
        have lz229 := Int32.le_toInt z229
        have uz229 := Int32.toInt_lt z229
        try replace tz229 : z229.toInt = x30_5.toInt + 1 := by omega
        refine lv_iinc (v := z229) (lv' := [(5, .int z229), (0, .ref hk), (1, .int p0), (2, .int p1), (3, .int p2), (4, .int p3)]) S.x S.b d_Ker_boot_45 hl (k := 5) rfl (by rw [ez229]; rfl) (by decide) rfl (fun ls hl => ?_)
        refine lv_goto (tgt := 30) S.x S.b d_Ker_boot_48 (by decide) ?_
        exact ih30 ce_30 sl_30 (va_up pz_30 x30_5.toNatClampNeg none) tq_30 rq_30 kf_30 ka_30 TR_30 TO_30 TF_30 TA_30 RR_30 RM_30 RW_30 RF_30 RA_30 RC_30 z229 _ _ ls (show KnR pq PV (va_up pz_30 x30_5.toNatClampNeg none) tq_30 rq_30 TF_30 TA_30 RF_30 from hki) (show RoI ka_30 from hro) (show RmI rq_30 RM_30 from hrm) (show PsZ (va_up pz_30 x30_5.toNatClampNeg none) z229.toInt from (psz_up hpz9 (by omega) (by omega))) (show (kf_30 8).toInt = p2.toInt from by first | exact k30_4 | omega) (show (kf_30 9).toInt = p3.toInt from by first | exact k30_5 | omega) (show 0 ≤ z229.toInt from by first | exact oz_ae613611c0 tz229 k30_6 | omega) (show z229.toInt ≤ 13 from by first | exact oz_d342e04a5c tz229 nc188 | omega) (show ce_30 + (5 * ndS 13 tq_30 + 4 * ndS 13 rq_30 + ndS 13 RM_30) ≤ 5 * ndS 13 tq + 4 * ndS 13 rq + ndS 13 RM from by first | exact k30_8 | omega) (show sl_30 + (9804 * ndS 13 tq_30 + 342 * ndS 13 rq_30 + 36864 * ndS 13 RM_30) ≤ 9804 * ndS 13 tq + 342 * ndS 13 rq + 36864 * ndS 13 RM from by first | exact k30_9 | omega) (show 13 - z229.toInt < (n_30 : Int) from by first | exact oz_6680d080b4 hm tz229 | omega) hw (lv_sub hl [1, 2, 3, 4, 5, 0] rfl)
  refine lv_aload_n S.x S.b d_Ker_boot_0 rfl (lv_at hl 0 rfl) ?_
  refine lv_iload_n S.x S.b d_Ker_boot_1 rfl (lv_at hl 3 rfl) ?_
  refine px_put S k_Ker hT hw 0 0 8 rfl rfl (by decide) m2_229 rfl rfl rfl (Nat.le_of_ble_eq_true rfl) d_Ker_boot_2 (w' := wd_Ker cs hk kr (fun _ => none) (upd kf 8 p2) ka (gKe pq pz tq rq)) (ps' := [wd_Ker cs hk kr (fun _ => none) (upd kf 8 p2) ka (gKe pq pz tq rq), fm 13 (fTx cs tq TR TO TF TA), fm 13 (fRw cs rq RR RM RW RF RA RC), fm 8 (fPp cs pq PV)]) rfl rfl (fun H locs hw => ?_)
  refine lv_aload_n S.x S.b d_Ker_boot_5 rfl (lv_at hl 0 rfl) ?_
  refine lv_iload S.x S.b d_Ker_boot_6 (lv_at hl 4 rfl) ?_
  refine px_put S k_Ker hT hw 0 0 9 rfl rfl (by decide) m2_230 rfl rfl rfl (Nat.le_of_ble_eq_true rfl) d_Ker_boot_8 (w' := wd_Ker cs hk kr (fun _ => none) (upd (upd kf 8 p2) 9 p3) ka (gKe pq pz tq rq)) (ps' := [wd_Ker cs hk kr (fun _ => none) (upd (upd kf 8 p2) 9 p3) ka (gKe pq pz tq rq), fm 13 (fTx cs tq TR TO TF TA), fm 13 (fRw cs rq RR RM RW RF RA RC), fm 8 (fPp cs pq PV)]) rfl rfl (fun H locs hw => ?_)
  refine lv_aload_n S.x S.b d_Ker_boot_11 rfl (lv_at hl 0 rfl) ?_
  refine px_get S k_Ker hT hw 0 0 6 (v := .ref (kr 6)) rfl rfl rfl (by decide) m2_227 d_Ker_boot_12 ?_
  refine lv_iconst (v := 0) S.x S.b d_Ker_boot_15 (by decide) ?_
  have hw : pw D A s.heap _ _ [fm 13 (fTx cs tq TR TO TF TA), fm 13 (fRw cs rq RR RM RW RF RA RC), fm 8 (fPp cs pq PV), wd_Ker cs hk kr (fun _ => none) (upd (upd kf 8 p2) 9 p3) ka (gKe pq pz tq rq)] := hw.sub [1, 2, 3, 0] rfl rfl
  have hw : pw D A s.heap _ _ [fm 13 (fTx cs tq TR TO TF TA), fm 13 (fRw cs rq RR RM RW RF RA RC), fm 8 (fPp cs pq PV), [(hk, .inr (7, [.ref (kr 0), .ref (kr 1), .ref (kr 2), .ref (kr 3), .ref (kr 4), .ref (kr 5), .ref (kr 6), .ref (kr 7), .int p2, .int p3]))], [((kr 0), .inl (cs 5, 8, .inr (.inr (.inr (.inr pq)))))], [((kr 1), .inl (cs 0, 128, .inl (ka 1)))], [((kr 2), .inl (cs 6, 13, .inr (.inr (.inr (.inr pz)))))], [((kr 3), .inl (cs 7, 13, .inr (.inr (.inr (.inr tq)))))], [((kr 4), .inl (cs 8, 13, .inr (.inr (.inr (.inr rq)))))], [((kr 5), .inl (cs 0, 104, .inl (ka 5)))], [((kr 6), .inl (cs 0, 26, .inl (ka 6)))], [((kr 7), .inl (cs 0, 26, .inl (ka 7)))]] := hw.eq rfl
  have hw : pw D A s.heap _ _ [fm 13 (fTx cs tq TR TO TF TA), fm 13 (fRw cs rq RR RM RW RF RA RC), fm 8 (fPp cs pq PV), [(hk, .inr (7, [.ref (kr 0), .ref (kr 1), .ref (kr 2), .ref (kr 3), .ref (kr 4), .ref (kr 5), .ref (kr 6), .ref (kr 7), .int p2, .int p3]))], [((kr 0), .inl (cs 5, 8, .inr (.inr (.inr (.inr pq)))))], [((kr 1), .inl (cs 0, 128, .inl (ka 1)))], [((kr 2), .inl (cs 6, 13, .inr (.inr (.inr (.inr pz)))))], [((kr 3), .inl (cs 7, 13, .inr (.inr (.inr (.inr tq)))))], [((kr 4), .inl (cs 8, 13, .inr (.inr (.inr (.inr rq)))))], [((kr 5), .inl (cs 0, 104, .inl (ka 5)))], [((kr 7), .inl (cs 0, 26, .inl (ka 7)))], [((kr 6), .inl (cs 0, 26, .inl (ka 6)))]] := hw.sub [0, 1, 2, 3, 4, 5, 6, 7, 8, 9, 11, 10] rfl rfl
  refine px_callv (pr := [fm 13 (fTx cs tq TR TO TF TA), fm 13 (fRw cs rq RR RM RW RF RA RC), fm 8 (fPp cs pq PV), [(hk, .inr (7, [.ref (kr 0), .ref (kr 1), .ref (kr 2), .ref (kr 3), .ref (kr 4), .ref (kr 5), .ref (kr 6), .ref (kr 7), .int p2, .int p3]))], [((kr 0), .inl (cs 5, 8, .inr (.inr (.inr (.inr pq)))))], [((kr 1), .inl (cs 0, 128, .inl (ka 1)))], [((kr 2), .inl (cs 6, 13, .inr (.inr (.inr (.inr pz)))))], [((kr 3), .inl (cs 7, 13, .inr (.inr (.inr (.inr tq)))))], [((kr 4), .inl (cs 8, 13, .inr (.inr (.inr (.inr rq)))))], [((kr 5), .inl (cs 0, 104, .inl (ka 5)))], [((kr 7), .inl (cs 0, 26, .inl (ka 7)))]]) (px_runS (As := [.ref (kr 6), .int 0]) (rest := []) S (c_Arrays_fillA l D cs (kr 6) 26 (ka 6) 0  (show 26 ≤ 1000000 from by omega) _) hT (pr := [fm 13 (fTx cs tq TR TO TF TA), fm 13 (fRw cs rq RR RM RW RF RA RC), fm 8 (fPp cs pq PV), [(hk, .inr (7, [.ref (kr 0), .ref (kr 1), .ref (kr 2), .ref (kr 3), .ref (kr 4), .ref (kr 5), .ref (kr 6), .ref (kr 7), .int p2, .int p3]))], [((kr 0), .inl (cs 5, 8, .inr (.inr (.inr (.inr pq)))))], [((kr 1), .inl (cs 0, 128, .inl (ka 1)))], [((kr 2), .inl (cs 6, 13, .inr (.inr (.inr (.inr pz)))))], [((kr 3), .inl (cs 7, 13, .inr (.inr (.inr (.inr tq)))))], [((kr 4), .inl (cs 8, 13, .inr (.inr (.inr (.inr rq)))))], [((kr 5), .inl (cs 0, 104, .inl (ka 5)))], [((kr 7), .inl (cs 0, 26, .inl (ka 7)))]]) (pcs := [[((kr 6), .inl (cs 0, 26, .inl (ka 6)))]]) hw px_X.tt m6_111 m6_109 m6_110 m1_14 q_Arrays_fill ⟨Nat.le_of_ble_eq_true rfl, Nat.le_of_ble_eq_true rfl⟩ hl.1 rfl (Nat.le_of_ble_eq_true rfl) d_Ker_boot_16 ⟨show 0 + 0 ≤ (5 * ndS 13 tq + 4 * ndS 13 rq + ndS 13 RM) from (by first | exact oz_9c199dfd7f | omega), show 0 + 0 ≤ (9804 * ndS 13 tq + 342 * ndS 13 rq + 36864 * ndS 13 RM) from (by first | exact oz_54615505fb | omega)⟩) hw hA (fun p232 H locs hp232 hw => ?_)
  obtain ⟨ca231, rfl, e234⟩ := hp232
  have e234 : Fl ca231 (26 : Int) (0 : Int32) := e234
  have hw : pw D A s.heap H locs [fm 13 (fTx cs tq TR TO TF TA), fm 13 (fRw cs rq RR RM RW RF RA RC), fm 8 (fPp cs pq PV), [(hk, .inr (7, [.ref (kr 0), .ref (kr 1), .ref (kr 2), .ref (kr 3), .ref (kr 4), .ref (kr 5), .ref (kr 6), .ref (kr 7), .int p2, .int p3]))], [((kr 0), .inl (cs 5, 8, .inr (.inr (.inr (.inr pq)))))], [((kr 1), .inl (cs 0, 128, .inl (ka 1)))], [((kr 2), .inl (cs 6, 13, .inr (.inr (.inr (.inr pz)))))], [((kr 3), .inl (cs 7, 13, .inr (.inr (.inr (.inr tq)))))], [((kr 4), .inl (cs 8, 13, .inr (.inr (.inr (.inr rq)))))], [((kr 5), .inl (cs 0, 104, .inl (ka 5)))], [((kr 7), .inl (cs 0, 26, .inl (ka 7)))], [((kr 6), .inl (cs 0, 26, .inl ca231))]] := hw
  have hw : pw D A s.heap _ _ [fm 13 (fTx cs tq TR TO TF TA), fm 13 (fRw cs rq RR RM RW RF RA RC), fm 8 (fPp cs pq PV), [(hk, .inr (7, [.ref (kr 0), .ref (kr 1), .ref (kr 2), .ref (kr 3), .ref (kr 4), .ref (kr 5), .ref (kr 6), .ref (kr 7), .int p2, .int p3]))], [((kr 0), .inl (cs 5, 8, .inr (.inr (.inr (.inr pq)))))], [((kr 1), .inl (cs 0, 128, .inl (ka 1)))], [((kr 2), .inl (cs 6, 13, .inr (.inr (.inr (.inr pz)))))], [((kr 3), .inl (cs 7, 13, .inr (.inr (.inr (.inr tq)))))], [((kr 4), .inl (cs 8, 13, .inr (.inr (.inr (.inr rq)))))], [((kr 5), .inl (cs 0, 104, .inl (ka 5)))], [((kr 6), .inl (cs 0, 26, .inl ca231))], [((kr 7), .inl (cs 0, 26, .inl (ka 7)))]] := hw.sub [0, 1, 2, 3, 4, 5, 6, 7, 8, 9, 11, 10] rfl rfl
  have hw : pw D A s.heap _ _ [fm 13 (fTx cs tq TR TO TF TA), fm 13 (fRw cs rq RR RM RW RF RA RC), fm 8 (fPp cs pq PV), wd_Ker cs hk kr (fun _ => none) (upd (upd kf 8 p2) 9 p3) (va_up ka 6 ca231) (gKe pq pz tq rq)] := hw.eq rfl
  refine lv_aload_n S.x S.b d_Ker_boot_19 rfl (lv_at hl 0 rfl) ?_
  refine px_get S k_Ker hT hw 3 0 7 (v := .ref (kr 7)) rfl rfl rfl (by decide) m2_228 d_Ker_boot_20 ?_
  refine lv_iconst (v := 0) S.x S.b d_Ker_boot_23 (by decide) ?_
  have hw : pw D A s.heap _ _ [fm 13 (fTx cs tq TR TO TF TA), fm 13 (fRw cs rq RR RM RW RF RA RC), fm 8 (fPp cs pq PV), [(hk, .inr (7, [.ref (kr 0), .ref (kr 1), .ref (kr 2), .ref (kr 3), .ref (kr 4), .ref (kr 5), .ref (kr 6), .ref (kr 7), .int p2, .int p3]))], [((kr 0), .inl (cs 5, 8, .inr (.inr (.inr (.inr pq)))))], [((kr 1), .inl (cs 0, 128, .inl ((va_up ka 6 ca231) 1)))], [((kr 2), .inl (cs 6, 13, .inr (.inr (.inr (.inr pz)))))], [((kr 3), .inl (cs 7, 13, .inr (.inr (.inr (.inr tq)))))], [((kr 4), .inl (cs 8, 13, .inr (.inr (.inr (.inr rq)))))], [((kr 5), .inl (cs 0, 104, .inl ((va_up ka 6 ca231) 5)))], [((kr 6), .inl (cs 0, 26, .inl ((va_up ka 6 ca231) 6)))], [((kr 7), .inl (cs 0, 26, .inl ((va_up ka 6 ca231) 7)))]] := hw.eq rfl
  refine px_callv (pr := [fm 13 (fTx cs tq TR TO TF TA), fm 13 (fRw cs rq RR RM RW RF RA RC), fm 8 (fPp cs pq PV), [(hk, .inr (7, [.ref (kr 0), .ref (kr 1), .ref (kr 2), .ref (kr 3), .ref (kr 4), .ref (kr 5), .ref (kr 6), .ref (kr 7), .int p2, .int p3]))], [((kr 0), .inl (cs 5, 8, .inr (.inr (.inr (.inr pq)))))], [((kr 1), .inl (cs 0, 128, .inl ((va_up ka 6 ca231) 1)))], [((kr 2), .inl (cs 6, 13, .inr (.inr (.inr (.inr pz)))))], [((kr 3), .inl (cs 7, 13, .inr (.inr (.inr (.inr tq)))))], [((kr 4), .inl (cs 8, 13, .inr (.inr (.inr (.inr rq)))))], [((kr 5), .inl (cs 0, 104, .inl ((va_up ka 6 ca231) 5)))], [((kr 6), .inl (cs 0, 26, .inl ((va_up ka 6 ca231) 6)))]]) (px_runS (As := [.ref (kr 7), .int 0]) (rest := []) S (c_Arrays_fillA l D cs (kr 7) 26 ((va_up ka 6 ca231) 7) 0  (show 26 ≤ 1000000 from by omega) _) hT (pr := [fm 13 (fTx cs tq TR TO TF TA), fm 13 (fRw cs rq RR RM RW RF RA RC), fm 8 (fPp cs pq PV), [(hk, .inr (7, [.ref (kr 0), .ref (kr 1), .ref (kr 2), .ref (kr 3), .ref (kr 4), .ref (kr 5), .ref (kr 6), .ref (kr 7), .int p2, .int p3]))], [((kr 0), .inl (cs 5, 8, .inr (.inr (.inr (.inr pq)))))], [((kr 1), .inl (cs 0, 128, .inl ((va_up ka 6 ca231) 1)))], [((kr 2), .inl (cs 6, 13, .inr (.inr (.inr (.inr pz)))))], [((kr 3), .inl (cs 7, 13, .inr (.inr (.inr (.inr tq)))))], [((kr 4), .inl (cs 8, 13, .inr (.inr (.inr (.inr rq)))))], [((kr 5), .inl (cs 0, 104, .inl ((va_up ka 6 ca231) 5)))], [((kr 6), .inl (cs 0, 26, .inl ((va_up ka 6 ca231) 6)))]]) (pcs := [[((kr 7), .inl (cs 0, 26, .inl ((va_up ka 6 ca231) 7)))]]) hw px_X.tt m6_111 m6_109 m6_110 m1_14 q_Arrays_fill ⟨Nat.le_of_ble_eq_true rfl, Nat.le_of_ble_eq_true rfl⟩ hl.1 rfl (Nat.le_of_ble_eq_true rfl) d_Ker_boot_24 ⟨show 0 + 0 ≤ (5 * ndS 13 tq + 4 * ndS 13 rq + ndS 13 RM) from (by first | exact oz_9c199dfd7f | omega), show 0 + 0 ≤ (9804 * ndS 13 tq + 342 * ndS 13 rq + 36864 * ndS 13 RM) from (by first | exact oz_54615505fb | omega)⟩) hw hA (fun p237 H locs hp237 hw => ?_)
  obtain ⟨ca236, rfl, e239⟩ := hp237
  have e239 : Fl ca236 (26 : Int) (0 : Int32) := e239
  have hw : pw D A s.heap H locs [fm 13 (fTx cs tq TR TO TF TA), fm 13 (fRw cs rq RR RM RW RF RA RC), fm 8 (fPp cs pq PV), [(hk, .inr (7, [.ref (kr 0), .ref (kr 1), .ref (kr 2), .ref (kr 3), .ref (kr 4), .ref (kr 5), .ref (kr 6), .ref (kr 7), .int p2, .int p3]))], [((kr 0), .inl (cs 5, 8, .inr (.inr (.inr (.inr pq)))))], [((kr 1), .inl (cs 0, 128, .inl ((va_up ka 6 ca231) 1)))], [((kr 2), .inl (cs 6, 13, .inr (.inr (.inr (.inr pz)))))], [((kr 3), .inl (cs 7, 13, .inr (.inr (.inr (.inr tq)))))], [((kr 4), .inl (cs 8, 13, .inr (.inr (.inr (.inr rq)))))], [((kr 5), .inl (cs 0, 104, .inl ((va_up ka 6 ca231) 5)))], [((kr 6), .inl (cs 0, 26, .inl ((va_up ka 6 ca231) 6)))], [((kr 7), .inl (cs 0, 26, .inl ca236))]] := hw
  have hw : pw D A s.heap _ _ [fm 13 (fTx cs tq TR TO TF TA), fm 13 (fRw cs rq RR RM RW RF RA RC), fm 8 (fPp cs pq PV), [(hk, .inr (7, [.ref (kr 0), .ref (kr 1), .ref (kr 2), .ref (kr 3), .ref (kr 4), .ref (kr 5), .ref (kr 6), .ref (kr 7), .int p2, .int p3]))], [((kr 0), .inl (cs 5, 8, .inr (.inr (.inr (.inr pq)))))], [((kr 1), .inl (cs 0, 128, .inl ((va_up ka 6 ca231) 1)))], [((kr 2), .inl (cs 6, 13, .inr (.inr (.inr (.inr pz)))))], [((kr 3), .inl (cs 7, 13, .inr (.inr (.inr (.inr tq)))))], [((kr 4), .inl (cs 8, 13, .inr (.inr (.inr (.inr rq)))))], [((kr 5), .inl (cs 0, 104, .inl ((va_up ka 6 ca231) 5)))], [((kr 6), .inl (cs 0, 26, .inl ((va_up ka 6 ca231) 6)))], [((kr 7), .inl (cs 0, 26, .inl ca236))]] := hw.sub [0, 1, 2, 3, 4, 5, 6, 7, 8, 9, 10, 11] rfl rfl
  have hw : pw D A s.heap _ _ [fm 13 (fTx cs tq TR TO TF TA), fm 13 (fRw cs rq RR RM RW RF RA RC), fm 8 (fPp cs pq PV), wd_Ker cs hk kr (fun _ => none) (upd (upd kf 8 p2) 9 p3) (va_up (va_up ka 6 ca231) 7 ca236) (gKe pq pz tq rq)] := hw.eq rfl
  have hro : RoI (va_up (va_up ka 6 ca231) 7 ca236) := roi_00 e234 e239
  refine lv_iconst (v := 0) S.x S.b d_Ker_boot_27 (by decide) ?_
  refine lv_istore (lv' := [(5, .int 0), (0, .ref hk), (1, .int p0), (2, .int p1), (3, .int p2), (4, .int p3)]) S.x S.b d_Ker_boot_28 hl (by decide) rfl (fun ls hl => ?_)
  have hw : pw D A s.heap _ _ [wd_Ker cs hk kr (fun _ => none) (upd (upd kf 8 p2) 9 p3) (va_up (va_up ka 6 ca231) 7 ca236) (gKe pq pz tq rq), fm 13 (fTx cs tq TR TO TF TA), fm 13 (fRw cs rq RR RM RW RF RA RC), fm 8 (fPp cs pq PV)] := hw.sub [3, 0, 1, 2] rfl rfl
  exact J30 ((13 - (0 : Int)).toNat + 1) 0 0 pz tq rq (upd (upd kf 8 p2) 9 p3) (va_up (va_up ka 6 ca231) 7 ca236) TR TO TF TA RR RM RW RF RA RC (0 : Int32) _ _ ls (show KnR pq PV pz tq rq TF TA RF from hki) (show RoI (va_up (va_up ka 6 ca231) 7 ca236) from hro) (show RmI rq RM from hrm) (show PsZ pz (0 : Int) from (fun i9 q9 => absurd q9 (by omega))) (show p2.toInt = p2.toInt from rfl) (show p3.toInt = p3.toInt from rfl) (show 0 ≤ (0 : Int) from by first | exact oz_5a341f00aa | omega) (show (0 : Int) ≤ 13 from by first | exact oz_fc8b4ec74a | omega) (show 0 + (5 * ndS 13 tq + 4 * ndS 13 rq + ndS 13 RM) ≤ 5 * ndS 13 tq + 4 * ndS 13 rq + ndS 13 RM from by first | exact oz_9d19b050ad | omega) (show 0 + (9804 * ndS 13 tq + 342 * ndS 13 rq + 36864 * ndS 13 RM) ≤ 9804 * ndS 13 tq + 342 * ndS 13 rq + 36864 * ndS 13 RM from by first | exact oz_b5592d0ae7 | omega) (show 13 - (0 : Int) < ((((13 - (0 : Int)).toNat + 1 : Nat) : Int) : Int) from by first | exact oz_natlt | omega) hw (lv_sub hl [1, 2, 3, 4, 5, 0] rfl)
abbrev b_Ker_left : ByteArray := prog_4_method_13_code
def y_Ker_left : MethodName := ⟨"HomeSystem$Kernel", "left", "(IZ)I"⟩
theorem d_Ker_left_0 : decode b_Ker_left 0 = .ok (.iload_n 2, 1) := by decide +kernel
theorem d_Ker_left_1 : decode b_Ker_left 1 = .ok (.ifCond .eq 11, 3) := by decide +kernel
theorem d_Ker_left_4 : decode b_Ker_left 4 = .ok (.iload_n 1, 1) := by decide +kernel
theorem d_Ker_left_5 : decode b_Ker_left 5 = .ok (.iconst 1, 1) := by decide +kernel
theorem d_Ker_left_6 : decode b_Ker_left 6 = .ok (.isub, 1) := by decide +kernel
theorem d_Ker_left_7 : decode b_Ker_left 7 = .ok (.iconst 3, 1) := by decide +kernel
theorem d_Ker_left_8 : decode b_Ker_left 8 = .ok (.idiv, 1) := by decide +kernel
theorem d_Ker_left_9 : decode b_Ker_left 9 = .ok (.goto 4, 3) := by decide +kernel
theorem d_Ker_left_12 : decode b_Ker_left 12 = .ok (.iload_n 1, 1) := by decide +kernel
theorem d_Ker_left_13 : decode b_Ker_left 13 = .ok (.istore_n 3, 1) := by decide +kernel
theorem d_Ker_left_14 : decode b_Ker_left 14 = .ok (.aload_n 0, 1) := by decide +kernel
theorem d_Ker_left_15 : decode b_Ker_left 15 = .ok (.getfield 23, 3) := by decide +kernel
theorem d_Ker_left_18 : decode b_Ker_left 18 = .ok (.iload_n 1, 1) := by decide +kernel
theorem d_Ker_left_19 : decode b_Ker_left 19 = .ok (.aaload, 1) := by decide +kernel
theorem d_Ker_left_20 : decode b_Ker_left 20 = .ok (.ifnull 30, 3) := by decide +kernel
theorem d_Ker_left_23 : decode b_Ker_left 23 = .ok (.aload_n 0, 1) := by decide +kernel
theorem d_Ker_left_24 : decode b_Ker_left 24 = .ok (.getfield 23, 3) := by decide +kernel
theorem d_Ker_left_27 : decode b_Ker_left 27 = .ok (.iload_n 3, 1) := by decide +kernel
theorem d_Ker_left_28 : decode b_Ker_left 28 = .ok (.aaload, 1) := by decide +kernel
theorem d_Ker_left_29 : decode b_Ker_left 29 = .ok (.ifnull 21, 3) := by decide +kernel
theorem d_Ker_left_32 : decode b_Ker_left 32 = .ok (.aload_n 0, 1) := by decide +kernel
theorem d_Ker_left_33 : decode b_Ker_left 33 = .ok (.getfield 23, 3) := by decide +kernel
theorem d_Ker_left_36 : decode b_Ker_left 36 = .ok (.iload_n 3, 1) := by decide +kernel
theorem d_Ker_left_37 : decode b_Ker_left 37 = .ok (.aaload, 1) := by decide +kernel
theorem d_Ker_left_38 : decode b_Ker_left 38 = .ok (.getfield 78, 3) := by decide +kernel
theorem d_Ker_left_41 : decode b_Ker_left 41 = .ok (.bipush 6, 2) := by decide +kernel
theorem d_Ker_left_43 : decode b_Ker_left 43 = .ok (.if_icmp .ne 7, 3) := by decide +kernel
theorem d_Ker_left_46 : decode b_Ker_left 46 = .ok (.iconst 1, 1) := by decide +kernel
theorem d_Ker_left_47 : decode b_Ker_left 47 = .ok (.goto 4, 3) := by decide +kernel
theorem d_Ker_left_50 : decode b_Ker_left 50 = .ok (.iconst 0, 1) := by decide +kernel
theorem d_Ker_left_51 : decode b_Ker_left 51 = .ok (.istore 4, 2) := by decide +kernel
theorem d_Ker_left_53 : decode b_Ker_left 53 = .ok (.iload 4, 2) := by decide +kernel
theorem d_Ker_left_55 : decode b_Ker_left 55 = .ok (.ifCond .eq 26, 3) := by decide +kernel
theorem d_Ker_left_58 : decode b_Ker_left 58 = .ok (.aload_n 0, 1) := by decide +kernel
theorem d_Ker_left_59 : decode b_Ker_left 59 = .ok (.getfield 45, 3) := by decide +kernel
theorem d_Ker_left_62 : decode b_Ker_left 62 = .ok (.iload_n 2, 1) := by decide +kernel
theorem d_Ker_left_63 : decode b_Ker_left 63 = .ok (.ifCond .eq 9, 3) := by decide +kernel
theorem d_Ker_left_66 : decode b_Ker_left 66 = .ok (.iconst 2, 1) := by decide +kernel
theorem d_Ker_left_67 : decode b_Ker_left 67 = .ok (.iload_n 1, 1) := by decide +kernel
theorem d_Ker_left_68 : decode b_Ker_left 68 = .ok (.imul, 1) := by decide +kernel
theorem d_Ker_left_69 : decode b_Ker_left 69 = .ok (.goto 8, 3) := by decide +kernel
theorem d_Ker_left_72 : decode b_Ker_left 72 = .ok (.iconst 2, 1) := by decide +kernel
theorem d_Ker_left_73 : decode b_Ker_left 73 = .ok (.iload_n 1, 1) := by decide +kernel
theorem d_Ker_left_74 : decode b_Ker_left 74 = .ok (.imul, 1) := by decide +kernel
theorem d_Ker_left_75 : decode b_Ker_left 75 = .ok (.iconst 1, 1) := by decide +kernel
theorem d_Ker_left_76 : decode b_Ker_left 76 = .ok (.iadd, 1) := by decide +kernel
theorem d_Ker_left_77 : decode b_Ker_left 77 = .ok (.iaload, 1) := by decide +kernel
theorem d_Ker_left_78 : decode b_Ker_left 78 = .ok (.goto 4, 3) := by decide +kernel
theorem d_Ker_left_81 : decode b_Ker_left 81 = .ok (.iconst 0, 1) := by decide +kernel
theorem d_Ker_left_82 : decode b_Ker_left 82 = .ok (.ireturn, 1) := by decide +kernel
theorem q_Ker_left : px_y y_Ker_left 2 := by unfold px_y; decide +kernel
set_option maxHeartbeats 4000000 in
set_option maxRecDepth 100000 in
theorem c_k_left (l : Launch) (D : va_G) (cs : Nat → ClassId) (hk : Nat) (kr : Nat → Nat) (pq : Nat → Option Nat) (pz : Nat → Option Nat) (tq : Nat → Option Nat) (rq : Nat → Option Nat) (kf : Nat → Int32) (ka : Nat → Nat → Int32) (TR : Nat → Nat → Nat) (TO : Nat → Option Nat) (TF : Nat → Nat → Int32) (TA : Nat → Nat → Nat → Int32) (RR : Nat → Nat → Nat) (RM : Nat → Option Nat) (RW : Nat → Option Nat) (RF : Nat → Nat → Int32) (RA : Nat → Nat → Nat → Int32) (RC : Nat → Nat → Int32) (PV : Nat → Pvs) (p0 p1 : Int32)  (g0 : 1 ≤ p0.toInt) (g1 : p0.toInt ≤ 12) (hki : KnR pq PV pz tq rq TF TA RF) : MetI l y_Ker_left b_Ker_left 5 (.int) D cs 0 0 (0) (0) [.ref hk, .int p0, .int p1] [wd_Ker cs hk kr (fun _ => none) kf ka (gKe pq pz tq rq), fm 13 (fTx cs tq TR TO TF TA), fm 13 (fRw cs rq RR RM RW RF RA RC), fm 8 (fPp cs pq PV)] (fun _ => True) (fun v ps => (ps = [wd_Ker cs hk kr (fun _ => none) kf ka (gKe pq pz tq rq), fm 13 (fTx cs tq TR TO TF TA), fm 13 (fRw cs rq RR RM RW RF RA RC), fm 8 (fPp cs pq PV)])) := by
  refine px_enter (by decide) (Nat.le_of_ble_eq_true rfl) ?_
  intro p e s m below meth c A ls hAe S hr hlk hnm hA hT hX hw hl
  have hl : lv_has ls 5 [(0, .ref hk), (1, .int p0), (2, .int p1)] := hl
  have lp0 := Int32.le_toInt p0
  have up0 := Int32.toInt_lt p0
  have lp1 := Int32.le_toInt p1
  have up1 := Int32.toInt_lt p1
  have cst0 : (0 : Int32).toInt = 0 := rfl
  have cst1 : (1 : Int32).toInt = 1 := rfl
  have cst2 : (2 : Int32).toInt = 2 := rfl
  have cst3 : (3 : Int32).toInt = 3 := rfl
  have cst6 : (6 : Int32).toInt = 6 := rfl
  refine lv_iload_n S.x S.b d_Ker_left_0 rfl (lv_at hl 2 rfl) ?_
  refine lv_if_eq (tgt := 12) S.x S.b d_Ker_left_1 (by decide) (fun c1 => ?_) (fun c1 => ?_)
  · have nc1 : p1.toInt = (0 : Int) := (i_eq (x := p1) (y := 0)).mp c1
    refine lv_iload_n S.x S.b d_Ker_left_12 rfl (lv_at hl 1 rfl) ?_
    refine lv_istore_n (lv' := [(3, .int p0), (0, .ref hk), (1, .int p0), (2, .int p1)]) S.x S.b d_Ker_left_13 rfl hl (by decide) rfl (fun ls hl => ?_)
    refine lv_aload_n S.x S.b d_Ker_left_14 rfl (lv_at hl 1 rfl) ?_
    refine px_get S k_Ker hT hw 0 0 2 (v := .ref (kr 2)) rfl rfl rfl (by decide) m2_222 d_Ker_left_15 ?_
    refine lv_iload_n S.x S.b d_Ker_left_18 rfl (lv_at hl 2 rfl) ?_
    refine px_aald S hT hw 0 3 6 (n := 13) (f := pz) rfl rfl rfl (x := p0) (vp_in_iff.mpr (by first | exact oz_c5bdeb443a g0 g1 | (constructor <;> omega))) d_Ker_left_19 ?_
    refine lq_top (fun y3 hy3 => ?_)
    refine lq_ifnull (x := y3) (tgt := 50) S.x S.b d_Ker_left_20 (by decide) (fun c4 => ?_) (fun q5 c4 => ?_)
    ·
      subst c4
      have hc7 := cl_nat (x := p0) (by first | exact oz_71d41aa126 g0 | omega)
      have hi7 : p0.toNatClampNeg < 13 := by first | exact oz_52b7a52644 hc7 g1 | omega
      have hr7 := hy3.symm
      refine lv_iconst (v := 0) S.x S.b d_Ker_left_50 (by decide) ?_
      refine lv_istore (lv' := [(4, .int 0), (3, .int p0), (0, .ref hk), (1, .int p0), (2, .int p1)]) S.x S.b d_Ker_left_51 hl (by decide) rfl (fun ls hl => ?_)
      refine lv_iload S.x S.b d_Ker_left_53 (lv_at hl 0 rfl) ?_
      refine lv_if_eq (tgt := 81) S.x S.b d_Ker_left_55 (by decide) (fun c8 => ?_) (fun c8 => ?_)
      ·
        refine lv_iconst (v := 0) S.x S.b d_Ker_left_81 (by decide) ?_
        exact px_iret (v := 0) S hr rfl hlk hAe hw (Nat.le_of_ble_eq_true rfl) (Nat.le_of_ble_eq_true rfl) (rfl) d_Ker_left_82
      · exact absurd c8 (by decide)
    ·
      subst c4
      have hc9 := cl_nat (x := p0) (by first | exact oz_71d41aa126 g0 | omega)
      have hi9 : p0.toNatClampNeg < 13 := by first | exact oz_52b7a52644 hc9 g1 | omega
      have hr9 := hy3.symm
      refine lv_aload_n S.x S.b d_Ker_left_23 rfl (lv_at hl 1 rfl) ?_
      refine px_get S k_Ker hT hw 0 0 2 (v := .ref (kr 2)) rfl rfl rfl (by decide) m2_222 d_Ker_left_24 ?_
      refine lv_iload_n S.x S.b d_Ker_left_27 rfl (lv_at hl 0 rfl) ?_
      refine px_aaldS S hT hw 0 3 6 (n := 13) (f := pz) rfl rfl rfl (x := p0) (vp_in_iff.mpr (by first | exact oz_c5bdeb443a g0 g1 | (constructor <;> omega))) (sk := q5) hr9 d_Ker_left_28 ?_
      refine lv_ifnull S.x S.b d_Ker_left_29 ?_
      refine lv_aload_n S.x S.b d_Ker_left_32 rfl (lv_at hl 1 rfl) ?_
      refine px_get S k_Ker hT hw 0 0 2 (v := .ref (kr 2)) rfl rfl rfl (by decide) m2_222 d_Ker_left_33 ?_
      refine lv_iload_n S.x S.b d_Ker_left_36 rfl (lv_at hl 0 rfl) ?_
      refine px_aaldS S hT hw 0 3 6 (n := 13) (f := pz) rfl rfl rfl (x := p0) (vp_in_iff.mpr (by first | exact oz_c5bdeb443a g0 g1 | (constructor <;> omega))) (sk := q5) hr9 d_Ker_left_37 ?_
      rcases hki.2.2.2 p0.toNatClampNeg hi9 with hno | ⟨h9, e9, hcu10⟩ | ⟨h9, e9, hcu10⟩
      · rw [hno] at hr9; cases hr9
      ·
        cases (hr9.symm.trans e9)
        have hw : pw D A s.heap _ _ [wd_Ker cs hk kr (fun _ => none) kf ka (gKe pq pz tq rq), fm 13 (fRw cs rq RR RM RW RF RA RC), fm 8 (fPp cs pq PV), fm 13 (fTx cs tq TR TO TF TA)] := hw.sub [0, 2, 3, 1] rfl rfl
        have hw : pw D A s.heap _ _ [wd_Ker cs hk kr (fun _ => none) kf ka (gKe pq pz tq rq), fm 13 (fRw cs rq RR RM RW RF RA RC), fm 8 (fPp cs pq PV), fo 13 (fTx cs tq TR TO TF TA) p0.toNatClampNeg, wd_Txp cs q5 (TR p0.toNatClampNeg) (fun k => if k = 3 then (TO p0.toNatClampNeg) else none) (TF p0.toNatClampNeg) (TA p0.toNatClampNeg) (fun _ _ => none)] := ftx_out (pr := [wd_Ker cs hk kr (fun _ => none) kf ka (gKe pq pz tq rq), fm 13 (fRw cs rq RR RM RW RF RA RC), fm 8 (fPp cs pq PV)]) hw hi9 hcu10 rfl
        have htn11 : TxN p0.toNatClampNeg (TF p0.toNatClampNeg) (TA p0.toNatClampNeg) := hki.2.1 p0.toNatClampNeg hi9 _ hcu10
        obtain ⟨lk, ⟨i2, i3⟩, ⟨i4, i5⟩, ⟨i6, i7⟩, i8, ⟨i9, i11⟩, i10, hrt⟩ := htn11.1
        have hid11 := htn11.2.1
        have hch11 := htn11.2.2
        unfold KcI at hch11
        refine px_get S k_Txp hT hw 4 0 18 (v := .int ((TF p0.toNatClampNeg) 18)) rfl rfl rfl (by decide) m6_139 d_Ker_left_38 ?_
        refine lv_bipush (v := 6) S.x S.b d_Ker_left_41 (by decide) ?_
        refine lv_icmp_ne (tgt := 50) S.x S.b d_Ker_left_43 (by decide) (fun c12 => ?_) (fun c12 => ?_)
        · have nc12 : ¬ ((TF p0.toNatClampNeg) 18).toInt = (6 : Int) := mt (i_eq (x := ((TF p0.toNatClampNeg) 18)) (y := 6)).mpr c12
          refine lv_iconst (v := 0) S.x S.b d_Ker_left_50 (by decide) ?_
          refine lv_istore (lv' := [(4, .int 0), (3, .int p0), (0, .ref hk), (1, .int p0), (2, .int p1)]) S.x S.b d_Ker_left_51 hl (by decide) rfl (fun ls hl => ?_)
          refine lv_iload S.x S.b d_Ker_left_53 (lv_at hl 0 rfl) ?_
          refine lv_if_eq (tgt := 81) S.x S.b d_Ker_left_55 (by decide) (fun c14 => ?_) (fun c14 => ?_)
          ·
            refine lv_iconst (v := 0) S.x S.b d_Ker_left_81 (by decide) ?_
            have hw : pw D A s.heap _ _ [wd_Ker cs hk kr (fun _ => none) kf ka (gKe pq pz tq rq), fm 13 (fRw cs rq RR RM RW RF RA RC), fm 8 (fPp cs pq PV), fm 13 (fTx cs tq TR TO TF TA)] := ftx_back (pr := [wd_Ker cs hk kr (fun _ => none) kf ka (gKe pq pz tq rq), fm 13 (fRw cs rq RR RM RW RF RA RC), fm 8 (fPp cs pq PV)]) hw hi9 hcu10 rfl
            have hw : pw D A s.heap _ _ [wd_Ker cs hk kr (fun _ => none) kf ka (gKe pq pz tq rq), fm 13 (fTx cs tq TR TO TF TA), fm 13 (fRw cs rq RR RM RW RF RA RC), fm 8 (fPp cs pq PV)] := hw.sub [0, 3, 1, 2] rfl rfl
            exact px_iret (v := 0) S hr rfl hlk hAe hw (Nat.le_of_ble_eq_true rfl) (Nat.le_of_ble_eq_true rfl) (rfl) d_Ker_left_82
          · exact absurd c14 (by decide)
        · have nc12 : ((TF p0.toNatClampNeg) 18).toInt = (6 : Int) := (i_eq (x := ((TF p0.toNatClampNeg) 18)) (y := 6)).mp c12
          refine lv_iconst (v := 1) S.x S.b d_Ker_left_46 (by decide) ?_
          refine lv_goto (tgt := 51) S.x S.b d_Ker_left_47 (by decide) ?_
          refine lv_istore (lv' := [(4, .int 1), (3, .int p0), (0, .ref hk), (1, .int p0), (2, .int p1)]) S.x S.b d_Ker_left_51 hl (by decide) rfl (fun ls hl => ?_)
          refine lv_iload S.x S.b d_Ker_left_53 (lv_at hl 0 rfl) ?_
          refine lv_if_eq (tgt := 81) S.x S.b d_Ker_left_55 (by decide) (fun c15 => ?_) (fun c15 => ?_)
          · exact absurd c15 (by decide)
          ·
            refine lv_aload_n S.x S.b d_Ker_left_58 rfl (lv_at hl 2 rfl) ?_
            refine px_get S k_Ker hT hw 0 0 7 (v := .ref (kr 7)) rfl rfl rfl (by decide) m2_228 d_Ker_left_59 ?_
            refine lv_iload_n S.x S.b d_Ker_left_62 rfl (lv_at hl 4 rfl) ?_
            refine lv_if_eq (tgt := 72) S.x S.b d_Ker_left_63 (by decide) (fun c16 => ?_) (fun c16 => ?_)
            · have nc16 : p1.toInt = (0 : Int) := (i_eq (x := p1) (y := 0)).mp c16
              refine lv_iconst (v := 2) S.x S.b d_Ker_left_72 (by decide) ?_
              refine lv_iload_n S.x S.b d_Ker_left_73 rfl (lv_at hl 3 rfl) ?_
              refine lv_imul S.x S.b d_Ker_left_74 ?_
              refine lv_topi (fun z18 ez18 => ?_)
              have lz18 := Int32.le_toInt z18
              have uz18 := Int32.toInt_lt z18
              have tz18 : -2147483648 ≤ 2 * p0.toInt → 2 * p0.toInt < 2147483648 → z18.toInt = 2 * p0.toInt := by rw [ez18]; exact i_mulc 2 p0 (by decide)
              try replace tz18 : z18.toInt = 2 * p0.toInt := by omega
              refine lv_iconst (v := 1) S.x S.b d_Ker_left_75 (by decide) ?_
              refine lv_iadd S.x S.b d_Ker_left_76 ?_
              refine lv_topi (fun z19 ez19 => ?_)
              have tz19 : z19.toInt = (z18.toInt + (1 : Int) + 2147483648) % 4294967296 - 2147483648 := by rw [ez19]; exact i_add z18 1
              have lz19 := Int32.le_toInt z19
              have uz19 := Int32.toInt_lt z19
              try replace tz19 : z19.toInt = z18.toInt + (1 : Int) := by omega
              refine px_iald S hT hw 0 8 (n := 26) (f := (ka 7)) rfl (ga_Ker_7 _ _ _ _ _ _ _) (x := z19) (vp_in_iff.mpr (by first | exact oz_6bed5c79fa tz19 tz18 g0 g1 | (constructor <;> omega))) d_Ker_left_77 ?_
              refine lv_topi (fun z20 ez20 => ?_)
              have lz20 := Int32.le_toInt z20
              have uz20 := Int32.toInt_lt z20
              refine lv_goto (tgt := 82) S.x S.b d_Ker_left_78 (by decide) ?_
              have hw : pw D A s.heap _ _ [wd_Ker cs hk kr (fun _ => none) kf ka (gKe pq pz tq rq), fm 13 (fRw cs rq RR RM RW RF RA RC), fm 8 (fPp cs pq PV), fm 13 (fTx cs tq TR TO TF TA)] := ftx_back (pr := [wd_Ker cs hk kr (fun _ => none) kf ka (gKe pq pz tq rq), fm 13 (fRw cs rq RR RM RW RF RA RC), fm 8 (fPp cs pq PV)]) hw hi9 hcu10 rfl
              have hw : pw D A s.heap _ _ [wd_Ker cs hk kr (fun _ => none) kf ka (gKe pq pz tq rq), fm 13 (fTx cs tq TR TO TF TA), fm 13 (fRw cs rq RR RM RW RF RA RC), fm 8 (fPp cs pq PV)] := hw.sub [0, 3, 1, 2] rfl rfl
              exact px_iret (v := z20) S hr rfl hlk hAe hw (Nat.le_of_ble_eq_true rfl) (Nat.le_of_ble_eq_true rfl) (rfl) d_Ker_left_82
            · have nc16 : ¬ p1.toInt = (0 : Int) := mt (i_eq (x := p1) (y := 0)).mpr c16
              refine lv_iconst (v := 2) S.x S.b d_Ker_left_66 (by decide) ?_
              refine lv_iload_n S.x S.b d_Ker_left_67 rfl (lv_at hl 3 rfl) ?_
              refine lv_imul S.x S.b d_Ker_left_68 ?_
              refine lv_topi (fun z21 ez21 => ?_)
              have lz21 := Int32.le_toInt z21
              have uz21 := Int32.toInt_lt z21
              have tz21 : -2147483648 ≤ 2 * p0.toInt → 2 * p0.toInt < 2147483648 → z21.toInt = 2 * p0.toInt := by rw [ez21]; exact i_mulc 2 p0 (by decide)
              try replace tz21 : z21.toInt = 2 * p0.toInt := by omega
              refine lv_goto (tgt := 77) S.x S.b d_Ker_left_69 (by decide) ?_
              refine px_iald S hT hw 0 8 (n := 26) (f := (ka 7)) rfl (ga_Ker_7 _ _ _ _ _ _ _) (x := z21) (vp_in_iff.mpr (by first | exact oz_e90802111b tz21 g0 g1 | (constructor <;> omega))) d_Ker_left_77 ?_
              refine lv_topi (fun z22 ez22 => ?_)
              have lz22 := Int32.le_toInt z22
              have uz22 := Int32.toInt_lt z22
              refine lv_goto (tgt := 82) S.x S.b d_Ker_left_78 (by decide) ?_
              have hw : pw D A s.heap _ _ [wd_Ker cs hk kr (fun _ => none) kf ka (gKe pq pz tq rq), fm 13 (fRw cs rq RR RM RW RF RA RC), fm 8 (fPp cs pq PV), fm 13 (fTx cs tq TR TO TF TA)] := ftx_back (pr := [wd_Ker cs hk kr (fun _ => none) kf ka (gKe pq pz tq rq), fm 13 (fRw cs rq RR RM RW RF RA RC), fm 8 (fPp cs pq PV)]) hw hi9 hcu10 rfl
              have hw : pw D A s.heap _ _ [wd_Ker cs hk kr (fun _ => none) kf ka (gKe pq pz tq rq), fm 13 (fTx cs tq TR TO TF TA), fm 13 (fRw cs rq RR RM RW RF RA RC), fm 8 (fPp cs pq PV)] := hw.sub [0, 3, 1, 2] rfl rfl
              exact px_iret (v := z22) S hr rfl hlk hAe hw (Nat.le_of_ble_eq_true rfl) (Nat.le_of_ble_eq_true rfl) (rfl) d_Ker_left_82
      ·
        cases (hr9.symm.trans e9)
        have hw : pw D A s.heap _ _ [wd_Ker cs hk kr (fun _ => none) kf ka (gKe pq pz tq rq), fm 13 (fTx cs tq TR TO TF TA), fm 8 (fPp cs pq PV), fm 13 (fRw cs rq RR RM RW RF RA RC)] := hw.sub [0, 1, 3, 2] rfl rfl
        have hw : pw D A s.heap _ _ [wd_Ker cs hk kr (fun _ => none) kf ka (gKe pq pz tq rq), fm 13 (fTx cs tq TR TO TF TA), fm 8 (fPp cs pq PV), fo 13 (fRw cs rq RR RM RW RF RA RC) p0.toNatClampNeg, wd_Raw cs q5 (RR p0.toNatClampNeg) (fun k => if k = 2 then (RM p0.toNatClampNeg) else if k = 4 then (RW p0.toNatClampNeg) else none) (RF p0.toNatClampNeg) (RA p0.toNatClampNeg) (fun _ _ => none), nA cs (RM p0.toNatClampNeg) 36864 (RC p0.toNatClampNeg)] := frw_out (pr := [wd_Ker cs hk kr (fun _ => none) kf ka (gKe pq pz tq rq), fm 13 (fTx cs tq TR TO TF TA), fm 8 (fPp cs pq PV)]) hw hi9 hcu10 rfl
        have hng23 := ndS_ge 13 RM p0.toNatClampNeg hi9
        have hrn23 : RwN p0.toNatClampNeg (RF p0.toNatClampNeg) := hki.2.2.1 p0.toNatClampNeg hi9 _ hcu10
        have hro23 := hrn23.1
        unfold RwO at hro23
        have hid23 := hrn23.2.1
        have hch23 := hrn23.2.2
        unfold KcI at hch23
        refine px_get S k_Raw hT hw 4 0 11 (v := .int ((RF p0.toNatClampNeg) 11)) rfl rfl rfl (by decide) m6_139 d_Ker_left_38 ?_
        refine lv_bipush (v := 6) S.x S.b d_Ker_left_41 (by decide) ?_
        refine lv_icmp_ne (tgt := 50) S.x S.b d_Ker_left_43 (by decide) (fun c24 => ?_) (fun c24 => ?_)
        · have nc24 : ¬ ((RF p0.toNatClampNeg) 11).toInt = (6 : Int) := mt (i_eq (x := ((RF p0.toNatClampNeg) 11)) (y := 6)).mpr c24
          refine lv_iconst (v := 0) S.x S.b d_Ker_left_50 (by decide) ?_
          refine lv_istore (lv' := [(4, .int 0), (3, .int p0), (0, .ref hk), (1, .int p0), (2, .int p1)]) S.x S.b d_Ker_left_51 hl (by decide) rfl (fun ls hl => ?_)
          refine lv_iload S.x S.b d_Ker_left_53 (lv_at hl 0 rfl) ?_
          refine lv_if_eq (tgt := 81) S.x S.b d_Ker_left_55 (by decide) (fun c26 => ?_) (fun c26 => ?_)
          ·
            refine lv_iconst (v := 0) S.x S.b d_Ker_left_81 (by decide) ?_
            have hw : pw D A s.heap _ _ [wd_Ker cs hk kr (fun _ => none) kf ka (gKe pq pz tq rq), fm 13 (fTx cs tq TR TO TF TA), fm 8 (fPp cs pq PV), fm 13 (fRw cs rq RR RM RW RF RA RC)] := frw_back (pr := [wd_Ker cs hk kr (fun _ => none) kf ka (gKe pq pz tq rq), fm 13 (fTx cs tq TR TO TF TA), fm 8 (fPp cs pq PV)]) hw hi9 hcu10 rfl
            have hw : pw D A s.heap _ _ [wd_Ker cs hk kr (fun _ => none) kf ka (gKe pq pz tq rq), fm 13 (fTx cs tq TR TO TF TA), fm 13 (fRw cs rq RR RM RW RF RA RC), fm 8 (fPp cs pq PV)] := hw.sub [0, 1, 3, 2] rfl rfl
            exact px_iret (v := 0) S hr rfl hlk hAe hw (Nat.le_of_ble_eq_true rfl) (Nat.le_of_ble_eq_true rfl) (rfl) d_Ker_left_82
          · exact absurd c26 (by decide)
        · have nc24 : ((RF p0.toNatClampNeg) 11).toInt = (6 : Int) := (i_eq (x := ((RF p0.toNatClampNeg) 11)) (y := 6)).mp c24
          refine lv_iconst (v := 1) S.x S.b d_Ker_left_46 (by decide) ?_
          refine lv_goto (tgt := 51) S.x S.b d_Ker_left_47 (by decide) ?_
          refine lv_istore (lv' := [(4, .int 1), (3, .int p0), (0, .ref hk), (1, .int p0), (2, .int p1)]) S.x S.b d_Ker_left_51 hl (by decide) rfl (fun ls hl => ?_)
          refine lv_iload S.x S.b d_Ker_left_53 (lv_at hl 0 rfl) ?_
          refine lv_if_eq (tgt := 81) S.x S.b d_Ker_left_55 (by decide) (fun c27 => ?_) (fun c27 => ?_)
          · exact absurd c27 (by decide)
          ·
            refine lv_aload_n S.x S.b d_Ker_left_58 rfl (lv_at hl 2 rfl) ?_
            refine px_get S k_Ker hT hw 0 0 7 (v := .ref (kr 7)) rfl rfl rfl (by decide) m2_228 d_Ker_left_59 ?_
            refine lv_iload_n S.x S.b d_Ker_left_62 rfl (lv_at hl 4 rfl) ?_
            refine lv_if_eq (tgt := 72) S.x S.b d_Ker_left_63 (by decide) (fun c28 => ?_) (fun c28 => ?_)
            · have nc28 : p1.toInt = (0 : Int) := (i_eq (x := p1) (y := 0)).mp c28
              refine lv_iconst (v := 2) S.x S.b d_Ker_left_72 (by decide) ?_
              refine lv_iload_n S.x S.b d_Ker_left_73 rfl (lv_at hl 3 rfl) ?_
              refine lv_imul S.x S.b d_Ker_left_74 ?_
              refine lv_topi (fun z30 ez30 => ?_)
              have lz30 := Int32.le_toInt z30
              have uz30 := Int32.toInt_lt z30
              have tz30 : -2147483648 ≤ 2 * p0.toInt → 2 * p0.toInt < 2147483648 → z30.toInt = 2 * p0.toInt := by rw [ez30]; exact i_mulc 2 p0 (by decide)
              try replace tz30 : z30.toInt = 2 * p0.toInt := by omega
              refine lv_iconst (v := 1) S.x S.b d_Ker_left_75 (by decide) ?_
              refine lv_iadd S.x S.b d_Ker_left_76 ?_
              refine lv_topi (fun z31 ez31 => ?_)
              have tz31 : z31.toInt = (z30.toInt + (1 : Int) + 2147483648) % 4294967296 - 2147483648 := by rw [ez31]; exact i_add z30 1
              have lz31 := Int32.le_toInt z31
              have uz31 := Int32.toInt_lt z31
              try replace tz31 : z31.toInt = z30.toInt + (1 : Int) := by omega
              refine px_iald S hT hw 0 8 (n := 26) (f := (ka 7)) rfl (ga_Ker_7 _ _ _ _ _ _ _) (x := z31) (vp_in_iff.mpr (by first | exact oz_6bed5c79fa tz31 tz30 g0 g1 | (constructor <;> omega))) d_Ker_left_77 ?_
              refine lv_topi (fun z32 ez32 => ?_)
              have lz32 := Int32.le_toInt z32
              have uz32 := Int32.toInt_lt z32
              refine lv_goto (tgt := 82) S.x S.b d_Ker_left_78 (by decide) ?_
              have hw : pw D A s.heap _ _ [wd_Ker cs hk kr (fun _ => none) kf ka (gKe pq pz tq rq), fm 13 (fTx cs tq TR TO TF TA), fm 8 (fPp cs pq PV), fm 13 (fRw cs rq RR RM RW RF RA RC)] := frw_back (pr := [wd_Ker cs hk kr (fun _ => none) kf ka (gKe pq pz tq rq), fm 13 (fTx cs tq TR TO TF TA), fm 8 (fPp cs pq PV)]) hw hi9 hcu10 rfl
              have hw : pw D A s.heap _ _ [wd_Ker cs hk kr (fun _ => none) kf ka (gKe pq pz tq rq), fm 13 (fTx cs tq TR TO TF TA), fm 13 (fRw cs rq RR RM RW RF RA RC), fm 8 (fPp cs pq PV)] := hw.sub [0, 1, 3, 2] rfl rfl
              exact px_iret (v := z32) S hr rfl hlk hAe hw (Nat.le_of_ble_eq_true rfl) (Nat.le_of_ble_eq_true rfl) (rfl) d_Ker_left_82
            · have nc28 : ¬ p1.toInt = (0 : Int) := mt (i_eq (x := p1) (y := 0)).mpr c28
              refine lv_iconst (v := 2) S.x S.b d_Ker_left_66 (by decide) ?_
              refine lv_iload_n S.x S.b d_Ker_left_67 rfl (lv_at hl 3 rfl) ?_
              refine lv_imul S.x S.b d_Ker_left_68 ?_
              refine lv_topi (fun z33 ez33 => ?_)
              have lz33 := Int32.le_toInt z33
              have uz33 := Int32.toInt_lt z33
              have tz33 : -2147483648 ≤ 2 * p0.toInt → 2 * p0.toInt < 2147483648 → z33.toInt = 2 * p0.toInt := by rw [ez33]; exact i_mulc 2 p0 (by decide)
              try replace tz33 : z33.toInt = 2 * p0.toInt := by omega
              refine lv_goto (tgt := 77) S.x S.b d_Ker_left_69 (by decide) ?_
              refine px_iald S hT hw 0 8 (n := 26) (f := (ka 7)) rfl (ga_Ker_7 _ _ _ _ _ _ _) (x := z33) (vp_in_iff.mpr (by first | exact oz_e90802111b tz33 g0 g1 | (constructor <;> omega))) d_Ker_left_77 ?_
              refine lv_topi (fun z34 ez34 => ?_)
              have lz34 := Int32.le_toInt z34
              have uz34 := Int32.toInt_lt z34
              refine lv_goto (tgt := 82) S.x S.b d_Ker_left_78 (by decide) ?_
              have hw : pw D A s.heap _ _ [wd_Ker cs hk kr (fun _ => none) kf ka (gKe pq pz tq rq), fm 13 (fTx cs tq TR TO TF TA), fm 8 (fPp cs pq PV), fm 13 (fRw cs rq RR RM RW RF RA RC)] := frw_back (pr := [wd_Ker cs hk kr (fun _ => none) kf ka (gKe pq pz tq rq), fm 13 (fTx cs tq TR TO TF TA), fm 8 (fPp cs pq PV)]) hw hi9 hcu10 rfl
              have hw : pw D A s.heap _ _ [wd_Ker cs hk kr (fun _ => none) kf ka (gKe pq pz tq rq), fm 13 (fTx cs tq TR TO TF TA), fm 13 (fRw cs rq RR RM RW RF RA RC), fm 8 (fPp cs pq PV)] := hw.sub [0, 1, 3, 2] rfl rfl
              exact px_iret (v := z34) S hr rfl hlk hAe hw (Nat.le_of_ble_eq_true rfl) (Nat.le_of_ble_eq_true rfl) (rfl) d_Ker_left_82
  · have nc1 : ¬ p1.toInt = (0 : Int) := mt (i_eq (x := p1) (y := 0)).mpr c1
    refine lv_iload_n S.x S.b d_Ker_left_4 rfl (lv_at hl 1 rfl) ?_
    refine lv_iconst (v := 1) S.x S.b d_Ker_left_5 (by decide) ?_
    refine lv_isub S.x S.b d_Ker_left_6 ?_
    refine lv_topi (fun z35 ez35 => ?_)
    have tz35 : z35.toInt = (p0.toInt - (1 : Int) + 2147483648) % 4294967296 - 2147483648 := by rw [ez35]; exact i_sub p0 1
    have lz35 := Int32.le_toInt z35
    have uz35 := Int32.toInt_lt z35
    try replace tz35 : z35.toInt = p0.toInt - (1 : Int) := by omega
    refine lv_iconst (v := 3) S.x S.b d_Ker_left_7 (by decide) ?_
    refine lv_idiv S.x S.b d_Ker_left_8 (by decide) ?_
    refine lv_topi (fun z36 ez36 => ?_)
    have lz36 := Int32.le_toInt z36
    have uz36 := Int32.toInt_lt z36
    have tz36 : 0 ≤ z35.toInt → z36.toInt = z35.toInt / 3 := (by intro h9; rw [ez36]; exact i_idiv9 h9 (y := 3) (d := 3) (by decide) (by decide))
    try replace tz36 := tz36 (by omega)
    refine lv_goto (tgt := 13) S.x S.b d_Ker_left_9 (by decide) ?_
    refine lv_istore_n (lv' := [(3, .int z36), (0, .ref hk), (1, .int p0), (2, .int p1)]) S.x S.b d_Ker_left_13 rfl hl (by decide) rfl (fun ls hl => ?_)
    refine lv_aload_n S.x S.b d_Ker_left_14 rfl (lv_at hl 1 rfl) ?_
    refine px_get S k_Ker hT hw 0 0 2 (v := .ref (kr 2)) rfl rfl rfl (by decide) m2_222 d_Ker_left_15 ?_
    refine lv_iload_n S.x S.b d_Ker_left_18 rfl (lv_at hl 2 rfl) ?_
    refine px_aald S hT hw 0 3 6 (n := 13) (f := pz) rfl rfl rfl (x := p0) (vp_in_iff.mpr (by first | exact oz_c5bdeb443a g0 g1 | (constructor <;> omega))) d_Ker_left_19 ?_
    refine lq_top (fun y37 hy37 => ?_)
    refine lq_ifnull (x := y37) (tgt := 50) S.x S.b d_Ker_left_20 (by decide) (fun c38 => ?_) (fun q39 c38 => ?_)
    ·
      subst c38
      have hc41 := cl_nat (x := p0) (by first | exact oz_71d41aa126 g0 | omega)
      have hi41 : p0.toNatClampNeg < 13 := by first | exact oz_52b7a52644 hc41 g1 | omega
      have hr41 := hy37.symm
      refine lv_iconst (v := 0) S.x S.b d_Ker_left_50 (by decide) ?_
      refine lv_istore (lv' := [(4, .int 0), (3, .int z36), (0, .ref hk), (1, .int p0), (2, .int p1)]) S.x S.b d_Ker_left_51 hl (by decide) rfl (fun ls hl => ?_)
      refine lv_iload S.x S.b d_Ker_left_53 (lv_at hl 0 rfl) ?_
      refine lv_if_eq (tgt := 81) S.x S.b d_Ker_left_55 (by decide) (fun c42 => ?_) (fun c42 => ?_)
      ·
        refine lv_iconst (v := 0) S.x S.b d_Ker_left_81 (by decide) ?_
        exact px_iret (v := 0) S hr rfl hlk hAe hw (Nat.le_of_ble_eq_true rfl) (Nat.le_of_ble_eq_true rfl) (rfl) d_Ker_left_82
      · exact absurd c42 (by decide)
    ·
      subst c38
      have hc43 := cl_nat (x := p0) (by first | exact oz_71d41aa126 g0 | omega)
      have hi43 : p0.toNatClampNeg < 13 := by first | exact oz_52b7a52644 hc43 g1 | omega
      have hr43 := hy37.symm
      refine lv_aload_n S.x S.b d_Ker_left_23 rfl (lv_at hl 1 rfl) ?_
      refine px_get S k_Ker hT hw 0 0 2 (v := .ref (kr 2)) rfl rfl rfl (by decide) m2_222 d_Ker_left_24 ?_
      refine lv_iload_n S.x S.b d_Ker_left_27 rfl (lv_at hl 0 rfl) ?_
      refine px_aald S hT hw 0 3 6 (n := 13) (f := pz) rfl rfl rfl (x := z36) (vp_in_iff.mpr (by constructor <;> omega)) d_Ker_left_28 ?_
      refine lq_top (fun y44 hy44 => ?_)
      refine lq_ifnull (x := y44) (tgt := 50) S.x S.b d_Ker_left_29 (by decide) (fun c45 => ?_) (fun q46 c45 => ?_)
      ·
        subst c45
        have hc48 := cl_nat (x := z36) (by first | exact oz_016f458179 hc48 | omega)
        have hi48 : z36.toNatClampNeg < 13 := by omega
        have hr48 := hy44.symm
        refine lv_iconst (v := 0) S.x S.b d_Ker_left_50 (by decide) ?_
        refine lv_istore (lv' := [(4, .int 0), (3, .int z36), (0, .ref hk), (1, .int p0), (2, .int p1)]) S.x S.b d_Ker_left_51 hl (by decide) rfl (fun ls hl => ?_)
        refine lv_iload S.x S.b d_Ker_left_53 (lv_at hl 0 rfl) ?_
        refine lv_if_eq (tgt := 81) S.x S.b d_Ker_left_55 (by decide) (fun c49 => ?_) (fun c49 => ?_)
        ·
          refine lv_iconst (v := 0) S.x S.b d_Ker_left_81 (by decide) ?_
          exact px_iret (v := 0) S hr rfl hlk hAe hw (Nat.le_of_ble_eq_true rfl) (Nat.le_of_ble_eq_true rfl) (rfl) d_Ker_left_82
        · exact absurd c49 (by decide)
      ·
        subst c45
        have hc50 := cl_nat (x := z36) (by first | exact oz_016f458179 hc50 | omega)
        have hi50 : z36.toNatClampNeg < 13 := by omega
        have hr50 := hy44.symm
        refine lv_aload_n S.x S.b d_Ker_left_32 rfl (lv_at hl 1 rfl) ?_
        refine px_get S k_Ker hT hw 0 0 2 (v := .ref (kr 2)) rfl rfl rfl (by decide) m2_222 d_Ker_left_33 ?_
        refine lv_iload_n S.x S.b d_Ker_left_36 rfl (lv_at hl 0 rfl) ?_
        refine px_aaldS S hT hw 0 3 6 (n := 13) (f := pz) rfl rfl rfl (x := z36) (vp_in_iff.mpr (by first | exact oz_3859d57d28 hc50 hi50 | (constructor <;> omega))) (sk := q46) hr50 d_Ker_left_37 ?_
        rcases hki.2.2.2 z36.toNatClampNeg hi50 with hno | ⟨h9, e9, hcu51⟩ | ⟨h9, e9, hcu51⟩
        · rw [hno] at hr50; cases hr50
        ·
          cases (hr50.symm.trans e9)
          have hw : pw D A s.heap _ _ [wd_Ker cs hk kr (fun _ => none) kf ka (gKe pq pz tq rq), fm 13 (fRw cs rq RR RM RW RF RA RC), fm 8 (fPp cs pq PV), fm 13 (fTx cs tq TR TO TF TA)] := hw.sub [0, 2, 3, 1] rfl rfl
          have hw : pw D A s.heap _ _ [wd_Ker cs hk kr (fun _ => none) kf ka (gKe pq pz tq rq), fm 13 (fRw cs rq RR RM RW RF RA RC), fm 8 (fPp cs pq PV), fo 13 (fTx cs tq TR TO TF TA) z36.toNatClampNeg, wd_Txp cs q46 (TR z36.toNatClampNeg) (fun k => if k = 3 then (TO z36.toNatClampNeg) else none) (TF z36.toNatClampNeg) (TA z36.toNatClampNeg) (fun _ _ => none)] := ftx_out (pr := [wd_Ker cs hk kr (fun _ => none) kf ka (gKe pq pz tq rq), fm 13 (fRw cs rq RR RM RW RF RA RC), fm 8 (fPp cs pq PV)]) hw hi50 hcu51 rfl
          have htn52 : TxN z36.toNatClampNeg (TF z36.toNatClampNeg) (TA z36.toNatClampNeg) := hki.2.1 z36.toNatClampNeg hi50 _ hcu51
          obtain ⟨lk, ⟨i2, i3⟩, ⟨i4, i5⟩, ⟨i6, i7⟩, i8, ⟨i9, i11⟩, i10, hrt⟩ := htn52.1
          have hid52 := htn52.2.1
          have hch52 := htn52.2.2
          unfold KcI at hch52
          refine px_get S k_Txp hT hw 4 0 18 (v := .int ((TF z36.toNatClampNeg) 18)) rfl rfl rfl (by decide) m6_139 d_Ker_left_38 ?_
          refine lv_bipush (v := 6) S.x S.b d_Ker_left_41 (by decide) ?_
          refine lv_icmp_ne (tgt := 50) S.x S.b d_Ker_left_43 (by decide) (fun c53 => ?_) (fun c53 => ?_)
          · have nc53 : ¬ ((TF z36.toNatClampNeg) 18).toInt = (6 : Int) := mt (i_eq (x := ((TF z36.toNatClampNeg) 18)) (y := 6)).mpr c53
            refine lv_iconst (v := 0) S.x S.b d_Ker_left_50 (by decide) ?_
            refine lv_istore (lv' := [(4, .int 0), (3, .int z36), (0, .ref hk), (1, .int p0), (2, .int p1)]) S.x S.b d_Ker_left_51 hl (by decide) rfl (fun ls hl => ?_)
            refine lv_iload S.x S.b d_Ker_left_53 (lv_at hl 0 rfl) ?_
            refine lv_if_eq (tgt := 81) S.x S.b d_Ker_left_55 (by decide) (fun c55 => ?_) (fun c55 => ?_)
            ·
              refine lv_iconst (v := 0) S.x S.b d_Ker_left_81 (by decide) ?_
              have hw : pw D A s.heap _ _ [wd_Ker cs hk kr (fun _ => none) kf ka (gKe pq pz tq rq), fm 13 (fRw cs rq RR RM RW RF RA RC), fm 8 (fPp cs pq PV), fm 13 (fTx cs tq TR TO TF TA)] := ftx_back (pr := [wd_Ker cs hk kr (fun _ => none) kf ka (gKe pq pz tq rq), fm 13 (fRw cs rq RR RM RW RF RA RC), fm 8 (fPp cs pq PV)]) hw hi50 hcu51 rfl
              have hw : pw D A s.heap _ _ [wd_Ker cs hk kr (fun _ => none) kf ka (gKe pq pz tq rq), fm 13 (fTx cs tq TR TO TF TA), fm 13 (fRw cs rq RR RM RW RF RA RC), fm 8 (fPp cs pq PV)] := hw.sub [0, 3, 1, 2] rfl rfl
              exact px_iret (v := 0) S hr rfl hlk hAe hw (Nat.le_of_ble_eq_true rfl) (Nat.le_of_ble_eq_true rfl) (rfl) d_Ker_left_82
            · exact absurd c55 (by decide)
          · have nc53 : ((TF z36.toNatClampNeg) 18).toInt = (6 : Int) := (i_eq (x := ((TF z36.toNatClampNeg) 18)) (y := 6)).mp c53
            refine lv_iconst (v := 1) S.x S.b d_Ker_left_46 (by decide) ?_
            refine lv_goto (tgt := 51) S.x S.b d_Ker_left_47 (by decide) ?_
            refine lv_istore (lv' := [(4, .int 1), (3, .int z36), (0, .ref hk), (1, .int p0), (2, .int p1)]) S.x S.b d_Ker_left_51 hl (by decide) rfl (fun ls hl => ?_)
            refine lv_iload S.x S.b d_Ker_left_53 (lv_at hl 0 rfl) ?_
            refine lv_if_eq (tgt := 81) S.x S.b d_Ker_left_55 (by decide) (fun c56 => ?_) (fun c56 => ?_)
            · exact absurd c56 (by decide)
            ·
              refine lv_aload_n S.x S.b d_Ker_left_58 rfl (lv_at hl 2 rfl) ?_
              refine px_get S k_Ker hT hw 0 0 7 (v := .ref (kr 7)) rfl rfl rfl (by decide) m2_228 d_Ker_left_59 ?_
              refine lv_iload_n S.x S.b d_Ker_left_62 rfl (lv_at hl 4 rfl) ?_
              refine lv_if_eq (tgt := 72) S.x S.b d_Ker_left_63 (by decide) (fun c57 => ?_) (fun c57 => ?_)
              · have nc57 : p1.toInt = (0 : Int) := (i_eq (x := p1) (y := 0)).mp c57
                refine lv_iconst (v := 2) S.x S.b d_Ker_left_72 (by decide) ?_
                refine lv_iload_n S.x S.b d_Ker_left_73 rfl (lv_at hl 3 rfl) ?_
                refine lv_imul S.x S.b d_Ker_left_74 ?_
                refine lv_topi (fun z59 ez59 => ?_)
                have lz59 := Int32.le_toInt z59
                have uz59 := Int32.toInt_lt z59
                have tz59 : -2147483648 ≤ 2 * p0.toInt → 2 * p0.toInt < 2147483648 → z59.toInt = 2 * p0.toInt := by rw [ez59]; exact i_mulc 2 p0 (by decide)
                try replace tz59 : z59.toInt = 2 * p0.toInt := by omega
                refine lv_iconst (v := 1) S.x S.b d_Ker_left_75 (by decide) ?_
                refine lv_iadd S.x S.b d_Ker_left_76 ?_
                refine lv_topi (fun z60 ez60 => ?_)
                have tz60 : z60.toInt = (z59.toInt + (1 : Int) + 2147483648) % 4294967296 - 2147483648 := by rw [ez60]; exact i_add z59 1
                have lz60 := Int32.le_toInt z60
                have uz60 := Int32.toInt_lt z60
                try replace tz60 : z60.toInt = z59.toInt + (1 : Int) := by omega
                refine px_iald S hT hw 0 8 (n := 26) (f := (ka 7)) rfl (ga_Ker_7 _ _ _ _ _ _ _) (x := z60) (vp_in_iff.mpr (by first | exact oz_6bed5c79fa tz60 tz59 g0 g1 | (constructor <;> omega))) d_Ker_left_77 ?_
                refine lv_topi (fun z61 ez61 => ?_)
                have lz61 := Int32.le_toInt z61
                have uz61 := Int32.toInt_lt z61
                refine lv_goto (tgt := 82) S.x S.b d_Ker_left_78 (by decide) ?_
                have hw : pw D A s.heap _ _ [wd_Ker cs hk kr (fun _ => none) kf ka (gKe pq pz tq rq), fm 13 (fRw cs rq RR RM RW RF RA RC), fm 8 (fPp cs pq PV), fm 13 (fTx cs tq TR TO TF TA)] := ftx_back (pr := [wd_Ker cs hk kr (fun _ => none) kf ka (gKe pq pz tq rq), fm 13 (fRw cs rq RR RM RW RF RA RC), fm 8 (fPp cs pq PV)]) hw hi50 hcu51 rfl
                have hw : pw D A s.heap _ _ [wd_Ker cs hk kr (fun _ => none) kf ka (gKe pq pz tq rq), fm 13 (fTx cs tq TR TO TF TA), fm 13 (fRw cs rq RR RM RW RF RA RC), fm 8 (fPp cs pq PV)] := hw.sub [0, 3, 1, 2] rfl rfl
                exact px_iret (v := z61) S hr rfl hlk hAe hw (Nat.le_of_ble_eq_true rfl) (Nat.le_of_ble_eq_true rfl) (rfl) d_Ker_left_82
              · have nc57 : ¬ p1.toInt = (0 : Int) := mt (i_eq (x := p1) (y := 0)).mpr c57
                refine lv_iconst (v := 2) S.x S.b d_Ker_left_66 (by decide) ?_
                refine lv_iload_n S.x S.b d_Ker_left_67 rfl (lv_at hl 3 rfl) ?_
                refine lv_imul S.x S.b d_Ker_left_68 ?_
                refine lv_topi (fun z62 ez62 => ?_)
                have lz62 := Int32.le_toInt z62
                have uz62 := Int32.toInt_lt z62
                have tz62 : -2147483648 ≤ 2 * p0.toInt → 2 * p0.toInt < 2147483648 → z62.toInt = 2 * p0.toInt := by rw [ez62]; exact i_mulc 2 p0 (by decide)
                try replace tz62 : z62.toInt = 2 * p0.toInt := by omega
                refine lv_goto (tgt := 77) S.x S.b d_Ker_left_69 (by decide) ?_
                refine px_iald S hT hw 0 8 (n := 26) (f := (ka 7)) rfl (ga_Ker_7 _ _ _ _ _ _ _) (x := z62) (vp_in_iff.mpr (by first | exact oz_e90802111b tz62 g0 g1 | (constructor <;> omega))) d_Ker_left_77 ?_
                refine lv_topi (fun z63 ez63 => ?_)
                have lz63 := Int32.le_toInt z63
                have uz63 := Int32.toInt_lt z63
                refine lv_goto (tgt := 82) S.x S.b d_Ker_left_78 (by decide) ?_
                have hw : pw D A s.heap _ _ [wd_Ker cs hk kr (fun _ => none) kf ka (gKe pq pz tq rq), fm 13 (fRw cs rq RR RM RW RF RA RC), fm 8 (fPp cs pq PV), fm 13 (fTx cs tq TR TO TF TA)] := ftx_back (pr := [wd_Ker cs hk kr (fun _ => none) kf ka (gKe pq pz tq rq), fm 13 (fRw cs rq RR RM RW RF RA RC), fm 8 (fPp cs pq PV)]) hw hi50 hcu51 rfl
                have hw : pw D A s.heap _ _ [wd_Ker cs hk kr (fun _ => none) kf ka (gKe pq pz tq rq), fm 13 (fTx cs tq TR TO TF TA), fm 13 (fRw cs rq RR RM RW RF RA RC), fm 8 (fPp cs pq PV)] := hw.sub [0, 3, 1, 2] rfl rfl
                exact px_iret (v := z63) S hr rfl hlk hAe hw (Nat.le_of_ble_eq_true rfl) (Nat.le_of_ble_eq_true rfl) (rfl) d_Ker_left_82
        ·
          cases (hr50.symm.trans e9)
          have hw : pw D A s.heap _ _ [wd_Ker cs hk kr (fun _ => none) kf ka (gKe pq pz tq rq), fm 13 (fTx cs tq TR TO TF TA), fm 8 (fPp cs pq PV), fm 13 (fRw cs rq RR RM RW RF RA RC)] := hw.sub [0, 1, 3, 2] rfl rfl
          have hw : pw D A s.heap _ _ [wd_Ker cs hk kr (fun _ => none) kf ka (gKe pq pz tq rq), fm 13 (fTx cs tq TR TO TF TA), fm 8 (fPp cs pq PV), fo 13 (fRw cs rq RR RM RW RF RA RC) z36.toNatClampNeg, wd_Raw cs q46 (RR z36.toNatClampNeg) (fun k => if k = 2 then (RM z36.toNatClampNeg) else if k = 4 then (RW z36.toNatClampNeg) else none) (RF z36.toNatClampNeg) (RA z36.toNatClampNeg) (fun _ _ => none), nA cs (RM z36.toNatClampNeg) 36864 (RC z36.toNatClampNeg)] := frw_out (pr := [wd_Ker cs hk kr (fun _ => none) kf ka (gKe pq pz tq rq), fm 13 (fTx cs tq TR TO TF TA), fm 8 (fPp cs pq PV)]) hw hi50 hcu51 rfl
          have hng64 := ndS_ge 13 RM z36.toNatClampNeg hi50
          have hrn64 : RwN z36.toNatClampNeg (RF z36.toNatClampNeg) := hki.2.2.1 z36.toNatClampNeg hi50 _ hcu51
          have hro64 := hrn64.1
          unfold RwO at hro64
          have hid64 := hrn64.2.1
          have hch64 := hrn64.2.2
          unfold KcI at hch64
          refine px_get S k_Raw hT hw 4 0 11 (v := .int ((RF z36.toNatClampNeg) 11)) rfl rfl rfl (by decide) m6_139 d_Ker_left_38 ?_
          refine lv_bipush (v := 6) S.x S.b d_Ker_left_41 (by decide) ?_
          refine lv_icmp_ne (tgt := 50) S.x S.b d_Ker_left_43 (by decide) (fun c65 => ?_) (fun c65 => ?_)
          · have nc65 : ¬ ((RF z36.toNatClampNeg) 11).toInt = (6 : Int) := mt (i_eq (x := ((RF z36.toNatClampNeg) 11)) (y := 6)).mpr c65
            refine lv_iconst (v := 0) S.x S.b d_Ker_left_50 (by decide) ?_
            refine lv_istore (lv' := [(4, .int 0), (3, .int z36), (0, .ref hk), (1, .int p0), (2, .int p1)]) S.x S.b d_Ker_left_51 hl (by decide) rfl (fun ls hl => ?_)
            refine lv_iload S.x S.b d_Ker_left_53 (lv_at hl 0 rfl) ?_
            refine lv_if_eq (tgt := 81) S.x S.b d_Ker_left_55 (by decide) (fun c67 => ?_) (fun c67 => ?_)
            ·
              refine lv_iconst (v := 0) S.x S.b d_Ker_left_81 (by decide) ?_
              have hw : pw D A s.heap _ _ [wd_Ker cs hk kr (fun _ => none) kf ka (gKe pq pz tq rq), fm 13 (fTx cs tq TR TO TF TA), fm 8 (fPp cs pq PV), fm 13 (fRw cs rq RR RM RW RF RA RC)] := frw_back (pr := [wd_Ker cs hk kr (fun _ => none) kf ka (gKe pq pz tq rq), fm 13 (fTx cs tq TR TO TF TA), fm 8 (fPp cs pq PV)]) hw hi50 hcu51 rfl
              have hw : pw D A s.heap _ _ [wd_Ker cs hk kr (fun _ => none) kf ka (gKe pq pz tq rq), fm 13 (fTx cs tq TR TO TF TA), fm 13 (fRw cs rq RR RM RW RF RA RC), fm 8 (fPp cs pq PV)] := hw.sub [0, 1, 3, 2] rfl rfl
              exact px_iret (v := 0) S hr rfl hlk hAe hw (Nat.le_of_ble_eq_true rfl) (Nat.le_of_ble_eq_true rfl) (rfl) d_Ker_left_82
            · exact absurd c67 (by decide)
          · have nc65 : ((RF z36.toNatClampNeg) 11).toInt = (6 : Int) := (i_eq (x := ((RF z36.toNatClampNeg) 11)) (y := 6)).mp c65
            refine lv_iconst (v := 1) S.x S.b d_Ker_left_46 (by decide) ?_
            refine lv_goto (tgt := 51) S.x S.b d_Ker_left_47 (by decide) ?_
            refine lv_istore (lv' := [(4, .int 1), (3, .int z36), (0, .ref hk), (1, .int p0), (2, .int p1)]) S.x S.b d_Ker_left_51 hl (by decide) rfl (fun ls hl => ?_)
            refine lv_iload S.x S.b d_Ker_left_53 (lv_at hl 0 rfl) ?_
            refine lv_if_eq (tgt := 81) S.x S.b d_Ker_left_55 (by decide) (fun c68 => ?_) (fun c68 => ?_)
            · exact absurd c68 (by decide)
            ·
              refine lv_aload_n S.x S.b d_Ker_left_58 rfl (lv_at hl 2 rfl) ?_
              refine px_get S k_Ker hT hw 0 0 7 (v := .ref (kr 7)) rfl rfl rfl (by decide) m2_228 d_Ker_left_59 ?_
              refine lv_iload_n S.x S.b d_Ker_left_62 rfl (lv_at hl 4 rfl) ?_
              refine lv_if_eq (tgt := 72) S.x S.b d_Ker_left_63 (by decide) (fun c69 => ?_) (fun c69 => ?_)
              · have nc69 : p1.toInt = (0 : Int) := (i_eq (x := p1) (y := 0)).mp c69
                refine lv_iconst (v := 2) S.x S.b d_Ker_left_72 (by decide) ?_
                refine lv_iload_n S.x S.b d_Ker_left_73 rfl (lv_at hl 3 rfl) ?_
                refine lv_imul S.x S.b d_Ker_left_74 ?_
                refine lv_topi (fun z71 ez71 => ?_)
                have lz71 := Int32.le_toInt z71
                have uz71 := Int32.toInt_lt z71
                have tz71 : -2147483648 ≤ 2 * p0.toInt → 2 * p0.toInt < 2147483648 → z71.toInt = 2 * p0.toInt := by rw [ez71]; exact i_mulc 2 p0 (by decide)
                try replace tz71 : z71.toInt = 2 * p0.toInt := by omega
                refine lv_iconst (v := 1) S.x S.b d_Ker_left_75 (by decide) ?_
                refine lv_iadd S.x S.b d_Ker_left_76 ?_
                refine lv_topi (fun z72 ez72 => ?_)
                have tz72 : z72.toInt = (z71.toInt + (1 : Int) + 2147483648) % 4294967296 - 2147483648 := by rw [ez72]; exact i_add z71 1
                have lz72 := Int32.le_toInt z72
                have uz72 := Int32.toInt_lt z72
                try replace tz72 : z72.toInt = z71.toInt + (1 : Int) := by omega
                refine px_iald S hT hw 0 8 (n := 26) (f := (ka 7)) rfl (ga_Ker_7 _ _ _ _ _ _ _) (x := z72) (vp_in_iff.mpr (by first | exact oz_6bed5c79fa tz72 tz71 g0 g1 | (constructor <;> omega))) d_Ker_left_77 ?_
                refine lv_topi (fun z73 ez73 => ?_)
                have lz73 := Int32.le_toInt z73
                have uz73 := Int32.toInt_lt z73
                refine lv_goto (tgt := 82) S.x S.b d_Ker_left_78 (by decide) ?_
                have hw : pw D A s.heap _ _ [wd_Ker cs hk kr (fun _ => none) kf ka (gKe pq pz tq rq), fm 13 (fTx cs tq TR TO TF TA), fm 8 (fPp cs pq PV), fm 13 (fRw cs rq RR RM RW RF RA RC)] := frw_back (pr := [wd_Ker cs hk kr (fun _ => none) kf ka (gKe pq pz tq rq), fm 13 (fTx cs tq TR TO TF TA), fm 8 (fPp cs pq PV)]) hw hi50 hcu51 rfl
                have hw : pw D A s.heap _ _ [wd_Ker cs hk kr (fun _ => none) kf ka (gKe pq pz tq rq), fm 13 (fTx cs tq TR TO TF TA), fm 13 (fRw cs rq RR RM RW RF RA RC), fm 8 (fPp cs pq PV)] := hw.sub [0, 1, 3, 2] rfl rfl
                exact px_iret (v := z73) S hr rfl hlk hAe hw (Nat.le_of_ble_eq_true rfl) (Nat.le_of_ble_eq_true rfl) (rfl) d_Ker_left_82
              · have nc69 : ¬ p1.toInt = (0 : Int) := mt (i_eq (x := p1) (y := 0)).mpr c69
                refine lv_iconst (v := 2) S.x S.b d_Ker_left_66 (by decide) ?_
                refine lv_iload_n S.x S.b d_Ker_left_67 rfl (lv_at hl 3 rfl) ?_
                refine lv_imul S.x S.b d_Ker_left_68 ?_
                refine lv_topi (fun z74 ez74 => ?_)
                have lz74 := Int32.le_toInt z74
                have uz74 := Int32.toInt_lt z74
                have tz74 : -2147483648 ≤ 2 * p0.toInt → 2 * p0.toInt < 2147483648 → z74.toInt = 2 * p0.toInt := by rw [ez74]; exact i_mulc 2 p0 (by decide)
                try replace tz74 : z74.toInt = 2 * p0.toInt := by omega
                refine lv_goto (tgt := 77) S.x S.b d_Ker_left_69 (by decide) ?_
                refine px_iald S hT hw 0 8 (n := 26) (f := (ka 7)) rfl (ga_Ker_7 _ _ _ _ _ _ _) (x := z74) (vp_in_iff.mpr (by first | exact oz_e90802111b tz74 g0 g1 | (constructor <;> omega))) d_Ker_left_77 ?_
                refine lv_topi (fun z75 ez75 => ?_)
                have lz75 := Int32.le_toInt z75
                have uz75 := Int32.toInt_lt z75
                refine lv_goto (tgt := 82) S.x S.b d_Ker_left_78 (by decide) ?_
                have hw : pw D A s.heap _ _ [wd_Ker cs hk kr (fun _ => none) kf ka (gKe pq pz tq rq), fm 13 (fTx cs tq TR TO TF TA), fm 8 (fPp cs pq PV), fm 13 (fRw cs rq RR RM RW RF RA RC)] := frw_back (pr := [wd_Ker cs hk kr (fun _ => none) kf ka (gKe pq pz tq rq), fm 13 (fTx cs tq TR TO TF TA), fm 8 (fPp cs pq PV)]) hw hi50 hcu51 rfl
                have hw : pw D A s.heap _ _ [wd_Ker cs hk kr (fun _ => none) kf ka (gKe pq pz tq rq), fm 13 (fTx cs tq TR TO TF TA), fm 13 (fRw cs rq RR RM RW RF RA RC), fm 8 (fPp cs pq PV)] := hw.sub [0, 1, 3, 2] rfl rfl
                exact px_iret (v := z75) S hr rfl hlk hAe hw (Nat.le_of_ble_eq_true rfl) (Nat.le_of_ble_eq_true rfl) (rfl) d_Ker_left_82
