theorem oz_a9d413b9a3 {a0 a1 a2 a3 a4 : Int} (h0 : a0 = a1 + a2) (h1 : 0 ≤ a2) (h2 : a1 = 16 * a3) (h3 : 0 ≤ a3) (h4 : ¬ a4 ≤ a2) (h5 : a3 < 8) (h6 : a4 ≤ 16) : 0 ≤ a0 ∧ a0 < ((128 : Nat) : Int) := by omega
theorem oz_05cfa6a11f {a0 : Int} (h0 : ¬ (16 : Int) ≤ a0) : a0 ≤ 16 := by omega
theorem m14_98 : Cond.methodLink "HomeSystemModel" 196 ⟨"HomeSystemModel$Process", "wordAt", "(I)I"⟩ ∈ AL := AL_14 (List.mem_of_getElem? (i := 98) rfl) rfl
theorem m14_97 : Cond.methodLink "HomeSystemModel" 193 ⟨"HomeSystemModel$Process", "setWord", "(II)V"⟩ ∈ AL := AL_14 (List.mem_of_getElem? (i := 97) rfl) rfl
theorem m14_96 : Cond.methodLink "HomeSystemModel" 190 ⟨"HomeSystemModel$Process", "canRead", "(I)Z"⟩ ∈ AL := AL_14 (List.mem_of_getElem? (i := 96) rfl) rfl
theorem m14_95 : Cond.methodLink "HomeSystemModel" 187 ⟨"HomeSystemModel$Process", "canWrite", "(I)Z"⟩ ∈ AL := AL_14 (List.mem_of_getElem? (i := 95) rfl) rfl
theorem m11_12 : Cond.fieldLink "HomeSystemModel" 172 "HomeSystemModel$Process" "registers" "[I" ∈ AL := AL_11 (List.mem_of_getElem? (i := 12) rfl) rfl
theorem m13_162 : Cond.methodLink "HomeSystemModel" 178 ⟨"HomeSystemModel$Process", "isGoing", "()Z"⟩ ∈ AL := AL_13 (List.mem_of_getElem? (i := 162) rfl) rfl
theorem m13_165 : Cond.code ⟨"HomeSystemModel$Process", "isGoing", "()Z"⟩ prog_15_method_2_code 1 (Option.some FieldType.boolean) ∈ AL := AL_13 (List.mem_of_getElem? (i := 165) rfl) rfl
theorem m13_164 : Cond.selects "HomeSystemModel$Process" ⟨"HomeSystemModel$Process", "isGoing", "()Z"⟩ ⟨"HomeSystemModel$Process", "isGoing", "()Z"⟩ ∈ AL := AL_13 (List.mem_of_getElem? (i := 164) rfl) rfl
theorem m13_163 : Cond.instanceMethod ⟨"HomeSystemModel$Process", "isGoing", "()Z"⟩ ∈ AL := AL_13 (List.mem_of_getElem? (i := 163) rfl) rfl
theorem m11_3 : Cond.fieldLink "HomeSystemModel" 181 "HomeSystemModel$Process" "at" "I" ∈ AL := AL_11 (List.mem_of_getElem? (i := 3) rfl) rfl
theorem m10_230 : Cond.fieldLink "HomeSystemModel" 184 "HomeSystemModel$Process" "work" "I" ∈ AL := AL_10 (List.mem_of_getElem? (i := 230) rfl) rfl
theorem m14_87 : Cond.methodLink "HomeSystemModel" 175 ⟨"HomeSystemModel", "moveWords", "(IZIII)V"⟩ ∈ AL := AL_14 (List.mem_of_getElem? (i := 87) rfl) rfl
theorem m14_90 : Cond.code ⟨"HomeSystemModel", "moveWords", "(IZIII)V"⟩ prog_14_method_26_code 10 (Option.none : Option Jvm.ClassFile.FieldType) ∈ AL := AL_14 (List.mem_of_getElem? (i := 90) rfl) rfl
theorem ms_16_7 : Cond.selects "HomeSystemModel" ⟨"HomeSystemModel", "moveWords", "(IZIII)V"⟩ ⟨"HomeSystemModel", "moveWords", "(IZIII)V"⟩ ∈ AL := AL_p (q := (⟨"HomeSystemModel", "moveWords", "(IZIII)V"⟩, 11)) (by unfold lw_privs; exact List.mem_append_right _ (List.mem_append_right _ (List.mem_append_right _ (List.mem_append_right _ (List.mem_append_right _ (List.mem_append_right _ (List.mem_append_right _ (List.mem_append_right _ (List.mem_append_right _ (List.mem_append_right _ (List.mem_append_right _ (List.mem_append_right _ (List.mem_append_right _ (List.mem_append_right _ (List.mem_append_right _ (List.mem_append_left _ (List.mem_of_getElem? (i := 7) rfl)))))))))))))))))
theorem m14_89 : Cond.instanceMethod ⟨"HomeSystemModel", "moveWords", "(IZIII)V"⟩ ∈ AL := AL_14 (List.mem_of_getElem? (i := 89) rfl) rfl
theorem oG_G {PG : Nat → Pgs} : oG (fun A U H => ∀ j : Nat, j < 8 → oP A (PG j).g U H) := oG_all fun _ => oG_all fun _ => oG_P
abbrev b_Mo_moveWords : ByteArray := prog_14_method_26_code
def y_Mo_moveWords : MethodName := ⟨"HomeSystemModel", "moveWords", "(IZIII)V"⟩
theorem d_Mo_moveWords_0 : decode b_Mo_moveWords 0 = .ok (.aload_n 0, 1) := by decide +kernel
theorem d_Mo_moveWords_1 : decode b_Mo_moveWords 1 = .ok (.iload_n 1, 1) := by decide +kernel
theorem d_Mo_moveWords_2 : decode b_Mo_moveWords 2 = .ok (.iload_n 3, 1) := by decide +kernel
theorem d_Mo_moveWords_3 : decode b_Mo_moveWords 3 = .ok (.invokevirtual 166, 3) := by decide +kernel
theorem d_Mo_moveWords_6 : decode b_Mo_moveWords 6 = .ok (.ifCond .ne 4, 3) := by decide +kernel
theorem d_Mo_moveWords_9 : decode b_Mo_moveWords 9 = .ok (.return_, 1) := by decide +kernel
theorem d_Mo_moveWords_10 : decode b_Mo_moveWords 10 = .ok (.aload_n 0, 1) := by decide +kernel
theorem d_Mo_moveWords_11 : decode b_Mo_moveWords 11 = .ok (.getfield 21, 3) := by decide +kernel
theorem d_Mo_moveWords_14 : decode b_Mo_moveWords 14 = .ok (.iload_n 1, 1) := by decide +kernel
theorem d_Mo_moveWords_15 : decode b_Mo_moveWords 15 = .ok (.aaload, 1) := by decide +kernel
theorem d_Mo_moveWords_16 : decode b_Mo_moveWords 16 = .ok (.astore 6, 2) := by decide +kernel
theorem d_Mo_moveWords_18 : decode b_Mo_moveWords 18 = .ok (.iload 5, 2) := by decide +kernel
theorem d_Mo_moveWords_20 : decode b_Mo_moveWords 20 = .ok (.bipush 16, 2) := by decide +kernel
theorem d_Mo_moveWords_22 : decode b_Mo_moveWords 22 = .ok (.if_icmp .ge 8, 3) := by decide +kernel
theorem d_Mo_moveWords_25 : decode b_Mo_moveWords 25 = .ok (.iload 5, 2) := by decide +kernel
theorem d_Mo_moveWords_27 : decode b_Mo_moveWords 27 = .ok (.goto 5, 3) := by decide +kernel
theorem d_Mo_moveWords_30 : decode b_Mo_moveWords 30 = .ok (.bipush 16, 2) := by decide +kernel
theorem d_Mo_moveWords_32 : decode b_Mo_moveWords 32 = .ok (.istore 7, 2) := by decide +kernel
theorem d_Mo_moveWords_34 : decode b_Mo_moveWords 34 = .ok (.iload 4, 2) := by decide +kernel
theorem d_Mo_moveWords_36 : decode b_Mo_moveWords 36 = .ok (.iconst 4, 1) := by decide +kernel
theorem d_Mo_moveWords_37 : decode b_Mo_moveWords 37 = .ok (.irem, 1) := by decide +kernel
theorem d_Mo_moveWords_38 : decode b_Mo_moveWords 38 = .ok (.ifCond .ne 7, 3) := by decide +kernel
theorem d_Mo_moveWords_41 : decode b_Mo_moveWords 41 = .ok (.iconst 1, 1) := by decide +kernel
theorem d_Mo_moveWords_42 : decode b_Mo_moveWords 42 = .ok (.goto 4, 3) := by decide +kernel
theorem d_Mo_moveWords_45 : decode b_Mo_moveWords 45 = .ok (.iconst 0, 1) := by decide +kernel
theorem d_Mo_moveWords_46 : decode b_Mo_moveWords 46 = .ok (.istore 8, 2) := by decide +kernel
theorem d_Mo_moveWords_48 : decode b_Mo_moveWords 48 = .ok (.iconst 0, 1) := by decide +kernel
theorem d_Mo_moveWords_49 : decode b_Mo_moveWords 49 = .ok (.istore 9, 2) := by decide +kernel
theorem d_Mo_moveWords_51 : decode b_Mo_moveWords 51 = .ok (.iload 9, 2) := by decide +kernel
theorem d_Mo_moveWords_53 : decode b_Mo_moveWords 53 = .ok (.iload 7, 2) := by decide +kernel
theorem d_Mo_moveWords_55 : decode b_Mo_moveWords 55 = .ok (.if_icmp .ge 47, 3) := by decide +kernel
theorem d_Mo_moveWords_58 : decode b_Mo_moveWords 58 = .ok (.iload 8, 2) := by decide +kernel
theorem d_Mo_moveWords_60 : decode b_Mo_moveWords 60 = .ok (.ifCond .eq 42, 3) := by decide +kernel
theorem d_Mo_moveWords_63 : decode b_Mo_moveWords 63 = .ok (.iload_n 2, 1) := by decide +kernel
theorem d_Mo_moveWords_64 : decode b_Mo_moveWords 64 = .ok (.ifCond .eq 18, 3) := by decide +kernel
theorem d_Mo_moveWords_67 : decode b_Mo_moveWords 67 = .ok (.aload 6, 2) := by decide +kernel
theorem d_Mo_moveWords_69 : decode b_Mo_moveWords 69 = .ok (.iload 4, 2) := by decide +kernel
theorem d_Mo_moveWords_71 : decode b_Mo_moveWords 71 = .ok (.iconst 4, 1) := by decide +kernel
theorem d_Mo_moveWords_72 : decode b_Mo_moveWords 72 = .ok (.iload 9, 2) := by decide +kernel
theorem d_Mo_moveWords_74 : decode b_Mo_moveWords 74 = .ok (.imul, 1) := by decide +kernel
theorem d_Mo_moveWords_75 : decode b_Mo_moveWords 75 = .ok (.iadd, 1) := by decide +kernel
theorem d_Mo_moveWords_76 : decode b_Mo_moveWords 76 = .ok (.invokevirtual 187, 3) := by decide +kernel
theorem d_Mo_moveWords_79 : decode b_Mo_moveWords 79 = .ok (.goto 15, 3) := by decide +kernel
theorem d_Mo_moveWords_82 : decode b_Mo_moveWords 82 = .ok (.aload 6, 2) := by decide +kernel
theorem d_Mo_moveWords_84 : decode b_Mo_moveWords 84 = .ok (.iload 4, 2) := by decide +kernel
theorem d_Mo_moveWords_86 : decode b_Mo_moveWords 86 = .ok (.iconst 4, 1) := by decide +kernel
theorem d_Mo_moveWords_87 : decode b_Mo_moveWords 87 = .ok (.iload 9, 2) := by decide +kernel
theorem d_Mo_moveWords_89 : decode b_Mo_moveWords 89 = .ok (.imul, 1) := by decide +kernel
theorem d_Mo_moveWords_90 : decode b_Mo_moveWords 90 = .ok (.iadd, 1) := by decide +kernel
theorem d_Mo_moveWords_91 : decode b_Mo_moveWords 91 = .ok (.invokevirtual 190, 3) := by decide +kernel
theorem d_Mo_moveWords_94 : decode b_Mo_moveWords 94 = .ok (.istore 8, 2) := by decide +kernel
theorem d_Mo_moveWords_96 : decode b_Mo_moveWords 96 = .ok (.iinc 9 1, 3) := by decide +kernel
theorem d_Mo_moveWords_99 : decode b_Mo_moveWords 99 = .ok (.goto (-48), 3) := by decide +kernel
theorem d_Mo_moveWords_102 : decode b_Mo_moveWords 102 = .ok (.iload 8, 2) := by decide +kernel
theorem d_Mo_moveWords_104 : decode b_Mo_moveWords 104 = .ok (.ifCond .ne 12, 3) := by decide +kernel
theorem d_Mo_moveWords_107 : decode b_Mo_moveWords 107 = .ok (.aload 6, 2) := by decide +kernel
theorem d_Mo_moveWords_109 : decode b_Mo_moveWords 109 = .ok (.bipush 7, 2) := by decide +kernel
theorem d_Mo_moveWords_111 : decode b_Mo_moveWords 111 = .ok (.iconst 0, 1) := by decide +kernel
theorem d_Mo_moveWords_112 : decode b_Mo_moveWords 112 = .ok (.invokevirtual 85, 3) := by decide +kernel
theorem d_Mo_moveWords_115 : decode b_Mo_moveWords 115 = .ok (.return_, 1) := by decide +kernel
theorem d_Mo_moveWords_116 : decode b_Mo_moveWords 116 = .ok (.iconst 0, 1) := by decide +kernel
theorem d_Mo_moveWords_117 : decode b_Mo_moveWords 117 = .ok (.istore 9, 2) := by decide +kernel
theorem d_Mo_moveWords_119 : decode b_Mo_moveWords 119 = .ok (.iload 9, 2) := by decide +kernel
theorem d_Mo_moveWords_121 : decode b_Mo_moveWords 121 = .ok (.iload 7, 2) := by decide +kernel
theorem d_Mo_moveWords_123 : decode b_Mo_moveWords 123 = .ok (.if_icmp .ge 64, 3) := by decide +kernel
theorem d_Mo_moveWords_126 : decode b_Mo_moveWords 126 = .ok (.iload_n 2, 1) := by decide +kernel
theorem d_Mo_moveWords_127 : decode b_Mo_moveWords 127 = .ok (.ifCond .eq 30, 3) := by decide +kernel
theorem d_Mo_moveWords_130 : decode b_Mo_moveWords 130 = .ok (.aload 6, 2) := by decide +kernel
theorem d_Mo_moveWords_132 : decode b_Mo_moveWords 132 = .ok (.iload 4, 2) := by decide +kernel
theorem d_Mo_moveWords_134 : decode b_Mo_moveWords 134 = .ok (.iconst 4, 1) := by decide +kernel
theorem d_Mo_moveWords_135 : decode b_Mo_moveWords 135 = .ok (.iload 9, 2) := by decide +kernel
theorem d_Mo_moveWords_137 : decode b_Mo_moveWords 137 = .ok (.imul, 1) := by decide +kernel
theorem d_Mo_moveWords_138 : decode b_Mo_moveWords 138 = .ok (.iadd, 1) := by decide +kernel
theorem d_Mo_moveWords_139 : decode b_Mo_moveWords 139 = .ok (.aload_n 0, 1) := by decide +kernel
theorem d_Mo_moveWords_140 : decode b_Mo_moveWords 140 = .ok (.getfield 25, 3) := by decide +kernel
theorem d_Mo_moveWords_143 : decode b_Mo_moveWords 143 = .ok (.bipush 16, 2) := by decide +kernel
theorem d_Mo_moveWords_145 : decode b_Mo_moveWords 145 = .ok (.iload_n 3, 1) := by decide +kernel
theorem d_Mo_moveWords_146 : decode b_Mo_moveWords 146 = .ok (.imul, 1) := by decide +kernel
theorem d_Mo_moveWords_147 : decode b_Mo_moveWords 147 = .ok (.iload 9, 2) := by decide +kernel
theorem d_Mo_moveWords_149 : decode b_Mo_moveWords 149 = .ok (.iadd, 1) := by decide +kernel
theorem d_Mo_moveWords_150 : decode b_Mo_moveWords 150 = .ok (.iaload, 1) := by decide +kernel
theorem d_Mo_moveWords_151 : decode b_Mo_moveWords 151 = .ok (.invokevirtual 193, 3) := by decide +kernel
theorem d_Mo_moveWords_154 : decode b_Mo_moveWords 154 = .ok (.goto 27, 3) := by decide +kernel
theorem d_Mo_moveWords_157 : decode b_Mo_moveWords 157 = .ok (.aload_n 0, 1) := by decide +kernel
theorem d_Mo_moveWords_158 : decode b_Mo_moveWords 158 = .ok (.getfield 25, 3) := by decide +kernel
theorem d_Mo_moveWords_161 : decode b_Mo_moveWords 161 = .ok (.bipush 16, 2) := by decide +kernel
theorem d_Mo_moveWords_163 : decode b_Mo_moveWords 163 = .ok (.iload_n 3, 1) := by decide +kernel
theorem d_Mo_moveWords_164 : decode b_Mo_moveWords 164 = .ok (.imul, 1) := by decide +kernel
theorem d_Mo_moveWords_165 : decode b_Mo_moveWords 165 = .ok (.iload 9, 2) := by decide +kernel
theorem d_Mo_moveWords_167 : decode b_Mo_moveWords 167 = .ok (.iadd, 1) := by decide +kernel
theorem d_Mo_moveWords_168 : decode b_Mo_moveWords 168 = .ok (.aload 6, 2) := by decide +kernel
theorem d_Mo_moveWords_170 : decode b_Mo_moveWords 170 = .ok (.iload 4, 2) := by decide +kernel
theorem d_Mo_moveWords_172 : decode b_Mo_moveWords 172 = .ok (.iconst 4, 1) := by decide +kernel
theorem d_Mo_moveWords_173 : decode b_Mo_moveWords 173 = .ok (.iload 9, 2) := by decide +kernel
theorem d_Mo_moveWords_175 : decode b_Mo_moveWords 175 = .ok (.imul, 1) := by decide +kernel
theorem d_Mo_moveWords_176 : decode b_Mo_moveWords 176 = .ok (.iadd, 1) := by decide +kernel
theorem d_Mo_moveWords_177 : decode b_Mo_moveWords 177 = .ok (.invokevirtual 196, 3) := by decide +kernel
theorem d_Mo_moveWords_180 : decode b_Mo_moveWords 180 = .ok (.iastore, 1) := by decide +kernel
theorem d_Mo_moveWords_181 : decode b_Mo_moveWords 181 = .ok (.iinc 9 1, 3) := by decide +kernel
theorem d_Mo_moveWords_184 : decode b_Mo_moveWords 184 = .ok (.goto (-65), 3) := by decide +kernel
theorem d_Mo_moveWords_187 : decode b_Mo_moveWords 187 = .ok (.return_, 1) := by decide +kernel
theorem q_Mo_moveWords : px_y y_Mo_moveWords 5 := by unfold px_y; decide +kernel
set_option maxHeartbeats 4000000 in
set_option maxRecDepth 100000 in
theorem c_mo_moveWords (l : Launch) (D : va_G) (cs : Nat → ClassId) (RR : Nat → Int) (j9 : Nat) (mo : Nat) (mr : Nat → Nat) (mf : Nat → Int32) (md : Nat → Nat → Int32) (hq : Nat → Nat) (qr : Nat → Nat → Nat) (QO : Nat → Option Nat) (QF : Nat → Nat → Int32) (QA : Nat → Nat → Nat → Int32) (PG : Nat → Pgs) (p0 p1 p2 p3 p4 : Int32)  (g0 : 0 ≤ p0.toInt) (g1 : p0.toInt < 13) (g2 : (QF p0.toNatClampNeg 1).toInt = 1) (g3 : (QF p0.toNatClampNeg 2).toInt = -2) (hpr : PrA PG RR QO QF QA) (hpg : PgA PG) (hj9 : j9 < 8) (h66 : ((PG j9).xf 66).toInt = 2) (hqo : OqE (QO p0.toNatClampNeg) (PG j9).h) (hrw : PsW (RR p0.toNatClampNeg) (QF p0.toNatClampNeg)) : MetV l y_Mo_moveWords b_Mo_moveWords 10 D cs 4 160 (0) (0) [.ref mo, .int p0, .int p1, .int p2, .int p3, .int p4] [wd_Mo cs mo mr (fun _ => none) mf md (gMo PG hq), fm 13 (fPr cs hq qr QO QF QA), fm 8 (fPg cs PG)] (oX (fun A U H => (∀ j : Nat, j < 8 → oP A (PG j).g U H)) [wd_Mo cs mo mr (fun _ => none) mf md (gMo PG hq), fm 13 (fPr cs hq qr QO QF QA), fm 8 (fPg cs PG)]) (fun ps => ∃ (mf' : Nat → Int32) (md' : Nat → Nat → Int32) (QO' : Nat → Option Nat) (QF' : Nat → Nat → Int32) (QA' : Nat → Nat → Nat → Int32), (ps = [wd_Mo cs mo mr (fun _ => none) mf' md' (gMo PG hq), fm 13 (fPr cs hq qr QO' QF' QA'), fm 8 (fPg cs PG)]) ∧ (PrA PG RR QO' QF' QA') ∧ (OqE (QO' p0.toNatClampNeg) (PG j9).h) ∧ (KpW QO QF QO' QF' p0.toNatClampNeg) ∧ ((mf' 0).toInt = (mf 0).toInt) ∧ ((mf' 2).toInt = (mf 2).toInt) ∧ ((mf' 3).toInt = (mf 3).toInt) ∧ ((mf' 7).toInt = (mf 7).toInt) ∧ ((mf' 8).toInt = (mf 8).toInt) ∧ ((mf' 9).toInt = (mf 9).toInt) ∧ ((mf' 10).toInt = (mf 10).toInt)) := by
  refine px_enter (by decide) (Nat.le_of_ble_eq_true rfl) ?_
  intro p e s m below meth c A ls hAe S hr hlk hnm hA hT hX hw hl
  replace hl : lv_has ls 10 [(0, .ref mo), (1, .int p0), (2, .int p1), (3, .int p2), (4, .int p3), (5, .int p4)] := hl
  have lp0 := Int32.le_toInt p0
  have up0 := Int32.toInt_lt p0
  have lp1 := Int32.le_toInt p1
  have up1 := Int32.toInt_lt p1
  have lp2 := Int32.le_toInt p2
  have up2 := Int32.toInt_lt p2
  have lp3 := Int32.le_toInt p3
  have up3 := Int32.toInt_lt p3
  have lp4 := Int32.le_toInt p4
  have up4 := Int32.toInt_lt p4
  have cst0 : (0 : Int32).toInt = 0 := rfl
  have cst1 : (1 : Int32).toInt = 1 := rfl
  have cst4 : (4 : Int32).toInt = 4 := rfl
  have cst7 : (7 : Int32).toInt = 7 := rfl
  have cst16 : (16 : Int32).toInt = 16 := rfl
  have hX : (fun A U H => (∀ j : Nat, j < 8 → oP A (PG j).g U H)) A s s.heap := by rw [hAe]; exact hX
  have hGG := hX
  have hkw : KpW QO QF QO QF p0.toNatClampNeg := ⟨rfl, KpF.rf⟩
  have hrw0 := hrw
  have hqoE : QO p0.toNatClampNeg = some (PG j9).h := hqo
  unfold PsW at hrw0
  have J119 : ∀ (n_119 : Nat) (mf_119 : Nat → Int32) (md_119 : Nat → Nat → Int32) (QO_119 : Nat → Option Nat) (QF_119 : Nat → Nat → Int32) (QA_119 : Nat → Nat → Nat → Int32) (x119_7 x119_9 : Int32) (H : Heap) (locs : List Loc) (ls : Array Slot), ((mf_119 0).toInt = (mf 0).toInt) → ((mf_119 2).toInt = (mf 2).toInt) → ((mf_119 3).toInt = (mf 3).toInt) → ((mf_119 7).toInt = (mf 7).toInt) → ((mf_119 8).toInt = (mf 8).toInt) → ((mf_119 9).toInt = (mf 9).toInt) → ((mf_119 10).toInt = (mf 10).toInt) → (PrA PG RR QO_119 QF_119 QA_119) → (OqE (QO_119 p0.toNatClampNeg) (PG j9).h) → (KpW QO QF QO_119 QF_119 p0.toNatClampNeg) → (p0.toInt = 0) → (0 ≤ p2.toInt) → (p2.toInt < 8) → (x119_7.toInt ≤ 16) → (0 ≤ x119_9.toInt) → (RdLw p1.toInt p3.toInt x119_7.toInt ((PG j9).xf 68).toInt) → 17 - x119_9.toInt + 4294967296 < (n_119 : Int) → pw D A s.heap H locs [wd_Mo cs mo mr (fun _ => none) mf_119 md_119 (gMo PG hq), fm 13 (fPr cs hq qr QO_119 QF_119 QA_119), fm 8 (fPg cs PG)] → lv_has ls 10 [(0, .ref mo), (1, .int p0), (2, .int p1), (3, .int p2), (4, .int p3), (5, .int p4), (6, .ref (hq p0.toNatClampNeg)), (7, .int x119_7), (9, .int x119_9)] → W p l e { frames := 4, cells := 0, slots := 0, locals := 160 } s m [.ref mo, .int p0, .int p1, .int p2, .int p3, .int p4].toArray below meth c H locs 0 0 (MQ below (va_Qv (fun ps => ∃ (mf' : Nat → Int32) (md' : Nat → Nat → Int32) (QO' : Nat → Option Nat) (QF' : Nat → Nat → Int32) (QA' : Nat → Nat → Nat → Int32), (ps = [wd_Mo cs mo mr (fun _ => none) mf' md' (gMo PG hq), fm 13 (fPr cs hq qr QO' QF' QA'), fm 8 (fPg cs PG)]) ∧ (PrA PG RR QO' QF' QA') ∧ (OqE (QO' p0.toNatClampNeg) (PG j9).h) ∧ (KpW QO QF QO' QF' p0.toNatClampNeg) ∧ ((mf' 0).toInt = (mf 0).toInt) ∧ ((mf' 2).toInt = (mf 2).toInt) ∧ ((mf' 3).toInt = (mf 3).toInt) ∧ ((mf' 7).toInt = (mf 7).toInt) ∧ ((mf' 8).toInt = (mf 8).toInt) ∧ ((mf' 9).toInt = (mf 9).toInt) ∧ ((mf' 10).toInt = (mf 10).toInt)) (pc_B D (va_A ([wd_Mo cs mo mr (fun _ => none) mf md (gMo PG hq), fm 13 (fPr cs hq qr QO QF QA), fm 8 (fPg cs PG)] : List va_W).flatten s.heap.size)) (va_A ([wd_Mo cs mo mr (fun _ => none) mf md (gMo PG hq), fm 13 (fPr cs hq qr QO QF QA), fm 8 (fPg cs PG)] : List va_W).flatten s.heap.size)) [.ref mo, .int p0, .int p1, .int p2, .int p3, .int p4].toArray s 0 0 A) (F0 m 119 ls []) := by
    intro  n_119
    induction n_119 with
    | zero =>
      intro mf_119 md_119 QO_119 QF_119 QA_119 x119_7 x119_9 H locs ls k119_0 k119_1 k119_2 k119_3 k119_4 k119_5 k119_6 k119_7 k119_8 k119_9 k119_10 k119_11 k119_12 k119_13 k119_14 k119_15 hm hw hl
      have lx119_7 := Int32.le_toInt x119_7
      have ux119_7 := Int32.toInt_lt x119_7
      have lx119_9 := Int32.le_toInt x119_9
      have ux119_9 := Int32.toInt_lt x119_9
      have hpr := k119_7
      have hqo := k119_8
      have hkw := k119_9
      have hkf := hkw.2
      unfold KpF at hkf
      have hrl := k119_15
      exact absurd hm (by omega)
    | succ n_119 ih119 =>
      intro mf_119 md_119 QO_119 QF_119 QA_119 x119_7 x119_9 H locs ls k119_0 k119_1 k119_2 k119_3 k119_4 k119_5 k119_6 k119_7 k119_8 k119_9 k119_10 k119_11 k119_12 k119_13 k119_14 k119_15 hm hw hl
      have lx119_7 := Int32.le_toInt x119_7
      have ux119_7 := Int32.toInt_lt x119_7
      have lx119_9 := Int32.le_toInt x119_9
      have ux119_9 := Int32.toInt_lt x119_9
      have hpr := k119_7
      have hqo := k119_8
      have hkw := k119_9
      have hkf := hkw.2
      unfold KpF at hkf
      have hrl := k119_15
      refine lv_iload S.x S.b d_Mo_moveWords_119 (lv_at hl 8 rfl) ?_
      refine lv_iload S.x S.b d_Mo_moveWords_121 (lv_at hl 7 rfl) ?_
      refine lv_icmp_ge (tgt := 187) S.x S.b d_Mo_moveWords_123 (by decide) (fun c1 => ?_) (fun c1 => ?_)
      · have nc1 : x119_7.toInt ≤ x119_9.toInt := (i_le (x := x119_7) (y := x119_9)).mp c1
        exact px_vret S hr hlk hAe hw (Nat.le_of_ble_eq_true rfl) (Nat.le_of_ble_eq_true rfl) (⟨mf_119, md_119, QO_119, QF_119, QA_119, rfl, (show PrA PG RR QO_119 QF_119 QA_119 from hpr), (show OqE (QO_119 p0.toNatClampNeg) (PG j9).h from hqo), (show KpW QO QF QO_119 QF_119 p0.toNatClampNeg from hkw), (show (mf_119 0).toInt = (mf 0).toInt from by first | exact k119_0 | omega), (show (mf_119 2).toInt = (mf 2).toInt from by first | exact k119_1 | omega), (show (mf_119 3).toInt = (mf 3).toInt from by first | exact k119_2 | omega), (show (mf_119 7).toInt = (mf 7).toInt from by first | exact k119_3 | omega), (show (mf_119 8).toInt = (mf 8).toInt from by first | exact k119_4 | omega), (show (mf_119 9).toInt = (mf 9).toInt from by first | exact k119_5 | omega), (show (mf_119 10).toInt = (mf 10).toInt from by first | exact k119_6 | omega)⟩) d_Mo_moveWords_187
      · have nc1 : ¬ x119_7.toInt ≤ x119_9.toInt := mt (i_le (x := x119_7) (y := x119_9)).mpr c1
        refine lv_iload_n S.x S.b d_Mo_moveWords_126 rfl (lv_at hl 2 rfl) ?_
        refine lv_if_eq (tgt := 157) S.x S.b d_Mo_moveWords_127 (by decide) (fun c2 => ?_) (fun c2 => ?_)
        · have nc2 : p1.toInt = (0 : Int) := (i_eq (x := p1) (y := 0)).mp c2
          refine lv_aload_n S.x S.b d_Mo_moveWords_157 rfl (lv_at hl 0 rfl) ?_
          have hw : pw D A s.heap _ _ [wd_Mo cs mo mr (fun _ => none) mf_119 md_119 (gMo PG hq), fm 8 (fPg cs PG), fm 13 (fPr cs hq qr QO_119 QF_119 QA_119)] := hw.sub [0, 2, 1] rfl rfl
          have hc3 := cl_nat (x := p0) (by first | exact g0 | omega)
          have hi3 : p0.toNatClampNeg < 13 := by first | exact oz_a63a387477 hc3 k119_10 | omega
          have hw : pw D A s.heap _ _ [wd_Mo cs mo mr (fun _ => none) mf_119 md_119 (gMo PG hq), fm 8 (fPg cs PG), fo 13 (fPr cs hq qr QO_119 QF_119 QA_119) p0.toNatClampNeg, wd_Mpr cs (hq p0.toNatClampNeg) (qr p0.toNatClampNeg) (fun _ => QO_119 p0.toNatClampNeg) (QF_119 p0.toNatClampNeg) (QA_119 p0.toNatClampNeg) (fun _ _ => none)] := fm_out (pr := [wd_Mo cs mo mr (fun _ => none) mf_119 md_119 (gMo PG hq), fm 8 (fPg cs PG)]) (T := fPr cs hq qr QO_119 QF_119 QA_119) hw hi3
          have hps3 := hpr.1 p0.toNatClampNeg hi3
          have hpb3 := hps3.1
          unfold PsB at hpb3
          have hw : pw D A s.heap _ _ [wd_Mo cs mo mr (fun _ => none) mf_119 md_119 (gMo PG hq), fm 8 (fPg cs PG), fo 13 (fPr cs hq qr QO_119 QF_119 QA_119) p0.toNatClampNeg, wd_Mpr cs (hq p0.toNatClampNeg) (qr p0.toNatClampNeg) (fun k => if k = 0 then (some (PG j9).h) else none) (QF_119 p0.toNatClampNeg) (QA_119 p0.toNatClampNeg) (fun _ _ => none)] := (by have q8 := hw; rw [wd_oo (o := (fun _ => QO_119 p0.toNatClampNeg)) (o' := (fun k => if k = 0 then (some (PG j9).h) else none)) hqo] at q8; exact q8)
          have hw : pw D A s.heap _ _ [wd_Mo cs mo mr (fun _ => none) mf_119 md_119 (gMo PG hq), fo 13 (fPr cs hq qr QO_119 QF_119 QA_119) p0.toNatClampNeg, wd_Mpr cs (hq p0.toNatClampNeg) (qr p0.toNatClampNeg) (fun k => if k = 0 then (some (PG j9).h) else none) (QF_119 p0.toNatClampNeg) (QA_119 p0.toNatClampNeg) (fun _ _ => none), fm 8 (fPg cs PG)] := hw.sub [0, 2, 3, 1] rfl rfl
          have hw : pw D A s.heap _ _ [wd_Mo cs mo mr (fun _ => none) mf_119 md_119 (gMo PG hq), fo 13 (fPr cs hq qr QO_119 QF_119 QA_119) p0.toNatClampNeg, wd_Mpr cs (hq p0.toNatClampNeg) (qr p0.toNatClampNeg) (fun k => if k = 0 then (some (PG j9).h) else none) (QF_119 p0.toNatClampNeg) (QA_119 p0.toNatClampNeg) (fun _ _ => none), fo 8 (fPg cs PG) j9, wdP cs (PG j9).h (PG j9).r (PG j9).g (PG j9).tf (PG j9).ta (PG j9).pf (PG j9).na (PG j9).ma (PG j9).wa (PG j9).cf (PG j9).ca (PG j9).ef (PG j9).ea (PG j9).xf (PG j9).xa] := fm_out (pr := [wd_Mo cs mo mr (fun _ => none) mf_119 md_119 (gMo PG hq), fo 13 (fPr cs hq qr QO_119 QF_119 QA_119) p0.toNatClampNeg, wd_Mpr cs (hq p0.toNatClampNeg) (qr p0.toNatClampNeg) (fun k => if k = 0 then (some (PG j9).h) else none) (QF_119 p0.toNatClampNeg) (QA_119 p0.toNatClampNeg) (fun _ _ => none)]) (T := fPg cs PG) hw hj9
          have hpo4 := hpg j9 hj9
          have hp14 := hpo4.1
          have hp24 := hpo4.2.1
          have hP := hGG j9 hj9
          have hck := (hrl x119_9.toInt (by omega) (by omega)).2 (by omega); unfold TxW ClX at hck
          refine px_get S k_Mo hT hw 0 0 6 (v := .ref (mr 6)) rfl rfl rfl (by decide) m11_84 d_Mo_moveWords_158 ?_
          refine lv_bipush (v := 16) S.x S.b d_Mo_moveWords_161 (by decide) ?_
          refine lv_iload_n S.x S.b d_Mo_moveWords_163 rfl (lv_at hl 3 rfl) ?_
          refine lv_imul S.x S.b d_Mo_moveWords_164 ?_
          refine lv_topi (fun z5 ez5 => ?_)
          have lz5 := Int32.le_toInt z5
          have uz5 := Int32.toInt_lt z5
          have tz5 : -2147483648 ≤ 16 * p2.toInt → 16 * p2.toInt < 2147483648 → z5.toInt = 16 * p2.toInt := by rw [ez5]; exact i_mulc 16 p2 (by decide)
          try replace tz5 : z5.toInt = 16 * p2.toInt := by omega
          refine lv_iload S.x S.b d_Mo_moveWords_165 (lv_at hl 8 rfl) ?_
          refine lv_iadd S.x S.b d_Mo_moveWords_167 ?_
          refine lv_topi (fun z6 ez6 => ?_)
          have tz6 : z6.toInt = (z5.toInt + x119_9.toInt + 2147483648) % 4294967296 - 2147483648 := by rw [ez6]; exact i_add z5 x119_9
          have lz6 := Int32.le_toInt z6
          have uz6 := Int32.toInt_lt z6
          try replace tz6 : z6.toInt = z5.toInt + x119_9.toInt := by omega
          refine lv_aload S.x S.b d_Mo_moveWords_168 (lv_at hl 6 rfl) ?_
          refine lv_iload S.x S.b d_Mo_moveWords_170 (lv_at hl 4 rfl) ?_
          refine lv_iconst (v := 4) S.x S.b d_Mo_moveWords_172 (by decide) ?_
          refine lv_iload S.x S.b d_Mo_moveWords_173 (lv_at hl 8 rfl) ?_
          refine lv_imul S.x S.b d_Mo_moveWords_175 ?_
          refine lv_topi (fun z7 ez7 => ?_)
          have lz7 := Int32.le_toInt z7
          have uz7 := Int32.toInt_lt z7
          have tz7 : -2147483648 ≤ 4 * x119_9.toInt → 4 * x119_9.toInt < 2147483648 → z7.toInt = 4 * x119_9.toInt := by rw [ez7]; exact i_mulc 4 x119_9 (by decide)
          try replace tz7 : z7.toInt = 4 * x119_9.toInt := by omega
          refine lv_iadd S.x S.b d_Mo_moveWords_176 ?_
          refine lv_topi (fun z8 ez8 => ?_)
          have tz8 : z8.toInt = (p3.toInt + z7.toInt + 2147483648) % 4294967296 - 2147483648 := by rw [ez8]; exact i_add p3 z7
          have lz8 := Int32.le_toInt z8
          have uz8 := Int32.toInt_lt z8
          try replace tz8 : z8.toInt = p3.toInt + z7.toInt := by omega
          have hw : pw D A s.heap _ _ [wd_Mo cs mo mr (fun _ => none) mf_119 md_119 (gMo PG hq), fo 13 (fPr cs hq qr QO_119 QF_119 QA_119) p0.toNatClampNeg, fo 8 (fPg cs PG) j9, wd_Mpr cs (hq p0.toNatClampNeg) (qr p0.toNatClampNeg) (fun k => if k = 0 then (some (PG j9).h) else none) (QF_119 p0.toNatClampNeg) (QA_119 p0.toNatClampNeg) (fun _ _ => none), wdP cs (PG j9).h (PG j9).r (PG j9).g (PG j9).tf (PG j9).ta (PG j9).pf (PG j9).na (PG j9).ma (PG j9).wa (PG j9).cf (PG j9).ca (PG j9).ef (PG j9).ea (PG j9).xf (PG j9).xa] := hw.sub [0, 1, 3, 2, 4] rfl rfl
          refine px_calli (pr := [wd_Mo cs mo mr (fun _ => none) mf_119 md_119 (gMo PG hq), fo 13 (fPr cs hq qr QO_119 QF_119 QA_119) p0.toNatClampNeg, fo 8 (fPg cs PG) j9]) (px_runV (As := [.int z8]) (rest := [.int z6, .ref (mr 6)]) S (c_mr_wordAt l D cs (0 : Int) (hq p0.toNatClampNeg) (qr p0.toNatClampNeg) (fun _ _ => none) (QF_119 p0.toNatClampNeg) (QA_119 p0.toNatClampNeg) (PG j9).h (PG j9).r (PG j9).g (PG j9).tf (PG j9).ta (PG j9).pf (PG j9).na (PG j9).ma (PG j9).wa (PG j9).cf (PG j9).ca (PG j9).ef (PG j9).ea (PG j9).xf (PG j9).xa z8  (show 0 ≤ ((PG j9).xf 68).toInt from by first | with_reducible rfl | with_reducible assumption | omega) (show ((PG j9).xf 68).toInt ≤ 512 from by first | with_reducible rfl | with_reducible assumption | omega) (show (4194304 ≤ z8.toInt % 4294967296 ∧ z8.toInt % 4294967296 < 4194304 + (4 * ((PG j9).xf 68).toInt + 4095) / 4096 * 4096) ∨ (5242880 ≤ z8.toInt % 4294967296 ∧ z8.toInt % 4294967296 < 5259264) ∨ (8257536 ≤ z8.toInt % 4294967296 ∧ z8.toInt % 4294967296 < 8388608) from by first | with_reducible rfl | with_reducible assumption | omega) _) hT (pr := [wd_Mo cs mo mr (fun _ => none) mf_119 md_119 (gMo PG hq), fo 13 (fPr cs hq qr QO_119 QF_119 QA_119) p0.toNatClampNeg, fo 8 (fPg cs PG) j9]) (pcs := [wd_Mpr cs (hq p0.toNatClampNeg) (qr p0.toNatClampNeg) (fun k => if k = 0 then (some (PG j9).h) else none) (QF_119 p0.toNatClampNeg) (QA_119 p0.toNatClampNeg) (fun _ _ => none), wdP cs (PG j9).h (PG j9).r (PG j9).g (PG j9).tf (PG j9).ta (PG j9).pf (PG j9).na (PG j9).ma (PG j9).wa (PG j9).cf (PG j9).ca (PG j9).ef (PG j9).ea (PG j9).xf (PG j9).xa]) hw (oX_call (P := (fun A U H => (oP A (PG j9).g U H))) (pr := [wd_Mo cs mo mr (fun _ => none) mf_119 md_119 (gMo PG hq), fo 13 (fPr cs hq qr QO_119 QF_119 QA_119) p0.toNatClampNeg, fo 8 (fPg cs PG) j9]) oG_P hw hA hP) (px_recv hT hw 3 0 rfl rfl rfl) m13_197 m14_98 m13_195 m13_196 m1_22 q_Mpr_wordAt ⟨Nat.le_of_ble_eq_true rfl, Nat.le_of_ble_eq_true rfl⟩ hl.1 rfl (Nat.le_of_ble_eq_true rfl) d_Mo_moveWords_177 ⟨Nat.le_of_ble_eq_true rfl, Nat.le_of_ble_eq_true rfl⟩) hw hA (fun v10 p9 H locs hp9 hw => ?_)
          subst hp9
          replace hw : pw D A s.heap H locs [wd_Mo cs mo mr (fun _ => none) mf_119 md_119 (gMo PG hq), fo 13 (fPr cs hq qr QO_119 QF_119 QA_119) p0.toNatClampNeg, fo 8 (fPg cs PG) j9, wd_Mpr cs (hq p0.toNatClampNeg) (qr p0.toNatClampNeg) (fun k => if k = 0 then (some (PG j9).h) else none) (QF_119 p0.toNatClampNeg) (QA_119 p0.toNatClampNeg) (fun _ _ => none), wdP cs (PG j9).h (PG j9).r (PG j9).g (PG j9).tf (PG j9).ta (PG j9).pf (PG j9).na (PG j9).ma (PG j9).wa (PG j9).cf (PG j9).ca (PG j9).ef (PG j9).ea (PG j9).xf (PG j9).xa] := hw
          have lv10 := Int32.le_toInt v10
          have uv10 := Int32.toInt_lt v10
          refine px_iast S hT hw 0 4 (n := 128) (f := (md_119 6)) (x := z6) (y := v10) rfl (ga_Mo_6 _ _ _ _ _ _ _) (vp_in_iff.mpr (by constructor <;> omega)) d_Mo_moveWords_180 (w' := wd_Mo cs mo mr (fun _ => none) mf_119 (va_up md_119 6 (upd (md_119 6) z6.toNatClampNeg v10)) (gMo PG hq)) (ps' := [wd_Mo cs mo mr (fun _ => none) mf_119 (va_up md_119 6 (upd (md_119 6) z6.toNatClampNeg v10)) (gMo PG hq), fo 13 (fPr cs hq qr QO_119 QF_119 QA_119) p0.toNatClampNeg, fo 8 (fPg cs PG) j9, wd_Mpr cs (hq p0.toNatClampNeg) (qr p0.toNatClampNeg) (fun k => if k = 0 then (some (PG j9).h) else none) (QF_119 p0.toNatClampNeg) (QA_119 p0.toNatClampNeg) (fun _ _ => none), wdP cs (PG j9).h (PG j9).r (PG j9).g (PG j9).tf (PG j9).ta (PG j9).pf (PG j9).na (PG j9).ma (PG j9).wa (PG j9).cf (PG j9).ca (PG j9).ef (PG j9).ea (PG j9).xf (PG j9).xa]) (sa_Mo_6 _ _ _ _ _ _ _ _) rfl (fun H locs hw => ?_)
          obtain ⟨z11, ez11⟩ : ∃ y : Int32, y = x119_9 + 1 := ⟨_, rfl⟩
          have tz11 : z11.toInt = (x119_9.toInt + 1 + 2147483648) % 4294967296 - 2147483648 := by rw [ez11]; exact i_add x119_9 1
          have lz11 := Int32.le_toInt z11
          have uz11 := Int32.toInt_lt z11
          try replace tz11 : z11.toInt = x119_9.toInt + 1 := by omega
          refine lv_iinc (v := z11) (lv' := [(9, .int z11), (0, .ref mo), (1, .int p0), (2, .int p1), (3, .int p2), (4, .int p3), (5, .int p4), (6, .ref (hq p0.toNatClampNeg)), (7, .int x119_7)]) S.x S.b d_Mo_moveWords_181 hl (k := 8) rfl (by rw [ez11]; rfl) (by decide) rfl (fun ls hl => ?_)
          refine lv_goto (tgt := 119) S.x S.b d_Mo_moveWords_184 (by decide) ?_
          have hw : pw D A s.heap _ _ [wd_Mo cs mo mr (fun _ => none) mf_119 (va_up md_119 6 (upd (md_119 6) z6.toNatClampNeg v10)) (gMo PG hq), fo 8 (fPg cs PG) j9, wdP cs (PG j9).h (PG j9).r (PG j9).g (PG j9).tf (PG j9).ta (PG j9).pf (PG j9).na (PG j9).ma (PG j9).wa (PG j9).cf (PG j9).ca (PG j9).ef (PG j9).ea (PG j9).xf (PG j9).xa, fo 13 (fPr cs hq qr QO_119 QF_119 QA_119) p0.toNatClampNeg, wd_Mpr cs (hq p0.toNatClampNeg) (qr p0.toNatClampNeg) (fun k => if k = 0 then (some (PG j9).h) else none) (QF_119 p0.toNatClampNeg) (QA_119 p0.toNatClampNeg) (fun _ _ => none)] := hw.sub [0, 2, 4, 1, 3] rfl rfl
          have hw : pw D A s.heap _ _ [wd_Mo cs mo mr (fun _ => none) mf_119 (va_up md_119 6 (upd (md_119 6) z6.toNatClampNeg v10)) (gMo PG hq), fo 8 (fPg cs PG) j9, wdP cs (PG j9).h (PG j9).r (PG j9).g (PG j9).tf (PG j9).ta (PG j9).pf (PG j9).na (PG j9).ma (PG j9).wa (PG j9).cf (PG j9).ca (PG j9).ef (PG j9).ea (PG j9).xf (PG j9).xa, fm 13 (fPr cs hq qr QO_119 QF_119 QA_119)] := fm_back (pr := [wd_Mo cs mo mr (fun _ => none) mf_119 (va_up md_119 6 (upd (md_119 6) z6.toNatClampNeg v10)) (gMo PG hq), fo 8 (fPg cs PG) j9, wdP cs (PG j9).h (PG j9).r (PG j9).g (PG j9).tf (PG j9).ta (PG j9).pf (PG j9).na (PG j9).ma (PG j9).wa (PG j9).cf (PG j9).ca (PG j9).ef (PG j9).ea (PG j9).xf (PG j9).xa]) (T := fPr cs hq qr QO_119 QF_119 QA_119) (by have q8 := hw; rw [wd_oo (o := (fun k => if k = 0 then (some (PG j9).h) else none)) (o' := fun _ => QO_119 p0.toNatClampNeg) (Eq.symm hqo)] at q8; exact q8) hi3
          have hw : pw D A s.heap _ _ [wd_Mo cs mo mr (fun _ => none) mf_119 (va_up md_119 6 (upd (md_119 6) z6.toNatClampNeg v10)) (gMo PG hq), fm 13 (fPr cs hq qr QO_119 QF_119 QA_119), fo 8 (fPg cs PG) j9, wdP cs (PG j9).h (PG j9).r (PG j9).g (PG j9).tf (PG j9).ta (PG j9).pf (PG j9).na (PG j9).ma (PG j9).wa (PG j9).cf (PG j9).ca (PG j9).ef (PG j9).ea (PG j9).xf (PG j9).xa] := hw.sub [0, 3, 1, 2] rfl rfl
          have hw : pw D A s.heap _ _ [wd_Mo cs mo mr (fun _ => none) mf_119 (va_up md_119 6 (upd (md_119 6) z6.toNatClampNeg v10)) (gMo PG hq), fm 13 (fPr cs hq qr QO_119 QF_119 QA_119), fm 8 (fPg cs PG)] := fm_back (pr := [wd_Mo cs mo mr (fun _ => none) mf_119 (va_up md_119 6 (upd (md_119 6) z6.toNatClampNeg v10)) (gMo PG hq), fm 13 (fPr cs hq qr QO_119 QF_119 QA_119)]) (T := fPg cs PG) hw hj9
          exact ih119 mf_119 (va_up md_119 6 (upd (md_119 6) z6.toNatClampNeg v10)) QO_119 QF_119 QA_119 x119_7 z11 _ _ ls (show (mf_119 0).toInt = (mf 0).toInt from by first | exact k119_0 | omega) (show (mf_119 2).toInt = (mf 2).toInt from by first | exact k119_1 | omega) (show (mf_119 3).toInt = (mf 3).toInt from by first | exact k119_2 | omega) (show (mf_119 7).toInt = (mf 7).toInt from by first | exact k119_3 | omega) (show (mf_119 8).toInt = (mf 8).toInt from by first | exact k119_4 | omega) (show (mf_119 9).toInt = (mf 9).toInt from by first | exact k119_5 | omega) (show (mf_119 10).toInt = (mf 10).toInt from by first | exact k119_6 | omega) (show PrA PG RR QO_119 QF_119 QA_119 from hpr) (show OqE (QO_119 p0.toNatClampNeg) (PG j9).h from hqo) (show KpW QO QF QO_119 QF_119 p0.toNatClampNeg from hkw) (show p0.toInt = 0 from by first | exact k119_10 | omega) (show 0 ≤ p2.toInt from by first | exact k119_11 | omega) (show p2.toInt < 8 from by first | exact k119_12 | omega) (show x119_7.toInt ≤ 16 from by first | exact k119_13 | omega) (show 0 ≤ z11.toInt from by first | exact oz_ae613611c0 tz11 k119_14 | omega) (show RdLw p1.toInt p3.toInt x119_7.toInt ((PG j9).xf 68).toInt from hrl) (show 17 - z11.toInt + 4294967296 < (n_119 : Int) from by first | with_reducible rfl | with_reducible assumption | omega) hw (lv_sub hl [1, 2, 3, 4, 5, 6, 7, 8, 0] rfl)
        · have nc2 : ¬ p1.toInt = (0 : Int) := mt (i_eq (x := p1) (y := 0)).mpr c2
          refine lv_aload S.x S.b d_Mo_moveWords_130 (lv_at hl 6 rfl) ?_
          have hw : pw D A s.heap _ _ [wd_Mo cs mo mr (fun _ => none) mf_119 md_119 (gMo PG hq), fm 8 (fPg cs PG), fm 13 (fPr cs hq qr QO_119 QF_119 QA_119)] := hw.sub [0, 2, 1] rfl rfl
          have hc12 := cl_nat (x := p0) (by first | exact g0 | omega)
          have hi12 : p0.toNatClampNeg < 13 := by first | exact oz_a63a387477 hc12 k119_10 | omega
          have hw : pw D A s.heap _ _ [wd_Mo cs mo mr (fun _ => none) mf_119 md_119 (gMo PG hq), fm 8 (fPg cs PG), fo 13 (fPr cs hq qr QO_119 QF_119 QA_119) p0.toNatClampNeg, wd_Mpr cs (hq p0.toNatClampNeg) (qr p0.toNatClampNeg) (fun _ => QO_119 p0.toNatClampNeg) (QF_119 p0.toNatClampNeg) (QA_119 p0.toNatClampNeg) (fun _ _ => none)] := fm_out (pr := [wd_Mo cs mo mr (fun _ => none) mf_119 md_119 (gMo PG hq), fm 8 (fPg cs PG)]) (T := fPr cs hq qr QO_119 QF_119 QA_119) hw hi12
          have hps12 := hpr.1 p0.toNatClampNeg hi12
          have hpb12 := hps12.1
          unfold PsB at hpb12
          have hw : pw D A s.heap _ _ [wd_Mo cs mo mr (fun _ => none) mf_119 md_119 (gMo PG hq), fm 8 (fPg cs PG), fo 13 (fPr cs hq qr QO_119 QF_119 QA_119) p0.toNatClampNeg, wd_Mpr cs (hq p0.toNatClampNeg) (qr p0.toNatClampNeg) (fun k => if k = 0 then (some (PG j9).h) else none) (QF_119 p0.toNatClampNeg) (QA_119 p0.toNatClampNeg) (fun _ _ => none)] := (by have q8 := hw; rw [wd_oo (o := (fun _ => QO_119 p0.toNatClampNeg)) (o' := (fun k => if k = 0 then (some (PG j9).h) else none)) hqo] at q8; exact q8)
          have hw : pw D A s.heap _ _ [wd_Mo cs mo mr (fun _ => none) mf_119 md_119 (gMo PG hq), fo 13 (fPr cs hq qr QO_119 QF_119 QA_119) p0.toNatClampNeg, wd_Mpr cs (hq p0.toNatClampNeg) (qr p0.toNatClampNeg) (fun k => if k = 0 then (some (PG j9).h) else none) (QF_119 p0.toNatClampNeg) (QA_119 p0.toNatClampNeg) (fun _ _ => none), fm 8 (fPg cs PG)] := hw.sub [0, 2, 3, 1] rfl rfl
          have hw : pw D A s.heap _ _ [wd_Mo cs mo mr (fun _ => none) mf_119 md_119 (gMo PG hq), fo 13 (fPr cs hq qr QO_119 QF_119 QA_119) p0.toNatClampNeg, wd_Mpr cs (hq p0.toNatClampNeg) (qr p0.toNatClampNeg) (fun k => if k = 0 then (some (PG j9).h) else none) (QF_119 p0.toNatClampNeg) (QA_119 p0.toNatClampNeg) (fun _ _ => none), fo 8 (fPg cs PG) j9, wdP cs (PG j9).h (PG j9).r (PG j9).g (PG j9).tf (PG j9).ta (PG j9).pf (PG j9).na (PG j9).ma (PG j9).wa (PG j9).cf (PG j9).ca (PG j9).ef (PG j9).ea (PG j9).xf (PG j9).xa] := fm_out (pr := [wd_Mo cs mo mr (fun _ => none) mf_119 md_119 (gMo PG hq), fo 13 (fPr cs hq qr QO_119 QF_119 QA_119) p0.toNatClampNeg, wd_Mpr cs (hq p0.toNatClampNeg) (qr p0.toNatClampNeg) (fun k => if k = 0 then (some (PG j9).h) else none) (QF_119 p0.toNatClampNeg) (QA_119 p0.toNatClampNeg) (fun _ _ => none)]) (T := fPg cs PG) hw hj9
          have hpo13 := hpg j9 hj9
          have hp113 := hpo13.1
          have hp213 := hpo13.2.1
          have hP := hGG j9 hj9
          have hck := (hrl x119_9.toInt (by omega) (by omega)).1 (by omega); unfold ClX at hck
          refine lv_iload S.x S.b d_Mo_moveWords_132 (lv_at hl 4 rfl) ?_
          refine lv_iconst (v := 4) S.x S.b d_Mo_moveWords_134 (by decide) ?_
          refine lv_iload S.x S.b d_Mo_moveWords_135 (lv_at hl 8 rfl) ?_
          refine lv_imul S.x S.b d_Mo_moveWords_137 ?_
          refine lv_topi (fun z14 ez14 => ?_)
          have lz14 := Int32.le_toInt z14
          have uz14 := Int32.toInt_lt z14
          have tz14 : -2147483648 ≤ 4 * x119_9.toInt → 4 * x119_9.toInt < 2147483648 → z14.toInt = 4 * x119_9.toInt := by rw [ez14]; exact i_mulc 4 x119_9 (by decide)
          try replace tz14 : z14.toInt = 4 * x119_9.toInt := by omega
          refine lv_iadd S.x S.b d_Mo_moveWords_138 ?_
          refine lv_topi (fun z15 ez15 => ?_)
          have tz15 : z15.toInt = (p3.toInt + z14.toInt + 2147483648) % 4294967296 - 2147483648 := by rw [ez15]; exact i_add p3 z14
          have lz15 := Int32.le_toInt z15
          have uz15 := Int32.toInt_lt z15
          try replace tz15 : z15.toInt = p3.toInt + z14.toInt := by omega
          refine lv_aload_n S.x S.b d_Mo_moveWords_139 rfl (lv_at hl 0 rfl) ?_
          refine px_get S k_Mo hT hw 0 0 6 (v := .ref (mr 6)) rfl rfl rfl (by decide) m11_84 d_Mo_moveWords_140 ?_
          refine lv_bipush (v := 16) S.x S.b d_Mo_moveWords_143 (by decide) ?_
          refine lv_iload_n S.x S.b d_Mo_moveWords_145 rfl (lv_at hl 3 rfl) ?_
          refine lv_imul S.x S.b d_Mo_moveWords_146 ?_
          refine lv_topi (fun z16 ez16 => ?_)
          have lz16 := Int32.le_toInt z16
          have uz16 := Int32.toInt_lt z16
          have tz16 : -2147483648 ≤ 16 * p2.toInt → 16 * p2.toInt < 2147483648 → z16.toInt = 16 * p2.toInt := by rw [ez16]; exact i_mulc 16 p2 (by decide)
          try replace tz16 : z16.toInt = 16 * p2.toInt := by omega
          refine lv_iload S.x S.b d_Mo_moveWords_147 (lv_at hl 8 rfl) ?_
          refine lv_iadd S.x S.b d_Mo_moveWords_149 ?_
          refine lv_topi (fun z17 ez17 => ?_)
          have tz17 : z17.toInt = (z16.toInt + x119_9.toInt + 2147483648) % 4294967296 - 2147483648 := by rw [ez17]; exact i_add z16 x119_9
          have lz17 := Int32.le_toInt z17
          have uz17 := Int32.toInt_lt z17
          try replace tz17 : z17.toInt = z16.toInt + x119_9.toInt := by omega
          refine px_iald S hT hw 0 4 (n := 128) (f := (md_119 6)) rfl (ga_Mo_6 _ _ _ _ _ _ _) (x := z17) (vp_in_iff.mpr (by first | exact oz_a9d413b9a3 tz17 k119_14 tz16 k119_11 nc1 k119_12 k119_13 | (constructor <;> omega))) d_Mo_moveWords_150 ?_
          refine lv_topi (fun z18 ez18 => ?_)
          have lz18 := Int32.le_toInt z18
          have uz18 := Int32.toInt_lt z18
          have hw : pw D A s.heap _ _ [wd_Mo cs mo mr (fun _ => none) mf_119 md_119 (gMo PG hq), fo 13 (fPr cs hq qr QO_119 QF_119 QA_119) p0.toNatClampNeg, fo 8 (fPg cs PG) j9, wd_Mpr cs (hq p0.toNatClampNeg) (qr p0.toNatClampNeg) (fun k => if k = 0 then (some (PG j9).h) else none) (QF_119 p0.toNatClampNeg) (QA_119 p0.toNatClampNeg) (fun _ _ => none), wdP cs (PG j9).h (PG j9).r (PG j9).g (PG j9).tf (PG j9).ta (PG j9).pf (PG j9).na (PG j9).ma (PG j9).wa (PG j9).cf (PG j9).ca (PG j9).ef (PG j9).ea (PG j9).xf (PG j9).xa] := hw.sub [0, 1, 3, 2, 4] rfl rfl
          refine px_callv (pr := [wd_Mo cs mo mr (fun _ => none) mf_119 md_119 (gMo PG hq), fo 13 (fPr cs hq qr QO_119 QF_119 QA_119) p0.toNatClampNeg, fo 8 (fPg cs PG) j9]) (px_runV (As := [.int z15, .int z18]) (rest := []) S (c_mr_setWord l D cs (0 : Int) (hq p0.toNatClampNeg) (qr p0.toNatClampNeg) (fun _ _ => none) (QF_119 p0.toNatClampNeg) (QA_119 p0.toNatClampNeg) (PG j9).h (PG j9).r (PG j9).g (PG j9).tf (PG j9).ta (PG j9).pf (PG j9).na (PG j9).ma (PG j9).wa (PG j9).cf (PG j9).ca (PG j9).ef (PG j9).ea (PG j9).xf (PG j9).xa z15 z18  (show (5242880 ≤ z15.toInt % 4294967296 ∧ z15.toInt % 4294967296 < 5259264) ∨ (8257536 ≤ z15.toInt % 4294967296 ∧ z15.toInt % 4294967296 < 8388608) from by first | with_reducible rfl | with_reducible assumption | omega) _) hT (pr := [wd_Mo cs mo mr (fun _ => none) mf_119 md_119 (gMo PG hq), fo 13 (fPr cs hq qr QO_119 QF_119 QA_119) p0.toNatClampNeg, fo 8 (fPg cs PG) j9]) (pcs := [wd_Mpr cs (hq p0.toNatClampNeg) (qr p0.toNatClampNeg) (fun k => if k = 0 then (some (PG j9).h) else none) (QF_119 p0.toNatClampNeg) (QA_119 p0.toNatClampNeg) (fun _ _ => none), wdP cs (PG j9).h (PG j9).r (PG j9).g (PG j9).tf (PG j9).ta (PG j9).pf (PG j9).na (PG j9).ma (PG j9).wa (PG j9).cf (PG j9).ca (PG j9).ef (PG j9).ea (PG j9).xf (PG j9).xa]) hw (oX_call (P := (fun A U H => (oP A (PG j9).g U H))) (pr := [wd_Mo cs mo mr (fun _ => none) mf_119 md_119 (gMo PG hq), fo 13 (fPr cs hq qr QO_119 QF_119 QA_119) p0.toNatClampNeg, fo 8 (fPg cs PG) j9]) oG_P hw hA hP) (px_recv hT hw 3 0 rfl rfl rfl) m14_9 m14_97 m14_7 m14_8 m1_22 q_Mpr_setWord ⟨Nat.le_of_ble_eq_true rfl, Nat.le_of_ble_eq_true rfl⟩ hl.1 rfl (Nat.le_of_ble_eq_true rfl) d_Mo_moveWords_151 ⟨Nat.le_of_ble_eq_true rfl, Nat.le_of_ble_eq_true rfl⟩) hw hA (fun p21 H locs hp21 hw => ?_)
          obtain ⟨qa20, rfl⟩ := hp21
          replace hw : pw D A s.heap H locs [wd_Mo cs mo mr (fun _ => none) mf_119 md_119 (gMo PG hq), fo 13 (fPr cs hq qr QO_119 QF_119 QA_119) p0.toNatClampNeg, fo 8 (fPg cs PG) j9, wd_Mpr cs (hq p0.toNatClampNeg) (qr p0.toNatClampNeg) (fun k => if k = 0 then (some (PG j9).h) else none) (QF_119 p0.toNatClampNeg) qa20 (fun _ _ => none), wdP cs (PG j9).h (PG j9).r (PG j9).g (PG j9).tf (PG j9).ta (PG j9).pf (PG j9).na (PG j9).ma (PG j9).wa (PG j9).cf (PG j9).ca (PG j9).ef (PG j9).ea (PG j9).xf (PG j9).xa] := hw
          refine lv_goto (tgt := 181) S.x S.b d_Mo_moveWords_154 (by decide) ?_
          obtain ⟨z23, ez23⟩ : ∃ y : Int32, y = x119_9 + 1 := ⟨_, rfl⟩
          have tz23 : z23.toInt = (x119_9.toInt + 1 + 2147483648) % 4294967296 - 2147483648 := by rw [ez23]; exact i_add x119_9 1
          have lz23 := Int32.le_toInt z23
          have uz23 := Int32.toInt_lt z23
          try replace tz23 : z23.toInt = x119_9.toInt + 1 := by omega
          refine lv_iinc (v := z23) (lv' := [(9, .int z23), (0, .ref mo), (1, .int p0), (2, .int p1), (3, .int p2), (4, .int p3), (5, .int p4), (6, .ref (hq p0.toNatClampNeg)), (7, .int x119_7)]) S.x S.b d_Mo_moveWords_181 hl (k := 8) rfl (by rw [ez23]; rfl) (by decide) rfl (fun ls hl => ?_)
          refine lv_goto (tgt := 119) S.x S.b d_Mo_moveWords_184 (by decide) ?_
          have hw : pw D A s.heap _ _ [wd_Mo cs mo mr (fun _ => none) mf_119 md_119 (gMo PG hq), fo 8 (fPg cs PG) j9, wdP cs (PG j9).h (PG j9).r (PG j9).g (PG j9).tf (PG j9).ta (PG j9).pf (PG j9).na (PG j9).ma (PG j9).wa (PG j9).cf (PG j9).ca (PG j9).ef (PG j9).ea (PG j9).xf (PG j9).xa, fo 13 (fPr cs hq qr QO_119 QF_119 QA_119) p0.toNatClampNeg, wd_Mpr cs (hq p0.toNatClampNeg) (qr p0.toNatClampNeg) (fun k => if k = 0 then (some (PG j9).h) else none) (QF_119 p0.toNatClampNeg) qa20 (fun _ _ => none)] := hw.sub [0, 2, 4, 1, 3] rfl rfl
          have hw := fpr_in (pr := [wd_Mo cs mo mr (fun _ => none) mf_119 md_119 (gMo PG hq), fo 8 (fPg cs PG) j9, wdP cs (PG j9).h (PG j9).r (PG j9).g (PG j9).tf (PG j9).ta (PG j9).pf (PG j9).na (PG j9).ma (PG j9).wa (PG j9).cf (PG j9).ca (PG j9).ef (PG j9).ea (PG j9).xf (PG j9).xa]) hw hi12
          obtain ⟨QO24, hu_QO24⟩ : ∃ y : Nat → Option Nat, y = va_up QO_119 p0.toNatClampNeg ((fun k => if k = 0 then (some (PG j9).h) else none) 0) := ⟨_, rfl⟩
          obtain ⟨QF25, hu_QF25⟩ : ∃ y : Nat → Nat → Int32, y = va_up QF_119 p0.toNatClampNeg (QF_119 p0.toNatClampNeg) := ⟨_, rfl⟩
          obtain ⟨QA26, hu_QA26⟩ : ∃ y : Nat → Nat → Nat → Int32, y = va_up QA_119 p0.toNatClampNeg qa20 := ⟨_, rfl⟩
          have hw : pw D A s.heap _ _ [wd_Mo cs mo mr (fun _ => none) mf_119 md_119 (gMo PG hq), fo 8 (fPg cs PG) j9, wdP cs (PG j9).h (PG j9).r (PG j9).g (PG j9).tf (PG j9).ta (PG j9).pf (PG j9).na (PG j9).ma (PG j9).wa (PG j9).cf (PG j9).ca (PG j9).ef (PG j9).ea (PG j9).xf (PG j9).xa, fm 13 (fPr cs hq qr QO24 QF25 QA26)] := (by rw [hu_QO24, hu_QF25, hu_QA26]; exact hw)
          have hpr : PrA PG RR QO24 QF25 QA26 := (by rw [hu_QO24, hu_QF25, hu_QA26]; exact PrA.up hpr (psr_raw (j := j9) hj9 (show _ = some _ from rfl) h66 (show (0 ≤ ((QF_119 p0.toNatClampNeg) 1).toInt ∧ ((QF_119 p0.toNatClampNeg) 1).toInt ≤ 1) ∧ (0 ≤ ((QF_119 p0.toNatClampNeg) 21).toInt ∧ ((QF_119 p0.toNatClampNeg) 21).toInt ≤ 4) ∧ (0 ≤ ((QF_119 p0.toNatClampNeg) 23).toInt ∧ ((QF_119 p0.toNatClampNeg) 23).toInt ≤ 4) ∧ (0 ≤ ((QF_119 p0.toNatClampNeg) 24).toInt ∧ ((QF_119 p0.toNatClampNeg) 24).toInt ≤ 1000000) ∧ (0 ≤ ((QF_119 p0.toNatClampNeg) 6).toInt ∧ ((QF_119 p0.toNatClampNeg) 6).toInt ≤ 3) ∧ (0 ≤ ((QF_119 p0.toNatClampNeg) 7).toInt ∧ ((QF_119 p0.toNatClampNeg) 7).toInt ≤ 1) from by first | with_reducible rfl | with_reducible assumption | omega) (show ((QF_119 p0.toNatClampNeg) 1).toInt = 1 from by first | with_reducible rfl | with_reducible assumption | omega) (show 0 ≤ ((QF_119 p0.toNatClampNeg) 4).toInt ∧ ((QF_119 p0.toNatClampNeg) 4).toInt + 1 ≤ RR p0.toNatClampNeg ∧ ((QF_119 p0.toNatClampNeg) 24).toInt + ((QF_119 p0.toNatClampNeg) 4).toInt ≤ 1600 from by first | with_reducible rfl | with_reducible assumption | omega)) (show ((QF_119 p0.toNatClampNeg) 1).toInt = (QF_119 p0.toNatClampNeg 1).toInt from by first | exact oz_507c05ca68 | omega) (show (QF_119 p0.toNatClampNeg 6).toInt ≤ ((QF_119 p0.toNatClampNeg) 6).toInt from by first | exact oz_1cb5f934a5 | omega))
          have hqo : OqE (QO24 p0.toNatClampNeg) (PG j9).h := (by rw [hu_QO24, va_up_s]; exact rfl)
          have hkw : KpW QO QF QO24 QF25 p0.toNatClampNeg := ⟨hqo.trans hqoE.symm, (by rw [hu_QF25, va_up_s]; exact (show (((QF_119 p0.toNatClampNeg) 1).toInt = (QF p0.toNatClampNeg 1).toInt ∧ ((QF_119 p0.toNatClampNeg) 4).toInt = (QF p0.toNatClampNeg 4).toInt ∧ ((QF_119 p0.toNatClampNeg) 5).toInt = (QF p0.toNatClampNeg 5).toInt ∧ ((QF_119 p0.toNatClampNeg) 7).toInt = (QF p0.toNatClampNeg 7).toInt ∧ ((QF_119 p0.toNatClampNeg) 10).toInt = (QF p0.toNatClampNeg 10).toInt ∧ ((QF_119 p0.toNatClampNeg) 11).toInt = (QF p0.toNatClampNeg 11).toInt) ∧ ((QF_119 p0.toNatClampNeg) 12).toInt = (QF p0.toNatClampNeg 12).toInt ∧ ((QF_119 p0.toNatClampNeg) 13).toInt = (QF p0.toNatClampNeg 13).toInt ∧ ((QF_119 p0.toNatClampNeg) 14).toInt = (QF p0.toNatClampNeg 14).toInt ∧ ((QF_119 p0.toNatClampNeg) 24).toInt = (QF p0.toNatClampNeg 24).toInt from by first | with_reducible rfl | with_reducible assumption | omega))⟩
          have hqk1_QF25 : (QF25 p0.toNatClampNeg 1).toInt = ((QF_119 p0.toNatClampNeg) 1).toInt := (by rw [hu_QF25, va_up_s]; try rfl)
          have hqk2_QF25 : (QF25 p0.toNatClampNeg 2).toInt = ((QF_119 p0.toNatClampNeg) 2).toInt := (by rw [hu_QF25, va_up_s]; try rfl)
          have hqk4_QF25 : (QF25 p0.toNatClampNeg 4).toInt = ((QF_119 p0.toNatClampNeg) 4).toInt := (by rw [hu_QF25, va_up_s]; try rfl)
          have hqk24_QF25 : (QF25 p0.toNatClampNeg 24).toInt = ((QF_119 p0.toNatClampNeg) 24).toInt := (by rw [hu_QF25, va_up_s]; try rfl)
          have hw : pw D A s.heap _ _ [wd_Mo cs mo mr (fun _ => none) mf_119 md_119 (gMo PG hq), fm 13 (fPr cs hq qr QO24 QF25 QA26), fo 8 (fPg cs PG) j9, wdP cs (PG j9).h (PG j9).r (PG j9).g (PG j9).tf (PG j9).ta (PG j9).pf (PG j9).na (PG j9).ma (PG j9).wa (PG j9).cf (PG j9).ca (PG j9).ef (PG j9).ea (PG j9).xf (PG j9).xa] := hw.sub [0, 3, 1, 2] rfl rfl
          have hw : pw D A s.heap _ _ [wd_Mo cs mo mr (fun _ => none) mf_119 md_119 (gMo PG hq), fm 13 (fPr cs hq qr QO24 QF25 QA26), fm 8 (fPg cs PG)] := fm_back (pr := [wd_Mo cs mo mr (fun _ => none) mf_119 md_119 (gMo PG hq), fm 13 (fPr cs hq qr QO24 QF25 QA26)]) (T := fPg cs PG) hw hj9
          exact ih119 mf_119 md_119 QO24 QF25 QA26 x119_7 z23 _ _ ls (show (mf_119 0).toInt = (mf 0).toInt from by first | exact k119_0 | omega) (show (mf_119 2).toInt = (mf 2).toInt from by first | exact k119_1 | omega) (show (mf_119 3).toInt = (mf 3).toInt from by first | exact k119_2 | omega) (show (mf_119 7).toInt = (mf 7).toInt from by first | exact k119_3 | omega) (show (mf_119 8).toInt = (mf 8).toInt from by first | exact k119_4 | omega) (show (mf_119 9).toInt = (mf 9).toInt from by first | exact k119_5 | omega) (show (mf_119 10).toInt = (mf 10).toInt from by first | exact k119_6 | omega) (show PrA PG RR QO24 QF25 QA26 from hpr) (show OqE (QO24 p0.toNatClampNeg) (PG j9).h from hqo) (show KpW QO QF QO24 QF25 p0.toNatClampNeg from hkw) (show p0.toInt = 0 from by first | exact k119_10 | omega) (show 0 ≤ p2.toInt from by first | exact k119_11 | omega) (show p2.toInt < 8 from by first | exact k119_12 | omega) (show x119_7.toInt ≤ 16 from by first | exact k119_13 | omega) (show 0 ≤ z23.toInt from by first | exact oz_ae613611c0 tz23 k119_14 | omega) (show RdLw p1.toInt p3.toInt x119_7.toInt ((PG j9).xf 68).toInt from hrl) (show 17 - z23.toInt + 4294967296 < (n_119 : Int) from by first | with_reducible rfl | with_reducible assumption | omega) hw (lv_sub hl [1, 2, 3, 4, 5, 6, 7, 8, 0] rfl)
  have J51 : ∀ (n_51 : Nat) (mf_51 : Nat → Int32) (md_51 : Nat → Nat → Int32) (QO_51 : Nat → Option Nat) (QF_51 : Nat → Nat → Int32) (QA_51 : Nat → Nat → Nat → Int32) (x51_7 x51_8 x51_9 : Int32) (H : Heap) (locs : List Loc) (ls : Array Slot), ((mf_51 0).toInt = (mf 0).toInt) → ((mf_51 2).toInt = (mf 2).toInt) → ((mf_51 3).toInt = (mf 3).toInt) → ((mf_51 7).toInt = (mf 7).toInt) → ((mf_51 8).toInt = (mf 8).toInt) → ((mf_51 9).toInt = (mf 9).toInt) → ((mf_51 10).toInt = (mf 10).toInt) → (PrA PG RR QO_51 QF_51 QA_51) → (OqE (QO_51 p0.toNatClampNeg) (PG j9).h) → (KpW QO QF QO_51 QF_51 p0.toNatClampNeg) → (p0.toInt = 0) → (0 ≤ p2.toInt) → (p2.toInt < 8) → (x51_7.toInt ≤ 16) → (0 ≤ x51_8.toInt) → (x51_8.toInt ≤ 1) → (0 ≤ x51_9.toInt) → (RdG x51_8.toInt (RdLw p1.toInt p3.toInt x51_9.toInt ((PG j9).xf 68).toInt)) → 17 - x51_9.toInt + 4294967296 < (n_51 : Int) → pw D A s.heap H locs [wd_Mo cs mo mr (fun _ => none) mf_51 md_51 (gMo PG hq), fm 13 (fPr cs hq qr QO_51 QF_51 QA_51), fm 8 (fPg cs PG)] → lv_has ls 10 [(0, .ref mo), (1, .int p0), (2, .int p1), (3, .int p2), (4, .int p3), (5, .int p4), (6, .ref (hq p0.toNatClampNeg)), (7, .int x51_7), (8, .int x51_8), (9, .int x51_9)] → W p l e { frames := 4, cells := 0, slots := 0, locals := 160 } s m [.ref mo, .int p0, .int p1, .int p2, .int p3, .int p4].toArray below meth c H locs 0 0 (MQ below (va_Qv (fun ps => ∃ (mf' : Nat → Int32) (md' : Nat → Nat → Int32) (QO' : Nat → Option Nat) (QF' : Nat → Nat → Int32) (QA' : Nat → Nat → Nat → Int32), (ps = [wd_Mo cs mo mr (fun _ => none) mf' md' (gMo PG hq), fm 13 (fPr cs hq qr QO' QF' QA'), fm 8 (fPg cs PG)]) ∧ (PrA PG RR QO' QF' QA') ∧ (OqE (QO' p0.toNatClampNeg) (PG j9).h) ∧ (KpW QO QF QO' QF' p0.toNatClampNeg) ∧ ((mf' 0).toInt = (mf 0).toInt) ∧ ((mf' 2).toInt = (mf 2).toInt) ∧ ((mf' 3).toInt = (mf 3).toInt) ∧ ((mf' 7).toInt = (mf 7).toInt) ∧ ((mf' 8).toInt = (mf 8).toInt) ∧ ((mf' 9).toInt = (mf 9).toInt) ∧ ((mf' 10).toInt = (mf 10).toInt)) (pc_B D (va_A ([wd_Mo cs mo mr (fun _ => none) mf md (gMo PG hq), fm 13 (fPr cs hq qr QO QF QA), fm 8 (fPg cs PG)] : List va_W).flatten s.heap.size)) (va_A ([wd_Mo cs mo mr (fun _ => none) mf md (gMo PG hq), fm 13 (fPr cs hq qr QO QF QA), fm 8 (fPg cs PG)] : List va_W).flatten s.heap.size)) [.ref mo, .int p0, .int p1, .int p2, .int p3, .int p4].toArray s 0 0 A) (F0 m 51 ls []) := by
    intro  n_51
    induction n_51 with
    | zero =>
      intro mf_51 md_51 QO_51 QF_51 QA_51 x51_7 x51_8 x51_9 H locs ls k51_0 k51_1 k51_2 k51_3 k51_4 k51_5 k51_6 k51_7 k51_8 k51_9 k51_10 k51_11 k51_12 k51_13 k51_14 k51_15 k51_16 k51_17 hm hw hl
      have lx51_7 := Int32.le_toInt x51_7
      have ux51_7 := Int32.toInt_lt x51_7
      have lx51_8 := Int32.le_toInt x51_8
      have ux51_8 := Int32.toInt_lt x51_8
      have lx51_9 := Int32.le_toInt x51_9
      have ux51_9 := Int32.toInt_lt x51_9
      have hpr := k51_7
      have hqo := k51_8
      have hkw := k51_9
      have hkf := hkw.2
      unfold KpF at hkf
      have hrd := k51_17
      exact absurd hm (by omega)
    | succ n_51 ih51 =>
      intro mf_51 md_51 QO_51 QF_51 QA_51 x51_7 x51_8 x51_9 H locs ls k51_0 k51_1 k51_2 k51_3 k51_4 k51_5 k51_6 k51_7 k51_8 k51_9 k51_10 k51_11 k51_12 k51_13 k51_14 k51_15 k51_16 k51_17 hm hw hl
      have lx51_7 := Int32.le_toInt x51_7
      have ux51_7 := Int32.toInt_lt x51_7
      have lx51_8 := Int32.le_toInt x51_8
      have ux51_8 := Int32.toInt_lt x51_8
      have lx51_9 := Int32.le_toInt x51_9
      have ux51_9 := Int32.toInt_lt x51_9
      have hpr := k51_7
      have hqo := k51_8
      have hkw := k51_9
      have hkf := hkw.2
      unfold KpF at hkf
      have hrd := k51_17
      refine lv_iload S.x S.b d_Mo_moveWords_51 (lv_at hl 9 rfl) ?_
      refine lv_iload S.x S.b d_Mo_moveWords_53 (lv_at hl 7 rfl) ?_
      refine lv_icmp_ge (tgt := 102) S.x S.b d_Mo_moveWords_55 (by decide) (fun c27 => ?_) (fun c27 => ?_)
      · have nc27 : x51_7.toInt ≤ x51_9.toInt := (i_le (x := x51_7) (y := x51_9)).mp c27
        refine lv_iload S.x S.b d_Mo_moveWords_102 (lv_at hl 8 rfl) ?_
        refine lv_if_ne (tgt := 116) S.x S.b d_Mo_moveWords_104 (by decide) (fun c28 => ?_) (fun c28 => ?_)
        · have nc28 : ¬ x51_8.toInt = (0 : Int) := mt (i_eq (x := x51_8) (y := 0)).mpr c28
          refine lv_iconst (v := 0) S.x S.b d_Mo_moveWords_116 (by decide) ?_
          refine lv_istore (lv' := [(9, .int 0), (0, .ref mo), (1, .int p0), (2, .int p1), (3, .int p2), (4, .int p3), (5, .int p4), (6, .ref (hq p0.toNatClampNeg)), (7, .int x51_7), (8, .int x51_8)]) S.x S.b d_Mo_moveWords_117 hl (by decide) rfl (fun ls hl => ?_)
          exact J119 ((17 - (0 : Int) + 4294967296).toNat + 1) mf_51 md_51 QO_51 QF_51 QA_51 x51_7 (0 : Int32) _ _ ls (show (mf_51 0).toInt = (mf 0).toInt from by first | exact k51_0 | omega) (show (mf_51 2).toInt = (mf 2).toInt from by first | exact k51_1 | omega) (show (mf_51 3).toInt = (mf 3).toInt from by first | exact k51_2 | omega) (show (mf_51 7).toInt = (mf 7).toInt from by first | exact k51_3 | omega) (show (mf_51 8).toInt = (mf 8).toInt from by first | exact k51_4 | omega) (show (mf_51 9).toInt = (mf 9).toInt from by first | exact k51_5 | omega) (show (mf_51 10).toInt = (mf 10).toInt from by first | exact k51_6 | omega) (show PrA PG RR QO_51 QF_51 QA_51 from hpr) (show OqE (QO_51 p0.toNatClampNeg) (PG j9).h from hqo) (show KpW QO QF QO_51 QF_51 p0.toNatClampNeg from hkw) (show p0.toInt = 0 from by first | exact k51_10 | omega) (show 0 ≤ p2.toInt from by first | exact k51_11 | omega) (show p2.toInt < 8 from by first | exact k51_12 | omega) (show x51_7.toInt ≤ 16 from by first | exact k51_13 | omega) (show 0 ≤ (0 : Int) from by first | decide | omega) (show RdLw p1.toInt p3.toInt x51_7.toInt ((PG j9).xf 68).toInt from (fun k9 a9 b9 => hrd (by omega) k9 a9 (by omega))) (show 17 - (0 : Int) + 4294967296 < ((((17 - (0 : Int) + 4294967296).toNat + 1 : Nat) : Int) : Int) from by first | exact oz_natlt | omega) hw (lv_sub hl [1, 2, 3, 4, 5, 6, 7, 8, 0] rfl)
        · have nc28 : x51_8.toInt = (0 : Int) := (i_eq (x := x51_8) (y := 0)).mp c28
          refine lv_aload S.x S.b d_Mo_moveWords_107 (lv_at hl 6 rfl) ?_
          refine lv_bipush (v := 7) S.x S.b d_Mo_moveWords_109 (by decide) ?_
          refine lv_iconst (v := 0) S.x S.b d_Mo_moveWords_111 (by decide) ?_
          have hw : pw D A s.heap _ _ [wd_Mo cs mo mr (fun _ => none) mf_51 md_51 (gMo PG hq), fm 8 (fPg cs PG), fm 13 (fPr cs hq qr QO_51 QF_51 QA_51)] := hw.sub [0, 2, 1] rfl rfl
          have hc29 := cl_nat (x := p0) (by first | exact g0 | omega)
          have hi29 : p0.toNatClampNeg < 13 := by first | exact oz_a63a387477 hc29 k51_10 | omega
          have hw : pw D A s.heap _ _ [wd_Mo cs mo mr (fun _ => none) mf_51 md_51 (gMo PG hq), fm 8 (fPg cs PG), fo 13 (fPr cs hq qr QO_51 QF_51 QA_51) p0.toNatClampNeg, wd_Mpr cs (hq p0.toNatClampNeg) (qr p0.toNatClampNeg) (fun _ => QO_51 p0.toNatClampNeg) (QF_51 p0.toNatClampNeg) (QA_51 p0.toNatClampNeg) (fun _ _ => none)] := fm_out (pr := [wd_Mo cs mo mr (fun _ => none) mf_51 md_51 (gMo PG hq), fm 8 (fPg cs PG)]) (T := fPr cs hq qr QO_51 QF_51 QA_51) hw hi29
          have hps29 := hpr.1 p0.toNatClampNeg hi29
          have hpb29 := hps29.1
          unfold PsB at hpb29
          refine px_callv (pr := [wd_Mo cs mo mr (fun _ => none) mf_51 md_51 (gMo PG hq), fm 8 (fPg cs PG), fo 13 (fPr cs hq qr QO_51 QF_51 QA_51) p0.toNatClampNeg]) (px_runV (As := [.int 7, .int 0]) (rest := []) S (c_mq_end l D cs (hq p0.toNatClampNeg) (qr p0.toNatClampNeg) (fun _ _ => none) (fun _ => QO_51 p0.toNatClampNeg) (QA_51 p0.toNatClampNeg) (QF_51 p0.toNatClampNeg) 7 0   _) hT (pr := [wd_Mo cs mo mr (fun _ => none) mf_51 md_51 (gMo PG hq), fm 8 (fPg cs PG), fo 13 (fPr cs hq qr QO_51 QF_51 QA_51) p0.toNatClampNeg]) (pcs := [wd_Mpr cs (hq p0.toNatClampNeg) (qr p0.toNatClampNeg) (fun _ => QO_51 p0.toNatClampNeg) (QF_51 p0.toNatClampNeg) (QA_51 p0.toNatClampNeg) (fun _ _ => none)]) hw px_X.tt (px_recv hT hw 3 0 rfl rfl rfl) m13_177 m14_35 m13_175 m13_176 m1_22 q_Mpr_end ⟨Nat.le_of_ble_eq_true rfl, Nat.le_of_ble_eq_true rfl⟩ hl.1 rfl (Nat.le_of_ble_eq_true rfl) d_Mo_moveWords_112 ⟨Nat.le_of_ble_eq_true rfl, Nat.le_of_ble_eq_true rfl⟩) hw hA (fun p32 H locs hp32 hw => ?_)
          obtain ⟨qf31, rfl, e34, e35, e36, e37, e38, e39, e40, e41, e42, e43, e44, e45, e46, e47⟩ := hp32
          replace e34 : (qf31 2).toInt = (7 : Int) := e34
          replace e35 : (qf31 1).toInt = ((QF_51 p0.toNatClampNeg) 1).toInt := e35
          replace e36 : (qf31 4).toInt = ((QF_51 p0.toNatClampNeg) 4).toInt := e36
          replace e37 : (qf31 5).toInt = ((QF_51 p0.toNatClampNeg) 5).toInt := e37
          replace e38 : (qf31 6).toInt = ((QF_51 p0.toNatClampNeg) 6).toInt := e38
          replace e39 : (qf31 7).toInt = ((QF_51 p0.toNatClampNeg) 7).toInt := e39
          replace e40 : (qf31 10).toInt = ((QF_51 p0.toNatClampNeg) 10).toInt := e40
          replace e41 : (qf31 11).toInt = ((QF_51 p0.toNatClampNeg) 11).toInt := e41
          replace e42 : (qf31 12).toInt = ((QF_51 p0.toNatClampNeg) 12).toInt := e42
          replace e43 : (qf31 13).toInt = ((QF_51 p0.toNatClampNeg) 13).toInt := e43
          replace e44 : (qf31 14).toInt = ((QF_51 p0.toNatClampNeg) 14).toInt := e44
          replace e45 : (qf31 21).toInt = ((QF_51 p0.toNatClampNeg) 21).toInt := e45
          replace e46 : (qf31 23).toInt = ((QF_51 p0.toNatClampNeg) 23).toInt := e46
          replace e47 : (qf31 24).toInt = ((QF_51 p0.toNatClampNeg) 24).toInt := e47
          replace hw : pw D A s.heap H locs [wd_Mo cs mo mr (fun _ => none) mf_51 md_51 (gMo PG hq), fm 8 (fPg cs PG), fo 13 (fPr cs hq qr QO_51 QF_51 QA_51) p0.toNatClampNeg, wd_Mpr cs (hq p0.toNatClampNeg) (qr p0.toNatClampNeg) (fun _ => QO_51 p0.toNatClampNeg) qf31 (QA_51 p0.toNatClampNeg) (fun _ _ => none)] := hw
          have hw := fpr_in (pr := [wd_Mo cs mo mr (fun _ => none) mf_51 md_51 (gMo PG hq), fm 8 (fPg cs PG)]) hw hi29
          obtain ⟨QO48, hu_QO48⟩ : ∃ y : Nat → Option Nat, y = va_up QO_51 p0.toNatClampNeg ((fun _ => QO_51 p0.toNatClampNeg) 0) := ⟨_, rfl⟩
          obtain ⟨QF49, hu_QF49⟩ : ∃ y : Nat → Nat → Int32, y = va_up QF_51 p0.toNatClampNeg qf31 := ⟨_, rfl⟩
          obtain ⟨QA50, hu_QA50⟩ : ∃ y : Nat → Nat → Nat → Int32, y = va_up QA_51 p0.toNatClampNeg (QA_51 p0.toNatClampNeg) := ⟨_, rfl⟩
          have hw : pw D A s.heap _ _ [wd_Mo cs mo mr (fun _ => none) mf_51 md_51 (gMo PG hq), fm 8 (fPg cs PG), fm 13 (fPr cs hq qr QO48 QF49 QA50)] := (by rw [hu_QO48, hu_QF49, hu_QA50]; exact hw)
          have hpr : PrA PG RR QO48 QF49 QA50 := (by rw [hu_QO48, hu_QF49, hu_QA50]; exact PrA.up hpr (psr_raw (j := j9) hj9 hqo h66 (show (0 ≤ (qf31 1).toInt ∧ (qf31 1).toInt ≤ 1) ∧ (0 ≤ (qf31 21).toInt ∧ (qf31 21).toInt ≤ 4) ∧ (0 ≤ (qf31 23).toInt ∧ (qf31 23).toInt ≤ 4) ∧ (0 ≤ (qf31 24).toInt ∧ (qf31 24).toInt ≤ 1000000) ∧ (0 ≤ (qf31 6).toInt ∧ (qf31 6).toInt ≤ 3) ∧ (0 ≤ (qf31 7).toInt ∧ (qf31 7).toInt ≤ 1) from by first | with_reducible rfl | with_reducible assumption | omega) (show (qf31 1).toInt = 1 from by first | with_reducible rfl | with_reducible assumption | omega) (show 0 ≤ (qf31 4).toInt ∧ (qf31 4).toInt + 1 ≤ RR p0.toNatClampNeg ∧ (qf31 24).toInt + (qf31 4).toInt ≤ 1600 from by first | with_reducible rfl | with_reducible assumption | omega)) (show (qf31 1).toInt = (QF_51 p0.toNatClampNeg 1).toInt from by first | exact oz_1811ac7fe4 e35 | omega) (show (QF_51 p0.toNatClampNeg 6).toInt ≤ (qf31 6).toInt from by first | exact oz_f9b42d1b56 e38 | omega))
          have hqo : OqE (QO48 p0.toNatClampNeg) (PG j9).h := (by rw [hu_QO48, va_up_s]; exact hqo)
          have hkw : KpW QO QF QO48 QF49 p0.toNatClampNeg := ⟨hqo.trans hqoE.symm, (by rw [hu_QF49, va_up_s]; exact (show ((qf31 1).toInt = (QF p0.toNatClampNeg 1).toInt ∧ (qf31 4).toInt = (QF p0.toNatClampNeg 4).toInt ∧ (qf31 5).toInt = (QF p0.toNatClampNeg 5).toInt ∧ (qf31 7).toInt = (QF p0.toNatClampNeg 7).toInt ∧ (qf31 10).toInt = (QF p0.toNatClampNeg 10).toInt ∧ (qf31 11).toInt = (QF p0.toNatClampNeg 11).toInt) ∧ (qf31 12).toInt = (QF p0.toNatClampNeg 12).toInt ∧ (qf31 13).toInt = (QF p0.toNatClampNeg 13).toInt ∧ (qf31 14).toInt = (QF p0.toNatClampNeg 14).toInt ∧ (qf31 24).toInt = (QF p0.toNatClampNeg 24).toInt from by first | with_reducible rfl | with_reducible assumption | omega))⟩
          have hqk1_QF49 : (QF49 p0.toNatClampNeg 1).toInt = (qf31 1).toInt := (by rw [hu_QF49, va_up_s]; try rfl)
          have hqk2_QF49 : (QF49 p0.toNatClampNeg 2).toInt = (qf31 2).toInt := (by rw [hu_QF49, va_up_s]; try rfl)
          have hqk4_QF49 : (QF49 p0.toNatClampNeg 4).toInt = (qf31 4).toInt := (by rw [hu_QF49, va_up_s]; try rfl)
          have hqk24_QF49 : (QF49 p0.toNatClampNeg 24).toInt = (qf31 24).toInt := (by rw [hu_QF49, va_up_s]; try rfl)
          have hw : pw D A s.heap _ _ [wd_Mo cs mo mr (fun _ => none) mf_51 md_51 (gMo PG hq), fm 13 (fPr cs hq qr QO48 QF49 QA50), fm 8 (fPg cs PG)] := hw.sub [0, 2, 1] rfl rfl
          exact px_vret S hr hlk hAe hw (Nat.le_of_ble_eq_true rfl) (Nat.le_of_ble_eq_true rfl) (⟨mf_51, md_51, QO48, QF49, QA50, rfl, (show PrA PG RR QO48 QF49 QA50 from hpr), (show OqE (QO48 p0.toNatClampNeg) (PG j9).h from hqo), (show KpW QO QF QO48 QF49 p0.toNatClampNeg from hkw), (show (mf_51 0).toInt = (mf 0).toInt from by first | exact k51_0 | omega), (show (mf_51 2).toInt = (mf 2).toInt from by first | exact k51_1 | omega), (show (mf_51 3).toInt = (mf 3).toInt from by first | exact k51_2 | omega), (show (mf_51 7).toInt = (mf 7).toInt from by first | exact k51_3 | omega), (show (mf_51 8).toInt = (mf 8).toInt from by first | exact k51_4 | omega), (show (mf_51 9).toInt = (mf 9).toInt from by first | exact k51_5 | omega), (show (mf_51 10).toInt = (mf 10).toInt from by first | exact k51_6 | omega)⟩) d_Mo_moveWords_115
      · have nc27 : ¬ x51_7.toInt ≤ x51_9.toInt := mt (i_le (x := x51_7) (y := x51_9)).mpr c27
        refine lv_iload S.x S.b d_Mo_moveWords_58 (lv_at hl 8 rfl) ?_
        refine lv_if_eq (tgt := 102) S.x S.b d_Mo_moveWords_60 (by decide) (fun c51 => ?_) (fun c51 => ?_)
        · have nc51 : x51_8.toInt = (0 : Int) := (i_eq (x := x51_8) (y := 0)).mp c51
          refine lv_iload S.x S.b d_Mo_moveWords_102 (lv_at hl 8 rfl) ?_
          refine lv_if_ne (tgt := 116) S.x S.b d_Mo_moveWords_104 (by decide) (fun c52 => ?_) (fun c52 => ?_)
          · have nc52 : ¬ x51_8.toInt = (0 : Int) := mt (i_eq (x := x51_8) (y := 0)).mpr c52
            refine lv_iconst (v := 0) S.x S.b d_Mo_moveWords_116 (by decide) ?_
            refine lv_istore (lv' := [(9, .int 0), (0, .ref mo), (1, .int p0), (2, .int p1), (3, .int p2), (4, .int p3), (5, .int p4), (6, .ref (hq p0.toNatClampNeg)), (7, .int x51_7), (8, .int x51_8)]) S.x S.b d_Mo_moveWords_117 hl (by decide) rfl (fun ls hl => ?_)
            exact J119 ((17 - (0 : Int) + 4294967296).toNat + 1) mf_51 md_51 QO_51 QF_51 QA_51 x51_7 (0 : Int32) _ _ ls (show (mf_51 0).toInt = (mf 0).toInt from by first | exact k51_0 | omega) (show (mf_51 2).toInt = (mf 2).toInt from by first | exact k51_1 | omega) (show (mf_51 3).toInt = (mf 3).toInt from by first | exact k51_2 | omega) (show (mf_51 7).toInt = (mf 7).toInt from by first | exact k51_3 | omega) (show (mf_51 8).toInt = (mf 8).toInt from by first | exact k51_4 | omega) (show (mf_51 9).toInt = (mf 9).toInt from by first | exact k51_5 | omega) (show (mf_51 10).toInt = (mf 10).toInt from by first | exact k51_6 | omega) (show PrA PG RR QO_51 QF_51 QA_51 from hpr) (show OqE (QO_51 p0.toNatClampNeg) (PG j9).h from hqo) (show KpW QO QF QO_51 QF_51 p0.toNatClampNeg from hkw) (show p0.toInt = 0 from by first | exact k51_10 | omega) (show 0 ≤ p2.toInt from by first | exact k51_11 | omega) (show p2.toInt < 8 from by first | exact k51_12 | omega) (show x51_7.toInt ≤ 16 from by first | exact k51_13 | omega) (show 0 ≤ (0 : Int) from by first | decide | omega) (show RdLw p1.toInt p3.toInt x51_7.toInt ((PG j9).xf 68).toInt from (fun k9 a9 b9 => hrd (by omega) k9 a9 (by omega))) (show 17 - (0 : Int) + 4294967296 < ((((17 - (0 : Int) + 4294967296).toNat + 1 : Nat) : Int) : Int) from by first | exact oz_natlt | omega) hw (lv_sub hl [1, 2, 3, 4, 5, 6, 7, 8, 0] rfl)
          · have nc52 : x51_8.toInt = (0 : Int) := (i_eq (x := x51_8) (y := 0)).mp c52
            refine lv_aload S.x S.b d_Mo_moveWords_107 (lv_at hl 6 rfl) ?_
            refine lv_bipush (v := 7) S.x S.b d_Mo_moveWords_109 (by decide) ?_
            refine lv_iconst (v := 0) S.x S.b d_Mo_moveWords_111 (by decide) ?_
            have hw : pw D A s.heap _ _ [wd_Mo cs mo mr (fun _ => none) mf_51 md_51 (gMo PG hq), fm 8 (fPg cs PG), fm 13 (fPr cs hq qr QO_51 QF_51 QA_51)] := hw.sub [0, 2, 1] rfl rfl
            have hc53 := cl_nat (x := p0) (by first | exact g0 | omega)
            have hi53 : p0.toNatClampNeg < 13 := by first | exact oz_a63a387477 hc53 k51_10 | omega
            have hw : pw D A s.heap _ _ [wd_Mo cs mo mr (fun _ => none) mf_51 md_51 (gMo PG hq), fm 8 (fPg cs PG), fo 13 (fPr cs hq qr QO_51 QF_51 QA_51) p0.toNatClampNeg, wd_Mpr cs (hq p0.toNatClampNeg) (qr p0.toNatClampNeg) (fun _ => QO_51 p0.toNatClampNeg) (QF_51 p0.toNatClampNeg) (QA_51 p0.toNatClampNeg) (fun _ _ => none)] := fm_out (pr := [wd_Mo cs mo mr (fun _ => none) mf_51 md_51 (gMo PG hq), fm 8 (fPg cs PG)]) (T := fPr cs hq qr QO_51 QF_51 QA_51) hw hi53
            have hps53 := hpr.1 p0.toNatClampNeg hi53
            have hpb53 := hps53.1
            unfold PsB at hpb53
            refine px_callv (pr := [wd_Mo cs mo mr (fun _ => none) mf_51 md_51 (gMo PG hq), fm 8 (fPg cs PG), fo 13 (fPr cs hq qr QO_51 QF_51 QA_51) p0.toNatClampNeg]) (px_runV (As := [.int 7, .int 0]) (rest := []) S (c_mq_end l D cs (hq p0.toNatClampNeg) (qr p0.toNatClampNeg) (fun _ _ => none) (fun _ => QO_51 p0.toNatClampNeg) (QA_51 p0.toNatClampNeg) (QF_51 p0.toNatClampNeg) 7 0   _) hT (pr := [wd_Mo cs mo mr (fun _ => none) mf_51 md_51 (gMo PG hq), fm 8 (fPg cs PG), fo 13 (fPr cs hq qr QO_51 QF_51 QA_51) p0.toNatClampNeg]) (pcs := [wd_Mpr cs (hq p0.toNatClampNeg) (qr p0.toNatClampNeg) (fun _ => QO_51 p0.toNatClampNeg) (QF_51 p0.toNatClampNeg) (QA_51 p0.toNatClampNeg) (fun _ _ => none)]) hw px_X.tt (px_recv hT hw 3 0 rfl rfl rfl) m13_177 m14_35 m13_175 m13_176 m1_22 q_Mpr_end ⟨Nat.le_of_ble_eq_true rfl, Nat.le_of_ble_eq_true rfl⟩ hl.1 rfl (Nat.le_of_ble_eq_true rfl) d_Mo_moveWords_112 ⟨Nat.le_of_ble_eq_true rfl, Nat.le_of_ble_eq_true rfl⟩) hw hA (fun p56 H locs hp56 hw => ?_)
            obtain ⟨qf55, rfl, e58, e59, e60, e61, e62, e63, e64, e65, e66, e67, e68, e69, e70, e71⟩ := hp56
            replace e58 : (qf55 2).toInt = (7 : Int) := e58
            replace e59 : (qf55 1).toInt = ((QF_51 p0.toNatClampNeg) 1).toInt := e59
            replace e60 : (qf55 4).toInt = ((QF_51 p0.toNatClampNeg) 4).toInt := e60
            replace e61 : (qf55 5).toInt = ((QF_51 p0.toNatClampNeg) 5).toInt := e61
            replace e62 : (qf55 6).toInt = ((QF_51 p0.toNatClampNeg) 6).toInt := e62
            replace e63 : (qf55 7).toInt = ((QF_51 p0.toNatClampNeg) 7).toInt := e63
            replace e64 : (qf55 10).toInt = ((QF_51 p0.toNatClampNeg) 10).toInt := e64
            replace e65 : (qf55 11).toInt = ((QF_51 p0.toNatClampNeg) 11).toInt := e65
            replace e66 : (qf55 12).toInt = ((QF_51 p0.toNatClampNeg) 12).toInt := e66
            replace e67 : (qf55 13).toInt = ((QF_51 p0.toNatClampNeg) 13).toInt := e67
            replace e68 : (qf55 14).toInt = ((QF_51 p0.toNatClampNeg) 14).toInt := e68
            replace e69 : (qf55 21).toInt = ((QF_51 p0.toNatClampNeg) 21).toInt := e69
            replace e70 : (qf55 23).toInt = ((QF_51 p0.toNatClampNeg) 23).toInt := e70
            replace e71 : (qf55 24).toInt = ((QF_51 p0.toNatClampNeg) 24).toInt := e71
            replace hw : pw D A s.heap H locs [wd_Mo cs mo mr (fun _ => none) mf_51 md_51 (gMo PG hq), fm 8 (fPg cs PG), fo 13 (fPr cs hq qr QO_51 QF_51 QA_51) p0.toNatClampNeg, wd_Mpr cs (hq p0.toNatClampNeg) (qr p0.toNatClampNeg) (fun _ => QO_51 p0.toNatClampNeg) qf55 (QA_51 p0.toNatClampNeg) (fun _ _ => none)] := hw
            have hw := fpr_in (pr := [wd_Mo cs mo mr (fun _ => none) mf_51 md_51 (gMo PG hq), fm 8 (fPg cs PG)]) hw hi53
            obtain ⟨QO72, hu_QO72⟩ : ∃ y : Nat → Option Nat, y = va_up QO_51 p0.toNatClampNeg ((fun _ => QO_51 p0.toNatClampNeg) 0) := ⟨_, rfl⟩
            obtain ⟨QF73, hu_QF73⟩ : ∃ y : Nat → Nat → Int32, y = va_up QF_51 p0.toNatClampNeg qf55 := ⟨_, rfl⟩
            obtain ⟨QA74, hu_QA74⟩ : ∃ y : Nat → Nat → Nat → Int32, y = va_up QA_51 p0.toNatClampNeg (QA_51 p0.toNatClampNeg) := ⟨_, rfl⟩
            have hw : pw D A s.heap _ _ [wd_Mo cs mo mr (fun _ => none) mf_51 md_51 (gMo PG hq), fm 8 (fPg cs PG), fm 13 (fPr cs hq qr QO72 QF73 QA74)] := (by rw [hu_QO72, hu_QF73, hu_QA74]; exact hw)
            have hpr : PrA PG RR QO72 QF73 QA74 := (by rw [hu_QO72, hu_QF73, hu_QA74]; exact PrA.up hpr (psr_raw (j := j9) hj9 hqo h66 (show (0 ≤ (qf55 1).toInt ∧ (qf55 1).toInt ≤ 1) ∧ (0 ≤ (qf55 21).toInt ∧ (qf55 21).toInt ≤ 4) ∧ (0 ≤ (qf55 23).toInt ∧ (qf55 23).toInt ≤ 4) ∧ (0 ≤ (qf55 24).toInt ∧ (qf55 24).toInt ≤ 1000000) ∧ (0 ≤ (qf55 6).toInt ∧ (qf55 6).toInt ≤ 3) ∧ (0 ≤ (qf55 7).toInt ∧ (qf55 7).toInt ≤ 1) from by first | with_reducible rfl | with_reducible assumption | omega) (show (qf55 1).toInt = 1 from by first | with_reducible rfl | with_reducible assumption | omega) (show 0 ≤ (qf55 4).toInt ∧ (qf55 4).toInt + 1 ≤ RR p0.toNatClampNeg ∧ (qf55 24).toInt + (qf55 4).toInt ≤ 1600 from by first | with_reducible rfl | with_reducible assumption | omega)) (show (qf55 1).toInt = (QF_51 p0.toNatClampNeg 1).toInt from by first | exact oz_1811ac7fe4 e59 | omega) (show (QF_51 p0.toNatClampNeg 6).toInt ≤ (qf55 6).toInt from by first | exact oz_f9b42d1b56 e62 | omega))
            have hqo : OqE (QO72 p0.toNatClampNeg) (PG j9).h := (by rw [hu_QO72, va_up_s]; exact hqo)
            have hkw : KpW QO QF QO72 QF73 p0.toNatClampNeg := ⟨hqo.trans hqoE.symm, (by rw [hu_QF73, va_up_s]; exact (show ((qf55 1).toInt = (QF p0.toNatClampNeg 1).toInt ∧ (qf55 4).toInt = (QF p0.toNatClampNeg 4).toInt ∧ (qf55 5).toInt = (QF p0.toNatClampNeg 5).toInt ∧ (qf55 7).toInt = (QF p0.toNatClampNeg 7).toInt ∧ (qf55 10).toInt = (QF p0.toNatClampNeg 10).toInt ∧ (qf55 11).toInt = (QF p0.toNatClampNeg 11).toInt) ∧ (qf55 12).toInt = (QF p0.toNatClampNeg 12).toInt ∧ (qf55 13).toInt = (QF p0.toNatClampNeg 13).toInt ∧ (qf55 14).toInt = (QF p0.toNatClampNeg 14).toInt ∧ (qf55 24).toInt = (QF p0.toNatClampNeg 24).toInt from by first | with_reducible rfl | with_reducible assumption | omega))⟩
            have hqk1_QF73 : (QF73 p0.toNatClampNeg 1).toInt = (qf55 1).toInt := (by rw [hu_QF73, va_up_s]; try rfl)
            have hqk2_QF73 : (QF73 p0.toNatClampNeg 2).toInt = (qf55 2).toInt := (by rw [hu_QF73, va_up_s]; try rfl)
            have hqk4_QF73 : (QF73 p0.toNatClampNeg 4).toInt = (qf55 4).toInt := (by rw [hu_QF73, va_up_s]; try rfl)
            have hqk24_QF73 : (QF73 p0.toNatClampNeg 24).toInt = (qf55 24).toInt := (by rw [hu_QF73, va_up_s]; try rfl)
            have hw : pw D A s.heap _ _ [wd_Mo cs mo mr (fun _ => none) mf_51 md_51 (gMo PG hq), fm 13 (fPr cs hq qr QO72 QF73 QA74), fm 8 (fPg cs PG)] := hw.sub [0, 2, 1] rfl rfl
            exact px_vret S hr hlk hAe hw (Nat.le_of_ble_eq_true rfl) (Nat.le_of_ble_eq_true rfl) (⟨mf_51, md_51, QO72, QF73, QA74, rfl, (show PrA PG RR QO72 QF73 QA74 from hpr), (show OqE (QO72 p0.toNatClampNeg) (PG j9).h from hqo), (show KpW QO QF QO72 QF73 p0.toNatClampNeg from hkw), (show (mf_51 0).toInt = (mf 0).toInt from by first | exact k51_0 | omega), (show (mf_51 2).toInt = (mf 2).toInt from by first | exact k51_1 | omega), (show (mf_51 3).toInt = (mf 3).toInt from by first | exact k51_2 | omega), (show (mf_51 7).toInt = (mf 7).toInt from by first | exact k51_3 | omega), (show (mf_51 8).toInt = (mf 8).toInt from by first | exact k51_4 | omega), (show (mf_51 9).toInt = (mf 9).toInt from by first | exact k51_5 | omega), (show (mf_51 10).toInt = (mf 10).toInt from by first | exact k51_6 | omega)⟩) d_Mo_moveWords_115
        · have nc51 : ¬ x51_8.toInt = (0 : Int) := mt (i_eq (x := x51_8) (y := 0)).mpr c51
          refine lv_iload_n S.x S.b d_Mo_moveWords_63 rfl (lv_at hl 2 rfl) ?_
          refine lv_if_eq (tgt := 82) S.x S.b d_Mo_moveWords_64 (by decide) (fun c75 => ?_) (fun c75 => ?_)
          · have nc75 : p1.toInt = (0 : Int) := (i_eq (x := p1) (y := 0)).mp c75
            refine lv_aload S.x S.b d_Mo_moveWords_82 (lv_at hl 6 rfl) ?_
            have hw : pw D A s.heap _ _ [wd_Mo cs mo mr (fun _ => none) mf_51 md_51 (gMo PG hq), fm 8 (fPg cs PG), fm 13 (fPr cs hq qr QO_51 QF_51 QA_51)] := hw.sub [0, 2, 1] rfl rfl
            have hc76 := cl_nat (x := p0) (by first | exact g0 | omega)
            have hi76 : p0.toNatClampNeg < 13 := by first | exact oz_a63a387477 hc76 k51_10 | omega
            have hw : pw D A s.heap _ _ [wd_Mo cs mo mr (fun _ => none) mf_51 md_51 (gMo PG hq), fm 8 (fPg cs PG), fo 13 (fPr cs hq qr QO_51 QF_51 QA_51) p0.toNatClampNeg, wd_Mpr cs (hq p0.toNatClampNeg) (qr p0.toNatClampNeg) (fun _ => QO_51 p0.toNatClampNeg) (QF_51 p0.toNatClampNeg) (QA_51 p0.toNatClampNeg) (fun _ _ => none)] := fm_out (pr := [wd_Mo cs mo mr (fun _ => none) mf_51 md_51 (gMo PG hq), fm 8 (fPg cs PG)]) (T := fPr cs hq qr QO_51 QF_51 QA_51) hw hi76
            have hps76 := hpr.1 p0.toNatClampNeg hi76
            have hpb76 := hps76.1
            unfold PsB at hpb76
            have hw : pw D A s.heap _ _ [wd_Mo cs mo mr (fun _ => none) mf_51 md_51 (gMo PG hq), fm 8 (fPg cs PG), fo 13 (fPr cs hq qr QO_51 QF_51 QA_51) p0.toNatClampNeg, wd_Mpr cs (hq p0.toNatClampNeg) (qr p0.toNatClampNeg) (fun k => if k = 0 then (some (PG j9).h) else none) (QF_51 p0.toNatClampNeg) (QA_51 p0.toNatClampNeg) (fun _ _ => none)] := (by have q8 := hw; rw [wd_oo (o := (fun _ => QO_51 p0.toNatClampNeg)) (o' := (fun k => if k = 0 then (some (PG j9).h) else none)) hqo] at q8; exact q8)
            have hw : pw D A s.heap _ _ [wd_Mo cs mo mr (fun _ => none) mf_51 md_51 (gMo PG hq), fo 13 (fPr cs hq qr QO_51 QF_51 QA_51) p0.toNatClampNeg, wd_Mpr cs (hq p0.toNatClampNeg) (qr p0.toNatClampNeg) (fun k => if k = 0 then (some (PG j9).h) else none) (QF_51 p0.toNatClampNeg) (QA_51 p0.toNatClampNeg) (fun _ _ => none), fm 8 (fPg cs PG)] := hw.sub [0, 2, 3, 1] rfl rfl
            have hw : pw D A s.heap _ _ [wd_Mo cs mo mr (fun _ => none) mf_51 md_51 (gMo PG hq), fo 13 (fPr cs hq qr QO_51 QF_51 QA_51) p0.toNatClampNeg, wd_Mpr cs (hq p0.toNatClampNeg) (qr p0.toNatClampNeg) (fun k => if k = 0 then (some (PG j9).h) else none) (QF_51 p0.toNatClampNeg) (QA_51 p0.toNatClampNeg) (fun _ _ => none), fo 8 (fPg cs PG) j9, wdP cs (PG j9).h (PG j9).r (PG j9).g (PG j9).tf (PG j9).ta (PG j9).pf (PG j9).na (PG j9).ma (PG j9).wa (PG j9).cf (PG j9).ca (PG j9).ef (PG j9).ea (PG j9).xf (PG j9).xa] := fm_out (pr := [wd_Mo cs mo mr (fun _ => none) mf_51 md_51 (gMo PG hq), fo 13 (fPr cs hq qr QO_51 QF_51 QA_51) p0.toNatClampNeg, wd_Mpr cs (hq p0.toNatClampNeg) (qr p0.toNatClampNeg) (fun k => if k = 0 then (some (PG j9).h) else none) (QF_51 p0.toNatClampNeg) (QA_51 p0.toNatClampNeg) (fun _ _ => none)]) (T := fPg cs PG) hw hj9
            have hpo77 := hpg j9 hj9
            have hp177 := hpo77.1
            have hp277 := hpo77.2.1
            have hP := hGG j9 hj9
            refine lv_iload S.x S.b d_Mo_moveWords_84 (lv_at hl 4 rfl) ?_
            refine lv_iconst (v := 4) S.x S.b d_Mo_moveWords_86 (by decide) ?_
            refine lv_iload S.x S.b d_Mo_moveWords_87 (lv_at hl 9 rfl) ?_
            refine lv_imul S.x S.b d_Mo_moveWords_89 ?_
            refine lv_topi (fun z78 ez78 => ?_)
            have lz78 := Int32.le_toInt z78
            have uz78 := Int32.toInt_lt z78
            have tz78 : -2147483648 ≤ 4 * x51_9.toInt → 4 * x51_9.toInt < 2147483648 → z78.toInt = 4 * x51_9.toInt := by rw [ez78]; exact i_mulc 4 x51_9 (by decide)
            try replace tz78 : z78.toInt = 4 * x51_9.toInt := by omega
            refine lv_iadd S.x S.b d_Mo_moveWords_90 ?_
            refine lv_topi (fun z79 ez79 => ?_)
            have tz79 : z79.toInt = (p3.toInt + z78.toInt + 2147483648) % 4294967296 - 2147483648 := by rw [ez79]; exact i_add p3 z78
            have lz79 := Int32.le_toInt z79
            have uz79 := Int32.toInt_lt z79
            try replace tz79 : z79.toInt = p3.toInt + z78.toInt := by omega
            have hw : pw D A s.heap _ _ [wd_Mo cs mo mr (fun _ => none) mf_51 md_51 (gMo PG hq), fo 13 (fPr cs hq qr QO_51 QF_51 QA_51) p0.toNatClampNeg, fo 8 (fPg cs PG) j9, wd_Mpr cs (hq p0.toNatClampNeg) (qr p0.toNatClampNeg) (fun k => if k = 0 then (some (PG j9).h) else none) (QF_51 p0.toNatClampNeg) (QA_51 p0.toNatClampNeg) (fun _ _ => none), wdP cs (PG j9).h (PG j9).r (PG j9).g (PG j9).tf (PG j9).ta (PG j9).pf (PG j9).na (PG j9).ma (PG j9).wa (PG j9).cf (PG j9).ca (PG j9).ef (PG j9).ea (PG j9).xf (PG j9).xa] := hw.sub [0, 1, 3, 2, 4] rfl rfl
            refine px_calli (pr := [wd_Mo cs mo mr (fun _ => none) mf_51 md_51 (gMo PG hq), fo 13 (fPr cs hq qr QO_51 QF_51 QA_51) p0.toNatClampNeg, fo 8 (fPg cs PG) j9]) (px_runV (As := [.int z79]) (rest := []) S (c_mr_canRead l D cs (0 : Int) (hq p0.toNatClampNeg) (qr p0.toNatClampNeg) (fun _ _ => none) (QF_51 p0.toNatClampNeg) (QA_51 p0.toNatClampNeg) (PG j9).h (PG j9).r (PG j9).g (PG j9).tf (PG j9).ta (PG j9).pf (PG j9).na (PG j9).ma (PG j9).wa (PG j9).cf (PG j9).ca (PG j9).ef (PG j9).ea (PG j9).xf (PG j9).xa z79  (show 0 ≤ ((PG j9).xf 68).toInt from by first | with_reducible rfl | with_reducible assumption | omega) (show ((PG j9).xf 68).toInt ≤ 512 from by first | with_reducible rfl | with_reducible assumption | omega) _) hT (pr := [wd_Mo cs mo mr (fun _ => none) mf_51 md_51 (gMo PG hq), fo 13 (fPr cs hq qr QO_51 QF_51 QA_51) p0.toNatClampNeg, fo 8 (fPg cs PG) j9]) (pcs := [wd_Mpr cs (hq p0.toNatClampNeg) (qr p0.toNatClampNeg) (fun k => if k = 0 then (some (PG j9).h) else none) (QF_51 p0.toNatClampNeg) (QA_51 p0.toNatClampNeg) (fun _ _ => none), wdP cs (PG j9).h (PG j9).r (PG j9).g (PG j9).tf (PG j9).ta (PG j9).pf (PG j9).na (PG j9).ma (PG j9).wa (PG j9).cf (PG j9).ca (PG j9).ef (PG j9).ea (PG j9).xf (PG j9).xa]) hw (oX_call (P := (fun A U H => (oP A (PG j9).g U H))) (pr := [wd_Mo cs mo mr (fun _ => none) mf_51 md_51 (gMo PG hq), fo 13 (fPr cs hq qr QO_51 QF_51 QA_51) p0.toNatClampNeg, fo 8 (fPg cs PG) j9]) oG_P hw hA hP) (px_recv hT hw 3 0 rfl rfl rfl) m13_237 m14_96 m13_235 m13_236 m1_22 q_Mpr_canRead ⟨Nat.le_of_ble_eq_true rfl, Nat.le_of_ble_eq_true rfl⟩ hl.1 rfl (Nat.le_of_ble_eq_true rfl) d_Mo_moveWords_91 ⟨Nat.le_of_ble_eq_true rfl, Nat.le_of_ble_eq_true rfl⟩) hw hA (fun v81 p80 H locs hp80 hw => ?_)
            obtain ⟨rfl, e82, e83, e84⟩ := hp80
            replace e82 : 0 ≤ v81.toInt := e82
            replace e83 : v81.toInt ≤ 1 := e83
            replace e84 : v81.toInt = 1 → (4194304 ≤ z79.toInt % 4294967296 ∧ z79.toInt % 4294967296 < 4194304 + (4 * ((PG j9).xf 68).toInt + 4095) / 4096 * 4096) ∨ (5242880 ≤ z79.toInt % 4294967296 ∧ z79.toInt % 4294967296 < 5259264) ∨ (8257536 ≤ z79.toInt % 4294967296 ∧ z79.toInt % 4294967296 < 8388608) := e84
            replace hw : pw D A s.heap H locs [wd_Mo cs mo mr (fun _ => none) mf_51 md_51 (gMo PG hq), fo 13 (fPr cs hq qr QO_51 QF_51 QA_51) p0.toNatClampNeg, fo 8 (fPg cs PG) j9, wd_Mpr cs (hq p0.toNatClampNeg) (qr p0.toNatClampNeg) (fun k => if k = 0 then (some (PG j9).h) else none) (QF_51 p0.toNatClampNeg) (QA_51 p0.toNatClampNeg) (fun _ _ => none), wdP cs (PG j9).h (PG j9).r (PG j9).g (PG j9).tf (PG j9).ta (PG j9).pf (PG j9).na (PG j9).ma (PG j9).wa (PG j9).cf (PG j9).ca (PG j9).ef (PG j9).ea (PG j9).xf (PG j9).xa] := hw
            have lv81 := Int32.le_toInt v81
            have uv81 := Int32.toInt_lt v81
            refine lv_istore (lv' := [(8, .int v81), (0, .ref mo), (1, .int p0), (2, .int p1), (3, .int p2), (4, .int p3), (5, .int p4), (6, .ref (hq p0.toNatClampNeg)), (7, .int x51_7), (9, .int x51_9)]) S.x S.b d_Mo_moveWords_94 hl (by decide) rfl (fun ls hl => ?_)
            obtain ⟨z85, ez85⟩ : ∃ y : Int32, y = x51_9 + 1 := ⟨_, rfl⟩
            have tz85 : z85.toInt = (x51_9.toInt + 1 + 2147483648) % 4294967296 - 2147483648 := by rw [ez85]; exact i_add x51_9 1
            have lz85 := Int32.le_toInt z85
            have uz85 := Int32.toInt_lt z85
            try replace tz85 : z85.toInt = x51_9.toInt + 1 := by omega
            refine lv_iinc (v := z85) (lv' := [(9, .int z85), (8, .int v81), (0, .ref mo), (1, .int p0), (2, .int p1), (3, .int p2), (4, .int p3), (5, .int p4), (6, .ref (hq p0.toNatClampNeg)), (7, .int x51_7)]) S.x S.b d_Mo_moveWords_96 hl (k := 9) rfl (by rw [ez85]; rfl) (by decide) rfl (fun ls hl => ?_)
            refine lv_goto (tgt := 51) S.x S.b d_Mo_moveWords_99 (by decide) ?_
            have hw : pw D A s.heap _ _ [wd_Mo cs mo mr (fun _ => none) mf_51 md_51 (gMo PG hq), fo 8 (fPg cs PG) j9, wdP cs (PG j9).h (PG j9).r (PG j9).g (PG j9).tf (PG j9).ta (PG j9).pf (PG j9).na (PG j9).ma (PG j9).wa (PG j9).cf (PG j9).ca (PG j9).ef (PG j9).ea (PG j9).xf (PG j9).xa, fo 13 (fPr cs hq qr QO_51 QF_51 QA_51) p0.toNatClampNeg, wd_Mpr cs (hq p0.toNatClampNeg) (qr p0.toNatClampNeg) (fun k => if k = 0 then (some (PG j9).h) else none) (QF_51 p0.toNatClampNeg) (QA_51 p0.toNatClampNeg) (fun _ _ => none)] := hw.sub [0, 2, 4, 1, 3] rfl rfl
            have hw : pw D A s.heap _ _ [wd_Mo cs mo mr (fun _ => none) mf_51 md_51 (gMo PG hq), fo 8 (fPg cs PG) j9, wdP cs (PG j9).h (PG j9).r (PG j9).g (PG j9).tf (PG j9).ta (PG j9).pf (PG j9).na (PG j9).ma (PG j9).wa (PG j9).cf (PG j9).ca (PG j9).ef (PG j9).ea (PG j9).xf (PG j9).xa, fm 13 (fPr cs hq qr QO_51 QF_51 QA_51)] := fm_back (pr := [wd_Mo cs mo mr (fun _ => none) mf_51 md_51 (gMo PG hq), fo 8 (fPg cs PG) j9, wdP cs (PG j9).h (PG j9).r (PG j9).g (PG j9).tf (PG j9).ta (PG j9).pf (PG j9).na (PG j9).ma (PG j9).wa (PG j9).cf (PG j9).ca (PG j9).ef (PG j9).ea (PG j9).xf (PG j9).xa]) (T := fPr cs hq qr QO_51 QF_51 QA_51) (by have q8 := hw; rw [wd_oo (o := (fun k => if k = 0 then (some (PG j9).h) else none)) (o' := fun _ => QO_51 p0.toNatClampNeg) (Eq.symm hqo)] at q8; exact q8) hi76
            have hw : pw D A s.heap _ _ [wd_Mo cs mo mr (fun _ => none) mf_51 md_51 (gMo PG hq), fm 13 (fPr cs hq qr QO_51 QF_51 QA_51), fo 8 (fPg cs PG) j9, wdP cs (PG j9).h (PG j9).r (PG j9).g (PG j9).tf (PG j9).ta (PG j9).pf (PG j9).na (PG j9).ma (PG j9).wa (PG j9).cf (PG j9).ca (PG j9).ef (PG j9).ea (PG j9).xf (PG j9).xa] := hw.sub [0, 3, 1, 2] rfl rfl
            have hw : pw D A s.heap _ _ [wd_Mo cs mo mr (fun _ => none) mf_51 md_51 (gMo PG hq), fm 13 (fPr cs hq qr QO_51 QF_51 QA_51), fm 8 (fPg cs PG)] := fm_back (pr := [wd_Mo cs mo mr (fun _ => none) mf_51 md_51 (gMo PG hq), fm 13 (fPr cs hq qr QO_51 QF_51 QA_51)]) (T := fPg cs PG) hw hj9
            exact ih51 mf_51 md_51 QO_51 QF_51 QA_51 x51_7 v81 z85 _ _ ls (show (mf_51 0).toInt = (mf 0).toInt from by first | exact k51_0 | omega) (show (mf_51 2).toInt = (mf 2).toInt from by first | exact k51_1 | omega) (show (mf_51 3).toInt = (mf 3).toInt from by first | exact k51_2 | omega) (show (mf_51 7).toInt = (mf 7).toInt from by first | exact k51_3 | omega) (show (mf_51 8).toInt = (mf 8).toInt from by first | exact k51_4 | omega) (show (mf_51 9).toInt = (mf 9).toInt from by first | exact k51_5 | omega) (show (mf_51 10).toInt = (mf 10).toInt from by first | exact k51_6 | omega) (show PrA PG RR QO_51 QF_51 QA_51 from hpr) (show OqE (QO_51 p0.toNatClampNeg) (PG j9).h from hqo) (show KpW QO QF QO_51 QF_51 p0.toNatClampNeg from hkw) (show p0.toInt = 0 from by first | exact k51_10 | omega) (show 0 ≤ p2.toInt from by first | exact k51_11 | omega) (show p2.toInt < 8 from by first | exact k51_12 | omega) (show x51_7.toInt ≤ 16 from by first | exact k51_13 | omega) (show 0 ≤ v81.toInt from by first | exact e82 | omega) (show v81.toInt ≤ 1 from by first | exact e83 | omega) (show 0 ≤ z85.toInt from by first | exact oz_ae613611c0 tz85 k51_16 | omega) (show RdG v81.toInt (RdLw p1.toInt p3.toInt z85.toInt ((PG j9).xf 68).toInt) from (fun q9 => (hrd (by omega)).nx (by omega) (fun q8 => absurd q8 (by omega)) (fun q8 => by unfold TxW ClX; omega))) (show 17 - z85.toInt + 4294967296 < (n_51 : Int) from by first | with_reducible rfl | with_reducible assumption | omega) hw (lv_sub hl [2, 3, 4, 5, 6, 7, 8, 9, 1, 0] rfl)
          · have nc75 : ¬ p1.toInt = (0 : Int) := mt (i_eq (x := p1) (y := 0)).mpr c75
            refine lv_aload S.x S.b d_Mo_moveWords_67 (lv_at hl 6 rfl) ?_
            have hw : pw D A s.heap _ _ [wd_Mo cs mo mr (fun _ => none) mf_51 md_51 (gMo PG hq), fm 8 (fPg cs PG), fm 13 (fPr cs hq qr QO_51 QF_51 QA_51)] := hw.sub [0, 2, 1] rfl rfl
            have hc86 := cl_nat (x := p0) (by first | exact g0 | omega)
            have hi86 : p0.toNatClampNeg < 13 := by first | exact oz_a63a387477 hc86 k51_10 | omega
            have hw : pw D A s.heap _ _ [wd_Mo cs mo mr (fun _ => none) mf_51 md_51 (gMo PG hq), fm 8 (fPg cs PG), fo 13 (fPr cs hq qr QO_51 QF_51 QA_51) p0.toNatClampNeg, wd_Mpr cs (hq p0.toNatClampNeg) (qr p0.toNatClampNeg) (fun _ => QO_51 p0.toNatClampNeg) (QF_51 p0.toNatClampNeg) (QA_51 p0.toNatClampNeg) (fun _ _ => none)] := fm_out (pr := [wd_Mo cs mo mr (fun _ => none) mf_51 md_51 (gMo PG hq), fm 8 (fPg cs PG)]) (T := fPr cs hq qr QO_51 QF_51 QA_51) hw hi86
            have hps86 := hpr.1 p0.toNatClampNeg hi86
            have hpb86 := hps86.1
            unfold PsB at hpb86
            have hw : pw D A s.heap _ _ [wd_Mo cs mo mr (fun _ => none) mf_51 md_51 (gMo PG hq), fm 8 (fPg cs PG), fo 13 (fPr cs hq qr QO_51 QF_51 QA_51) p0.toNatClampNeg, wd_Mpr cs (hq p0.toNatClampNeg) (qr p0.toNatClampNeg) (fun k => if k = 0 then (some (PG j9).h) else none) (QF_51 p0.toNatClampNeg) (QA_51 p0.toNatClampNeg) (fun _ _ => none)] := (by have q8 := hw; rw [wd_oo (o := (fun _ => QO_51 p0.toNatClampNeg)) (o' := (fun k => if k = 0 then (some (PG j9).h) else none)) hqo] at q8; exact q8)
            have hw : pw D A s.heap _ _ [wd_Mo cs mo mr (fun _ => none) mf_51 md_51 (gMo PG hq), fo 13 (fPr cs hq qr QO_51 QF_51 QA_51) p0.toNatClampNeg, wd_Mpr cs (hq p0.toNatClampNeg) (qr p0.toNatClampNeg) (fun k => if k = 0 then (some (PG j9).h) else none) (QF_51 p0.toNatClampNeg) (QA_51 p0.toNatClampNeg) (fun _ _ => none), fm 8 (fPg cs PG)] := hw.sub [0, 2, 3, 1] rfl rfl
            have hw : pw D A s.heap _ _ [wd_Mo cs mo mr (fun _ => none) mf_51 md_51 (gMo PG hq), fo 13 (fPr cs hq qr QO_51 QF_51 QA_51) p0.toNatClampNeg, wd_Mpr cs (hq p0.toNatClampNeg) (qr p0.toNatClampNeg) (fun k => if k = 0 then (some (PG j9).h) else none) (QF_51 p0.toNatClampNeg) (QA_51 p0.toNatClampNeg) (fun _ _ => none), fo 8 (fPg cs PG) j9, wdP cs (PG j9).h (PG j9).r (PG j9).g (PG j9).tf (PG j9).ta (PG j9).pf (PG j9).na (PG j9).ma (PG j9).wa (PG j9).cf (PG j9).ca (PG j9).ef (PG j9).ea (PG j9).xf (PG j9).xa] := fm_out (pr := [wd_Mo cs mo mr (fun _ => none) mf_51 md_51 (gMo PG hq), fo 13 (fPr cs hq qr QO_51 QF_51 QA_51) p0.toNatClampNeg, wd_Mpr cs (hq p0.toNatClampNeg) (qr p0.toNatClampNeg) (fun k => if k = 0 then (some (PG j9).h) else none) (QF_51 p0.toNatClampNeg) (QA_51 p0.toNatClampNeg) (fun _ _ => none)]) (T := fPg cs PG) hw hj9
            have hpo87 := hpg j9 hj9
            have hp187 := hpo87.1
            have hp287 := hpo87.2.1
            have hP := hGG j9 hj9
            refine lv_iload S.x S.b d_Mo_moveWords_69 (lv_at hl 4 rfl) ?_
            refine lv_iconst (v := 4) S.x S.b d_Mo_moveWords_71 (by decide) ?_
            refine lv_iload S.x S.b d_Mo_moveWords_72 (lv_at hl 9 rfl) ?_
            refine lv_imul S.x S.b d_Mo_moveWords_74 ?_
            refine lv_topi (fun z88 ez88 => ?_)
            have lz88 := Int32.le_toInt z88
            have uz88 := Int32.toInt_lt z88
            have tz88 : -2147483648 ≤ 4 * x51_9.toInt → 4 * x51_9.toInt < 2147483648 → z88.toInt = 4 * x51_9.toInt := by rw [ez88]; exact i_mulc 4 x51_9 (by decide)
            try replace tz88 : z88.toInt = 4 * x51_9.toInt := by omega
            refine lv_iadd S.x S.b d_Mo_moveWords_75 ?_
            refine lv_topi (fun z89 ez89 => ?_)
            have tz89 : z89.toInt = (p3.toInt + z88.toInt + 2147483648) % 4294967296 - 2147483648 := by rw [ez89]; exact i_add p3 z88
            have lz89 := Int32.le_toInt z89
            have uz89 := Int32.toInt_lt z89
            try replace tz89 : z89.toInt = p3.toInt + z88.toInt := by omega
            have hw : pw D A s.heap _ _ [wd_Mo cs mo mr (fun _ => none) mf_51 md_51 (gMo PG hq), fo 13 (fPr cs hq qr QO_51 QF_51 QA_51) p0.toNatClampNeg, fo 8 (fPg cs PG) j9, wd_Mpr cs (hq p0.toNatClampNeg) (qr p0.toNatClampNeg) (fun k => if k = 0 then (some (PG j9).h) else none) (QF_51 p0.toNatClampNeg) (QA_51 p0.toNatClampNeg) (fun _ _ => none), wdP cs (PG j9).h (PG j9).r (PG j9).g (PG j9).tf (PG j9).ta (PG j9).pf (PG j9).na (PG j9).ma (PG j9).wa (PG j9).cf (PG j9).ca (PG j9).ef (PG j9).ea (PG j9).xf (PG j9).xa] := hw.sub [0, 1, 3, 2, 4] rfl rfl
            refine px_calli (pr := [wd_Mo cs mo mr (fun _ => none) mf_51 md_51 (gMo PG hq), fo 13 (fPr cs hq qr QO_51 QF_51 QA_51) p0.toNatClampNeg, fo 8 (fPg cs PG) j9]) (px_runV (As := [.int z89]) (rest := []) S (c_mr_canWrite l D cs (0 : Int) (hq p0.toNatClampNeg) (qr p0.toNatClampNeg) (fun _ _ => none) (QF_51 p0.toNatClampNeg) (QA_51 p0.toNatClampNeg) (PG j9).h (PG j9).r (PG j9).g (PG j9).tf (PG j9).ta (PG j9).pf (PG j9).na (PG j9).ma (PG j9).wa (PG j9).cf (PG j9).ca (PG j9).ef (PG j9).ea (PG j9).xf (PG j9).xa z89   _) hT (pr := [wd_Mo cs mo mr (fun _ => none) mf_51 md_51 (gMo PG hq), fo 13 (fPr cs hq qr QO_51 QF_51 QA_51) p0.toNatClampNeg, fo 8 (fPg cs PG) j9]) (pcs := [wd_Mpr cs (hq p0.toNatClampNeg) (qr p0.toNatClampNeg) (fun k => if k = 0 then (some (PG j9).h) else none) (QF_51 p0.toNatClampNeg) (QA_51 p0.toNatClampNeg) (fun _ _ => none), wdP cs (PG j9).h (PG j9).r (PG j9).g (PG j9).tf (PG j9).ta (PG j9).pf (PG j9).na (PG j9).ma (PG j9).wa (PG j9).cf (PG j9).ca (PG j9).ef (PG j9).ea (PG j9).xf (PG j9).xa]) hw (oX_call (P := (fun A U H => (oP A (PG j9).g U H))) (pr := [wd_Mo cs mo mr (fun _ => none) mf_51 md_51 (gMo PG hq), fo 13 (fPr cs hq qr QO_51 QF_51 QA_51) p0.toNatClampNeg, fo 8 (fPg cs PG) j9]) oG_P hw hA hP) (px_recv hT hw 3 0 rfl rfl rfl) m14_5 m14_95 m14_3 m14_4 m1_22 q_Mpr_canWrite ⟨Nat.le_of_ble_eq_true rfl, Nat.le_of_ble_eq_true rfl⟩ hl.1 rfl (Nat.le_of_ble_eq_true rfl) d_Mo_moveWords_76 ⟨Nat.le_of_ble_eq_true rfl, Nat.le_of_ble_eq_true rfl⟩) hw hA (fun v91 p90 H locs hp90 hw => ?_)
            obtain ⟨rfl, e92, e93, e94⟩ := hp90
            replace e92 : 0 ≤ v91.toInt := e92
            replace e93 : v91.toInt ≤ 1 := e93
            replace e94 : v91.toInt = 1 → (5242880 ≤ z89.toInt % 4294967296 ∧ z89.toInt % 4294967296 < 5259264) ∨ (8257536 ≤ z89.toInt % 4294967296 ∧ z89.toInt % 4294967296 < 8388608) := e94
            replace hw : pw D A s.heap H locs [wd_Mo cs mo mr (fun _ => none) mf_51 md_51 (gMo PG hq), fo 13 (fPr cs hq qr QO_51 QF_51 QA_51) p0.toNatClampNeg, fo 8 (fPg cs PG) j9, wd_Mpr cs (hq p0.toNatClampNeg) (qr p0.toNatClampNeg) (fun k => if k = 0 then (some (PG j9).h) else none) (QF_51 p0.toNatClampNeg) (QA_51 p0.toNatClampNeg) (fun _ _ => none), wdP cs (PG j9).h (PG j9).r (PG j9).g (PG j9).tf (PG j9).ta (PG j9).pf (PG j9).na (PG j9).ma (PG j9).wa (PG j9).cf (PG j9).ca (PG j9).ef (PG j9).ea (PG j9).xf (PG j9).xa] := hw
            have lv91 := Int32.le_toInt v91
            have uv91 := Int32.toInt_lt v91
            refine lv_goto (tgt := 94) S.x S.b d_Mo_moveWords_79 (by decide) ?_
            refine lv_istore (lv' := [(8, .int v91), (0, .ref mo), (1, .int p0), (2, .int p1), (3, .int p2), (4, .int p3), (5, .int p4), (6, .ref (hq p0.toNatClampNeg)), (7, .int x51_7), (9, .int x51_9)]) S.x S.b d_Mo_moveWords_94 hl (by decide) rfl (fun ls hl => ?_)
            obtain ⟨z95, ez95⟩ : ∃ y : Int32, y = x51_9 + 1 := ⟨_, rfl⟩
            have tz95 : z95.toInt = (x51_9.toInt + 1 + 2147483648) % 4294967296 - 2147483648 := by rw [ez95]; exact i_add x51_9 1
            have lz95 := Int32.le_toInt z95
            have uz95 := Int32.toInt_lt z95
            try replace tz95 : z95.toInt = x51_9.toInt + 1 := by omega
            refine lv_iinc (v := z95) (lv' := [(9, .int z95), (8, .int v91), (0, .ref mo), (1, .int p0), (2, .int p1), (3, .int p2), (4, .int p3), (5, .int p4), (6, .ref (hq p0.toNatClampNeg)), (7, .int x51_7)]) S.x S.b d_Mo_moveWords_96 hl (k := 9) rfl (by rw [ez95]; rfl) (by decide) rfl (fun ls hl => ?_)
            refine lv_goto (tgt := 51) S.x S.b d_Mo_moveWords_99 (by decide) ?_
            have hw : pw D A s.heap _ _ [wd_Mo cs mo mr (fun _ => none) mf_51 md_51 (gMo PG hq), fo 8 (fPg cs PG) j9, wdP cs (PG j9).h (PG j9).r (PG j9).g (PG j9).tf (PG j9).ta (PG j9).pf (PG j9).na (PG j9).ma (PG j9).wa (PG j9).cf (PG j9).ca (PG j9).ef (PG j9).ea (PG j9).xf (PG j9).xa, fo 13 (fPr cs hq qr QO_51 QF_51 QA_51) p0.toNatClampNeg, wd_Mpr cs (hq p0.toNatClampNeg) (qr p0.toNatClampNeg) (fun k => if k = 0 then (some (PG j9).h) else none) (QF_51 p0.toNatClampNeg) (QA_51 p0.toNatClampNeg) (fun _ _ => none)] := hw.sub [0, 2, 4, 1, 3] rfl rfl
            have hw : pw D A s.heap _ _ [wd_Mo cs mo mr (fun _ => none) mf_51 md_51 (gMo PG hq), fo 8 (fPg cs PG) j9, wdP cs (PG j9).h (PG j9).r (PG j9).g (PG j9).tf (PG j9).ta (PG j9).pf (PG j9).na (PG j9).ma (PG j9).wa (PG j9).cf (PG j9).ca (PG j9).ef (PG j9).ea (PG j9).xf (PG j9).xa, fm 13 (fPr cs hq qr QO_51 QF_51 QA_51)] := fm_back (pr := [wd_Mo cs mo mr (fun _ => none) mf_51 md_51 (gMo PG hq), fo 8 (fPg cs PG) j9, wdP cs (PG j9).h (PG j9).r (PG j9).g (PG j9).tf (PG j9).ta (PG j9).pf (PG j9).na (PG j9).ma (PG j9).wa (PG j9).cf (PG j9).ca (PG j9).ef (PG j9).ea (PG j9).xf (PG j9).xa]) (T := fPr cs hq qr QO_51 QF_51 QA_51) (by have q8 := hw; rw [wd_oo (o := (fun k => if k = 0 then (some (PG j9).h) else none)) (o' := fun _ => QO_51 p0.toNatClampNeg) (Eq.symm hqo)] at q8; exact q8) hi86
            have hw : pw D A s.heap _ _ [wd_Mo cs mo mr (fun _ => none) mf_51 md_51 (gMo PG hq), fm 13 (fPr cs hq qr QO_51 QF_51 QA_51), fo 8 (fPg cs PG) j9, wdP cs (PG j9).h (PG j9).r (PG j9).g (PG j9).tf (PG j9).ta (PG j9).pf (PG j9).na (PG j9).ma (PG j9).wa (PG j9).cf (PG j9).ca (PG j9).ef (PG j9).ea (PG j9).xf (PG j9).xa] := hw.sub [0, 3, 1, 2] rfl rfl
            have hw : pw D A s.heap _ _ [wd_Mo cs mo mr (fun _ => none) mf_51 md_51 (gMo PG hq), fm 13 (fPr cs hq qr QO_51 QF_51 QA_51), fm 8 (fPg cs PG)] := fm_back (pr := [wd_Mo cs mo mr (fun _ => none) mf_51 md_51 (gMo PG hq), fm 13 (fPr cs hq qr QO_51 QF_51 QA_51)]) (T := fPg cs PG) hw hj9
            exact ih51 mf_51 md_51 QO_51 QF_51 QA_51 x51_7 v91 z95 _ _ ls (show (mf_51 0).toInt = (mf 0).toInt from by first | exact k51_0 | omega) (show (mf_51 2).toInt = (mf 2).toInt from by first | exact k51_1 | omega) (show (mf_51 3).toInt = (mf 3).toInt from by first | exact k51_2 | omega) (show (mf_51 7).toInt = (mf 7).toInt from by first | exact k51_3 | omega) (show (mf_51 8).toInt = (mf 8).toInt from by first | exact k51_4 | omega) (show (mf_51 9).toInt = (mf 9).toInt from by first | exact k51_5 | omega) (show (mf_51 10).toInt = (mf 10).toInt from by first | exact k51_6 | omega) (show PrA PG RR QO_51 QF_51 QA_51 from hpr) (show OqE (QO_51 p0.toNatClampNeg) (PG j9).h from hqo) (show KpW QO QF QO_51 QF_51 p0.toNatClampNeg from hkw) (show p0.toInt = 0 from by first | exact k51_10 | omega) (show 0 ≤ p2.toInt from by first | exact k51_11 | omega) (show p2.toInt < 8 from by first | exact k51_12 | omega) (show x51_7.toInt ≤ 16 from by first | exact k51_13 | omega) (show 0 ≤ v91.toInt from by first | exact e92 | omega) (show v91.toInt ≤ 1 from by first | exact e93 | omega) (show 0 ≤ z95.toInt from by first | exact oz_ae613611c0 tz95 k51_16 | omega) (show RdG v91.toInt (RdLw p1.toInt p3.toInt z95.toInt ((PG j9).xf 68).toInt) from (fun q9 => (hrd (by omega)).nx (by omega) (fun q8 => by unfold ClX; omega) (fun q8 => absurd q8 (by omega)))) (show 17 - z95.toInt + 4294967296 < (n_51 : Int) from by first | with_reducible rfl | with_reducible assumption | omega) hw (lv_sub hl [2, 3, 4, 5, 6, 7, 8, 9, 1, 0] rfl)
  refine lv_aload_n S.x S.b d_Mo_moveWords_0 rfl (lv_at hl 0 rfl) ?_
  refine lv_iload_n S.x S.b d_Mo_moveWords_1 rfl (lv_at hl 1 rfl) ?_
  refine lv_iload_n S.x S.b d_Mo_moveWords_2 rfl (lv_at hl 3 rfl) ?_
  refine px_calli (pr := []) (px_runV (As := [.int p0, .int p2]) (rest := []) S (c_mo_isBlock l D cs RR mo mr mf md hq qr QO QF QA PG p0 p2  (show 0 ≤ p0.toInt from by first | exact g0 | omega) (show p0.toInt < 13 from by first | exact g1 | omega) hpr hpg _) hT (pr := []) (pcs := [wd_Mo cs mo mr (fun _ => none) mf md (gMo PG hq), fm 13 (fPr cs hq qr QO QF QA), fm 8 (fPg cs PG)]) hw px_X.tt (px_recv hT hw 0 0 rfl rfl rfl) m14_94 m14_91 m14_93 ms_16_8 m1_20 q_Mo_isBlock ⟨Nat.le_of_ble_eq_true rfl, Nat.le_of_ble_eq_true rfl⟩ hl.1 rfl (Nat.le_of_ble_eq_true rfl) d_Mo_moveWords_3 ⟨Nat.le_of_ble_eq_true rfl, Nat.le_of_ble_eq_true rfl⟩) hw hA (fun v103 p102 H locs hp102 hw => ?_)
  obtain ⟨QO99, QF100, QA101, rfl, e104, e105, e106, e107, e108⟩ := hp102
  replace e104 : PrA PG RR QO99 QF100 QA101 := e104
  have hpr := e104
  replace e105 : KpP QO QF QA QO99 QF100 QA101 p0.toNatClampNeg := e105
  have hkw : KpW QO QF QO99 QF100 p0.toNatClampNeg := ⟨(e105.1).trans hkw.1, hkw.2.tr e105.2.1⟩
  have hqo : OqE (QO99 p0.toNatClampNeg) (PG j9).h := hkw.1.trans hqoE
  have hkf := hkw.2
  unfold KpF at hkf
  replace e106 : 0 ≤ v103.toInt := e106
  replace e107 : v103.toInt ≤ 1 := e107
  replace e108 : v103.toInt = 1 → p0.toInt = 0 ∧ 0 ≤ p2.toInt ∧ p2.toInt < 8 := e108
  replace hw : pw D A s.heap H locs [wd_Mo cs mo mr (fun _ => none) mf md (gMo PG hq), fm 13 (fPr cs hq qr QO99 QF100 QA101), fm 8 (fPg cs PG)] := hw
  have lv103 := Int32.le_toInt v103
  have uv103 := Int32.toInt_lt v103
  refine lv_if_ne (tgt := 10) S.x S.b d_Mo_moveWords_6 (by decide) (fun c109 => ?_) (fun c109 => ?_)
  · have nc109 : ¬ v103.toInt = (0 : Int) := mt (i_eq (x := v103) (y := 0)).mpr c109
    refine lv_aload_n S.x S.b d_Mo_moveWords_10 rfl (lv_at hl 0 rfl) ?_
    refine px_get S k_Mo hT hw 0 0 5 (v := .ref (mr 5)) rfl rfl rfl (by decide) m11_83 d_Mo_moveWords_11 ?_
    refine lv_iload_n S.x S.b d_Mo_moveWords_14 rfl (lv_at hl 1 rfl) ?_
    refine px_aaldS S hT hw 0 3 10 (n := 13) (f := ((gMo PG hq) 5)) rfl rfl rfl (x := p0) (vp_in_iff.mpr (by first | exact oz_59feca6c45 g0 g1 | (constructor <;> omega))) (sk := (hq p0.toNatClampNeg)) rfl d_Mo_moveWords_15 ?_
    refine lv_astore (lv' := [(6, .ref (hq p0.toNatClampNeg)), (0, .ref mo), (1, .int p0), (2, .int p1), (3, .int p2), (4, .int p3), (5, .int p4)]) S.x S.b d_Mo_moveWords_16 hl (by decide) rfl (fun ls hl => ?_)
    refine lv_iload S.x S.b d_Mo_moveWords_18 (lv_at hl 6 rfl) ?_
    refine lv_bipush (v := 16) S.x S.b d_Mo_moveWords_20 (by decide) ?_
    refine lv_icmp_ge (tgt := 30) S.x S.b d_Mo_moveWords_22 (by decide) (fun c110 => ?_) (fun c110 => ?_)
    · have nc110 : (16 : Int) ≤ p4.toInt := (i_le (x := 16) (y := p4)).mp c110
      refine lv_bipush (v := 16) S.x S.b d_Mo_moveWords_30 (by decide) ?_
      refine lv_istore (lv' := [(7, .int 16), (6, .ref (hq p0.toNatClampNeg)), (0, .ref mo), (1, .int p0), (2, .int p1), (3, .int p2), (4, .int p3), (5, .int p4)]) S.x S.b d_Mo_moveWords_32 hl (by decide) rfl (fun ls hl => ?_)
      refine lv_iload S.x S.b d_Mo_moveWords_34 (lv_at hl 6 rfl) ?_
      refine lv_iconst (v := 4) S.x S.b d_Mo_moveWords_36 (by decide) ?_
      refine lv_irem S.x S.b d_Mo_moveWords_37 (by decide) ?_
      refine lv_topi (fun z111 ez111 => ?_)
      have lz111 := Int32.le_toInt z111
      have uz111 := Int32.toInt_lt z111
      refine lv_if_ne (tgt := 45) S.x S.b d_Mo_moveWords_38 (by decide) (fun c112 => ?_) (fun c112 => ?_)
      · have nc112 : ¬ z111.toInt = (0 : Int) := mt (i_eq (x := z111) (y := 0)).mpr c112
        refine lv_iconst (v := 0) S.x S.b d_Mo_moveWords_45 (by decide) ?_
        refine lv_istore (lv' := [(8, .int 0), (7, .int 16), (6, .ref (hq p0.toNatClampNeg)), (0, .ref mo), (1, .int p0), (2, .int p1), (3, .int p2), (4, .int p3), (5, .int p4)]) S.x S.b d_Mo_moveWords_46 hl (by decide) rfl (fun ls hl => ?_)
        refine lv_iconst (v := 0) S.x S.b d_Mo_moveWords_48 (by decide) ?_
        refine lv_istore (lv' := [(9, .int 0), (8, .int 0), (7, .int 16), (6, .ref (hq p0.toNatClampNeg)), (0, .ref mo), (1, .int p0), (2, .int p1), (3, .int p2), (4, .int p3), (5, .int p4)]) S.x S.b d_Mo_moveWords_49 hl (by decide) rfl (fun ls hl => ?_)
        exact J51 ((17 - (0 : Int) + 4294967296).toNat + 1) mf md QO99 QF100 QA101 (16 : Int32) (0 : Int32) (0 : Int32) _ _ ls (show (mf 0).toInt = (mf 0).toInt from rfl) (show (mf 2).toInt = (mf 2).toInt from rfl) (show (mf 3).toInt = (mf 3).toInt from rfl) (show (mf 7).toInt = (mf 7).toInt from rfl) (show (mf 8).toInt = (mf 8).toInt from rfl) (show (mf 9).toInt = (mf 9).toInt from rfl) (show (mf 10).toInt = (mf 10).toInt from rfl) (show PrA PG RR QO99 QF100 QA101 from hpr) (show OqE (QO99 p0.toNatClampNeg) (PG j9).h from hqo) (show KpW QO QF QO99 QF100 p0.toNatClampNeg from hkw) (show p0.toInt = 0 from by first | with_reducible rfl | with_reducible assumption | omega) (show 0 ≤ p2.toInt from by first | with_reducible rfl | with_reducible assumption | omega) (show p2.toInt < 8 from by first | with_reducible rfl | with_reducible assumption | omega) (show (16 : Int) ≤ 16 from by first | decide | omega) (show 0 ≤ (0 : Int) from by first | decide | omega) (show (0 : Int) ≤ 1 from by first | decide | omega) (show 0 ≤ (0 : Int) from by first | decide | omega) (show RdG (0 : Int) (RdLw p1.toInt p3.toInt (0 : Int) ((PG j9).xf 68).toInt) from (fun _ k9 a9 b9 => absurd b9 (by omega))) (show 17 - (0 : Int) + 4294967296 < ((((17 - (0 : Int) + 4294967296).toNat + 1 : Nat) : Int) : Int) from by first | exact oz_natlt | omega) hw (lv_sub hl [4, 5, 6, 7, 8, 9, 3, 2, 1, 0] rfl)
      · have nc112 : z111.toInt = (0 : Int) := (i_eq (x := z111) (y := 0)).mp c112
        refine lv_iconst (v := 1) S.x S.b d_Mo_moveWords_41 (by decide) ?_
        refine lv_goto (tgt := 46) S.x S.b d_Mo_moveWords_42 (by decide) ?_
        refine lv_istore (lv' := [(8, .int 1), (7, .int 16), (6, .ref (hq p0.toNatClampNeg)), (0, .ref mo), (1, .int p0), (2, .int p1), (3, .int p2), (4, .int p3), (5, .int p4)]) S.x S.b d_Mo_moveWords_46 hl (by decide) rfl (fun ls hl => ?_)
        refine lv_iconst (v := 0) S.x S.b d_Mo_moveWords_48 (by decide) ?_
        refine lv_istore (lv' := [(9, .int 0), (8, .int 1), (7, .int 16), (6, .ref (hq p0.toNatClampNeg)), (0, .ref mo), (1, .int p0), (2, .int p1), (3, .int p2), (4, .int p3), (5, .int p4)]) S.x S.b d_Mo_moveWords_49 hl (by decide) rfl (fun ls hl => ?_)
        exact J51 ((17 - (0 : Int) + 4294967296).toNat + 1) mf md QO99 QF100 QA101 (16 : Int32) (1 : Int32) (0 : Int32) _ _ ls (show (mf 0).toInt = (mf 0).toInt from rfl) (show (mf 2).toInt = (mf 2).toInt from rfl) (show (mf 3).toInt = (mf 3).toInt from rfl) (show (mf 7).toInt = (mf 7).toInt from rfl) (show (mf 8).toInt = (mf 8).toInt from rfl) (show (mf 9).toInt = (mf 9).toInt from rfl) (show (mf 10).toInt = (mf 10).toInt from rfl) (show PrA PG RR QO99 QF100 QA101 from hpr) (show OqE (QO99 p0.toNatClampNeg) (PG j9).h from hqo) (show KpW QO QF QO99 QF100 p0.toNatClampNeg from hkw) (show p0.toInt = 0 from by first | with_reducible rfl | with_reducible assumption | omega) (show 0 ≤ p2.toInt from by first | with_reducible rfl | with_reducible assumption | omega) (show p2.toInt < 8 from by first | with_reducible rfl | with_reducible assumption | omega) (show (16 : Int) ≤ 16 from by first | decide | omega) (show 0 ≤ (1 : Int) from by first | decide | omega) (show (1 : Int) ≤ 1 from by first | decide | omega) (show 0 ≤ (0 : Int) from by first | decide | omega) (show RdG (1 : Int) (RdLw p1.toInt p3.toInt (0 : Int) ((PG j9).xf 68).toInt) from (fun _ k9 a9 b9 => absurd b9 (by omega))) (show 17 - (0 : Int) + 4294967296 < ((((17 - (0 : Int) + 4294967296).toNat + 1 : Nat) : Int) : Int) from by first | exact oz_natlt | omega) hw (lv_sub hl [4, 5, 6, 7, 8, 9, 3, 2, 1, 0] rfl)
    · have nc110 : ¬ (16 : Int) ≤ p4.toInt := mt (i_le (x := 16) (y := p4)).mpr c110
      refine lv_iload S.x S.b d_Mo_moveWords_25 (lv_at hl 6 rfl) ?_
      refine lv_goto (tgt := 32) S.x S.b d_Mo_moveWords_27 (by decide) ?_
      refine lv_istore (lv' := [(7, .int p4), (6, .ref (hq p0.toNatClampNeg)), (0, .ref mo), (1, .int p0), (2, .int p1), (3, .int p2), (4, .int p3), (5, .int p4)]) S.x S.b d_Mo_moveWords_32 hl (by decide) rfl (fun ls hl => ?_)
      refine lv_iload S.x S.b d_Mo_moveWords_34 (lv_at hl 6 rfl) ?_
      refine lv_iconst (v := 4) S.x S.b d_Mo_moveWords_36 (by decide) ?_
      refine lv_irem S.x S.b d_Mo_moveWords_37 (by decide) ?_
      refine lv_topi (fun z113 ez113 => ?_)
      have lz113 := Int32.le_toInt z113
      have uz113 := Int32.toInt_lt z113
      refine lv_if_ne (tgt := 45) S.x S.b d_Mo_moveWords_38 (by decide) (fun c114 => ?_) (fun c114 => ?_)
      · have nc114 : ¬ z113.toInt = (0 : Int) := mt (i_eq (x := z113) (y := 0)).mpr c114
        refine lv_iconst (v := 0) S.x S.b d_Mo_moveWords_45 (by decide) ?_
        refine lv_istore (lv' := [(8, .int 0), (7, .int p4), (6, .ref (hq p0.toNatClampNeg)), (0, .ref mo), (1, .int p0), (2, .int p1), (3, .int p2), (4, .int p3), (5, .int p4)]) S.x S.b d_Mo_moveWords_46 hl (by decide) rfl (fun ls hl => ?_)
        refine lv_iconst (v := 0) S.x S.b d_Mo_moveWords_48 (by decide) ?_
        refine lv_istore (lv' := [(9, .int 0), (8, .int 0), (7, .int p4), (6, .ref (hq p0.toNatClampNeg)), (0, .ref mo), (1, .int p0), (2, .int p1), (3, .int p2), (4, .int p3), (5, .int p4)]) S.x S.b d_Mo_moveWords_49 hl (by decide) rfl (fun ls hl => ?_)
        exact J51 ((17 - (0 : Int) + 4294967296).toNat + 1) mf md QO99 QF100 QA101 p4 (0 : Int32) (0 : Int32) _ _ ls (show (mf 0).toInt = (mf 0).toInt from rfl) (show (mf 2).toInt = (mf 2).toInt from rfl) (show (mf 3).toInt = (mf 3).toInt from rfl) (show (mf 7).toInt = (mf 7).toInt from rfl) (show (mf 8).toInt = (mf 8).toInt from rfl) (show (mf 9).toInt = (mf 9).toInt from rfl) (show (mf 10).toInt = (mf 10).toInt from rfl) (show PrA PG RR QO99 QF100 QA101 from hpr) (show OqE (QO99 p0.toNatClampNeg) (PG j9).h from hqo) (show KpW QO QF QO99 QF100 p0.toNatClampNeg from hkw) (show p0.toInt = 0 from by first | with_reducible rfl | with_reducible assumption | omega) (show 0 ≤ p2.toInt from by first | with_reducible rfl | with_reducible assumption | omega) (show p2.toInt < 8 from by first | with_reducible rfl | with_reducible assumption | omega) (show p4.toInt ≤ 16 from by first | exact oz_05cfa6a11f nc110 | omega) (show 0 ≤ (0 : Int) from by first | decide | omega) (show (0 : Int) ≤ 1 from by first | decide | omega) (show 0 ≤ (0 : Int) from by first | decide | omega) (show RdG (0 : Int) (RdLw p1.toInt p3.toInt (0 : Int) ((PG j9).xf 68).toInt) from (fun _ k9 a9 b9 => absurd b9 (by omega))) (show 17 - (0 : Int) + 4294967296 < ((((17 - (0 : Int) + 4294967296).toNat + 1 : Nat) : Int) : Int) from by first | exact oz_natlt | omega) hw (lv_sub hl [4, 5, 6, 7, 8, 9, 3, 2, 1, 0] rfl)
      · have nc114 : z113.toInt = (0 : Int) := (i_eq (x := z113) (y := 0)).mp c114
        refine lv_iconst (v := 1) S.x S.b d_Mo_moveWords_41 (by decide) ?_
        refine lv_goto (tgt := 46) S.x S.b d_Mo_moveWords_42 (by decide) ?_
        refine lv_istore (lv' := [(8, .int 1), (7, .int p4), (6, .ref (hq p0.toNatClampNeg)), (0, .ref mo), (1, .int p0), (2, .int p1), (3, .int p2), (4, .int p3), (5, .int p4)]) S.x S.b d_Mo_moveWords_46 hl (by decide) rfl (fun ls hl => ?_)
        refine lv_iconst (v := 0) S.x S.b d_Mo_moveWords_48 (by decide) ?_
        refine lv_istore (lv' := [(9, .int 0), (8, .int 1), (7, .int p4), (6, .ref (hq p0.toNatClampNeg)), (0, .ref mo), (1, .int p0), (2, .int p1), (3, .int p2), (4, .int p3), (5, .int p4)]) S.x S.b d_Mo_moveWords_49 hl (by decide) rfl (fun ls hl => ?_)
        exact J51 ((17 - (0 : Int) + 4294967296).toNat + 1) mf md QO99 QF100 QA101 p4 (1 : Int32) (0 : Int32) _ _ ls (show (mf 0).toInt = (mf 0).toInt from rfl) (show (mf 2).toInt = (mf 2).toInt from rfl) (show (mf 3).toInt = (mf 3).toInt from rfl) (show (mf 7).toInt = (mf 7).toInt from rfl) (show (mf 8).toInt = (mf 8).toInt from rfl) (show (mf 9).toInt = (mf 9).toInt from rfl) (show (mf 10).toInt = (mf 10).toInt from rfl) (show PrA PG RR QO99 QF100 QA101 from hpr) (show OqE (QO99 p0.toNatClampNeg) (PG j9).h from hqo) (show KpW QO QF QO99 QF100 p0.toNatClampNeg from hkw) (show p0.toInt = 0 from by first | with_reducible rfl | with_reducible assumption | omega) (show 0 ≤ p2.toInt from by first | with_reducible rfl | with_reducible assumption | omega) (show p2.toInt < 8 from by first | with_reducible rfl | with_reducible assumption | omega) (show p4.toInt ≤ 16 from by first | exact oz_05cfa6a11f nc110 | omega) (show 0 ≤ (1 : Int) from by first | decide | omega) (show (1 : Int) ≤ 1 from by first | decide | omega) (show 0 ≤ (0 : Int) from by first | decide | omega) (show RdG (1 : Int) (RdLw p1.toInt p3.toInt (0 : Int) ((PG j9).xf 68).toInt) from (fun _ k9 a9 b9 => absurd b9 (by omega))) (show 17 - (0 : Int) + 4294967296 < ((((17 - (0 : Int) + 4294967296).toNat + 1 : Nat) : Int) : Int) from by first | exact oz_natlt | omega) hw (lv_sub hl [4, 5, 6, 7, 8, 9, 3, 2, 1, 0] rfl)
  · have nc109 : v103.toInt = (0 : Int) := (i_eq (x := v103) (y := 0)).mp c109
    exact px_vret S hr hlk hAe hw (Nat.le_of_ble_eq_true rfl) (Nat.le_of_ble_eq_true rfl) (⟨mf, md, QO99, QF100, QA101, rfl, (show PrA PG RR QO99 QF100 QA101 from hpr), (show OqE (QO99 p0.toNatClampNeg) (PG j9).h from hqo), (show KpW QO QF QO99 QF100 p0.toNatClampNeg from hkw), (show (mf 0).toInt = (mf 0).toInt from rfl), (show (mf 2).toInt = (mf 2).toInt from rfl), (show (mf 3).toInt = (mf 3).toInt from rfl), (show (mf 7).toInt = (mf 7).toInt from rfl), (show (mf 8).toInt = (mf 8).toInt from rfl), (show (mf 9).toInt = (mf 9).toInt from rfl), (show (mf 10).toInt = (mf 10).toInt from rfl)⟩) d_Mo_moveWords_9
abbrev b_Mo_rawCall : ByteArray := prog_14_method_25_code
def y_Mo_rawCall : MethodName := ⟨"HomeSystemModel", "rawCall", "(I)Z"⟩
theorem d_Mo_rawCall_0 : decode b_Mo_rawCall 0 = .ok (.aload_n 0, 1) := by decide +kernel
theorem d_Mo_rawCall_1 : decode b_Mo_rawCall 1 = .ok (.getfield 21, 3) := by decide +kernel
theorem d_Mo_rawCall_4 : decode b_Mo_rawCall 4 = .ok (.iload_n 1, 1) := by decide +kernel
theorem d_Mo_rawCall_5 : decode b_Mo_rawCall 5 = .ok (.aaload, 1) := by decide +kernel
theorem d_Mo_rawCall_6 : decode b_Mo_rawCall 6 = .ok (.astore_n 2, 1) := by decide +kernel
theorem d_Mo_rawCall_7 : decode b_Mo_rawCall 7 = .ok (.aload_n 2, 1) := by decide +kernel
theorem d_Mo_rawCall_8 : decode b_Mo_rawCall 8 = .ok (.getfield 172, 3) := by decide +kernel
theorem d_Mo_rawCall_11 : decode b_Mo_rawCall 11 = .ok (.bipush 10, 2) := by decide +kernel
theorem d_Mo_rawCall_13 : decode b_Mo_rawCall 13 = .ok (.iaload, 1) := by decide +kernel
theorem d_Mo_rawCall_14 : decode b_Mo_rawCall 14 = .ok (.istore_n 3, 1) := by decide +kernel
theorem d_Mo_rawCall_15 : decode b_Mo_rawCall 15 = .ok (.aload_n 2, 1) := by decide +kernel
theorem d_Mo_rawCall_16 : decode b_Mo_rawCall 16 = .ok (.getfield 172, 3) := by decide +kernel
theorem d_Mo_rawCall_19 : decode b_Mo_rawCall 19 = .ok (.bipush 11, 2) := by decide +kernel
theorem d_Mo_rawCall_21 : decode b_Mo_rawCall 21 = .ok (.iaload, 1) := by decide +kernel
theorem d_Mo_rawCall_22 : decode b_Mo_rawCall 22 = .ok (.istore 4, 2) := by decide +kernel
theorem d_Mo_rawCall_24 : decode b_Mo_rawCall 24 = .ok (.iconst 1, 1) := by decide +kernel
theorem d_Mo_rawCall_25 : decode b_Mo_rawCall 25 = .ok (.istore 5, 2) := by decide +kernel
theorem d_Mo_rawCall_27 : decode b_Mo_rawCall 27 = .ok (.iconst 0, 1) := by decide +kernel
theorem d_Mo_rawCall_28 : decode b_Mo_rawCall 28 = .ok (.istore 6, 2) := by decide +kernel
theorem d_Mo_rawCall_30 : decode b_Mo_rawCall 30 = .ok (.aload_n 2, 1) := by decide +kernel
theorem d_Mo_rawCall_31 : decode b_Mo_rawCall 31 = .ok (.getfield 172, 3) := by decide +kernel
theorem d_Mo_rawCall_34 : decode b_Mo_rawCall 34 = .ok (.bipush 17, 2) := by decide +kernel
theorem d_Mo_rawCall_36 : decode b_Mo_rawCall 36 = .ok (.iaload, 1) := by decide +kernel
theorem d_Mo_rawCall_37 : decode b_Mo_rawCall 37 = .ok (.tableswitch 245 0 19 #[95, 104, 112, 125, 139, 153, 167, 181, 181, 216, 245, 245, 245, 245, 245, 245, 225, 225, 225, 225], 95) := by decide +kernel
theorem d_Mo_rawCall_132 : decode b_Mo_rawCall 132 = .ok (.aload_n 2, 1) := by decide +kernel
theorem d_Mo_rawCall_133 : decode b_Mo_rawCall 133 = .ok (.iconst 0, 1) := by decide +kernel
theorem d_Mo_rawCall_134 : decode b_Mo_rawCall 134 = .ok (.iload_n 3, 1) := by decide +kernel
theorem d_Mo_rawCall_135 : decode b_Mo_rawCall 135 = .ok (.invokevirtual 85, 3) := by decide +kernel
theorem d_Mo_rawCall_138 : decode b_Mo_rawCall 138 = .ok (.goto 151, 3) := by decide +kernel
theorem d_Mo_rawCall_141 : decode b_Mo_rawCall 141 = .ok (.aload_n 2, 1) := by decide +kernel
theorem d_Mo_rawCall_142 : decode b_Mo_rawCall 142 = .ok (.iload_n 3, 1) := by decide +kernel
theorem d_Mo_rawCall_143 : decode b_Mo_rawCall 143 = .ok (.invokevirtual 139, 3) := by decide +kernel
theorem d_Mo_rawCall_146 : decode b_Mo_rawCall 146 = .ok (.goto 143, 3) := by decide +kernel
theorem d_Mo_rawCall_149 : decode b_Mo_rawCall 149 = .ok (.aload_n 0, 1) := by decide +kernel
theorem d_Mo_rawCall_150 : decode b_Mo_rawCall 150 = .ok (.iload_n 1, 1) := by decide +kernel
theorem d_Mo_rawCall_151 : decode b_Mo_rawCall 151 = .ok (.iload_n 3, 1) := by decide +kernel
theorem d_Mo_rawCall_152 : decode b_Mo_rawCall 152 = .ok (.iload 4, 2) := by decide +kernel
theorem d_Mo_rawCall_154 : decode b_Mo_rawCall 154 = .ok (.invokevirtual 142, 3) := by decide +kernel
theorem d_Mo_rawCall_157 : decode b_Mo_rawCall 157 = .ok (.istore 5, 2) := by decide +kernel
theorem d_Mo_rawCall_159 : decode b_Mo_rawCall 159 = .ok (.goto 130, 3) := by decide +kernel
theorem d_Mo_rawCall_162 : decode b_Mo_rawCall 162 = .ok (.aload_n 0, 1) := by decide +kernel
theorem d_Mo_rawCall_163 : decode b_Mo_rawCall 163 = .ok (.iload_n 1, 1) := by decide +kernel
theorem d_Mo_rawCall_164 : decode b_Mo_rawCall 164 = .ok (.iload_n 3, 1) := by decide +kernel
theorem d_Mo_rawCall_165 : decode b_Mo_rawCall 165 = .ok (.invokevirtual 146, 3) := by decide +kernel
theorem d_Mo_rawCall_168 : decode b_Mo_rawCall 168 = .ok (.istore 5, 2) := by decide +kernel
theorem d_Mo_rawCall_170 : decode b_Mo_rawCall 170 = .ok (.iconst 1, 1) := by decide +kernel
theorem d_Mo_rawCall_171 : decode b_Mo_rawCall 171 = .ok (.istore 6, 2) := by decide +kernel
theorem d_Mo_rawCall_173 : decode b_Mo_rawCall 173 = .ok (.goto 116, 3) := by decide +kernel
theorem d_Mo_rawCall_176 : decode b_Mo_rawCall 176 = .ok (.aload_n 0, 1) := by decide +kernel
theorem d_Mo_rawCall_177 : decode b_Mo_rawCall 177 = .ok (.iload_n 1, 1) := by decide +kernel
theorem d_Mo_rawCall_178 : decode b_Mo_rawCall 178 = .ok (.iload_n 3, 1) := by decide +kernel
theorem d_Mo_rawCall_179 : decode b_Mo_rawCall 179 = .ok (.invokevirtual 150, 3) := by decide +kernel
theorem d_Mo_rawCall_182 : decode b_Mo_rawCall 182 = .ok (.istore 5, 2) := by decide +kernel
theorem d_Mo_rawCall_184 : decode b_Mo_rawCall 184 = .ok (.iconst 1, 1) := by decide +kernel
theorem d_Mo_rawCall_185 : decode b_Mo_rawCall 185 = .ok (.istore 6, 2) := by decide +kernel
theorem d_Mo_rawCall_187 : decode b_Mo_rawCall 187 = .ok (.goto 102, 3) := by decide +kernel
theorem d_Mo_rawCall_190 : decode b_Mo_rawCall 190 = .ok (.aload_n 0, 1) := by decide +kernel
theorem d_Mo_rawCall_191 : decode b_Mo_rawCall 191 = .ok (.iload_n 1, 1) := by decide +kernel
theorem d_Mo_rawCall_192 : decode b_Mo_rawCall 192 = .ok (.iload_n 3, 1) := by decide +kernel
theorem d_Mo_rawCall_193 : decode b_Mo_rawCall 193 = .ok (.iload 4, 2) := by decide +kernel
theorem d_Mo_rawCall_195 : decode b_Mo_rawCall 195 = .ok (.invokevirtual 153, 3) := by decide +kernel
theorem d_Mo_rawCall_198 : decode b_Mo_rawCall 198 = .ok (.iconst 1, 1) := by decide +kernel
theorem d_Mo_rawCall_199 : decode b_Mo_rawCall 199 = .ok (.istore 6, 2) := by decide +kernel
theorem d_Mo_rawCall_201 : decode b_Mo_rawCall 201 = .ok (.goto 88, 3) := by decide +kernel
theorem d_Mo_rawCall_204 : decode b_Mo_rawCall 204 = .ok (.aload_n 0, 1) := by decide +kernel
theorem d_Mo_rawCall_205 : decode b_Mo_rawCall 205 = .ok (.iload_n 1, 1) := by decide +kernel
theorem d_Mo_rawCall_206 : decode b_Mo_rawCall 206 = .ok (.iload_n 3, 1) := by decide +kernel
theorem d_Mo_rawCall_207 : decode b_Mo_rawCall 207 = .ok (.invokevirtual 156, 3) := by decide +kernel
theorem d_Mo_rawCall_210 : decode b_Mo_rawCall 210 = .ok (.istore 5, 2) := by decide +kernel
theorem d_Mo_rawCall_212 : decode b_Mo_rawCall 212 = .ok (.iconst 1, 1) := by decide +kernel
theorem d_Mo_rawCall_213 : decode b_Mo_rawCall 213 = .ok (.istore 6, 2) := by decide +kernel
theorem d_Mo_rawCall_215 : decode b_Mo_rawCall 215 = .ok (.goto 74, 3) := by decide +kernel
theorem d_Mo_rawCall_218 : decode b_Mo_rawCall 218 = .ok (.aload_n 0, 1) := by decide +kernel
theorem d_Mo_rawCall_219 : decode b_Mo_rawCall 219 = .ok (.iload_n 1, 1) := by decide +kernel
theorem d_Mo_rawCall_220 : decode b_Mo_rawCall 220 = .ok (.aload_n 2, 1) := by decide +kernel
theorem d_Mo_rawCall_221 : decode b_Mo_rawCall 221 = .ok (.getfield 172, 3) := by decide +kernel
theorem d_Mo_rawCall_224 : decode b_Mo_rawCall 224 = .ok (.bipush 17, 2) := by decide +kernel
theorem d_Mo_rawCall_226 : decode b_Mo_rawCall 226 = .ok (.iaload, 1) := by decide +kernel
theorem d_Mo_rawCall_227 : decode b_Mo_rawCall 227 = .ok (.bipush 7, 2) := by decide +kernel
theorem d_Mo_rawCall_229 : decode b_Mo_rawCall 229 = .ok (.if_icmp .ne 7, 3) := by decide +kernel
theorem d_Mo_rawCall_232 : decode b_Mo_rawCall 232 = .ok (.iconst 1, 1) := by decide +kernel
theorem d_Mo_rawCall_233 : decode b_Mo_rawCall 233 = .ok (.goto 4, 3) := by decide +kernel
theorem d_Mo_rawCall_236 : decode b_Mo_rawCall 236 = .ok (.iconst 0, 1) := by decide +kernel
theorem d_Mo_rawCall_237 : decode b_Mo_rawCall 237 = .ok (.iload_n 3, 1) := by decide +kernel
theorem d_Mo_rawCall_238 : decode b_Mo_rawCall 238 = .ok (.iload 4, 2) := by decide +kernel
theorem d_Mo_rawCall_240 : decode b_Mo_rawCall 240 = .ok (.aload_n 2, 1) := by decide +kernel
theorem d_Mo_rawCall_241 : decode b_Mo_rawCall 241 = .ok (.getfield 172, 3) := by decide +kernel
theorem d_Mo_rawCall_244 : decode b_Mo_rawCall 244 = .ok (.bipush 12, 2) := by decide +kernel
theorem d_Mo_rawCall_246 : decode b_Mo_rawCall 246 = .ok (.iaload, 1) := by decide +kernel
theorem d_Mo_rawCall_247 : decode b_Mo_rawCall 247 = .ok (.invokevirtual 175, 3) := by decide +kernel
theorem d_Mo_rawCall_250 : decode b_Mo_rawCall 250 = .ok (.goto 39, 3) := by decide +kernel
theorem d_Mo_rawCall_253 : decode b_Mo_rawCall 253 = .ok (.aload_n 2, 1) := by decide +kernel
theorem d_Mo_rawCall_254 : decode b_Mo_rawCall 254 = .ok (.iconst 1, 1) := by decide +kernel
theorem d_Mo_rawCall_255 : decode b_Mo_rawCall 255 = .ok (.iload_n 3, 1) := by decide +kernel
theorem d_Mo_rawCall_256 : decode b_Mo_rawCall 256 = .ok (.invokevirtual 85, 3) := by decide +kernel
theorem d_Mo_rawCall_259 : decode b_Mo_rawCall 259 = .ok (.goto 30, 3) := by decide +kernel
theorem d_Mo_rawCall_262 : decode b_Mo_rawCall 262 = .ok (.aload_n 2, 1) := by decide +kernel
theorem d_Mo_rawCall_263 : decode b_Mo_rawCall 263 = .ok (.iconst 2, 1) := by decide +kernel
theorem d_Mo_rawCall_264 : decode b_Mo_rawCall 264 = .ok (.aload_n 2, 1) := by decide +kernel
theorem d_Mo_rawCall_265 : decode b_Mo_rawCall 265 = .ok (.getfield 172, 3) := by decide +kernel
theorem d_Mo_rawCall_268 : decode b_Mo_rawCall 268 = .ok (.bipush 17, 2) := by decide +kernel
theorem d_Mo_rawCall_270 : decode b_Mo_rawCall 270 = .ok (.iaload, 1) := by decide +kernel
theorem d_Mo_rawCall_271 : decode b_Mo_rawCall 271 = .ok (.iadd, 1) := by decide +kernel
theorem d_Mo_rawCall_272 : decode b_Mo_rawCall 272 = .ok (.bipush 16, 2) := by decide +kernel
theorem d_Mo_rawCall_274 : decode b_Mo_rawCall 274 = .ok (.isub, 1) := by decide +kernel
theorem d_Mo_rawCall_275 : decode b_Mo_rawCall 275 = .ok (.iconst 0, 1) := by decide +kernel
theorem d_Mo_rawCall_276 : decode b_Mo_rawCall 276 = .ok (.invokevirtual 85, 3) := by decide +kernel
theorem d_Mo_rawCall_279 : decode b_Mo_rawCall 279 = .ok (.goto 10, 3) := by decide +kernel
theorem d_Mo_rawCall_282 : decode b_Mo_rawCall 282 = .ok (.aload_n 2, 1) := by decide +kernel
theorem d_Mo_rawCall_283 : decode b_Mo_rawCall 283 = .ok (.bipush 7, 2) := by decide +kernel
theorem d_Mo_rawCall_285 : decode b_Mo_rawCall 285 = .ok (.iconst 0, 1) := by decide +kernel
theorem d_Mo_rawCall_286 : decode b_Mo_rawCall 286 = .ok (.invokevirtual 85, 3) := by decide +kernel
theorem d_Mo_rawCall_289 : decode b_Mo_rawCall 289 = .ok (.iload 5, 2) := by decide +kernel
theorem d_Mo_rawCall_291 : decode b_Mo_rawCall 291 = .ok (.ifCond .eq 50, 3) := by decide +kernel
theorem d_Mo_rawCall_294 : decode b_Mo_rawCall 294 = .ok (.aload_n 2, 1) := by decide +kernel
theorem d_Mo_rawCall_295 : decode b_Mo_rawCall 295 = .ok (.invokevirtual 178, 3) := by decide +kernel
theorem d_Mo_rawCall_298 : decode b_Mo_rawCall 298 = .ok (.ifCond .eq 43, 3) := by decide +kernel
theorem d_Mo_rawCall_301 : decode b_Mo_rawCall 301 = .ok (.aload_n 2, 1) := by decide +kernel
theorem d_Mo_rawCall_302 : decode b_Mo_rawCall 302 = .ok (.getfield 172, 3) := by decide +kernel
theorem d_Mo_rawCall_305 : decode b_Mo_rawCall 305 = .ok (.bipush 10, 2) := by decide +kernel
theorem d_Mo_rawCall_307 : decode b_Mo_rawCall 307 = .ok (.iload 6, 2) := by decide +kernel
theorem d_Mo_rawCall_309 : decode b_Mo_rawCall 309 = .ok (.ifCond .eq 10, 3) := by decide +kernel
theorem d_Mo_rawCall_312 : decode b_Mo_rawCall 312 = .ok (.aload_n 0, 1) := by decide +kernel
theorem d_Mo_rawCall_313 : decode b_Mo_rawCall 313 = .ok (.getfield 111, 3) := by decide +kernel
theorem d_Mo_rawCall_316 : decode b_Mo_rawCall 316 = .ok (.goto 4, 3) := by decide +kernel
theorem d_Mo_rawCall_319 : decode b_Mo_rawCall 319 = .ok (.iload_n 3, 1) := by decide +kernel
theorem d_Mo_rawCall_320 : decode b_Mo_rawCall 320 = .ok (.iastore, 1) := by decide +kernel
theorem d_Mo_rawCall_321 : decode b_Mo_rawCall 321 = .ok (.aload_n 2, 1) := by decide +kernel
theorem d_Mo_rawCall_322 : decode b_Mo_rawCall 322 = .ok (.aload_n 2, 1) := by decide +kernel
theorem d_Mo_rawCall_323 : decode b_Mo_rawCall 323 = .ok (.getfield 181, 3) := by decide +kernel
theorem d_Mo_rawCall_326 : decode b_Mo_rawCall 326 = .ok (.iconst 4, 1) := by decide +kernel
theorem d_Mo_rawCall_327 : decode b_Mo_rawCall 327 = .ok (.iadd, 1) := by decide +kernel
theorem d_Mo_rawCall_328 : decode b_Mo_rawCall 328 = .ok (.putfield 181, 3) := by decide +kernel
theorem d_Mo_rawCall_331 : decode b_Mo_rawCall 331 = .ok (.aload_n 2, 1) := by decide +kernel
theorem d_Mo_rawCall_332 : decode b_Mo_rawCall 332 = .ok (.dup, 1) := by decide +kernel
theorem d_Mo_rawCall_333 : decode b_Mo_rawCall 333 = .ok (.getfield 184, 3) := by decide +kernel
theorem d_Mo_rawCall_336 : decode b_Mo_rawCall 336 = .ok (.iconst 1, 1) := by decide +kernel
theorem d_Mo_rawCall_337 : decode b_Mo_rawCall 337 = .ok (.isub, 1) := by decide +kernel
theorem d_Mo_rawCall_338 : decode b_Mo_rawCall 338 = .ok (.putfield 184, 3) := by decide +kernel
theorem d_Mo_rawCall_341 : decode b_Mo_rawCall 341 = .ok (.iload 5, 2) := by decide +kernel
theorem d_Mo_rawCall_343 : decode b_Mo_rawCall 343 = .ok (.ireturn, 1) := by decide +kernel
theorem q_Mo_rawCall : px_y y_Mo_rawCall 1 := by unfold px_y; decide +kernel
set_option maxHeartbeats 4000000 in
set_option maxRecDepth 100000 in
theorem c_mo_rawCall (l : Launch) (D : va_G) (cs : Nat → ClassId) (RR : Nat → Int) (j9 : Nat) (mo : Nat) (mr : Nat → Nat) (mf : Nat → Int32) (md : Nat → Nat → Int32) (hq : Nat → Nat) (qr : Nat → Nat → Nat) (QO : Nat → Option Nat) (QF : Nat → Nat → Int32) (QA : Nat → Nat → Nat → Int32) (PG : Nat → Pgs) (p0 : Int32)  (g0 : 0 ≤ p0.toInt) (g1 : p0.toInt < 13) (g2 : 0 ≤ (mf 7).toInt) (g3 : (mf 7).toInt ≤ 100) (g4 : 0 ≤ (mf 8).toInt) (g5 : (mf 8).toInt ≤ 512) (g6 : (QF p0.toNatClampNeg 1).toInt = 1) (g7 : (QF p0.toNatClampNeg 2).toInt = -2) (g8 : 1 ≤ (QF p0.toNatClampNeg 4).toInt) (hpr : PrA PG RR QO QF QA) (hpg : PgA PG) (hj9 : j9 < 8) (h66 : ((PG j9).xf 66).toInt = 2) (hqo : OqE (QO p0.toNatClampNeg) (PG j9).h) (hrw : PsW (RR p0.toNatClampNeg) (QF p0.toNatClampNeg)) : MetI l y_Mo_rawCall b_Mo_rawCall 7 (.boolean) D cs 5 220 (0) (0) [.ref mo, .int p0] [wd_Mo cs mo mr (fun _ => none) mf md (gMo PG hq), fm 13 (fPr cs hq qr QO QF QA), fm 8 (fPg cs PG)] (oX (fun A U H => (∀ j : Nat, j < 8 → oP A (PG j).g U H)) [wd_Mo cs mo mr (fun _ => none) mf md (gMo PG hq), fm 13 (fPr cs hq qr QO QF QA), fm 8 (fPg cs PG)]) (fun v ps => ∃ (mf' : Nat → Int32) (md' : Nat → Nat → Int32) (QO' : Nat → Option Nat) (QF' : Nat → Nat → Int32) (QA' : Nat → Nat → Nat → Int32), (ps = [wd_Mo cs mo mr (fun _ => none) mf' md' (gMo PG hq), fm 13 (fPr cs hq qr QO' QF' QA'), fm 8 (fPg cs PG)]) ∧ (0 ≤ v.toInt) ∧ (v.toInt ≤ 1) ∧ (PrA PG (va_up RR p0.toNatClampNeg (RR p0.toNatClampNeg - v.toInt)) QO' QF' QA') ∧ ((mf' 0).toInt = (mf 0).toInt) ∧ ((mf' 2).toInt = (mf 2).toInt) ∧ ((mf' 3).toInt = (mf 3).toInt) ∧ ((mf' 7).toInt = (mf 7).toInt) ∧ ((mf' 8).toInt = (mf 8).toInt) ∧ ((mf' 10).toInt = (mf 10).toInt)) := by
  refine px_enter (by decide) (Nat.le_of_ble_eq_true rfl) ?_
  intro p e s m below meth c A ls hAe S hr hlk hnm hA hT hX hw hl
  replace hl : lv_has ls 7 [(0, .ref mo), (1, .int p0)] := hl
  have lp0 := Int32.le_toInt p0
  have up0 := Int32.toInt_lt p0
  have cst0 : (0 : Int32).toInt = 0 := rfl
  have cst1 : (1 : Int32).toInt = 1 := rfl
  have cst2 : (2 : Int32).toInt = 2 := rfl
  have cst4 : (4 : Int32).toInt = 4 := rfl
  have cst7 : (7 : Int32).toInt = 7 := rfl
  have cst10 : (10 : Int32).toInt = 10 := rfl
  have cst11 : (11 : Int32).toInt = 11 := rfl
  have cst12 : (12 : Int32).toInt = 12 := rfl
  have cst16 : (16 : Int32).toInt = 16 := rfl
  have cst17 : (17 : Int32).toInt = 17 := rfl
  have hX : (fun A U H => (∀ j : Nat, j < 8 → oP A (PG j).g U H)) A s s.heap := by rw [hAe]; exact hX
  have hGG := hX
  have hkw : KpW QO QF QO QF p0.toNatClampNeg := ⟨rfl, KpF.rf⟩
  have hrw0 := hrw
  have hqoE : QO p0.toNatClampNeg = some (PG j9).h := hqo
  unfold PsW at hrw0
  refine lv_aload_n S.x S.b d_Mo_rawCall_0 rfl (lv_at hl 0 rfl) ?_
  refine px_get S k_Mo hT hw 0 0 5 (v := .ref (mr 5)) rfl rfl rfl (by decide) m11_83 d_Mo_rawCall_1 ?_
  refine lv_iload_n S.x S.b d_Mo_rawCall_4 rfl (lv_at hl 1 rfl) ?_
  refine px_aaldS S hT hw 0 3 10 (n := 13) (f := ((gMo PG hq) 5)) rfl rfl rfl (x := p0) (vp_in_iff.mpr (by first | exact oz_59feca6c45 g0 g1 | (constructor <;> omega))) (sk := (hq p0.toNatClampNeg)) rfl d_Mo_rawCall_5 ?_
  refine lv_astore_n (lv' := [(2, .ref (hq p0.toNatClampNeg)), (0, .ref mo), (1, .int p0)]) S.x S.b d_Mo_rawCall_6 rfl hl (by decide) rfl (fun ls hl => ?_)
  refine lv_aload_n S.x S.b d_Mo_rawCall_7 rfl (lv_at hl 0 rfl) ?_
  have hw : pw D A s.heap _ _ [wd_Mo cs mo mr (fun _ => none) mf md (gMo PG hq), fm 8 (fPg cs PG), fm 13 (fPr cs hq qr QO QF QA)] := hw.sub [0, 2, 1] rfl rfl
  have hc1 := cl_nat (x := p0) (by first | exact g0 | omega)
  have hi1 : p0.toNatClampNeg < 13 := by first | exact oz_9995642664 hc1 g1 | omega
  have hw : pw D A s.heap _ _ [wd_Mo cs mo mr (fun _ => none) mf md (gMo PG hq), fm 8 (fPg cs PG), fo 13 (fPr cs hq qr QO QF QA) p0.toNatClampNeg, wd_Mpr cs (hq p0.toNatClampNeg) (qr p0.toNatClampNeg) (fun _ => QO p0.toNatClampNeg) (QF p0.toNatClampNeg) (QA p0.toNatClampNeg) (fun _ _ => none)] := fm_out (pr := [wd_Mo cs mo mr (fun _ => none) mf md (gMo PG hq), fm 8 (fPg cs PG)]) (T := fPr cs hq qr QO QF QA) hw hi1
  have hps1 := hpr.1 p0.toNatClampNeg hi1
  have hpb1 := hps1.1
  unfold PsB at hpb1
  refine px_get S k_Mpr hT hw 3 0 19 (v := .ref ((qr p0.toNatClampNeg) 19)) rfl rfl rfl (by decide) m11_12 d_Mo_rawCall_8 ?_
  refine lv_bipush (v := 10) S.x S.b d_Mo_rawCall_11 (by decide) ?_
  refine px_iald S hT hw 3 7 (n := 32) (f := ((QA p0.toNatClampNeg) 19)) rfl (ga_Mpr_19 _ _ _ _ _ _ _) (x := 10) (vp_in_iff.mpr (by constructor <;> omega)) d_Mo_rawCall_13 ?_
  refine lv_topi (fun z2 ez2 => ?_)
  have lz2 := Int32.le_toInt z2
  have uz2 := Int32.toInt_lt z2
  refine lv_istore_n (lv' := [(3, .int z2), (2, .ref (hq p0.toNatClampNeg)), (0, .ref mo), (1, .int p0)]) S.x S.b d_Mo_rawCall_14 rfl hl (by decide) rfl (fun ls hl => ?_)
  refine lv_aload_n S.x S.b d_Mo_rawCall_15 rfl (lv_at hl 1 rfl) ?_
  refine px_get S k_Mpr hT hw 3 0 19 (v := .ref ((qr p0.toNatClampNeg) 19)) rfl rfl rfl (by decide) m11_12 d_Mo_rawCall_16 ?_
  refine lv_bipush (v := 11) S.x S.b d_Mo_rawCall_19 (by decide) ?_
  refine px_iald S hT hw 3 7 (n := 32) (f := ((QA p0.toNatClampNeg) 19)) rfl (ga_Mpr_19 _ _ _ _ _ _ _) (x := 11) (vp_in_iff.mpr (by constructor <;> omega)) d_Mo_rawCall_21 ?_
  refine lv_topi (fun z3 ez3 => ?_)
  have lz3 := Int32.le_toInt z3
  have uz3 := Int32.toInt_lt z3
  refine lv_istore (lv' := [(4, .int z3), (3, .int z2), (2, .ref (hq p0.toNatClampNeg)), (0, .ref mo), (1, .int p0)]) S.x S.b d_Mo_rawCall_22 hl (by decide) rfl (fun ls hl => ?_)
  refine lv_iconst (v := 1) S.x S.b d_Mo_rawCall_24 (by decide) ?_
  refine lv_istore (lv' := [(5, .int 1), (4, .int z3), (3, .int z2), (2, .ref (hq p0.toNatClampNeg)), (0, .ref mo), (1, .int p0)]) S.x S.b d_Mo_rawCall_25 hl (by decide) rfl (fun ls hl => ?_)
  refine lv_iconst (v := 0) S.x S.b d_Mo_rawCall_27 (by decide) ?_
  refine lv_istore (lv' := [(6, .int 0), (5, .int 1), (4, .int z3), (3, .int z2), (2, .ref (hq p0.toNatClampNeg)), (0, .ref mo), (1, .int p0)]) S.x S.b d_Mo_rawCall_28 hl (by decide) rfl (fun ls hl => ?_)
  refine lv_aload_n S.x S.b d_Mo_rawCall_30 rfl (lv_at hl 4 rfl) ?_
  refine px_get S k_Mpr hT hw 3 0 19 (v := .ref ((qr p0.toNatClampNeg) 19)) rfl rfl rfl (by decide) m11_12 d_Mo_rawCall_31 ?_
  refine lv_bipush (v := 17) S.x S.b d_Mo_rawCall_34 (by decide) ?_
  refine px_iald S hT hw 3 7 (n := 32) (f := ((QA p0.toNatClampNeg) 19)) rfl (ga_Mpr_19 _ _ _ _ _ _ _) (x := 17) (vp_in_iff.mpr (by constructor <;> omega)) d_Mo_rawCall_36 ?_
  refine lv_topi (fun z4 ez4 => ?_)
  have lz4 := Int32.le_toInt z4
  have uz4 := Int32.toInt_lt z4
  refine px_tableD S (dt := 282) [(132, [0]), (141, [1]), (149, [2]), (162, [3]), (176, [4]), (190, [5]), (204, [6]), (218, [7, 8]), (253, [9]), (282, [10, 11, 12, 13, 14, 15]), (262, [16, 17, 18, 19])] d_Mo_rawCall_37 (by decide +kernel) (by decide) (by decide +kernel) ?_ ?_
  · intro hdf_37
    refine lv_aload_n S.x S.b d_Mo_rawCall_282 rfl (lv_at hl 4 rfl) ?_
    refine lv_bipush (v := 7) S.x S.b d_Mo_rawCall_283 (by decide) ?_
    refine lv_iconst (v := 0) S.x S.b d_Mo_rawCall_285 (by decide) ?_
    refine px_callv (pr := [wd_Mo cs mo mr (fun _ => none) mf md (gMo PG hq), fm 8 (fPg cs PG), fo 13 (fPr cs hq qr QO QF QA) p0.toNatClampNeg]) (px_runV (As := [.int 7, .int 0]) (rest := []) S (c_mq_end l D cs (hq p0.toNatClampNeg) (qr p0.toNatClampNeg) (fun _ _ => none) (fun _ => QO p0.toNatClampNeg) (QA p0.toNatClampNeg) (QF p0.toNatClampNeg) 7 0   _) hT (pr := [wd_Mo cs mo mr (fun _ => none) mf md (gMo PG hq), fm 8 (fPg cs PG), fo 13 (fPr cs hq qr QO QF QA) p0.toNatClampNeg]) (pcs := [wd_Mpr cs (hq p0.toNatClampNeg) (qr p0.toNatClampNeg) (fun _ => QO p0.toNatClampNeg) (QF p0.toNatClampNeg) (QA p0.toNatClampNeg) (fun _ _ => none)]) hw px_X.tt (px_recv hT hw 3 0 rfl rfl rfl) m13_177 m14_35 m13_175 m13_176 m1_22 q_Mpr_end ⟨Nat.le_of_ble_eq_true rfl, Nat.le_of_ble_eq_true rfl⟩ hl.1 rfl (Nat.le_of_ble_eq_true rfl) d_Mo_rawCall_286 ⟨Nat.le_of_ble_eq_true rfl, Nat.le_of_ble_eq_true rfl⟩) hw hA (fun p7 H locs hp7 hw => ?_)
    obtain ⟨qf6, rfl, e9, e10, e11, e12, e13, e14, e15, e16, e17, e18, e19, e20, e21, e22⟩ := hp7
    replace e9 : (qf6 2).toInt = (7 : Int) := e9
    replace e10 : (qf6 1).toInt = ((QF p0.toNatClampNeg) 1).toInt := e10
    replace e11 : (qf6 4).toInt = ((QF p0.toNatClampNeg) 4).toInt := e11
    replace e12 : (qf6 5).toInt = ((QF p0.toNatClampNeg) 5).toInt := e12
    replace e13 : (qf6 6).toInt = ((QF p0.toNatClampNeg) 6).toInt := e13
    replace e14 : (qf6 7).toInt = ((QF p0.toNatClampNeg) 7).toInt := e14
    replace e15 : (qf6 10).toInt = ((QF p0.toNatClampNeg) 10).toInt := e15
    replace e16 : (qf6 11).toInt = ((QF p0.toNatClampNeg) 11).toInt := e16
    replace e17 : (qf6 12).toInt = ((QF p0.toNatClampNeg) 12).toInt := e17
    replace e18 : (qf6 13).toInt = ((QF p0.toNatClampNeg) 13).toInt := e18
    replace e19 : (qf6 14).toInt = ((QF p0.toNatClampNeg) 14).toInt := e19
    replace e20 : (qf6 21).toInt = ((QF p0.toNatClampNeg) 21).toInt := e20
    replace e21 : (qf6 23).toInt = ((QF p0.toNatClampNeg) 23).toInt := e21
    replace e22 : (qf6 24).toInt = ((QF p0.toNatClampNeg) 24).toInt := e22
    replace hw : pw D A s.heap H locs [wd_Mo cs mo mr (fun _ => none) mf md (gMo PG hq), fm 8 (fPg cs PG), fo 13 (fPr cs hq qr QO QF QA) p0.toNatClampNeg, wd_Mpr cs (hq p0.toNatClampNeg) (qr p0.toNatClampNeg) (fun _ => QO p0.toNatClampNeg) qf6 (QA p0.toNatClampNeg) (fun _ _ => none)] := hw
    refine lv_iload S.x S.b d_Mo_rawCall_289 (lv_at hl 1 rfl) ?_
    refine lv_if_eq (tgt := 341) S.x S.b d_Mo_rawCall_291 (by decide) (fun c23 => ?_) (fun c23 => ?_)
    · exact absurd c23 (by decide)
    ·
      refine lv_aload_n S.x S.b d_Mo_rawCall_294 rfl (lv_at hl 4 rfl) ?_
      refine px_calli (pr := [wd_Mo cs mo mr (fun _ => none) mf md (gMo PG hq), fm 8 (fPg cs PG), fo 13 (fPr cs hq qr QO QF QA) p0.toNatClampNeg]) (px_runV (As := []) (rest := []) S (c_mq_isGoing l D cs (hq p0.toNatClampNeg) (qr p0.toNatClampNeg) (fun _ _ => none) (fun _ => QO p0.toNatClampNeg) qf6 (QA p0.toNatClampNeg)    _) hT (pr := [wd_Mo cs mo mr (fun _ => none) mf md (gMo PG hq), fm 8 (fPg cs PG), fo 13 (fPr cs hq qr QO QF QA) p0.toNatClampNeg]) (pcs := [wd_Mpr cs (hq p0.toNatClampNeg) (qr p0.toNatClampNeg) (fun _ => QO p0.toNatClampNeg) qf6 (QA p0.toNatClampNeg) (fun _ _ => none)]) hw px_X.tt (px_recv hT hw 3 0 rfl rfl rfl) m13_165 m13_162 m13_163 m13_164 m1_22 q_Mpr_isGoing ⟨Nat.le_of_ble_eq_true rfl, Nat.le_of_ble_eq_true rfl⟩ hl.1 rfl (Nat.le_of_ble_eq_true rfl) d_Mo_rawCall_295 ⟨Nat.le_of_ble_eq_true rfl, Nat.le_of_ble_eq_true rfl⟩) hw hA (fun v25 p24 H locs hp24 hw => ?_)
      obtain ⟨rfl, e26, e27, e28, e29, e30⟩ := hp24
      replace e26 : 0 ≤ v25.toInt := e26
      replace e27 : v25.toInt ≤ 1 := e27
      replace e28 : v25.toInt = 1 → (qf6 1).toInt ≠ 0 := e28
      replace e29 : v25.toInt = 1 → (qf6 2).toInt = -2 := e29
      replace e30 : (qf6 1).toInt ≠ 0 → (qf6 2).toInt = -2 → v25.toInt = 1 := e30
      replace hw : pw D A s.heap H locs [wd_Mo cs mo mr (fun _ => none) mf md (gMo PG hq), fm 8 (fPg cs PG), fo 13 (fPr cs hq qr QO QF QA) p0.toNatClampNeg, wd_Mpr cs (hq p0.toNatClampNeg) (qr p0.toNatClampNeg) (fun _ => QO p0.toNatClampNeg) qf6 (QA p0.toNatClampNeg) (fun _ _ => none)] := hw
      have lv25 := Int32.le_toInt v25
      have uv25 := Int32.toInt_lt v25
      refine lv_if_eq (tgt := 341) S.x S.b d_Mo_rawCall_298 (by decide) (fun c31 => ?_) (fun c31 => ?_)
      · have nc31 : v25.toInt = (0 : Int) := (i_eq (x := v25) (y := 0)).mp c31
        refine lv_iload S.x S.b d_Mo_rawCall_341 (lv_at hl 1 rfl) ?_
        have hw := fpr_in (pr := [wd_Mo cs mo mr (fun _ => none) mf md (gMo PG hq), fm 8 (fPg cs PG)]) hw hi1
        obtain ⟨QO32, hu_QO32⟩ : ∃ y : Nat → Option Nat, y = va_up QO p0.toNatClampNeg ((fun _ => QO p0.toNatClampNeg) 0) := ⟨_, rfl⟩
        obtain ⟨QF33, hu_QF33⟩ : ∃ y : Nat → Nat → Int32, y = va_up QF p0.toNatClampNeg qf6 := ⟨_, rfl⟩
        obtain ⟨QA34, hu_QA34⟩ : ∃ y : Nat → Nat → Nat → Int32, y = va_up QA p0.toNatClampNeg (QA p0.toNatClampNeg) := ⟨_, rfl⟩
        have hw : pw D A s.heap _ _ [wd_Mo cs mo mr (fun _ => none) mf md (gMo PG hq), fm 8 (fPg cs PG), fm 13 (fPr cs hq qr QO32 QF33 QA34)] := (by rw [hu_QO32, hu_QF33, hu_QA34]; exact hw)
        have hpr : PrA PG RR QO32 QF33 QA34 := (by rw [hu_QO32, hu_QF33, hu_QA34]; exact PrA.up hpr (psr_raw (j := j9) hj9 hqo h66 (show (0 ≤ (qf6 1).toInt ∧ (qf6 1).toInt ≤ 1) ∧ (0 ≤ (qf6 21).toInt ∧ (qf6 21).toInt ≤ 4) ∧ (0 ≤ (qf6 23).toInt ∧ (qf6 23).toInt ≤ 4) ∧ (0 ≤ (qf6 24).toInt ∧ (qf6 24).toInt ≤ 1000000) ∧ (0 ≤ (qf6 6).toInt ∧ (qf6 6).toInt ≤ 3) ∧ (0 ≤ (qf6 7).toInt ∧ (qf6 7).toInt ≤ 1) from by first | with_reducible rfl | with_reducible assumption | omega) (show (qf6 1).toInt = 1 from by first | exact oz_e863b17997 e10 g6 | omega) (show 0 ≤ (qf6 4).toInt ∧ (qf6 4).toInt + 1 ≤ RR p0.toNatClampNeg ∧ (qf6 24).toInt + (qf6 4).toInt ≤ 1600 from by first | with_reducible rfl | with_reducible assumption | omega)) (show (qf6 1).toInt = (QF p0.toNatClampNeg 1).toInt from by first | exact oz_1811ac7fe4 e10 | omega) (show (QF p0.toNatClampNeg 6).toInt ≤ (qf6 6).toInt from by first | exact oz_f9b42d1b56 e13 | omega))
        have hqo : OqE (QO32 p0.toNatClampNeg) (PG j9).h := (by rw [hu_QO32, va_up_s]; exact hqo)
        have hkw : KpW QO QF QO32 QF33 p0.toNatClampNeg := ⟨hqo.trans hqoE.symm, (by rw [hu_QF33, va_up_s]; exact (show ((qf6 1).toInt = (QF p0.toNatClampNeg 1).toInt ∧ (qf6 4).toInt = (QF p0.toNatClampNeg 4).toInt ∧ (qf6 5).toInt = (QF p0.toNatClampNeg 5).toInt ∧ (qf6 7).toInt = (QF p0.toNatClampNeg 7).toInt ∧ (qf6 10).toInt = (QF p0.toNatClampNeg 10).toInt ∧ (qf6 11).toInt = (QF p0.toNatClampNeg 11).toInt) ∧ (qf6 12).toInt = (QF p0.toNatClampNeg 12).toInt ∧ (qf6 13).toInt = (QF p0.toNatClampNeg 13).toInt ∧ (qf6 14).toInt = (QF p0.toNatClampNeg 14).toInt ∧ (qf6 24).toInt = (QF p0.toNatClampNeg 24).toInt from by first | with_reducible rfl | with_reducible assumption | omega))⟩
        have hqk1_QF33 : (QF33 p0.toNatClampNeg 1).toInt = (qf6 1).toInt := (by rw [hu_QF33, va_up_s]; try rfl)
        have hqk2_QF33 : (QF33 p0.toNatClampNeg 2).toInt = (qf6 2).toInt := (by rw [hu_QF33, va_up_s]; try rfl)
        have hqk4_QF33 : (QF33 p0.toNatClampNeg 4).toInt = (qf6 4).toInt := (by rw [hu_QF33, va_up_s]; try rfl)
        have hqk24_QF33 : (QF33 p0.toNatClampNeg 24).toInt = (qf6 24).toInt := (by rw [hu_QF33, va_up_s]; try rfl)
        have hw : pw D A s.heap _ _ [wd_Mo cs mo mr (fun _ => none) mf md (gMo PG hq), fm 13 (fPr cs hq qr QO32 QF33 QA34), fm 8 (fPg cs PG)] := hw.sub [0, 2, 1] rfl rfl
        exact px_iret (v := 1) S hr rfl hlk hAe hw (Nat.le_of_ble_eq_true rfl) (Nat.le_of_ble_eq_true rfl) (⟨mf, md, QO32, QF33, QA34, rfl, (show 0 ≤ (1 : Int) from by first | decide | omega), (show (1 : Int) ≤ 1 from by first | decide | omega), (show PrA PG (va_up RR p0.toNatClampNeg (RR p0.toNatClampNeg - (1 : Int))) QO32 QF33 QA34 from (hpr.low (by omega) (by omega) (by omega) (by have q9 := cl_nat (x := p0) (by first | exact g0 | omega); omega))), (show (mf 0).toInt = (mf 0).toInt from rfl), (show (mf 2).toInt = (mf 2).toInt from rfl), (show (mf 3).toInt = (mf 3).toInt from rfl), (show (mf 7).toInt = (mf 7).toInt from rfl), (show (mf 8).toInt = (mf 8).toInt from rfl), (show (mf 10).toInt = (mf 10).toInt from rfl)⟩) d_Mo_rawCall_343
      · have nc31 : ¬ v25.toInt = (0 : Int) := mt (i_eq (x := v25) (y := 0)).mpr c31
        refine lv_aload_n S.x S.b d_Mo_rawCall_301 rfl (lv_at hl 4 rfl) ?_
        refine px_get S k_Mpr hT hw 3 0 19 (v := .ref ((qr p0.toNatClampNeg) 19)) rfl rfl rfl (by decide) m11_12 d_Mo_rawCall_302 ?_
        refine lv_bipush (v := 10) S.x S.b d_Mo_rawCall_305 (by decide) ?_
        refine lv_iload S.x S.b d_Mo_rawCall_307 (lv_at hl 0 rfl) ?_
        refine lv_if_eq (tgt := 319) S.x S.b d_Mo_rawCall_309 (by decide) (fun c35 => ?_) (fun c35 => ?_)
        ·
          refine lv_iload_n S.x S.b d_Mo_rawCall_319 rfl (lv_at hl 3 rfl) ?_
          refine px_iast S hT hw 3 7 (n := 32) (f := ((QA p0.toNatClampNeg) 19)) (x := 10) (y := z2) rfl (ga_Mpr_19 _ _ _ _ _ _ _) (vp_in_iff.mpr (by constructor <;> omega)) d_Mo_rawCall_320 (w' := wd_Mpr cs (hq p0.toNatClampNeg) (qr p0.toNatClampNeg) (fun _ => QO p0.toNatClampNeg) qf6 (va_up (QA p0.toNatClampNeg) 19 (upd ((QA p0.toNatClampNeg) 19) (10 : Int32).toNatClampNeg z2)) (fun _ _ => none)) (ps' := [wd_Mo cs mo mr (fun _ => none) mf md (gMo PG hq), fm 8 (fPg cs PG), fo 13 (fPr cs hq qr QO QF QA) p0.toNatClampNeg, wd_Mpr cs (hq p0.toNatClampNeg) (qr p0.toNatClampNeg) (fun _ => QO p0.toNatClampNeg) qf6 (va_up (QA p0.toNatClampNeg) 19 (upd ((QA p0.toNatClampNeg) 19) (10 : Int32).toNatClampNeg z2)) (fun _ _ => none)]) (sa_Mpr_19 _ _ _ _ _ _ _ _) rfl (fun H locs hw => ?_)
          refine lv_aload_n S.x S.b d_Mo_rawCall_321 rfl (lv_at hl 4 rfl) ?_
          refine lv_aload_n S.x S.b d_Mo_rawCall_322 rfl (lv_at hl 4 rfl) ?_
          refine px_get S k_Mpr hT hw 3 0 11 (v := .int (qf6 11)) rfl rfl rfl (by decide) m11_3 d_Mo_rawCall_323 ?_
          refine lv_iconst (v := 4) S.x S.b d_Mo_rawCall_326 (by decide) ?_
          refine lv_iadd S.x S.b d_Mo_rawCall_327 ?_
          have lr36 := Int32.le_toInt (qf6 11)
          have ur36 := Int32.toInt_lt (qf6 11)
          refine lv_topi (fun z37 ez37 => ?_)
          have tz37 : z37.toInt = ((qf6 11).toInt + (4 : Int) + 2147483648) % 4294967296 - 2147483648 := by rw [ez37]; exact i_add (qf6 11) 4
          have lz37 := Int32.le_toInt z37
          have uz37 := Int32.toInt_lt z37
          try replace tz37 : z37.toInt = (qf6 11).toInt + (4 : Int) := by omega
          refine px_put S k_Mpr hT hw 3 0 11 rfl rfl (by decide) m11_3 rfl rfl rfl (Nat.le_of_ble_eq_true rfl) d_Mo_rawCall_328 (w' := wd_Mpr cs (hq p0.toNatClampNeg) (qr p0.toNatClampNeg) (fun _ => QO p0.toNatClampNeg) (upd qf6 11 z37) (va_up (QA p0.toNatClampNeg) 19 (upd ((QA p0.toNatClampNeg) 19) (10 : Int32).toNatClampNeg z2)) (fun _ _ => none)) (ps' := [wd_Mo cs mo mr (fun _ => none) mf md (gMo PG hq), fm 8 (fPg cs PG), fo 13 (fPr cs hq qr QO QF QA) p0.toNatClampNeg, wd_Mpr cs (hq p0.toNatClampNeg) (qr p0.toNatClampNeg) (fun _ => QO p0.toNatClampNeg) (upd qf6 11 z37) (va_up (QA p0.toNatClampNeg) 19 (upd ((QA p0.toNatClampNeg) 19) (10 : Int32).toNatClampNeg z2)) (fun _ _ => none)]) rfl rfl (fun H locs hw => ?_)
          refine lv_aload_n S.x S.b d_Mo_rawCall_331 rfl (lv_at hl 4 rfl) ?_
          refine lv_dup S.x S.b d_Mo_rawCall_332 rfl ?_
          refine px_get S k_Mpr hT hw 3 0 4 (v := .int (qf6 4)) rfl rfl rfl (by decide) m10_230 d_Mo_rawCall_333 ?_
          refine lv_iconst (v := 1) S.x S.b d_Mo_rawCall_336 (by decide) ?_
          refine lv_isub S.x S.b d_Mo_rawCall_337 ?_
          have lr38 := Int32.le_toInt (qf6 4)
          have ur38 := Int32.toInt_lt (qf6 4)
          refine lv_topi (fun z39 ez39 => ?_)
          have tz39 : z39.toInt = ((qf6 4).toInt - (1 : Int) + 2147483648) % 4294967296 - 2147483648 := by rw [ez39]; exact i_sub (qf6 4) 1
          have lz39 := Int32.le_toInt z39
          have uz39 := Int32.toInt_lt z39
          try replace tz39 : z39.toInt = (qf6 4).toInt - (1 : Int) := by omega
          refine px_put S k_Mpr hT hw 3 0 4 rfl rfl (by decide) m10_230 rfl rfl rfl (Nat.le_of_ble_eq_true rfl) d_Mo_rawCall_338 (w' := wd_Mpr cs (hq p0.toNatClampNeg) (qr p0.toNatClampNeg) (fun _ => QO p0.toNatClampNeg) (upd (upd qf6 4 z39) 11 z37) (va_up (QA p0.toNatClampNeg) 19 (upd ((QA p0.toNatClampNeg) 19) (10 : Int32).toNatClampNeg z2)) (fun _ _ => none)) (ps' := [wd_Mo cs mo mr (fun _ => none) mf md (gMo PG hq), fm 8 (fPg cs PG), fo 13 (fPr cs hq qr QO QF QA) p0.toNatClampNeg, wd_Mpr cs (hq p0.toNatClampNeg) (qr p0.toNatClampNeg) (fun _ => QO p0.toNatClampNeg) (upd (upd qf6 4 z39) 11 z37) (va_up (QA p0.toNatClampNeg) 19 (upd ((QA p0.toNatClampNeg) 19) (10 : Int32).toNatClampNeg z2)) (fun _ _ => none)]) rfl rfl (fun H locs hw => ?_)
          refine lv_iload S.x S.b d_Mo_rawCall_341 (lv_at hl 1 rfl) ?_
          have hw := fpr_in (pr := [wd_Mo cs mo mr (fun _ => none) mf md (gMo PG hq), fm 8 (fPg cs PG)]) hw hi1
          obtain ⟨QO40, hu_QO40⟩ : ∃ y : Nat → Option Nat, y = va_up QO p0.toNatClampNeg ((fun _ => QO p0.toNatClampNeg) 0) := ⟨_, rfl⟩
          obtain ⟨QF41, hu_QF41⟩ : ∃ y : Nat → Nat → Int32, y = va_up QF p0.toNatClampNeg (upd (upd qf6 4 z39) 11 z37) := ⟨_, rfl⟩
          obtain ⟨QA42, hu_QA42⟩ : ∃ y : Nat → Nat → Nat → Int32, y = va_up QA p0.toNatClampNeg (va_up (QA p0.toNatClampNeg) 19 (upd ((QA p0.toNatClampNeg) 19) (10 : Int32).toNatClampNeg z2)) := ⟨_, rfl⟩
          have hw : pw D A s.heap _ _ [wd_Mo cs mo mr (fun _ => none) mf md (gMo PG hq), fm 8 (fPg cs PG), fm 13 (fPr cs hq qr QO40 QF41 QA42)] := (by rw [hu_QO40, hu_QF41, hu_QA42]; exact hw)
          have hpr : PrA PG (va_up RR p0.toNatClampNeg (RR p0.toNatClampNeg - (1 : Int))) QO40 QF41 QA42 := (by rw [hu_QO40, hu_QF41, hu_QA42]; exact PrA.upR hpr (psr_raw (j := j9) hj9 hqo h66 (show (0 ≤ (qf6 1).toInt ∧ (qf6 1).toInt ≤ 1) ∧ (0 ≤ (qf6 21).toInt ∧ (qf6 21).toInt ≤ 4) ∧ (0 ≤ (qf6 23).toInt ∧ (qf6 23).toInt ≤ 4) ∧ (0 ≤ (qf6 24).toInt ∧ (qf6 24).toInt ≤ 1000000) ∧ (0 ≤ (qf6 6).toInt ∧ (qf6 6).toInt ≤ 3) ∧ (0 ≤ (qf6 7).toInt ∧ (qf6 7).toInt ≤ 1) from by first | with_reducible rfl | with_reducible assumption | omega) (show (qf6 1).toInt = 1 from by first | exact oz_e863b17997 e10 g6 | omega) (show 0 ≤ z39.toInt ∧ z39.toInt + 1 ≤ RR p0.toNatClampNeg - (1 : Int) ∧ (qf6 24).toInt + z39.toInt ≤ 1600 from by first | with_reducible rfl | with_reducible assumption | omega)) (show (qf6 1).toInt = (QF p0.toNatClampNeg 1).toInt from by first | exact oz_1811ac7fe4 e10 | omega) (show (QF p0.toNatClampNeg 6).toInt ≤ (qf6 6).toInt from by first | exact oz_f9b42d1b56 e13 | omega))
          have hqo : OqE (QO40 p0.toNatClampNeg) (PG j9).h := (by rw [hu_QO40, va_up_s]; exact hqo)
          have hqk1_QF41 : (QF41 p0.toNatClampNeg 1).toInt = (qf6 1).toInt := (by rw [hu_QF41, va_up_s]; try rfl)
          have hqk2_QF41 : (QF41 p0.toNatClampNeg 2).toInt = (qf6 2).toInt := (by rw [hu_QF41, va_up_s]; try rfl)
          have hqk4_QF41 : (QF41 p0.toNatClampNeg 4).toInt = z39.toInt := (by rw [hu_QF41, va_up_s]; try rfl)
          have hqk24_QF41 : (QF41 p0.toNatClampNeg 24).toInt = (qf6 24).toInt := (by rw [hu_QF41, va_up_s]; try rfl)
          have hw : pw D A s.heap _ _ [wd_Mo cs mo mr (fun _ => none) mf md (gMo PG hq), fm 13 (fPr cs hq qr QO40 QF41 QA42), fm 8 (fPg cs PG)] := hw.sub [0, 2, 1] rfl rfl
          exact px_iret (v := 1) S hr rfl hlk hAe hw (Nat.le_of_ble_eq_true rfl) (Nat.le_of_ble_eq_true rfl) (⟨mf, md, QO40, QF41, QA42, rfl, (show 0 ≤ (1 : Int) from by first | decide | omega), (show (1 : Int) ≤ 1 from by first | decide | omega), (show PrA PG (va_up RR p0.toNatClampNeg (RR p0.toNatClampNeg - (1 : Int))) QO40 QF41 QA42 from hpr), (show (mf 0).toInt = (mf 0).toInt from rfl), (show (mf 2).toInt = (mf 2).toInt from rfl), (show (mf 3).toInt = (mf 3).toInt from rfl), (show (mf 7).toInt = (mf 7).toInt from rfl), (show (mf 8).toInt = (mf 8).toInt from rfl), (show (mf 10).toInt = (mf 10).toInt from rfl)⟩) d_Mo_rawCall_343
        · exact absurd c35 (by decide)
  · refine List.forall_mem_cons.mpr ⟨fun c43 => ?_, List.forall_mem_cons.mpr ⟨fun c43 => ?_, List.forall_mem_cons.mpr ⟨fun c43 => ?_, List.forall_mem_cons.mpr ⟨fun c43 => ?_, List.forall_mem_cons.mpr ⟨fun c43 => ?_, List.forall_mem_cons.mpr ⟨fun c43 => ?_, List.forall_mem_cons.mpr ⟨fun c43 => ?_, List.forall_mem_cons.mpr ⟨fun c43 => ?_, List.forall_mem_cons.mpr ⟨fun c43 => ?_, List.forall_mem_cons.mpr ⟨fun c43 => ?_, List.forall_mem_cons.mpr ⟨fun c43 => ?_, fun _ h => absurd h List.not_mem_nil⟩⟩⟩⟩⟩⟩⟩⟩⟩⟩⟩
    · simp only [List.mem_cons, List.not_mem_nil, or_false] at c43
      refine lv_aload_n S.x S.b d_Mo_rawCall_132 rfl (lv_at hl 4 rfl) ?_
      refine lv_iconst (v := 0) S.x S.b d_Mo_rawCall_133 (by decide) ?_
      refine lv_iload_n S.x S.b d_Mo_rawCall_134 rfl (lv_at hl 3 rfl) ?_
      refine px_callv (pr := [wd_Mo cs mo mr (fun _ => none) mf md (gMo PG hq), fm 8 (fPg cs PG), fo 13 (fPr cs hq qr QO QF QA) p0.toNatClampNeg]) (px_runV (As := [.int 0, .int z2]) (rest := []) S (c_mq_end l D cs (hq p0.toNatClampNeg) (qr p0.toNatClampNeg) (fun _ _ => none) (fun _ => QO p0.toNatClampNeg) (QA p0.toNatClampNeg) (QF p0.toNatClampNeg) 0 z2   _) hT (pr := [wd_Mo cs mo mr (fun _ => none) mf md (gMo PG hq), fm 8 (fPg cs PG), fo 13 (fPr cs hq qr QO QF QA) p0.toNatClampNeg]) (pcs := [wd_Mpr cs (hq p0.toNatClampNeg) (qr p0.toNatClampNeg) (fun _ => QO p0.toNatClampNeg) (QF p0.toNatClampNeg) (QA p0.toNatClampNeg) (fun _ _ => none)]) hw px_X.tt (px_recv hT hw 3 0 rfl rfl rfl) m13_177 m14_35 m13_175 m13_176 m1_22 q_Mpr_end ⟨Nat.le_of_ble_eq_true rfl, Nat.le_of_ble_eq_true rfl⟩ hl.1 rfl (Nat.le_of_ble_eq_true rfl) d_Mo_rawCall_135 ⟨Nat.le_of_ble_eq_true rfl, Nat.le_of_ble_eq_true rfl⟩) hw hA (fun p46 H locs hp46 hw => ?_)
      obtain ⟨qf45, rfl, e48, e49, e50, e51, e52, e53, e54, e55, e56, e57, e58, e59, e60, e61⟩ := hp46
      replace e48 : (qf45 2).toInt = (0 : Int) := e48
      replace e49 : (qf45 1).toInt = ((QF p0.toNatClampNeg) 1).toInt := e49
      replace e50 : (qf45 4).toInt = ((QF p0.toNatClampNeg) 4).toInt := e50
      replace e51 : (qf45 5).toInt = ((QF p0.toNatClampNeg) 5).toInt := e51
      replace e52 : (qf45 6).toInt = ((QF p0.toNatClampNeg) 6).toInt := e52
      replace e53 : (qf45 7).toInt = ((QF p0.toNatClampNeg) 7).toInt := e53
      replace e54 : (qf45 10).toInt = ((QF p0.toNatClampNeg) 10).toInt := e54
      replace e55 : (qf45 11).toInt = ((QF p0.toNatClampNeg) 11).toInt := e55
      replace e56 : (qf45 12).toInt = ((QF p0.toNatClampNeg) 12).toInt := e56
      replace e57 : (qf45 13).toInt = ((QF p0.toNatClampNeg) 13).toInt := e57
      replace e58 : (qf45 14).toInt = ((QF p0.toNatClampNeg) 14).toInt := e58
      replace e59 : (qf45 21).toInt = ((QF p0.toNatClampNeg) 21).toInt := e59
      replace e60 : (qf45 23).toInt = ((QF p0.toNatClampNeg) 23).toInt := e60
      replace e61 : (qf45 24).toInt = ((QF p0.toNatClampNeg) 24).toInt := e61
      replace hw : pw D A s.heap H locs [wd_Mo cs mo mr (fun _ => none) mf md (gMo PG hq), fm 8 (fPg cs PG), fo 13 (fPr cs hq qr QO QF QA) p0.toNatClampNeg, wd_Mpr cs (hq p0.toNatClampNeg) (qr p0.toNatClampNeg) (fun _ => QO p0.toNatClampNeg) qf45 (QA p0.toNatClampNeg) (fun _ _ => none)] := hw
      refine lv_goto (tgt := 289) S.x S.b d_Mo_rawCall_138 (by decide) ?_
      refine lv_iload S.x S.b d_Mo_rawCall_289 (lv_at hl 1 rfl) ?_
      refine lv_if_eq (tgt := 341) S.x S.b d_Mo_rawCall_291 (by decide) (fun c62 => ?_) (fun c62 => ?_)
      · exact absurd c62 (by decide)
      ·
        refine lv_aload_n S.x S.b d_Mo_rawCall_294 rfl (lv_at hl 4 rfl) ?_
        refine px_calli (pr := [wd_Mo cs mo mr (fun _ => none) mf md (gMo PG hq), fm 8 (fPg cs PG), fo 13 (fPr cs hq qr QO QF QA) p0.toNatClampNeg]) (px_runV (As := []) (rest := []) S (c_mq_isGoing l D cs (hq p0.toNatClampNeg) (qr p0.toNatClampNeg) (fun _ _ => none) (fun _ => QO p0.toNatClampNeg) qf45 (QA p0.toNatClampNeg)    _) hT (pr := [wd_Mo cs mo mr (fun _ => none) mf md (gMo PG hq), fm 8 (fPg cs PG), fo 13 (fPr cs hq qr QO QF QA) p0.toNatClampNeg]) (pcs := [wd_Mpr cs (hq p0.toNatClampNeg) (qr p0.toNatClampNeg) (fun _ => QO p0.toNatClampNeg) qf45 (QA p0.toNatClampNeg) (fun _ _ => none)]) hw px_X.tt (px_recv hT hw 3 0 rfl rfl rfl) m13_165 m13_162 m13_163 m13_164 m1_22 q_Mpr_isGoing ⟨Nat.le_of_ble_eq_true rfl, Nat.le_of_ble_eq_true rfl⟩ hl.1 rfl (Nat.le_of_ble_eq_true rfl) d_Mo_rawCall_295 ⟨Nat.le_of_ble_eq_true rfl, Nat.le_of_ble_eq_true rfl⟩) hw hA (fun v64 p63 H locs hp63 hw => ?_)
        obtain ⟨rfl, e65, e66, e67, e68, e69⟩ := hp63
        replace e65 : 0 ≤ v64.toInt := e65
        replace e66 : v64.toInt ≤ 1 := e66
        replace e67 : v64.toInt = 1 → (qf45 1).toInt ≠ 0 := e67
        replace e68 : v64.toInt = 1 → (qf45 2).toInt = -2 := e68
        replace e69 : (qf45 1).toInt ≠ 0 → (qf45 2).toInt = -2 → v64.toInt = 1 := e69
        replace hw : pw D A s.heap H locs [wd_Mo cs mo mr (fun _ => none) mf md (gMo PG hq), fm 8 (fPg cs PG), fo 13 (fPr cs hq qr QO QF QA) p0.toNatClampNeg, wd_Mpr cs (hq p0.toNatClampNeg) (qr p0.toNatClampNeg) (fun _ => QO p0.toNatClampNeg) qf45 (QA p0.toNatClampNeg) (fun _ _ => none)] := hw
        have lv64 := Int32.le_toInt v64
        have uv64 := Int32.toInt_lt v64
        refine lv_if_eq (tgt := 341) S.x S.b d_Mo_rawCall_298 (by decide) (fun c70 => ?_) (fun c70 => ?_)
        · have nc70 : v64.toInt = (0 : Int) := (i_eq (x := v64) (y := 0)).mp c70
          refine lv_iload S.x S.b d_Mo_rawCall_341 (lv_at hl 1 rfl) ?_
          have hw := fpr_in (pr := [wd_Mo cs mo mr (fun _ => none) mf md (gMo PG hq), fm 8 (fPg cs PG)]) hw hi1
          obtain ⟨QO71, hu_QO71⟩ : ∃ y : Nat → Option Nat, y = va_up QO p0.toNatClampNeg ((fun _ => QO p0.toNatClampNeg) 0) := ⟨_, rfl⟩
          obtain ⟨QF72, hu_QF72⟩ : ∃ y : Nat → Nat → Int32, y = va_up QF p0.toNatClampNeg qf45 := ⟨_, rfl⟩
          obtain ⟨QA73, hu_QA73⟩ : ∃ y : Nat → Nat → Nat → Int32, y = va_up QA p0.toNatClampNeg (QA p0.toNatClampNeg) := ⟨_, rfl⟩
          have hw : pw D A s.heap _ _ [wd_Mo cs mo mr (fun _ => none) mf md (gMo PG hq), fm 8 (fPg cs PG), fm 13 (fPr cs hq qr QO71 QF72 QA73)] := (by rw [hu_QO71, hu_QF72, hu_QA73]; exact hw)
          have hpr : PrA PG RR QO71 QF72 QA73 := (by rw [hu_QO71, hu_QF72, hu_QA73]; exact PrA.up hpr (psr_raw (j := j9) hj9 hqo h66 (show (0 ≤ (qf45 1).toInt ∧ (qf45 1).toInt ≤ 1) ∧ (0 ≤ (qf45 21).toInt ∧ (qf45 21).toInt ≤ 4) ∧ (0 ≤ (qf45 23).toInt ∧ (qf45 23).toInt ≤ 4) ∧ (0 ≤ (qf45 24).toInt ∧ (qf45 24).toInt ≤ 1000000) ∧ (0 ≤ (qf45 6).toInt ∧ (qf45 6).toInt ≤ 3) ∧ (0 ≤ (qf45 7).toInt ∧ (qf45 7).toInt ≤ 1) from by first | with_reducible rfl | with_reducible assumption | omega) (show (qf45 1).toInt = 1 from by first | exact oz_e863b17997 e49 g6 | omega) (show 0 ≤ (qf45 4).toInt ∧ (qf45 4).toInt + 1 ≤ RR p0.toNatClampNeg ∧ (qf45 24).toInt + (qf45 4).toInt ≤ 1600 from by first | with_reducible rfl | with_reducible assumption | omega)) (show (qf45 1).toInt = (QF p0.toNatClampNeg 1).toInt from by first | exact oz_1811ac7fe4 e49 | omega) (show (QF p0.toNatClampNeg 6).toInt ≤ (qf45 6).toInt from by first | exact oz_f9b42d1b56 e52 | omega))
          have hqo : OqE (QO71 p0.toNatClampNeg) (PG j9).h := (by rw [hu_QO71, va_up_s]; exact hqo)
          have hkw : KpW QO QF QO71 QF72 p0.toNatClampNeg := ⟨hqo.trans hqoE.symm, (by rw [hu_QF72, va_up_s]; exact (show ((qf45 1).toInt = (QF p0.toNatClampNeg 1).toInt ∧ (qf45 4).toInt = (QF p0.toNatClampNeg 4).toInt ∧ (qf45 5).toInt = (QF p0.toNatClampNeg 5).toInt ∧ (qf45 7).toInt = (QF p0.toNatClampNeg 7).toInt ∧ (qf45 10).toInt = (QF p0.toNatClampNeg 10).toInt ∧ (qf45 11).toInt = (QF p0.toNatClampNeg 11).toInt) ∧ (qf45 12).toInt = (QF p0.toNatClampNeg 12).toInt ∧ (qf45 13).toInt = (QF p0.toNatClampNeg 13).toInt ∧ (qf45 14).toInt = (QF p0.toNatClampNeg 14).toInt ∧ (qf45 24).toInt = (QF p0.toNatClampNeg 24).toInt from by first | with_reducible rfl | with_reducible assumption | omega))⟩
          have hqk1_QF72 : (QF72 p0.toNatClampNeg 1).toInt = (qf45 1).toInt := (by rw [hu_QF72, va_up_s]; try rfl)
          have hqk2_QF72 : (QF72 p0.toNatClampNeg 2).toInt = (qf45 2).toInt := (by rw [hu_QF72, va_up_s]; try rfl)
          have hqk4_QF72 : (QF72 p0.toNatClampNeg 4).toInt = (qf45 4).toInt := (by rw [hu_QF72, va_up_s]; try rfl)
          have hqk24_QF72 : (QF72 p0.toNatClampNeg 24).toInt = (qf45 24).toInt := (by rw [hu_QF72, va_up_s]; try rfl)
          have hw : pw D A s.heap _ _ [wd_Mo cs mo mr (fun _ => none) mf md (gMo PG hq), fm 13 (fPr cs hq qr QO71 QF72 QA73), fm 8 (fPg cs PG)] := hw.sub [0, 2, 1] rfl rfl
          exact px_iret (v := 1) S hr rfl hlk hAe hw (Nat.le_of_ble_eq_true rfl) (Nat.le_of_ble_eq_true rfl) (⟨mf, md, QO71, QF72, QA73, rfl, (show 0 ≤ (1 : Int) from by first | decide | omega), (show (1 : Int) ≤ 1 from by first | decide | omega), (show PrA PG (va_up RR p0.toNatClampNeg (RR p0.toNatClampNeg - (1 : Int))) QO71 QF72 QA73 from (hpr.low (by omega) (by omega) (by omega) (by have q9 := cl_nat (x := p0) (by first | exact g0 | omega); omega))), (show (mf 0).toInt = (mf 0).toInt from rfl), (show (mf 2).toInt = (mf 2).toInt from rfl), (show (mf 3).toInt = (mf 3).toInt from rfl), (show (mf 7).toInt = (mf 7).toInt from rfl), (show (mf 8).toInt = (mf 8).toInt from rfl), (show (mf 10).toInt = (mf 10).toInt from rfl)⟩) d_Mo_rawCall_343
        · have nc70 : ¬ v64.toInt = (0 : Int) := mt (i_eq (x := v64) (y := 0)).mpr c70
          refine lv_aload_n S.x S.b d_Mo_rawCall_301 rfl (lv_at hl 4 rfl) ?_
          refine px_get S k_Mpr hT hw 3 0 19 (v := .ref ((qr p0.toNatClampNeg) 19)) rfl rfl rfl (by decide) m11_12 d_Mo_rawCall_302 ?_
          refine lv_bipush (v := 10) S.x S.b d_Mo_rawCall_305 (by decide) ?_
          refine lv_iload S.x S.b d_Mo_rawCall_307 (lv_at hl 0 rfl) ?_
          refine lv_if_eq (tgt := 319) S.x S.b d_Mo_rawCall_309 (by decide) (fun c74 => ?_) (fun c74 => ?_)
          ·
            refine lv_iload_n S.x S.b d_Mo_rawCall_319 rfl (lv_at hl 3 rfl) ?_
            refine px_iast S hT hw 3 7 (n := 32) (f := ((QA p0.toNatClampNeg) 19)) (x := 10) (y := z2) rfl (ga_Mpr_19 _ _ _ _ _ _ _) (vp_in_iff.mpr (by constructor <;> omega)) d_Mo_rawCall_320 (w' := wd_Mpr cs (hq p0.toNatClampNeg) (qr p0.toNatClampNeg) (fun _ => QO p0.toNatClampNeg) qf45 (va_up (QA p0.toNatClampNeg) 19 (upd ((QA p0.toNatClampNeg) 19) (10 : Int32).toNatClampNeg z2)) (fun _ _ => none)) (ps' := [wd_Mo cs mo mr (fun _ => none) mf md (gMo PG hq), fm 8 (fPg cs PG), fo 13 (fPr cs hq qr QO QF QA) p0.toNatClampNeg, wd_Mpr cs (hq p0.toNatClampNeg) (qr p0.toNatClampNeg) (fun _ => QO p0.toNatClampNeg) qf45 (va_up (QA p0.toNatClampNeg) 19 (upd ((QA p0.toNatClampNeg) 19) (10 : Int32).toNatClampNeg z2)) (fun _ _ => none)]) (sa_Mpr_19 _ _ _ _ _ _ _ _) rfl (fun H locs hw => ?_)
            refine lv_aload_n S.x S.b d_Mo_rawCall_321 rfl (lv_at hl 4 rfl) ?_
            refine lv_aload_n S.x S.b d_Mo_rawCall_322 rfl (lv_at hl 4 rfl) ?_
            refine px_get S k_Mpr hT hw 3 0 11 (v := .int (qf45 11)) rfl rfl rfl (by decide) m11_3 d_Mo_rawCall_323 ?_
            refine lv_iconst (v := 4) S.x S.b d_Mo_rawCall_326 (by decide) ?_
            refine lv_iadd S.x S.b d_Mo_rawCall_327 ?_
            have lr75 := Int32.le_toInt (qf45 11)
            have ur75 := Int32.toInt_lt (qf45 11)
            refine lv_topi (fun z76 ez76 => ?_)
            have tz76 : z76.toInt = ((qf45 11).toInt + (4 : Int) + 2147483648) % 4294967296 - 2147483648 := by rw [ez76]; exact i_add (qf45 11) 4
            have lz76 := Int32.le_toInt z76
            have uz76 := Int32.toInt_lt z76
            try replace tz76 : z76.toInt = (qf45 11).toInt + (4 : Int) := by omega
            refine px_put S k_Mpr hT hw 3 0 11 rfl rfl (by decide) m11_3 rfl rfl rfl (Nat.le_of_ble_eq_true rfl) d_Mo_rawCall_328 (w' := wd_Mpr cs (hq p0.toNatClampNeg) (qr p0.toNatClampNeg) (fun _ => QO p0.toNatClampNeg) (upd qf45 11 z76) (va_up (QA p0.toNatClampNeg) 19 (upd ((QA p0.toNatClampNeg) 19) (10 : Int32).toNatClampNeg z2)) (fun _ _ => none)) (ps' := [wd_Mo cs mo mr (fun _ => none) mf md (gMo PG hq), fm 8 (fPg cs PG), fo 13 (fPr cs hq qr QO QF QA) p0.toNatClampNeg, wd_Mpr cs (hq p0.toNatClampNeg) (qr p0.toNatClampNeg) (fun _ => QO p0.toNatClampNeg) (upd qf45 11 z76) (va_up (QA p0.toNatClampNeg) 19 (upd ((QA p0.toNatClampNeg) 19) (10 : Int32).toNatClampNeg z2)) (fun _ _ => none)]) rfl rfl (fun H locs hw => ?_)
            refine lv_aload_n S.x S.b d_Mo_rawCall_331 rfl (lv_at hl 4 rfl) ?_
            refine lv_dup S.x S.b d_Mo_rawCall_332 rfl ?_
            refine px_get S k_Mpr hT hw 3 0 4 (v := .int (qf45 4)) rfl rfl rfl (by decide) m10_230 d_Mo_rawCall_333 ?_
            refine lv_iconst (v := 1) S.x S.b d_Mo_rawCall_336 (by decide) ?_
            refine lv_isub S.x S.b d_Mo_rawCall_337 ?_
            have lr77 := Int32.le_toInt (qf45 4)
            have ur77 := Int32.toInt_lt (qf45 4)
            refine lv_topi (fun z78 ez78 => ?_)
            have tz78 : z78.toInt = ((qf45 4).toInt - (1 : Int) + 2147483648) % 4294967296 - 2147483648 := by rw [ez78]; exact i_sub (qf45 4) 1
            have lz78 := Int32.le_toInt z78
            have uz78 := Int32.toInt_lt z78
            try replace tz78 : z78.toInt = (qf45 4).toInt - (1 : Int) := by omega
            refine px_put S k_Mpr hT hw 3 0 4 rfl rfl (by decide) m10_230 rfl rfl rfl (Nat.le_of_ble_eq_true rfl) d_Mo_rawCall_338 (w' := wd_Mpr cs (hq p0.toNatClampNeg) (qr p0.toNatClampNeg) (fun _ => QO p0.toNatClampNeg) (upd (upd qf45 4 z78) 11 z76) (va_up (QA p0.toNatClampNeg) 19 (upd ((QA p0.toNatClampNeg) 19) (10 : Int32).toNatClampNeg z2)) (fun _ _ => none)) (ps' := [wd_Mo cs mo mr (fun _ => none) mf md (gMo PG hq), fm 8 (fPg cs PG), fo 13 (fPr cs hq qr QO QF QA) p0.toNatClampNeg, wd_Mpr cs (hq p0.toNatClampNeg) (qr p0.toNatClampNeg) (fun _ => QO p0.toNatClampNeg) (upd (upd qf45 4 z78) 11 z76) (va_up (QA p0.toNatClampNeg) 19 (upd ((QA p0.toNatClampNeg) 19) (10 : Int32).toNatClampNeg z2)) (fun _ _ => none)]) rfl rfl (fun H locs hw => ?_)
            refine lv_iload S.x S.b d_Mo_rawCall_341 (lv_at hl 1 rfl) ?_
            have hw := fpr_in (pr := [wd_Mo cs mo mr (fun _ => none) mf md (gMo PG hq), fm 8 (fPg cs PG)]) hw hi1
            obtain ⟨QO79, hu_QO79⟩ : ∃ y : Nat → Option Nat, y = va_up QO p0.toNatClampNeg ((fun _ => QO p0.toNatClampNeg) 0) := ⟨_, rfl⟩
            obtain ⟨QF80, hu_QF80⟩ : ∃ y : Nat → Nat → Int32, y = va_up QF p0.toNatClampNeg (upd (upd qf45 4 z78) 11 z76) := ⟨_, rfl⟩
            obtain ⟨QA81, hu_QA81⟩ : ∃ y : Nat → Nat → Nat → Int32, y = va_up QA p0.toNatClampNeg (va_up (QA p0.toNatClampNeg) 19 (upd ((QA p0.toNatClampNeg) 19) (10 : Int32).toNatClampNeg z2)) := ⟨_, rfl⟩
            have hw : pw D A s.heap _ _ [wd_Mo cs mo mr (fun _ => none) mf md (gMo PG hq), fm 8 (fPg cs PG), fm 13 (fPr cs hq qr QO79 QF80 QA81)] := (by rw [hu_QO79, hu_QF80, hu_QA81]; exact hw)
            have hpr : PrA PG (va_up RR p0.toNatClampNeg (RR p0.toNatClampNeg - (1 : Int))) QO79 QF80 QA81 := (by rw [hu_QO79, hu_QF80, hu_QA81]; exact PrA.upR hpr (psr_raw (j := j9) hj9 hqo h66 (show (0 ≤ (qf45 1).toInt ∧ (qf45 1).toInt ≤ 1) ∧ (0 ≤ (qf45 21).toInt ∧ (qf45 21).toInt ≤ 4) ∧ (0 ≤ (qf45 23).toInt ∧ (qf45 23).toInt ≤ 4) ∧ (0 ≤ (qf45 24).toInt ∧ (qf45 24).toInt ≤ 1000000) ∧ (0 ≤ (qf45 6).toInt ∧ (qf45 6).toInt ≤ 3) ∧ (0 ≤ (qf45 7).toInt ∧ (qf45 7).toInt ≤ 1) from by first | with_reducible rfl | with_reducible assumption | omega) (show (qf45 1).toInt = 1 from by first | exact oz_e863b17997 e49 g6 | omega) (show 0 ≤ z78.toInt ∧ z78.toInt + 1 ≤ RR p0.toNatClampNeg - (1 : Int) ∧ (qf45 24).toInt + z78.toInt ≤ 1600 from by first | with_reducible rfl | with_reducible assumption | omega)) (show (qf45 1).toInt = (QF p0.toNatClampNeg 1).toInt from by first | exact oz_1811ac7fe4 e49 | omega) (show (QF p0.toNatClampNeg 6).toInt ≤ (qf45 6).toInt from by first | exact oz_f9b42d1b56 e52 | omega))
            have hqo : OqE (QO79 p0.toNatClampNeg) (PG j9).h := (by rw [hu_QO79, va_up_s]; exact hqo)
            have hqk1_QF80 : (QF80 p0.toNatClampNeg 1).toInt = (qf45 1).toInt := (by rw [hu_QF80, va_up_s]; try rfl)
            have hqk2_QF80 : (QF80 p0.toNatClampNeg 2).toInt = (qf45 2).toInt := (by rw [hu_QF80, va_up_s]; try rfl)
            have hqk4_QF80 : (QF80 p0.toNatClampNeg 4).toInt = z78.toInt := (by rw [hu_QF80, va_up_s]; try rfl)
            have hqk24_QF80 : (QF80 p0.toNatClampNeg 24).toInt = (qf45 24).toInt := (by rw [hu_QF80, va_up_s]; try rfl)
            have hw : pw D A s.heap _ _ [wd_Mo cs mo mr (fun _ => none) mf md (gMo PG hq), fm 13 (fPr cs hq qr QO79 QF80 QA81), fm 8 (fPg cs PG)] := hw.sub [0, 2, 1] rfl rfl
            exact px_iret (v := 1) S hr rfl hlk hAe hw (Nat.le_of_ble_eq_true rfl) (Nat.le_of_ble_eq_true rfl) (⟨mf, md, QO79, QF80, QA81, rfl, (show 0 ≤ (1 : Int) from by first | decide | omega), (show (1 : Int) ≤ 1 from by first | decide | omega), (show PrA PG (va_up RR p0.toNatClampNeg (RR p0.toNatClampNeg - (1 : Int))) QO79 QF80 QA81 from hpr), (show (mf 0).toInt = (mf 0).toInt from rfl), (show (mf 2).toInt = (mf 2).toInt from rfl), (show (mf 3).toInt = (mf 3).toInt from rfl), (show (mf 7).toInt = (mf 7).toInt from rfl), (show (mf 8).toInt = (mf 8).toInt from rfl), (show (mf 10).toInt = (mf 10).toInt from rfl)⟩) d_Mo_rawCall_343
          · exact absurd c74 (by decide)
    · simp only [List.mem_cons, List.not_mem_nil, or_false] at c43
      refine lv_aload_n S.x S.b d_Mo_rawCall_141 rfl (lv_at hl 4 rfl) ?_
      refine lv_iload_n S.x S.b d_Mo_rawCall_142 rfl (lv_at hl 3 rfl) ?_
      refine px_callv (pr := [wd_Mo cs mo mr (fun _ => none) mf md (gMo PG hq), fm 8 (fPg cs PG), fo 13 (fPr cs hq qr QO QF QA) p0.toNatClampNeg]) (px_runV (As := [.int z2]) (rest := []) S (c_mq_write l D cs (hq p0.toNatClampNeg) (qr p0.toNatClampNeg) (fun _ _ => none) (fun _ => QO p0.toNatClampNeg) (QF p0.toNatClampNeg) (QA p0.toNatClampNeg) z2  (show 0 ≤ ((QF p0.toNatClampNeg) 24).toInt from by first | with_reducible rfl | with_reducible assumption | omega) (show ((QF p0.toNatClampNeg) 24).toInt ≤ 1000000 from by first | with_reducible rfl | with_reducible assumption | omega) _) hT (pr := [wd_Mo cs mo mr (fun _ => none) mf md (gMo PG hq), fm 8 (fPg cs PG), fo 13 (fPr cs hq qr QO QF QA) p0.toNatClampNeg]) (pcs := [wd_Mpr cs (hq p0.toNatClampNeg) (qr p0.toNatClampNeg) (fun _ => QO p0.toNatClampNeg) (QF p0.toNatClampNeg) (QA p0.toNatClampNeg) (fun _ _ => none)]) hw px_X.tt (px_recv hT hw 3 0 rfl rfl rfl) m14_39 m14_36 m14_37 m14_38 m1_22 q_Mpr_write ⟨Nat.le_of_ble_eq_true rfl, Nat.le_of_ble_eq_true rfl⟩ hl.1 rfl (Nat.le_of_ble_eq_true rfl) d_Mo_rawCall_143 ⟨Nat.le_of_ble_eq_true rfl, Nat.le_of_ble_eq_true rfl⟩) hw hA (fun p86 H locs hp86 hw => ?_)
      obtain ⟨qf84, qa85, rfl, e88, e89, e90, e91, e92, e93, e94, e95, e96, e97, e98, e99, e100, e101, e102, e103⟩ := hp86
      replace e88 : (qf84 24).toInt = ((QF p0.toNatClampNeg) 24).toInt + 1 := e88
      replace e89 : (qf84 1).toInt = ((QF p0.toNatClampNeg) 1).toInt := e89
      replace e90 : (qf84 2).toInt = ((QF p0.toNatClampNeg) 2).toInt := e90
      replace e91 : (qf84 3).toInt = ((QF p0.toNatClampNeg) 3).toInt := e91
      replace e92 : (qf84 4).toInt = ((QF p0.toNatClampNeg) 4).toInt := e92
      replace e93 : (qf84 5).toInt = ((QF p0.toNatClampNeg) 5).toInt := e93
      replace e94 : (qf84 6).toInt = ((QF p0.toNatClampNeg) 6).toInt := e94
      replace e95 : (qf84 7).toInt = ((QF p0.toNatClampNeg) 7).toInt := e95
      replace e96 : (qf84 10).toInt = ((QF p0.toNatClampNeg) 10).toInt := e96
      replace e97 : (qf84 11).toInt = ((QF p0.toNatClampNeg) 11).toInt := e97
      replace e98 : (qf84 12).toInt = ((QF p0.toNatClampNeg) 12).toInt := e98
      replace e99 : (qf84 13).toInt = ((QF p0.toNatClampNeg) 13).toInt := e99
      replace e100 : (qf84 14).toInt = ((QF p0.toNatClampNeg) 14).toInt := e100
      replace e101 : (qf84 21).toInt = ((QF p0.toNatClampNeg) 21).toInt := e101
      replace e102 : (qf84 23).toInt = ((QF p0.toNatClampNeg) 23).toInt := e102
      replace e103 : ∀ k9 : Nat, k9 ≠ 25 → qa85 k9 = (QA p0.toNatClampNeg) k9 := e103
      have haw := e103
      replace hw : pw D A s.heap H locs [wd_Mo cs mo mr (fun _ => none) mf md (gMo PG hq), fm 8 (fPg cs PG), fo 13 (fPr cs hq qr QO QF QA) p0.toNatClampNeg, wd_Mpr cs (hq p0.toNatClampNeg) (qr p0.toNatClampNeg) (fun _ => QO p0.toNatClampNeg) qf84 qa85 (fun _ _ => none)] := hw
      refine lv_goto (tgt := 289) S.x S.b d_Mo_rawCall_146 (by decide) ?_
      refine lv_iload S.x S.b d_Mo_rawCall_289 (lv_at hl 1 rfl) ?_
      refine lv_if_eq (tgt := 341) S.x S.b d_Mo_rawCall_291 (by decide) (fun c104 => ?_) (fun c104 => ?_)
      · exact absurd c104 (by decide)
      ·
        refine lv_aload_n S.x S.b d_Mo_rawCall_294 rfl (lv_at hl 4 rfl) ?_
        refine px_calli (pr := [wd_Mo cs mo mr (fun _ => none) mf md (gMo PG hq), fm 8 (fPg cs PG), fo 13 (fPr cs hq qr QO QF QA) p0.toNatClampNeg]) (px_runV (As := []) (rest := []) S (c_mq_isGoing l D cs (hq p0.toNatClampNeg) (qr p0.toNatClampNeg) (fun _ _ => none) (fun _ => QO p0.toNatClampNeg) qf84 qa85    _) hT (pr := [wd_Mo cs mo mr (fun _ => none) mf md (gMo PG hq), fm 8 (fPg cs PG), fo 13 (fPr cs hq qr QO QF QA) p0.toNatClampNeg]) (pcs := [wd_Mpr cs (hq p0.toNatClampNeg) (qr p0.toNatClampNeg) (fun _ => QO p0.toNatClampNeg) qf84 qa85 (fun _ _ => none)]) hw px_X.tt (px_recv hT hw 3 0 rfl rfl rfl) m13_165 m13_162 m13_163 m13_164 m1_22 q_Mpr_isGoing ⟨Nat.le_of_ble_eq_true rfl, Nat.le_of_ble_eq_true rfl⟩ hl.1 rfl (Nat.le_of_ble_eq_true rfl) d_Mo_rawCall_295 ⟨Nat.le_of_ble_eq_true rfl, Nat.le_of_ble_eq_true rfl⟩) hw hA (fun v106 p105 H locs hp105 hw => ?_)
        obtain ⟨rfl, e107, e108, e109, e110, e111⟩ := hp105
        replace e107 : 0 ≤ v106.toInt := e107
        replace e108 : v106.toInt ≤ 1 := e108
        replace e109 : v106.toInt = 1 → (qf84 1).toInt ≠ 0 := e109
        replace e110 : v106.toInt = 1 → (qf84 2).toInt = -2 := e110
        replace e111 : (qf84 1).toInt ≠ 0 → (qf84 2).toInt = -2 → v106.toInt = 1 := e111
        replace hw : pw D A s.heap H locs [wd_Mo cs mo mr (fun _ => none) mf md (gMo PG hq), fm 8 (fPg cs PG), fo 13 (fPr cs hq qr QO QF QA) p0.toNatClampNeg, wd_Mpr cs (hq p0.toNatClampNeg) (qr p0.toNatClampNeg) (fun _ => QO p0.toNatClampNeg) qf84 qa85 (fun _ _ => none)] := hw
        have lv106 := Int32.le_toInt v106
        have uv106 := Int32.toInt_lt v106
        refine lv_if_eq (tgt := 341) S.x S.b d_Mo_rawCall_298 (by decide) (fun c112 => ?_) (fun c112 => ?_)
        · have nc112 : v106.toInt = (0 : Int) := (i_eq (x := v106) (y := 0)).mp c112
          refine lv_iload S.x S.b d_Mo_rawCall_341 (lv_at hl 1 rfl) ?_
          have hw := fpr_in (pr := [wd_Mo cs mo mr (fun _ => none) mf md (gMo PG hq), fm 8 (fPg cs PG)]) hw hi1
          obtain ⟨QO113, hu_QO113⟩ : ∃ y : Nat → Option Nat, y = va_up QO p0.toNatClampNeg ((fun _ => QO p0.toNatClampNeg) 0) := ⟨_, rfl⟩
          obtain ⟨QF114, hu_QF114⟩ : ∃ y : Nat → Nat → Int32, y = va_up QF p0.toNatClampNeg qf84 := ⟨_, rfl⟩
          obtain ⟨QA115, hu_QA115⟩ : ∃ y : Nat → Nat → Nat → Int32, y = va_up QA p0.toNatClampNeg qa85 := ⟨_, rfl⟩
          have hw : pw D A s.heap _ _ [wd_Mo cs mo mr (fun _ => none) mf md (gMo PG hq), fm 8 (fPg cs PG), fm 13 (fPr cs hq qr QO113 QF114 QA115)] := (by rw [hu_QO113, hu_QF114, hu_QA115]; exact hw)
          have hpr : PrA PG RR QO113 QF114 QA115 := (by rw [hu_QO113, hu_QF114, hu_QA115]; exact PrA.up hpr (psr_raw (j := j9) hj9 hqo h66 (show (0 ≤ (qf84 1).toInt ∧ (qf84 1).toInt ≤ 1) ∧ (0 ≤ (qf84 21).toInt ∧ (qf84 21).toInt ≤ 4) ∧ (0 ≤ (qf84 23).toInt ∧ (qf84 23).toInt ≤ 4) ∧ (0 ≤ (qf84 24).toInt ∧ (qf84 24).toInt ≤ 1000000) ∧ (0 ≤ (qf84 6).toInt ∧ (qf84 6).toInt ≤ 3) ∧ (0 ≤ (qf84 7).toInt ∧ (qf84 7).toInt ≤ 1) from by first | with_reducible rfl | with_reducible assumption | omega) (show (qf84 1).toInt = 1 from by first | exact oz_e863b17997 e89 g6 | omega) (show 0 ≤ (qf84 4).toInt ∧ (qf84 4).toInt + 1 ≤ RR p0.toNatClampNeg ∧ (qf84 24).toInt + (qf84 4).toInt ≤ 1600 from by first | with_reducible rfl | with_reducible assumption | omega)) (show (qf84 1).toInt = (QF p0.toNatClampNeg 1).toInt from by first | exact oz_1811ac7fe4 e89 | omega) (show (QF p0.toNatClampNeg 6).toInt ≤ (qf84 6).toInt from by first | exact oz_f9b42d1b56 e94 | omega))
          have hqo : OqE (QO113 p0.toNatClampNeg) (PG j9).h := (by rw [hu_QO113, va_up_s]; exact hqo)
          have hkw : KpW QO QF QO113 QF114 p0.toNatClampNeg := ⟨hqo.trans hqoE.symm, (by rw [hu_QF114, va_up_s]; exact (show ((qf84 1).toInt = (QF p0.toNatClampNeg 1).toInt ∧ (qf84 4).toInt = (QF p0.toNatClampNeg 4).toInt ∧ (qf84 5).toInt = (QF p0.toNatClampNeg 5).toInt ∧ (qf84 7).toInt = (QF p0.toNatClampNeg 7).toInt ∧ (qf84 10).toInt = (QF p0.toNatClampNeg 10).toInt ∧ (qf84 11).toInt = (QF p0.toNatClampNeg 11).toInt) ∧ (qf84 12).toInt = (QF p0.toNatClampNeg 12).toInt ∧ (qf84 13).toInt = (QF p0.toNatClampNeg 13).toInt ∧ (qf84 14).toInt = (QF p0.toNatClampNeg 14).toInt ∧ (qf84 24).toInt = (QF p0.toNatClampNeg 24).toInt from by first | with_reducible rfl | with_reducible assumption | omega))⟩
          have hqk1_QF114 : (QF114 p0.toNatClampNeg 1).toInt = (qf84 1).toInt := (by rw [hu_QF114, va_up_s]; try rfl)
          have hqk2_QF114 : (QF114 p0.toNatClampNeg 2).toInt = (qf84 2).toInt := (by rw [hu_QF114, va_up_s]; try rfl)
          have hqk4_QF114 : (QF114 p0.toNatClampNeg 4).toInt = (qf84 4).toInt := (by rw [hu_QF114, va_up_s]; try rfl)
          have hqk24_QF114 : (QF114 p0.toNatClampNeg 24).toInt = (qf84 24).toInt := (by rw [hu_QF114, va_up_s]; try rfl)
          have hw : pw D A s.heap _ _ [wd_Mo cs mo mr (fun _ => none) mf md (gMo PG hq), fm 13 (fPr cs hq qr QO113 QF114 QA115), fm 8 (fPg cs PG)] := hw.sub [0, 2, 1] rfl rfl
          exact px_iret (v := 1) S hr rfl hlk hAe hw (Nat.le_of_ble_eq_true rfl) (Nat.le_of_ble_eq_true rfl) (⟨mf, md, QO113, QF114, QA115, rfl, (show 0 ≤ (1 : Int) from by first | decide | omega), (show (1 : Int) ≤ 1 from by first | decide | omega), (show PrA PG (va_up RR p0.toNatClampNeg (RR p0.toNatClampNeg - (1 : Int))) QO113 QF114 QA115 from (hpr.low (by omega) (by omega) (by omega) (by have q9 := cl_nat (x := p0) (by first | exact g0 | omega); omega))), (show (mf 0).toInt = (mf 0).toInt from rfl), (show (mf 2).toInt = (mf 2).toInt from rfl), (show (mf 3).toInt = (mf 3).toInt from rfl), (show (mf 7).toInt = (mf 7).toInt from rfl), (show (mf 8).toInt = (mf 8).toInt from rfl), (show (mf 10).toInt = (mf 10).toInt from rfl)⟩) d_Mo_rawCall_343
        · have nc112 : ¬ v106.toInt = (0 : Int) := mt (i_eq (x := v106) (y := 0)).mpr c112
          refine lv_aload_n S.x S.b d_Mo_rawCall_301 rfl (lv_at hl 4 rfl) ?_
          refine px_get S k_Mpr hT hw 3 0 19 (v := .ref ((qr p0.toNatClampNeg) 19)) rfl rfl rfl (by decide) m11_12 d_Mo_rawCall_302 ?_
          refine lv_bipush (v := 10) S.x S.b d_Mo_rawCall_305 (by decide) ?_
          refine lv_iload S.x S.b d_Mo_rawCall_307 (lv_at hl 0 rfl) ?_
          refine lv_if_eq (tgt := 319) S.x S.b d_Mo_rawCall_309 (by decide) (fun c116 => ?_) (fun c116 => ?_)
          ·
            refine lv_iload_n S.x S.b d_Mo_rawCall_319 rfl (lv_at hl 3 rfl) ?_
            refine px_iast S hT hw 3 7 (n := 32) (f := (qa85 19)) (x := 10) (y := z2) rfl (ga_Mpr_19 _ _ _ _ _ _ _) (vp_in_iff.mpr (by constructor <;> omega)) d_Mo_rawCall_320 (w' := wd_Mpr cs (hq p0.toNatClampNeg) (qr p0.toNatClampNeg) (fun _ => QO p0.toNatClampNeg) qf84 (va_up qa85 19 (upd (qa85 19) (10 : Int32).toNatClampNeg z2)) (fun _ _ => none)) (ps' := [wd_Mo cs mo mr (fun _ => none) mf md (gMo PG hq), fm 8 (fPg cs PG), fo 13 (fPr cs hq qr QO QF QA) p0.toNatClampNeg, wd_Mpr cs (hq p0.toNatClampNeg) (qr p0.toNatClampNeg) (fun _ => QO p0.toNatClampNeg) qf84 (va_up qa85 19 (upd (qa85 19) (10 : Int32).toNatClampNeg z2)) (fun _ _ => none)]) (sa_Mpr_19 _ _ _ _ _ _ _ _) rfl (fun H locs hw => ?_)
            refine lv_aload_n S.x S.b d_Mo_rawCall_321 rfl (lv_at hl 4 rfl) ?_
            refine lv_aload_n S.x S.b d_Mo_rawCall_322 rfl (lv_at hl 4 rfl) ?_
            refine px_get S k_Mpr hT hw 3 0 11 (v := .int (qf84 11)) rfl rfl rfl (by decide) m11_3 d_Mo_rawCall_323 ?_
            refine lv_iconst (v := 4) S.x S.b d_Mo_rawCall_326 (by decide) ?_
            refine lv_iadd S.x S.b d_Mo_rawCall_327 ?_
            have lr117 := Int32.le_toInt (qf84 11)
            have ur117 := Int32.toInt_lt (qf84 11)
            refine lv_topi (fun z118 ez118 => ?_)
            have tz118 : z118.toInt = ((qf84 11).toInt + (4 : Int) + 2147483648) % 4294967296 - 2147483648 := by rw [ez118]; exact i_add (qf84 11) 4
            have lz118 := Int32.le_toInt z118
            have uz118 := Int32.toInt_lt z118
            try replace tz118 : z118.toInt = (qf84 11).toInt + (4 : Int) := by omega
            refine px_put S k_Mpr hT hw 3 0 11 rfl rfl (by decide) m11_3 rfl rfl rfl (Nat.le_of_ble_eq_true rfl) d_Mo_rawCall_328 (w' := wd_Mpr cs (hq p0.toNatClampNeg) (qr p0.toNatClampNeg) (fun _ => QO p0.toNatClampNeg) (upd qf84 11 z118) (va_up qa85 19 (upd (qa85 19) (10 : Int32).toNatClampNeg z2)) (fun _ _ => none)) (ps' := [wd_Mo cs mo mr (fun _ => none) mf md (gMo PG hq), fm 8 (fPg cs PG), fo 13 (fPr cs hq qr QO QF QA) p0.toNatClampNeg, wd_Mpr cs (hq p0.toNatClampNeg) (qr p0.toNatClampNeg) (fun _ => QO p0.toNatClampNeg) (upd qf84 11 z118) (va_up qa85 19 (upd (qa85 19) (10 : Int32).toNatClampNeg z2)) (fun _ _ => none)]) rfl rfl (fun H locs hw => ?_)
            refine lv_aload_n S.x S.b d_Mo_rawCall_331 rfl (lv_at hl 4 rfl) ?_
            refine lv_dup S.x S.b d_Mo_rawCall_332 rfl ?_
            refine px_get S k_Mpr hT hw 3 0 4 (v := .int (qf84 4)) rfl rfl rfl (by decide) m10_230 d_Mo_rawCall_333 ?_
            refine lv_iconst (v := 1) S.x S.b d_Mo_rawCall_336 (by decide) ?_
            refine lv_isub S.x S.b d_Mo_rawCall_337 ?_
            have lr119 := Int32.le_toInt (qf84 4)
            have ur119 := Int32.toInt_lt (qf84 4)
            refine lv_topi (fun z120 ez120 => ?_)
            have tz120 : z120.toInt = ((qf84 4).toInt - (1 : Int) + 2147483648) % 4294967296 - 2147483648 := by rw [ez120]; exact i_sub (qf84 4) 1
            have lz120 := Int32.le_toInt z120
            have uz120 := Int32.toInt_lt z120
            try replace tz120 : z120.toInt = (qf84 4).toInt - (1 : Int) := by omega
            refine px_put S k_Mpr hT hw 3 0 4 rfl rfl (by decide) m10_230 rfl rfl rfl (Nat.le_of_ble_eq_true rfl) d_Mo_rawCall_338 (w' := wd_Mpr cs (hq p0.toNatClampNeg) (qr p0.toNatClampNeg) (fun _ => QO p0.toNatClampNeg) (upd (upd qf84 4 z120) 11 z118) (va_up qa85 19 (upd (qa85 19) (10 : Int32).toNatClampNeg z2)) (fun _ _ => none)) (ps' := [wd_Mo cs mo mr (fun _ => none) mf md (gMo PG hq), fm 8 (fPg cs PG), fo 13 (fPr cs hq qr QO QF QA) p0.toNatClampNeg, wd_Mpr cs (hq p0.toNatClampNeg) (qr p0.toNatClampNeg) (fun _ => QO p0.toNatClampNeg) (upd (upd qf84 4 z120) 11 z118) (va_up qa85 19 (upd (qa85 19) (10 : Int32).toNatClampNeg z2)) (fun _ _ => none)]) rfl rfl (fun H locs hw => ?_)
            refine lv_iload S.x S.b d_Mo_rawCall_341 (lv_at hl 1 rfl) ?_
            have hw := fpr_in (pr := [wd_Mo cs mo mr (fun _ => none) mf md (gMo PG hq), fm 8 (fPg cs PG)]) hw hi1
            obtain ⟨QO121, hu_QO121⟩ : ∃ y : Nat → Option Nat, y = va_up QO p0.toNatClampNeg ((fun _ => QO p0.toNatClampNeg) 0) := ⟨_, rfl⟩
            obtain ⟨QF122, hu_QF122⟩ : ∃ y : Nat → Nat → Int32, y = va_up QF p0.toNatClampNeg (upd (upd qf84 4 z120) 11 z118) := ⟨_, rfl⟩
            obtain ⟨QA123, hu_QA123⟩ : ∃ y : Nat → Nat → Nat → Int32, y = va_up QA p0.toNatClampNeg (va_up qa85 19 (upd (qa85 19) (10 : Int32).toNatClampNeg z2)) := ⟨_, rfl⟩
            have hw : pw D A s.heap _ _ [wd_Mo cs mo mr (fun _ => none) mf md (gMo PG hq), fm 8 (fPg cs PG), fm 13 (fPr cs hq qr QO121 QF122 QA123)] := (by rw [hu_QO121, hu_QF122, hu_QA123]; exact hw)
            have hpr : PrA PG (va_up RR p0.toNatClampNeg (RR p0.toNatClampNeg - (1 : Int))) QO121 QF122 QA123 := (by rw [hu_QO121, hu_QF122, hu_QA123]; exact PrA.upR hpr (psr_raw (j := j9) hj9 hqo h66 (show (0 ≤ (qf84 1).toInt ∧ (qf84 1).toInt ≤ 1) ∧ (0 ≤ (qf84 21).toInt ∧ (qf84 21).toInt ≤ 4) ∧ (0 ≤ (qf84 23).toInt ∧ (qf84 23).toInt ≤ 4) ∧ (0 ≤ (qf84 24).toInt ∧ (qf84 24).toInt ≤ 1000000) ∧ (0 ≤ (qf84 6).toInt ∧ (qf84 6).toInt ≤ 3) ∧ (0 ≤ (qf84 7).toInt ∧ (qf84 7).toInt ≤ 1) from by first | with_reducible rfl | with_reducible assumption | omega) (show (qf84 1).toInt = 1 from by first | exact oz_e863b17997 e89 g6 | omega) (show 0 ≤ z120.toInt ∧ z120.toInt + 1 ≤ RR p0.toNatClampNeg - (1 : Int) ∧ (qf84 24).toInt + z120.toInt ≤ 1600 from by first | with_reducible rfl | with_reducible assumption | omega)) (show (qf84 1).toInt = (QF p0.toNatClampNeg 1).toInt from by first | exact oz_1811ac7fe4 e89 | omega) (show (QF p0.toNatClampNeg 6).toInt ≤ (qf84 6).toInt from by first | exact oz_f9b42d1b56 e94 | omega))
            have hqo : OqE (QO121 p0.toNatClampNeg) (PG j9).h := (by rw [hu_QO121, va_up_s]; exact hqo)
            have hqk1_QF122 : (QF122 p0.toNatClampNeg 1).toInt = (qf84 1).toInt := (by rw [hu_QF122, va_up_s]; try rfl)
            have hqk2_QF122 : (QF122 p0.toNatClampNeg 2).toInt = (qf84 2).toInt := (by rw [hu_QF122, va_up_s]; try rfl)
            have hqk4_QF122 : (QF122 p0.toNatClampNeg 4).toInt = z120.toInt := (by rw [hu_QF122, va_up_s]; try rfl)
            have hqk24_QF122 : (QF122 p0.toNatClampNeg 24).toInt = (qf84 24).toInt := (by rw [hu_QF122, va_up_s]; try rfl)
            have hw : pw D A s.heap _ _ [wd_Mo cs mo mr (fun _ => none) mf md (gMo PG hq), fm 13 (fPr cs hq qr QO121 QF122 QA123), fm 8 (fPg cs PG)] := hw.sub [0, 2, 1] rfl rfl
            exact px_iret (v := 1) S hr rfl hlk hAe hw (Nat.le_of_ble_eq_true rfl) (Nat.le_of_ble_eq_true rfl) (⟨mf, md, QO121, QF122, QA123, rfl, (show 0 ≤ (1 : Int) from by first | decide | omega), (show (1 : Int) ≤ 1 from by first | decide | omega), (show PrA PG (va_up RR p0.toNatClampNeg (RR p0.toNatClampNeg - (1 : Int))) QO121 QF122 QA123 from hpr), (show (mf 0).toInt = (mf 0).toInt from rfl), (show (mf 2).toInt = (mf 2).toInt from rfl), (show (mf 3).toInt = (mf 3).toInt from rfl), (show (mf 7).toInt = (mf 7).toInt from rfl), (show (mf 8).toInt = (mf 8).toInt from rfl), (show (mf 10).toInt = (mf 10).toInt from rfl)⟩) d_Mo_rawCall_343
          · exact absurd c116 (by decide)
    · simp only [List.mem_cons, List.not_mem_nil, or_false] at c43
      refine lv_aload_n S.x S.b d_Mo_rawCall_149 rfl (lv_at hl 5 rfl) ?_
      refine lv_iload_n S.x S.b d_Mo_rawCall_150 rfl (lv_at hl 6 rfl) ?_
      refine lv_iload_n S.x S.b d_Mo_rawCall_151 rfl (lv_at hl 3 rfl) ?_
      refine lv_iload S.x S.b d_Mo_rawCall_152 (lv_at hl 2 rfl) ?_
      have hw : pw D A s.heap _ _ [wd_Mo cs mo mr (fun _ => none) mf md (gMo PG hq), fm 8 (fPg cs PG), fm 13 (fPr cs hq qr QO QF QA)] := fm_back (pr := [wd_Mo cs mo mr (fun _ => none) mf md (gMo PG hq), fm 8 (fPg cs PG)]) (T := fPr cs hq qr QO QF QA) hw hi1
      have hw : pw D A s.heap _ _ [wd_Mo cs mo mr (fun _ => none) mf md (gMo PG hq), fm 13 (fPr cs hq qr QO QF QA), fm 8 (fPg cs PG)] := hw.sub [0, 2, 1] rfl rfl
      refine px_calli (pr := []) (px_runV (As := [.int p0, .int z2, .int z3]) (rest := []) S (c_mo_sends l D cs RR mo mr mf md hq qr QO QF QA PG p0 z2 z3  (show 0 ≤ p0.toInt from by first | exact g0 | omega) (show p0.toInt < 13 from by first | exact g1 | omega) hpr hpg _) hT (pr := []) (pcs := [wd_Mo cs mo mr (fun _ => none) mf md (gMo PG hq), fm 13 (fPr cs hq qr QO QF QA), fm 8 (fPg cs PG)]) hw px_X.tt (px_recv hT hw 0 0 rfl rfl rfl) m14_43 m14_40 m14_42 ms_15_13 m1_20 q_Mo_sends ⟨Nat.le_of_ble_eq_true rfl, Nat.le_of_ble_eq_true rfl⟩ hl.1 rfl (Nat.le_of_ble_eq_true rfl) d_Mo_rawCall_154 ⟨Nat.le_of_ble_eq_true rfl, Nat.le_of_ble_eq_true rfl⟩) hw hA (fun v131 p130 H locs hp130 hw => ?_)
      obtain ⟨QO127, QF128, QA129, rfl, e132, e133, e134, e135⟩ := hp130
      replace e132 : PrA PG RR QO127 QF128 QA129 := e132
      have hpr := e132
      replace e133 : KpP QO QF QA QO127 QF128 QA129 p0.toNatClampNeg := e133
      have hkw : KpW QO QF QO127 QF128 p0.toNatClampNeg := ⟨(e133.1).trans hkw.1, hkw.2.tr e133.2.1⟩
      have hqo : OqE (QO127 p0.toNatClampNeg) (PG j9).h := hkw.1.trans hqoE
      have hkf := hkw.2
      unfold KpF at hkf
      replace e134 : 0 ≤ v131.toInt := e134
      replace e135 : v131.toInt ≤ 1 := e135
      replace hw : pw D A s.heap H locs [wd_Mo cs mo mr (fun _ => none) mf md (gMo PG hq), fm 13 (fPr cs hq qr QO127 QF128 QA129), fm 8 (fPg cs PG)] := hw
      have lv131 := Int32.le_toInt v131
      have uv131 := Int32.toInt_lt v131
      refine lv_istore (lv' := [(5, .int v131), (6, .int 0), (4, .int z3), (3, .int z2), (2, .ref (hq p0.toNatClampNeg)), (0, .ref mo), (1, .int p0)]) S.x S.b d_Mo_rawCall_157 hl (by decide) rfl (fun ls hl => ?_)
      refine lv_goto (tgt := 289) S.x S.b d_Mo_rawCall_159 (by decide) ?_
      refine lv_iload S.x S.b d_Mo_rawCall_289 (lv_at hl 0 rfl) ?_
      refine lv_if_eq (tgt := 341) S.x S.b d_Mo_rawCall_291 (by decide) (fun c136 => ?_) (fun c136 => ?_)
      · have nc136 : v131.toInt = (0 : Int) := (i_eq (x := v131) (y := 0)).mp c136
        refine lv_iload S.x S.b d_Mo_rawCall_341 (lv_at hl 0 rfl) ?_
        exact px_iret (v := v131) S hr (z_nar (by omega)) hlk hAe hw (Nat.le_of_ble_eq_true rfl) (Nat.le_of_ble_eq_true rfl) (⟨mf, md, QO127, QF128, QA129, rfl, (show 0 ≤ v131.toInt from by first | exact e134 | omega), (show v131.toInt ≤ 1 from by first | exact e135 | omega), (show PrA PG (va_up RR p0.toNatClampNeg (RR p0.toNatClampNeg - v131.toInt)) QO127 QF128 QA129 from (hpr.rs (by omega))), (show (mf 0).toInt = (mf 0).toInt from rfl), (show (mf 2).toInt = (mf 2).toInt from rfl), (show (mf 3).toInt = (mf 3).toInt from rfl), (show (mf 7).toInt = (mf 7).toInt from rfl), (show (mf 8).toInt = (mf 8).toInt from rfl), (show (mf 10).toInt = (mf 10).toInt from rfl)⟩) d_Mo_rawCall_343
      · have nc136 : ¬ v131.toInt = (0 : Int) := mt (i_eq (x := v131) (y := 0)).mpr c136
        refine lv_aload_n S.x S.b d_Mo_rawCall_294 rfl (lv_at hl 4 rfl) ?_
        have hw : pw D A s.heap _ _ [wd_Mo cs mo mr (fun _ => none) mf md (gMo PG hq), fm 8 (fPg cs PG), fm 13 (fPr cs hq qr QO127 QF128 QA129)] := hw.sub [0, 2, 1] rfl rfl
        have hc137 := cl_nat (x := p0) (by first | exact g0 | omega)
        have hi137 : p0.toNatClampNeg < 13 := by first | exact hi1 | omega
        have hw : pw D A s.heap _ _ [wd_Mo cs mo mr (fun _ => none) mf md (gMo PG hq), fm 8 (fPg cs PG), fo 13 (fPr cs hq qr QO127 QF128 QA129) p0.toNatClampNeg, wd_Mpr cs (hq p0.toNatClampNeg) (qr p0.toNatClampNeg) (fun _ => QO127 p0.toNatClampNeg) (QF128 p0.toNatClampNeg) (QA129 p0.toNatClampNeg) (fun _ _ => none)] := fm_out (pr := [wd_Mo cs mo mr (fun _ => none) mf md (gMo PG hq), fm 8 (fPg cs PG)]) (T := fPr cs hq qr QO127 QF128 QA129) hw hi137
        have hps137 := hpr.1 p0.toNatClampNeg hi137
        have hpb137 := hps137.1
        unfold PsB at hpb137
        refine px_calli (pr := [wd_Mo cs mo mr (fun _ => none) mf md (gMo PG hq), fm 8 (fPg cs PG), fo 13 (fPr cs hq qr QO127 QF128 QA129) p0.toNatClampNeg]) (px_runV (As := []) (rest := []) S (c_mq_isGoing l D cs (hq p0.toNatClampNeg) (qr p0.toNatClampNeg) (fun _ _ => none) (fun _ => QO127 p0.toNatClampNeg) (QF128 p0.toNatClampNeg) (QA129 p0.toNatClampNeg)    _) hT (pr := [wd_Mo cs mo mr (fun _ => none) mf md (gMo PG hq), fm 8 (fPg cs PG), fo 13 (fPr cs hq qr QO127 QF128 QA129) p0.toNatClampNeg]) (pcs := [wd_Mpr cs (hq p0.toNatClampNeg) (qr p0.toNatClampNeg) (fun _ => QO127 p0.toNatClampNeg) (QF128 p0.toNatClampNeg) (QA129 p0.toNatClampNeg) (fun _ _ => none)]) hw px_X.tt (px_recv hT hw 3 0 rfl rfl rfl) m13_165 m13_162 m13_163 m13_164 m1_22 q_Mpr_isGoing ⟨Nat.le_of_ble_eq_true rfl, Nat.le_of_ble_eq_true rfl⟩ hl.1 rfl (Nat.le_of_ble_eq_true rfl) d_Mo_rawCall_295 ⟨Nat.le_of_ble_eq_true rfl, Nat.le_of_ble_eq_true rfl⟩) hw hA (fun v139 p138 H locs hp138 hw => ?_)
        obtain ⟨rfl, e140, e141, e142, e143, e144⟩ := hp138
        replace e140 : 0 ≤ v139.toInt := e140
        replace e141 : v139.toInt ≤ 1 := e141
        replace e142 : v139.toInt = 1 → ((QF128 p0.toNatClampNeg) 1).toInt ≠ 0 := e142
        replace e143 : v139.toInt = 1 → ((QF128 p0.toNatClampNeg) 2).toInt = -2 := e143
        replace e144 : ((QF128 p0.toNatClampNeg) 1).toInt ≠ 0 → ((QF128 p0.toNatClampNeg) 2).toInt = -2 → v139.toInt = 1 := e144
        replace hw : pw D A s.heap H locs [wd_Mo cs mo mr (fun _ => none) mf md (gMo PG hq), fm 8 (fPg cs PG), fo 13 (fPr cs hq qr QO127 QF128 QA129) p0.toNatClampNeg, wd_Mpr cs (hq p0.toNatClampNeg) (qr p0.toNatClampNeg) (fun _ => QO127 p0.toNatClampNeg) (QF128 p0.toNatClampNeg) (QA129 p0.toNatClampNeg) (fun _ _ => none)] := hw
        have lv139 := Int32.le_toInt v139
        have uv139 := Int32.toInt_lt v139
        refine lv_if_eq (tgt := 341) S.x S.b d_Mo_rawCall_298 (by decide) (fun c145 => ?_) (fun c145 => ?_)
        · have nc145 : v139.toInt = (0 : Int) := (i_eq (x := v139) (y := 0)).mp c145
          refine lv_iload S.x S.b d_Mo_rawCall_341 (lv_at hl 0 rfl) ?_
          have hw : pw D A s.heap _ _ [wd_Mo cs mo mr (fun _ => none) mf md (gMo PG hq), fm 8 (fPg cs PG), fm 13 (fPr cs hq qr QO127 QF128 QA129)] := fm_back (pr := [wd_Mo cs mo mr (fun _ => none) mf md (gMo PG hq), fm 8 (fPg cs PG)]) (T := fPr cs hq qr QO127 QF128 QA129) hw hi137
          have hw : pw D A s.heap _ _ [wd_Mo cs mo mr (fun _ => none) mf md (gMo PG hq), fm 13 (fPr cs hq qr QO127 QF128 QA129), fm 8 (fPg cs PG)] := hw.sub [0, 2, 1] rfl rfl
          exact px_iret (v := v131) S hr (z_nar (by omega)) hlk hAe hw (Nat.le_of_ble_eq_true rfl) (Nat.le_of_ble_eq_true rfl) (⟨mf, md, QO127, QF128, QA129, rfl, (show 0 ≤ v131.toInt from by first | exact e134 | omega), (show v131.toInt ≤ 1 from by first | exact e135 | omega), (show PrA PG (va_up RR p0.toNatClampNeg (RR p0.toNatClampNeg - v131.toInt)) QO127 QF128 QA129 from (hpr.low (by omega) (by omega) (by omega) (by have q9 := cl_nat (x := p0) (by first | exact g0 | omega); omega))), (show (mf 0).toInt = (mf 0).toInt from rfl), (show (mf 2).toInt = (mf 2).toInt from rfl), (show (mf 3).toInt = (mf 3).toInt from rfl), (show (mf 7).toInt = (mf 7).toInt from rfl), (show (mf 8).toInt = (mf 8).toInt from rfl), (show (mf 10).toInt = (mf 10).toInt from rfl)⟩) d_Mo_rawCall_343
        · have nc145 : ¬ v139.toInt = (0 : Int) := mt (i_eq (x := v139) (y := 0)).mpr c145
          refine lv_aload_n S.x S.b d_Mo_rawCall_301 rfl (lv_at hl 4 rfl) ?_
          refine px_get S k_Mpr hT hw 3 0 19 (v := .ref ((qr p0.toNatClampNeg) 19)) rfl rfl rfl (by decide) m11_12 d_Mo_rawCall_302 ?_
          refine lv_bipush (v := 10) S.x S.b d_Mo_rawCall_305 (by decide) ?_
          refine lv_iload S.x S.b d_Mo_rawCall_307 (lv_at hl 1 rfl) ?_
          refine lv_if_eq (tgt := 319) S.x S.b d_Mo_rawCall_309 (by decide) (fun c146 => ?_) (fun c146 => ?_)
          ·
            refine lv_iload_n S.x S.b d_Mo_rawCall_319 rfl (lv_at hl 3 rfl) ?_
            refine px_iast S hT hw 3 7 (n := 32) (f := ((QA129 p0.toNatClampNeg) 19)) (x := 10) (y := z2) rfl (ga_Mpr_19 _ _ _ _ _ _ _) (vp_in_iff.mpr (by constructor <;> omega)) d_Mo_rawCall_320 (w' := wd_Mpr cs (hq p0.toNatClampNeg) (qr p0.toNatClampNeg) (fun _ => QO127 p0.toNatClampNeg) (QF128 p0.toNatClampNeg) (va_up (QA129 p0.toNatClampNeg) 19 (upd ((QA129 p0.toNatClampNeg) 19) (10 : Int32).toNatClampNeg z2)) (fun _ _ => none)) (ps' := [wd_Mo cs mo mr (fun _ => none) mf md (gMo PG hq), fm 8 (fPg cs PG), fo 13 (fPr cs hq qr QO127 QF128 QA129) p0.toNatClampNeg, wd_Mpr cs (hq p0.toNatClampNeg) (qr p0.toNatClampNeg) (fun _ => QO127 p0.toNatClampNeg) (QF128 p0.toNatClampNeg) (va_up (QA129 p0.toNatClampNeg) 19 (upd ((QA129 p0.toNatClampNeg) 19) (10 : Int32).toNatClampNeg z2)) (fun _ _ => none)]) (sa_Mpr_19 _ _ _ _ _ _ _ _) rfl (fun H locs hw => ?_)
            refine lv_aload_n S.x S.b d_Mo_rawCall_321 rfl (lv_at hl 4 rfl) ?_
            refine lv_aload_n S.x S.b d_Mo_rawCall_322 rfl (lv_at hl 4 rfl) ?_
            refine px_get S k_Mpr hT hw 3 0 11 (v := .int ((QF128 p0.toNatClampNeg) 11)) rfl rfl rfl (by decide) m11_3 d_Mo_rawCall_323 ?_
            refine lv_iconst (v := 4) S.x S.b d_Mo_rawCall_326 (by decide) ?_
            refine lv_iadd S.x S.b d_Mo_rawCall_327 ?_
            have lr147 := Int32.le_toInt ((QF128 p0.toNatClampNeg) 11)
            have ur147 := Int32.toInt_lt ((QF128 p0.toNatClampNeg) 11)
            refine lv_topi (fun z148 ez148 => ?_)
            have tz148 : z148.toInt = (((QF128 p0.toNatClampNeg) 11).toInt + (4 : Int) + 2147483648) % 4294967296 - 2147483648 := by rw [ez148]; exact i_add ((QF128 p0.toNatClampNeg) 11) 4
            have lz148 := Int32.le_toInt z148
            have uz148 := Int32.toInt_lt z148
            try replace tz148 : z148.toInt = ((QF128 p0.toNatClampNeg) 11).toInt + (4 : Int) := by omega
            refine px_put S k_Mpr hT hw 3 0 11 rfl rfl (by decide) m11_3 rfl rfl rfl (Nat.le_of_ble_eq_true rfl) d_Mo_rawCall_328 (w' := wd_Mpr cs (hq p0.toNatClampNeg) (qr p0.toNatClampNeg) (fun _ => QO127 p0.toNatClampNeg) (upd (QF128 p0.toNatClampNeg) 11 z148) (va_up (QA129 p0.toNatClampNeg) 19 (upd ((QA129 p0.toNatClampNeg) 19) (10 : Int32).toNatClampNeg z2)) (fun _ _ => none)) (ps' := [wd_Mo cs mo mr (fun _ => none) mf md (gMo PG hq), fm 8 (fPg cs PG), fo 13 (fPr cs hq qr QO127 QF128 QA129) p0.toNatClampNeg, wd_Mpr cs (hq p0.toNatClampNeg) (qr p0.toNatClampNeg) (fun _ => QO127 p0.toNatClampNeg) (upd (QF128 p0.toNatClampNeg) 11 z148) (va_up (QA129 p0.toNatClampNeg) 19 (upd ((QA129 p0.toNatClampNeg) 19) (10 : Int32).toNatClampNeg z2)) (fun _ _ => none)]) rfl rfl (fun H locs hw => ?_)
            refine lv_aload_n S.x S.b d_Mo_rawCall_331 rfl (lv_at hl 4 rfl) ?_
            refine lv_dup S.x S.b d_Mo_rawCall_332 rfl ?_
            refine px_get S k_Mpr hT hw 3 0 4 (v := .int ((QF128 p0.toNatClampNeg) 4)) rfl rfl rfl (by decide) m10_230 d_Mo_rawCall_333 ?_
            refine lv_iconst (v := 1) S.x S.b d_Mo_rawCall_336 (by decide) ?_
            refine lv_isub S.x S.b d_Mo_rawCall_337 ?_
            have lr149 := Int32.le_toInt ((QF128 p0.toNatClampNeg) 4)
            have ur149 := Int32.toInt_lt ((QF128 p0.toNatClampNeg) 4)
            refine lv_topi (fun z150 ez150 => ?_)
            have tz150 : z150.toInt = (((QF128 p0.toNatClampNeg) 4).toInt - (1 : Int) + 2147483648) % 4294967296 - 2147483648 := by rw [ez150]; exact i_sub ((QF128 p0.toNatClampNeg) 4) 1
            have lz150 := Int32.le_toInt z150
            have uz150 := Int32.toInt_lt z150
            try replace tz150 : z150.toInt = ((QF128 p0.toNatClampNeg) 4).toInt - (1 : Int) := by omega
            refine px_put S k_Mpr hT hw 3 0 4 rfl rfl (by decide) m10_230 rfl rfl rfl (Nat.le_of_ble_eq_true rfl) d_Mo_rawCall_338 (w' := wd_Mpr cs (hq p0.toNatClampNeg) (qr p0.toNatClampNeg) (fun _ => QO127 p0.toNatClampNeg) (upd (upd (QF128 p0.toNatClampNeg) 4 z150) 11 z148) (va_up (QA129 p0.toNatClampNeg) 19 (upd ((QA129 p0.toNatClampNeg) 19) (10 : Int32).toNatClampNeg z2)) (fun _ _ => none)) (ps' := [wd_Mo cs mo mr (fun _ => none) mf md (gMo PG hq), fm 8 (fPg cs PG), fo 13 (fPr cs hq qr QO127 QF128 QA129) p0.toNatClampNeg, wd_Mpr cs (hq p0.toNatClampNeg) (qr p0.toNatClampNeg) (fun _ => QO127 p0.toNatClampNeg) (upd (upd (QF128 p0.toNatClampNeg) 4 z150) 11 z148) (va_up (QA129 p0.toNatClampNeg) 19 (upd ((QA129 p0.toNatClampNeg) 19) (10 : Int32).toNatClampNeg z2)) (fun _ _ => none)]) rfl rfl (fun H locs hw => ?_)
            refine lv_iload S.x S.b d_Mo_rawCall_341 (lv_at hl 0 rfl) ?_
            have hw := fpr_in (pr := [wd_Mo cs mo mr (fun _ => none) mf md (gMo PG hq), fm 8 (fPg cs PG)]) hw hi137
            obtain ⟨QO151, hu_QO151⟩ : ∃ y : Nat → Option Nat, y = va_up QO127 p0.toNatClampNeg ((fun _ => QO127 p0.toNatClampNeg) 0) := ⟨_, rfl⟩
            obtain ⟨QF152, hu_QF152⟩ : ∃ y : Nat → Nat → Int32, y = va_up QF128 p0.toNatClampNeg (upd (upd (QF128 p0.toNatClampNeg) 4 z150) 11 z148) := ⟨_, rfl⟩
            obtain ⟨QA153, hu_QA153⟩ : ∃ y : Nat → Nat → Nat → Int32, y = va_up QA129 p0.toNatClampNeg (va_up (QA129 p0.toNatClampNeg) 19 (upd ((QA129 p0.toNatClampNeg) 19) (10 : Int32).toNatClampNeg z2)) := ⟨_, rfl⟩
            have hw : pw D A s.heap _ _ [wd_Mo cs mo mr (fun _ => none) mf md (gMo PG hq), fm 8 (fPg cs PG), fm 13 (fPr cs hq qr QO151 QF152 QA153)] := (by rw [hu_QO151, hu_QF152, hu_QA153]; exact hw)
            have hpr : PrA PG (va_up RR p0.toNatClampNeg (RR p0.toNatClampNeg - v131.toInt)) QO151 QF152 QA153 := (by rw [hu_QO151, hu_QF152, hu_QA153]; exact PrA.upR hpr (psr_raw (j := j9) hj9 hqo h66 (show (0 ≤ ((QF128 p0.toNatClampNeg) 1).toInt ∧ ((QF128 p0.toNatClampNeg) 1).toInt ≤ 1) ∧ (0 ≤ ((QF128 p0.toNatClampNeg) 21).toInt ∧ ((QF128 p0.toNatClampNeg) 21).toInt ≤ 4) ∧ (0 ≤ ((QF128 p0.toNatClampNeg) 23).toInt ∧ ((QF128 p0.toNatClampNeg) 23).toInt ≤ 4) ∧ (0 ≤ ((QF128 p0.toNatClampNeg) 24).toInt ∧ ((QF128 p0.toNatClampNeg) 24).toInt ≤ 1000000) ∧ (0 ≤ ((QF128 p0.toNatClampNeg) 6).toInt ∧ ((QF128 p0.toNatClampNeg) 6).toInt ≤ 3) ∧ (0 ≤ ((QF128 p0.toNatClampNeg) 7).toInt ∧ ((QF128 p0.toNatClampNeg) 7).toInt ≤ 1) from by first | with_reducible rfl | with_reducible assumption | omega) (show ((QF128 p0.toNatClampNeg) 1).toInt = 1 from by first | with_reducible rfl | with_reducible assumption | omega) (show 0 ≤ z150.toInt ∧ z150.toInt + 1 ≤ RR p0.toNatClampNeg - v131.toInt ∧ ((QF128 p0.toNatClampNeg) 24).toInt + z150.toInt ≤ 1600 from by first | with_reducible rfl | with_reducible assumption | omega)) (show ((QF128 p0.toNatClampNeg) 1).toInt = (QF128 p0.toNatClampNeg 1).toInt from by first | exact oz_507c05ca68 | omega) (show (QF128 p0.toNatClampNeg 6).toInt ≤ ((QF128 p0.toNatClampNeg) 6).toInt from by first | exact oz_1cb5f934a5 | omega))
            have hqo : OqE (QO151 p0.toNatClampNeg) (PG j9).h := (by rw [hu_QO151, va_up_s]; exact hqo)
            have hqk1_QF152 : (QF152 p0.toNatClampNeg 1).toInt = ((QF128 p0.toNatClampNeg) 1).toInt := (by rw [hu_QF152, va_up_s]; try rfl)
            have hqk2_QF152 : (QF152 p0.toNatClampNeg 2).toInt = ((QF128 p0.toNatClampNeg) 2).toInt := (by rw [hu_QF152, va_up_s]; try rfl)
            have hqk4_QF152 : (QF152 p0.toNatClampNeg 4).toInt = z150.toInt := (by rw [hu_QF152, va_up_s]; try rfl)
            have hqk24_QF152 : (QF152 p0.toNatClampNeg 24).toInt = ((QF128 p0.toNatClampNeg) 24).toInt := (by rw [hu_QF152, va_up_s]; try rfl)
            have hw : pw D A s.heap _ _ [wd_Mo cs mo mr (fun _ => none) mf md (gMo PG hq), fm 13 (fPr cs hq qr QO151 QF152 QA153), fm 8 (fPg cs PG)] := hw.sub [0, 2, 1] rfl rfl
            exact px_iret (v := v131) S hr (z_nar (by omega)) hlk hAe hw (Nat.le_of_ble_eq_true rfl) (Nat.le_of_ble_eq_true rfl) (⟨mf, md, QO151, QF152, QA153, rfl, (show 0 ≤ v131.toInt from by first | exact e134 | omega), (show v131.toInt ≤ 1 from by first | exact e135 | omega), (show PrA PG (va_up RR p0.toNatClampNeg (RR p0.toNatClampNeg - v131.toInt)) QO151 QF152 QA153 from hpr), (show (mf 0).toInt = (mf 0).toInt from rfl), (show (mf 2).toInt = (mf 2).toInt from rfl), (show (mf 3).toInt = (mf 3).toInt from rfl), (show (mf 7).toInt = (mf 7).toInt from rfl), (show (mf 8).toInt = (mf 8).toInt from rfl), (show (mf 10).toInt = (mf 10).toInt from rfl)⟩) d_Mo_rawCall_343
          · exact absurd c146 (by decide)
    · simp only [List.mem_cons, List.not_mem_nil, or_false] at c43
      refine lv_aload_n S.x S.b d_Mo_rawCall_162 rfl (lv_at hl 5 rfl) ?_
      refine lv_iload_n S.x S.b d_Mo_rawCall_163 rfl (lv_at hl 6 rfl) ?_
      refine lv_iload_n S.x S.b d_Mo_rawCall_164 rfl (lv_at hl 3 rfl) ?_
      have hw : pw D A s.heap _ _ [wd_Mo cs mo mr (fun _ => none) mf md (gMo PG hq), fm 8 (fPg cs PG), fm 13 (fPr cs hq qr QO QF QA)] := fm_back (pr := [wd_Mo cs mo mr (fun _ => none) mf md (gMo PG hq), fm 8 (fPg cs PG)]) (T := fPr cs hq qr QO QF QA) hw hi1
      have hw : pw D A s.heap _ _ [wd_Mo cs mo mr (fun _ => none) mf md (gMo PG hq), fm 13 (fPr cs hq qr QO QF QA), fm 8 (fPg cs PG)] := hw.sub [0, 2, 1] rfl rfl
      refine px_calli (pr := []) (px_runV (As := [.int p0, .int z2]) (rest := []) S (c_mo_receives l D cs RR mo mr md mf hq qr QO QF QA PG p0 z2  (show 0 ≤ p0.toInt from by first | exact g0 | omega) (show p0.toInt < 13 from by first | exact g1 | omega) hpr hpg _) hT (pr := []) (pcs := [wd_Mo cs mo mr (fun _ => none) mf md (gMo PG hq), fm 13 (fPr cs hq qr QO QF QA), fm 8 (fPg cs PG)]) hw px_X.tt (px_recv hT hw 0 0 rfl rfl rfl) m14_66 m14_63 m14_65 ms_16_1 m1_20 q_Mo_receives ⟨Nat.le_of_ble_eq_true rfl, Nat.le_of_ble_eq_true rfl⟩ hl.1 rfl (Nat.le_of_ble_eq_true rfl) d_Mo_rawCall_165 ⟨Nat.le_of_ble_eq_true rfl, Nat.le_of_ble_eq_true rfl⟩) hw hA (fun v163 p162 H locs hp162 hw => ?_)
      obtain ⟨mf158, QO159, QF160, QA161, rfl, e164, e165, e166, e167, e168, e169, e170, e171, e172, e173⟩ := hp162
      replace e164 : PrA PG RR QO159 QF160 QA161 := e164
      have hpr := e164
      replace e165 : KpP QO QF QA QO159 QF160 QA161 p0.toNatClampNeg := e165
      have hkw : KpW QO QF QO159 QF160 p0.toNatClampNeg := ⟨(e165.1).trans hkw.1, hkw.2.tr e165.2.1⟩
      have hqo : OqE (QO159 p0.toNatClampNeg) (PG j9).h := hkw.1.trans hqoE
      have hkf := hkw.2
      unfold KpF at hkf
      replace e166 : (mf158 0).toInt = (mf 0).toInt := e166
      replace e167 : (mf158 2).toInt = (mf 2).toInt := e167
      replace e168 : (mf158 3).toInt = (mf 3).toInt := e168
      replace e169 : (mf158 7).toInt = (mf 7).toInt := e169
      replace e170 : (mf158 8).toInt = (mf 8).toInt := e170
      replace e171 : (mf158 10).toInt = (mf 10).toInt := e171
      replace e172 : 0 ≤ v163.toInt := e172
      replace e173 : v163.toInt ≤ 1 := e173
      replace hw : pw D A s.heap H locs [wd_Mo cs mo mr (fun _ => none) mf158 md (gMo PG hq), fm 13 (fPr cs hq qr QO159 QF160 QA161), fm 8 (fPg cs PG)] := hw
      have lv163 := Int32.le_toInt v163
      have uv163 := Int32.toInt_lt v163
      refine lv_istore (lv' := [(5, .int v163), (6, .int 0), (4, .int z3), (3, .int z2), (2, .ref (hq p0.toNatClampNeg)), (0, .ref mo), (1, .int p0)]) S.x S.b d_Mo_rawCall_168 hl (by decide) rfl (fun ls hl => ?_)
      refine lv_iconst (v := 1) S.x S.b d_Mo_rawCall_170 (by decide) ?_
      refine lv_istore (lv' := [(6, .int 1), (5, .int v163), (4, .int z3), (3, .int z2), (2, .ref (hq p0.toNatClampNeg)), (0, .ref mo), (1, .int p0)]) S.x S.b d_Mo_rawCall_171 hl (by decide) rfl (fun ls hl => ?_)
      refine lv_goto (tgt := 289) S.x S.b d_Mo_rawCall_173 (by decide) ?_
      refine lv_iload S.x S.b d_Mo_rawCall_289 (lv_at hl 1 rfl) ?_
      refine lv_if_eq (tgt := 341) S.x S.b d_Mo_rawCall_291 (by decide) (fun c174 => ?_) (fun c174 => ?_)
      · have nc174 : v163.toInt = (0 : Int) := (i_eq (x := v163) (y := 0)).mp c174
        refine lv_iload S.x S.b d_Mo_rawCall_341 (lv_at hl 1 rfl) ?_
        exact px_iret (v := v163) S hr (z_nar (by omega)) hlk hAe hw (Nat.le_of_ble_eq_true rfl) (Nat.le_of_ble_eq_true rfl) (⟨mf158, md, QO159, QF160, QA161, rfl, (show 0 ≤ v163.toInt from by first | exact e172 | omega), (show v163.toInt ≤ 1 from by first | exact e173 | omega), (show PrA PG (va_up RR p0.toNatClampNeg (RR p0.toNatClampNeg - v163.toInt)) QO159 QF160 QA161 from (hpr.rs (by omega))), (show (mf158 0).toInt = (mf 0).toInt from by first | exact e166 | omega), (show (mf158 2).toInt = (mf 2).toInt from by first | exact e167 | omega), (show (mf158 3).toInt = (mf 3).toInt from by first | exact e168 | omega), (show (mf158 7).toInt = (mf 7).toInt from by first | exact e169 | omega), (show (mf158 8).toInt = (mf 8).toInt from by first | exact e170 | omega), (show (mf158 10).toInt = (mf 10).toInt from by first | exact e171 | omega)⟩) d_Mo_rawCall_343
      · have nc174 : ¬ v163.toInt = (0 : Int) := mt (i_eq (x := v163) (y := 0)).mpr c174
        refine lv_aload_n S.x S.b d_Mo_rawCall_294 rfl (lv_at hl 4 rfl) ?_
        have hw : pw D A s.heap _ _ [wd_Mo cs mo mr (fun _ => none) mf158 md (gMo PG hq), fm 8 (fPg cs PG), fm 13 (fPr cs hq qr QO159 QF160 QA161)] := hw.sub [0, 2, 1] rfl rfl
        have hc175 := cl_nat (x := p0) (by first | exact g0 | omega)
        have hi175 : p0.toNatClampNeg < 13 := by first | exact hi1 | omega
        have hw : pw D A s.heap _ _ [wd_Mo cs mo mr (fun _ => none) mf158 md (gMo PG hq), fm 8 (fPg cs PG), fo 13 (fPr cs hq qr QO159 QF160 QA161) p0.toNatClampNeg, wd_Mpr cs (hq p0.toNatClampNeg) (qr p0.toNatClampNeg) (fun _ => QO159 p0.toNatClampNeg) (QF160 p0.toNatClampNeg) (QA161 p0.toNatClampNeg) (fun _ _ => none)] := fm_out (pr := [wd_Mo cs mo mr (fun _ => none) mf158 md (gMo PG hq), fm 8 (fPg cs PG)]) (T := fPr cs hq qr QO159 QF160 QA161) hw hi175
        have hps175 := hpr.1 p0.toNatClampNeg hi175
        have hpb175 := hps175.1
        unfold PsB at hpb175
        refine px_calli (pr := [wd_Mo cs mo mr (fun _ => none) mf158 md (gMo PG hq), fm 8 (fPg cs PG), fo 13 (fPr cs hq qr QO159 QF160 QA161) p0.toNatClampNeg]) (px_runV (As := []) (rest := []) S (c_mq_isGoing l D cs (hq p0.toNatClampNeg) (qr p0.toNatClampNeg) (fun _ _ => none) (fun _ => QO159 p0.toNatClampNeg) (QF160 p0.toNatClampNeg) (QA161 p0.toNatClampNeg)    _) hT (pr := [wd_Mo cs mo mr (fun _ => none) mf158 md (gMo PG hq), fm 8 (fPg cs PG), fo 13 (fPr cs hq qr QO159 QF160 QA161) p0.toNatClampNeg]) (pcs := [wd_Mpr cs (hq p0.toNatClampNeg) (qr p0.toNatClampNeg) (fun _ => QO159 p0.toNatClampNeg) (QF160 p0.toNatClampNeg) (QA161 p0.toNatClampNeg) (fun _ _ => none)]) hw px_X.tt (px_recv hT hw 3 0 rfl rfl rfl) m13_165 m13_162 m13_163 m13_164 m1_22 q_Mpr_isGoing ⟨Nat.le_of_ble_eq_true rfl, Nat.le_of_ble_eq_true rfl⟩ hl.1 rfl (Nat.le_of_ble_eq_true rfl) d_Mo_rawCall_295 ⟨Nat.le_of_ble_eq_true rfl, Nat.le_of_ble_eq_true rfl⟩) hw hA (fun v177 p176 H locs hp176 hw => ?_)
        obtain ⟨rfl, e178, e179, e180, e181, e182⟩ := hp176
        replace e178 : 0 ≤ v177.toInt := e178
        replace e179 : v177.toInt ≤ 1 := e179
        replace e180 : v177.toInt = 1 → ((QF160 p0.toNatClampNeg) 1).toInt ≠ 0 := e180
        replace e181 : v177.toInt = 1 → ((QF160 p0.toNatClampNeg) 2).toInt = -2 := e181
        replace e182 : ((QF160 p0.toNatClampNeg) 1).toInt ≠ 0 → ((QF160 p0.toNatClampNeg) 2).toInt = -2 → v177.toInt = 1 := e182
        replace hw : pw D A s.heap H locs [wd_Mo cs mo mr (fun _ => none) mf158 md (gMo PG hq), fm 8 (fPg cs PG), fo 13 (fPr cs hq qr QO159 QF160 QA161) p0.toNatClampNeg, wd_Mpr cs (hq p0.toNatClampNeg) (qr p0.toNatClampNeg) (fun _ => QO159 p0.toNatClampNeg) (QF160 p0.toNatClampNeg) (QA161 p0.toNatClampNeg) (fun _ _ => none)] := hw
        have lv177 := Int32.le_toInt v177
        have uv177 := Int32.toInt_lt v177
        refine lv_if_eq (tgt := 341) S.x S.b d_Mo_rawCall_298 (by decide) (fun c183 => ?_) (fun c183 => ?_)
        · have nc183 : v177.toInt = (0 : Int) := (i_eq (x := v177) (y := 0)).mp c183
          refine lv_iload S.x S.b d_Mo_rawCall_341 (lv_at hl 1 rfl) ?_
          have hw : pw D A s.heap _ _ [wd_Mo cs mo mr (fun _ => none) mf158 md (gMo PG hq), fm 8 (fPg cs PG), fm 13 (fPr cs hq qr QO159 QF160 QA161)] := fm_back (pr := [wd_Mo cs mo mr (fun _ => none) mf158 md (gMo PG hq), fm 8 (fPg cs PG)]) (T := fPr cs hq qr QO159 QF160 QA161) hw hi175
          have hw : pw D A s.heap _ _ [wd_Mo cs mo mr (fun _ => none) mf158 md (gMo PG hq), fm 13 (fPr cs hq qr QO159 QF160 QA161), fm 8 (fPg cs PG)] := hw.sub [0, 2, 1] rfl rfl
          exact px_iret (v := v163) S hr (z_nar (by omega)) hlk hAe hw (Nat.le_of_ble_eq_true rfl) (Nat.le_of_ble_eq_true rfl) (⟨mf158, md, QO159, QF160, QA161, rfl, (show 0 ≤ v163.toInt from by first | exact e172 | omega), (show v163.toInt ≤ 1 from by first | exact e173 | omega), (show PrA PG (va_up RR p0.toNatClampNeg (RR p0.toNatClampNeg - v163.toInt)) QO159 QF160 QA161 from (hpr.low (by omega) (by omega) (by omega) (by have q9 := cl_nat (x := p0) (by first | exact g0 | omega); omega))), (show (mf158 0).toInt = (mf 0).toInt from by first | exact e166 | omega), (show (mf158 2).toInt = (mf 2).toInt from by first | exact e167 | omega), (show (mf158 3).toInt = (mf 3).toInt from by first | exact e168 | omega), (show (mf158 7).toInt = (mf 7).toInt from by first | exact e169 | omega), (show (mf158 8).toInt = (mf 8).toInt from by first | exact e170 | omega), (show (mf158 10).toInt = (mf 10).toInt from by first | exact e171 | omega)⟩) d_Mo_rawCall_343
        · have nc183 : ¬ v177.toInt = (0 : Int) := mt (i_eq (x := v177) (y := 0)).mpr c183
          refine lv_aload_n S.x S.b d_Mo_rawCall_301 rfl (lv_at hl 4 rfl) ?_
          refine px_get S k_Mpr hT hw 3 0 19 (v := .ref ((qr p0.toNatClampNeg) 19)) rfl rfl rfl (by decide) m11_12 d_Mo_rawCall_302 ?_
          refine lv_bipush (v := 10) S.x S.b d_Mo_rawCall_305 (by decide) ?_
          refine lv_iload S.x S.b d_Mo_rawCall_307 (lv_at hl 0 rfl) ?_
          refine lv_if_eq (tgt := 319) S.x S.b d_Mo_rawCall_309 (by decide) (fun c184 => ?_) (fun c184 => ?_)
          · exact absurd c184 (by decide)
          ·
            refine lv_aload_n S.x S.b d_Mo_rawCall_312 rfl (lv_at hl 5 rfl) ?_
            refine px_get S k_Mo hT hw 0 0 9 (v := .int (mf158 9)) rfl rfl rfl (by decide) m11_87 d_Mo_rawCall_313 ?_
            refine lv_goto (tgt := 320) S.x S.b d_Mo_rawCall_316 (by decide) ?_
            refine px_iast S hT hw 3 7 (n := 32) (f := ((QA161 p0.toNatClampNeg) 19)) (x := 10) (y := (mf158 9)) rfl (ga_Mpr_19 _ _ _ _ _ _ _) (vp_in_iff.mpr (by constructor <;> omega)) d_Mo_rawCall_320 (w' := wd_Mpr cs (hq p0.toNatClampNeg) (qr p0.toNatClampNeg) (fun _ => QO159 p0.toNatClampNeg) (QF160 p0.toNatClampNeg) (va_up (QA161 p0.toNatClampNeg) 19 (upd ((QA161 p0.toNatClampNeg) 19) (10 : Int32).toNatClampNeg (mf158 9))) (fun _ _ => none)) (ps' := [wd_Mo cs mo mr (fun _ => none) mf158 md (gMo PG hq), fm 8 (fPg cs PG), fo 13 (fPr cs hq qr QO159 QF160 QA161) p0.toNatClampNeg, wd_Mpr cs (hq p0.toNatClampNeg) (qr p0.toNatClampNeg) (fun _ => QO159 p0.toNatClampNeg) (QF160 p0.toNatClampNeg) (va_up (QA161 p0.toNatClampNeg) 19 (upd ((QA161 p0.toNatClampNeg) 19) (10 : Int32).toNatClampNeg (mf158 9))) (fun _ _ => none)]) (sa_Mpr_19 _ _ _ _ _ _ _ _) rfl (fun H locs hw => ?_)
            refine lv_aload_n S.x S.b d_Mo_rawCall_321 rfl (lv_at hl 4 rfl) ?_
            refine lv_aload_n S.x S.b d_Mo_rawCall_322 rfl (lv_at hl 4 rfl) ?_
            refine px_get S k_Mpr hT hw 3 0 11 (v := .int ((QF160 p0.toNatClampNeg) 11)) rfl rfl rfl (by decide) m11_3 d_Mo_rawCall_323 ?_
            refine lv_iconst (v := 4) S.x S.b d_Mo_rawCall_326 (by decide) ?_
            refine lv_iadd S.x S.b d_Mo_rawCall_327 ?_
            have lr185 := Int32.le_toInt ((QF160 p0.toNatClampNeg) 11)
            have ur185 := Int32.toInt_lt ((QF160 p0.toNatClampNeg) 11)
            refine lv_topi (fun z186 ez186 => ?_)
            have tz186 : z186.toInt = (((QF160 p0.toNatClampNeg) 11).toInt + (4 : Int) + 2147483648) % 4294967296 - 2147483648 := by rw [ez186]; exact i_add ((QF160 p0.toNatClampNeg) 11) 4
            have lz186 := Int32.le_toInt z186
            have uz186 := Int32.toInt_lt z186
            try replace tz186 : z186.toInt = ((QF160 p0.toNatClampNeg) 11).toInt + (4 : Int) := by omega
            refine px_put S k_Mpr hT hw 3 0 11 rfl rfl (by decide) m11_3 rfl rfl rfl (Nat.le_of_ble_eq_true rfl) d_Mo_rawCall_328 (w' := wd_Mpr cs (hq p0.toNatClampNeg) (qr p0.toNatClampNeg) (fun _ => QO159 p0.toNatClampNeg) (upd (QF160 p0.toNatClampNeg) 11 z186) (va_up (QA161 p0.toNatClampNeg) 19 (upd ((QA161 p0.toNatClampNeg) 19) (10 : Int32).toNatClampNeg (mf158 9))) (fun _ _ => none)) (ps' := [wd_Mo cs mo mr (fun _ => none) mf158 md (gMo PG hq), fm 8 (fPg cs PG), fo 13 (fPr cs hq qr QO159 QF160 QA161) p0.toNatClampNeg, wd_Mpr cs (hq p0.toNatClampNeg) (qr p0.toNatClampNeg) (fun _ => QO159 p0.toNatClampNeg) (upd (QF160 p0.toNatClampNeg) 11 z186) (va_up (QA161 p0.toNatClampNeg) 19 (upd ((QA161 p0.toNatClampNeg) 19) (10 : Int32).toNatClampNeg (mf158 9))) (fun _ _ => none)]) rfl rfl (fun H locs hw => ?_)
            refine lv_aload_n S.x S.b d_Mo_rawCall_331 rfl (lv_at hl 4 rfl) ?_
            refine lv_dup S.x S.b d_Mo_rawCall_332 rfl ?_
            refine px_get S k_Mpr hT hw 3 0 4 (v := .int ((QF160 p0.toNatClampNeg) 4)) rfl rfl rfl (by decide) m10_230 d_Mo_rawCall_333 ?_
            refine lv_iconst (v := 1) S.x S.b d_Mo_rawCall_336 (by decide) ?_
            refine lv_isub S.x S.b d_Mo_rawCall_337 ?_
            have lr187 := Int32.le_toInt ((QF160 p0.toNatClampNeg) 4)
            have ur187 := Int32.toInt_lt ((QF160 p0.toNatClampNeg) 4)
            refine lv_topi (fun z188 ez188 => ?_)
            have tz188 : z188.toInt = (((QF160 p0.toNatClampNeg) 4).toInt - (1 : Int) + 2147483648) % 4294967296 - 2147483648 := by rw [ez188]; exact i_sub ((QF160 p0.toNatClampNeg) 4) 1
            have lz188 := Int32.le_toInt z188
            have uz188 := Int32.toInt_lt z188
            try replace tz188 : z188.toInt = ((QF160 p0.toNatClampNeg) 4).toInt - (1 : Int) := by omega
            refine px_put S k_Mpr hT hw 3 0 4 rfl rfl (by decide) m10_230 rfl rfl rfl (Nat.le_of_ble_eq_true rfl) d_Mo_rawCall_338 (w' := wd_Mpr cs (hq p0.toNatClampNeg) (qr p0.toNatClampNeg) (fun _ => QO159 p0.toNatClampNeg) (upd (upd (QF160 p0.toNatClampNeg) 4 z188) 11 z186) (va_up (QA161 p0.toNatClampNeg) 19 (upd ((QA161 p0.toNatClampNeg) 19) (10 : Int32).toNatClampNeg (mf158 9))) (fun _ _ => none)) (ps' := [wd_Mo cs mo mr (fun _ => none) mf158 md (gMo PG hq), fm 8 (fPg cs PG), fo 13 (fPr cs hq qr QO159 QF160 QA161) p0.toNatClampNeg, wd_Mpr cs (hq p0.toNatClampNeg) (qr p0.toNatClampNeg) (fun _ => QO159 p0.toNatClampNeg) (upd (upd (QF160 p0.toNatClampNeg) 4 z188) 11 z186) (va_up (QA161 p0.toNatClampNeg) 19 (upd ((QA161 p0.toNatClampNeg) 19) (10 : Int32).toNatClampNeg (mf158 9))) (fun _ _ => none)]) rfl rfl (fun H locs hw => ?_)
            refine lv_iload S.x S.b d_Mo_rawCall_341 (lv_at hl 1 rfl) ?_
            have hw := fpr_in (pr := [wd_Mo cs mo mr (fun _ => none) mf158 md (gMo PG hq), fm 8 (fPg cs PG)]) hw hi175
            obtain ⟨QO189, hu_QO189⟩ : ∃ y : Nat → Option Nat, y = va_up QO159 p0.toNatClampNeg ((fun _ => QO159 p0.toNatClampNeg) 0) := ⟨_, rfl⟩
            obtain ⟨QF190, hu_QF190⟩ : ∃ y : Nat → Nat → Int32, y = va_up QF160 p0.toNatClampNeg (upd (upd (QF160 p0.toNatClampNeg) 4 z188) 11 z186) := ⟨_, rfl⟩
            obtain ⟨QA191, hu_QA191⟩ : ∃ y : Nat → Nat → Nat → Int32, y = va_up QA161 p0.toNatClampNeg (va_up (QA161 p0.toNatClampNeg) 19 (upd ((QA161 p0.toNatClampNeg) 19) (10 : Int32).toNatClampNeg (mf158 9))) := ⟨_, rfl⟩
            have hw : pw D A s.heap _ _ [wd_Mo cs mo mr (fun _ => none) mf158 md (gMo PG hq), fm 8 (fPg cs PG), fm 13 (fPr cs hq qr QO189 QF190 QA191)] := (by rw [hu_QO189, hu_QF190, hu_QA191]; exact hw)
            have hpr : PrA PG (va_up RR p0.toNatClampNeg (RR p0.toNatClampNeg - v163.toInt)) QO189 QF190 QA191 := (by rw [hu_QO189, hu_QF190, hu_QA191]; exact PrA.upR hpr (psr_raw (j := j9) hj9 hqo h66 (show (0 ≤ ((QF160 p0.toNatClampNeg) 1).toInt ∧ ((QF160 p0.toNatClampNeg) 1).toInt ≤ 1) ∧ (0 ≤ ((QF160 p0.toNatClampNeg) 21).toInt ∧ ((QF160 p0.toNatClampNeg) 21).toInt ≤ 4) ∧ (0 ≤ ((QF160 p0.toNatClampNeg) 23).toInt ∧ ((QF160 p0.toNatClampNeg) 23).toInt ≤ 4) ∧ (0 ≤ ((QF160 p0.toNatClampNeg) 24).toInt ∧ ((QF160 p0.toNatClampNeg) 24).toInt ≤ 1000000) ∧ (0 ≤ ((QF160 p0.toNatClampNeg) 6).toInt ∧ ((QF160 p0.toNatClampNeg) 6).toInt ≤ 3) ∧ (0 ≤ ((QF160 p0.toNatClampNeg) 7).toInt ∧ ((QF160 p0.toNatClampNeg) 7).toInt ≤ 1) from by first | with_reducible rfl | with_reducible assumption | omega) (show ((QF160 p0.toNatClampNeg) 1).toInt = 1 from by first | with_reducible rfl | with_reducible assumption | omega) (show 0 ≤ z188.toInt ∧ z188.toInt + 1 ≤ RR p0.toNatClampNeg - v163.toInt ∧ ((QF160 p0.toNatClampNeg) 24).toInt + z188.toInt ≤ 1600 from by first | with_reducible rfl | with_reducible assumption | omega)) (show ((QF160 p0.toNatClampNeg) 1).toInt = (QF160 p0.toNatClampNeg 1).toInt from by first | exact oz_507c05ca68 | omega) (show (QF160 p0.toNatClampNeg 6).toInt ≤ ((QF160 p0.toNatClampNeg) 6).toInt from by first | exact oz_1cb5f934a5 | omega))
            have hqo : OqE (QO189 p0.toNatClampNeg) (PG j9).h := (by rw [hu_QO189, va_up_s]; exact hqo)
            have hqk1_QF190 : (QF190 p0.toNatClampNeg 1).toInt = ((QF160 p0.toNatClampNeg) 1).toInt := (by rw [hu_QF190, va_up_s]; try rfl)
            have hqk2_QF190 : (QF190 p0.toNatClampNeg 2).toInt = ((QF160 p0.toNatClampNeg) 2).toInt := (by rw [hu_QF190, va_up_s]; try rfl)
            have hqk4_QF190 : (QF190 p0.toNatClampNeg 4).toInt = z188.toInt := (by rw [hu_QF190, va_up_s]; try rfl)
            have hqk24_QF190 : (QF190 p0.toNatClampNeg 24).toInt = ((QF160 p0.toNatClampNeg) 24).toInt := (by rw [hu_QF190, va_up_s]; try rfl)
            have hw : pw D A s.heap _ _ [wd_Mo cs mo mr (fun _ => none) mf158 md (gMo PG hq), fm 13 (fPr cs hq qr QO189 QF190 QA191), fm 8 (fPg cs PG)] := hw.sub [0, 2, 1] rfl rfl
            exact px_iret (v := v163) S hr (z_nar (by omega)) hlk hAe hw (Nat.le_of_ble_eq_true rfl) (Nat.le_of_ble_eq_true rfl) (⟨mf158, md, QO189, QF190, QA191, rfl, (show 0 ≤ v163.toInt from by first | exact e172 | omega), (show v163.toInt ≤ 1 from by first | exact e173 | omega), (show PrA PG (va_up RR p0.toNatClampNeg (RR p0.toNatClampNeg - v163.toInt)) QO189 QF190 QA191 from hpr), (show (mf158 0).toInt = (mf 0).toInt from by first | exact e166 | omega), (show (mf158 2).toInt = (mf 2).toInt from by first | exact e167 | omega), (show (mf158 3).toInt = (mf 3).toInt from by first | exact e168 | omega), (show (mf158 7).toInt = (mf 7).toInt from by first | exact e169 | omega), (show (mf158 8).toInt = (mf 8).toInt from by first | exact e170 | omega), (show (mf158 10).toInt = (mf 10).toInt from by first | exact e171 | omega)⟩) d_Mo_rawCall_343
    · simp only [List.mem_cons, List.not_mem_nil, or_false] at c43
      refine lv_aload_n S.x S.b d_Mo_rawCall_176 rfl (lv_at hl 5 rfl) ?_
      refine lv_iload_n S.x S.b d_Mo_rawCall_177 rfl (lv_at hl 6 rfl) ?_
      refine lv_iload_n S.x S.b d_Mo_rawCall_178 rfl (lv_at hl 3 rfl) ?_
      have hw : pw D A s.heap _ _ [wd_Mo cs mo mr (fun _ => none) mf md (gMo PG hq), fm 8 (fPg cs PG), fm 13 (fPr cs hq qr QO QF QA)] := fm_back (pr := [wd_Mo cs mo mr (fun _ => none) mf md (gMo PG hq), fm 8 (fPg cs PG)]) (T := fPr cs hq qr QO QF QA) hw hi1
      have hw : pw D A s.heap _ _ [wd_Mo cs mo mr (fun _ => none) mf md (gMo PG hq), fm 13 (fPr cs hq qr QO QF QA), fm 8 (fPg cs PG)] := hw.sub [0, 2, 1] rfl rfl
      refine px_calli (pr := []) (px_runV (As := [.int p0, .int z2]) (rest := []) S (c_mo_asksMore l D cs RR mo mr md mf hq qr QO QF QA PG p0 z2  (show 0 ≤ p0.toInt from by first | exact g0 | omega) (show p0.toInt < 13 from by first | exact g1 | omega) hpr hpg _) hT (pr := []) (pcs := [wd_Mo cs mo mr (fun _ => none) mf md (gMo PG hq), fm 13 (fPr cs hq qr QO QF QA), fm 8 (fPg cs PG)]) hw px_X.tt (px_recv hT hw 0 0 rfl rfl rfl) m14_78 m14_75 m14_77 ms_16_4 m1_20 q_Mo_asksMore ⟨Nat.le_of_ble_eq_true rfl, Nat.le_of_ble_eq_true rfl⟩ hl.1 rfl (Nat.le_of_ble_eq_true rfl) d_Mo_rawCall_179 ⟨Nat.le_of_ble_eq_true rfl, Nat.le_of_ble_eq_true rfl⟩) hw hA (fun v201 p200 H locs hp200 hw => ?_)
      obtain ⟨mf196, QO197, QF198, QA199, rfl, e202, e203, e204, e205, e206, e207, e208, e209, e210, e211⟩ := hp200
      replace e202 : PrA PG RR QO197 QF198 QA199 := e202
      have hpr := e202
      replace e203 : KpP QO QF QA QO197 QF198 QA199 p0.toNatClampNeg := e203
      have hkw : KpW QO QF QO197 QF198 p0.toNatClampNeg := ⟨(e203.1).trans hkw.1, hkw.2.tr e203.2.1⟩
      have hqo : OqE (QO197 p0.toNatClampNeg) (PG j9).h := hkw.1.trans hqoE
      have hkf := hkw.2
      unfold KpF at hkf
      replace e204 : (mf196 0).toInt = (mf 0).toInt := e204
      replace e205 : (mf196 2).toInt = (mf 2).toInt := e205
      replace e206 : (mf196 3).toInt = (mf 3).toInt := e206
      replace e207 : (mf196 7).toInt = (mf 7).toInt := e207
      replace e208 : (mf196 8).toInt = (mf 8).toInt := e208
      replace e209 : (mf196 10).toInt = (mf 10).toInt := e209
      replace e210 : 0 ≤ v201.toInt := e210
      replace e211 : v201.toInt ≤ 1 := e211
      replace hw : pw D A s.heap H locs [wd_Mo cs mo mr (fun _ => none) mf196 md (gMo PG hq), fm 13 (fPr cs hq qr QO197 QF198 QA199), fm 8 (fPg cs PG)] := hw
      have lv201 := Int32.le_toInt v201
      have uv201 := Int32.toInt_lt v201
      refine lv_istore (lv' := [(5, .int v201), (6, .int 0), (4, .int z3), (3, .int z2), (2, .ref (hq p0.toNatClampNeg)), (0, .ref mo), (1, .int p0)]) S.x S.b d_Mo_rawCall_182 hl (by decide) rfl (fun ls hl => ?_)
      refine lv_iconst (v := 1) S.x S.b d_Mo_rawCall_184 (by decide) ?_
      refine lv_istore (lv' := [(6, .int 1), (5, .int v201), (4, .int z3), (3, .int z2), (2, .ref (hq p0.toNatClampNeg)), (0, .ref mo), (1, .int p0)]) S.x S.b d_Mo_rawCall_185 hl (by decide) rfl (fun ls hl => ?_)
      refine lv_goto (tgt := 289) S.x S.b d_Mo_rawCall_187 (by decide) ?_
      refine lv_iload S.x S.b d_Mo_rawCall_289 (lv_at hl 1 rfl) ?_
      refine lv_if_eq (tgt := 341) S.x S.b d_Mo_rawCall_291 (by decide) (fun c212 => ?_) (fun c212 => ?_)
      · have nc212 : v201.toInt = (0 : Int) := (i_eq (x := v201) (y := 0)).mp c212
        refine lv_iload S.x S.b d_Mo_rawCall_341 (lv_at hl 1 rfl) ?_
        exact px_iret (v := v201) S hr (z_nar (by omega)) hlk hAe hw (Nat.le_of_ble_eq_true rfl) (Nat.le_of_ble_eq_true rfl) (⟨mf196, md, QO197, QF198, QA199, rfl, (show 0 ≤ v201.toInt from by first | exact e210 | omega), (show v201.toInt ≤ 1 from by first | exact e211 | omega), (show PrA PG (va_up RR p0.toNatClampNeg (RR p0.toNatClampNeg - v201.toInt)) QO197 QF198 QA199 from (hpr.rs (by omega))), (show (mf196 0).toInt = (mf 0).toInt from by first | exact e204 | omega), (show (mf196 2).toInt = (mf 2).toInt from by first | exact e205 | omega), (show (mf196 3).toInt = (mf 3).toInt from by first | exact e206 | omega), (show (mf196 7).toInt = (mf 7).toInt from by first | exact e207 | omega), (show (mf196 8).toInt = (mf 8).toInt from by first | exact e208 | omega), (show (mf196 10).toInt = (mf 10).toInt from by first | exact e209 | omega)⟩) d_Mo_rawCall_343
      · have nc212 : ¬ v201.toInt = (0 : Int) := mt (i_eq (x := v201) (y := 0)).mpr c212
        refine lv_aload_n S.x S.b d_Mo_rawCall_294 rfl (lv_at hl 4 rfl) ?_
        have hw : pw D A s.heap _ _ [wd_Mo cs mo mr (fun _ => none) mf196 md (gMo PG hq), fm 8 (fPg cs PG), fm 13 (fPr cs hq qr QO197 QF198 QA199)] := hw.sub [0, 2, 1] rfl rfl
        have hc213 := cl_nat (x := p0) (by first | exact g0 | omega)
        have hi213 : p0.toNatClampNeg < 13 := by first | exact hi1 | omega
        have hw : pw D A s.heap _ _ [wd_Mo cs mo mr (fun _ => none) mf196 md (gMo PG hq), fm 8 (fPg cs PG), fo 13 (fPr cs hq qr QO197 QF198 QA199) p0.toNatClampNeg, wd_Mpr cs (hq p0.toNatClampNeg) (qr p0.toNatClampNeg) (fun _ => QO197 p0.toNatClampNeg) (QF198 p0.toNatClampNeg) (QA199 p0.toNatClampNeg) (fun _ _ => none)] := fm_out (pr := [wd_Mo cs mo mr (fun _ => none) mf196 md (gMo PG hq), fm 8 (fPg cs PG)]) (T := fPr cs hq qr QO197 QF198 QA199) hw hi213
        have hps213 := hpr.1 p0.toNatClampNeg hi213
        have hpb213 := hps213.1
        unfold PsB at hpb213
        refine px_calli (pr := [wd_Mo cs mo mr (fun _ => none) mf196 md (gMo PG hq), fm 8 (fPg cs PG), fo 13 (fPr cs hq qr QO197 QF198 QA199) p0.toNatClampNeg]) (px_runV (As := []) (rest := []) S (c_mq_isGoing l D cs (hq p0.toNatClampNeg) (qr p0.toNatClampNeg) (fun _ _ => none) (fun _ => QO197 p0.toNatClampNeg) (QF198 p0.toNatClampNeg) (QA199 p0.toNatClampNeg)    _) hT (pr := [wd_Mo cs mo mr (fun _ => none) mf196 md (gMo PG hq), fm 8 (fPg cs PG), fo 13 (fPr cs hq qr QO197 QF198 QA199) p0.toNatClampNeg]) (pcs := [wd_Mpr cs (hq p0.toNatClampNeg) (qr p0.toNatClampNeg) (fun _ => QO197 p0.toNatClampNeg) (QF198 p0.toNatClampNeg) (QA199 p0.toNatClampNeg) (fun _ _ => none)]) hw px_X.tt (px_recv hT hw 3 0 rfl rfl rfl) m13_165 m13_162 m13_163 m13_164 m1_22 q_Mpr_isGoing ⟨Nat.le_of_ble_eq_true rfl, Nat.le_of_ble_eq_true rfl⟩ hl.1 rfl (Nat.le_of_ble_eq_true rfl) d_Mo_rawCall_295 ⟨Nat.le_of_ble_eq_true rfl, Nat.le_of_ble_eq_true rfl⟩) hw hA (fun v215 p214 H locs hp214 hw => ?_)
        obtain ⟨rfl, e216, e217, e218, e219, e220⟩ := hp214
        replace e216 : 0 ≤ v215.toInt := e216
        replace e217 : v215.toInt ≤ 1 := e217
        replace e218 : v215.toInt = 1 → ((QF198 p0.toNatClampNeg) 1).toInt ≠ 0 := e218
        replace e219 : v215.toInt = 1 → ((QF198 p0.toNatClampNeg) 2).toInt = -2 := e219
        replace e220 : ((QF198 p0.toNatClampNeg) 1).toInt ≠ 0 → ((QF198 p0.toNatClampNeg) 2).toInt = -2 → v215.toInt = 1 := e220
        replace hw : pw D A s.heap H locs [wd_Mo cs mo mr (fun _ => none) mf196 md (gMo PG hq), fm 8 (fPg cs PG), fo 13 (fPr cs hq qr QO197 QF198 QA199) p0.toNatClampNeg, wd_Mpr cs (hq p0.toNatClampNeg) (qr p0.toNatClampNeg) (fun _ => QO197 p0.toNatClampNeg) (QF198 p0.toNatClampNeg) (QA199 p0.toNatClampNeg) (fun _ _ => none)] := hw
        have lv215 := Int32.le_toInt v215
        have uv215 := Int32.toInt_lt v215
        refine lv_if_eq (tgt := 341) S.x S.b d_Mo_rawCall_298 (by decide) (fun c221 => ?_) (fun c221 => ?_)
        · have nc221 : v215.toInt = (0 : Int) := (i_eq (x := v215) (y := 0)).mp c221
          refine lv_iload S.x S.b d_Mo_rawCall_341 (lv_at hl 1 rfl) ?_
          have hw : pw D A s.heap _ _ [wd_Mo cs mo mr (fun _ => none) mf196 md (gMo PG hq), fm 8 (fPg cs PG), fm 13 (fPr cs hq qr QO197 QF198 QA199)] := fm_back (pr := [wd_Mo cs mo mr (fun _ => none) mf196 md (gMo PG hq), fm 8 (fPg cs PG)]) (T := fPr cs hq qr QO197 QF198 QA199) hw hi213
          have hw : pw D A s.heap _ _ [wd_Mo cs mo mr (fun _ => none) mf196 md (gMo PG hq), fm 13 (fPr cs hq qr QO197 QF198 QA199), fm 8 (fPg cs PG)] := hw.sub [0, 2, 1] rfl rfl
          exact px_iret (v := v201) S hr (z_nar (by omega)) hlk hAe hw (Nat.le_of_ble_eq_true rfl) (Nat.le_of_ble_eq_true rfl) (⟨mf196, md, QO197, QF198, QA199, rfl, (show 0 ≤ v201.toInt from by first | exact e210 | omega), (show v201.toInt ≤ 1 from by first | exact e211 | omega), (show PrA PG (va_up RR p0.toNatClampNeg (RR p0.toNatClampNeg - v201.toInt)) QO197 QF198 QA199 from (hpr.low (by omega) (by omega) (by omega) (by have q9 := cl_nat (x := p0) (by first | exact g0 | omega); omega))), (show (mf196 0).toInt = (mf 0).toInt from by first | exact e204 | omega), (show (mf196 2).toInt = (mf 2).toInt from by first | exact e205 | omega), (show (mf196 3).toInt = (mf 3).toInt from by first | exact e206 | omega), (show (mf196 7).toInt = (mf 7).toInt from by first | exact e207 | omega), (show (mf196 8).toInt = (mf 8).toInt from by first | exact e208 | omega), (show (mf196 10).toInt = (mf 10).toInt from by first | exact e209 | omega)⟩) d_Mo_rawCall_343
        · have nc221 : ¬ v215.toInt = (0 : Int) := mt (i_eq (x := v215) (y := 0)).mpr c221
          refine lv_aload_n S.x S.b d_Mo_rawCall_301 rfl (lv_at hl 4 rfl) ?_
          refine px_get S k_Mpr hT hw 3 0 19 (v := .ref ((qr p0.toNatClampNeg) 19)) rfl rfl rfl (by decide) m11_12 d_Mo_rawCall_302 ?_
          refine lv_bipush (v := 10) S.x S.b d_Mo_rawCall_305 (by decide) ?_
          refine lv_iload S.x S.b d_Mo_rawCall_307 (lv_at hl 0 rfl) ?_
          refine lv_if_eq (tgt := 319) S.x S.b d_Mo_rawCall_309 (by decide) (fun c222 => ?_) (fun c222 => ?_)
          · exact absurd c222 (by decide)
          ·
            refine lv_aload_n S.x S.b d_Mo_rawCall_312 rfl (lv_at hl 5 rfl) ?_
            refine px_get S k_Mo hT hw 0 0 9 (v := .int (mf196 9)) rfl rfl rfl (by decide) m11_87 d_Mo_rawCall_313 ?_
            refine lv_goto (tgt := 320) S.x S.b d_Mo_rawCall_316 (by decide) ?_
            refine px_iast S hT hw 3 7 (n := 32) (f := ((QA199 p0.toNatClampNeg) 19)) (x := 10) (y := (mf196 9)) rfl (ga_Mpr_19 _ _ _ _ _ _ _) (vp_in_iff.mpr (by constructor <;> omega)) d_Mo_rawCall_320 (w' := wd_Mpr cs (hq p0.toNatClampNeg) (qr p0.toNatClampNeg) (fun _ => QO197 p0.toNatClampNeg) (QF198 p0.toNatClampNeg) (va_up (QA199 p0.toNatClampNeg) 19 (upd ((QA199 p0.toNatClampNeg) 19) (10 : Int32).toNatClampNeg (mf196 9))) (fun _ _ => none)) (ps' := [wd_Mo cs mo mr (fun _ => none) mf196 md (gMo PG hq), fm 8 (fPg cs PG), fo 13 (fPr cs hq qr QO197 QF198 QA199) p0.toNatClampNeg, wd_Mpr cs (hq p0.toNatClampNeg) (qr p0.toNatClampNeg) (fun _ => QO197 p0.toNatClampNeg) (QF198 p0.toNatClampNeg) (va_up (QA199 p0.toNatClampNeg) 19 (upd ((QA199 p0.toNatClampNeg) 19) (10 : Int32).toNatClampNeg (mf196 9))) (fun _ _ => none)]) (sa_Mpr_19 _ _ _ _ _ _ _ _) rfl (fun H locs hw => ?_)
            refine lv_aload_n S.x S.b d_Mo_rawCall_321 rfl (lv_at hl 4 rfl) ?_
            refine lv_aload_n S.x S.b d_Mo_rawCall_322 rfl (lv_at hl 4 rfl) ?_
            refine px_get S k_Mpr hT hw 3 0 11 (v := .int ((QF198 p0.toNatClampNeg) 11)) rfl rfl rfl (by decide) m11_3 d_Mo_rawCall_323 ?_
            refine lv_iconst (v := 4) S.x S.b d_Mo_rawCall_326 (by decide) ?_
            refine lv_iadd S.x S.b d_Mo_rawCall_327 ?_
            have lr223 := Int32.le_toInt ((QF198 p0.toNatClampNeg) 11)
            have ur223 := Int32.toInt_lt ((QF198 p0.toNatClampNeg) 11)
            refine lv_topi (fun z224 ez224 => ?_)
            have tz224 : z224.toInt = (((QF198 p0.toNatClampNeg) 11).toInt + (4 : Int) + 2147483648) % 4294967296 - 2147483648 := by rw [ez224]; exact i_add ((QF198 p0.toNatClampNeg) 11) 4
            have lz224 := Int32.le_toInt z224
            have uz224 := Int32.toInt_lt z224
            try replace tz224 : z224.toInt = ((QF198 p0.toNatClampNeg) 11).toInt + (4 : Int) := by omega
            refine px_put S k_Mpr hT hw 3 0 11 rfl rfl (by decide) m11_3 rfl rfl rfl (Nat.le_of_ble_eq_true rfl) d_Mo_rawCall_328 (w' := wd_Mpr cs (hq p0.toNatClampNeg) (qr p0.toNatClampNeg) (fun _ => QO197 p0.toNatClampNeg) (upd (QF198 p0.toNatClampNeg) 11 z224) (va_up (QA199 p0.toNatClampNeg) 19 (upd ((QA199 p0.toNatClampNeg) 19) (10 : Int32).toNatClampNeg (mf196 9))) (fun _ _ => none)) (ps' := [wd_Mo cs mo mr (fun _ => none) mf196 md (gMo PG hq), fm 8 (fPg cs PG), fo 13 (fPr cs hq qr QO197 QF198 QA199) p0.toNatClampNeg, wd_Mpr cs (hq p0.toNatClampNeg) (qr p0.toNatClampNeg) (fun _ => QO197 p0.toNatClampNeg) (upd (QF198 p0.toNatClampNeg) 11 z224) (va_up (QA199 p0.toNatClampNeg) 19 (upd ((QA199 p0.toNatClampNeg) 19) (10 : Int32).toNatClampNeg (mf196 9))) (fun _ _ => none)]) rfl rfl (fun H locs hw => ?_)
            refine lv_aload_n S.x S.b d_Mo_rawCall_331 rfl (lv_at hl 4 rfl) ?_
            refine lv_dup S.x S.b d_Mo_rawCall_332 rfl ?_
            refine px_get S k_Mpr hT hw 3 0 4 (v := .int ((QF198 p0.toNatClampNeg) 4)) rfl rfl rfl (by decide) m10_230 d_Mo_rawCall_333 ?_
            refine lv_iconst (v := 1) S.x S.b d_Mo_rawCall_336 (by decide) ?_
            refine lv_isub S.x S.b d_Mo_rawCall_337 ?_
            have lr225 := Int32.le_toInt ((QF198 p0.toNatClampNeg) 4)
            have ur225 := Int32.toInt_lt ((QF198 p0.toNatClampNeg) 4)
            refine lv_topi (fun z226 ez226 => ?_)
            have tz226 : z226.toInt = (((QF198 p0.toNatClampNeg) 4).toInt - (1 : Int) + 2147483648) % 4294967296 - 2147483648 := by rw [ez226]; exact i_sub ((QF198 p0.toNatClampNeg) 4) 1
            have lz226 := Int32.le_toInt z226
            have uz226 := Int32.toInt_lt z226
            try replace tz226 : z226.toInt = ((QF198 p0.toNatClampNeg) 4).toInt - (1 : Int) := by omega
            refine px_put S k_Mpr hT hw 3 0 4 rfl rfl (by decide) m10_230 rfl rfl rfl (Nat.le_of_ble_eq_true rfl) d_Mo_rawCall_338 (w' := wd_Mpr cs (hq p0.toNatClampNeg) (qr p0.toNatClampNeg) (fun _ => QO197 p0.toNatClampNeg) (upd (upd (QF198 p0.toNatClampNeg) 4 z226) 11 z224) (va_up (QA199 p0.toNatClampNeg) 19 (upd ((QA199 p0.toNatClampNeg) 19) (10 : Int32).toNatClampNeg (mf196 9))) (fun _ _ => none)) (ps' := [wd_Mo cs mo mr (fun _ => none) mf196 md (gMo PG hq), fm 8 (fPg cs PG), fo 13 (fPr cs hq qr QO197 QF198 QA199) p0.toNatClampNeg, wd_Mpr cs (hq p0.toNatClampNeg) (qr p0.toNatClampNeg) (fun _ => QO197 p0.toNatClampNeg) (upd (upd (QF198 p0.toNatClampNeg) 4 z226) 11 z224) (va_up (QA199 p0.toNatClampNeg) 19 (upd ((QA199 p0.toNatClampNeg) 19) (10 : Int32).toNatClampNeg (mf196 9))) (fun _ _ => none)]) rfl rfl (fun H locs hw => ?_)
            refine lv_iload S.x S.b d_Mo_rawCall_341 (lv_at hl 1 rfl) ?_
            have hw := fpr_in (pr := [wd_Mo cs mo mr (fun _ => none) mf196 md (gMo PG hq), fm 8 (fPg cs PG)]) hw hi213
            obtain ⟨QO227, hu_QO227⟩ : ∃ y : Nat → Option Nat, y = va_up QO197 p0.toNatClampNeg ((fun _ => QO197 p0.toNatClampNeg) 0) := ⟨_, rfl⟩
            obtain ⟨QF228, hu_QF228⟩ : ∃ y : Nat → Nat → Int32, y = va_up QF198 p0.toNatClampNeg (upd (upd (QF198 p0.toNatClampNeg) 4 z226) 11 z224) := ⟨_, rfl⟩
            obtain ⟨QA229, hu_QA229⟩ : ∃ y : Nat → Nat → Nat → Int32, y = va_up QA199 p0.toNatClampNeg (va_up (QA199 p0.toNatClampNeg) 19 (upd ((QA199 p0.toNatClampNeg) 19) (10 : Int32).toNatClampNeg (mf196 9))) := ⟨_, rfl⟩
            have hw : pw D A s.heap _ _ [wd_Mo cs mo mr (fun _ => none) mf196 md (gMo PG hq), fm 8 (fPg cs PG), fm 13 (fPr cs hq qr QO227 QF228 QA229)] := (by rw [hu_QO227, hu_QF228, hu_QA229]; exact hw)
            have hpr : PrA PG (va_up RR p0.toNatClampNeg (RR p0.toNatClampNeg - v201.toInt)) QO227 QF228 QA229 := (by rw [hu_QO227, hu_QF228, hu_QA229]; exact PrA.upR hpr (psr_raw (j := j9) hj9 hqo h66 (show (0 ≤ ((QF198 p0.toNatClampNeg) 1).toInt ∧ ((QF198 p0.toNatClampNeg) 1).toInt ≤ 1) ∧ (0 ≤ ((QF198 p0.toNatClampNeg) 21).toInt ∧ ((QF198 p0.toNatClampNeg) 21).toInt ≤ 4) ∧ (0 ≤ ((QF198 p0.toNatClampNeg) 23).toInt ∧ ((QF198 p0.toNatClampNeg) 23).toInt ≤ 4) ∧ (0 ≤ ((QF198 p0.toNatClampNeg) 24).toInt ∧ ((QF198 p0.toNatClampNeg) 24).toInt ≤ 1000000) ∧ (0 ≤ ((QF198 p0.toNatClampNeg) 6).toInt ∧ ((QF198 p0.toNatClampNeg) 6).toInt ≤ 3) ∧ (0 ≤ ((QF198 p0.toNatClampNeg) 7).toInt ∧ ((QF198 p0.toNatClampNeg) 7).toInt ≤ 1) from by first | with_reducible rfl | with_reducible assumption | omega) (show ((QF198 p0.toNatClampNeg) 1).toInt = 1 from by first | with_reducible rfl | with_reducible assumption | omega) (show 0 ≤ z226.toInt ∧ z226.toInt + 1 ≤ RR p0.toNatClampNeg - v201.toInt ∧ ((QF198 p0.toNatClampNeg) 24).toInt + z226.toInt ≤ 1600 from by first | with_reducible rfl | with_reducible assumption | omega)) (show ((QF198 p0.toNatClampNeg) 1).toInt = (QF198 p0.toNatClampNeg 1).toInt from by first | exact oz_507c05ca68 | omega) (show (QF198 p0.toNatClampNeg 6).toInt ≤ ((QF198 p0.toNatClampNeg) 6).toInt from by first | exact oz_1cb5f934a5 | omega))
            have hqo : OqE (QO227 p0.toNatClampNeg) (PG j9).h := (by rw [hu_QO227, va_up_s]; exact hqo)
            have hqk1_QF228 : (QF228 p0.toNatClampNeg 1).toInt = ((QF198 p0.toNatClampNeg) 1).toInt := (by rw [hu_QF228, va_up_s]; try rfl)
            have hqk2_QF228 : (QF228 p0.toNatClampNeg 2).toInt = ((QF198 p0.toNatClampNeg) 2).toInt := (by rw [hu_QF228, va_up_s]; try rfl)
            have hqk4_QF228 : (QF228 p0.toNatClampNeg 4).toInt = z226.toInt := (by rw [hu_QF228, va_up_s]; try rfl)
            have hqk24_QF228 : (QF228 p0.toNatClampNeg 24).toInt = ((QF198 p0.toNatClampNeg) 24).toInt := (by rw [hu_QF228, va_up_s]; try rfl)
            have hw : pw D A s.heap _ _ [wd_Mo cs mo mr (fun _ => none) mf196 md (gMo PG hq), fm 13 (fPr cs hq qr QO227 QF228 QA229), fm 8 (fPg cs PG)] := hw.sub [0, 2, 1] rfl rfl
            exact px_iret (v := v201) S hr (z_nar (by omega)) hlk hAe hw (Nat.le_of_ble_eq_true rfl) (Nat.le_of_ble_eq_true rfl) (⟨mf196, md, QO227, QF228, QA229, rfl, (show 0 ≤ v201.toInt from by first | exact e210 | omega), (show v201.toInt ≤ 1 from by first | exact e211 | omega), (show PrA PG (va_up RR p0.toNatClampNeg (RR p0.toNatClampNeg - v201.toInt)) QO227 QF228 QA229 from hpr), (show (mf196 0).toInt = (mf 0).toInt from by first | exact e204 | omega), (show (mf196 2).toInt = (mf 2).toInt from by first | exact e205 | omega), (show (mf196 3).toInt = (mf 3).toInt from by first | exact e206 | omega), (show (mf196 7).toInt = (mf 7).toInt from by first | exact e207 | omega), (show (mf196 8).toInt = (mf 8).toInt from by first | exact e208 | omega), (show (mf196 10).toInt = (mf 10).toInt from by first | exact e209 | omega)⟩) d_Mo_rawCall_343
    · simp only [List.mem_cons, List.not_mem_nil, or_false] at c43
      refine lv_aload_n S.x S.b d_Mo_rawCall_190 rfl (lv_at hl 5 rfl) ?_
      refine lv_iload_n S.x S.b d_Mo_rawCall_191 rfl (lv_at hl 6 rfl) ?_
      refine lv_iload_n S.x S.b d_Mo_rawCall_192 rfl (lv_at hl 3 rfl) ?_
      refine lv_iload S.x S.b d_Mo_rawCall_193 (lv_at hl 2 rfl) ?_
      have hw : pw D A s.heap _ _ [wd_Mo cs mo mr (fun _ => none) mf md (gMo PG hq), fm 8 (fPg cs PG), fm 13 (fPr cs hq qr QO QF QA)] := fm_back (pr := [wd_Mo cs mo mr (fun _ => none) mf md (gMo PG hq), fm 8 (fPg cs PG)]) (T := fPr cs hq qr QO QF QA) hw hi1
      have hw : pw D A s.heap _ _ [wd_Mo cs mo mr (fun _ => none) mf md (gMo PG hq), fm 13 (fPr cs hq qr QO QF QA), fm 8 (fPg cs PG)] := hw.sub [0, 2, 1] rfl rfl
      refine px_callv (pr := []) (px_runV (As := [.int p0, .int z2, .int z3]) (rest := []) S (c_mo_spawns l D cs RR mo mr md mf hq qr QO QF QA PG p0 z2 z3  (show 0 ≤ p0.toInt from by first | exact g0 | omega) (show p0.toInt < 13 from by first | exact g1 | omega) (show 0 ≤ (mf 7).toInt from by first | exact g2 | omega) (show (mf 7).toInt ≤ 100 from by first | exact g3 | omega) (show 0 ≤ (mf 8).toInt from by first | exact g4 | omega) (show (mf 8).toInt ≤ 512 from by first | exact g5 | omega) (show (QF p0.toNatClampNeg 1).toInt = 1 from by first | exact g6 | omega) hpr hpg _) hT (pr := []) (pcs := [wd_Mo cs mo mr (fun _ => none) mf md (gMo PG hq), fm 13 (fPr cs hq qr QO QF QA), fm 8 (fPg cs PG)]) hw px_X.tt (px_recv hT hw 0 0 rfl rfl rfl) m14_82 m14_79 m14_81 ms_16_5 m1_20 q_Mo_spawns ⟨Nat.le_of_ble_eq_true rfl, Nat.le_of_ble_eq_true rfl⟩ hl.1 rfl (Nat.le_of_ble_eq_true rfl) d_Mo_rawCall_195 ⟨Nat.le_of_ble_eq_true rfl, Nat.le_of_ble_eq_true rfl⟩) hw hA (fun p238 H locs hp238 hw => ?_)
      obtain ⟨mf234, QO235, QF236, QA237, rfl, e240, e241, e242, e243, e244, e245, e246, e247⟩ := hp238
      replace e240 : PrA PG RR QO235 QF236 QA237 := e240
      have hpr := e240
      replace e241 : KpP QO QF QA QO235 QF236 QA237 p0.toNatClampNeg := e241
      have hkw : KpW QO QF QO235 QF236 p0.toNatClampNeg := ⟨(e241.1).trans hkw.1, hkw.2.tr e241.2.1⟩
      have hqo : OqE (QO235 p0.toNatClampNeg) (PG j9).h := hkw.1.trans hqoE
      have hkf := hkw.2
      unfold KpF at hkf
      replace e242 : (mf234 0).toInt = (mf 0).toInt := e242
      replace e243 : (mf234 2).toInt = (mf 2).toInt := e243
      replace e244 : (mf234 3).toInt = (mf 3).toInt := e244
      replace e245 : (mf234 7).toInt = (mf 7).toInt := e245
      replace e246 : (mf234 8).toInt = (mf 8).toInt := e246
      replace e247 : (mf234 10).toInt = (mf 10).toInt := e247
      replace hw : pw D A s.heap H locs [wd_Mo cs mo mr (fun _ => none) mf234 md (gMo PG hq), fm 13 (fPr cs hq qr QO235 QF236 QA237), fm 8 (fPg cs PG)] := hw
      refine lv_iconst (v := 1) S.x S.b d_Mo_rawCall_198 (by decide) ?_
      refine lv_istore (lv' := [(6, .int 1), (5, .int 1), (4, .int z3), (3, .int z2), (2, .ref (hq p0.toNatClampNeg)), (0, .ref mo), (1, .int p0)]) S.x S.b d_Mo_rawCall_199 hl (by decide) rfl (fun ls hl => ?_)
      refine lv_goto (tgt := 289) S.x S.b d_Mo_rawCall_201 (by decide) ?_
      refine lv_iload S.x S.b d_Mo_rawCall_289 (lv_at hl 1 rfl) ?_
      refine lv_if_eq (tgt := 341) S.x S.b d_Mo_rawCall_291 (by decide) (fun c248 => ?_) (fun c248 => ?_)
      · exact absurd c248 (by decide)
      ·
        refine lv_aload_n S.x S.b d_Mo_rawCall_294 rfl (lv_at hl 4 rfl) ?_
        have hw : pw D A s.heap _ _ [wd_Mo cs mo mr (fun _ => none) mf234 md (gMo PG hq), fm 8 (fPg cs PG), fm 13 (fPr cs hq qr QO235 QF236 QA237)] := hw.sub [0, 2, 1] rfl rfl
        have hc249 := cl_nat (x := p0) (by first | exact g0 | omega)
        have hi249 : p0.toNatClampNeg < 13 := by first | exact hi1 | omega
        have hw : pw D A s.heap _ _ [wd_Mo cs mo mr (fun _ => none) mf234 md (gMo PG hq), fm 8 (fPg cs PG), fo 13 (fPr cs hq qr QO235 QF236 QA237) p0.toNatClampNeg, wd_Mpr cs (hq p0.toNatClampNeg) (qr p0.toNatClampNeg) (fun _ => QO235 p0.toNatClampNeg) (QF236 p0.toNatClampNeg) (QA237 p0.toNatClampNeg) (fun _ _ => none)] := fm_out (pr := [wd_Mo cs mo mr (fun _ => none) mf234 md (gMo PG hq), fm 8 (fPg cs PG)]) (T := fPr cs hq qr QO235 QF236 QA237) hw hi249
        have hps249 := hpr.1 p0.toNatClampNeg hi249
        have hpb249 := hps249.1
        unfold PsB at hpb249
        refine px_calli (pr := [wd_Mo cs mo mr (fun _ => none) mf234 md (gMo PG hq), fm 8 (fPg cs PG), fo 13 (fPr cs hq qr QO235 QF236 QA237) p0.toNatClampNeg]) (px_runV (As := []) (rest := []) S (c_mq_isGoing l D cs (hq p0.toNatClampNeg) (qr p0.toNatClampNeg) (fun _ _ => none) (fun _ => QO235 p0.toNatClampNeg) (QF236 p0.toNatClampNeg) (QA237 p0.toNatClampNeg)    _) hT (pr := [wd_Mo cs mo mr (fun _ => none) mf234 md (gMo PG hq), fm 8 (fPg cs PG), fo 13 (fPr cs hq qr QO235 QF236 QA237) p0.toNatClampNeg]) (pcs := [wd_Mpr cs (hq p0.toNatClampNeg) (qr p0.toNatClampNeg) (fun _ => QO235 p0.toNatClampNeg) (QF236 p0.toNatClampNeg) (QA237 p0.toNatClampNeg) (fun _ _ => none)]) hw px_X.tt (px_recv hT hw 3 0 rfl rfl rfl) m13_165 m13_162 m13_163 m13_164 m1_22 q_Mpr_isGoing ⟨Nat.le_of_ble_eq_true rfl, Nat.le_of_ble_eq_true rfl⟩ hl.1 rfl (Nat.le_of_ble_eq_true rfl) d_Mo_rawCall_295 ⟨Nat.le_of_ble_eq_true rfl, Nat.le_of_ble_eq_true rfl⟩) hw hA (fun v251 p250 H locs hp250 hw => ?_)
        obtain ⟨rfl, e252, e253, e254, e255, e256⟩ := hp250
        replace e252 : 0 ≤ v251.toInt := e252
        replace e253 : v251.toInt ≤ 1 := e253
        replace e254 : v251.toInt = 1 → ((QF236 p0.toNatClampNeg) 1).toInt ≠ 0 := e254
        replace e255 : v251.toInt = 1 → ((QF236 p0.toNatClampNeg) 2).toInt = -2 := e255
        replace e256 : ((QF236 p0.toNatClampNeg) 1).toInt ≠ 0 → ((QF236 p0.toNatClampNeg) 2).toInt = -2 → v251.toInt = 1 := e256
        replace hw : pw D A s.heap H locs [wd_Mo cs mo mr (fun _ => none) mf234 md (gMo PG hq), fm 8 (fPg cs PG), fo 13 (fPr cs hq qr QO235 QF236 QA237) p0.toNatClampNeg, wd_Mpr cs (hq p0.toNatClampNeg) (qr p0.toNatClampNeg) (fun _ => QO235 p0.toNatClampNeg) (QF236 p0.toNatClampNeg) (QA237 p0.toNatClampNeg) (fun _ _ => none)] := hw
        have lv251 := Int32.le_toInt v251
        have uv251 := Int32.toInt_lt v251
        refine lv_if_eq (tgt := 341) S.x S.b d_Mo_rawCall_298 (by decide) (fun c257 => ?_) (fun c257 => ?_)
        · have nc257 : v251.toInt = (0 : Int) := (i_eq (x := v251) (y := 0)).mp c257
          refine lv_iload S.x S.b d_Mo_rawCall_341 (lv_at hl 1 rfl) ?_
          have hw : pw D A s.heap _ _ [wd_Mo cs mo mr (fun _ => none) mf234 md (gMo PG hq), fm 8 (fPg cs PG), fm 13 (fPr cs hq qr QO235 QF236 QA237)] := fm_back (pr := [wd_Mo cs mo mr (fun _ => none) mf234 md (gMo PG hq), fm 8 (fPg cs PG)]) (T := fPr cs hq qr QO235 QF236 QA237) hw hi249
          have hw : pw D A s.heap _ _ [wd_Mo cs mo mr (fun _ => none) mf234 md (gMo PG hq), fm 13 (fPr cs hq qr QO235 QF236 QA237), fm 8 (fPg cs PG)] := hw.sub [0, 2, 1] rfl rfl
          exact px_iret (v := 1) S hr rfl hlk hAe hw (Nat.le_of_ble_eq_true rfl) (Nat.le_of_ble_eq_true rfl) (⟨mf234, md, QO235, QF236, QA237, rfl, (show 0 ≤ (1 : Int) from by first | decide | omega), (show (1 : Int) ≤ 1 from by first | decide | omega), (show PrA PG (va_up RR p0.toNatClampNeg (RR p0.toNatClampNeg - (1 : Int))) QO235 QF236 QA237 from (hpr.low (by omega) (by omega) (by omega) (by have q9 := cl_nat (x := p0) (by first | exact g0 | omega); omega))), (show (mf234 0).toInt = (mf 0).toInt from by first | exact e242 | omega), (show (mf234 2).toInt = (mf 2).toInt from by first | exact e243 | omega), (show (mf234 3).toInt = (mf 3).toInt from by first | exact e244 | omega), (show (mf234 7).toInt = (mf 7).toInt from by first | exact e245 | omega), (show (mf234 8).toInt = (mf 8).toInt from by first | exact e246 | omega), (show (mf234 10).toInt = (mf 10).toInt from by first | exact e247 | omega)⟩) d_Mo_rawCall_343
        · have nc257 : ¬ v251.toInt = (0 : Int) := mt (i_eq (x := v251) (y := 0)).mpr c257
          refine lv_aload_n S.x S.b d_Mo_rawCall_301 rfl (lv_at hl 4 rfl) ?_
          refine px_get S k_Mpr hT hw 3 0 19 (v := .ref ((qr p0.toNatClampNeg) 19)) rfl rfl rfl (by decide) m11_12 d_Mo_rawCall_302 ?_
          refine lv_bipush (v := 10) S.x S.b d_Mo_rawCall_305 (by decide) ?_
          refine lv_iload S.x S.b d_Mo_rawCall_307 (lv_at hl 0 rfl) ?_
          refine lv_if_eq (tgt := 319) S.x S.b d_Mo_rawCall_309 (by decide) (fun c258 => ?_) (fun c258 => ?_)
          · exact absurd c258 (by decide)
          ·
            refine lv_aload_n S.x S.b d_Mo_rawCall_312 rfl (lv_at hl 5 rfl) ?_
            refine px_get S k_Mo hT hw 0 0 9 (v := .int (mf234 9)) rfl rfl rfl (by decide) m11_87 d_Mo_rawCall_313 ?_
            refine lv_goto (tgt := 320) S.x S.b d_Mo_rawCall_316 (by decide) ?_
            refine px_iast S hT hw 3 7 (n := 32) (f := ((QA237 p0.toNatClampNeg) 19)) (x := 10) (y := (mf234 9)) rfl (ga_Mpr_19 _ _ _ _ _ _ _) (vp_in_iff.mpr (by constructor <;> omega)) d_Mo_rawCall_320 (w' := wd_Mpr cs (hq p0.toNatClampNeg) (qr p0.toNatClampNeg) (fun _ => QO235 p0.toNatClampNeg) (QF236 p0.toNatClampNeg) (va_up (QA237 p0.toNatClampNeg) 19 (upd ((QA237 p0.toNatClampNeg) 19) (10 : Int32).toNatClampNeg (mf234 9))) (fun _ _ => none)) (ps' := [wd_Mo cs mo mr (fun _ => none) mf234 md (gMo PG hq), fm 8 (fPg cs PG), fo 13 (fPr cs hq qr QO235 QF236 QA237) p0.toNatClampNeg, wd_Mpr cs (hq p0.toNatClampNeg) (qr p0.toNatClampNeg) (fun _ => QO235 p0.toNatClampNeg) (QF236 p0.toNatClampNeg) (va_up (QA237 p0.toNatClampNeg) 19 (upd ((QA237 p0.toNatClampNeg) 19) (10 : Int32).toNatClampNeg (mf234 9))) (fun _ _ => none)]) (sa_Mpr_19 _ _ _ _ _ _ _ _) rfl (fun H locs hw => ?_)
            refine lv_aload_n S.x S.b d_Mo_rawCall_321 rfl (lv_at hl 4 rfl) ?_
            refine lv_aload_n S.x S.b d_Mo_rawCall_322 rfl (lv_at hl 4 rfl) ?_
            refine px_get S k_Mpr hT hw 3 0 11 (v := .int ((QF236 p0.toNatClampNeg) 11)) rfl rfl rfl (by decide) m11_3 d_Mo_rawCall_323 ?_
            refine lv_iconst (v := 4) S.x S.b d_Mo_rawCall_326 (by decide) ?_
            refine lv_iadd S.x S.b d_Mo_rawCall_327 ?_
            have lr259 := Int32.le_toInt ((QF236 p0.toNatClampNeg) 11)
            have ur259 := Int32.toInt_lt ((QF236 p0.toNatClampNeg) 11)
            refine lv_topi (fun z260 ez260 => ?_)
            have tz260 : z260.toInt = (((QF236 p0.toNatClampNeg) 11).toInt + (4 : Int) + 2147483648) % 4294967296 - 2147483648 := by rw [ez260]; exact i_add ((QF236 p0.toNatClampNeg) 11) 4
            have lz260 := Int32.le_toInt z260
            have uz260 := Int32.toInt_lt z260
            try replace tz260 : z260.toInt = ((QF236 p0.toNatClampNeg) 11).toInt + (4 : Int) := by omega
            refine px_put S k_Mpr hT hw 3 0 11 rfl rfl (by decide) m11_3 rfl rfl rfl (Nat.le_of_ble_eq_true rfl) d_Mo_rawCall_328 (w' := wd_Mpr cs (hq p0.toNatClampNeg) (qr p0.toNatClampNeg) (fun _ => QO235 p0.toNatClampNeg) (upd (QF236 p0.toNatClampNeg) 11 z260) (va_up (QA237 p0.toNatClampNeg) 19 (upd ((QA237 p0.toNatClampNeg) 19) (10 : Int32).toNatClampNeg (mf234 9))) (fun _ _ => none)) (ps' := [wd_Mo cs mo mr (fun _ => none) mf234 md (gMo PG hq), fm 8 (fPg cs PG), fo 13 (fPr cs hq qr QO235 QF236 QA237) p0.toNatClampNeg, wd_Mpr cs (hq p0.toNatClampNeg) (qr p0.toNatClampNeg) (fun _ => QO235 p0.toNatClampNeg) (upd (QF236 p0.toNatClampNeg) 11 z260) (va_up (QA237 p0.toNatClampNeg) 19 (upd ((QA237 p0.toNatClampNeg) 19) (10 : Int32).toNatClampNeg (mf234 9))) (fun _ _ => none)]) rfl rfl (fun H locs hw => ?_)
            refine lv_aload_n S.x S.b d_Mo_rawCall_331 rfl (lv_at hl 4 rfl) ?_
            refine lv_dup S.x S.b d_Mo_rawCall_332 rfl ?_
            refine px_get S k_Mpr hT hw 3 0 4 (v := .int ((QF236 p0.toNatClampNeg) 4)) rfl rfl rfl (by decide) m10_230 d_Mo_rawCall_333 ?_
            refine lv_iconst (v := 1) S.x S.b d_Mo_rawCall_336 (by decide) ?_
            refine lv_isub S.x S.b d_Mo_rawCall_337 ?_
            have lr261 := Int32.le_toInt ((QF236 p0.toNatClampNeg) 4)
            have ur261 := Int32.toInt_lt ((QF236 p0.toNatClampNeg) 4)
            refine lv_topi (fun z262 ez262 => ?_)
            have tz262 : z262.toInt = (((QF236 p0.toNatClampNeg) 4).toInt - (1 : Int) + 2147483648) % 4294967296 - 2147483648 := by rw [ez262]; exact i_sub ((QF236 p0.toNatClampNeg) 4) 1
            have lz262 := Int32.le_toInt z262
            have uz262 := Int32.toInt_lt z262
            try replace tz262 : z262.toInt = ((QF236 p0.toNatClampNeg) 4).toInt - (1 : Int) := by omega
            refine px_put S k_Mpr hT hw 3 0 4 rfl rfl (by decide) m10_230 rfl rfl rfl (Nat.le_of_ble_eq_true rfl) d_Mo_rawCall_338 (w' := wd_Mpr cs (hq p0.toNatClampNeg) (qr p0.toNatClampNeg) (fun _ => QO235 p0.toNatClampNeg) (upd (upd (QF236 p0.toNatClampNeg) 4 z262) 11 z260) (va_up (QA237 p0.toNatClampNeg) 19 (upd ((QA237 p0.toNatClampNeg) 19) (10 : Int32).toNatClampNeg (mf234 9))) (fun _ _ => none)) (ps' := [wd_Mo cs mo mr (fun _ => none) mf234 md (gMo PG hq), fm 8 (fPg cs PG), fo 13 (fPr cs hq qr QO235 QF236 QA237) p0.toNatClampNeg, wd_Mpr cs (hq p0.toNatClampNeg) (qr p0.toNatClampNeg) (fun _ => QO235 p0.toNatClampNeg) (upd (upd (QF236 p0.toNatClampNeg) 4 z262) 11 z260) (va_up (QA237 p0.toNatClampNeg) 19 (upd ((QA237 p0.toNatClampNeg) 19) (10 : Int32).toNatClampNeg (mf234 9))) (fun _ _ => none)]) rfl rfl (fun H locs hw => ?_)
            refine lv_iload S.x S.b d_Mo_rawCall_341 (lv_at hl 1 rfl) ?_
            have hw := fpr_in (pr := [wd_Mo cs mo mr (fun _ => none) mf234 md (gMo PG hq), fm 8 (fPg cs PG)]) hw hi249
            obtain ⟨QO263, hu_QO263⟩ : ∃ y : Nat → Option Nat, y = va_up QO235 p0.toNatClampNeg ((fun _ => QO235 p0.toNatClampNeg) 0) := ⟨_, rfl⟩
            obtain ⟨QF264, hu_QF264⟩ : ∃ y : Nat → Nat → Int32, y = va_up QF236 p0.toNatClampNeg (upd (upd (QF236 p0.toNatClampNeg) 4 z262) 11 z260) := ⟨_, rfl⟩
            obtain ⟨QA265, hu_QA265⟩ : ∃ y : Nat → Nat → Nat → Int32, y = va_up QA237 p0.toNatClampNeg (va_up (QA237 p0.toNatClampNeg) 19 (upd ((QA237 p0.toNatClampNeg) 19) (10 : Int32).toNatClampNeg (mf234 9))) := ⟨_, rfl⟩
            have hw : pw D A s.heap _ _ [wd_Mo cs mo mr (fun _ => none) mf234 md (gMo PG hq), fm 8 (fPg cs PG), fm 13 (fPr cs hq qr QO263 QF264 QA265)] := (by rw [hu_QO263, hu_QF264, hu_QA265]; exact hw)
            have hpr : PrA PG (va_up RR p0.toNatClampNeg (RR p0.toNatClampNeg - (1 : Int))) QO263 QF264 QA265 := (by rw [hu_QO263, hu_QF264, hu_QA265]; exact PrA.upR hpr (psr_raw (j := j9) hj9 hqo h66 (show (0 ≤ ((QF236 p0.toNatClampNeg) 1).toInt ∧ ((QF236 p0.toNatClampNeg) 1).toInt ≤ 1) ∧ (0 ≤ ((QF236 p0.toNatClampNeg) 21).toInt ∧ ((QF236 p0.toNatClampNeg) 21).toInt ≤ 4) ∧ (0 ≤ ((QF236 p0.toNatClampNeg) 23).toInt ∧ ((QF236 p0.toNatClampNeg) 23).toInt ≤ 4) ∧ (0 ≤ ((QF236 p0.toNatClampNeg) 24).toInt ∧ ((QF236 p0.toNatClampNeg) 24).toInt ≤ 1000000) ∧ (0 ≤ ((QF236 p0.toNatClampNeg) 6).toInt ∧ ((QF236 p0.toNatClampNeg) 6).toInt ≤ 3) ∧ (0 ≤ ((QF236 p0.toNatClampNeg) 7).toInt ∧ ((QF236 p0.toNatClampNeg) 7).toInt ≤ 1) from by first | with_reducible rfl | with_reducible assumption | omega) (show ((QF236 p0.toNatClampNeg) 1).toInt = 1 from by first | with_reducible rfl | with_reducible assumption | omega) (show 0 ≤ z262.toInt ∧ z262.toInt + 1 ≤ RR p0.toNatClampNeg - (1 : Int) ∧ ((QF236 p0.toNatClampNeg) 24).toInt + z262.toInt ≤ 1600 from by first | with_reducible rfl | with_reducible assumption | omega)) (show ((QF236 p0.toNatClampNeg) 1).toInt = (QF236 p0.toNatClampNeg 1).toInt from by first | exact oz_507c05ca68 | omega) (show (QF236 p0.toNatClampNeg 6).toInt ≤ ((QF236 p0.toNatClampNeg) 6).toInt from by first | exact oz_1cb5f934a5 | omega))
            have hqo : OqE (QO263 p0.toNatClampNeg) (PG j9).h := (by rw [hu_QO263, va_up_s]; exact hqo)
            have hqk1_QF264 : (QF264 p0.toNatClampNeg 1).toInt = ((QF236 p0.toNatClampNeg) 1).toInt := (by rw [hu_QF264, va_up_s]; try rfl)
            have hqk2_QF264 : (QF264 p0.toNatClampNeg 2).toInt = ((QF236 p0.toNatClampNeg) 2).toInt := (by rw [hu_QF264, va_up_s]; try rfl)
            have hqk4_QF264 : (QF264 p0.toNatClampNeg 4).toInt = z262.toInt := (by rw [hu_QF264, va_up_s]; try rfl)
            have hqk24_QF264 : (QF264 p0.toNatClampNeg 24).toInt = ((QF236 p0.toNatClampNeg) 24).toInt := (by rw [hu_QF264, va_up_s]; try rfl)
            have hw : pw D A s.heap _ _ [wd_Mo cs mo mr (fun _ => none) mf234 md (gMo PG hq), fm 13 (fPr cs hq qr QO263 QF264 QA265), fm 8 (fPg cs PG)] := hw.sub [0, 2, 1] rfl rfl
            exact px_iret (v := 1) S hr rfl hlk hAe hw (Nat.le_of_ble_eq_true rfl) (Nat.le_of_ble_eq_true rfl) (⟨mf234, md, QO263, QF264, QA265, rfl, (show 0 ≤ (1 : Int) from by first | decide | omega), (show (1 : Int) ≤ 1 from by first | decide | omega), (show PrA PG (va_up RR p0.toNatClampNeg (RR p0.toNatClampNeg - (1 : Int))) QO263 QF264 QA265 from hpr), (show (mf234 0).toInt = (mf 0).toInt from by first | exact e242 | omega), (show (mf234 2).toInt = (mf 2).toInt from by first | exact e243 | omega), (show (mf234 3).toInt = (mf 3).toInt from by first | exact e244 | omega), (show (mf234 7).toInt = (mf 7).toInt from by first | exact e245 | omega), (show (mf234 8).toInt = (mf 8).toInt from by first | exact e246 | omega), (show (mf234 10).toInt = (mf 10).toInt from by first | exact e247 | omega)⟩) d_Mo_rawCall_343
    · simp only [List.mem_cons, List.not_mem_nil, or_false] at c43
      refine lv_aload_n S.x S.b d_Mo_rawCall_204 rfl (lv_at hl 5 rfl) ?_
      refine lv_iload_n S.x S.b d_Mo_rawCall_205 rfl (lv_at hl 6 rfl) ?_
      refine lv_iload_n S.x S.b d_Mo_rawCall_206 rfl (lv_at hl 3 rfl) ?_
      have hw : pw D A s.heap _ _ [wd_Mo cs mo mr (fun _ => none) mf md (gMo PG hq), fm 8 (fPg cs PG), fm 13 (fPr cs hq qr QO QF QA)] := fm_back (pr := [wd_Mo cs mo mr (fun _ => none) mf md (gMo PG hq), fm 8 (fPg cs PG)]) (T := fPr cs hq qr QO QF QA) hw hi1
      have hw : pw D A s.heap _ _ [wd_Mo cs mo mr (fun _ => none) mf md (gMo PG hq), fm 13 (fPr cs hq qr QO QF QA), fm 8 (fPg cs PG)] := hw.sub [0, 2, 1] rfl rfl
      refine px_calli (pr := []) (px_runV (As := [.int p0, .int z2]) (rest := []) S (c_mo_waits l D cs RR mo mr md mf hq qr QO QF QA PG p0 z2  (show 0 ≤ p0.toInt from by first | exact g0 | omega) (show p0.toInt < 13 from by first | exact g1 | omega) hpr hpg _) hT (pr := []) (pcs := [wd_Mo cs mo mr (fun _ => none) mf md (gMo PG hq), fm 13 (fPr cs hq qr QO QF QA), fm 8 (fPg cs PG)]) hw px_X.tt (px_recv hT hw 0 0 rfl rfl rfl) m14_86 m14_83 m14_85 ms_16_6 m1_20 q_Mo_waits ⟨Nat.le_of_ble_eq_true rfl, Nat.le_of_ble_eq_true rfl⟩ hl.1 rfl (Nat.le_of_ble_eq_true rfl) d_Mo_rawCall_207 ⟨Nat.le_of_ble_eq_true rfl, Nat.le_of_ble_eq_true rfl⟩) hw hA (fun v275 p274 H locs hp274 hw => ?_)
      obtain ⟨mf270, QO271, QF272, QA273, rfl, e276, e277, e278, e279, e280, e281, e282, e283, e284, e285⟩ := hp274
      replace e276 : PrA PG RR QO271 QF272 QA273 := e276
      have hpr := e276
      replace e277 : KpP QO QF QA QO271 QF272 QA273 p0.toNatClampNeg := e277
      have hkw : KpW QO QF QO271 QF272 p0.toNatClampNeg := ⟨(e277.1).trans hkw.1, hkw.2.tr e277.2.1⟩
      have hqo : OqE (QO271 p0.toNatClampNeg) (PG j9).h := hkw.1.trans hqoE
      have hkf := hkw.2
      unfold KpF at hkf
      replace e278 : (mf270 0).toInt = (mf 0).toInt := e278
      replace e279 : (mf270 2).toInt = (mf 2).toInt := e279
      replace e280 : (mf270 3).toInt = (mf 3).toInt := e280
      replace e281 : (mf270 7).toInt = (mf 7).toInt := e281
      replace e282 : (mf270 8).toInt = (mf 8).toInt := e282
      replace e283 : (mf270 10).toInt = (mf 10).toInt := e283
      replace e284 : 0 ≤ v275.toInt := e284
      replace e285 : v275.toInt ≤ 1 := e285
      replace hw : pw D A s.heap H locs [wd_Mo cs mo mr (fun _ => none) mf270 md (gMo PG hq), fm 13 (fPr cs hq qr QO271 QF272 QA273), fm 8 (fPg cs PG)] := hw
      have lv275 := Int32.le_toInt v275
      have uv275 := Int32.toInt_lt v275
      refine lv_istore (lv' := [(5, .int v275), (6, .int 0), (4, .int z3), (3, .int z2), (2, .ref (hq p0.toNatClampNeg)), (0, .ref mo), (1, .int p0)]) S.x S.b d_Mo_rawCall_210 hl (by decide) rfl (fun ls hl => ?_)
      refine lv_iconst (v := 1) S.x S.b d_Mo_rawCall_212 (by decide) ?_
      refine lv_istore (lv' := [(6, .int 1), (5, .int v275), (4, .int z3), (3, .int z2), (2, .ref (hq p0.toNatClampNeg)), (0, .ref mo), (1, .int p0)]) S.x S.b d_Mo_rawCall_213 hl (by decide) rfl (fun ls hl => ?_)
      refine lv_goto (tgt := 289) S.x S.b d_Mo_rawCall_215 (by decide) ?_
      refine lv_iload S.x S.b d_Mo_rawCall_289 (lv_at hl 1 rfl) ?_
      refine lv_if_eq (tgt := 341) S.x S.b d_Mo_rawCall_291 (by decide) (fun c286 => ?_) (fun c286 => ?_)
      · have nc286 : v275.toInt = (0 : Int) := (i_eq (x := v275) (y := 0)).mp c286
        refine lv_iload S.x S.b d_Mo_rawCall_341 (lv_at hl 1 rfl) ?_
        exact px_iret (v := v275) S hr (z_nar (by omega)) hlk hAe hw (Nat.le_of_ble_eq_true rfl) (Nat.le_of_ble_eq_true rfl) (⟨mf270, md, QO271, QF272, QA273, rfl, (show 0 ≤ v275.toInt from by first | exact e284 | omega), (show v275.toInt ≤ 1 from by first | exact e285 | omega), (show PrA PG (va_up RR p0.toNatClampNeg (RR p0.toNatClampNeg - v275.toInt)) QO271 QF272 QA273 from (hpr.rs (by omega))), (show (mf270 0).toInt = (mf 0).toInt from by first | exact e278 | omega), (show (mf270 2).toInt = (mf 2).toInt from by first | exact e279 | omega), (show (mf270 3).toInt = (mf 3).toInt from by first | exact e280 | omega), (show (mf270 7).toInt = (mf 7).toInt from by first | exact e281 | omega), (show (mf270 8).toInt = (mf 8).toInt from by first | exact e282 | omega), (show (mf270 10).toInt = (mf 10).toInt from by first | exact e283 | omega)⟩) d_Mo_rawCall_343
      · have nc286 : ¬ v275.toInt = (0 : Int) := mt (i_eq (x := v275) (y := 0)).mpr c286
        refine lv_aload_n S.x S.b d_Mo_rawCall_294 rfl (lv_at hl 4 rfl) ?_
        have hw : pw D A s.heap _ _ [wd_Mo cs mo mr (fun _ => none) mf270 md (gMo PG hq), fm 8 (fPg cs PG), fm 13 (fPr cs hq qr QO271 QF272 QA273)] := hw.sub [0, 2, 1] rfl rfl
        have hc287 := cl_nat (x := p0) (by first | exact g0 | omega)
        have hi287 : p0.toNatClampNeg < 13 := by first | exact hi1 | omega
        have hw : pw D A s.heap _ _ [wd_Mo cs mo mr (fun _ => none) mf270 md (gMo PG hq), fm 8 (fPg cs PG), fo 13 (fPr cs hq qr QO271 QF272 QA273) p0.toNatClampNeg, wd_Mpr cs (hq p0.toNatClampNeg) (qr p0.toNatClampNeg) (fun _ => QO271 p0.toNatClampNeg) (QF272 p0.toNatClampNeg) (QA273 p0.toNatClampNeg) (fun _ _ => none)] := fm_out (pr := [wd_Mo cs mo mr (fun _ => none) mf270 md (gMo PG hq), fm 8 (fPg cs PG)]) (T := fPr cs hq qr QO271 QF272 QA273) hw hi287
        have hps287 := hpr.1 p0.toNatClampNeg hi287
        have hpb287 := hps287.1
        unfold PsB at hpb287
        refine px_calli (pr := [wd_Mo cs mo mr (fun _ => none) mf270 md (gMo PG hq), fm 8 (fPg cs PG), fo 13 (fPr cs hq qr QO271 QF272 QA273) p0.toNatClampNeg]) (px_runV (As := []) (rest := []) S (c_mq_isGoing l D cs (hq p0.toNatClampNeg) (qr p0.toNatClampNeg) (fun _ _ => none) (fun _ => QO271 p0.toNatClampNeg) (QF272 p0.toNatClampNeg) (QA273 p0.toNatClampNeg)    _) hT (pr := [wd_Mo cs mo mr (fun _ => none) mf270 md (gMo PG hq), fm 8 (fPg cs PG), fo 13 (fPr cs hq qr QO271 QF272 QA273) p0.toNatClampNeg]) (pcs := [wd_Mpr cs (hq p0.toNatClampNeg) (qr p0.toNatClampNeg) (fun _ => QO271 p0.toNatClampNeg) (QF272 p0.toNatClampNeg) (QA273 p0.toNatClampNeg) (fun _ _ => none)]) hw px_X.tt (px_recv hT hw 3 0 rfl rfl rfl) m13_165 m13_162 m13_163 m13_164 m1_22 q_Mpr_isGoing ⟨Nat.le_of_ble_eq_true rfl, Nat.le_of_ble_eq_true rfl⟩ hl.1 rfl (Nat.le_of_ble_eq_true rfl) d_Mo_rawCall_295 ⟨Nat.le_of_ble_eq_true rfl, Nat.le_of_ble_eq_true rfl⟩) hw hA (fun v289 p288 H locs hp288 hw => ?_)
        obtain ⟨rfl, e290, e291, e292, e293, e294⟩ := hp288
        replace e290 : 0 ≤ v289.toInt := e290
        replace e291 : v289.toInt ≤ 1 := e291
        replace e292 : v289.toInt = 1 → ((QF272 p0.toNatClampNeg) 1).toInt ≠ 0 := e292
        replace e293 : v289.toInt = 1 → ((QF272 p0.toNatClampNeg) 2).toInt = -2 := e293
        replace e294 : ((QF272 p0.toNatClampNeg) 1).toInt ≠ 0 → ((QF272 p0.toNatClampNeg) 2).toInt = -2 → v289.toInt = 1 := e294
        replace hw : pw D A s.heap H locs [wd_Mo cs mo mr (fun _ => none) mf270 md (gMo PG hq), fm 8 (fPg cs PG), fo 13 (fPr cs hq qr QO271 QF272 QA273) p0.toNatClampNeg, wd_Mpr cs (hq p0.toNatClampNeg) (qr p0.toNatClampNeg) (fun _ => QO271 p0.toNatClampNeg) (QF272 p0.toNatClampNeg) (QA273 p0.toNatClampNeg) (fun _ _ => none)] := hw
        have lv289 := Int32.le_toInt v289
        have uv289 := Int32.toInt_lt v289
        refine lv_if_eq (tgt := 341) S.x S.b d_Mo_rawCall_298 (by decide) (fun c295 => ?_) (fun c295 => ?_)
        · have nc295 : v289.toInt = (0 : Int) := (i_eq (x := v289) (y := 0)).mp c295
          refine lv_iload S.x S.b d_Mo_rawCall_341 (lv_at hl 1 rfl) ?_
          have hw : pw D A s.heap _ _ [wd_Mo cs mo mr (fun _ => none) mf270 md (gMo PG hq), fm 8 (fPg cs PG), fm 13 (fPr cs hq qr QO271 QF272 QA273)] := fm_back (pr := [wd_Mo cs mo mr (fun _ => none) mf270 md (gMo PG hq), fm 8 (fPg cs PG)]) (T := fPr cs hq qr QO271 QF272 QA273) hw hi287
          have hw : pw D A s.heap _ _ [wd_Mo cs mo mr (fun _ => none) mf270 md (gMo PG hq), fm 13 (fPr cs hq qr QO271 QF272 QA273), fm 8 (fPg cs PG)] := hw.sub [0, 2, 1] rfl rfl
          exact px_iret (v := v275) S hr (z_nar (by omega)) hlk hAe hw (Nat.le_of_ble_eq_true rfl) (Nat.le_of_ble_eq_true rfl) (⟨mf270, md, QO271, QF272, QA273, rfl, (show 0 ≤ v275.toInt from by first | exact e284 | omega), (show v275.toInt ≤ 1 from by first | exact e285 | omega), (show PrA PG (va_up RR p0.toNatClampNeg (RR p0.toNatClampNeg - v275.toInt)) QO271 QF272 QA273 from (hpr.low (by omega) (by omega) (by omega) (by have q9 := cl_nat (x := p0) (by first | exact g0 | omega); omega))), (show (mf270 0).toInt = (mf 0).toInt from by first | exact e278 | omega), (show (mf270 2).toInt = (mf 2).toInt from by first | exact e279 | omega), (show (mf270 3).toInt = (mf 3).toInt from by first | exact e280 | omega), (show (mf270 7).toInt = (mf 7).toInt from by first | exact e281 | omega), (show (mf270 8).toInt = (mf 8).toInt from by first | exact e282 | omega), (show (mf270 10).toInt = (mf 10).toInt from by first | exact e283 | omega)⟩) d_Mo_rawCall_343
        · have nc295 : ¬ v289.toInt = (0 : Int) := mt (i_eq (x := v289) (y := 0)).mpr c295
          refine lv_aload_n S.x S.b d_Mo_rawCall_301 rfl (lv_at hl 4 rfl) ?_
          refine px_get S k_Mpr hT hw 3 0 19 (v := .ref ((qr p0.toNatClampNeg) 19)) rfl rfl rfl (by decide) m11_12 d_Mo_rawCall_302 ?_
          refine lv_bipush (v := 10) S.x S.b d_Mo_rawCall_305 (by decide) ?_
          refine lv_iload S.x S.b d_Mo_rawCall_307 (lv_at hl 0 rfl) ?_
          refine lv_if_eq (tgt := 319) S.x S.b d_Mo_rawCall_309 (by decide) (fun c296 => ?_) (fun c296 => ?_)
          · exact absurd c296 (by decide)
          ·
            refine lv_aload_n S.x S.b d_Mo_rawCall_312 rfl (lv_at hl 5 rfl) ?_
            refine px_get S k_Mo hT hw 0 0 9 (v := .int (mf270 9)) rfl rfl rfl (by decide) m11_87 d_Mo_rawCall_313 ?_
            refine lv_goto (tgt := 320) S.x S.b d_Mo_rawCall_316 (by decide) ?_
            refine px_iast S hT hw 3 7 (n := 32) (f := ((QA273 p0.toNatClampNeg) 19)) (x := 10) (y := (mf270 9)) rfl (ga_Mpr_19 _ _ _ _ _ _ _) (vp_in_iff.mpr (by constructor <;> omega)) d_Mo_rawCall_320 (w' := wd_Mpr cs (hq p0.toNatClampNeg) (qr p0.toNatClampNeg) (fun _ => QO271 p0.toNatClampNeg) (QF272 p0.toNatClampNeg) (va_up (QA273 p0.toNatClampNeg) 19 (upd ((QA273 p0.toNatClampNeg) 19) (10 : Int32).toNatClampNeg (mf270 9))) (fun _ _ => none)) (ps' := [wd_Mo cs mo mr (fun _ => none) mf270 md (gMo PG hq), fm 8 (fPg cs PG), fo 13 (fPr cs hq qr QO271 QF272 QA273) p0.toNatClampNeg, wd_Mpr cs (hq p0.toNatClampNeg) (qr p0.toNatClampNeg) (fun _ => QO271 p0.toNatClampNeg) (QF272 p0.toNatClampNeg) (va_up (QA273 p0.toNatClampNeg) 19 (upd ((QA273 p0.toNatClampNeg) 19) (10 : Int32).toNatClampNeg (mf270 9))) (fun _ _ => none)]) (sa_Mpr_19 _ _ _ _ _ _ _ _) rfl (fun H locs hw => ?_)
            refine lv_aload_n S.x S.b d_Mo_rawCall_321 rfl (lv_at hl 4 rfl) ?_
            refine lv_aload_n S.x S.b d_Mo_rawCall_322 rfl (lv_at hl 4 rfl) ?_
            refine px_get S k_Mpr hT hw 3 0 11 (v := .int ((QF272 p0.toNatClampNeg) 11)) rfl rfl rfl (by decide) m11_3 d_Mo_rawCall_323 ?_
            refine lv_iconst (v := 4) S.x S.b d_Mo_rawCall_326 (by decide) ?_
            refine lv_iadd S.x S.b d_Mo_rawCall_327 ?_
            have lr297 := Int32.le_toInt ((QF272 p0.toNatClampNeg) 11)
            have ur297 := Int32.toInt_lt ((QF272 p0.toNatClampNeg) 11)
            refine lv_topi (fun z298 ez298 => ?_)
            have tz298 : z298.toInt = (((QF272 p0.toNatClampNeg) 11).toInt + (4 : Int) + 2147483648) % 4294967296 - 2147483648 := by rw [ez298]; exact i_add ((QF272 p0.toNatClampNeg) 11) 4
            have lz298 := Int32.le_toInt z298
            have uz298 := Int32.toInt_lt z298
            try replace tz298 : z298.toInt = ((QF272 p0.toNatClampNeg) 11).toInt + (4 : Int) := by omega
            refine px_put S k_Mpr hT hw 3 0 11 rfl rfl (by decide) m11_3 rfl rfl rfl (Nat.le_of_ble_eq_true rfl) d_Mo_rawCall_328 (w' := wd_Mpr cs (hq p0.toNatClampNeg) (qr p0.toNatClampNeg) (fun _ => QO271 p0.toNatClampNeg) (upd (QF272 p0.toNatClampNeg) 11 z298) (va_up (QA273 p0.toNatClampNeg) 19 (upd ((QA273 p0.toNatClampNeg) 19) (10 : Int32).toNatClampNeg (mf270 9))) (fun _ _ => none)) (ps' := [wd_Mo cs mo mr (fun _ => none) mf270 md (gMo PG hq), fm 8 (fPg cs PG), fo 13 (fPr cs hq qr QO271 QF272 QA273) p0.toNatClampNeg, wd_Mpr cs (hq p0.toNatClampNeg) (qr p0.toNatClampNeg) (fun _ => QO271 p0.toNatClampNeg) (upd (QF272 p0.toNatClampNeg) 11 z298) (va_up (QA273 p0.toNatClampNeg) 19 (upd ((QA273 p0.toNatClampNeg) 19) (10 : Int32).toNatClampNeg (mf270 9))) (fun _ _ => none)]) rfl rfl (fun H locs hw => ?_)
            refine lv_aload_n S.x S.b d_Mo_rawCall_331 rfl (lv_at hl 4 rfl) ?_
            refine lv_dup S.x S.b d_Mo_rawCall_332 rfl ?_
            refine px_get S k_Mpr hT hw 3 0 4 (v := .int ((QF272 p0.toNatClampNeg) 4)) rfl rfl rfl (by decide) m10_230 d_Mo_rawCall_333 ?_
            refine lv_iconst (v := 1) S.x S.b d_Mo_rawCall_336 (by decide) ?_
            refine lv_isub S.x S.b d_Mo_rawCall_337 ?_
            have lr299 := Int32.le_toInt ((QF272 p0.toNatClampNeg) 4)
            have ur299 := Int32.toInt_lt ((QF272 p0.toNatClampNeg) 4)
            refine lv_topi (fun z300 ez300 => ?_)
            have tz300 : z300.toInt = (((QF272 p0.toNatClampNeg) 4).toInt - (1 : Int) + 2147483648) % 4294967296 - 2147483648 := by rw [ez300]; exact i_sub ((QF272 p0.toNatClampNeg) 4) 1
            have lz300 := Int32.le_toInt z300
            have uz300 := Int32.toInt_lt z300
            try replace tz300 : z300.toInt = ((QF272 p0.toNatClampNeg) 4).toInt - (1 : Int) := by omega
            refine px_put S k_Mpr hT hw 3 0 4 rfl rfl (by decide) m10_230 rfl rfl rfl (Nat.le_of_ble_eq_true rfl) d_Mo_rawCall_338 (w' := wd_Mpr cs (hq p0.toNatClampNeg) (qr p0.toNatClampNeg) (fun _ => QO271 p0.toNatClampNeg) (upd (upd (QF272 p0.toNatClampNeg) 4 z300) 11 z298) (va_up (QA273 p0.toNatClampNeg) 19 (upd ((QA273 p0.toNatClampNeg) 19) (10 : Int32).toNatClampNeg (mf270 9))) (fun _ _ => none)) (ps' := [wd_Mo cs mo mr (fun _ => none) mf270 md (gMo PG hq), fm 8 (fPg cs PG), fo 13 (fPr cs hq qr QO271 QF272 QA273) p0.toNatClampNeg, wd_Mpr cs (hq p0.toNatClampNeg) (qr p0.toNatClampNeg) (fun _ => QO271 p0.toNatClampNeg) (upd (upd (QF272 p0.toNatClampNeg) 4 z300) 11 z298) (va_up (QA273 p0.toNatClampNeg) 19 (upd ((QA273 p0.toNatClampNeg) 19) (10 : Int32).toNatClampNeg (mf270 9))) (fun _ _ => none)]) rfl rfl (fun H locs hw => ?_)
            refine lv_iload S.x S.b d_Mo_rawCall_341 (lv_at hl 1 rfl) ?_
            have hw := fpr_in (pr := [wd_Mo cs mo mr (fun _ => none) mf270 md (gMo PG hq), fm 8 (fPg cs PG)]) hw hi287
            obtain ⟨QO301, hu_QO301⟩ : ∃ y : Nat → Option Nat, y = va_up QO271 p0.toNatClampNeg ((fun _ => QO271 p0.toNatClampNeg) 0) := ⟨_, rfl⟩
            obtain ⟨QF302, hu_QF302⟩ : ∃ y : Nat → Nat → Int32, y = va_up QF272 p0.toNatClampNeg (upd (upd (QF272 p0.toNatClampNeg) 4 z300) 11 z298) := ⟨_, rfl⟩
            obtain ⟨QA303, hu_QA303⟩ : ∃ y : Nat → Nat → Nat → Int32, y = va_up QA273 p0.toNatClampNeg (va_up (QA273 p0.toNatClampNeg) 19 (upd ((QA273 p0.toNatClampNeg) 19) (10 : Int32).toNatClampNeg (mf270 9))) := ⟨_, rfl⟩
            have hw : pw D A s.heap _ _ [wd_Mo cs mo mr (fun _ => none) mf270 md (gMo PG hq), fm 8 (fPg cs PG), fm 13 (fPr cs hq qr QO301 QF302 QA303)] := (by rw [hu_QO301, hu_QF302, hu_QA303]; exact hw)
            have hpr : PrA PG (va_up RR p0.toNatClampNeg (RR p0.toNatClampNeg - v275.toInt)) QO301 QF302 QA303 := (by rw [hu_QO301, hu_QF302, hu_QA303]; exact PrA.upR hpr (psr_raw (j := j9) hj9 hqo h66 (show (0 ≤ ((QF272 p0.toNatClampNeg) 1).toInt ∧ ((QF272 p0.toNatClampNeg) 1).toInt ≤ 1) ∧ (0 ≤ ((QF272 p0.toNatClampNeg) 21).toInt ∧ ((QF272 p0.toNatClampNeg) 21).toInt ≤ 4) ∧ (0 ≤ ((QF272 p0.toNatClampNeg) 23).toInt ∧ ((QF272 p0.toNatClampNeg) 23).toInt ≤ 4) ∧ (0 ≤ ((QF272 p0.toNatClampNeg) 24).toInt ∧ ((QF272 p0.toNatClampNeg) 24).toInt ≤ 1000000) ∧ (0 ≤ ((QF272 p0.toNatClampNeg) 6).toInt ∧ ((QF272 p0.toNatClampNeg) 6).toInt ≤ 3) ∧ (0 ≤ ((QF272 p0.toNatClampNeg) 7).toInt ∧ ((QF272 p0.toNatClampNeg) 7).toInt ≤ 1) from by first | with_reducible rfl | with_reducible assumption | omega) (show ((QF272 p0.toNatClampNeg) 1).toInt = 1 from by first | with_reducible rfl | with_reducible assumption | omega) (show 0 ≤ z300.toInt ∧ z300.toInt + 1 ≤ RR p0.toNatClampNeg - v275.toInt ∧ ((QF272 p0.toNatClampNeg) 24).toInt + z300.toInt ≤ 1600 from by first | with_reducible rfl | with_reducible assumption | omega)) (show ((QF272 p0.toNatClampNeg) 1).toInt = (QF272 p0.toNatClampNeg 1).toInt from by first | exact oz_507c05ca68 | omega) (show (QF272 p0.toNatClampNeg 6).toInt ≤ ((QF272 p0.toNatClampNeg) 6).toInt from by first | exact oz_1cb5f934a5 | omega))
            have hqo : OqE (QO301 p0.toNatClampNeg) (PG j9).h := (by rw [hu_QO301, va_up_s]; exact hqo)
            have hqk1_QF302 : (QF302 p0.toNatClampNeg 1).toInt = ((QF272 p0.toNatClampNeg) 1).toInt := (by rw [hu_QF302, va_up_s]; try rfl)
            have hqk2_QF302 : (QF302 p0.toNatClampNeg 2).toInt = ((QF272 p0.toNatClampNeg) 2).toInt := (by rw [hu_QF302, va_up_s]; try rfl)
            have hqk4_QF302 : (QF302 p0.toNatClampNeg 4).toInt = z300.toInt := (by rw [hu_QF302, va_up_s]; try rfl)
            have hqk24_QF302 : (QF302 p0.toNatClampNeg 24).toInt = ((QF272 p0.toNatClampNeg) 24).toInt := (by rw [hu_QF302, va_up_s]; try rfl)
            have hw : pw D A s.heap _ _ [wd_Mo cs mo mr (fun _ => none) mf270 md (gMo PG hq), fm 13 (fPr cs hq qr QO301 QF302 QA303), fm 8 (fPg cs PG)] := hw.sub [0, 2, 1] rfl rfl
            exact px_iret (v := v275) S hr (z_nar (by omega)) hlk hAe hw (Nat.le_of_ble_eq_true rfl) (Nat.le_of_ble_eq_true rfl) (⟨mf270, md, QO301, QF302, QA303, rfl, (show 0 ≤ v275.toInt from by first | exact e284 | omega), (show v275.toInt ≤ 1 from by first | exact e285 | omega), (show PrA PG (va_up RR p0.toNatClampNeg (RR p0.toNatClampNeg - v275.toInt)) QO301 QF302 QA303 from hpr), (show (mf270 0).toInt = (mf 0).toInt from by first | exact e278 | omega), (show (mf270 2).toInt = (mf 2).toInt from by first | exact e279 | omega), (show (mf270 3).toInt = (mf 3).toInt from by first | exact e280 | omega), (show (mf270 7).toInt = (mf 7).toInt from by first | exact e281 | omega), (show (mf270 8).toInt = (mf 8).toInt from by first | exact e282 | omega), (show (mf270 10).toInt = (mf 10).toInt from by first | exact e283 | omega)⟩) d_Mo_rawCall_343
    · simp only [List.mem_cons, List.not_mem_nil, or_false] at c43
      refine lv_aload_n S.x S.b d_Mo_rawCall_218 rfl (lv_at hl 5 rfl) ?_
      refine lv_iload_n S.x S.b d_Mo_rawCall_219 rfl (lv_at hl 6 rfl) ?_
      refine lv_aload_n S.x S.b d_Mo_rawCall_220 rfl (lv_at hl 4 rfl) ?_
      refine px_get S k_Mpr hT hw 3 0 19 (v := .ref ((qr p0.toNatClampNeg) 19)) rfl rfl rfl (by decide) m11_12 d_Mo_rawCall_221 ?_
      refine lv_bipush (v := 17) S.x S.b d_Mo_rawCall_224 (by decide) ?_
      refine px_iald S hT hw 3 7 (n := 32) (f := ((QA p0.toNatClampNeg) 19)) rfl (ga_Mpr_19 _ _ _ _ _ _ _) (x := 17) (vp_in_iff.mpr (by constructor <;> omega)) d_Mo_rawCall_226 ?_
      refine lv_topi (fun z304 ez304 => ?_)
      have lz304 := Int32.le_toInt z304
      have uz304 := Int32.toInt_lt z304
      refine lv_bipush (v := 7) S.x S.b d_Mo_rawCall_227 (by decide) ?_
      refine lv_icmp_ne (tgt := 236) S.x S.b d_Mo_rawCall_229 (by decide) (fun c305 => ?_) (fun c305 => ?_)
      · have nc305 : ¬ z304.toInt = (7 : Int) := mt (i_eq (x := z304) (y := 7)).mpr c305
        refine lv_iconst (v := 0) S.x S.b d_Mo_rawCall_236 (by decide) ?_
        refine lv_iload_n S.x S.b d_Mo_rawCall_237 rfl (lv_at hl 3 rfl) ?_
        refine lv_iload S.x S.b d_Mo_rawCall_238 (lv_at hl 2 rfl) ?_
        refine lv_aload_n S.x S.b d_Mo_rawCall_240 rfl (lv_at hl 4 rfl) ?_
        refine px_get S k_Mpr hT hw 3 0 19 (v := .ref ((qr p0.toNatClampNeg) 19)) rfl rfl rfl (by decide) m11_12 d_Mo_rawCall_241 ?_
        refine lv_bipush (v := 12) S.x S.b d_Mo_rawCall_244 (by decide) ?_
        refine px_iald S hT hw 3 7 (n := 32) (f := ((QA p0.toNatClampNeg) 19)) rfl (ga_Mpr_19 _ _ _ _ _ _ _) (x := 12) (vp_in_iff.mpr (by constructor <;> omega)) d_Mo_rawCall_246 ?_
        refine lv_topi (fun z306 ez306 => ?_)
        have lz306 := Int32.le_toInt z306
        have uz306 := Int32.toInt_lt z306
        have hw : pw D A s.heap _ _ [wd_Mo cs mo mr (fun _ => none) mf md (gMo PG hq), fm 8 (fPg cs PG), fm 13 (fPr cs hq qr QO QF QA)] := fm_back (pr := [wd_Mo cs mo mr (fun _ => none) mf md (gMo PG hq), fm 8 (fPg cs PG)]) (T := fPr cs hq qr QO QF QA) hw hi1
        have hw : pw D A s.heap _ _ [wd_Mo cs mo mr (fun _ => none) mf md (gMo PG hq), fm 13 (fPr cs hq qr QO QF QA), fm 8 (fPg cs PG)] := hw.sub [0, 2, 1] rfl rfl
        refine px_callv (pr := []) (px_runV (As := [.int p0, .int 0, .int z2, .int z3, .int z306]) (rest := []) S (c_mo_moveWords l D cs RR j9 mo mr mf md hq qr QO QF QA PG p0 0 z2 z3 z306  (show 0 ≤ p0.toInt from by first | exact g0 | omega) (show p0.toInt < 13 from by first | exact g1 | omega) (show (QF p0.toNatClampNeg 1).toInt = 1 from by first | exact g6 | omega) (show (QF p0.toNatClampNeg 2).toInt = -2 from by first | exact g7 | omega) hpr hpg hj9 h66 hqo hrw _) hT (pr := []) (pcs := [wd_Mo cs mo mr (fun _ => none) mf md (gMo PG hq), fm 13 (fPr cs hq qr QO QF QA), fm 8 (fPg cs PG)]) hw (oX_call (P := (fun A U H => (∀ j : Nat, j < 8 → oP A (PG j).g U H))) (pr := []) oG_G hw hA hGG) (px_recv hT hw 0 0 rfl rfl rfl) m14_90 m14_87 m14_89 ms_16_7 m1_20 q_Mo_moveWords ⟨Nat.le_of_ble_eq_true rfl, Nat.le_of_ble_eq_true rfl⟩ hl.1 rfl (Nat.le_of_ble_eq_true rfl) d_Mo_rawCall_247 ⟨Nat.le_of_ble_eq_true rfl, Nat.le_of_ble_eq_true rfl⟩) hw hA (fun p317 H locs hp317 hw => ?_)
        obtain ⟨mf312, md313, QO314, QF315, QA316, rfl, e319, e320, e321, e322, e323, e324, e325, e326, e327, e328⟩ := hp317
        replace e319 : PrA PG RR QO314 QF315 QA316 := e319
        have hpr := e319
        replace e320 : OqE (QO314 p0.toNatClampNeg) (PG j9).h := e320
        have hqo := e320
        replace e321 : KpW QO QF QO314 QF315 p0.toNatClampNeg := e321
        have hkw := e321
        have hkf := hkw.2
        unfold KpF at hkf
        replace e322 : (mf312 0).toInt = (mf 0).toInt := e322
        replace e323 : (mf312 2).toInt = (mf 2).toInt := e323
        replace e324 : (mf312 3).toInt = (mf 3).toInt := e324
        replace e325 : (mf312 7).toInt = (mf 7).toInt := e325
        replace e326 : (mf312 8).toInt = (mf 8).toInt := e326
        replace e327 : (mf312 9).toInt = (mf 9).toInt := e327
        replace e328 : (mf312 10).toInt = (mf 10).toInt := e328
        replace hw : pw D A s.heap H locs [wd_Mo cs mo mr (fun _ => none) mf312 md313 (gMo PG hq), fm 13 (fPr cs hq qr QO314 QF315 QA316), fm 8 (fPg cs PG)] := hw
        refine lv_goto (tgt := 289) S.x S.b d_Mo_rawCall_250 (by decide) ?_
        refine lv_iload S.x S.b d_Mo_rawCall_289 (lv_at hl 1 rfl) ?_
        refine lv_if_eq (tgt := 341) S.x S.b d_Mo_rawCall_291 (by decide) (fun c329 => ?_) (fun c329 => ?_)
        · exact absurd c329 (by decide)
        ·
          refine lv_aload_n S.x S.b d_Mo_rawCall_294 rfl (lv_at hl 4 rfl) ?_
          have hw : pw D A s.heap _ _ [wd_Mo cs mo mr (fun _ => none) mf312 md313 (gMo PG hq), fm 8 (fPg cs PG), fm 13 (fPr cs hq qr QO314 QF315 QA316)] := hw.sub [0, 2, 1] rfl rfl
          have hc330 := cl_nat (x := p0) (by first | exact g0 | omega)
          have hi330 : p0.toNatClampNeg < 13 := by first | exact hi1 | omega
          have hw : pw D A s.heap _ _ [wd_Mo cs mo mr (fun _ => none) mf312 md313 (gMo PG hq), fm 8 (fPg cs PG), fo 13 (fPr cs hq qr QO314 QF315 QA316) p0.toNatClampNeg, wd_Mpr cs (hq p0.toNatClampNeg) (qr p0.toNatClampNeg) (fun _ => QO314 p0.toNatClampNeg) (QF315 p0.toNatClampNeg) (QA316 p0.toNatClampNeg) (fun _ _ => none)] := fm_out (pr := [wd_Mo cs mo mr (fun _ => none) mf312 md313 (gMo PG hq), fm 8 (fPg cs PG)]) (T := fPr cs hq qr QO314 QF315 QA316) hw hi330
          have hps330 := hpr.1 p0.toNatClampNeg hi330
          have hpb330 := hps330.1
          unfold PsB at hpb330
          refine px_calli (pr := [wd_Mo cs mo mr (fun _ => none) mf312 md313 (gMo PG hq), fm 8 (fPg cs PG), fo 13 (fPr cs hq qr QO314 QF315 QA316) p0.toNatClampNeg]) (px_runV (As := []) (rest := []) S (c_mq_isGoing l D cs (hq p0.toNatClampNeg) (qr p0.toNatClampNeg) (fun _ _ => none) (fun _ => QO314 p0.toNatClampNeg) (QF315 p0.toNatClampNeg) (QA316 p0.toNatClampNeg)    _) hT (pr := [wd_Mo cs mo mr (fun _ => none) mf312 md313 (gMo PG hq), fm 8 (fPg cs PG), fo 13 (fPr cs hq qr QO314 QF315 QA316) p0.toNatClampNeg]) (pcs := [wd_Mpr cs (hq p0.toNatClampNeg) (qr p0.toNatClampNeg) (fun _ => QO314 p0.toNatClampNeg) (QF315 p0.toNatClampNeg) (QA316 p0.toNatClampNeg) (fun _ _ => none)]) hw px_X.tt (px_recv hT hw 3 0 rfl rfl rfl) m13_165 m13_162 m13_163 m13_164 m1_22 q_Mpr_isGoing ⟨Nat.le_of_ble_eq_true rfl, Nat.le_of_ble_eq_true rfl⟩ hl.1 rfl (Nat.le_of_ble_eq_true rfl) d_Mo_rawCall_295 ⟨Nat.le_of_ble_eq_true rfl, Nat.le_of_ble_eq_true rfl⟩) hw hA (fun v332 p331 H locs hp331 hw => ?_)
          obtain ⟨rfl, e333, e334, e335, e336, e337⟩ := hp331
          replace e333 : 0 ≤ v332.toInt := e333
          replace e334 : v332.toInt ≤ 1 := e334
          replace e335 : v332.toInt = 1 → ((QF315 p0.toNatClampNeg) 1).toInt ≠ 0 := e335
          replace e336 : v332.toInt = 1 → ((QF315 p0.toNatClampNeg) 2).toInt = -2 := e336
          replace e337 : ((QF315 p0.toNatClampNeg) 1).toInt ≠ 0 → ((QF315 p0.toNatClampNeg) 2).toInt = -2 → v332.toInt = 1 := e337
          replace hw : pw D A s.heap H locs [wd_Mo cs mo mr (fun _ => none) mf312 md313 (gMo PG hq), fm 8 (fPg cs PG), fo 13 (fPr cs hq qr QO314 QF315 QA316) p0.toNatClampNeg, wd_Mpr cs (hq p0.toNatClampNeg) (qr p0.toNatClampNeg) (fun _ => QO314 p0.toNatClampNeg) (QF315 p0.toNatClampNeg) (QA316 p0.toNatClampNeg) (fun _ _ => none)] := hw
          have lv332 := Int32.le_toInt v332
          have uv332 := Int32.toInt_lt v332
          refine lv_if_eq (tgt := 341) S.x S.b d_Mo_rawCall_298 (by decide) (fun c338 => ?_) (fun c338 => ?_)
          · have nc338 : v332.toInt = (0 : Int) := (i_eq (x := v332) (y := 0)).mp c338
            refine lv_iload S.x S.b d_Mo_rawCall_341 (lv_at hl 1 rfl) ?_
            have hw : pw D A s.heap _ _ [wd_Mo cs mo mr (fun _ => none) mf312 md313 (gMo PG hq), fm 8 (fPg cs PG), fm 13 (fPr cs hq qr QO314 QF315 QA316)] := fm_back (pr := [wd_Mo cs mo mr (fun _ => none) mf312 md313 (gMo PG hq), fm 8 (fPg cs PG)]) (T := fPr cs hq qr QO314 QF315 QA316) hw hi330
            have hw : pw D A s.heap _ _ [wd_Mo cs mo mr (fun _ => none) mf312 md313 (gMo PG hq), fm 13 (fPr cs hq qr QO314 QF315 QA316), fm 8 (fPg cs PG)] := hw.sub [0, 2, 1] rfl rfl
            exact px_iret (v := 1) S hr rfl hlk hAe hw (Nat.le_of_ble_eq_true rfl) (Nat.le_of_ble_eq_true rfl) (⟨mf312, md313, QO314, QF315, QA316, rfl, (show 0 ≤ (1 : Int) from by first | decide | omega), (show (1 : Int) ≤ 1 from by first | decide | omega), (show PrA PG (va_up RR p0.toNatClampNeg (RR p0.toNatClampNeg - (1 : Int))) QO314 QF315 QA316 from (hpr.low (by omega) (by omega) (by omega) (by have q9 := cl_nat (x := p0) (by first | exact g0 | omega); omega))), (show (mf312 0).toInt = (mf 0).toInt from by first | exact e322 | omega), (show (mf312 2).toInt = (mf 2).toInt from by first | exact e323 | omega), (show (mf312 3).toInt = (mf 3).toInt from by first | exact e324 | omega), (show (mf312 7).toInt = (mf 7).toInt from by first | exact e325 | omega), (show (mf312 8).toInt = (mf 8).toInt from by first | exact e326 | omega), (show (mf312 10).toInt = (mf 10).toInt from by first | exact e328 | omega)⟩) d_Mo_rawCall_343
          · have nc338 : ¬ v332.toInt = (0 : Int) := mt (i_eq (x := v332) (y := 0)).mpr c338
            refine lv_aload_n S.x S.b d_Mo_rawCall_301 rfl (lv_at hl 4 rfl) ?_
            refine px_get S k_Mpr hT hw 3 0 19 (v := .ref ((qr p0.toNatClampNeg) 19)) rfl rfl rfl (by decide) m11_12 d_Mo_rawCall_302 ?_
            refine lv_bipush (v := 10) S.x S.b d_Mo_rawCall_305 (by decide) ?_
            refine lv_iload S.x S.b d_Mo_rawCall_307 (lv_at hl 0 rfl) ?_
            refine lv_if_eq (tgt := 319) S.x S.b d_Mo_rawCall_309 (by decide) (fun c339 => ?_) (fun c339 => ?_)
            ·
              refine lv_iload_n S.x S.b d_Mo_rawCall_319 rfl (lv_at hl 3 rfl) ?_
              refine px_iast S hT hw 3 7 (n := 32) (f := ((QA316 p0.toNatClampNeg) 19)) (x := 10) (y := z2) rfl (ga_Mpr_19 _ _ _ _ _ _ _) (vp_in_iff.mpr (by constructor <;> omega)) d_Mo_rawCall_320 (w' := wd_Mpr cs (hq p0.toNatClampNeg) (qr p0.toNatClampNeg) (fun _ => QO314 p0.toNatClampNeg) (QF315 p0.toNatClampNeg) (va_up (QA316 p0.toNatClampNeg) 19 (upd ((QA316 p0.toNatClampNeg) 19) (10 : Int32).toNatClampNeg z2)) (fun _ _ => none)) (ps' := [wd_Mo cs mo mr (fun _ => none) mf312 md313 (gMo PG hq), fm 8 (fPg cs PG), fo 13 (fPr cs hq qr QO314 QF315 QA316) p0.toNatClampNeg, wd_Mpr cs (hq p0.toNatClampNeg) (qr p0.toNatClampNeg) (fun _ => QO314 p0.toNatClampNeg) (QF315 p0.toNatClampNeg) (va_up (QA316 p0.toNatClampNeg) 19 (upd ((QA316 p0.toNatClampNeg) 19) (10 : Int32).toNatClampNeg z2)) (fun _ _ => none)]) (sa_Mpr_19 _ _ _ _ _ _ _ _) rfl (fun H locs hw => ?_)
              refine lv_aload_n S.x S.b d_Mo_rawCall_321 rfl (lv_at hl 4 rfl) ?_
              refine lv_aload_n S.x S.b d_Mo_rawCall_322 rfl (lv_at hl 4 rfl) ?_
              refine px_get S k_Mpr hT hw 3 0 11 (v := .int ((QF315 p0.toNatClampNeg) 11)) rfl rfl rfl (by decide) m11_3 d_Mo_rawCall_323 ?_
              refine lv_iconst (v := 4) S.x S.b d_Mo_rawCall_326 (by decide) ?_
              refine lv_iadd S.x S.b d_Mo_rawCall_327 ?_
              have lr340 := Int32.le_toInt ((QF315 p0.toNatClampNeg) 11)
              have ur340 := Int32.toInt_lt ((QF315 p0.toNatClampNeg) 11)
              refine lv_topi (fun z341 ez341 => ?_)
              have tz341 : z341.toInt = (((QF315 p0.toNatClampNeg) 11).toInt + (4 : Int) + 2147483648) % 4294967296 - 2147483648 := by rw [ez341]; exact i_add ((QF315 p0.toNatClampNeg) 11) 4
              have lz341 := Int32.le_toInt z341
              have uz341 := Int32.toInt_lt z341
              try replace tz341 : z341.toInt = ((QF315 p0.toNatClampNeg) 11).toInt + (4 : Int) := by omega
              refine px_put S k_Mpr hT hw 3 0 11 rfl rfl (by decide) m11_3 rfl rfl rfl (Nat.le_of_ble_eq_true rfl) d_Mo_rawCall_328 (w' := wd_Mpr cs (hq p0.toNatClampNeg) (qr p0.toNatClampNeg) (fun _ => QO314 p0.toNatClampNeg) (upd (QF315 p0.toNatClampNeg) 11 z341) (va_up (QA316 p0.toNatClampNeg) 19 (upd ((QA316 p0.toNatClampNeg) 19) (10 : Int32).toNatClampNeg z2)) (fun _ _ => none)) (ps' := [wd_Mo cs mo mr (fun _ => none) mf312 md313 (gMo PG hq), fm 8 (fPg cs PG), fo 13 (fPr cs hq qr QO314 QF315 QA316) p0.toNatClampNeg, wd_Mpr cs (hq p0.toNatClampNeg) (qr p0.toNatClampNeg) (fun _ => QO314 p0.toNatClampNeg) (upd (QF315 p0.toNatClampNeg) 11 z341) (va_up (QA316 p0.toNatClampNeg) 19 (upd ((QA316 p0.toNatClampNeg) 19) (10 : Int32).toNatClampNeg z2)) (fun _ _ => none)]) rfl rfl (fun H locs hw => ?_)
              refine lv_aload_n S.x S.b d_Mo_rawCall_331 rfl (lv_at hl 4 rfl) ?_
              refine lv_dup S.x S.b d_Mo_rawCall_332 rfl ?_
              refine px_get S k_Mpr hT hw 3 0 4 (v := .int ((QF315 p0.toNatClampNeg) 4)) rfl rfl rfl (by decide) m10_230 d_Mo_rawCall_333 ?_
              refine lv_iconst (v := 1) S.x S.b d_Mo_rawCall_336 (by decide) ?_
              refine lv_isub S.x S.b d_Mo_rawCall_337 ?_
              have lr342 := Int32.le_toInt ((QF315 p0.toNatClampNeg) 4)
              have ur342 := Int32.toInt_lt ((QF315 p0.toNatClampNeg) 4)
              refine lv_topi (fun z343 ez343 => ?_)
              have tz343 : z343.toInt = (((QF315 p0.toNatClampNeg) 4).toInt - (1 : Int) + 2147483648) % 4294967296 - 2147483648 := by rw [ez343]; exact i_sub ((QF315 p0.toNatClampNeg) 4) 1
              have lz343 := Int32.le_toInt z343
              have uz343 := Int32.toInt_lt z343
              try replace tz343 : z343.toInt = ((QF315 p0.toNatClampNeg) 4).toInt - (1 : Int) := by omega
              refine px_put S k_Mpr hT hw 3 0 4 rfl rfl (by decide) m10_230 rfl rfl rfl (Nat.le_of_ble_eq_true rfl) d_Mo_rawCall_338 (w' := wd_Mpr cs (hq p0.toNatClampNeg) (qr p0.toNatClampNeg) (fun _ => QO314 p0.toNatClampNeg) (upd (upd (QF315 p0.toNatClampNeg) 4 z343) 11 z341) (va_up (QA316 p0.toNatClampNeg) 19 (upd ((QA316 p0.toNatClampNeg) 19) (10 : Int32).toNatClampNeg z2)) (fun _ _ => none)) (ps' := [wd_Mo cs mo mr (fun _ => none) mf312 md313 (gMo PG hq), fm 8 (fPg cs PG), fo 13 (fPr cs hq qr QO314 QF315 QA316) p0.toNatClampNeg, wd_Mpr cs (hq p0.toNatClampNeg) (qr p0.toNatClampNeg) (fun _ => QO314 p0.toNatClampNeg) (upd (upd (QF315 p0.toNatClampNeg) 4 z343) 11 z341) (va_up (QA316 p0.toNatClampNeg) 19 (upd ((QA316 p0.toNatClampNeg) 19) (10 : Int32).toNatClampNeg z2)) (fun _ _ => none)]) rfl rfl (fun H locs hw => ?_)
              refine lv_iload S.x S.b d_Mo_rawCall_341 (lv_at hl 1 rfl) ?_
              have hw := fpr_in (pr := [wd_Mo cs mo mr (fun _ => none) mf312 md313 (gMo PG hq), fm 8 (fPg cs PG)]) hw hi330
              obtain ⟨QO344, hu_QO344⟩ : ∃ y : Nat → Option Nat, y = va_up QO314 p0.toNatClampNeg ((fun _ => QO314 p0.toNatClampNeg) 0) := ⟨_, rfl⟩
              obtain ⟨QF345, hu_QF345⟩ : ∃ y : Nat → Nat → Int32, y = va_up QF315 p0.toNatClampNeg (upd (upd (QF315 p0.toNatClampNeg) 4 z343) 11 z341) := ⟨_, rfl⟩
              obtain ⟨QA346, hu_QA346⟩ : ∃ y : Nat → Nat → Nat → Int32, y = va_up QA316 p0.toNatClampNeg (va_up (QA316 p0.toNatClampNeg) 19 (upd ((QA316 p0.toNatClampNeg) 19) (10 : Int32).toNatClampNeg z2)) := ⟨_, rfl⟩
              have hw : pw D A s.heap _ _ [wd_Mo cs mo mr (fun _ => none) mf312 md313 (gMo PG hq), fm 8 (fPg cs PG), fm 13 (fPr cs hq qr QO344 QF345 QA346)] := (by rw [hu_QO344, hu_QF345, hu_QA346]; exact hw)
              have hpr : PrA PG (va_up RR p0.toNatClampNeg (RR p0.toNatClampNeg - (1 : Int))) QO344 QF345 QA346 := (by rw [hu_QO344, hu_QF345, hu_QA346]; exact PrA.upR hpr (psr_raw (j := j9) hj9 hqo h66 (show (0 ≤ ((QF315 p0.toNatClampNeg) 1).toInt ∧ ((QF315 p0.toNatClampNeg) 1).toInt ≤ 1) ∧ (0 ≤ ((QF315 p0.toNatClampNeg) 21).toInt ∧ ((QF315 p0.toNatClampNeg) 21).toInt ≤ 4) ∧ (0 ≤ ((QF315 p0.toNatClampNeg) 23).toInt ∧ ((QF315 p0.toNatClampNeg) 23).toInt ≤ 4) ∧ (0 ≤ ((QF315 p0.toNatClampNeg) 24).toInt ∧ ((QF315 p0.toNatClampNeg) 24).toInt ≤ 1000000) ∧ (0 ≤ ((QF315 p0.toNatClampNeg) 6).toInt ∧ ((QF315 p0.toNatClampNeg) 6).toInt ≤ 3) ∧ (0 ≤ ((QF315 p0.toNatClampNeg) 7).toInt ∧ ((QF315 p0.toNatClampNeg) 7).toInt ≤ 1) from by first | with_reducible rfl | with_reducible assumption | omega) (show ((QF315 p0.toNatClampNeg) 1).toInt = 1 from by first | with_reducible rfl | with_reducible assumption | omega) (show 0 ≤ z343.toInt ∧ z343.toInt + 1 ≤ RR p0.toNatClampNeg - (1 : Int) ∧ ((QF315 p0.toNatClampNeg) 24).toInt + z343.toInt ≤ 1600 from by first | with_reducible rfl | with_reducible assumption | omega)) (show ((QF315 p0.toNatClampNeg) 1).toInt = (QF315 p0.toNatClampNeg 1).toInt from by first | exact oz_507c05ca68 | omega) (show (QF315 p0.toNatClampNeg 6).toInt ≤ ((QF315 p0.toNatClampNeg) 6).toInt from by first | exact oz_1cb5f934a5 | omega))
              have hqo : OqE (QO344 p0.toNatClampNeg) (PG j9).h := (by rw [hu_QO344, va_up_s]; exact hqo)
              have hqk1_QF345 : (QF345 p0.toNatClampNeg 1).toInt = ((QF315 p0.toNatClampNeg) 1).toInt := (by rw [hu_QF345, va_up_s]; try rfl)
              have hqk2_QF345 : (QF345 p0.toNatClampNeg 2).toInt = ((QF315 p0.toNatClampNeg) 2).toInt := (by rw [hu_QF345, va_up_s]; try rfl)
              have hqk4_QF345 : (QF345 p0.toNatClampNeg 4).toInt = z343.toInt := (by rw [hu_QF345, va_up_s]; try rfl)
              have hqk24_QF345 : (QF345 p0.toNatClampNeg 24).toInt = ((QF315 p0.toNatClampNeg) 24).toInt := (by rw [hu_QF345, va_up_s]; try rfl)
              have hw : pw D A s.heap _ _ [wd_Mo cs mo mr (fun _ => none) mf312 md313 (gMo PG hq), fm 13 (fPr cs hq qr QO344 QF345 QA346), fm 8 (fPg cs PG)] := hw.sub [0, 2, 1] rfl rfl
              exact px_iret (v := 1) S hr rfl hlk hAe hw (Nat.le_of_ble_eq_true rfl) (Nat.le_of_ble_eq_true rfl) (⟨mf312, md313, QO344, QF345, QA346, rfl, (show 0 ≤ (1 : Int) from by first | decide | omega), (show (1 : Int) ≤ 1 from by first | decide | omega), (show PrA PG (va_up RR p0.toNatClampNeg (RR p0.toNatClampNeg - (1 : Int))) QO344 QF345 QA346 from hpr), (show (mf312 0).toInt = (mf 0).toInt from by first | exact e322 | omega), (show (mf312 2).toInt = (mf 2).toInt from by first | exact e323 | omega), (show (mf312 3).toInt = (mf 3).toInt from by first | exact e324 | omega), (show (mf312 7).toInt = (mf 7).toInt from by first | exact e325 | omega), (show (mf312 8).toInt = (mf 8).toInt from by first | exact e326 | omega), (show (mf312 10).toInt = (mf 10).toInt from by first | exact e328 | omega)⟩) d_Mo_rawCall_343
            · exact absurd c339 (by decide)
      · have nc305 : z304.toInt = (7 : Int) := (i_eq (x := z304) (y := 7)).mp c305
        refine lv_iconst (v := 1) S.x S.b d_Mo_rawCall_232 (by decide) ?_
        refine lv_goto (tgt := 237) S.x S.b d_Mo_rawCall_233 (by decide) ?_
        refine lv_iload_n S.x S.b d_Mo_rawCall_237 rfl (lv_at hl 3 rfl) ?_
        refine lv_iload S.x S.b d_Mo_rawCall_238 (lv_at hl 2 rfl) ?_
        refine lv_aload_n S.x S.b d_Mo_rawCall_240 rfl (lv_at hl 4 rfl) ?_
        refine px_get S k_Mpr hT hw 3 0 19 (v := .ref ((qr p0.toNatClampNeg) 19)) rfl rfl rfl (by decide) m11_12 d_Mo_rawCall_241 ?_
        refine lv_bipush (v := 12) S.x S.b d_Mo_rawCall_244 (by decide) ?_
        refine px_iald S hT hw 3 7 (n := 32) (f := ((QA p0.toNatClampNeg) 19)) rfl (ga_Mpr_19 _ _ _ _ _ _ _) (x := 12) (vp_in_iff.mpr (by constructor <;> omega)) d_Mo_rawCall_246 ?_
        refine lv_topi (fun z347 ez347 => ?_)
        have lz347 := Int32.le_toInt z347
        have uz347 := Int32.toInt_lt z347
        have hw : pw D A s.heap _ _ [wd_Mo cs mo mr (fun _ => none) mf md (gMo PG hq), fm 8 (fPg cs PG), fm 13 (fPr cs hq qr QO QF QA)] := fm_back (pr := [wd_Mo cs mo mr (fun _ => none) mf md (gMo PG hq), fm 8 (fPg cs PG)]) (T := fPr cs hq qr QO QF QA) hw hi1
        have hw : pw D A s.heap _ _ [wd_Mo cs mo mr (fun _ => none) mf md (gMo PG hq), fm 13 (fPr cs hq qr QO QF QA), fm 8 (fPg cs PG)] := hw.sub [0, 2, 1] rfl rfl
        refine px_callv (pr := []) (px_runV (As := [.int p0, .int 1, .int z2, .int z3, .int z347]) (rest := []) S (c_mo_moveWords l D cs RR j9 mo mr mf md hq qr QO QF QA PG p0 1 z2 z3 z347  (show 0 ≤ p0.toInt from by first | exact g0 | omega) (show p0.toInt < 13 from by first | exact g1 | omega) (show (QF p0.toNatClampNeg 1).toInt = 1 from by first | exact g6 | omega) (show (QF p0.toNatClampNeg 2).toInt = -2 from by first | exact g7 | omega) hpr hpg hj9 h66 hqo hrw _) hT (pr := []) (pcs := [wd_Mo cs mo mr (fun _ => none) mf md (gMo PG hq), fm 13 (fPr cs hq qr QO QF QA), fm 8 (fPg cs PG)]) hw (oX_call (P := (fun A U H => (∀ j : Nat, j < 8 → oP A (PG j).g U H))) (pr := []) oG_G hw hA hGG) (px_recv hT hw 0 0 rfl rfl rfl) m14_90 m14_87 m14_89 ms_16_7 m1_20 q_Mo_moveWords ⟨Nat.le_of_ble_eq_true rfl, Nat.le_of_ble_eq_true rfl⟩ hl.1 rfl (Nat.le_of_ble_eq_true rfl) d_Mo_rawCall_247 ⟨Nat.le_of_ble_eq_true rfl, Nat.le_of_ble_eq_true rfl⟩) hw hA (fun p358 H locs hp358 hw => ?_)
        obtain ⟨mf353, md354, QO355, QF356, QA357, rfl, e360, e361, e362, e363, e364, e365, e366, e367, e368, e369⟩ := hp358
        replace e360 : PrA PG RR QO355 QF356 QA357 := e360
        have hpr := e360
        replace e361 : OqE (QO355 p0.toNatClampNeg) (PG j9).h := e361
        have hqo := e361
        replace e362 : KpW QO QF QO355 QF356 p0.toNatClampNeg := e362
        have hkw := e362
        have hkf := hkw.2
        unfold KpF at hkf
        replace e363 : (mf353 0).toInt = (mf 0).toInt := e363
        replace e364 : (mf353 2).toInt = (mf 2).toInt := e364
        replace e365 : (mf353 3).toInt = (mf 3).toInt := e365
        replace e366 : (mf353 7).toInt = (mf 7).toInt := e366
        replace e367 : (mf353 8).toInt = (mf 8).toInt := e367
        replace e368 : (mf353 9).toInt = (mf 9).toInt := e368
        replace e369 : (mf353 10).toInt = (mf 10).toInt := e369
        replace hw : pw D A s.heap H locs [wd_Mo cs mo mr (fun _ => none) mf353 md354 (gMo PG hq), fm 13 (fPr cs hq qr QO355 QF356 QA357), fm 8 (fPg cs PG)] := hw
        refine lv_goto (tgt := 289) S.x S.b d_Mo_rawCall_250 (by decide) ?_
        refine lv_iload S.x S.b d_Mo_rawCall_289 (lv_at hl 1 rfl) ?_
        refine lv_if_eq (tgt := 341) S.x S.b d_Mo_rawCall_291 (by decide) (fun c370 => ?_) (fun c370 => ?_)
        · exact absurd c370 (by decide)
        ·
          refine lv_aload_n S.x S.b d_Mo_rawCall_294 rfl (lv_at hl 4 rfl) ?_
          have hw : pw D A s.heap _ _ [wd_Mo cs mo mr (fun _ => none) mf353 md354 (gMo PG hq), fm 8 (fPg cs PG), fm 13 (fPr cs hq qr QO355 QF356 QA357)] := hw.sub [0, 2, 1] rfl rfl
          have hc371 := cl_nat (x := p0) (by first | exact g0 | omega)
          have hi371 : p0.toNatClampNeg < 13 := by first | exact hi1 | omega
          have hw : pw D A s.heap _ _ [wd_Mo cs mo mr (fun _ => none) mf353 md354 (gMo PG hq), fm 8 (fPg cs PG), fo 13 (fPr cs hq qr QO355 QF356 QA357) p0.toNatClampNeg, wd_Mpr cs (hq p0.toNatClampNeg) (qr p0.toNatClampNeg) (fun _ => QO355 p0.toNatClampNeg) (QF356 p0.toNatClampNeg) (QA357 p0.toNatClampNeg) (fun _ _ => none)] := fm_out (pr := [wd_Mo cs mo mr (fun _ => none) mf353 md354 (gMo PG hq), fm 8 (fPg cs PG)]) (T := fPr cs hq qr QO355 QF356 QA357) hw hi371
          have hps371 := hpr.1 p0.toNatClampNeg hi371
          have hpb371 := hps371.1
          unfold PsB at hpb371
          refine px_calli (pr := [wd_Mo cs mo mr (fun _ => none) mf353 md354 (gMo PG hq), fm 8 (fPg cs PG), fo 13 (fPr cs hq qr QO355 QF356 QA357) p0.toNatClampNeg]) (px_runV (As := []) (rest := []) S (c_mq_isGoing l D cs (hq p0.toNatClampNeg) (qr p0.toNatClampNeg) (fun _ _ => none) (fun _ => QO355 p0.toNatClampNeg) (QF356 p0.toNatClampNeg) (QA357 p0.toNatClampNeg)    _) hT (pr := [wd_Mo cs mo mr (fun _ => none) mf353 md354 (gMo PG hq), fm 8 (fPg cs PG), fo 13 (fPr cs hq qr QO355 QF356 QA357) p0.toNatClampNeg]) (pcs := [wd_Mpr cs (hq p0.toNatClampNeg) (qr p0.toNatClampNeg) (fun _ => QO355 p0.toNatClampNeg) (QF356 p0.toNatClampNeg) (QA357 p0.toNatClampNeg) (fun _ _ => none)]) hw px_X.tt (px_recv hT hw 3 0 rfl rfl rfl) m13_165 m13_162 m13_163 m13_164 m1_22 q_Mpr_isGoing ⟨Nat.le_of_ble_eq_true rfl, Nat.le_of_ble_eq_true rfl⟩ hl.1 rfl (Nat.le_of_ble_eq_true rfl) d_Mo_rawCall_295 ⟨Nat.le_of_ble_eq_true rfl, Nat.le_of_ble_eq_true rfl⟩) hw hA (fun v373 p372 H locs hp372 hw => ?_)
          obtain ⟨rfl, e374, e375, e376, e377, e378⟩ := hp372
          replace e374 : 0 ≤ v373.toInt := e374
          replace e375 : v373.toInt ≤ 1 := e375
          replace e376 : v373.toInt = 1 → ((QF356 p0.toNatClampNeg) 1).toInt ≠ 0 := e376
          replace e377 : v373.toInt = 1 → ((QF356 p0.toNatClampNeg) 2).toInt = -2 := e377
          replace e378 : ((QF356 p0.toNatClampNeg) 1).toInt ≠ 0 → ((QF356 p0.toNatClampNeg) 2).toInt = -2 → v373.toInt = 1 := e378
          replace hw : pw D A s.heap H locs [wd_Mo cs mo mr (fun _ => none) mf353 md354 (gMo PG hq), fm 8 (fPg cs PG), fo 13 (fPr cs hq qr QO355 QF356 QA357) p0.toNatClampNeg, wd_Mpr cs (hq p0.toNatClampNeg) (qr p0.toNatClampNeg) (fun _ => QO355 p0.toNatClampNeg) (QF356 p0.toNatClampNeg) (QA357 p0.toNatClampNeg) (fun _ _ => none)] := hw
          have lv373 := Int32.le_toInt v373
          have uv373 := Int32.toInt_lt v373
          refine lv_if_eq (tgt := 341) S.x S.b d_Mo_rawCall_298 (by decide) (fun c379 => ?_) (fun c379 => ?_)
          · have nc379 : v373.toInt = (0 : Int) := (i_eq (x := v373) (y := 0)).mp c379
            refine lv_iload S.x S.b d_Mo_rawCall_341 (lv_at hl 1 rfl) ?_
            have hw : pw D A s.heap _ _ [wd_Mo cs mo mr (fun _ => none) mf353 md354 (gMo PG hq), fm 8 (fPg cs PG), fm 13 (fPr cs hq qr QO355 QF356 QA357)] := fm_back (pr := [wd_Mo cs mo mr (fun _ => none) mf353 md354 (gMo PG hq), fm 8 (fPg cs PG)]) (T := fPr cs hq qr QO355 QF356 QA357) hw hi371
            have hw : pw D A s.heap _ _ [wd_Mo cs mo mr (fun _ => none) mf353 md354 (gMo PG hq), fm 13 (fPr cs hq qr QO355 QF356 QA357), fm 8 (fPg cs PG)] := hw.sub [0, 2, 1] rfl rfl
            exact px_iret (v := 1) S hr rfl hlk hAe hw (Nat.le_of_ble_eq_true rfl) (Nat.le_of_ble_eq_true rfl) (⟨mf353, md354, QO355, QF356, QA357, rfl, (show 0 ≤ (1 : Int) from by first | decide | omega), (show (1 : Int) ≤ 1 from by first | decide | omega), (show PrA PG (va_up RR p0.toNatClampNeg (RR p0.toNatClampNeg - (1 : Int))) QO355 QF356 QA357 from (hpr.low (by omega) (by omega) (by omega) (by have q9 := cl_nat (x := p0) (by first | exact g0 | omega); omega))), (show (mf353 0).toInt = (mf 0).toInt from by first | exact e363 | omega), (show (mf353 2).toInt = (mf 2).toInt from by first | exact e364 | omega), (show (mf353 3).toInt = (mf 3).toInt from by first | exact e365 | omega), (show (mf353 7).toInt = (mf 7).toInt from by first | exact e366 | omega), (show (mf353 8).toInt = (mf 8).toInt from by first | exact e367 | omega), (show (mf353 10).toInt = (mf 10).toInt from by first | exact e369 | omega)⟩) d_Mo_rawCall_343
          · have nc379 : ¬ v373.toInt = (0 : Int) := mt (i_eq (x := v373) (y := 0)).mpr c379
            refine lv_aload_n S.x S.b d_Mo_rawCall_301 rfl (lv_at hl 4 rfl) ?_
            refine px_get S k_Mpr hT hw 3 0 19 (v := .ref ((qr p0.toNatClampNeg) 19)) rfl rfl rfl (by decide) m11_12 d_Mo_rawCall_302 ?_
            refine lv_bipush (v := 10) S.x S.b d_Mo_rawCall_305 (by decide) ?_
            refine lv_iload S.x S.b d_Mo_rawCall_307 (lv_at hl 0 rfl) ?_
            refine lv_if_eq (tgt := 319) S.x S.b d_Mo_rawCall_309 (by decide) (fun c380 => ?_) (fun c380 => ?_)
            ·
              refine lv_iload_n S.x S.b d_Mo_rawCall_319 rfl (lv_at hl 3 rfl) ?_
              refine px_iast S hT hw 3 7 (n := 32) (f := ((QA357 p0.toNatClampNeg) 19)) (x := 10) (y := z2) rfl (ga_Mpr_19 _ _ _ _ _ _ _) (vp_in_iff.mpr (by constructor <;> omega)) d_Mo_rawCall_320 (w' := wd_Mpr cs (hq p0.toNatClampNeg) (qr p0.toNatClampNeg) (fun _ => QO355 p0.toNatClampNeg) (QF356 p0.toNatClampNeg) (va_up (QA357 p0.toNatClampNeg) 19 (upd ((QA357 p0.toNatClampNeg) 19) (10 : Int32).toNatClampNeg z2)) (fun _ _ => none)) (ps' := [wd_Mo cs mo mr (fun _ => none) mf353 md354 (gMo PG hq), fm 8 (fPg cs PG), fo 13 (fPr cs hq qr QO355 QF356 QA357) p0.toNatClampNeg, wd_Mpr cs (hq p0.toNatClampNeg) (qr p0.toNatClampNeg) (fun _ => QO355 p0.toNatClampNeg) (QF356 p0.toNatClampNeg) (va_up (QA357 p0.toNatClampNeg) 19 (upd ((QA357 p0.toNatClampNeg) 19) (10 : Int32).toNatClampNeg z2)) (fun _ _ => none)]) (sa_Mpr_19 _ _ _ _ _ _ _ _) rfl (fun H locs hw => ?_)
              refine lv_aload_n S.x S.b d_Mo_rawCall_321 rfl (lv_at hl 4 rfl) ?_
              refine lv_aload_n S.x S.b d_Mo_rawCall_322 rfl (lv_at hl 4 rfl) ?_
              refine px_get S k_Mpr hT hw 3 0 11 (v := .int ((QF356 p0.toNatClampNeg) 11)) rfl rfl rfl (by decide) m11_3 d_Mo_rawCall_323 ?_
              refine lv_iconst (v := 4) S.x S.b d_Mo_rawCall_326 (by decide) ?_
              refine lv_iadd S.x S.b d_Mo_rawCall_327 ?_
              have lr381 := Int32.le_toInt ((QF356 p0.toNatClampNeg) 11)
              have ur381 := Int32.toInt_lt ((QF356 p0.toNatClampNeg) 11)
              refine lv_topi (fun z382 ez382 => ?_)
              have tz382 : z382.toInt = (((QF356 p0.toNatClampNeg) 11).toInt + (4 : Int) + 2147483648) % 4294967296 - 2147483648 := by rw [ez382]; exact i_add ((QF356 p0.toNatClampNeg) 11) 4
              have lz382 := Int32.le_toInt z382
              have uz382 := Int32.toInt_lt z382
              try replace tz382 : z382.toInt = ((QF356 p0.toNatClampNeg) 11).toInt + (4 : Int) := by omega
              refine px_put S k_Mpr hT hw 3 0 11 rfl rfl (by decide) m11_3 rfl rfl rfl (Nat.le_of_ble_eq_true rfl) d_Mo_rawCall_328 (w' := wd_Mpr cs (hq p0.toNatClampNeg) (qr p0.toNatClampNeg) (fun _ => QO355 p0.toNatClampNeg) (upd (QF356 p0.toNatClampNeg) 11 z382) (va_up (QA357 p0.toNatClampNeg) 19 (upd ((QA357 p0.toNatClampNeg) 19) (10 : Int32).toNatClampNeg z2)) (fun _ _ => none)) (ps' := [wd_Mo cs mo mr (fun _ => none) mf353 md354 (gMo PG hq), fm 8 (fPg cs PG), fo 13 (fPr cs hq qr QO355 QF356 QA357) p0.toNatClampNeg, wd_Mpr cs (hq p0.toNatClampNeg) (qr p0.toNatClampNeg) (fun _ => QO355 p0.toNatClampNeg) (upd (QF356 p0.toNatClampNeg) 11 z382) (va_up (QA357 p0.toNatClampNeg) 19 (upd ((QA357 p0.toNatClampNeg) 19) (10 : Int32).toNatClampNeg z2)) (fun _ _ => none)]) rfl rfl (fun H locs hw => ?_)
              refine lv_aload_n S.x S.b d_Mo_rawCall_331 rfl (lv_at hl 4 rfl) ?_
              refine lv_dup S.x S.b d_Mo_rawCall_332 rfl ?_
              refine px_get S k_Mpr hT hw 3 0 4 (v := .int ((QF356 p0.toNatClampNeg) 4)) rfl rfl rfl (by decide) m10_230 d_Mo_rawCall_333 ?_
              refine lv_iconst (v := 1) S.x S.b d_Mo_rawCall_336 (by decide) ?_
              refine lv_isub S.x S.b d_Mo_rawCall_337 ?_
              have lr383 := Int32.le_toInt ((QF356 p0.toNatClampNeg) 4)
              have ur383 := Int32.toInt_lt ((QF356 p0.toNatClampNeg) 4)
              refine lv_topi (fun z384 ez384 => ?_)
              have tz384 : z384.toInt = (((QF356 p0.toNatClampNeg) 4).toInt - (1 : Int) + 2147483648) % 4294967296 - 2147483648 := by rw [ez384]; exact i_sub ((QF356 p0.toNatClampNeg) 4) 1
              have lz384 := Int32.le_toInt z384
              have uz384 := Int32.toInt_lt z384
              try replace tz384 : z384.toInt = ((QF356 p0.toNatClampNeg) 4).toInt - (1 : Int) := by omega
              refine px_put S k_Mpr hT hw 3 0 4 rfl rfl (by decide) m10_230 rfl rfl rfl (Nat.le_of_ble_eq_true rfl) d_Mo_rawCall_338 (w' := wd_Mpr cs (hq p0.toNatClampNeg) (qr p0.toNatClampNeg) (fun _ => QO355 p0.toNatClampNeg) (upd (upd (QF356 p0.toNatClampNeg) 4 z384) 11 z382) (va_up (QA357 p0.toNatClampNeg) 19 (upd ((QA357 p0.toNatClampNeg) 19) (10 : Int32).toNatClampNeg z2)) (fun _ _ => none)) (ps' := [wd_Mo cs mo mr (fun _ => none) mf353 md354 (gMo PG hq), fm 8 (fPg cs PG), fo 13 (fPr cs hq qr QO355 QF356 QA357) p0.toNatClampNeg, wd_Mpr cs (hq p0.toNatClampNeg) (qr p0.toNatClampNeg) (fun _ => QO355 p0.toNatClampNeg) (upd (upd (QF356 p0.toNatClampNeg) 4 z384) 11 z382) (va_up (QA357 p0.toNatClampNeg) 19 (upd ((QA357 p0.toNatClampNeg) 19) (10 : Int32).toNatClampNeg z2)) (fun _ _ => none)]) rfl rfl (fun H locs hw => ?_)
              refine lv_iload S.x S.b d_Mo_rawCall_341 (lv_at hl 1 rfl) ?_
              have hw := fpr_in (pr := [wd_Mo cs mo mr (fun _ => none) mf353 md354 (gMo PG hq), fm 8 (fPg cs PG)]) hw hi371
              obtain ⟨QO385, hu_QO385⟩ : ∃ y : Nat → Option Nat, y = va_up QO355 p0.toNatClampNeg ((fun _ => QO355 p0.toNatClampNeg) 0) := ⟨_, rfl⟩
              obtain ⟨QF386, hu_QF386⟩ : ∃ y : Nat → Nat → Int32, y = va_up QF356 p0.toNatClampNeg (upd (upd (QF356 p0.toNatClampNeg) 4 z384) 11 z382) := ⟨_, rfl⟩
              obtain ⟨QA387, hu_QA387⟩ : ∃ y : Nat → Nat → Nat → Int32, y = va_up QA357 p0.toNatClampNeg (va_up (QA357 p0.toNatClampNeg) 19 (upd ((QA357 p0.toNatClampNeg) 19) (10 : Int32).toNatClampNeg z2)) := ⟨_, rfl⟩
              have hw : pw D A s.heap _ _ [wd_Mo cs mo mr (fun _ => none) mf353 md354 (gMo PG hq), fm 8 (fPg cs PG), fm 13 (fPr cs hq qr QO385 QF386 QA387)] := (by rw [hu_QO385, hu_QF386, hu_QA387]; exact hw)
              have hpr : PrA PG (va_up RR p0.toNatClampNeg (RR p0.toNatClampNeg - (1 : Int))) QO385 QF386 QA387 := (by rw [hu_QO385, hu_QF386, hu_QA387]; exact PrA.upR hpr (psr_raw (j := j9) hj9 hqo h66 (show (0 ≤ ((QF356 p0.toNatClampNeg) 1).toInt ∧ ((QF356 p0.toNatClampNeg) 1).toInt ≤ 1) ∧ (0 ≤ ((QF356 p0.toNatClampNeg) 21).toInt ∧ ((QF356 p0.toNatClampNeg) 21).toInt ≤ 4) ∧ (0 ≤ ((QF356 p0.toNatClampNeg) 23).toInt ∧ ((QF356 p0.toNatClampNeg) 23).toInt ≤ 4) ∧ (0 ≤ ((QF356 p0.toNatClampNeg) 24).toInt ∧ ((QF356 p0.toNatClampNeg) 24).toInt ≤ 1000000) ∧ (0 ≤ ((QF356 p0.toNatClampNeg) 6).toInt ∧ ((QF356 p0.toNatClampNeg) 6).toInt ≤ 3) ∧ (0 ≤ ((QF356 p0.toNatClampNeg) 7).toInt ∧ ((QF356 p0.toNatClampNeg) 7).toInt ≤ 1) from by first | with_reducible rfl | with_reducible assumption | omega) (show ((QF356 p0.toNatClampNeg) 1).toInt = 1 from by first | with_reducible rfl | with_reducible assumption | omega) (show 0 ≤ z384.toInt ∧ z384.toInt + 1 ≤ RR p0.toNatClampNeg - (1 : Int) ∧ ((QF356 p0.toNatClampNeg) 24).toInt + z384.toInt ≤ 1600 from by first | with_reducible rfl | with_reducible assumption | omega)) (show ((QF356 p0.toNatClampNeg) 1).toInt = (QF356 p0.toNatClampNeg 1).toInt from by first | exact oz_507c05ca68 | omega) (show (QF356 p0.toNatClampNeg 6).toInt ≤ ((QF356 p0.toNatClampNeg) 6).toInt from by first | exact oz_1cb5f934a5 | omega))
              have hqo : OqE (QO385 p0.toNatClampNeg) (PG j9).h := (by rw [hu_QO385, va_up_s]; exact hqo)
              have hqk1_QF386 : (QF386 p0.toNatClampNeg 1).toInt = ((QF356 p0.toNatClampNeg) 1).toInt := (by rw [hu_QF386, va_up_s]; try rfl)
              have hqk2_QF386 : (QF386 p0.toNatClampNeg 2).toInt = ((QF356 p0.toNatClampNeg) 2).toInt := (by rw [hu_QF386, va_up_s]; try rfl)
              have hqk4_QF386 : (QF386 p0.toNatClampNeg 4).toInt = z384.toInt := (by rw [hu_QF386, va_up_s]; try rfl)
              have hqk24_QF386 : (QF386 p0.toNatClampNeg 24).toInt = ((QF356 p0.toNatClampNeg) 24).toInt := (by rw [hu_QF386, va_up_s]; try rfl)
              have hw : pw D A s.heap _ _ [wd_Mo cs mo mr (fun _ => none) mf353 md354 (gMo PG hq), fm 13 (fPr cs hq qr QO385 QF386 QA387), fm 8 (fPg cs PG)] := hw.sub [0, 2, 1] rfl rfl
              exact px_iret (v := 1) S hr rfl hlk hAe hw (Nat.le_of_ble_eq_true rfl) (Nat.le_of_ble_eq_true rfl) (⟨mf353, md354, QO385, QF386, QA387, rfl, (show 0 ≤ (1 : Int) from by first | decide | omega), (show (1 : Int) ≤ 1 from by first | decide | omega), (show PrA PG (va_up RR p0.toNatClampNeg (RR p0.toNatClampNeg - (1 : Int))) QO385 QF386 QA387 from hpr), (show (mf353 0).toInt = (mf 0).toInt from by first | exact e363 | omega), (show (mf353 2).toInt = (mf 2).toInt from by first | exact e364 | omega), (show (mf353 3).toInt = (mf 3).toInt from by first | exact e365 | omega), (show (mf353 7).toInt = (mf 7).toInt from by first | exact e366 | omega), (show (mf353 8).toInt = (mf 8).toInt from by first | exact e367 | omega), (show (mf353 10).toInt = (mf 10).toInt from by first | exact e369 | omega)⟩) d_Mo_rawCall_343
            · exact absurd c380 (by decide)
    · simp only [List.mem_cons, List.not_mem_nil, or_false] at c43
      refine lv_aload_n S.x S.b d_Mo_rawCall_253 rfl (lv_at hl 4 rfl) ?_
      refine lv_iconst (v := 1) S.x S.b d_Mo_rawCall_254 (by decide) ?_
      refine lv_iload_n S.x S.b d_Mo_rawCall_255 rfl (lv_at hl 3 rfl) ?_
      refine px_callv (pr := [wd_Mo cs mo mr (fun _ => none) mf md (gMo PG hq), fm 8 (fPg cs PG), fo 13 (fPr cs hq qr QO QF QA) p0.toNatClampNeg]) (px_runV (As := [.int 1, .int z2]) (rest := []) S (c_mq_end l D cs (hq p0.toNatClampNeg) (qr p0.toNatClampNeg) (fun _ _ => none) (fun _ => QO p0.toNatClampNeg) (QA p0.toNatClampNeg) (QF p0.toNatClampNeg) 1 z2   _) hT (pr := [wd_Mo cs mo mr (fun _ => none) mf md (gMo PG hq), fm 8 (fPg cs PG), fo 13 (fPr cs hq qr QO QF QA) p0.toNatClampNeg]) (pcs := [wd_Mpr cs (hq p0.toNatClampNeg) (qr p0.toNatClampNeg) (fun _ => QO p0.toNatClampNeg) (QF p0.toNatClampNeg) (QA p0.toNatClampNeg) (fun _ _ => none)]) hw px_X.tt (px_recv hT hw 3 0 rfl rfl rfl) m13_177 m14_35 m13_175 m13_176 m1_22 q_Mpr_end ⟨Nat.le_of_ble_eq_true rfl, Nat.le_of_ble_eq_true rfl⟩ hl.1 rfl (Nat.le_of_ble_eq_true rfl) d_Mo_rawCall_256 ⟨Nat.le_of_ble_eq_true rfl, Nat.le_of_ble_eq_true rfl⟩) hw hA (fun p390 H locs hp390 hw => ?_)
      obtain ⟨qf389, rfl, e392, e393, e394, e395, e396, e397, e398, e399, e400, e401, e402, e403, e404, e405⟩ := hp390
      replace e392 : (qf389 2).toInt = (1 : Int) := e392
      replace e393 : (qf389 1).toInt = ((QF p0.toNatClampNeg) 1).toInt := e393
      replace e394 : (qf389 4).toInt = ((QF p0.toNatClampNeg) 4).toInt := e394
      replace e395 : (qf389 5).toInt = ((QF p0.toNatClampNeg) 5).toInt := e395
      replace e396 : (qf389 6).toInt = ((QF p0.toNatClampNeg) 6).toInt := e396
      replace e397 : (qf389 7).toInt = ((QF p0.toNatClampNeg) 7).toInt := e397
      replace e398 : (qf389 10).toInt = ((QF p0.toNatClampNeg) 10).toInt := e398
      replace e399 : (qf389 11).toInt = ((QF p0.toNatClampNeg) 11).toInt := e399
      replace e400 : (qf389 12).toInt = ((QF p0.toNatClampNeg) 12).toInt := e400
      replace e401 : (qf389 13).toInt = ((QF p0.toNatClampNeg) 13).toInt := e401
      replace e402 : (qf389 14).toInt = ((QF p0.toNatClampNeg) 14).toInt := e402
      replace e403 : (qf389 21).toInt = ((QF p0.toNatClampNeg) 21).toInt := e403
      replace e404 : (qf389 23).toInt = ((QF p0.toNatClampNeg) 23).toInt := e404
      replace e405 : (qf389 24).toInt = ((QF p0.toNatClampNeg) 24).toInt := e405
      replace hw : pw D A s.heap H locs [wd_Mo cs mo mr (fun _ => none) mf md (gMo PG hq), fm 8 (fPg cs PG), fo 13 (fPr cs hq qr QO QF QA) p0.toNatClampNeg, wd_Mpr cs (hq p0.toNatClampNeg) (qr p0.toNatClampNeg) (fun _ => QO p0.toNatClampNeg) qf389 (QA p0.toNatClampNeg) (fun _ _ => none)] := hw
      refine lv_goto (tgt := 289) S.x S.b d_Mo_rawCall_259 (by decide) ?_
      refine lv_iload S.x S.b d_Mo_rawCall_289 (lv_at hl 1 rfl) ?_
      refine lv_if_eq (tgt := 341) S.x S.b d_Mo_rawCall_291 (by decide) (fun c406 => ?_) (fun c406 => ?_)
      · exact absurd c406 (by decide)
      ·
        refine lv_aload_n S.x S.b d_Mo_rawCall_294 rfl (lv_at hl 4 rfl) ?_
        refine px_calli (pr := [wd_Mo cs mo mr (fun _ => none) mf md (gMo PG hq), fm 8 (fPg cs PG), fo 13 (fPr cs hq qr QO QF QA) p0.toNatClampNeg]) (px_runV (As := []) (rest := []) S (c_mq_isGoing l D cs (hq p0.toNatClampNeg) (qr p0.toNatClampNeg) (fun _ _ => none) (fun _ => QO p0.toNatClampNeg) qf389 (QA p0.toNatClampNeg)    _) hT (pr := [wd_Mo cs mo mr (fun _ => none) mf md (gMo PG hq), fm 8 (fPg cs PG), fo 13 (fPr cs hq qr QO QF QA) p0.toNatClampNeg]) (pcs := [wd_Mpr cs (hq p0.toNatClampNeg) (qr p0.toNatClampNeg) (fun _ => QO p0.toNatClampNeg) qf389 (QA p0.toNatClampNeg) (fun _ _ => none)]) hw px_X.tt (px_recv hT hw 3 0 rfl rfl rfl) m13_165 m13_162 m13_163 m13_164 m1_22 q_Mpr_isGoing ⟨Nat.le_of_ble_eq_true rfl, Nat.le_of_ble_eq_true rfl⟩ hl.1 rfl (Nat.le_of_ble_eq_true rfl) d_Mo_rawCall_295 ⟨Nat.le_of_ble_eq_true rfl, Nat.le_of_ble_eq_true rfl⟩) hw hA (fun v408 p407 H locs hp407 hw => ?_)
        obtain ⟨rfl, e409, e410, e411, e412, e413⟩ := hp407
        replace e409 : 0 ≤ v408.toInt := e409
        replace e410 : v408.toInt ≤ 1 := e410
        replace e411 : v408.toInt = 1 → (qf389 1).toInt ≠ 0 := e411
        replace e412 : v408.toInt = 1 → (qf389 2).toInt = -2 := e412
        replace e413 : (qf389 1).toInt ≠ 0 → (qf389 2).toInt = -2 → v408.toInt = 1 := e413
        replace hw : pw D A s.heap H locs [wd_Mo cs mo mr (fun _ => none) mf md (gMo PG hq), fm 8 (fPg cs PG), fo 13 (fPr cs hq qr QO QF QA) p0.toNatClampNeg, wd_Mpr cs (hq p0.toNatClampNeg) (qr p0.toNatClampNeg) (fun _ => QO p0.toNatClampNeg) qf389 (QA p0.toNatClampNeg) (fun _ _ => none)] := hw
        have lv408 := Int32.le_toInt v408
        have uv408 := Int32.toInt_lt v408
        refine lv_if_eq (tgt := 341) S.x S.b d_Mo_rawCall_298 (by decide) (fun c414 => ?_) (fun c414 => ?_)
        · have nc414 : v408.toInt = (0 : Int) := (i_eq (x := v408) (y := 0)).mp c414
          refine lv_iload S.x S.b d_Mo_rawCall_341 (lv_at hl 1 rfl) ?_
          have hw := fpr_in (pr := [wd_Mo cs mo mr (fun _ => none) mf md (gMo PG hq), fm 8 (fPg cs PG)]) hw hi1
          obtain ⟨QO415, hu_QO415⟩ : ∃ y : Nat → Option Nat, y = va_up QO p0.toNatClampNeg ((fun _ => QO p0.toNatClampNeg) 0) := ⟨_, rfl⟩
          obtain ⟨QF416, hu_QF416⟩ : ∃ y : Nat → Nat → Int32, y = va_up QF p0.toNatClampNeg qf389 := ⟨_, rfl⟩
          obtain ⟨QA417, hu_QA417⟩ : ∃ y : Nat → Nat → Nat → Int32, y = va_up QA p0.toNatClampNeg (QA p0.toNatClampNeg) := ⟨_, rfl⟩
          have hw : pw D A s.heap _ _ [wd_Mo cs mo mr (fun _ => none) mf md (gMo PG hq), fm 8 (fPg cs PG), fm 13 (fPr cs hq qr QO415 QF416 QA417)] := (by rw [hu_QO415, hu_QF416, hu_QA417]; exact hw)
          have hpr : PrA PG RR QO415 QF416 QA417 := (by rw [hu_QO415, hu_QF416, hu_QA417]; exact PrA.up hpr (psr_raw (j := j9) hj9 hqo h66 (show (0 ≤ (qf389 1).toInt ∧ (qf389 1).toInt ≤ 1) ∧ (0 ≤ (qf389 21).toInt ∧ (qf389 21).toInt ≤ 4) ∧ (0 ≤ (qf389 23).toInt ∧ (qf389 23).toInt ≤ 4) ∧ (0 ≤ (qf389 24).toInt ∧ (qf389 24).toInt ≤ 1000000) ∧ (0 ≤ (qf389 6).toInt ∧ (qf389 6).toInt ≤ 3) ∧ (0 ≤ (qf389 7).toInt ∧ (qf389 7).toInt ≤ 1) from by first | with_reducible rfl | with_reducible assumption | omega) (show (qf389 1).toInt = 1 from by first | exact oz_e863b17997 e393 g6 | omega) (show 0 ≤ (qf389 4).toInt ∧ (qf389 4).toInt + 1 ≤ RR p0.toNatClampNeg ∧ (qf389 24).toInt + (qf389 4).toInt ≤ 1600 from by first | with_reducible rfl | with_reducible assumption | omega)) (show (qf389 1).toInt = (QF p0.toNatClampNeg 1).toInt from by first | exact oz_1811ac7fe4 e393 | omega) (show (QF p0.toNatClampNeg 6).toInt ≤ (qf389 6).toInt from by first | exact oz_f9b42d1b56 e396 | omega))
          have hqo : OqE (QO415 p0.toNatClampNeg) (PG j9).h := (by rw [hu_QO415, va_up_s]; exact hqo)
          have hkw : KpW QO QF QO415 QF416 p0.toNatClampNeg := ⟨hqo.trans hqoE.symm, (by rw [hu_QF416, va_up_s]; exact (show ((qf389 1).toInt = (QF p0.toNatClampNeg 1).toInt ∧ (qf389 4).toInt = (QF p0.toNatClampNeg 4).toInt ∧ (qf389 5).toInt = (QF p0.toNatClampNeg 5).toInt ∧ (qf389 7).toInt = (QF p0.toNatClampNeg 7).toInt ∧ (qf389 10).toInt = (QF p0.toNatClampNeg 10).toInt ∧ (qf389 11).toInt = (QF p0.toNatClampNeg 11).toInt) ∧ (qf389 12).toInt = (QF p0.toNatClampNeg 12).toInt ∧ (qf389 13).toInt = (QF p0.toNatClampNeg 13).toInt ∧ (qf389 14).toInt = (QF p0.toNatClampNeg 14).toInt ∧ (qf389 24).toInt = (QF p0.toNatClampNeg 24).toInt from by first | with_reducible rfl | with_reducible assumption | omega))⟩
          have hqk1_QF416 : (QF416 p0.toNatClampNeg 1).toInt = (qf389 1).toInt := (by rw [hu_QF416, va_up_s]; try rfl)
          have hqk2_QF416 : (QF416 p0.toNatClampNeg 2).toInt = (qf389 2).toInt := (by rw [hu_QF416, va_up_s]; try rfl)
          have hqk4_QF416 : (QF416 p0.toNatClampNeg 4).toInt = (qf389 4).toInt := (by rw [hu_QF416, va_up_s]; try rfl)
          have hqk24_QF416 : (QF416 p0.toNatClampNeg 24).toInt = (qf389 24).toInt := (by rw [hu_QF416, va_up_s]; try rfl)
          have hw : pw D A s.heap _ _ [wd_Mo cs mo mr (fun _ => none) mf md (gMo PG hq), fm 13 (fPr cs hq qr QO415 QF416 QA417), fm 8 (fPg cs PG)] := hw.sub [0, 2, 1] rfl rfl
          exact px_iret (v := 1) S hr rfl hlk hAe hw (Nat.le_of_ble_eq_true rfl) (Nat.le_of_ble_eq_true rfl) (⟨mf, md, QO415, QF416, QA417, rfl, (show 0 ≤ (1 : Int) from by first | decide | omega), (show (1 : Int) ≤ 1 from by first | decide | omega), (show PrA PG (va_up RR p0.toNatClampNeg (RR p0.toNatClampNeg - (1 : Int))) QO415 QF416 QA417 from (hpr.low (by omega) (by omega) (by omega) (by have q9 := cl_nat (x := p0) (by first | exact g0 | omega); omega))), (show (mf 0).toInt = (mf 0).toInt from rfl), (show (mf 2).toInt = (mf 2).toInt from rfl), (show (mf 3).toInt = (mf 3).toInt from rfl), (show (mf 7).toInt = (mf 7).toInt from rfl), (show (mf 8).toInt = (mf 8).toInt from rfl), (show (mf 10).toInt = (mf 10).toInt from rfl)⟩) d_Mo_rawCall_343
        · have nc414 : ¬ v408.toInt = (0 : Int) := mt (i_eq (x := v408) (y := 0)).mpr c414
          refine lv_aload_n S.x S.b d_Mo_rawCall_301 rfl (lv_at hl 4 rfl) ?_
          refine px_get S k_Mpr hT hw 3 0 19 (v := .ref ((qr p0.toNatClampNeg) 19)) rfl rfl rfl (by decide) m11_12 d_Mo_rawCall_302 ?_
          refine lv_bipush (v := 10) S.x S.b d_Mo_rawCall_305 (by decide) ?_
          refine lv_iload S.x S.b d_Mo_rawCall_307 (lv_at hl 0 rfl) ?_
          refine lv_if_eq (tgt := 319) S.x S.b d_Mo_rawCall_309 (by decide) (fun c418 => ?_) (fun c418 => ?_)
          ·
            refine lv_iload_n S.x S.b d_Mo_rawCall_319 rfl (lv_at hl 3 rfl) ?_
            refine px_iast S hT hw 3 7 (n := 32) (f := ((QA p0.toNatClampNeg) 19)) (x := 10) (y := z2) rfl (ga_Mpr_19 _ _ _ _ _ _ _) (vp_in_iff.mpr (by constructor <;> omega)) d_Mo_rawCall_320 (w' := wd_Mpr cs (hq p0.toNatClampNeg) (qr p0.toNatClampNeg) (fun _ => QO p0.toNatClampNeg) qf389 (va_up (QA p0.toNatClampNeg) 19 (upd ((QA p0.toNatClampNeg) 19) (10 : Int32).toNatClampNeg z2)) (fun _ _ => none)) (ps' := [wd_Mo cs mo mr (fun _ => none) mf md (gMo PG hq), fm 8 (fPg cs PG), fo 13 (fPr cs hq qr QO QF QA) p0.toNatClampNeg, wd_Mpr cs (hq p0.toNatClampNeg) (qr p0.toNatClampNeg) (fun _ => QO p0.toNatClampNeg) qf389 (va_up (QA p0.toNatClampNeg) 19 (upd ((QA p0.toNatClampNeg) 19) (10 : Int32).toNatClampNeg z2)) (fun _ _ => none)]) (sa_Mpr_19 _ _ _ _ _ _ _ _) rfl (fun H locs hw => ?_)
            refine lv_aload_n S.x S.b d_Mo_rawCall_321 rfl (lv_at hl 4 rfl) ?_
            refine lv_aload_n S.x S.b d_Mo_rawCall_322 rfl (lv_at hl 4 rfl) ?_
            refine px_get S k_Mpr hT hw 3 0 11 (v := .int (qf389 11)) rfl rfl rfl (by decide) m11_3 d_Mo_rawCall_323 ?_
            refine lv_iconst (v := 4) S.x S.b d_Mo_rawCall_326 (by decide) ?_
            refine lv_iadd S.x S.b d_Mo_rawCall_327 ?_
            have lr419 := Int32.le_toInt (qf389 11)
            have ur419 := Int32.toInt_lt (qf389 11)
            refine lv_topi (fun z420 ez420 => ?_)
            have tz420 : z420.toInt = ((qf389 11).toInt + (4 : Int) + 2147483648) % 4294967296 - 2147483648 := by rw [ez420]; exact i_add (qf389 11) 4
            have lz420 := Int32.le_toInt z420
            have uz420 := Int32.toInt_lt z420
            try replace tz420 : z420.toInt = (qf389 11).toInt + (4 : Int) := by omega
            refine px_put S k_Mpr hT hw 3 0 11 rfl rfl (by decide) m11_3 rfl rfl rfl (Nat.le_of_ble_eq_true rfl) d_Mo_rawCall_328 (w' := wd_Mpr cs (hq p0.toNatClampNeg) (qr p0.toNatClampNeg) (fun _ => QO p0.toNatClampNeg) (upd qf389 11 z420) (va_up (QA p0.toNatClampNeg) 19 (upd ((QA p0.toNatClampNeg) 19) (10 : Int32).toNatClampNeg z2)) (fun _ _ => none)) (ps' := [wd_Mo cs mo mr (fun _ => none) mf md (gMo PG hq), fm 8 (fPg cs PG), fo 13 (fPr cs hq qr QO QF QA) p0.toNatClampNeg, wd_Mpr cs (hq p0.toNatClampNeg) (qr p0.toNatClampNeg) (fun _ => QO p0.toNatClampNeg) (upd qf389 11 z420) (va_up (QA p0.toNatClampNeg) 19 (upd ((QA p0.toNatClampNeg) 19) (10 : Int32).toNatClampNeg z2)) (fun _ _ => none)]) rfl rfl (fun H locs hw => ?_)
            refine lv_aload_n S.x S.b d_Mo_rawCall_331 rfl (lv_at hl 4 rfl) ?_
            refine lv_dup S.x S.b d_Mo_rawCall_332 rfl ?_
            refine px_get S k_Mpr hT hw 3 0 4 (v := .int (qf389 4)) rfl rfl rfl (by decide) m10_230 d_Mo_rawCall_333 ?_
            refine lv_iconst (v := 1) S.x S.b d_Mo_rawCall_336 (by decide) ?_
            refine lv_isub S.x S.b d_Mo_rawCall_337 ?_
            have lr421 := Int32.le_toInt (qf389 4)
            have ur421 := Int32.toInt_lt (qf389 4)
            refine lv_topi (fun z422 ez422 => ?_)
            have tz422 : z422.toInt = ((qf389 4).toInt - (1 : Int) + 2147483648) % 4294967296 - 2147483648 := by rw [ez422]; exact i_sub (qf389 4) 1
            have lz422 := Int32.le_toInt z422
            have uz422 := Int32.toInt_lt z422
            try replace tz422 : z422.toInt = (qf389 4).toInt - (1 : Int) := by omega
            refine px_put S k_Mpr hT hw 3 0 4 rfl rfl (by decide) m10_230 rfl rfl rfl (Nat.le_of_ble_eq_true rfl) d_Mo_rawCall_338 (w' := wd_Mpr cs (hq p0.toNatClampNeg) (qr p0.toNatClampNeg) (fun _ => QO p0.toNatClampNeg) (upd (upd qf389 4 z422) 11 z420) (va_up (QA p0.toNatClampNeg) 19 (upd ((QA p0.toNatClampNeg) 19) (10 : Int32).toNatClampNeg z2)) (fun _ _ => none)) (ps' := [wd_Mo cs mo mr (fun _ => none) mf md (gMo PG hq), fm 8 (fPg cs PG), fo 13 (fPr cs hq qr QO QF QA) p0.toNatClampNeg, wd_Mpr cs (hq p0.toNatClampNeg) (qr p0.toNatClampNeg) (fun _ => QO p0.toNatClampNeg) (upd (upd qf389 4 z422) 11 z420) (va_up (QA p0.toNatClampNeg) 19 (upd ((QA p0.toNatClampNeg) 19) (10 : Int32).toNatClampNeg z2)) (fun _ _ => none)]) rfl rfl (fun H locs hw => ?_)
            refine lv_iload S.x S.b d_Mo_rawCall_341 (lv_at hl 1 rfl) ?_
            have hw := fpr_in (pr := [wd_Mo cs mo mr (fun _ => none) mf md (gMo PG hq), fm 8 (fPg cs PG)]) hw hi1
            obtain ⟨QO423, hu_QO423⟩ : ∃ y : Nat → Option Nat, y = va_up QO p0.toNatClampNeg ((fun _ => QO p0.toNatClampNeg) 0) := ⟨_, rfl⟩
            obtain ⟨QF424, hu_QF424⟩ : ∃ y : Nat → Nat → Int32, y = va_up QF p0.toNatClampNeg (upd (upd qf389 4 z422) 11 z420) := ⟨_, rfl⟩
            obtain ⟨QA425, hu_QA425⟩ : ∃ y : Nat → Nat → Nat → Int32, y = va_up QA p0.toNatClampNeg (va_up (QA p0.toNatClampNeg) 19 (upd ((QA p0.toNatClampNeg) 19) (10 : Int32).toNatClampNeg z2)) := ⟨_, rfl⟩
            have hw : pw D A s.heap _ _ [wd_Mo cs mo mr (fun _ => none) mf md (gMo PG hq), fm 8 (fPg cs PG), fm 13 (fPr cs hq qr QO423 QF424 QA425)] := (by rw [hu_QO423, hu_QF424, hu_QA425]; exact hw)
            have hpr : PrA PG (va_up RR p0.toNatClampNeg (RR p0.toNatClampNeg - (1 : Int))) QO423 QF424 QA425 := (by rw [hu_QO423, hu_QF424, hu_QA425]; exact PrA.upR hpr (psr_raw (j := j9) hj9 hqo h66 (show (0 ≤ (qf389 1).toInt ∧ (qf389 1).toInt ≤ 1) ∧ (0 ≤ (qf389 21).toInt ∧ (qf389 21).toInt ≤ 4) ∧ (0 ≤ (qf389 23).toInt ∧ (qf389 23).toInt ≤ 4) ∧ (0 ≤ (qf389 24).toInt ∧ (qf389 24).toInt ≤ 1000000) ∧ (0 ≤ (qf389 6).toInt ∧ (qf389 6).toInt ≤ 3) ∧ (0 ≤ (qf389 7).toInt ∧ (qf389 7).toInt ≤ 1) from by first | with_reducible rfl | with_reducible assumption | omega) (show (qf389 1).toInt = 1 from by first | exact oz_e863b17997 e393 g6 | omega) (show 0 ≤ z422.toInt ∧ z422.toInt + 1 ≤ RR p0.toNatClampNeg - (1 : Int) ∧ (qf389 24).toInt + z422.toInt ≤ 1600 from by first | with_reducible rfl | with_reducible assumption | omega)) (show (qf389 1).toInt = (QF p0.toNatClampNeg 1).toInt from by first | exact oz_1811ac7fe4 e393 | omega) (show (QF p0.toNatClampNeg 6).toInt ≤ (qf389 6).toInt from by first | exact oz_f9b42d1b56 e396 | omega))
            have hqo : OqE (QO423 p0.toNatClampNeg) (PG j9).h := (by rw [hu_QO423, va_up_s]; exact hqo)
            have hqk1_QF424 : (QF424 p0.toNatClampNeg 1).toInt = (qf389 1).toInt := (by rw [hu_QF424, va_up_s]; try rfl)
            have hqk2_QF424 : (QF424 p0.toNatClampNeg 2).toInt = (qf389 2).toInt := (by rw [hu_QF424, va_up_s]; try rfl)
            have hqk4_QF424 : (QF424 p0.toNatClampNeg 4).toInt = z422.toInt := (by rw [hu_QF424, va_up_s]; try rfl)
            have hqk24_QF424 : (QF424 p0.toNatClampNeg 24).toInt = (qf389 24).toInt := (by rw [hu_QF424, va_up_s]; try rfl)
            have hw : pw D A s.heap _ _ [wd_Mo cs mo mr (fun _ => none) mf md (gMo PG hq), fm 13 (fPr cs hq qr QO423 QF424 QA425), fm 8 (fPg cs PG)] := hw.sub [0, 2, 1] rfl rfl
            exact px_iret (v := 1) S hr rfl hlk hAe hw (Nat.le_of_ble_eq_true rfl) (Nat.le_of_ble_eq_true rfl) (⟨mf, md, QO423, QF424, QA425, rfl, (show 0 ≤ (1 : Int) from by first | decide | omega), (show (1 : Int) ≤ 1 from by first | decide | omega), (show PrA PG (va_up RR p0.toNatClampNeg (RR p0.toNatClampNeg - (1 : Int))) QO423 QF424 QA425 from hpr), (show (mf 0).toInt = (mf 0).toInt from rfl), (show (mf 2).toInt = (mf 2).toInt from rfl), (show (mf 3).toInt = (mf 3).toInt from rfl), (show (mf 7).toInt = (mf 7).toInt from rfl), (show (mf 8).toInt = (mf 8).toInt from rfl), (show (mf 10).toInt = (mf 10).toInt from rfl)⟩) d_Mo_rawCall_343
          · exact absurd c418 (by decide)
    · simp only [List.mem_cons, List.not_mem_nil, or_false] at c43
      refine lv_aload_n S.x S.b d_Mo_rawCall_282 rfl (lv_at hl 4 rfl) ?_
      refine lv_bipush (v := 7) S.x S.b d_Mo_rawCall_283 (by decide) ?_
      refine lv_iconst (v := 0) S.x S.b d_Mo_rawCall_285 (by decide) ?_
      refine px_callv (pr := [wd_Mo cs mo mr (fun _ => none) mf md (gMo PG hq), fm 8 (fPg cs PG), fo 13 (fPr cs hq qr QO QF QA) p0.toNatClampNeg]) (px_runV (As := [.int 7, .int 0]) (rest := []) S (c_mq_end l D cs (hq p0.toNatClampNeg) (qr p0.toNatClampNeg) (fun _ _ => none) (fun _ => QO p0.toNatClampNeg) (QA p0.toNatClampNeg) (QF p0.toNatClampNeg) 7 0   _) hT (pr := [wd_Mo cs mo mr (fun _ => none) mf md (gMo PG hq), fm 8 (fPg cs PG), fo 13 (fPr cs hq qr QO QF QA) p0.toNatClampNeg]) (pcs := [wd_Mpr cs (hq p0.toNatClampNeg) (qr p0.toNatClampNeg) (fun _ => QO p0.toNatClampNeg) (QF p0.toNatClampNeg) (QA p0.toNatClampNeg) (fun _ _ => none)]) hw px_X.tt (px_recv hT hw 3 0 rfl rfl rfl) m13_177 m14_35 m13_175 m13_176 m1_22 q_Mpr_end ⟨Nat.le_of_ble_eq_true rfl, Nat.le_of_ble_eq_true rfl⟩ hl.1 rfl (Nat.le_of_ble_eq_true rfl) d_Mo_rawCall_286 ⟨Nat.le_of_ble_eq_true rfl, Nat.le_of_ble_eq_true rfl⟩) hw hA (fun p428 H locs hp428 hw => ?_)
      obtain ⟨qf427, rfl, e430, e431, e432, e433, e434, e435, e436, e437, e438, e439, e440, e441, e442, e443⟩ := hp428
      replace e430 : (qf427 2).toInt = (7 : Int) := e430
      replace e431 : (qf427 1).toInt = ((QF p0.toNatClampNeg) 1).toInt := e431
      replace e432 : (qf427 4).toInt = ((QF p0.toNatClampNeg) 4).toInt := e432
      replace e433 : (qf427 5).toInt = ((QF p0.toNatClampNeg) 5).toInt := e433
      replace e434 : (qf427 6).toInt = ((QF p0.toNatClampNeg) 6).toInt := e434
      replace e435 : (qf427 7).toInt = ((QF p0.toNatClampNeg) 7).toInt := e435
      replace e436 : (qf427 10).toInt = ((QF p0.toNatClampNeg) 10).toInt := e436
      replace e437 : (qf427 11).toInt = ((QF p0.toNatClampNeg) 11).toInt := e437
      replace e438 : (qf427 12).toInt = ((QF p0.toNatClampNeg) 12).toInt := e438
      replace e439 : (qf427 13).toInt = ((QF p0.toNatClampNeg) 13).toInt := e439
      replace e440 : (qf427 14).toInt = ((QF p0.toNatClampNeg) 14).toInt := e440
      replace e441 : (qf427 21).toInt = ((QF p0.toNatClampNeg) 21).toInt := e441
      replace e442 : (qf427 23).toInt = ((QF p0.toNatClampNeg) 23).toInt := e442
      replace e443 : (qf427 24).toInt = ((QF p0.toNatClampNeg) 24).toInt := e443
      replace hw : pw D A s.heap H locs [wd_Mo cs mo mr (fun _ => none) mf md (gMo PG hq), fm 8 (fPg cs PG), fo 13 (fPr cs hq qr QO QF QA) p0.toNatClampNeg, wd_Mpr cs (hq p0.toNatClampNeg) (qr p0.toNatClampNeg) (fun _ => QO p0.toNatClampNeg) qf427 (QA p0.toNatClampNeg) (fun _ _ => none)] := hw
      refine lv_iload S.x S.b d_Mo_rawCall_289 (lv_at hl 1 rfl) ?_
      refine lv_if_eq (tgt := 341) S.x S.b d_Mo_rawCall_291 (by decide) (fun c444 => ?_) (fun c444 => ?_)
      · exact absurd c444 (by decide)
      ·
        refine lv_aload_n S.x S.b d_Mo_rawCall_294 rfl (lv_at hl 4 rfl) ?_
        refine px_calli (pr := [wd_Mo cs mo mr (fun _ => none) mf md (gMo PG hq), fm 8 (fPg cs PG), fo 13 (fPr cs hq qr QO QF QA) p0.toNatClampNeg]) (px_runV (As := []) (rest := []) S (c_mq_isGoing l D cs (hq p0.toNatClampNeg) (qr p0.toNatClampNeg) (fun _ _ => none) (fun _ => QO p0.toNatClampNeg) qf427 (QA p0.toNatClampNeg)    _) hT (pr := [wd_Mo cs mo mr (fun _ => none) mf md (gMo PG hq), fm 8 (fPg cs PG), fo 13 (fPr cs hq qr QO QF QA) p0.toNatClampNeg]) (pcs := [wd_Mpr cs (hq p0.toNatClampNeg) (qr p0.toNatClampNeg) (fun _ => QO p0.toNatClampNeg) qf427 (QA p0.toNatClampNeg) (fun _ _ => none)]) hw px_X.tt (px_recv hT hw 3 0 rfl rfl rfl) m13_165 m13_162 m13_163 m13_164 m1_22 q_Mpr_isGoing ⟨Nat.le_of_ble_eq_true rfl, Nat.le_of_ble_eq_true rfl⟩ hl.1 rfl (Nat.le_of_ble_eq_true rfl) d_Mo_rawCall_295 ⟨Nat.le_of_ble_eq_true rfl, Nat.le_of_ble_eq_true rfl⟩) hw hA (fun v446 p445 H locs hp445 hw => ?_)
        obtain ⟨rfl, e447, e448, e449, e450, e451⟩ := hp445
        replace e447 : 0 ≤ v446.toInt := e447
        replace e448 : v446.toInt ≤ 1 := e448
        replace e449 : v446.toInt = 1 → (qf427 1).toInt ≠ 0 := e449
        replace e450 : v446.toInt = 1 → (qf427 2).toInt = -2 := e450
        replace e451 : (qf427 1).toInt ≠ 0 → (qf427 2).toInt = -2 → v446.toInt = 1 := e451
        replace hw : pw D A s.heap H locs [wd_Mo cs mo mr (fun _ => none) mf md (gMo PG hq), fm 8 (fPg cs PG), fo 13 (fPr cs hq qr QO QF QA) p0.toNatClampNeg, wd_Mpr cs (hq p0.toNatClampNeg) (qr p0.toNatClampNeg) (fun _ => QO p0.toNatClampNeg) qf427 (QA p0.toNatClampNeg) (fun _ _ => none)] := hw
        have lv446 := Int32.le_toInt v446
        have uv446 := Int32.toInt_lt v446
        refine lv_if_eq (tgt := 341) S.x S.b d_Mo_rawCall_298 (by decide) (fun c452 => ?_) (fun c452 => ?_)
        · have nc452 : v446.toInt = (0 : Int) := (i_eq (x := v446) (y := 0)).mp c452
          refine lv_iload S.x S.b d_Mo_rawCall_341 (lv_at hl 1 rfl) ?_
          have hw := fpr_in (pr := [wd_Mo cs mo mr (fun _ => none) mf md (gMo PG hq), fm 8 (fPg cs PG)]) hw hi1
          obtain ⟨QO453, hu_QO453⟩ : ∃ y : Nat → Option Nat, y = va_up QO p0.toNatClampNeg ((fun _ => QO p0.toNatClampNeg) 0) := ⟨_, rfl⟩
          obtain ⟨QF454, hu_QF454⟩ : ∃ y : Nat → Nat → Int32, y = va_up QF p0.toNatClampNeg qf427 := ⟨_, rfl⟩
          obtain ⟨QA455, hu_QA455⟩ : ∃ y : Nat → Nat → Nat → Int32, y = va_up QA p0.toNatClampNeg (QA p0.toNatClampNeg) := ⟨_, rfl⟩
          have hw : pw D A s.heap _ _ [wd_Mo cs mo mr (fun _ => none) mf md (gMo PG hq), fm 8 (fPg cs PG), fm 13 (fPr cs hq qr QO453 QF454 QA455)] := (by rw [hu_QO453, hu_QF454, hu_QA455]; exact hw)
          have hpr : PrA PG RR QO453 QF454 QA455 := (by rw [hu_QO453, hu_QF454, hu_QA455]; exact PrA.up hpr (psr_raw (j := j9) hj9 hqo h66 (show (0 ≤ (qf427 1).toInt ∧ (qf427 1).toInt ≤ 1) ∧ (0 ≤ (qf427 21).toInt ∧ (qf427 21).toInt ≤ 4) ∧ (0 ≤ (qf427 23).toInt ∧ (qf427 23).toInt ≤ 4) ∧ (0 ≤ (qf427 24).toInt ∧ (qf427 24).toInt ≤ 1000000) ∧ (0 ≤ (qf427 6).toInt ∧ (qf427 6).toInt ≤ 3) ∧ (0 ≤ (qf427 7).toInt ∧ (qf427 7).toInt ≤ 1) from by first | with_reducible rfl | with_reducible assumption | omega) (show (qf427 1).toInt = 1 from by first | exact oz_e863b17997 e431 g6 | omega) (show 0 ≤ (qf427 4).toInt ∧ (qf427 4).toInt + 1 ≤ RR p0.toNatClampNeg ∧ (qf427 24).toInt + (qf427 4).toInt ≤ 1600 from by first | with_reducible rfl | with_reducible assumption | omega)) (show (qf427 1).toInt = (QF p0.toNatClampNeg 1).toInt from by first | exact oz_1811ac7fe4 e431 | omega) (show (QF p0.toNatClampNeg 6).toInt ≤ (qf427 6).toInt from by first | exact oz_f9b42d1b56 e434 | omega))
          have hqo : OqE (QO453 p0.toNatClampNeg) (PG j9).h := (by rw [hu_QO453, va_up_s]; exact hqo)
          have hkw : KpW QO QF QO453 QF454 p0.toNatClampNeg := ⟨hqo.trans hqoE.symm, (by rw [hu_QF454, va_up_s]; exact (show ((qf427 1).toInt = (QF p0.toNatClampNeg 1).toInt ∧ (qf427 4).toInt = (QF p0.toNatClampNeg 4).toInt ∧ (qf427 5).toInt = (QF p0.toNatClampNeg 5).toInt ∧ (qf427 7).toInt = (QF p0.toNatClampNeg 7).toInt ∧ (qf427 10).toInt = (QF p0.toNatClampNeg 10).toInt ∧ (qf427 11).toInt = (QF p0.toNatClampNeg 11).toInt) ∧ (qf427 12).toInt = (QF p0.toNatClampNeg 12).toInt ∧ (qf427 13).toInt = (QF p0.toNatClampNeg 13).toInt ∧ (qf427 14).toInt = (QF p0.toNatClampNeg 14).toInt ∧ (qf427 24).toInt = (QF p0.toNatClampNeg 24).toInt from by first | with_reducible rfl | with_reducible assumption | omega))⟩
          have hqk1_QF454 : (QF454 p0.toNatClampNeg 1).toInt = (qf427 1).toInt := (by rw [hu_QF454, va_up_s]; try rfl)
          have hqk2_QF454 : (QF454 p0.toNatClampNeg 2).toInt = (qf427 2).toInt := (by rw [hu_QF454, va_up_s]; try rfl)
          have hqk4_QF454 : (QF454 p0.toNatClampNeg 4).toInt = (qf427 4).toInt := (by rw [hu_QF454, va_up_s]; try rfl)
          have hqk24_QF454 : (QF454 p0.toNatClampNeg 24).toInt = (qf427 24).toInt := (by rw [hu_QF454, va_up_s]; try rfl)
          have hw : pw D A s.heap _ _ [wd_Mo cs mo mr (fun _ => none) mf md (gMo PG hq), fm 13 (fPr cs hq qr QO453 QF454 QA455), fm 8 (fPg cs PG)] := hw.sub [0, 2, 1] rfl rfl
          exact px_iret (v := 1) S hr rfl hlk hAe hw (Nat.le_of_ble_eq_true rfl) (Nat.le_of_ble_eq_true rfl) (⟨mf, md, QO453, QF454, QA455, rfl, (show 0 ≤ (1 : Int) from by first | decide | omega), (show (1 : Int) ≤ 1 from by first | decide | omega), (show PrA PG (va_up RR p0.toNatClampNeg (RR p0.toNatClampNeg - (1 : Int))) QO453 QF454 QA455 from (hpr.low (by omega) (by omega) (by omega) (by have q9 := cl_nat (x := p0) (by first | exact g0 | omega); omega))), (show (mf 0).toInt = (mf 0).toInt from rfl), (show (mf 2).toInt = (mf 2).toInt from rfl), (show (mf 3).toInt = (mf 3).toInt from rfl), (show (mf 7).toInt = (mf 7).toInt from rfl), (show (mf 8).toInt = (mf 8).toInt from rfl), (show (mf 10).toInt = (mf 10).toInt from rfl)⟩) d_Mo_rawCall_343
        · have nc452 : ¬ v446.toInt = (0 : Int) := mt (i_eq (x := v446) (y := 0)).mpr c452
          refine lv_aload_n S.x S.b d_Mo_rawCall_301 rfl (lv_at hl 4 rfl) ?_
          refine px_get S k_Mpr hT hw 3 0 19 (v := .ref ((qr p0.toNatClampNeg) 19)) rfl rfl rfl (by decide) m11_12 d_Mo_rawCall_302 ?_
          refine lv_bipush (v := 10) S.x S.b d_Mo_rawCall_305 (by decide) ?_
          refine lv_iload S.x S.b d_Mo_rawCall_307 (lv_at hl 0 rfl) ?_
          refine lv_if_eq (tgt := 319) S.x S.b d_Mo_rawCall_309 (by decide) (fun c456 => ?_) (fun c456 => ?_)
          ·
            refine lv_iload_n S.x S.b d_Mo_rawCall_319 rfl (lv_at hl 3 rfl) ?_
            refine px_iast S hT hw 3 7 (n := 32) (f := ((QA p0.toNatClampNeg) 19)) (x := 10) (y := z2) rfl (ga_Mpr_19 _ _ _ _ _ _ _) (vp_in_iff.mpr (by constructor <;> omega)) d_Mo_rawCall_320 (w' := wd_Mpr cs (hq p0.toNatClampNeg) (qr p0.toNatClampNeg) (fun _ => QO p0.toNatClampNeg) qf427 (va_up (QA p0.toNatClampNeg) 19 (upd ((QA p0.toNatClampNeg) 19) (10 : Int32).toNatClampNeg z2)) (fun _ _ => none)) (ps' := [wd_Mo cs mo mr (fun _ => none) mf md (gMo PG hq), fm 8 (fPg cs PG), fo 13 (fPr cs hq qr QO QF QA) p0.toNatClampNeg, wd_Mpr cs (hq p0.toNatClampNeg) (qr p0.toNatClampNeg) (fun _ => QO p0.toNatClampNeg) qf427 (va_up (QA p0.toNatClampNeg) 19 (upd ((QA p0.toNatClampNeg) 19) (10 : Int32).toNatClampNeg z2)) (fun _ _ => none)]) (sa_Mpr_19 _ _ _ _ _ _ _ _) rfl (fun H locs hw => ?_)
            refine lv_aload_n S.x S.b d_Mo_rawCall_321 rfl (lv_at hl 4 rfl) ?_
            refine lv_aload_n S.x S.b d_Mo_rawCall_322 rfl (lv_at hl 4 rfl) ?_
            refine px_get S k_Mpr hT hw 3 0 11 (v := .int (qf427 11)) rfl rfl rfl (by decide) m11_3 d_Mo_rawCall_323 ?_
            refine lv_iconst (v := 4) S.x S.b d_Mo_rawCall_326 (by decide) ?_
            refine lv_iadd S.x S.b d_Mo_rawCall_327 ?_
            have lr457 := Int32.le_toInt (qf427 11)
            have ur457 := Int32.toInt_lt (qf427 11)
            refine lv_topi (fun z458 ez458 => ?_)
            have tz458 : z458.toInt = ((qf427 11).toInt + (4 : Int) + 2147483648) % 4294967296 - 2147483648 := by rw [ez458]; exact i_add (qf427 11) 4
            have lz458 := Int32.le_toInt z458
            have uz458 := Int32.toInt_lt z458
            try replace tz458 : z458.toInt = (qf427 11).toInt + (4 : Int) := by omega
            refine px_put S k_Mpr hT hw 3 0 11 rfl rfl (by decide) m11_3 rfl rfl rfl (Nat.le_of_ble_eq_true rfl) d_Mo_rawCall_328 (w' := wd_Mpr cs (hq p0.toNatClampNeg) (qr p0.toNatClampNeg) (fun _ => QO p0.toNatClampNeg) (upd qf427 11 z458) (va_up (QA p0.toNatClampNeg) 19 (upd ((QA p0.toNatClampNeg) 19) (10 : Int32).toNatClampNeg z2)) (fun _ _ => none)) (ps' := [wd_Mo cs mo mr (fun _ => none) mf md (gMo PG hq), fm 8 (fPg cs PG), fo 13 (fPr cs hq qr QO QF QA) p0.toNatClampNeg, wd_Mpr cs (hq p0.toNatClampNeg) (qr p0.toNatClampNeg) (fun _ => QO p0.toNatClampNeg) (upd qf427 11 z458) (va_up (QA p0.toNatClampNeg) 19 (upd ((QA p0.toNatClampNeg) 19) (10 : Int32).toNatClampNeg z2)) (fun _ _ => none)]) rfl rfl (fun H locs hw => ?_)
            refine lv_aload_n S.x S.b d_Mo_rawCall_331 rfl (lv_at hl 4 rfl) ?_
            refine lv_dup S.x S.b d_Mo_rawCall_332 rfl ?_
            refine px_get S k_Mpr hT hw 3 0 4 (v := .int (qf427 4)) rfl rfl rfl (by decide) m10_230 d_Mo_rawCall_333 ?_
            refine lv_iconst (v := 1) S.x S.b d_Mo_rawCall_336 (by decide) ?_
            refine lv_isub S.x S.b d_Mo_rawCall_337 ?_
            have lr459 := Int32.le_toInt (qf427 4)
            have ur459 := Int32.toInt_lt (qf427 4)
            refine lv_topi (fun z460 ez460 => ?_)
            have tz460 : z460.toInt = ((qf427 4).toInt - (1 : Int) + 2147483648) % 4294967296 - 2147483648 := by rw [ez460]; exact i_sub (qf427 4) 1
            have lz460 := Int32.le_toInt z460
            have uz460 := Int32.toInt_lt z460
            try replace tz460 : z460.toInt = (qf427 4).toInt - (1 : Int) := by omega
            refine px_put S k_Mpr hT hw 3 0 4 rfl rfl (by decide) m10_230 rfl rfl rfl (Nat.le_of_ble_eq_true rfl) d_Mo_rawCall_338 (w' := wd_Mpr cs (hq p0.toNatClampNeg) (qr p0.toNatClampNeg) (fun _ => QO p0.toNatClampNeg) (upd (upd qf427 4 z460) 11 z458) (va_up (QA p0.toNatClampNeg) 19 (upd ((QA p0.toNatClampNeg) 19) (10 : Int32).toNatClampNeg z2)) (fun _ _ => none)) (ps' := [wd_Mo cs mo mr (fun _ => none) mf md (gMo PG hq), fm 8 (fPg cs PG), fo 13 (fPr cs hq qr QO QF QA) p0.toNatClampNeg, wd_Mpr cs (hq p0.toNatClampNeg) (qr p0.toNatClampNeg) (fun _ => QO p0.toNatClampNeg) (upd (upd qf427 4 z460) 11 z458) (va_up (QA p0.toNatClampNeg) 19 (upd ((QA p0.toNatClampNeg) 19) (10 : Int32).toNatClampNeg z2)) (fun _ _ => none)]) rfl rfl (fun H locs hw => ?_)
            refine lv_iload S.x S.b d_Mo_rawCall_341 (lv_at hl 1 rfl) ?_
            have hw := fpr_in (pr := [wd_Mo cs mo mr (fun _ => none) mf md (gMo PG hq), fm 8 (fPg cs PG)]) hw hi1
            obtain ⟨QO461, hu_QO461⟩ : ∃ y : Nat → Option Nat, y = va_up QO p0.toNatClampNeg ((fun _ => QO p0.toNatClampNeg) 0) := ⟨_, rfl⟩
            obtain ⟨QF462, hu_QF462⟩ : ∃ y : Nat → Nat → Int32, y = va_up QF p0.toNatClampNeg (upd (upd qf427 4 z460) 11 z458) := ⟨_, rfl⟩
            obtain ⟨QA463, hu_QA463⟩ : ∃ y : Nat → Nat → Nat → Int32, y = va_up QA p0.toNatClampNeg (va_up (QA p0.toNatClampNeg) 19 (upd ((QA p0.toNatClampNeg) 19) (10 : Int32).toNatClampNeg z2)) := ⟨_, rfl⟩
            have hw : pw D A s.heap _ _ [wd_Mo cs mo mr (fun _ => none) mf md (gMo PG hq), fm 8 (fPg cs PG), fm 13 (fPr cs hq qr QO461 QF462 QA463)] := (by rw [hu_QO461, hu_QF462, hu_QA463]; exact hw)
            have hpr : PrA PG (va_up RR p0.toNatClampNeg (RR p0.toNatClampNeg - (1 : Int))) QO461 QF462 QA463 := (by rw [hu_QO461, hu_QF462, hu_QA463]; exact PrA.upR hpr (psr_raw (j := j9) hj9 hqo h66 (show (0 ≤ (qf427 1).toInt ∧ (qf427 1).toInt ≤ 1) ∧ (0 ≤ (qf427 21).toInt ∧ (qf427 21).toInt ≤ 4) ∧ (0 ≤ (qf427 23).toInt ∧ (qf427 23).toInt ≤ 4) ∧ (0 ≤ (qf427 24).toInt ∧ (qf427 24).toInt ≤ 1000000) ∧ (0 ≤ (qf427 6).toInt ∧ (qf427 6).toInt ≤ 3) ∧ (0 ≤ (qf427 7).toInt ∧ (qf427 7).toInt ≤ 1) from by first | with_reducible rfl | with_reducible assumption | omega) (show (qf427 1).toInt = 1 from by first | exact oz_e863b17997 e431 g6 | omega) (show 0 ≤ z460.toInt ∧ z460.toInt + 1 ≤ RR p0.toNatClampNeg - (1 : Int) ∧ (qf427 24).toInt + z460.toInt ≤ 1600 from by first | with_reducible rfl | with_reducible assumption | omega)) (show (qf427 1).toInt = (QF p0.toNatClampNeg 1).toInt from by first | exact oz_1811ac7fe4 e431 | omega) (show (QF p0.toNatClampNeg 6).toInt ≤ (qf427 6).toInt from by first | exact oz_f9b42d1b56 e434 | omega))
            have hqo : OqE (QO461 p0.toNatClampNeg) (PG j9).h := (by rw [hu_QO461, va_up_s]; exact hqo)
            have hqk1_QF462 : (QF462 p0.toNatClampNeg 1).toInt = (qf427 1).toInt := (by rw [hu_QF462, va_up_s]; try rfl)
            have hqk2_QF462 : (QF462 p0.toNatClampNeg 2).toInt = (qf427 2).toInt := (by rw [hu_QF462, va_up_s]; try rfl)
            have hqk4_QF462 : (QF462 p0.toNatClampNeg 4).toInt = z460.toInt := (by rw [hu_QF462, va_up_s]; try rfl)
            have hqk24_QF462 : (QF462 p0.toNatClampNeg 24).toInt = (qf427 24).toInt := (by rw [hu_QF462, va_up_s]; try rfl)
            have hw : pw D A s.heap _ _ [wd_Mo cs mo mr (fun _ => none) mf md (gMo PG hq), fm 13 (fPr cs hq qr QO461 QF462 QA463), fm 8 (fPg cs PG)] := hw.sub [0, 2, 1] rfl rfl
            exact px_iret (v := 1) S hr rfl hlk hAe hw (Nat.le_of_ble_eq_true rfl) (Nat.le_of_ble_eq_true rfl) (⟨mf, md, QO461, QF462, QA463, rfl, (show 0 ≤ (1 : Int) from by first | decide | omega), (show (1 : Int) ≤ 1 from by first | decide | omega), (show PrA PG (va_up RR p0.toNatClampNeg (RR p0.toNatClampNeg - (1 : Int))) QO461 QF462 QA463 from hpr), (show (mf 0).toInt = (mf 0).toInt from rfl), (show (mf 2).toInt = (mf 2).toInt from rfl), (show (mf 3).toInt = (mf 3).toInt from rfl), (show (mf 7).toInt = (mf 7).toInt from rfl), (show (mf 8).toInt = (mf 8).toInt from rfl), (show (mf 10).toInt = (mf 10).toInt from rfl)⟩) d_Mo_rawCall_343
          · exact absurd c456 (by decide)
    · simp only [List.mem_cons, List.not_mem_nil, or_false] at c43
      refine lv_aload_n S.x S.b d_Mo_rawCall_262 rfl (lv_at hl 4 rfl) ?_
      refine lv_iconst (v := 2) S.x S.b d_Mo_rawCall_263 (by decide) ?_
      refine lv_aload_n S.x S.b d_Mo_rawCall_264 rfl (lv_at hl 4 rfl) ?_
      refine px_get S k_Mpr hT hw 3 0 19 (v := .ref ((qr p0.toNatClampNeg) 19)) rfl rfl rfl (by decide) m11_12 d_Mo_rawCall_265 ?_
      refine lv_bipush (v := 17) S.x S.b d_Mo_rawCall_268 (by decide) ?_
      refine px_iald S hT hw 3 7 (n := 32) (f := ((QA p0.toNatClampNeg) 19)) rfl (ga_Mpr_19 _ _ _ _ _ _ _) (x := 17) (vp_in_iff.mpr (by constructor <;> omega)) d_Mo_rawCall_270 ?_
      refine lv_topi (fun z464 ez464 => ?_)
      have lz464 := Int32.le_toInt z464
      have uz464 := Int32.toInt_lt z464
      refine lv_iadd S.x S.b d_Mo_rawCall_271 ?_
      refine lv_topi (fun z465 ez465 => ?_)
      have tz465 : z465.toInt = ((2 : Int) + z464.toInt + 2147483648) % 4294967296 - 2147483648 := by rw [ez465]; exact i_add 2 z464
      have lz465 := Int32.le_toInt z465
      have uz465 := Int32.toInt_lt z465
      try replace tz465 : z465.toInt = (2 : Int) + z464.toInt := by omega
      refine lv_bipush (v := 16) S.x S.b d_Mo_rawCall_272 (by decide) ?_
      refine lv_isub S.x S.b d_Mo_rawCall_274 ?_
      refine lv_topi (fun z466 ez466 => ?_)
      have tz466 : z466.toInt = (z465.toInt - (16 : Int) + 2147483648) % 4294967296 - 2147483648 := by rw [ez466]; exact i_sub z465 16
      have lz466 := Int32.le_toInt z466
      have uz466 := Int32.toInt_lt z466
      try replace tz466 : z466.toInt = z465.toInt - (16 : Int) := by omega
      refine lv_iconst (v := 0) S.x S.b d_Mo_rawCall_275 (by decide) ?_
      refine px_callv (pr := [wd_Mo cs mo mr (fun _ => none) mf md (gMo PG hq), fm 8 (fPg cs PG), fo 13 (fPr cs hq qr QO QF QA) p0.toNatClampNeg]) (px_runV (As := [.int z466, .int 0]) (rest := []) S (c_mq_end l D cs (hq p0.toNatClampNeg) (qr p0.toNatClampNeg) (fun _ _ => none) (fun _ => QO p0.toNatClampNeg) (QA p0.toNatClampNeg) (QF p0.toNatClampNeg) z466 0   _) hT (pr := [wd_Mo cs mo mr (fun _ => none) mf md (gMo PG hq), fm 8 (fPg cs PG), fo 13 (fPr cs hq qr QO QF QA) p0.toNatClampNeg]) (pcs := [wd_Mpr cs (hq p0.toNatClampNeg) (qr p0.toNatClampNeg) (fun _ => QO p0.toNatClampNeg) (QF p0.toNatClampNeg) (QA p0.toNatClampNeg) (fun _ _ => none)]) hw px_X.tt (px_recv hT hw 3 0 rfl rfl rfl) m13_177 m14_35 m13_175 m13_176 m1_22 q_Mpr_end ⟨Nat.le_of_ble_eq_true rfl, Nat.le_of_ble_eq_true rfl⟩ hl.1 rfl (Nat.le_of_ble_eq_true rfl) d_Mo_rawCall_276 ⟨Nat.le_of_ble_eq_true rfl, Nat.le_of_ble_eq_true rfl⟩) hw hA (fun p469 H locs hp469 hw => ?_)
      obtain ⟨qf468, rfl, e471, e472, e473, e474, e475, e476, e477, e478, e479, e480, e481, e482, e483, e484⟩ := hp469
      replace e471 : (qf468 2).toInt = z466.toInt := e471
      replace e472 : (qf468 1).toInt = ((QF p0.toNatClampNeg) 1).toInt := e472
      replace e473 : (qf468 4).toInt = ((QF p0.toNatClampNeg) 4).toInt := e473
      replace e474 : (qf468 5).toInt = ((QF p0.toNatClampNeg) 5).toInt := e474
      replace e475 : (qf468 6).toInt = ((QF p0.toNatClampNeg) 6).toInt := e475
      replace e476 : (qf468 7).toInt = ((QF p0.toNatClampNeg) 7).toInt := e476
      replace e477 : (qf468 10).toInt = ((QF p0.toNatClampNeg) 10).toInt := e477
      replace e478 : (qf468 11).toInt = ((QF p0.toNatClampNeg) 11).toInt := e478
      replace e479 : (qf468 12).toInt = ((QF p0.toNatClampNeg) 12).toInt := e479
      replace e480 : (qf468 13).toInt = ((QF p0.toNatClampNeg) 13).toInt := e480
      replace e481 : (qf468 14).toInt = ((QF p0.toNatClampNeg) 14).toInt := e481
      replace e482 : (qf468 21).toInt = ((QF p0.toNatClampNeg) 21).toInt := e482
      replace e483 : (qf468 23).toInt = ((QF p0.toNatClampNeg) 23).toInt := e483
      replace e484 : (qf468 24).toInt = ((QF p0.toNatClampNeg) 24).toInt := e484
      replace hw : pw D A s.heap H locs [wd_Mo cs mo mr (fun _ => none) mf md (gMo PG hq), fm 8 (fPg cs PG), fo 13 (fPr cs hq qr QO QF QA) p0.toNatClampNeg, wd_Mpr cs (hq p0.toNatClampNeg) (qr p0.toNatClampNeg) (fun _ => QO p0.toNatClampNeg) qf468 (QA p0.toNatClampNeg) (fun _ _ => none)] := hw
      refine lv_goto (tgt := 289) S.x S.b d_Mo_rawCall_279 (by decide) ?_
      refine lv_iload S.x S.b d_Mo_rawCall_289 (lv_at hl 1 rfl) ?_
      refine lv_if_eq (tgt := 341) S.x S.b d_Mo_rawCall_291 (by decide) (fun c485 => ?_) (fun c485 => ?_)
      · exact absurd c485 (by decide)
      ·
        refine lv_aload_n S.x S.b d_Mo_rawCall_294 rfl (lv_at hl 4 rfl) ?_
        refine px_calli (pr := [wd_Mo cs mo mr (fun _ => none) mf md (gMo PG hq), fm 8 (fPg cs PG), fo 13 (fPr cs hq qr QO QF QA) p0.toNatClampNeg]) (px_runV (As := []) (rest := []) S (c_mq_isGoing l D cs (hq p0.toNatClampNeg) (qr p0.toNatClampNeg) (fun _ _ => none) (fun _ => QO p0.toNatClampNeg) qf468 (QA p0.toNatClampNeg)    _) hT (pr := [wd_Mo cs mo mr (fun _ => none) mf md (gMo PG hq), fm 8 (fPg cs PG), fo 13 (fPr cs hq qr QO QF QA) p0.toNatClampNeg]) (pcs := [wd_Mpr cs (hq p0.toNatClampNeg) (qr p0.toNatClampNeg) (fun _ => QO p0.toNatClampNeg) qf468 (QA p0.toNatClampNeg) (fun _ _ => none)]) hw px_X.tt (px_recv hT hw 3 0 rfl rfl rfl) m13_165 m13_162 m13_163 m13_164 m1_22 q_Mpr_isGoing ⟨Nat.le_of_ble_eq_true rfl, Nat.le_of_ble_eq_true rfl⟩ hl.1 rfl (Nat.le_of_ble_eq_true rfl) d_Mo_rawCall_295 ⟨Nat.le_of_ble_eq_true rfl, Nat.le_of_ble_eq_true rfl⟩) hw hA (fun v487 p486 H locs hp486 hw => ?_)
        obtain ⟨rfl, e488, e489, e490, e491, e492⟩ := hp486
        replace e488 : 0 ≤ v487.toInt := e488
        replace e489 : v487.toInt ≤ 1 := e489
        replace e490 : v487.toInt = 1 → (qf468 1).toInt ≠ 0 := e490
        replace e491 : v487.toInt = 1 → (qf468 2).toInt = -2 := e491
        replace e492 : (qf468 1).toInt ≠ 0 → (qf468 2).toInt = -2 → v487.toInt = 1 := e492
        replace hw : pw D A s.heap H locs [wd_Mo cs mo mr (fun _ => none) mf md (gMo PG hq), fm 8 (fPg cs PG), fo 13 (fPr cs hq qr QO QF QA) p0.toNatClampNeg, wd_Mpr cs (hq p0.toNatClampNeg) (qr p0.toNatClampNeg) (fun _ => QO p0.toNatClampNeg) qf468 (QA p0.toNatClampNeg) (fun _ _ => none)] := hw
        have lv487 := Int32.le_toInt v487
        have uv487 := Int32.toInt_lt v487
        refine lv_if_eq (tgt := 341) S.x S.b d_Mo_rawCall_298 (by decide) (fun c493 => ?_) (fun c493 => ?_)
        · have nc493 : v487.toInt = (0 : Int) := (i_eq (x := v487) (y := 0)).mp c493
          refine lv_iload S.x S.b d_Mo_rawCall_341 (lv_at hl 1 rfl) ?_
          have hw := fpr_in (pr := [wd_Mo cs mo mr (fun _ => none) mf md (gMo PG hq), fm 8 (fPg cs PG)]) hw hi1
          obtain ⟨QO494, hu_QO494⟩ : ∃ y : Nat → Option Nat, y = va_up QO p0.toNatClampNeg ((fun _ => QO p0.toNatClampNeg) 0) := ⟨_, rfl⟩
          obtain ⟨QF495, hu_QF495⟩ : ∃ y : Nat → Nat → Int32, y = va_up QF p0.toNatClampNeg qf468 := ⟨_, rfl⟩
          obtain ⟨QA496, hu_QA496⟩ : ∃ y : Nat → Nat → Nat → Int32, y = va_up QA p0.toNatClampNeg (QA p0.toNatClampNeg) := ⟨_, rfl⟩
          have hw : pw D A s.heap _ _ [wd_Mo cs mo mr (fun _ => none) mf md (gMo PG hq), fm 8 (fPg cs PG), fm 13 (fPr cs hq qr QO494 QF495 QA496)] := (by rw [hu_QO494, hu_QF495, hu_QA496]; exact hw)
          have hpr : PrA PG RR QO494 QF495 QA496 := (by rw [hu_QO494, hu_QF495, hu_QA496]; exact PrA.up hpr (psr_raw (j := j9) hj9 hqo h66 (show (0 ≤ (qf468 1).toInt ∧ (qf468 1).toInt ≤ 1) ∧ (0 ≤ (qf468 21).toInt ∧ (qf468 21).toInt ≤ 4) ∧ (0 ≤ (qf468 23).toInt ∧ (qf468 23).toInt ≤ 4) ∧ (0 ≤ (qf468 24).toInt ∧ (qf468 24).toInt ≤ 1000000) ∧ (0 ≤ (qf468 6).toInt ∧ (qf468 6).toInt ≤ 3) ∧ (0 ≤ (qf468 7).toInt ∧ (qf468 7).toInt ≤ 1) from by first | with_reducible rfl | with_reducible assumption | omega) (show (qf468 1).toInt = 1 from by first | exact oz_e863b17997 e472 g6 | omega) (show 0 ≤ (qf468 4).toInt ∧ (qf468 4).toInt + 1 ≤ RR p0.toNatClampNeg ∧ (qf468 24).toInt + (qf468 4).toInt ≤ 1600 from by first | with_reducible rfl | with_reducible assumption | omega)) (show (qf468 1).toInt = (QF p0.toNatClampNeg 1).toInt from by first | exact oz_1811ac7fe4 e472 | omega) (show (QF p0.toNatClampNeg 6).toInt ≤ (qf468 6).toInt from by first | exact oz_f9b42d1b56 e475 | omega))
          have hqo : OqE (QO494 p0.toNatClampNeg) (PG j9).h := (by rw [hu_QO494, va_up_s]; exact hqo)
          have hkw : KpW QO QF QO494 QF495 p0.toNatClampNeg := ⟨hqo.trans hqoE.symm, (by rw [hu_QF495, va_up_s]; exact (show ((qf468 1).toInt = (QF p0.toNatClampNeg 1).toInt ∧ (qf468 4).toInt = (QF p0.toNatClampNeg 4).toInt ∧ (qf468 5).toInt = (QF p0.toNatClampNeg 5).toInt ∧ (qf468 7).toInt = (QF p0.toNatClampNeg 7).toInt ∧ (qf468 10).toInt = (QF p0.toNatClampNeg 10).toInt ∧ (qf468 11).toInt = (QF p0.toNatClampNeg 11).toInt) ∧ (qf468 12).toInt = (QF p0.toNatClampNeg 12).toInt ∧ (qf468 13).toInt = (QF p0.toNatClampNeg 13).toInt ∧ (qf468 14).toInt = (QF p0.toNatClampNeg 14).toInt ∧ (qf468 24).toInt = (QF p0.toNatClampNeg 24).toInt from by first | with_reducible rfl | with_reducible assumption | omega))⟩
          have hqk1_QF495 : (QF495 p0.toNatClampNeg 1).toInt = (qf468 1).toInt := (by rw [hu_QF495, va_up_s]; try rfl)
          have hqk2_QF495 : (QF495 p0.toNatClampNeg 2).toInt = (qf468 2).toInt := (by rw [hu_QF495, va_up_s]; try rfl)
          have hqk4_QF495 : (QF495 p0.toNatClampNeg 4).toInt = (qf468 4).toInt := (by rw [hu_QF495, va_up_s]; try rfl)
          have hqk24_QF495 : (QF495 p0.toNatClampNeg 24).toInt = (qf468 24).toInt := (by rw [hu_QF495, va_up_s]; try rfl)
          have hw : pw D A s.heap _ _ [wd_Mo cs mo mr (fun _ => none) mf md (gMo PG hq), fm 13 (fPr cs hq qr QO494 QF495 QA496), fm 8 (fPg cs PG)] := hw.sub [0, 2, 1] rfl rfl
          exact px_iret (v := 1) S hr rfl hlk hAe hw (Nat.le_of_ble_eq_true rfl) (Nat.le_of_ble_eq_true rfl) (⟨mf, md, QO494, QF495, QA496, rfl, (show 0 ≤ (1 : Int) from by first | decide | omega), (show (1 : Int) ≤ 1 from by first | decide | omega), (show PrA PG (va_up RR p0.toNatClampNeg (RR p0.toNatClampNeg - (1 : Int))) QO494 QF495 QA496 from (hpr.low (by omega) (by omega) (by omega) (by have q9 := cl_nat (x := p0) (by first | exact g0 | omega); omega))), (show (mf 0).toInt = (mf 0).toInt from rfl), (show (mf 2).toInt = (mf 2).toInt from rfl), (show (mf 3).toInt = (mf 3).toInt from rfl), (show (mf 7).toInt = (mf 7).toInt from rfl), (show (mf 8).toInt = (mf 8).toInt from rfl), (show (mf 10).toInt = (mf 10).toInt from rfl)⟩) d_Mo_rawCall_343
        · have nc493 : ¬ v487.toInt = (0 : Int) := mt (i_eq (x := v487) (y := 0)).mpr c493
          refine lv_aload_n S.x S.b d_Mo_rawCall_301 rfl (lv_at hl 4 rfl) ?_
          refine px_get S k_Mpr hT hw 3 0 19 (v := .ref ((qr p0.toNatClampNeg) 19)) rfl rfl rfl (by decide) m11_12 d_Mo_rawCall_302 ?_
          refine lv_bipush (v := 10) S.x S.b d_Mo_rawCall_305 (by decide) ?_
          refine lv_iload S.x S.b d_Mo_rawCall_307 (lv_at hl 0 rfl) ?_
          refine lv_if_eq (tgt := 319) S.x S.b d_Mo_rawCall_309 (by decide) (fun c497 => ?_) (fun c497 => ?_)
          ·
            refine lv_iload_n S.x S.b d_Mo_rawCall_319 rfl (lv_at hl 3 rfl) ?_
            refine px_iast S hT hw 3 7 (n := 32) (f := ((QA p0.toNatClampNeg) 19)) (x := 10) (y := z2) rfl (ga_Mpr_19 _ _ _ _ _ _ _) (vp_in_iff.mpr (by constructor <;> omega)) d_Mo_rawCall_320 (w' := wd_Mpr cs (hq p0.toNatClampNeg) (qr p0.toNatClampNeg) (fun _ => QO p0.toNatClampNeg) qf468 (va_up (QA p0.toNatClampNeg) 19 (upd ((QA p0.toNatClampNeg) 19) (10 : Int32).toNatClampNeg z2)) (fun _ _ => none)) (ps' := [wd_Mo cs mo mr (fun _ => none) mf md (gMo PG hq), fm 8 (fPg cs PG), fo 13 (fPr cs hq qr QO QF QA) p0.toNatClampNeg, wd_Mpr cs (hq p0.toNatClampNeg) (qr p0.toNatClampNeg) (fun _ => QO p0.toNatClampNeg) qf468 (va_up (QA p0.toNatClampNeg) 19 (upd ((QA p0.toNatClampNeg) 19) (10 : Int32).toNatClampNeg z2)) (fun _ _ => none)]) (sa_Mpr_19 _ _ _ _ _ _ _ _) rfl (fun H locs hw => ?_)
            refine lv_aload_n S.x S.b d_Mo_rawCall_321 rfl (lv_at hl 4 rfl) ?_
            refine lv_aload_n S.x S.b d_Mo_rawCall_322 rfl (lv_at hl 4 rfl) ?_
            refine px_get S k_Mpr hT hw 3 0 11 (v := .int (qf468 11)) rfl rfl rfl (by decide) m11_3 d_Mo_rawCall_323 ?_
            refine lv_iconst (v := 4) S.x S.b d_Mo_rawCall_326 (by decide) ?_
            refine lv_iadd S.x S.b d_Mo_rawCall_327 ?_
            have lr498 := Int32.le_toInt (qf468 11)
            have ur498 := Int32.toInt_lt (qf468 11)
            refine lv_topi (fun z499 ez499 => ?_)
            have tz499 : z499.toInt = ((qf468 11).toInt + (4 : Int) + 2147483648) % 4294967296 - 2147483648 := by rw [ez499]; exact i_add (qf468 11) 4
            have lz499 := Int32.le_toInt z499
            have uz499 := Int32.toInt_lt z499
            try replace tz499 : z499.toInt = (qf468 11).toInt + (4 : Int) := by omega
            refine px_put S k_Mpr hT hw 3 0 11 rfl rfl (by decide) m11_3 rfl rfl rfl (Nat.le_of_ble_eq_true rfl) d_Mo_rawCall_328 (w' := wd_Mpr cs (hq p0.toNatClampNeg) (qr p0.toNatClampNeg) (fun _ => QO p0.toNatClampNeg) (upd qf468 11 z499) (va_up (QA p0.toNatClampNeg) 19 (upd ((QA p0.toNatClampNeg) 19) (10 : Int32).toNatClampNeg z2)) (fun _ _ => none)) (ps' := [wd_Mo cs mo mr (fun _ => none) mf md (gMo PG hq), fm 8 (fPg cs PG), fo 13 (fPr cs hq qr QO QF QA) p0.toNatClampNeg, wd_Mpr cs (hq p0.toNatClampNeg) (qr p0.toNatClampNeg) (fun _ => QO p0.toNatClampNeg) (upd qf468 11 z499) (va_up (QA p0.toNatClampNeg) 19 (upd ((QA p0.toNatClampNeg) 19) (10 : Int32).toNatClampNeg z2)) (fun _ _ => none)]) rfl rfl (fun H locs hw => ?_)
            refine lv_aload_n S.x S.b d_Mo_rawCall_331 rfl (lv_at hl 4 rfl) ?_
            refine lv_dup S.x S.b d_Mo_rawCall_332 rfl ?_
            refine px_get S k_Mpr hT hw 3 0 4 (v := .int (qf468 4)) rfl rfl rfl (by decide) m10_230 d_Mo_rawCall_333 ?_
            refine lv_iconst (v := 1) S.x S.b d_Mo_rawCall_336 (by decide) ?_
            refine lv_isub S.x S.b d_Mo_rawCall_337 ?_
            have lr500 := Int32.le_toInt (qf468 4)
            have ur500 := Int32.toInt_lt (qf468 4)
            refine lv_topi (fun z501 ez501 => ?_)
            have tz501 : z501.toInt = ((qf468 4).toInt - (1 : Int) + 2147483648) % 4294967296 - 2147483648 := by rw [ez501]; exact i_sub (qf468 4) 1
            have lz501 := Int32.le_toInt z501
            have uz501 := Int32.toInt_lt z501
            try replace tz501 : z501.toInt = (qf468 4).toInt - (1 : Int) := by omega
            refine px_put S k_Mpr hT hw 3 0 4 rfl rfl (by decide) m10_230 rfl rfl rfl (Nat.le_of_ble_eq_true rfl) d_Mo_rawCall_338 (w' := wd_Mpr cs (hq p0.toNatClampNeg) (qr p0.toNatClampNeg) (fun _ => QO p0.toNatClampNeg) (upd (upd qf468 4 z501) 11 z499) (va_up (QA p0.toNatClampNeg) 19 (upd ((QA p0.toNatClampNeg) 19) (10 : Int32).toNatClampNeg z2)) (fun _ _ => none)) (ps' := [wd_Mo cs mo mr (fun _ => none) mf md (gMo PG hq), fm 8 (fPg cs PG), fo 13 (fPr cs hq qr QO QF QA) p0.toNatClampNeg, wd_Mpr cs (hq p0.toNatClampNeg) (qr p0.toNatClampNeg) (fun _ => QO p0.toNatClampNeg) (upd (upd qf468 4 z501) 11 z499) (va_up (QA p0.toNatClampNeg) 19 (upd ((QA p0.toNatClampNeg) 19) (10 : Int32).toNatClampNeg z2)) (fun _ _ => none)]) rfl rfl (fun H locs hw => ?_)
            refine lv_iload S.x S.b d_Mo_rawCall_341 (lv_at hl 1 rfl) ?_
            have hw := fpr_in (pr := [wd_Mo cs mo mr (fun _ => none) mf md (gMo PG hq), fm 8 (fPg cs PG)]) hw hi1
            obtain ⟨QO502, hu_QO502⟩ : ∃ y : Nat → Option Nat, y = va_up QO p0.toNatClampNeg ((fun _ => QO p0.toNatClampNeg) 0) := ⟨_, rfl⟩
            obtain ⟨QF503, hu_QF503⟩ : ∃ y : Nat → Nat → Int32, y = va_up QF p0.toNatClampNeg (upd (upd qf468 4 z501) 11 z499) := ⟨_, rfl⟩
            obtain ⟨QA504, hu_QA504⟩ : ∃ y : Nat → Nat → Nat → Int32, y = va_up QA p0.toNatClampNeg (va_up (QA p0.toNatClampNeg) 19 (upd ((QA p0.toNatClampNeg) 19) (10 : Int32).toNatClampNeg z2)) := ⟨_, rfl⟩
            have hw : pw D A s.heap _ _ [wd_Mo cs mo mr (fun _ => none) mf md (gMo PG hq), fm 8 (fPg cs PG), fm 13 (fPr cs hq qr QO502 QF503 QA504)] := (by rw [hu_QO502, hu_QF503, hu_QA504]; exact hw)
            have hpr : PrA PG (va_up RR p0.toNatClampNeg (RR p0.toNatClampNeg - (1 : Int))) QO502 QF503 QA504 := (by rw [hu_QO502, hu_QF503, hu_QA504]; exact PrA.upR hpr (psr_raw (j := j9) hj9 hqo h66 (show (0 ≤ (qf468 1).toInt ∧ (qf468 1).toInt ≤ 1) ∧ (0 ≤ (qf468 21).toInt ∧ (qf468 21).toInt ≤ 4) ∧ (0 ≤ (qf468 23).toInt ∧ (qf468 23).toInt ≤ 4) ∧ (0 ≤ (qf468 24).toInt ∧ (qf468 24).toInt ≤ 1000000) ∧ (0 ≤ (qf468 6).toInt ∧ (qf468 6).toInt ≤ 3) ∧ (0 ≤ (qf468 7).toInt ∧ (qf468 7).toInt ≤ 1) from by first | with_reducible rfl | with_reducible assumption | omega) (show (qf468 1).toInt = 1 from by first | exact oz_e863b17997 e472 g6 | omega) (show 0 ≤ z501.toInt ∧ z501.toInt + 1 ≤ RR p0.toNatClampNeg - (1 : Int) ∧ (qf468 24).toInt + z501.toInt ≤ 1600 from by first | with_reducible rfl | with_reducible assumption | omega)) (show (qf468 1).toInt = (QF p0.toNatClampNeg 1).toInt from by first | exact oz_1811ac7fe4 e472 | omega) (show (QF p0.toNatClampNeg 6).toInt ≤ (qf468 6).toInt from by first | exact oz_f9b42d1b56 e475 | omega))
            have hqo : OqE (QO502 p0.toNatClampNeg) (PG j9).h := (by rw [hu_QO502, va_up_s]; exact hqo)
            have hqk1_QF503 : (QF503 p0.toNatClampNeg 1).toInt = (qf468 1).toInt := (by rw [hu_QF503, va_up_s]; try rfl)
            have hqk2_QF503 : (QF503 p0.toNatClampNeg 2).toInt = (qf468 2).toInt := (by rw [hu_QF503, va_up_s]; try rfl)
            have hqk4_QF503 : (QF503 p0.toNatClampNeg 4).toInt = z501.toInt := (by rw [hu_QF503, va_up_s]; try rfl)
            have hqk24_QF503 : (QF503 p0.toNatClampNeg 24).toInt = (qf468 24).toInt := (by rw [hu_QF503, va_up_s]; try rfl)
            have hw : pw D A s.heap _ _ [wd_Mo cs mo mr (fun _ => none) mf md (gMo PG hq), fm 13 (fPr cs hq qr QO502 QF503 QA504), fm 8 (fPg cs PG)] := hw.sub [0, 2, 1] rfl rfl
            exact px_iret (v := 1) S hr rfl hlk hAe hw (Nat.le_of_ble_eq_true rfl) (Nat.le_of_ble_eq_true rfl) (⟨mf, md, QO502, QF503, QA504, rfl, (show 0 ≤ (1 : Int) from by first | decide | omega), (show (1 : Int) ≤ 1 from by first | decide | omega), (show PrA PG (va_up RR p0.toNatClampNeg (RR p0.toNatClampNeg - (1 : Int))) QO502 QF503 QA504 from hpr), (show (mf 0).toInt = (mf 0).toInt from rfl), (show (mf 2).toInt = (mf 2).toInt from rfl), (show (mf 3).toInt = (mf 3).toInt from rfl), (show (mf 7).toInt = (mf 7).toInt from rfl), (show (mf 8).toInt = (mf 8).toInt from rfl), (show (mf 10).toInt = (mf 10).toInt from rfl)⟩) d_Mo_rawCall_343
          · exact absurd c497 (by decide)
