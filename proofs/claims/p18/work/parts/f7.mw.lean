theorem oz_a9d413b9a3 {a0 a1 a2 a3 a4 : Int} (h0 : a0 = a1 + a2) (h1 : 0 ≤ a2) (h2 : a1 = 16 * a3) (h3 : 0 ≤ a3) (h4 : ¬ a4 ≤ a2) (h5 : a3 < 8) (h6 : a4 ≤ 16) : 0 ≤ a0 ∧ a0 < ((128 : Nat) : Int) := by omega
theorem oz_475cc07103  : (16 : Int) ≤ 16 := by omega
theorem oz_05cfa6a11f {a0 : Int} (h0 : ¬ (16 : Int) ≤ a0) : a0 ≤ 16 := by omega
theorem m14_98 : Cond.methodLink "HomeSystemModel" 196 ⟨"HomeSystemModel$Process", "wordAt", "(I)I"⟩ ∈ AL := AL_14 (List.mem_of_getElem? (i := 98) rfl) rfl
theorem m14_97 : Cond.methodLink "HomeSystemModel" 193 ⟨"HomeSystemModel$Process", "setWord", "(II)V"⟩ ∈ AL := AL_14 (List.mem_of_getElem? (i := 97) rfl) rfl
theorem m14_96 : Cond.methodLink "HomeSystemModel" 190 ⟨"HomeSystemModel$Process", "canRead", "(I)Z"⟩ ∈ AL := AL_14 (List.mem_of_getElem? (i := 96) rfl) rfl
theorem m14_95 : Cond.methodLink "HomeSystemModel" 187 ⟨"HomeSystemModel$Process", "canWrite", "(I)Z"⟩ ∈ AL := AL_14 (List.mem_of_getElem? (i := 95) rfl) rfl
theorem m11_12 : Cond.fieldLink "HomeSystemModel" 172 "HomeSystemModel$Process" "registers" "[I" ∈ AL := AL_11 (List.mem_of_getElem? (i := 12) rfl) rfl
theorem m13_162 : Cond.methodLink "HomeSystemModel" 178 ⟨"HomeSystemModel$Process", "isGoing", "()Z"⟩ ∈ AL := AL_13 (List.mem_of_getElem? (i := 162) rfl) rfl
theorem m13_165 : Cond.code ⟨"HomeSystemModel$Process", "isGoing", "()Z"⟩ prog_15_method_2_code 1 (Option.some FieldType.boolean) ∈ AL := AL_13 (List.mem_of_getElem? (i := 165) rfl) rfl
theorem m13_164 : Cond.selects "HomeSystemModel$Process" ⟨"HomeSystemModel$Process", "isGoing", "()Z"⟩ ⟨"HomeSystemModel$Process", "isGoing", "()Z"⟩ ∈ AL := AL_13 (List.mem_of_getElem? (i := 164) rfl) rfl
theorem m13_163 : Cond.instanceMethod ⟨"HomeSystemModel$Process", "isGoing", "()Z"⟩ ∈ AL := AL_13 (List.mem_of_getElem? (i := 163) rfl) rfl
theorem m11_3 : Cond.fieldLink "HomeSystemModel" 181 "HomeSystemModel$Process" "at" "I" ∈ AL := AL_11 (List.mem_of_getElem? (i := 3) rfl) rfl
theorem m10_230 : Cond.fieldLink "HomeSystemModel" 184 "HomeSystemModel$Process" "work" "I" ∈ AL := AL_10 (List.mem_of_getElem? (i := 230) rfl) rfl
theorem m14_87 : Cond.methodLink "HomeSystemModel" 175 ⟨"HomeSystemModel", "moveWords", "(IZIII)V"⟩ ∈ AL := AL_14 (List.mem_of_getElem? (i := 87) rfl) rfl
theorem m14_90 : Cond.code ⟨"HomeSystemModel", "moveWords", "(IZIII)V"⟩ prog_14_method_26_code 10 (Option.none : Option Jvm.ClassFile.FieldType) ∈ AL := AL_14 (List.mem_of_getElem? (i := 90) rfl) rfl
theorem ms_16_7 : Cond.selects "HomeSystemModel" ⟨"HomeSystemModel", "moveWords", "(IZIII)V"⟩ ⟨"HomeSystemModel", "moveWords", "(IZIII)V"⟩ ∈ AL := AL_p (q := (⟨"HomeSystemModel", "moveWords", "(IZIII)V"⟩, 11)) (by unfold lw_privs; exact List.mem_append_right _ (List.mem_append_right _ (List.mem_append_right _ (List.mem_append_right _ (List.mem_append_right _ (List.mem_append_right _ (List.mem_append_right _ (List.mem_append_right _ (List.mem_append_right _ (List.mem_append_right _ (List.mem_append_right _ (List.mem_append_right _ (List.mem_append_right _ (List.mem_append_right _ (List.mem_append_right _ (List.mem_append_left _ (List.mem_of_getElem? (i := 7) rfl)))))))))))))))))
theorem m14_89 : Cond.instanceMethod ⟨"HomeSystemModel", "moveWords", "(IZIII)V"⟩ ∈ AL := AL_14 (List.mem_of_getElem? (i := 89) rfl) rfl
theorem oG_G {PG : Nat → Pgs} : oG (fun A U H => ∀ j : Nat, j < 8 → oP A (PG j).g U H) := oG_all fun _ => oG_all fun _ => oG_P
abbrev b_Mo_moveWords : ByteArray := prog_14_method_26_code
def y_Mo_moveWords : MethodName := ⟨"HomeSystemModel", "moveWords", "(IZIII)V"⟩
theorem d_Mo_moveWords_0 : decode b_Mo_moveWords 0 = .ok (.aload_n 0, 1) := by decide +kernel
theorem d_Mo_moveWords_1 : decode b_Mo_moveWords 1 = .ok (.iload_n 1, 1) := by decide +kernel
theorem d_Mo_moveWords_2 : decode b_Mo_moveWords 2 = .ok (.iload_n 3, 1) := by decide +kernel
theorem d_Mo_moveWords_3 : decode b_Mo_moveWords 3 = .ok (.invokevirtual 166, 3) := by decide +kernel
theorem d_Mo_moveWords_6 : decode b_Mo_moveWords 6 = .ok (.ifCond .ne 4, 3) := by decide +kernel
theorem d_Mo_moveWords_9 : decode b_Mo_moveWords 9 = .ok (.return_, 1) := by decide +kernel
theorem d_Mo_moveWords_10 : decode b_Mo_moveWords 10 = .ok (.aload_n 0, 1) := by decide +kernel
theorem d_Mo_moveWords_11 : decode b_Mo_moveWords 11 = .ok (.getfield 21, 3) := by decide +kernel
theorem d_Mo_moveWords_14 : decode b_Mo_moveWords 14 = .ok (.iload_n 1, 1) := by decide +kernel
theorem d_Mo_moveWords_15 : decode b_Mo_moveWords 15 = .ok (.aaload, 1) := by decide +kernel
theorem d_Mo_moveWords_16 : decode b_Mo_moveWords 16 = .ok (.astore 6, 2) := by decide +kernel
theorem d_Mo_moveWords_18 : decode b_Mo_moveWords 18 = .ok (.iload 5, 2) := by decide +kernel
theorem d_Mo_moveWords_20 : decode b_Mo_moveWords 20 = .ok (.bipush 16, 2) := by decide +kernel
theorem d_Mo_moveWords_22 : decode b_Mo_moveWords 22 = .ok (.if_icmp .ge 8, 3) := by decide +kernel
theorem d_Mo_moveWords_25 : decode b_Mo_moveWords 25 = .ok (.iload 5, 2) := by decide +kernel
theorem d_Mo_moveWords_27 : decode b_Mo_moveWords 27 = .ok (.goto 5, 3) := by decide +kernel
theorem d_Mo_moveWords_30 : decode b_Mo_moveWords 30 = .ok (.bipush 16, 2) := by decide +kernel
theorem d_Mo_moveWords_32 : decode b_Mo_moveWords 32 = .ok (.istore 7, 2) := by decide +kernel
theorem d_Mo_moveWords_34 : decode b_Mo_moveWords 34 = .ok (.iload 4, 2) := by decide +kernel
theorem d_Mo_moveWords_36 : decode b_Mo_moveWords 36 = .ok (.iconst 4, 1) := by decide +kernel
theorem d_Mo_moveWords_37 : decode b_Mo_moveWords 37 = .ok (.irem, 1) := by decide +kernel
theorem d_Mo_moveWords_38 : decode b_Mo_moveWords 38 = .ok (.ifCond .ne 7, 3) := by decide +kernel
theorem d_Mo_moveWords_41 : decode b_Mo_moveWords 41 = .ok (.iconst 1, 1) := by decide +kernel
theorem d_Mo_moveWords_42 : decode b_Mo_moveWords 42 = .ok (.goto 4, 3) := by decide +kernel
theorem d_Mo_moveWords_45 : decode b_Mo_moveWords 45 = .ok (.iconst 0, 1) := by decide +kernel
theorem d_Mo_moveWords_46 : decode b_Mo_moveWords 46 = .ok (.istore 8, 2) := by decide +kernel
theorem d_Mo_moveWords_48 : decode b_Mo_moveWords 48 = .ok (.iconst 0, 1) := by decide +kernel
theorem d_Mo_moveWords_49 : decode b_Mo_moveWords 49 = .ok (.istore 9, 2) := by decide +kernel
theorem d_Mo_moveWords_51 : decode b_Mo_moveWords 51 = .ok (.iload 9, 2) := by decide +kernel
theorem d_Mo_moveWords_53 : decode b_Mo_moveWords 53 = .ok (.iload 7, 2) := by decide +kernel
theorem d_Mo_moveWords_55 : decode b_Mo_moveWords 55 = .ok (.if_icmp .ge 47, 3) := by decide +kernel
theorem d_Mo_moveWords_58 : decode b_Mo_moveWords 58 = .ok (.iload 8, 2) := by decide +kernel
theorem d_Mo_moveWords_60 : decode b_Mo_moveWords 60 = .ok (.ifCond .eq 42, 3) := by decide +kernel
theorem d_Mo_moveWords_63 : decode b_Mo_moveWords 63 = .ok (.iload_n 2, 1) := by decide +kernel
theorem d_Mo_moveWords_64 : decode b_Mo_moveWords 64 = .ok (.ifCond .eq 18, 3) := by decide +kernel
theorem d_Mo_moveWords_67 : decode b_Mo_moveWords 67 = .ok (.aload 6, 2) := by decide +kernel
theorem d_Mo_moveWords_69 : decode b_Mo_moveWords 69 = .ok (.iload 4, 2) := by decide +kernel
theorem d_Mo_moveWords_71 : decode b_Mo_moveWords 71 = .ok (.iconst 4, 1) := by decide +kernel
theorem d_Mo_moveWords_72 : decode b_Mo_moveWords 72 = .ok (.iload 9, 2) := by decide +kernel
theorem d_Mo_moveWords_74 : decode b_Mo_moveWords 74 = .ok (.imul, 1) := by decide +kernel
theorem d_Mo_moveWords_75 : decode b_Mo_moveWords 75 = .ok (.iadd, 1) := by decide +kernel
theorem d_Mo_moveWords_76 : decode b_Mo_moveWords 76 = .ok (.invokevirtual 187, 3) := by decide +kernel
theorem d_Mo_moveWords_79 : decode b_Mo_moveWords 79 = .ok (.goto 15, 3) := by decide +kernel
theorem d_Mo_moveWords_82 : decode b_Mo_moveWords 82 = .ok (.aload 6, 2) := by decide +kernel
theorem d_Mo_moveWords_84 : decode b_Mo_moveWords 84 = .ok (.iload 4, 2) := by decide +kernel
theorem d_Mo_moveWords_86 : decode b_Mo_moveWords 86 = .ok (.iconst 4, 1) := by decide +kernel
theorem d_Mo_moveWords_87 : decode b_Mo_moveWords 87 = .ok (.iload 9, 2) := by decide +kernel
theorem d_Mo_moveWords_89 : decode b_Mo_moveWords 89 = .ok (.imul, 1) := by decide +kernel
theorem d_Mo_moveWords_90 : decode b_Mo_moveWords 90 = .ok (.iadd, 1) := by decide +kernel
theorem d_Mo_moveWords_91 : decode b_Mo_moveWords 91 = .ok (.invokevirtual 190, 3) := by decide +kernel
theorem d_Mo_moveWords_94 : decode b_Mo_moveWords 94 = .ok (.istore 8, 2) := by decide +kernel
theorem d_Mo_moveWords_96 : decode b_Mo_moveWords 96 = .ok (.iinc 9 1, 3) := by decide +kernel
theorem d_Mo_moveWords_99 : decode b_Mo_moveWords 99 = .ok (.goto (-48), 3) := by decide +kernel
theorem d_Mo_moveWords_102 : decode b_Mo_moveWords 102 = .ok (.iload 8, 2) := by decide +kernel
theorem d_Mo_moveWords_104 : decode b_Mo_moveWords 104 = .ok (.ifCond .ne 12, 3) := by decide +kernel
theorem d_Mo_moveWords_107 : decode b_Mo_moveWords 107 = .ok (.aload 6, 2) := by decide +kernel
theorem d_Mo_moveWords_109 : decode b_Mo_moveWords 109 = .ok (.bipush 7, 2) := by decide +kernel
theorem d_Mo_moveWords_111 : decode b_Mo_moveWords 111 = .ok (.iconst 0, 1) := by decide +kernel
theorem d_Mo_moveWords_112 : decode b_Mo_moveWords 112 = .ok (.invokevirtual 85, 3) := by decide +kernel
theorem d_Mo_moveWords_115 : decode b_Mo_moveWords 115 = .ok (.return_, 1) := by decide +kernel
theorem d_Mo_moveWords_116 : decode b_Mo_moveWords 116 = .ok (.iconst 0, 1) := by decide +kernel
theorem d_Mo_moveWords_117 : decode b_Mo_moveWords 117 = .ok (.istore 9, 2) := by decide +kernel
theorem d_Mo_moveWords_119 : decode b_Mo_moveWords 119 = .ok (.iload 9, 2) := by decide +kernel
theorem d_Mo_moveWords_121 : decode b_Mo_moveWords 121 = .ok (.iload 7, 2) := by decide +kernel
theorem d_Mo_moveWords_123 : decode b_Mo_moveWords 123 = .ok (.if_icmp .ge 64, 3) := by decide +kernel
theorem d_Mo_moveWords_126 : decode b_Mo_moveWords 126 = .ok (.iload_n 2, 1) := by decide +kernel
theorem d_Mo_moveWords_127 : decode b_Mo_moveWords 127 = .ok (.ifCond .eq 30, 3) := by decide +kernel
theorem d_Mo_moveWords_130 : decode b_Mo_moveWords 130 = .ok (.aload 6, 2) := by decide +kernel
theorem d_Mo_moveWords_132 : decode b_Mo_moveWords 132 = .ok (.iload 4, 2) := by decide +kernel
theorem d_Mo_moveWords_134 : decode b_Mo_moveWords 134 = .ok (.iconst 4, 1) := by decide +kernel
theorem d_Mo_moveWords_135 : decode b_Mo_moveWords 135 = .ok (.iload 9, 2) := by decide +kernel
theorem d_Mo_moveWords_137 : decode b_Mo_moveWords 137 = .ok (.imul, 1) := by decide +kernel
theorem d_Mo_moveWords_138 : decode b_Mo_moveWords 138 = .ok (.iadd, 1) := by decide +kernel
theorem d_Mo_moveWords_139 : decode b_Mo_moveWords 139 = .ok (.aload_n 0, 1) := by decide +kernel
theorem d_Mo_moveWords_140 : decode b_Mo_moveWords 140 = .ok (.getfield 25, 3) := by decide +kernel
theorem d_Mo_moveWords_143 : decode b_Mo_moveWords 143 = .ok (.bipush 16, 2) := by decide +kernel
theorem d_Mo_moveWords_145 : decode b_Mo_moveWords 145 = .ok (.iload_n 3, 1) := by decide +kernel
theorem d_Mo_moveWords_146 : decode b_Mo_moveWords 146 = .ok (.imul, 1) := by decide +kernel
theorem d_Mo_moveWords_147 : decode b_Mo_moveWords 147 = .ok (.iload 9, 2) := by decide +kernel
theorem d_Mo_moveWords_149 : decode b_Mo_moveWords 149 = .ok (.iadd, 1) := by decide +kernel
theorem d_Mo_moveWords_150 : decode b_Mo_moveWords 150 = .ok (.iaload, 1) := by decide +kernel
theorem d_Mo_moveWords_151 : decode b_Mo_moveWords 151 = .ok (.invokevirtual 193, 3) := by decide +kernel
theorem d_Mo_moveWords_154 : decode b_Mo_moveWords 154 = .ok (.goto 27, 3) := by decide +kernel
theorem d_Mo_moveWords_157 : decode b_Mo_moveWords 157 = .ok (.aload_n 0, 1) := by decide +kernel
theorem d_Mo_moveWords_158 : decode b_Mo_moveWords 158 = .ok (.getfield 25, 3) := by decide +kernel
theorem d_Mo_moveWords_161 : decode b_Mo_moveWords 161 = .ok (.bipush 16, 2) := by decide +kernel
theorem d_Mo_moveWords_163 : decode b_Mo_moveWords 163 = .ok (.iload_n 3, 1) := by decide +kernel
theorem d_Mo_moveWords_164 : decode b_Mo_moveWords 164 = .ok (.imul, 1) := by decide +kernel
theorem d_Mo_moveWords_165 : decode b_Mo_moveWords 165 = .ok (.iload 9, 2) := by decide +kernel
theorem d_Mo_moveWords_167 : decode b_Mo_moveWords 167 = .ok (.iadd, 1) := by decide +kernel
theorem d_Mo_moveWords_168 : decode b_Mo_moveWords 168 = .ok (.aload 6, 2) := by decide +kernel
theorem d_Mo_moveWords_170 : decode b_Mo_moveWords 170 = .ok (.iload 4, 2) := by decide +kernel
theorem d_Mo_moveWords_172 : decode b_Mo_moveWords 172 = .ok (.iconst 4, 1) := by decide +kernel
theorem d_Mo_moveWords_173 : decode b_Mo_moveWords 173 = .ok (.iload 9, 2) := by decide +kernel
theorem d_Mo_moveWords_175 : decode b_Mo_moveWords 175 = .ok (.imul, 1) := by decide +kernel
theorem d_Mo_moveWords_176 : decode b_Mo_moveWords 176 = .ok (.iadd, 1) := by decide +kernel
theorem d_Mo_moveWords_177 : decode b_Mo_moveWords 177 = .ok (.invokevirtual 196, 3) := by decide +kernel
theorem d_Mo_moveWords_180 : decode b_Mo_moveWords 180 = .ok (.iastore, 1) := by decide +kernel
theorem d_Mo_moveWords_181 : decode b_Mo_moveWords 181 = .ok (.iinc 9 1, 3) := by decide +kernel
theorem d_Mo_moveWords_184 : decode b_Mo_moveWords 184 = .ok (.goto (-65), 3) := by decide +kernel
theorem d_Mo_moveWords_187 : decode b_Mo_moveWords 187 = .ok (.return_, 1) := by decide +kernel
theorem q_Mo_moveWords : px_y y_Mo_moveWords 5 := by unfold px_y; decide +kernel
set_option maxHeartbeats 4000000 in
set_option maxRecDepth 100000 in
theorem c_mo_moveWords (l : Launch) (D : va_G) (cs : Nat → ClassId) (RR : Nat → Int) (j9 : Nat) (mo : Nat) (mr : Nat → Nat) (mf : Nat → Int32) (md : Nat → Nat → Int32) (hq : Nat → Nat) (qr : Nat → Nat → Nat) (QO : Nat → Option Nat) (QF : Nat → Nat → Int32) (QA : Nat → Nat → Nat → Int32) (PG : Nat → Pgs) (p0 p1 p2 p3 p4 : Int32)  (g0 : 0 ≤ p0.toInt) (g1 : p0.toInt < 13) (g2 : (QF p0.toNatClampNeg 1).toInt = 1) (g3 : (QF p0.toNatClampNeg 2).toInt = -2) (hpr : PrA PG RR QO QF QA) (hpg : PgA PG) (hj9 : j9 < 8) (h66 : ((PG j9).xf 66).toInt = 2) (hqo : OqE (QO p0.toNatClampNeg) (PG j9).h) (hrw : PsW (RR p0.toNatClampNeg) (QF p0.toNatClampNeg)) : MetV l y_Mo_moveWords b_Mo_moveWords 10 D cs 4 160 (0) (0) [.ref mo, .int p0, .int p1, .int p2, .int p3, .int p4] [wd_Mo cs mo mr (fun _ => none) mf md (gMo PG hq), fm 13 (fPr cs hq qr QO QF QA), fm 8 (fPg cs PG)] (oX (fun A U H => (∀ j : Nat, j < 8 → oP A (PG j).g U H)) [wd_Mo cs mo mr (fun _ => none) mf md (gMo PG hq), fm 13 (fPr cs hq qr QO QF QA), fm 8 (fPg cs PG)]) (fun ps => ∃ (mf' : Nat → Int32) (md' : Nat → Nat → Int32) (QO' : Nat → Option Nat) (QF' : Nat → Nat → Int32) (QA' : Nat → Nat → Nat → Int32), (ps = [wd_Mo cs mo mr (fun _ => none) mf' md' (gMo PG hq), fm 13 (fPr cs hq qr QO' QF' QA'), fm 8 (fPg cs PG)]) ∧ (PrA PG RR QO' QF' QA') ∧ (OqE (QO' p0.toNatClampNeg) (PG j9).h) ∧ (KpW QO QF QO' QF' p0.toNatClampNeg) ∧ ((mf' 0).toInt = (mf 0).toInt) ∧ ((mf' 2).toInt = (mf 2).toInt) ∧ ((mf' 3).toInt = (mf 3).toInt) ∧ ((mf' 7).toInt = (mf 7).toInt) ∧ ((mf' 8).toInt = (mf 8).toInt) ∧ ((mf' 9).toInt = (mf 9).toInt) ∧ ((mf' 10).toInt = (mf 10).toInt) ∧ (Md1 md md')) := by
  refine px_enter (by decide) (Nat.le_of_ble_eq_true rfl) ?_
  intro p e s m below meth c A ls hAe S hr hlk hnm hA hT hX hw hl
  have hl : lv_has ls 10 [(0, .ref mo), (1, .int p0), (2, .int p1), (3, .int p2), (4, .int p3), (5, .int p4)] := hl
  have lp0 := Int32.le_toInt p0
  have up0 := Int32.toInt_lt p0
  have lp1 := Int32.le_toInt p1
  have up1 := Int32.toInt_lt p1
  have lp2 := Int32.le_toInt p2
  have up2 := Int32.toInt_lt p2
  have lp3 := Int32.le_toInt p3
  have up3 := Int32.toInt_lt p3
  have lp4 := Int32.le_toInt p4
  have up4 := Int32.toInt_lt p4
  have cst0 : (0 : Int32).toInt = 0 := rfl
  have cst1 : (1 : Int32).toInt = 1 := rfl
  have cst4 : (4 : Int32).toInt = 4 := rfl
  have cst7 : (7 : Int32).toInt = 7 := rfl
  have cst16 : (16 : Int32).toInt = 16 := rfl
  have hX : (fun A U H => (∀ j : Nat, j < 8 → oP A (PG j).g U H)) A s s.heap := by rw [hAe]; exact hX
  have hGG := hX
  have hmdq : Md1 md md := rfl
  have hkw : KpW QO QF QO QF p0.toNatClampNeg := ⟨rfl, KpF.rf⟩
  have hrw0 := hrw
  have hqoE : QO p0.toNatClampNeg = some (PG j9).h := hqo
  unfold PsW at hrw0
  have J119 : ∀ (n_119 : Nat) (mf_119 : Nat → Int32) (md_119 : Nat → Nat → Int32) (QO_119 : Nat → Option Nat) (QF_119 : Nat → Nat → Int32) (QA_119 : Nat → Nat → Nat → Int32) (x119_7 x119_9 : Int32) (H : Heap) (locs : List Loc) (ls : Array Slot), ((mf_119 0).toInt = (mf 0).toInt) → ((mf_119 2).toInt = (mf 2).toInt) → ((mf_119 3).toInt = (mf 3).toInt) → ((mf_119 7).toInt = (mf 7).toInt) → ((mf_119 8).toInt = (mf 8).toInt) → ((mf_119 9).toInt = (mf 9).toInt) → ((mf_119 10).toInt = (mf 10).toInt) → (Md1 md md_119) → (PrA PG RR QO_119 QF_119 QA_119) → (OqE (QO_119 p0.toNatClampNeg) (PG j9).h) → (KpW QO QF QO_119 QF_119 p0.toNatClampNeg) → (p0.toInt = 0) → (0 ≤ p2.toInt) → (p2.toInt < 8) → (x119_7.toInt ≤ 16) → (0 ≤ x119_9.toInt) → (RdLw p1.toInt p3.toInt x119_7.toInt ((PG j9).xf 68).toInt) → 17 - x119_9.toInt + 4294967296 < (n_119 : Int) → pw D A s.heap H locs [wd_Mo cs mo mr (fun _ => none) mf_119 md_119 (gMo PG hq), fm 13 (fPr cs hq qr QO_119 QF_119 QA_119), fm 8 (fPg cs PG)] → lv_has ls 10 [(0, .ref mo), (1, .int p0), (2, .int p1), (3, .int p2), (4, .int p3), (5, .int p4), (6, .ref (hq p0.toNatClampNeg)), (7, .int x119_7), (9, .int x119_9)] → W p l e { frames := 4, cells := 0, slots := 0, locals := 160 } s m [.ref mo, .int p0, .int p1, .int p2, .int p3, .int p4].toArray below meth c H locs 0 0 (MQ below (va_Qv (fun ps => ∃ (mf' : Nat → Int32) (md' : Nat → Nat → Int32) (QO' : Nat → Option Nat) (QF' : Nat → Nat → Int32) (QA' : Nat → Nat → Nat → Int32), (ps = [wd_Mo cs mo mr (fun _ => none) mf' md' (gMo PG hq), fm 13 (fPr cs hq qr QO' QF' QA'), fm 8 (fPg cs PG)]) ∧ (PrA PG RR QO' QF' QA') ∧ (OqE (QO' p0.toNatClampNeg) (PG j9).h) ∧ (KpW QO QF QO' QF' p0.toNatClampNeg) ∧ ((mf' 0).toInt = (mf 0).toInt) ∧ ((mf' 2).toInt = (mf 2).toInt) ∧ ((mf' 3).toInt = (mf 3).toInt) ∧ ((mf' 7).toInt = (mf 7).toInt) ∧ ((mf' 8).toInt = (mf 8).toInt) ∧ ((mf' 9).toInt = (mf 9).toInt) ∧ ((mf' 10).toInt = (mf 10).toInt) ∧ (Md1 md md')) (pc_B D (va_A ([wd_Mo cs mo mr (fun _ => none) mf md (gMo PG hq), fm 13 (fPr cs hq qr QO QF QA), fm 8 (fPg cs PG)] : List va_W).flatten s.heap.size)) (va_A ([wd_Mo cs mo mr (fun _ => none) mf md (gMo PG hq), fm 13 (fPr cs hq qr QO QF QA), fm 8 (fPg cs PG)] : List va_W).flatten s.heap.size)) [.ref mo, .int p0, .int p1, .int p2, .int p3, .int p4].toArray s 0 0 A) (F0 m 119 ls []) := by
    intro  n_119
    induction n_119 with
    | zero =>
      intro mf_119 md_119 QO_119 QF_119 QA_119 x119_7 x119_9 H locs ls k119_0 k119_1 k119_2 k119_3 k119_4 k119_5 k119_6 k119_7 k119_8 k119_9 k119_10 k119_11 k119_12 k119_13 k119_14 k119_15 k119_16 hm hw hl
      have lx119_7 := Int32.le_toInt x119_7
      have ux119_7 := Int32.toInt_lt x119_7
      have lx119_9 := Int32.le_toInt x119_9
      have ux119_9 := Int32.toInt_lt x119_9
      have hmdq := k119_7
      have hpr := k119_8
      have hqo := k119_9
      have hkw := k119_10
      have hkf := hkw.2
      unfold KpF at hkf
      have hrl := k119_16
      exact absurd hm (by omega)
    | succ n_119 ih119 =>
      intro mf_119 md_119 QO_119 QF_119 QA_119 x119_7 x119_9 H locs ls k119_0 k119_1 k119_2 k119_3 k119_4 k119_5 k119_6 k119_7 k119_8 k119_9 k119_10 k119_11 k119_12 k119_13 k119_14 k119_15 k119_16 hm hw hl
      have lx119_7 := Int32.le_toInt x119_7
      have ux119_7 := Int32.toInt_lt x119_7
      have lx119_9 := Int32.le_toInt x119_9
      have ux119_9 := Int32.toInt_lt x119_9
      have hmdq := k119_7
      have hpr := k119_8
      have hqo := k119_9
      have hkw := k119_10
      have hkf := hkw.2
      unfold KpF at hkf
      have hrl := k119_16
      refine lv_iload S.x S.b d_Mo_moveWords_119 (lv_at hl 8 rfl) ?_
      refine lv_iload S.x S.b d_Mo_moveWords_121 (lv_at hl 7 rfl) ?_
      refine lv_icmp_ge (tgt := 187) S.x S.b d_Mo_moveWords_123 (by decide) (fun c1 => ?_) (fun c1 => ?_)
      · have nc1 : x119_7.toInt ≤ x119_9.toInt := (i_le (x := x119_7) (y := x119_9)).mp c1
        exact px_vret S hr hlk hAe hw (Nat.le_of_ble_eq_true rfl) (Nat.le_of_ble_eq_true rfl) (⟨mf_119, md_119, QO_119, QF_119, QA_119, rfl, (show PrA PG RR QO_119 QF_119 QA_119 from hpr), (show OqE (QO_119 p0.toNatClampNeg) (PG j9).h from hqo), (show KpW QO QF QO_119 QF_119 p0.toNatClampNeg from hkw), (show (mf_119 0).toInt = (mf 0).toInt from by first | exact k119_0 | omega), (show (mf_119 2).toInt = (mf 2).toInt from by first | exact k119_1 | omega), (show (mf_119 3).toInt = (mf 3).toInt from by first | exact k119_2 | omega), (show (mf_119 7).toInt = (mf 7).toInt from by first | exact k119_3 | omega), (show (mf_119 8).toInt = (mf 8).toInt from by first | exact k119_4 | omega), (show (mf_119 9).toInt = (mf 9).toInt from by first | exact k119_5 | omega), (show (mf_119 10).toInt = (mf 10).toInt from by first | exact k119_6 | omega), (show Md1 md md_119 from hmdq)⟩) d_Mo_moveWords_187
      · have nc1 : ¬ x119_7.toInt ≤ x119_9.toInt := mt (i_le (x := x119_7) (y := x119_9)).mpr c1
        refine lv_iload_n S.x S.b d_Mo_moveWords_126 rfl (lv_at hl 2 rfl) ?_
        refine lv_if_eq (tgt := 157) S.x S.b d_Mo_moveWords_127 (by decide) (fun c3 => ?_) (fun c3 => ?_)
        · have nc3 : p1.toInt = (0 : Int) := (i_eq (x := p1) (y := 0)).mp c3
          refine lv_aload_n S.x S.b d_Mo_moveWords_157 rfl (lv_at hl 0 rfl) ?_
          have hw : pw D A s.heap _ _ [wd_Mo cs mo mr (fun _ => none) mf_119 md_119 (gMo PG hq), fm 8 (fPg cs PG), fm 13 (fPr cs hq qr QO_119 QF_119 QA_119)] := hw.sub [0, 2, 1] rfl rfl
          have hc5 := cl_nat (x := p0) (by first | exact g0 | omega)
          have hi5 : p0.toNatClampNeg < 13 := by first | exact oz_a63a387477 hc5 k119_11 | omega
          have hw : pw D A s.heap _ _ [wd_Mo cs mo mr (fun _ => none) mf_119 md_119 (gMo PG hq), fm 8 (fPg cs PG), fo 13 (fPr cs hq qr QO_119 QF_119 QA_119) p0.toNatClampNeg, wd_Mpr cs (hq p0.toNatClampNeg) (qr p0.toNatClampNeg) (fun _ => QO_119 p0.toNatClampNeg) (QF_119 p0.toNatClampNeg) (QA_119 p0.toNatClampNeg) (fun _ _ => none)] := fm_out (pr := [wd_Mo cs mo mr (fun _ => none) mf_119 md_119 (gMo PG hq), fm 8 (fPg cs PG)]) (T := fPr cs hq qr QO_119 QF_119 QA_119) hw hi5
          have hps5 := hpr.1 p0.toNatClampNeg hi5
          have hpb5 := hps5.1
          unfold PsB at hpb5
          have hw : pw D A s.heap _ _ [wd_Mo cs mo mr (fun _ => none) mf_119 md_119 (gMo PG hq), fm 8 (fPg cs PG), fo 13 (fPr cs hq qr QO_119 QF_119 QA_119) p0.toNatClampNeg, wd_Mpr cs (hq p0.toNatClampNeg) (qr p0.toNatClampNeg) (fun k => if k = 0 then (some (PG j9).h) else none) (QF_119 p0.toNatClampNeg) (QA_119 p0.toNatClampNeg) (fun _ _ => none)] := (by have q8 := hw; rw [wd_oo (o := (fun _ => QO_119 p0.toNatClampNeg)) (o' := (fun k => if k = 0 then (some (PG j9).h) else none)) hqo] at q8; exact q8)
          have hw : pw D A s.heap _ _ [wd_Mo cs mo mr (fun _ => none) mf_119 md_119 (gMo PG hq), fo 13 (fPr cs hq qr QO_119 QF_119 QA_119) p0.toNatClampNeg, wd_Mpr cs (hq p0.toNatClampNeg) (qr p0.toNatClampNeg) (fun k => if k = 0 then (some (PG j9).h) else none) (QF_119 p0.toNatClampNeg) (QA_119 p0.toNatClampNeg) (fun _ _ => none), fm 8 (fPg cs PG)] := hw.sub [0, 2, 3, 1] rfl rfl
          have hw : pw D A s.heap _ _ [wd_Mo cs mo mr (fun _ => none) mf_119 md_119 (gMo PG hq), fo 13 (fPr cs hq qr QO_119 QF_119 QA_119) p0.toNatClampNeg, wd_Mpr cs (hq p0.toNatClampNeg) (qr p0.toNatClampNeg) (fun k => if k = 0 then (some (PG j9).h) else none) (QF_119 p0.toNatClampNeg) (QA_119 p0.toNatClampNeg) (fun _ _ => none), fo 8 (fPg cs PG) j9, wdP cs (PG j9).h (PG j9).r (PG j9).g (PG j9).tf (PG j9).ta (PG j9).pf (PG j9).na (PG j9).ma (PG j9).wa (PG j9).cf (PG j9).ca (PG j9).ef (PG j9).ea (PG j9).xf (PG j9).xa] := fm_out (pr := [wd_Mo cs mo mr (fun _ => none) mf_119 md_119 (gMo PG hq), fo 13 (fPr cs hq qr QO_119 QF_119 QA_119) p0.toNatClampNeg, wd_Mpr cs (hq p0.toNatClampNeg) (qr p0.toNatClampNeg) (fun k => if k = 0 then (some (PG j9).h) else none) (QF_119 p0.toNatClampNeg) (QA_119 p0.toNatClampNeg) (fun _ _ => none)]) (T := fPg cs PG) hw hj9
          have hpo6 := hpg j9 hj9
          have hp16 := hpo6.1
          have hp26 := hpo6.2.1
          have hP := hGG j9 hj9
          have hck := (hrl x119_9.toInt (by omega) (by omega)).2 (by omega); unfold TxW ClX at hck
          refine px_get S k_Mo hT hw 0 0 6 (v := .ref (mr 6)) rfl rfl rfl (by decide) m11_84 d_Mo_moveWords_158 ?_
          refine lv_bipush (v := 16) S.x S.b d_Mo_moveWords_161 (by decide) ?_
          refine lv_iload_n S.x S.b d_Mo_moveWords_163 rfl (lv_at hl 3 rfl) ?_
          refine lv_imul S.x S.b d_Mo_moveWords_164 ?_
          refine lv_topi (fun z7 ez7 => ?_)
          have lz7 := Int32.le_toInt z7
          have uz7 := Int32.toInt_lt z7
          have tz7 : -2147483648 ≤ 16 * p2.toInt → 16 * p2.toInt < 2147483648 → z7.toInt = 16 * p2.toInt := by rw [ez7]; exact i_mulc 16 p2 (by decide)
          try replace tz7 : z7.toInt = 16 * p2.toInt := by omega
          refine lv_iload S.x S.b d_Mo_moveWords_165 (lv_at hl 8 rfl) ?_
          refine lv_iadd S.x S.b d_Mo_moveWords_167 ?_
          refine lv_topi (fun z8 ez8 => ?_)
          have tz8 : z8.toInt = (z7.toInt + x119_9.toInt + 2147483648) % 4294967296 - 2147483648 := by rw [ez8]; exact i_add z7 x119_9
          have lz8 := Int32.le_toInt z8
          have uz8 := Int32.toInt_lt z8
          try replace tz8 : z8.toInt = z7.toInt + x119_9.toInt := by omega
          refine lv_aload S.x S.b d_Mo_moveWords_168 (lv_at hl 6 rfl) ?_
          refine lv_iload S.x S.b d_Mo_moveWords_170 (lv_at hl 4 rfl) ?_
          refine lv_iconst (v := 4) S.x S.b d_Mo_moveWords_172 (by decide) ?_
          refine lv_iload S.x S.b d_Mo_moveWords_173 (lv_at hl 8 rfl) ?_
          refine lv_imul S.x S.b d_Mo_moveWords_175 ?_
          refine lv_topi (fun z9 ez9 => ?_)
          have lz9 := Int32.le_toInt z9
          have uz9 := Int32.toInt_lt z9
          have tz9 : -2147483648 ≤ 4 * x119_9.toInt → 4 * x119_9.toInt < 2147483648 → z9.toInt = 4 * x119_9.toInt := by rw [ez9]; exact i_mulc 4 x119_9 (by decide)
          try replace tz9 : z9.toInt = 4 * x119_9.toInt := by omega
          refine lv_iadd S.x S.b d_Mo_moveWords_176 ?_
          refine lv_topi (fun z10 ez10 => ?_)
          have tz10 : z10.toInt = (p3.toInt + z9.toInt + 2147483648) % 4294967296 - 2147483648 := by rw [ez10]; exact i_add p3 z9
          have lz10 := Int32.le_toInt z10
          have uz10 := Int32.toInt_lt z10
          try replace tz10 : z10.toInt = p3.toInt + z9.toInt := by omega
          have hw : pw D A s.heap _ _ [wd_Mo cs mo mr (fun _ => none) mf_119 md_119 (gMo PG hq), fo 13 (fPr cs hq qr QO_119 QF_119 QA_119) p0.toNatClampNeg, fo 8 (fPg cs PG) j9, wd_Mpr cs (hq p0.toNatClampNeg) (qr p0.toNatClampNeg) (fun k => if k = 0 then (some (PG j9).h) else none) (QF_119 p0.toNatClampNeg) (QA_119 p0.toNatClampNeg) (fun _ _ => none), wdP cs (PG j9).h (PG j9).r (PG j9).g (PG j9).tf (PG j9).ta (PG j9).pf (PG j9).na (PG j9).ma (PG j9).wa (PG j9).cf (PG j9).ca (PG j9).ef (PG j9).ea (PG j9).xf (PG j9).xa] := hw.sub [0, 1, 3, 2, 4] rfl rfl
          refine px_calli (pr := [wd_Mo cs mo mr (fun _ => none) mf_119 md_119 (gMo PG hq), fo 13 (fPr cs hq qr QO_119 QF_119 QA_119) p0.toNatClampNeg, fo 8 (fPg cs PG) j9]) (px_runV (As := [.int z10]) (rest := [.int z8, .ref (mr 6)]) S (c_mr_wordAt l D cs (0 : Int) (hq p0.toNatClampNeg) (qr p0.toNatClampNeg) (fun _ _ => none) (QF_119 p0.toNatClampNeg) (QA_119 p0.toNatClampNeg) (PG j9).h (PG j9).r (PG j9).g (PG j9).tf (PG j9).ta (PG j9).pf (PG j9).na (PG j9).ma (PG j9).wa (PG j9).cf (PG j9).ca (PG j9).ef (PG j9).ea (PG j9).xf (PG j9).xa z10  (show 0 ≤ ((PG j9).xf 68).toInt from by omega) (show ((PG j9).xf 68).toInt ≤ 512 from by omega) (show (4194304 ≤ z10.toInt % 4294967296 ∧ z10.toInt % 4294967296 < 4194304 + (4 * ((PG j9).xf 68).toInt + 4095) / 4096 * 4096) ∨ (5242880 ≤ z10.toInt % 4294967296 ∧ z10.toInt % 4294967296 < 5259264) ∨ (8257536 ≤ z10.toInt % 4294967296 ∧ z10.toInt % 4294967296 < 8388608) from by omega) _) hT (pr := [wd_Mo cs mo mr (fun _ => none) mf_119 md_119 (gMo PG hq), fo 13 (fPr cs hq qr QO_119 QF_119 QA_119) p0.toNatClampNeg, fo 8 (fPg cs PG) j9]) (pcs := [wd_Mpr cs (hq p0.toNatClampNeg) (qr p0.toNatClampNeg) (fun k => if k = 0 then (some (PG j9).h) else none) (QF_119 p0.toNatClampNeg) (QA_119 p0.toNatClampNeg) (fun _ _ => none), wdP cs (PG j9).h (PG j9).r (PG j9).g (PG j9).tf (PG j9).ta (PG j9).pf (PG j9).na (PG j9).ma (PG j9).wa (PG j9).cf (PG j9).ca (PG j9).ef (PG j9).ea (PG j9).xf (PG j9).xa]) hw (oX_call (P := (fun A U H => (oP A (PG j9).g U H))) (pr := [wd_Mo cs mo mr (fun _ => none) mf_119 md_119 (gMo PG hq), fo 13 (fPr cs hq qr QO_119 QF_119 QA_119) p0.toNatClampNeg, fo 8 (fPg cs PG) j9]) oG_P hw hA hP) (px_recv hT hw 3 0 rfl rfl rfl) m13_197 m14_98 m13_195 m13_196 m1_22 q_Mpr_wordAt ⟨Nat.le_of_ble_eq_true rfl, Nat.le_of_ble_eq_true rfl⟩ hl.1 rfl (Nat.le_of_ble_eq_true rfl) d_Mo_moveWords_177 ⟨Nat.le_of_ble_eq_true rfl, Nat.le_of_ble_eq_true rfl⟩) hw hA (fun v12 p11 H locs hp11 hw => ?_)
          subst hp11
          have hw : pw D A s.heap H locs [wd_Mo cs mo mr (fun _ => none) mf_119 md_119 (gMo PG hq), fo 13 (fPr cs hq qr QO_119 QF_119 QA_119) p0.toNatClampNeg, fo 8 (fPg cs PG) j9, wd_Mpr cs (hq p0.toNatClampNeg) (qr p0.toNatClampNeg) (fun k => if k = 0 then (some (PG j9).h) else none) (QF_119 p0.toNatClampNeg) (QA_119 p0.toNatClampNeg) (fun _ _ => none), wdP cs (PG j9).h (PG j9).r (PG j9).g (PG j9).tf (PG j9).ta (PG j9).pf (PG j9).na (PG j9).ma (PG j9).wa (PG j9).cf (PG j9).ca (PG j9).ef (PG j9).ea (PG j9).xf (PG j9).xa] := hw
          have lv12 := Int32.le_toInt v12
          have uv12 := Int32.toInt_lt v12
          refine px_iast S hT hw 0 4 (n := 128) (f := (md_119 6)) (x := z8) (y := v12) rfl (ga_Mo_6 _ _ _ _ _ _ _) (vp_in_iff.mpr (by constructor <;> omega)) d_Mo_moveWords_180 (w' := wd_Mo cs mo mr (fun _ => none) mf_119 (va_up md_119 6 (upd (md_119 6) z8.toNatClampNeg v12)) (gMo PG hq)) (ps' := [wd_Mo cs mo mr (fun _ => none) mf_119 (va_up md_119 6 (upd (md_119 6) z8.toNatClampNeg v12)) (gMo PG hq), fo 13 (fPr cs hq qr QO_119 QF_119 QA_119) p0.toNatClampNeg, fo 8 (fPg cs PG) j9, wd_Mpr cs (hq p0.toNatClampNeg) (qr p0.toNatClampNeg) (fun k => if k = 0 then (some (PG j9).h) else none) (QF_119 p0.toNatClampNeg) (QA_119 p0.toNatClampNeg) (fun _ _ => none), wdP cs (PG j9).h (PG j9).r (PG j9).g (PG j9).tf (PG j9).ta (PG j9).pf (PG j9).na (PG j9).ma (PG j9).wa (PG j9).cf (PG j9).ca (PG j9).ef (PG j9).ea (PG j9).xf (PG j9).xa]) (sa_Mo_6 _ _ _ _ _ _ _ _) rfl (fun H locs hw => ?_)
          obtain ⟨z13, ez13⟩ : ∃ y : Int32, y = x119_9 + 1 := ⟨_, rfl⟩
          have tz13 : z13.toInt = (x119_9.toInt + 1 + 2147483648) % 4294967296 - 2147483648 := by rw [ez13]; exact i_add x119_9 1
          have lz13 := Int32.le_toInt z13
          have uz13 := Int32.toInt_lt z13
          try replace tz13 : z13.toInt = x119_9.toInt + 1 := by omega
          refine lv_iinc (v := z13) (lv' := [(9, .int z13), (0, .ref mo), (1, .int p0), (2, .int p1), (3, .int p2), (4, .int p3), (5, .int p4), (6, .ref (hq p0.toNatClampNeg)), (7, .int x119_7)]) S.x S.b d_Mo_moveWords_181 hl (k := 8) rfl (by rw [ez13]; rfl) (by decide) rfl (fun ls hl => ?_)
          refine lv_goto (tgt := 119) S.x S.b d_Mo_moveWords_184 (by decide) ?_
          have hw : pw D A s.heap _ _ [wd_Mo cs mo mr (fun _ => none) mf_119 (va_up md_119 6 (upd (md_119 6) z8.toNatClampNeg v12)) (gMo PG hq), fo 8 (fPg cs PG) j9, wdP cs (PG j9).h (PG j9).r (PG j9).g (PG j9).tf (PG j9).ta (PG j9).pf (PG j9).na (PG j9).ma (PG j9).wa (PG j9).cf (PG j9).ca (PG j9).ef (PG j9).ea (PG j9).xf (PG j9).xa, fo 13 (fPr cs hq qr QO_119 QF_119 QA_119) p0.toNatClampNeg, wd_Mpr cs (hq p0.toNatClampNeg) (qr p0.toNatClampNeg) (fun k => if k = 0 then (some (PG j9).h) else none) (QF_119 p0.toNatClampNeg) (QA_119 p0.toNatClampNeg) (fun _ _ => none)] := hw.sub [0, 2, 4, 1, 3] rfl rfl
          have hw : pw D A s.heap _ _ [wd_Mo cs mo mr (fun _ => none) mf_119 (va_up md_119 6 (upd (md_119 6) z8.toNatClampNeg v12)) (gMo PG hq), fo 8 (fPg cs PG) j9, wdP cs (PG j9).h (PG j9).r (PG j9).g (PG j9).tf (PG j9).ta (PG j9).pf (PG j9).na (PG j9).ma (PG j9).wa (PG j9).cf (PG j9).ca (PG j9).ef (PG j9).ea (PG j9).xf (PG j9).xa, fm 13 (fPr cs hq qr QO_119 QF_119 QA_119)] := fm_back (pr := [wd_Mo cs mo mr (fun _ => none) mf_119 (va_up md_119 6 (upd (md_119 6) z8.toNatClampNeg v12)) (gMo PG hq), fo 8 (fPg cs PG) j9, wdP cs (PG j9).h (PG j9).r (PG j9).g (PG j9).tf (PG j9).ta (PG j9).pf (PG j9).na (PG j9).ma (PG j9).wa (PG j9).cf (PG j9).ca (PG j9).ef (PG j9).ea (PG j9).xf (PG j9).xa]) (T := fPr cs hq qr QO_119 QF_119 QA_119) (by have q8 := hw; rw [wd_oo (o := (fun k => if k = 0 then (some (PG j9).h) else none)) (o' := fun _ => QO_119 p0.toNatClampNeg) (Eq.symm hqo)] at q8; exact q8) hi5
          have hw : pw D A s.heap _ _ [wd_Mo cs mo mr (fun _ => none) mf_119 (va_up md_119 6 (upd (md_119 6) z8.toNatClampNeg v12)) (gMo PG hq), fm 13 (fPr cs hq qr QO_119 QF_119 QA_119), fo 8 (fPg cs PG) j9, wdP cs (PG j9).h (PG j9).r (PG j9).g (PG j9).tf (PG j9).ta (PG j9).pf (PG j9).na (PG j9).ma (PG j9).wa (PG j9).cf (PG j9).ca (PG j9).ef (PG j9).ea (PG j9).xf (PG j9).xa] := hw.sub [0, 3, 1, 2] rfl rfl
          have hw : pw D A s.heap _ _ [wd_Mo cs mo mr (fun _ => none) mf_119 (va_up md_119 6 (upd (md_119 6) z8.toNatClampNeg v12)) (gMo PG hq), fm 13 (fPr cs hq qr QO_119 QF_119 QA_119), fm 8 (fPg cs PG)] := fm_back (pr := [wd_Mo cs mo mr (fun _ => none) mf_119 (va_up md_119 6 (upd (md_119 6) z8.toNatClampNeg v12)) (gMo PG hq), fm 13 (fPr cs hq qr QO_119 QF_119 QA_119)]) (T := fPg cs PG) hw hj9
          exact ih119 mf_119 (va_up md_119 6 (upd (md_119 6) z8.toNatClampNeg v12)) QO_119 QF_119 QA_119 x119_7 z13 _ _ ls (show (mf_119 0).toInt = (mf 0).toInt from by first | exact k119_0 | omega) (show (mf_119 2).toInt = (mf 2).toInt from by first | exact k119_1 | omega) (show (mf_119 3).toInt = (mf 3).toInt from by first | exact k119_2 | omega) (show (mf_119 7).toInt = (mf 7).toInt from by first | exact k119_3 | omega) (show (mf_119 8).toInt = (mf 8).toInt from by first | exact k119_4 | omega) (show (mf_119 9).toInt = (mf 9).toInt from by first | exact k119_5 | omega) (show (mf_119 10).toInt = (mf 10).toInt from by first | exact k119_6 | omega) (show Md1 md (va_up md_119 6 (upd (md_119 6) z8.toNatClampNeg v12)) from hmdq) (show PrA PG RR QO_119 QF_119 QA_119 from hpr) (show OqE (QO_119 p0.toNatClampNeg) (PG j9).h from hqo) (show KpW QO QF QO_119 QF_119 p0.toNatClampNeg from hkw) (show p0.toInt = 0 from by first | exact k119_11 | omega) (show 0 ≤ p2.toInt from by first | exact k119_12 | omega) (show p2.toInt < 8 from by first | exact k119_13 | omega) (show x119_7.toInt ≤ 16 from by first | exact k119_14 | omega) (show 0 ≤ z13.toInt from by first | exact oz_ae613611c0 tz13 k119_15 | omega) (show RdLw p1.toInt p3.toInt x119_7.toInt ((PG j9).xf 68).toInt from hrl) (show 17 - z13.toInt + 4294967296 < (n_119 : Int) from by omega) hw (lv_sub hl [1, 2, 3, 4, 5, 6, 7, 8, 0] rfl)
        · have nc3 : ¬ p1.toInt = (0 : Int) := mt (i_eq (x := p1) (y := 0)).mpr c3
          refine lv_aload S.x S.b d_Mo_moveWords_130 (lv_at hl 6 rfl) ?_
          have hw : pw D A s.heap _ _ [wd_Mo cs mo mr (fun _ => none) mf_119 md_119 (gMo PG hq), fm 8 (fPg cs PG), fm 13 (fPr cs hq qr QO_119 QF_119 QA_119)] := hw.sub [0, 2, 1] rfl rfl
          have hc14 := cl_nat (x := p0) (by first | exact g0 | omega)
          have hi14 : p0.toNatClampNeg < 13 := by first | exact oz_a63a387477 hc14 k119_11 | omega
          have hw : pw D A s.heap _ _ [wd_Mo cs mo mr (fun _ => none) mf_119 md_119 (gMo PG hq), fm 8 (fPg cs PG), fo 13 (fPr cs hq qr QO_119 QF_119 QA_119) p0.toNatClampNeg, wd_Mpr cs (hq p0.toNatClampNeg) (qr p0.toNatClampNeg) (fun _ => QO_119 p0.toNatClampNeg) (QF_119 p0.toNatClampNeg) (QA_119 p0.toNatClampNeg) (fun _ _ => none)] := fm_out (pr := [wd_Mo cs mo mr (fun _ => none) mf_119 md_119 (gMo PG hq), fm 8 (fPg cs PG)]) (T := fPr cs hq qr QO_119 QF_119 QA_119) hw hi14
          have hps14 := hpr.1 p0.toNatClampNeg hi14
          have hpb14 := hps14.1
          unfold PsB at hpb14
          have hw : pw D A s.heap _ _ [wd_Mo cs mo mr (fun _ => none) mf_119 md_119 (gMo PG hq), fm 8 (fPg cs PG), fo 13 (fPr cs hq qr QO_119 QF_119 QA_119) p0.toNatClampNeg, wd_Mpr cs (hq p0.toNatClampNeg) (qr p0.toNatClampNeg) (fun k => if k = 0 then (some (PG j9).h) else none) (QF_119 p0.toNatClampNeg) (QA_119 p0.toNatClampNeg) (fun _ _ => none)] := (by have q8 := hw; rw [wd_oo (o := (fun _ => QO_119 p0.toNatClampNeg)) (o' := (fun k => if k = 0 then (some (PG j9).h) else none)) hqo] at q8; exact q8)
          have hw : pw D A s.heap _ _ [wd_Mo cs mo mr (fun _ => none) mf_119 md_119 (gMo PG hq), fo 13 (fPr cs hq qr QO_119 QF_119 QA_119) p0.toNatClampNeg, wd_Mpr cs (hq p0.toNatClampNeg) (qr p0.toNatClampNeg) (fun k => if k = 0 then (some (PG j9).h) else none) (QF_119 p0.toNatClampNeg) (QA_119 p0.toNatClampNeg) (fun _ _ => none), fm 8 (fPg cs PG)] := hw.sub [0, 2, 3, 1] rfl rfl
          have hw : pw D A s.heap _ _ [wd_Mo cs mo mr (fun _ => none) mf_119 md_119 (gMo PG hq), fo 13 (fPr cs hq qr QO_119 QF_119 QA_119) p0.toNatClampNeg, wd_Mpr cs (hq p0.toNatClampNeg) (qr p0.toNatClampNeg) (fun k => if k = 0 then (some (PG j9).h) else none) (QF_119 p0.toNatClampNeg) (QA_119 p0.toNatClampNeg) (fun _ _ => none), fo 8 (fPg cs PG) j9, wdP cs (PG j9).h (PG j9).r (PG j9).g (PG j9).tf (PG j9).ta (PG j9).pf (PG j9).na (PG j9).ma (PG j9).wa (PG j9).cf (PG j9).ca (PG j9).ef (PG j9).ea (PG j9).xf (PG j9).xa] := fm_out (pr := [wd_Mo cs mo mr (fun _ => none) mf_119 md_119 (gMo PG hq), fo 13 (fPr cs hq qr QO_119 QF_119 QA_119) p0.toNatClampNeg, wd_Mpr cs (hq p0.toNatClampNeg) (qr p0.toNatClampNeg) (fun k => if k = 0 then (some (PG j9).h) else none) (QF_119 p0.toNatClampNeg) (QA_119 p0.toNatClampNeg) (fun _ _ => none)]) (T := fPg cs PG) hw hj9
          have hpo15 := hpg j9 hj9
          have hp115 := hpo15.1
          have hp215 := hpo15.2.1
          have hP := hGG j9 hj9
          have hck := (hrl x119_9.toInt (by omega) (by omega)).1 (by omega); unfold ClX at hck
          refine lv_iload S.x S.b d_Mo_moveWords_132 (lv_at hl 4 rfl) ?_
          refine lv_iconst (v := 4) S.x S.b d_Mo_moveWords_134 (by decide) ?_
          refine lv_iload S.x S.b d_Mo_moveWords_135 (lv_at hl 8 rfl) ?_
          refine lv_imul S.x S.b d_Mo_moveWords_137 ?_
          refine lv_topi (fun z16 ez16 => ?_)
          have lz16 := Int32.le_toInt z16
          have uz16 := Int32.toInt_lt z16
          have tz16 : -2147483648 ≤ 4 * x119_9.toInt → 4 * x119_9.toInt < 2147483648 → z16.toInt = 4 * x119_9.toInt := by rw [ez16]; exact i_mulc 4 x119_9 (by decide)
          try replace tz16 : z16.toInt = 4 * x119_9.toInt := by omega
          refine lv_iadd S.x S.b d_Mo_moveWords_138 ?_
          refine lv_topi (fun z17 ez17 => ?_)
          have tz17 : z17.toInt = (p3.toInt + z16.toInt + 2147483648) % 4294967296 - 2147483648 := by rw [ez17]; exact i_add p3 z16
          have lz17 := Int32.le_toInt z17
          have uz17 := Int32.toInt_lt z17
          try replace tz17 : z17.toInt = p3.toInt + z16.toInt := by omega
          refine lv_aload_n S.x S.b d_Mo_moveWords_139 rfl (lv_at hl 0 rfl) ?_
          refine px_get S k_Mo hT hw 0 0 6 (v := .ref (mr 6)) rfl rfl rfl (by decide) m11_84 d_Mo_moveWords_140 ?_
          refine lv_bipush (v := 16) S.x S.b d_Mo_moveWords_143 (by decide) ?_
          refine lv_iload_n S.x S.b d_Mo_moveWords_145 rfl (lv_at hl 3 rfl) ?_
          refine lv_imul S.x S.b d_Mo_moveWords_146 ?_
          refine lv_topi (fun z18 ez18 => ?_)
          have lz18 := Int32.le_toInt z18
          have uz18 := Int32.toInt_lt z18
          have tz18 : -2147483648 ≤ 16 * p2.toInt → 16 * p2.toInt < 2147483648 → z18.toInt = 16 * p2.toInt := by rw [ez18]; exact i_mulc 16 p2 (by decide)
          try replace tz18 : z18.toInt = 16 * p2.toInt := by omega
          refine lv_iload S.x S.b d_Mo_moveWords_147 (lv_at hl 8 rfl) ?_
          refine lv_iadd S.x S.b d_Mo_moveWords_149 ?_
          refine lv_topi (fun z19 ez19 => ?_)
          have tz19 : z19.toInt = (z18.toInt + x119_9.toInt + 2147483648) % 4294967296 - 2147483648 := by rw [ez19]; exact i_add z18 x119_9
          have lz19 := Int32.le_toInt z19
          have uz19 := Int32.toInt_lt z19
          try replace tz19 : z19.toInt = z18.toInt + x119_9.toInt := by omega
          refine px_iald S hT hw 0 4 (n := 128) (f := (md_119 6)) rfl (ga_Mo_6 _ _ _ _ _ _ _) (x := z19) (vp_in_iff.mpr (by first | exact oz_a9d413b9a3 tz19 k119_15 tz18 k119_12 nc1 k119_13 k119_14 | (constructor <;> omega))) d_Mo_moveWords_150 ?_
          refine lv_topi (fun z20 ez20 => ?_)
          have lz20 := Int32.le_toInt z20
          have uz20 := Int32.toInt_lt z20
          have hw : pw D A s.heap _ _ [wd_Mo cs mo mr (fun _ => none) mf_119 md_119 (gMo PG hq), fo 13 (fPr cs hq qr QO_119 QF_119 QA_119) p0.toNatClampNeg, fo 8 (fPg cs PG) j9, wd_Mpr cs (hq p0.toNatClampNeg) (qr p0.toNatClampNeg) (fun k => if k = 0 then (some (PG j9).h) else none) (QF_119 p0.toNatClampNeg) (QA_119 p0.toNatClampNeg) (fun _ _ => none), wdP cs (PG j9).h (PG j9).r (PG j9).g (PG j9).tf (PG j9).ta (PG j9).pf (PG j9).na (PG j9).ma (PG j9).wa (PG j9).cf (PG j9).ca (PG j9).ef (PG j9).ea (PG j9).xf (PG j9).xa] := hw.sub [0, 1, 3, 2, 4] rfl rfl
          refine px_callv (pr := [wd_Mo cs mo mr (fun _ => none) mf_119 md_119 (gMo PG hq), fo 13 (fPr cs hq qr QO_119 QF_119 QA_119) p0.toNatClampNeg, fo 8 (fPg cs PG) j9]) (px_runV (As := [.int z17, .int z20]) (rest := []) S (c_mr_setWord l D cs (0 : Int) (hq p0.toNatClampNeg) (qr p0.toNatClampNeg) (fun _ _ => none) (QF_119 p0.toNatClampNeg) (QA_119 p0.toNatClampNeg) (PG j9).h (PG j9).r (PG j9).g (PG j9).tf (PG j9).ta (PG j9).pf (PG j9).na (PG j9).ma (PG j9).wa (PG j9).cf (PG j9).ca (PG j9).ef (PG j9).ea (PG j9).xf (PG j9).xa z17 z20  (show (5242880 ≤ z17.toInt % 4294967296 ∧ z17.toInt % 4294967296 < 5259264) ∨ (8257536 ≤ z17.toInt % 4294967296 ∧ z17.toInt % 4294967296 < 8388608) from by omega) _) hT (pr := [wd_Mo cs mo mr (fun _ => none) mf_119 md_119 (gMo PG hq), fo 13 (fPr cs hq qr QO_119 QF_119 QA_119) p0.toNatClampNeg, fo 8 (fPg cs PG) j9]) (pcs := [wd_Mpr cs (hq p0.toNatClampNeg) (qr p0.toNatClampNeg) (fun k => if k = 0 then (some (PG j9).h) else none) (QF_119 p0.toNatClampNeg) (QA_119 p0.toNatClampNeg) (fun _ _ => none), wdP cs (PG j9).h (PG j9).r (PG j9).g (PG j9).tf (PG j9).ta (PG j9).pf (PG j9).na (PG j9).ma (PG j9).wa (PG j9).cf (PG j9).ca (PG j9).ef (PG j9).ea (PG j9).xf (PG j9).xa]) hw (oX_call (P := (fun A U H => (oP A (PG j9).g U H))) (pr := [wd_Mo cs mo mr (fun _ => none) mf_119 md_119 (gMo PG hq), fo 13 (fPr cs hq qr QO_119 QF_119 QA_119) p0.toNatClampNeg, fo 8 (fPg cs PG) j9]) oG_P hw hA hP) (px_recv hT hw 3 0 rfl rfl rfl) m14_9 m14_97 m14_7 m14_8 m1_22 q_Mpr_setWord ⟨Nat.le_of_ble_eq_true rfl, Nat.le_of_ble_eq_true rfl⟩ hl.1 rfl (Nat.le_of_ble_eq_true rfl) d_Mo_moveWords_151 ⟨Nat.le_of_ble_eq_true rfl, Nat.le_of_ble_eq_true rfl⟩) hw hA (fun p23 H locs hp23 hw => ?_)
          obtain ⟨qa22, rfl⟩ := hp23
          have hw : pw D A s.heap H locs [wd_Mo cs mo mr (fun _ => none) mf_119 md_119 (gMo PG hq), fo 13 (fPr cs hq qr QO_119 QF_119 QA_119) p0.toNatClampNeg, fo 8 (fPg cs PG) j9, wd_Mpr cs (hq p0.toNatClampNeg) (qr p0.toNatClampNeg) (fun k => if k = 0 then (some (PG j9).h) else none) (QF_119 p0.toNatClampNeg) qa22 (fun _ _ => none), wdP cs (PG j9).h (PG j9).r (PG j9).g (PG j9).tf (PG j9).ta (PG j9).pf (PG j9).na (PG j9).ma (PG j9).wa (PG j9).cf (PG j9).ca (PG j9).ef (PG j9).ea (PG j9).xf (PG j9).xa] := hw
          refine lv_goto (tgt := 181) S.x S.b d_Mo_moveWords_154 (by decide) ?_
          obtain ⟨z25, ez25⟩ : ∃ y : Int32, y = x119_9 + 1 := ⟨_, rfl⟩
          have tz25 : z25.toInt = (x119_9.toInt + 1 + 2147483648) % 4294967296 - 2147483648 := by rw [ez25]; exact i_add x119_9 1
          have lz25 := Int32.le_toInt z25
          have uz25 := Int32.toInt_lt z25
          try replace tz25 : z25.toInt = x119_9.toInt + 1 := by omega
          refine lv_iinc (v := z25) (lv' := [(9, .int z25), (0, .ref mo), (1, .int p0), (2, .int p1), (3, .int p2), (4, .int p3), (5, .int p4), (6, .ref (hq p0.toNatClampNeg)), (7, .int x119_7)]) S.x S.b d_Mo_moveWords_181 hl (k := 8) rfl (by rw [ez25]; rfl) (by decide) rfl (fun ls hl => ?_)
          refine lv_goto (tgt := 119) S.x S.b d_Mo_moveWords_184 (by decide) ?_
          have hw : pw D A s.heap _ _ [wd_Mo cs mo mr (fun _ => none) mf_119 md_119 (gMo PG hq), fo 8 (fPg cs PG) j9, wdP cs (PG j9).h (PG j9).r (PG j9).g (PG j9).tf (PG j9).ta (PG j9).pf (PG j9).na (PG j9).ma (PG j9).wa (PG j9).cf (PG j9).ca (PG j9).ef (PG j9).ea (PG j9).xf (PG j9).xa, fo 13 (fPr cs hq qr QO_119 QF_119 QA_119) p0.toNatClampNeg, wd_Mpr cs (hq p0.toNatClampNeg) (qr p0.toNatClampNeg) (fun k => if k = 0 then (some (PG j9).h) else none) (QF_119 p0.toNatClampNeg) qa22 (fun _ _ => none)] := hw.sub [0, 2, 4, 1, 3] rfl rfl
          have hw := fpr_in (pr := [wd_Mo cs mo mr (fun _ => none) mf_119 md_119 (gMo PG hq), fo 8 (fPg cs PG) j9, wdP cs (PG j9).h (PG j9).r (PG j9).g (PG j9).tf (PG j9).ta (PG j9).pf (PG j9).na (PG j9).ma (PG j9).wa (PG j9).cf (PG j9).ca (PG j9).ef (PG j9).ea (PG j9).xf (PG j9).xa]) hw hi14
          obtain ⟨QO26, hu_QO26⟩ : ∃ y : Nat → Option Nat, y = va_up QO_119 p0.toNatClampNeg ((fun k => if k = 0 then (some (PG j9).h) else none) 0) := ⟨_, rfl⟩
          obtain ⟨QF27, hu_QF27⟩ : ∃ y : Nat → Nat → Int32, y = va_up QF_119 p0.toNatClampNeg (QF_119 p0.toNatClampNeg) := ⟨_, rfl⟩
          obtain ⟨QA28, hu_QA28⟩ : ∃ y : Nat → Nat → Nat → Int32, y = va_up QA_119 p0.toNatClampNeg qa22 := ⟨_, rfl⟩
          have hw : pw D A s.heap _ _ [wd_Mo cs mo mr (fun _ => none) mf_119 md_119 (gMo PG hq), fo 8 (fPg cs PG) j9, wdP cs (PG j9).h (PG j9).r (PG j9).g (PG j9).tf (PG j9).ta (PG j9).pf (PG j9).na (PG j9).ma (PG j9).wa (PG j9).cf (PG j9).ca (PG j9).ef (PG j9).ea (PG j9).xf (PG j9).xa, fm 13 (fPr cs hq qr QO26 QF27 QA28)] := (by rw [hu_QO26, hu_QF27, hu_QA28]; exact hw)
          have hpr : PrA PG RR QO26 QF27 QA28 := (by rw [hu_QO26, hu_QF27, hu_QA28]; exact PrA.up hpr (psr_raw (j := j9) hj9 (show _ = some _ from rfl) h66 (show (0 ≤ ((QF_119 p0.toNatClampNeg) 1).toInt ∧ ((QF_119 p0.toNatClampNeg) 1).toInt ≤ 1) ∧ (0 ≤ ((QF_119 p0.toNatClampNeg) 21).toInt ∧ ((QF_119 p0.toNatClampNeg) 21).toInt ≤ 4) ∧ (0 ≤ ((QF_119 p0.toNatClampNeg) 23).toInt ∧ ((QF_119 p0.toNatClampNeg) 23).toInt ≤ 4) ∧ (0 ≤ ((QF_119 p0.toNatClampNeg) 24).toInt ∧ ((QF_119 p0.toNatClampNeg) 24).toInt ≤ 1000000) ∧ (0 ≤ ((QF_119 p0.toNatClampNeg) 6).toInt ∧ ((QF_119 p0.toNatClampNeg) 6).toInt ≤ 3) ∧ (0 ≤ ((QF_119 p0.toNatClampNeg) 7).toInt ∧ ((QF_119 p0.toNatClampNeg) 7).toInt ≤ 1) from by omega) (show ((QF_119 p0.toNatClampNeg) 1).toInt = 1 from by omega) (show 0 ≤ ((QF_119 p0.toNatClampNeg) 4).toInt ∧ ((QF_119 p0.toNatClampNeg) 4).toInt + 1 ≤ RR p0.toNatClampNeg ∧ ((QF_119 p0.toNatClampNeg) 24).toInt + ((QF_119 p0.toNatClampNeg) 4).toInt ≤ 1600 from by omega)) (show ((QF_119 p0.toNatClampNeg) 1).toInt = (QF_119 p0.toNatClampNeg 1).toInt from by first | exact oz_507c05ca68 | omega) (show (QF_119 p0.toNatClampNeg 6).toInt ≤ ((QF_119 p0.toNatClampNeg) 6).toInt from by first | exact oz_1cb5f934a5 | omega))
          have hqo : OqE (QO26 p0.toNatClampNeg) (PG j9).h := (by rw [hu_QO26, va_up_s]; exact rfl)
          have hkw : KpW QO QF QO26 QF27 p0.toNatClampNeg := ⟨hqo.trans hqoE.symm, (by rw [hu_QF27, va_up_s]; exact (show (((QF_119 p0.toNatClampNeg) 1).toInt = (QF p0.toNatClampNeg 1).toInt ∧ ((QF_119 p0.toNatClampNeg) 4).toInt = (QF p0.toNatClampNeg 4).toInt ∧ ((QF_119 p0.toNatClampNeg) 5).toInt = (QF p0.toNatClampNeg 5).toInt ∧ ((QF_119 p0.toNatClampNeg) 7).toInt = (QF p0.toNatClampNeg 7).toInt ∧ ((QF_119 p0.toNatClampNeg) 10).toInt = (QF p0.toNatClampNeg 10).toInt ∧ ((QF_119 p0.toNatClampNeg) 11).toInt = (QF p0.toNatClampNeg 11).toInt) ∧ ((QF_119 p0.toNatClampNeg) 12).toInt = (QF p0.toNatClampNeg 12).toInt ∧ ((QF_119 p0.toNatClampNeg) 13).toInt = (QF p0.toNatClampNeg 13).toInt ∧ ((QF_119 p0.toNatClampNeg) 14).toInt = (QF p0.toNatClampNeg 14).toInt ∧ ((QF_119 p0.toNatClampNeg) 24).toInt = (QF p0.toNatClampNeg 24).toInt from by omega))⟩
          have hqk1_QF27 : (QF27 p0.toNatClampNeg 1).toInt = ((QF_119 p0.toNatClampNeg) 1).toInt := (by rw [hu_QF27, va_up_s]; try rfl)
          have hqk2_QF27 : (QF27 p0.toNatClampNeg 2).toInt = ((QF_119 p0.toNatClampNeg) 2).toInt := (by rw [hu_QF27, va_up_s]; try rfl)
          have hqk4_QF27 : (QF27 p0.toNatClampNeg 4).toInt = ((QF_119 p0.toNatClampNeg) 4).toInt := (by rw [hu_QF27, va_up_s]; try rfl)
          have hqk24_QF27 : (QF27 p0.toNatClampNeg 24).toInt = ((QF_119 p0.toNatClampNeg) 24).toInt := (by rw [hu_QF27, va_up_s]; try rfl)
          have hw : pw D A s.heap _ _ [wd_Mo cs mo mr (fun _ => none) mf_119 md_119 (gMo PG hq), fm 13 (fPr cs hq qr QO26 QF27 QA28), fo 8 (fPg cs PG) j9, wdP cs (PG j9).h (PG j9).r (PG j9).g (PG j9).tf (PG j9).ta (PG j9).pf (PG j9).na (PG j9).ma (PG j9).wa (PG j9).cf (PG j9).ca (PG j9).ef (PG j9).ea (PG j9).xf (PG j9).xa] := hw.sub [0, 3, 1, 2] rfl rfl
          have hw : pw D A s.heap _ _ [wd_Mo cs mo mr (fun _ => none) mf_119 md_119 (gMo PG hq), fm 13 (fPr cs hq qr QO26 QF27 QA28), fm 8 (fPg cs PG)] := fm_back (pr := [wd_Mo cs mo mr (fun _ => none) mf_119 md_119 (gMo PG hq), fm 13 (fPr cs hq qr QO26 QF27 QA28)]) (T := fPg cs PG) hw hj9
          exact ih119 mf_119 md_119 QO26 QF27 QA28 x119_7 z25 _ _ ls (show (mf_119 0).toInt = (mf 0).toInt from by first | exact k119_0 | omega) (show (mf_119 2).toInt = (mf 2).toInt from by first | exact k119_1 | omega) (show (mf_119 3).toInt = (mf 3).toInt from by first | exact k119_2 | omega) (show (mf_119 7).toInt = (mf 7).toInt from by first | exact k119_3 | omega) (show (mf_119 8).toInt = (mf 8).toInt from by first | exact k119_4 | omega) (show (mf_119 9).toInt = (mf 9).toInt from by first | exact k119_5 | omega) (show (mf_119 10).toInt = (mf 10).toInt from by first | exact k119_6 | omega) (show Md1 md md_119 from hmdq) (show PrA PG RR QO26 QF27 QA28 from hpr) (show OqE (QO26 p0.toNatClampNeg) (PG j9).h from hqo) (show KpW QO QF QO26 QF27 p0.toNatClampNeg from hkw) (show p0.toInt = 0 from by first | exact k119_11 | omega) (show 0 ≤ p2.toInt from by first | exact k119_12 | omega) (show p2.toInt < 8 from by first | exact k119_13 | omega) (show x119_7.toInt ≤ 16 from by first | exact k119_14 | omega) (show 0 ≤ z25.toInt from by first | exact oz_ae613611c0 tz25 k119_15 | omega) (show RdLw p1.toInt p3.toInt x119_7.toInt ((PG j9).xf 68).toInt from hrl) (show 17 - z25.toInt + 4294967296 < (n_119 : Int) from by omega) hw (lv_sub hl [1, 2, 3, 4, 5, 6, 7, 8, 0] rfl)
  have J51 : ∀ (n_51 : Nat) (mf_51 : Nat → Int32) (md_51 : Nat → Nat → Int32) (QO_51 : Nat → Option Nat) (QF_51 : Nat → Nat → Int32) (QA_51 : Nat → Nat → Nat → Int32) (x51_7 x51_8 x51_9 : Int32) (H : Heap) (locs : List Loc) (ls : Array Slot), ((mf_51 0).toInt = (mf 0).toInt) → ((mf_51 2).toInt = (mf 2).toInt) → ((mf_51 3).toInt = (mf 3).toInt) → ((mf_51 7).toInt = (mf 7).toInt) → ((mf_51 8).toInt = (mf 8).toInt) → ((mf_51 9).toInt = (mf 9).toInt) → ((mf_51 10).toInt = (mf 10).toInt) → (Md1 md md_51) → (PrA PG RR QO_51 QF_51 QA_51) → (OqE (QO_51 p0.toNatClampNeg) (PG j9).h) → (KpW QO QF QO_51 QF_51 p0.toNatClampNeg) → (p0.toInt = 0) → (0 ≤ p2.toInt) → (p2.toInt < 8) → (x51_7.toInt ≤ 16) → (0 ≤ x51_8.toInt) → (x51_8.toInt ≤ 1) → (0 ≤ x51_9.toInt) → (RdG x51_8.toInt (RdLw p1.toInt p3.toInt x51_9.toInt ((PG j9).xf 68).toInt)) → 17 - x51_9.toInt + 4294967296 < (n_51 : Int) → pw D A s.heap H locs [wd_Mo cs mo mr (fun _ => none) mf_51 md_51 (gMo PG hq), fm 13 (fPr cs hq qr QO_51 QF_51 QA_51), fm 8 (fPg cs PG)] → lv_has ls 10 [(0, .ref mo), (1, .int p0), (2, .int p1), (3, .int p2), (4, .int p3), (5, .int p4), (6, .ref (hq p0.toNatClampNeg)), (7, .int x51_7), (8, .int x51_8), (9, .int x51_9)] → W p l e { frames := 4, cells := 0, slots := 0, locals := 160 } s m [.ref mo, .int p0, .int p1, .int p2, .int p3, .int p4].toArray below meth c H locs 0 0 (MQ below (va_Qv (fun ps => ∃ (mf' : Nat → Int32) (md' : Nat → Nat → Int32) (QO' : Nat → Option Nat) (QF' : Nat → Nat → Int32) (QA' : Nat → Nat → Nat → Int32), (ps = [wd_Mo cs mo mr (fun _ => none) mf' md' (gMo PG hq), fm 13 (fPr cs hq qr QO' QF' QA'), fm 8 (fPg cs PG)]) ∧ (PrA PG RR QO' QF' QA') ∧ (OqE (QO' p0.toNatClampNeg) (PG j9).h) ∧ (KpW QO QF QO' QF' p0.toNatClampNeg) ∧ ((mf' 0).toInt = (mf 0).toInt) ∧ ((mf' 2).toInt = (mf 2).toInt) ∧ ((mf' 3).toInt = (mf 3).toInt) ∧ ((mf' 7).toInt = (mf 7).toInt) ∧ ((mf' 8).toInt = (mf 8).toInt) ∧ ((mf' 9).toInt = (mf 9).toInt) ∧ ((mf' 10).toInt = (mf 10).toInt) ∧ (Md1 md md')) (pc_B D (va_A ([wd_Mo cs mo mr (fun _ => none) mf md (gMo PG hq), fm 13 (fPr cs hq qr QO QF QA), fm 8 (fPg cs PG)] : List va_W).flatten s.heap.size)) (va_A ([wd_Mo cs mo mr (fun _ => none) mf md (gMo PG hq), fm 13 (fPr cs hq qr QO QF QA), fm 8 (fPg cs PG)] : List va_W).flatten s.heap.size)) [.ref mo, .int p0, .int p1, .int p2, .int p3, .int p4].toArray s 0 0 A) (F0 m 51 ls []) := by
    intro  n_51
    induction n_51 with
    | zero =>
      intro mf_51 md_51 QO_51 QF_51 QA_51 x51_7 x51_8 x51_9 H locs ls k51_0 k51_1 k51_2 k51_3 k51_4 k51_5 k51_6 k51_7 k51_8 k51_9 k51_10 k51_11 k51_12 k51_13 k51_14 k51_15 k51_16 k51_17 k51_18 hm hw hl
      have lx51_7 := Int32.le_toInt x51_7
      have ux51_7 := Int32.toInt_lt x51_7
      have lx51_8 := Int32.le_toInt x51_8
      have ux51_8 := Int32.toInt_lt x51_8
      have lx51_9 := Int32.le_toInt x51_9
      have ux51_9 := Int32.toInt_lt x51_9
      have hmdq := k51_7
      have hpr := k51_8
      have hqo := k51_9
      have hkw := k51_10
      have hkf := hkw.2
      unfold KpF at hkf
      have hrd := k51_18
      exact absurd hm (by omega)
    | succ n_51 ih51 =>
      intro mf_51 md_51 QO_51 QF_51 QA_51 x51_7 x51_8 x51_9 H locs ls k51_0 k51_1 k51_2 k51_3 k51_4 k51_5 k51_6 k51_7 k51_8 k51_9 k51_10 k51_11 k51_12 k51_13 k51_14 k51_15 k51_16 k51_17 k51_18 hm hw hl
      have lx51_7 := Int32.le_toInt x51_7
      have ux51_7 := Int32.toInt_lt x51_7
      have lx51_8 := Int32.le_toInt x51_8
      have ux51_8 := Int32.toInt_lt x51_8
      have lx51_9 := Int32.le_toInt x51_9
      have ux51_9 := Int32.toInt_lt x51_9
      have hmdq := k51_7
      have hpr := k51_8
      have hqo := k51_9
      have hkw := k51_10
      have hkf := hkw.2
      unfold KpF at hkf
      have hrd := k51_18
      refine lv_iload S.x S.b d_Mo_moveWords_51 (lv_at hl 9 rfl) ?_
      refine lv_iload S.x S.b d_Mo_moveWords_53 (lv_at hl 7 rfl) ?_
      refine lv_icmp_ge (tgt := 102) S.x S.b d_Mo_moveWords_55 (by decide) (fun c29 => ?_) (fun c29 => ?_)
      · have nc29 : x51_7.toInt ≤ x51_9.toInt := (i_le (x := x51_7) (y := x51_9)).mp c29
        refine lv_iload S.x S.b d_Mo_moveWords_102 (lv_at hl 8 rfl) ?_
        refine lv_if_ne (tgt := 116) S.x S.b d_Mo_moveWords_104 (by decide) (fun c31 => ?_) (fun c31 => ?_)
        · have nc31 : ¬ x51_8.toInt = (0 : Int) := mt (i_eq (x := x51_8) (y := 0)).mpr c31
          refine lv_iconst (v := 0) S.x S.b d_Mo_moveWords_116 (by decide) ?_
          refine lv_istore (lv' := [(9, .int 0), (0, .ref mo), (1, .int p0), (2, .int p1), (3, .int p2), (4, .int p3), (5, .int p4), (6, .ref (hq p0.toNatClampNeg)), (7, .int x51_7), (8, .int x51_8)]) S.x S.b d_Mo_moveWords_117 hl (by decide) rfl (fun ls hl => ?_)
          exact J119 ((17 - (0 : Int) + 4294967296).toNat + 1) mf_51 md_51 QO_51 QF_51 QA_51 x51_7 (0 : Int32) _ _ ls (show (mf_51 0).toInt = (mf 0).toInt from by first | exact k51_0 | omega) (show (mf_51 2).toInt = (mf 2).toInt from by first | exact k51_1 | omega) (show (mf_51 3).toInt = (mf 3).toInt from by first | exact k51_2 | omega) (show (mf_51 7).toInt = (mf 7).toInt from by first | exact k51_3 | omega) (show (mf_51 8).toInt = (mf 8).toInt from by first | exact k51_4 | omega) (show (mf_51 9).toInt = (mf 9).toInt from by first | exact k51_5 | omega) (show (mf_51 10).toInt = (mf 10).toInt from by first | exact k51_6 | omega) (show Md1 md md_51 from hmdq) (show PrA PG RR QO_51 QF_51 QA_51 from hpr) (show OqE (QO_51 p0.toNatClampNeg) (PG j9).h from hqo) (show KpW QO QF QO_51 QF_51 p0.toNatClampNeg from hkw) (show p0.toInt = 0 from by first | exact k51_11 | omega) (show 0 ≤ p2.toInt from by first | exact k51_12 | omega) (show p2.toInt < 8 from by first | exact k51_13 | omega) (show x51_7.toInt ≤ 16 from by first | exact k51_14 | omega) (show 0 ≤ (0 : Int) from by first | exact oz_5a341f00aa | omega) (show RdLw p1.toInt p3.toInt x51_7.toInt ((PG j9).xf 68).toInt from (fun k9 a9 b9 => hrd (by omega) k9 a9 (by omega))) (show 17 - (0 : Int) + 4294967296 < ((((17 - (0 : Int) + 4294967296).toNat + 1 : Nat) : Int) : Int) from by first | exact oz_natlt | omega) hw (lv_sub hl [1, 2, 3, 4, 5, 6, 7, 8, 0] rfl)
        · have nc31 : x51_8.toInt = (0 : Int) := (i_eq (x := x51_8) (y := 0)).mp c31
          refine lv_aload S.x S.b d_Mo_moveWords_107 (lv_at hl 6 rfl) ?_
          refine lv_bipush (v := 7) S.x S.b d_Mo_moveWords_109 (by decide) ?_
          refine lv_iconst (v := 0) S.x S.b d_Mo_moveWords_111 (by decide) ?_
          have hw : pw D A s.heap _ _ [wd_Mo cs mo mr (fun _ => none) mf_51 md_51 (gMo PG hq), fm 8 (fPg cs PG), fm 13 (fPr cs hq qr QO_51 QF_51 QA_51)] := hw.sub [0, 2, 1] rfl rfl
          have hc33 := cl_nat (x := p0) (by first | exact g0 | omega)
          have hi33 : p0.toNatClampNeg < 13 := by first | exact oz_a63a387477 hc33 k51_11 | omega
          have hw : pw D A s.heap _ _ [wd_Mo cs mo mr (fun _ => none) mf_51 md_51 (gMo PG hq), fm 8 (fPg cs PG), fo 13 (fPr cs hq qr QO_51 QF_51 QA_51) p0.toNatClampNeg, wd_Mpr cs (hq p0.toNatClampNeg) (qr p0.toNatClampNeg) (fun _ => QO_51 p0.toNatClampNeg) (QF_51 p0.toNatClampNeg) (QA_51 p0.toNatClampNeg) (fun _ _ => none)] := fm_out (pr := [wd_Mo cs mo mr (fun _ => none) mf_51 md_51 (gMo PG hq), fm 8 (fPg cs PG)]) (T := fPr cs hq qr QO_51 QF_51 QA_51) hw hi33
          have hps33 := hpr.1 p0.toNatClampNeg hi33
          have hpb33 := hps33.1
          unfold PsB at hpb33
          refine px_callv (pr := [wd_Mo cs mo mr (fun _ => none) mf_51 md_51 (gMo PG hq), fm 8 (fPg cs PG), fo 13 (fPr cs hq qr QO_51 QF_51 QA_51) p0.toNatClampNeg]) (px_runV (As := [.int 7, .int 0]) (rest := []) S (c_mq_end l D cs (hq p0.toNatClampNeg) (qr p0.toNatClampNeg) (fun _ _ => none) (fun _ => QO_51 p0.toNatClampNeg) (QA_51 p0.toNatClampNeg) (QF_51 p0.toNatClampNeg) 7 0   _) hT (pr := [wd_Mo cs mo mr (fun _ => none) mf_51 md_51 (gMo PG hq), fm 8 (fPg cs PG), fo 13 (fPr cs hq qr QO_51 QF_51 QA_51) p0.toNatClampNeg]) (pcs := [wd_Mpr cs (hq p0.toNatClampNeg) (qr p0.toNatClampNeg) (fun _ => QO_51 p0.toNatClampNeg) (QF_51 p0.toNatClampNeg) (QA_51 p0.toNatClampNeg) (fun _ _ => none)]) hw px_X.tt (px_recv hT hw 3 0 rfl rfl rfl) m13_177 m14_35 m13_175 m13_176 m1_22 q_Mpr_end ⟨Nat.le_of_ble_eq_true rfl, Nat.le_of_ble_eq_true rfl⟩ hl.1 rfl (Nat.le_of_ble_eq_true rfl) d_Mo_moveWords_112 ⟨Nat.le_of_ble_eq_true rfl, Nat.le_of_ble_eq_true rfl⟩) hw hA (fun p36 H locs hp36 hw => ?_)
          obtain ⟨qf35, rfl, e38, e39, e40, e41, e42, e43, e44, e45, e46, e47, e48, e49, e50, e51⟩ := hp36
          have e38 : (qf35 2).toInt = (7 : Int) := e38
          have e39 : (qf35 1).toInt = ((QF_51 p0.toNatClampNeg) 1).toInt := e39
          have e40 : (qf35 4).toInt = ((QF_51 p0.toNatClampNeg) 4).toInt := e40
          have e41 : (qf35 5).toInt = ((QF_51 p0.toNatClampNeg) 5).toInt := e41
          have e42 : (qf35 6).toInt = ((QF_51 p0.toNatClampNeg) 6).toInt := e42
          have e43 : (qf35 7).toInt = ((QF_51 p0.toNatClampNeg) 7).toInt := e43
          have e44 : (qf35 10).toInt = ((QF_51 p0.toNatClampNeg) 10).toInt := e44
          have e45 : (qf35 11).toInt = ((QF_51 p0.toNatClampNeg) 11).toInt := e45
          have e46 : (qf35 12).toInt = ((QF_51 p0.toNatClampNeg) 12).toInt := e46
          have e47 : (qf35 13).toInt = ((QF_51 p0.toNatClampNeg) 13).toInt := e47
          have e48 : (qf35 14).toInt = ((QF_51 p0.toNatClampNeg) 14).toInt := e48
          have e49 : (qf35 21).toInt = ((QF_51 p0.toNatClampNeg) 21).toInt := e49
          have e50 : (qf35 23).toInt = ((QF_51 p0.toNatClampNeg) 23).toInt := e50
          have e51 : (qf35 24).toInt = ((QF_51 p0.toNatClampNeg) 24).toInt := e51
          have hw : pw D A s.heap H locs [wd_Mo cs mo mr (fun _ => none) mf_51 md_51 (gMo PG hq), fm 8 (fPg cs PG), fo 13 (fPr cs hq qr QO_51 QF_51 QA_51) p0.toNatClampNeg, wd_Mpr cs (hq p0.toNatClampNeg) (qr p0.toNatClampNeg) (fun _ => QO_51 p0.toNatClampNeg) qf35 (QA_51 p0.toNatClampNeg) (fun _ _ => none)] := hw
          have hw := fpr_in (pr := [wd_Mo cs mo mr (fun _ => none) mf_51 md_51 (gMo PG hq), fm 8 (fPg cs PG)]) hw hi33
          obtain ⟨QO52, hu_QO52⟩ : ∃ y : Nat → Option Nat, y = va_up QO_51 p0.toNatClampNeg ((fun _ => QO_51 p0.toNatClampNeg) 0) := ⟨_, rfl⟩
          obtain ⟨QF53, hu_QF53⟩ : ∃ y : Nat → Nat → Int32, y = va_up QF_51 p0.toNatClampNeg qf35 := ⟨_, rfl⟩
          obtain ⟨QA54, hu_QA54⟩ : ∃ y : Nat → Nat → Nat → Int32, y = va_up QA_51 p0.toNatClampNeg (QA_51 p0.toNatClampNeg) := ⟨_, rfl⟩
          have hw : pw D A s.heap _ _ [wd_Mo cs mo mr (fun _ => none) mf_51 md_51 (gMo PG hq), fm 8 (fPg cs PG), fm 13 (fPr cs hq qr QO52 QF53 QA54)] := (by rw [hu_QO52, hu_QF53, hu_QA54]; exact hw)
          have hpr : PrA PG RR QO52 QF53 QA54 := (by rw [hu_QO52, hu_QF53, hu_QA54]; exact PrA.up hpr (psr_raw (j := j9) hj9 hqo h66 (show (0 ≤ (qf35 1).toInt ∧ (qf35 1).toInt ≤ 1) ∧ (0 ≤ (qf35 21).toInt ∧ (qf35 21).toInt ≤ 4) ∧ (0 ≤ (qf35 23).toInt ∧ (qf35 23).toInt ≤ 4) ∧ (0 ≤ (qf35 24).toInt ∧ (qf35 24).toInt ≤ 1000000) ∧ (0 ≤ (qf35 6).toInt ∧ (qf35 6).toInt ≤ 3) ∧ (0 ≤ (qf35 7).toInt ∧ (qf35 7).toInt ≤ 1) from by omega) (show (qf35 1).toInt = 1 from by omega) (show 0 ≤ (qf35 4).toInt ∧ (qf35 4).toInt + 1 ≤ RR p0.toNatClampNeg ∧ (qf35 24).toInt + (qf35 4).toInt ≤ 1600 from by omega)) (show (qf35 1).toInt = (QF_51 p0.toNatClampNeg 1).toInt from by first | exact oz_1811ac7fe4 e39 | omega) (show (QF_51 p0.toNatClampNeg 6).toInt ≤ (qf35 6).toInt from by first | exact oz_f9b42d1b56 e42 | omega))
          have hqo : OqE (QO52 p0.toNatClampNeg) (PG j9).h := (by rw [hu_QO52, va_up_s]; exact hqo)
          have hkw : KpW QO QF QO52 QF53 p0.toNatClampNeg := ⟨hqo.trans hqoE.symm, (by rw [hu_QF53, va_up_s]; exact (show ((qf35 1).toInt = (QF p0.toNatClampNeg 1).toInt ∧ (qf35 4).toInt = (QF p0.toNatClampNeg 4).toInt ∧ (qf35 5).toInt = (QF p0.toNatClampNeg 5).toInt ∧ (qf35 7).toInt = (QF p0.toNatClampNeg 7).toInt ∧ (qf35 10).toInt = (QF p0.toNatClampNeg 10).toInt ∧ (qf35 11).toInt = (QF p0.toNatClampNeg 11).toInt) ∧ (qf35 12).toInt = (QF p0.toNatClampNeg 12).toInt ∧ (qf35 13).toInt = (QF p0.toNatClampNeg 13).toInt ∧ (qf35 14).toInt = (QF p0.toNatClampNeg 14).toInt ∧ (qf35 24).toInt = (QF p0.toNatClampNeg 24).toInt from by omega))⟩
          have hqk1_QF53 : (QF53 p0.toNatClampNeg 1).toInt = (qf35 1).toInt := (by rw [hu_QF53, va_up_s]; try rfl)
          have hqk2_QF53 : (QF53 p0.toNatClampNeg 2).toInt = (qf35 2).toInt := (by rw [hu_QF53, va_up_s]; try rfl)
          have hqk4_QF53 : (QF53 p0.toNatClampNeg 4).toInt = (qf35 4).toInt := (by rw [hu_QF53, va_up_s]; try rfl)
          have hqk24_QF53 : (QF53 p0.toNatClampNeg 24).toInt = (qf35 24).toInt := (by rw [hu_QF53, va_up_s]; try rfl)
          have hw : pw D A s.heap _ _ [wd_Mo cs mo mr (fun _ => none) mf_51 md_51 (gMo PG hq), fm 13 (fPr cs hq qr QO52 QF53 QA54), fm 8 (fPg cs PG)] := hw.sub [0, 2, 1] rfl rfl
          exact px_vret S hr hlk hAe hw (Nat.le_of_ble_eq_true rfl) (Nat.le_of_ble_eq_true rfl) (⟨mf_51, md_51, QO52, QF53, QA54, rfl, (show PrA PG RR QO52 QF53 QA54 from hpr), (show OqE (QO52 p0.toNatClampNeg) (PG j9).h from hqo), (show KpW QO QF QO52 QF53 p0.toNatClampNeg from hkw), (show (mf_51 0).toInt = (mf 0).toInt from by first | exact k51_0 | omega), (show (mf_51 2).toInt = (mf 2).toInt from by first | exact k51_1 | omega), (show (mf_51 3).toInt = (mf 3).toInt from by first | exact k51_2 | omega), (show (mf_51 7).toInt = (mf 7).toInt from by first | exact k51_3 | omega), (show (mf_51 8).toInt = (mf 8).toInt from by first | exact k51_4 | omega), (show (mf_51 9).toInt = (mf 9).toInt from by first | exact k51_5 | omega), (show (mf_51 10).toInt = (mf 10).toInt from by first | exact k51_6 | omega), (show Md1 md md_51 from hmdq)⟩) d_Mo_moveWords_115
      · have nc29 : ¬ x51_7.toInt ≤ x51_9.toInt := mt (i_le (x := x51_7) (y := x51_9)).mpr c29
        refine lv_iload S.x S.b d_Mo_moveWords_58 (lv_at hl 8 rfl) ?_
        refine lv_if_eq (tgt := 102) S.x S.b d_Mo_moveWords_60 (by decide) (fun c55 => ?_) (fun c55 => ?_)
        · have nc55 : x51_8.toInt = (0 : Int) := (i_eq (x := x51_8) (y := 0)).mp c55
          refine lv_iload S.x S.b d_Mo_moveWords_102 (lv_at hl 8 rfl) ?_
          refine lv_if_ne (tgt := 116) S.x S.b d_Mo_moveWords_104 (by decide) (fun c57 => ?_) (fun c57 => ?_)
          · have nc57 : ¬ x51_8.toInt = (0 : Int) := mt (i_eq (x := x51_8) (y := 0)).mpr c57
            refine lv_iconst (v := 0) S.x S.b d_Mo_moveWords_116 (by decide) ?_
            refine lv_istore (lv' := [(9, .int 0), (0, .ref mo), (1, .int p0), (2, .int p1), (3, .int p2), (4, .int p3), (5, .int p4), (6, .ref (hq p0.toNatClampNeg)), (7, .int x51_7), (8, .int x51_8)]) S.x S.b d_Mo_moveWords_117 hl (by decide) rfl (fun ls hl => ?_)
            exact J119 ((17 - (0 : Int) + 4294967296).toNat + 1) mf_51 md_51 QO_51 QF_51 QA_51 x51_7 (0 : Int32) _ _ ls (show (mf_51 0).toInt = (mf 0).toInt from by first | exact k51_0 | omega) (show (mf_51 2).toInt = (mf 2).toInt from by first | exact k51_1 | omega) (show (mf_51 3).toInt = (mf 3).toInt from by first | exact k51_2 | omega) (show (mf_51 7).toInt = (mf 7).toInt from by first | exact k51_3 | omega) (show (mf_51 8).toInt = (mf 8).toInt from by first | exact k51_4 | omega) (show (mf_51 9).toInt = (mf 9).toInt from by first | exact k51_5 | omega) (show (mf_51 10).toInt = (mf 10).toInt from by first | exact k51_6 | omega) (show Md1 md md_51 from hmdq) (show PrA PG RR QO_51 QF_51 QA_51 from hpr) (show OqE (QO_51 p0.toNatClampNeg) (PG j9).h from hqo) (show KpW QO QF QO_51 QF_51 p0.toNatClampNeg from hkw) (show p0.toInt = 0 from by first | exact k51_11 | omega) (show 0 ≤ p2.toInt from by first | exact k51_12 | omega) (show p2.toInt < 8 from by first | exact k51_13 | omega) (show x51_7.toInt ≤ 16 from by first | exact k51_14 | omega) (show 0 ≤ (0 : Int) from by first | exact oz_5a341f00aa | omega) (show RdLw p1.toInt p3.toInt x51_7.toInt ((PG j9).xf 68).toInt from (fun k9 a9 b9 => hrd (by omega) k9 a9 (by omega))) (show 17 - (0 : Int) + 4294967296 < ((((17 - (0 : Int) + 4294967296).toNat + 1 : Nat) : Int) : Int) from by first | exact oz_natlt | omega) hw (lv_sub hl [1, 2, 3, 4, 5, 6, 7, 8, 0] rfl)
          · have nc57 : x51_8.toInt = (0 : Int) := (i_eq (x := x51_8) (y := 0)).mp c57
            refine lv_aload S.x S.b d_Mo_moveWords_107 (lv_at hl 6 rfl) ?_
            refine lv_bipush (v := 7) S.x S.b d_Mo_moveWords_109 (by decide) ?_
            refine lv_iconst (v := 0) S.x S.b d_Mo_moveWords_111 (by decide) ?_
            have hw : pw D A s.heap _ _ [wd_Mo cs mo mr (fun _ => none) mf_51 md_51 (gMo PG hq), fm 8 (fPg cs PG), fm 13 (fPr cs hq qr QO_51 QF_51 QA_51)] := hw.sub [0, 2, 1] rfl rfl
            have hc59 := cl_nat (x := p0) (by first | exact g0 | omega)
            have hi59 : p0.toNatClampNeg < 13 := by first | exact oz_a63a387477 hc59 k51_11 | omega
            have hw : pw D A s.heap _ _ [wd_Mo cs mo mr (fun _ => none) mf_51 md_51 (gMo PG hq), fm 8 (fPg cs PG), fo 13 (fPr cs hq qr QO_51 QF_51 QA_51) p0.toNatClampNeg, wd_Mpr cs (hq p0.toNatClampNeg) (qr p0.toNatClampNeg) (fun _ => QO_51 p0.toNatClampNeg) (QF_51 p0.toNatClampNeg) (QA_51 p0.toNatClampNeg) (fun _ _ => none)] := fm_out (pr := [wd_Mo cs mo mr (fun _ => none) mf_51 md_51 (gMo PG hq), fm 8 (fPg cs PG)]) (T := fPr cs hq qr QO_51 QF_51 QA_51) hw hi59
            have hps59 := hpr.1 p0.toNatClampNeg hi59
            have hpb59 := hps59.1
            unfold PsB at hpb59
            refine px_callv (pr := [wd_Mo cs mo mr (fun _ => none) mf_51 md_51 (gMo PG hq), fm 8 (fPg cs PG), fo 13 (fPr cs hq qr QO_51 QF_51 QA_51) p0.toNatClampNeg]) (px_runV (As := [.int 7, .int 0]) (rest := []) S (c_mq_end l D cs (hq p0.toNatClampNeg) (qr p0.toNatClampNeg) (fun _ _ => none) (fun _ => QO_51 p0.toNatClampNeg) (QA_51 p0.toNatClampNeg) (QF_51 p0.toNatClampNeg) 7 0   _) hT (pr := [wd_Mo cs mo mr (fun _ => none) mf_51 md_51 (gMo PG hq), fm 8 (fPg cs PG), fo 13 (fPr cs hq qr QO_51 QF_51 QA_51) p0.toNatClampNeg]) (pcs := [wd_Mpr cs (hq p0.toNatClampNeg) (qr p0.toNatClampNeg) (fun _ => QO_51 p0.toNatClampNeg) (QF_51 p0.toNatClampNeg) (QA_51 p0.toNatClampNeg) (fun _ _ => none)]) hw px_X.tt (px_recv hT hw 3 0 rfl rfl rfl) m13_177 m14_35 m13_175 m13_176 m1_22 q_Mpr_end ⟨Nat.le_of_ble_eq_true rfl, Nat.le_of_ble_eq_true rfl⟩ hl.1 rfl (Nat.le_of_ble_eq_true rfl) d_Mo_moveWords_112 ⟨Nat.le_of_ble_eq_true rfl, Nat.le_of_ble_eq_true rfl⟩) hw hA (fun p62 H locs hp62 hw => ?_)
            obtain ⟨qf61, rfl, e64, e65, e66, e67, e68, e69, e70, e71, e72, e73, e74, e75, e76, e77⟩ := hp62
            have e64 : (qf61 2).toInt = (7 : Int) := e64
            have e65 : (qf61 1).toInt = ((QF_51 p0.toNatClampNeg) 1).toInt := e65
            have e66 : (qf61 4).toInt = ((QF_51 p0.toNatClampNeg) 4).toInt := e66
            have e67 : (qf61 5).toInt = ((QF_51 p0.toNatClampNeg) 5).toInt := e67
            have e68 : (qf61 6).toInt = ((QF_51 p0.toNatClampNeg) 6).toInt := e68
            have e69 : (qf61 7).toInt = ((QF_51 p0.toNatClampNeg) 7).toInt := e69
            have e70 : (qf61 10).toInt = ((QF_51 p0.toNatClampNeg) 10).toInt := e70
            have e71 : (qf61 11).toInt = ((QF_51 p0.toNatClampNeg) 11).toInt := e71
            have e72 : (qf61 12).toInt = ((QF_51 p0.toNatClampNeg) 12).toInt := e72
            have e73 : (qf61 13).toInt = ((QF_51 p0.toNatClampNeg) 13).toInt := e73
            have e74 : (qf61 14).toInt = ((QF_51 p0.toNatClampNeg) 14).toInt := e74
            have e75 : (qf61 21).toInt = ((QF_51 p0.toNatClampNeg) 21).toInt := e75
            have e76 : (qf61 23).toInt = ((QF_51 p0.toNatClampNeg) 23).toInt := e76
            have e77 : (qf61 24).toInt = ((QF_51 p0.toNatClampNeg) 24).toInt := e77
            have hw : pw D A s.heap H locs [wd_Mo cs mo mr (fun _ => none) mf_51 md_51 (gMo PG hq), fm 8 (fPg cs PG), fo 13 (fPr cs hq qr QO_51 QF_51 QA_51) p0.toNatClampNeg, wd_Mpr cs (hq p0.toNatClampNeg) (qr p0.toNatClampNeg) (fun _ => QO_51 p0.toNatClampNeg) qf61 (QA_51 p0.toNatClampNeg) (fun _ _ => none)] := hw
            have hw := fpr_in (pr := [wd_Mo cs mo mr (fun _ => none) mf_51 md_51 (gMo PG hq), fm 8 (fPg cs PG)]) hw hi59
            obtain ⟨QO78, hu_QO78⟩ : ∃ y : Nat → Option Nat, y = va_up QO_51 p0.toNatClampNeg ((fun _ => QO_51 p0.toNatClampNeg) 0) := ⟨_, rfl⟩
            obtain ⟨QF79, hu_QF79⟩ : ∃ y : Nat → Nat → Int32, y = va_up QF_51 p0.toNatClampNeg qf61 := ⟨_, rfl⟩
            obtain ⟨QA80, hu_QA80⟩ : ∃ y : Nat → Nat → Nat → Int32, y = va_up QA_51 p0.toNatClampNeg (QA_51 p0.toNatClampNeg) := ⟨_, rfl⟩
            have hw : pw D A s.heap _ _ [wd_Mo cs mo mr (fun _ => none) mf_51 md_51 (gMo PG hq), fm 8 (fPg cs PG), fm 13 (fPr cs hq qr QO78 QF79 QA80)] := (by rw [hu_QO78, hu_QF79, hu_QA80]; exact hw)
            have hpr : PrA PG RR QO78 QF79 QA80 := (by rw [hu_QO78, hu_QF79, hu_QA80]; exact PrA.up hpr (psr_raw (j := j9) hj9 hqo h66 (show (0 ≤ (qf61 1).toInt ∧ (qf61 1).toInt ≤ 1) ∧ (0 ≤ (qf61 21).toInt ∧ (qf61 21).toInt ≤ 4) ∧ (0 ≤ (qf61 23).toInt ∧ (qf61 23).toInt ≤ 4) ∧ (0 ≤ (qf61 24).toInt ∧ (qf61 24).toInt ≤ 1000000) ∧ (0 ≤ (qf61 6).toInt ∧ (qf61 6).toInt ≤ 3) ∧ (0 ≤ (qf61 7).toInt ∧ (qf61 7).toInt ≤ 1) from by omega) (show (qf61 1).toInt = 1 from by omega) (show 0 ≤ (qf61 4).toInt ∧ (qf61 4).toInt + 1 ≤ RR p0.toNatClampNeg ∧ (qf61 24).toInt + (qf61 4).toInt ≤ 1600 from by omega)) (show (qf61 1).toInt = (QF_51 p0.toNatClampNeg 1).toInt from by first | exact oz_1811ac7fe4 e65 | omega) (show (QF_51 p0.toNatClampNeg 6).toInt ≤ (qf61 6).toInt from by first | exact oz_f9b42d1b56 e68 | omega))
            have hqo : OqE (QO78 p0.toNatClampNeg) (PG j9).h := (by rw [hu_QO78, va_up_s]; exact hqo)
            have hkw : KpW QO QF QO78 QF79 p0.toNatClampNeg := ⟨hqo.trans hqoE.symm, (by rw [hu_QF79, va_up_s]; exact (show ((qf61 1).toInt = (QF p0.toNatClampNeg 1).toInt ∧ (qf61 4).toInt = (QF p0.toNatClampNeg 4).toInt ∧ (qf61 5).toInt = (QF p0.toNatClampNeg 5).toInt ∧ (qf61 7).toInt = (QF p0.toNatClampNeg 7).toInt ∧ (qf61 10).toInt = (QF p0.toNatClampNeg 10).toInt ∧ (qf61 11).toInt = (QF p0.toNatClampNeg 11).toInt) ∧ (qf61 12).toInt = (QF p0.toNatClampNeg 12).toInt ∧ (qf61 13).toInt = (QF p0.toNatClampNeg 13).toInt ∧ (qf61 14).toInt = (QF p0.toNatClampNeg 14).toInt ∧ (qf61 24).toInt = (QF p0.toNatClampNeg 24).toInt from by omega))⟩
            have hqk1_QF79 : (QF79 p0.toNatClampNeg 1).toInt = (qf61 1).toInt := (by rw [hu_QF79, va_up_s]; try rfl)
            have hqk2_QF79 : (QF79 p0.toNatClampNeg 2).toInt = (qf61 2).toInt := (by rw [hu_QF79, va_up_s]; try rfl)
            have hqk4_QF79 : (QF79 p0.toNatClampNeg 4).toInt = (qf61 4).toInt := (by rw [hu_QF79, va_up_s]; try rfl)
            have hqk24_QF79 : (QF79 p0.toNatClampNeg 24).toInt = (qf61 24).toInt := (by rw [hu_QF79, va_up_s]; try rfl)
            have hw : pw D A s.heap _ _ [wd_Mo cs mo mr (fun _ => none) mf_51 md_51 (gMo PG hq), fm 13 (fPr cs hq qr QO78 QF79 QA80), fm 8 (fPg cs PG)] := hw.sub [0, 2, 1] rfl rfl
            exact px_vret S hr hlk hAe hw (Nat.le_of_ble_eq_true rfl) (Nat.le_of_ble_eq_true rfl) (⟨mf_51, md_51, QO78, QF79, QA80, rfl, (show PrA PG RR QO78 QF79 QA80 from hpr), (show OqE (QO78 p0.toNatClampNeg) (PG j9).h from hqo), (show KpW QO QF QO78 QF79 p0.toNatClampNeg from hkw), (show (mf_51 0).toInt = (mf 0).toInt from by first | exact k51_0 | omega), (show (mf_51 2).toInt = (mf 2).toInt from by first | exact k51_1 | omega), (show (mf_51 3).toInt = (mf 3).toInt from by first | exact k51_2 | omega), (show (mf_51 7).toInt = (mf 7).toInt from by first | exact k51_3 | omega), (show (mf_51 8).toInt = (mf 8).toInt from by first | exact k51_4 | omega), (show (mf_51 9).toInt = (mf 9).toInt from by first | exact k51_5 | omega), (show (mf_51 10).toInt = (mf 10).toInt from by first | exact k51_6 | omega), (show Md1 md md_51 from hmdq)⟩) d_Mo_moveWords_115
        · have nc55 : ¬ x51_8.toInt = (0 : Int) := mt (i_eq (x := x51_8) (y := 0)).mpr c55
          refine lv_iload_n S.x S.b d_Mo_moveWords_63 rfl (lv_at hl 2 rfl) ?_
          refine lv_if_eq (tgt := 82) S.x S.b d_Mo_moveWords_64 (by decide) (fun c81 => ?_) (fun c81 => ?_)
          · have nc81 : p1.toInt = (0 : Int) := (i_eq (x := p1) (y := 0)).mp c81
            refine lv_aload S.x S.b d_Mo_moveWords_82 (lv_at hl 6 rfl) ?_
            have hw : pw D A s.heap _ _ [wd_Mo cs mo mr (fun _ => none) mf_51 md_51 (gMo PG hq), fm 8 (fPg cs PG), fm 13 (fPr cs hq qr QO_51 QF_51 QA_51)] := hw.sub [0, 2, 1] rfl rfl
            have hc83 := cl_nat (x := p0) (by first | exact g0 | omega)
            have hi83 : p0.toNatClampNeg < 13 := by first | exact oz_a63a387477 hc83 k51_11 | omega
            have hw : pw D A s.heap _ _ [wd_Mo cs mo mr (fun _ => none) mf_51 md_51 (gMo PG hq), fm 8 (fPg cs PG), fo 13 (fPr cs hq qr QO_51 QF_51 QA_51) p0.toNatClampNeg, wd_Mpr cs (hq p0.toNatClampNeg) (qr p0.toNatClampNeg) (fun _ => QO_51 p0.toNatClampNeg) (QF_51 p0.toNatClampNeg) (QA_51 p0.toNatClampNeg) (fun _ _ => none)] := fm_out (pr := [wd_Mo cs mo mr (fun _ => none) mf_51 md_51 (gMo PG hq), fm 8 (fPg cs PG)]) (T := fPr cs hq qr QO_51 QF_51 QA_51) hw hi83
            have hps83 := hpr.1 p0.toNatClampNeg hi83
            have hpb83 := hps83.1
            unfold PsB at hpb83
            have hw : pw D A s.heap _ _ [wd_Mo cs mo mr (fun _ => none) mf_51 md_51 (gMo PG hq), fm 8 (fPg cs PG), fo 13 (fPr cs hq qr QO_51 QF_51 QA_51) p0.toNatClampNeg, wd_Mpr cs (hq p0.toNatClampNeg) (qr p0.toNatClampNeg) (fun k => if k = 0 then (some (PG j9).h) else none) (QF_51 p0.toNatClampNeg) (QA_51 p0.toNatClampNeg) (fun _ _ => none)] := (by have q8 := hw; rw [wd_oo (o := (fun _ => QO_51 p0.toNatClampNeg)) (o' := (fun k => if k = 0 then (some (PG j9).h) else none)) hqo] at q8; exact q8)
            have hw : pw D A s.heap _ _ [wd_Mo cs mo mr (fun _ => none) mf_51 md_51 (gMo PG hq), fo 13 (fPr cs hq qr QO_51 QF_51 QA_51) p0.toNatClampNeg, wd_Mpr cs (hq p0.toNatClampNeg) (qr p0.toNatClampNeg) (fun k => if k = 0 then (some (PG j9).h) else none) (QF_51 p0.toNatClampNeg) (QA_51 p0.toNatClampNeg) (fun _ _ => none), fm 8 (fPg cs PG)] := hw.sub [0, 2, 3, 1] rfl rfl
            have hw : pw D A s.heap _ _ [wd_Mo cs mo mr (fun _ => none) mf_51 md_51 (gMo PG hq), fo 13 (fPr cs hq qr QO_51 QF_51 QA_51) p0.toNatClampNeg, wd_Mpr cs (hq p0.toNatClampNeg) (qr p0.toNatClampNeg) (fun k => if k = 0 then (some (PG j9).h) else none) (QF_51 p0.toNatClampNeg) (QA_51 p0.toNatClampNeg) (fun _ _ => none), fo 8 (fPg cs PG) j9, wdP cs (PG j9).h (PG j9).r (PG j9).g (PG j9).tf (PG j9).ta (PG j9).pf (PG j9).na (PG j9).ma (PG j9).wa (PG j9).cf (PG j9).ca (PG j9).ef (PG j9).ea (PG j9).xf (PG j9).xa] := fm_out (pr := [wd_Mo cs mo mr (fun _ => none) mf_51 md_51 (gMo PG hq), fo 13 (fPr cs hq qr QO_51 QF_51 QA_51) p0.toNatClampNeg, wd_Mpr cs (hq p0.toNatClampNeg) (qr p0.toNatClampNeg) (fun k => if k = 0 then (some (PG j9).h) else none) (QF_51 p0.toNatClampNeg) (QA_51 p0.toNatClampNeg) (fun _ _ => none)]) (T := fPg cs PG) hw hj9
            have hpo84 := hpg j9 hj9
            have hp184 := hpo84.1
            have hp284 := hpo84.2.1
            have hP := hGG j9 hj9
            refine lv_iload S.x S.b d_Mo_moveWords_84 (lv_at hl 4 rfl) ?_
            refine lv_iconst (v := 4) S.x S.b d_Mo_moveWords_86 (by decide) ?_
            refine lv_iload S.x S.b d_Mo_moveWords_87 (lv_at hl 9 rfl) ?_
            refine lv_imul S.x S.b d_Mo_moveWords_89 ?_
            refine lv_topi (fun z85 ez85 => ?_)
            have lz85 := Int32.le_toInt z85
            have uz85 := Int32.toInt_lt z85
            have tz85 : -2147483648 ≤ 4 * x51_9.toInt → 4 * x51_9.toInt < 2147483648 → z85.toInt = 4 * x51_9.toInt := by rw [ez85]; exact i_mulc 4 x51_9 (by decide)
            try replace tz85 : z85.toInt = 4 * x51_9.toInt := by omega
            refine lv_iadd S.x S.b d_Mo_moveWords_90 ?_
            refine lv_topi (fun z86 ez86 => ?_)
            have tz86 : z86.toInt = (p3.toInt + z85.toInt + 2147483648) % 4294967296 - 2147483648 := by rw [ez86]; exact i_add p3 z85
            have lz86 := Int32.le_toInt z86
            have uz86 := Int32.toInt_lt z86
            try replace tz86 : z86.toInt = p3.toInt + z85.toInt := by omega
            have hw : pw D A s.heap _ _ [wd_Mo cs mo mr (fun _ => none) mf_51 md_51 (gMo PG hq), fo 13 (fPr cs hq qr QO_51 QF_51 QA_51) p0.toNatClampNeg, fo 8 (fPg cs PG) j9, wd_Mpr cs (hq p0.toNatClampNeg) (qr p0.toNatClampNeg) (fun k => if k = 0 then (some (PG j9).h) else none) (QF_51 p0.toNatClampNeg) (QA_51 p0.toNatClampNeg) (fun _ _ => none), wdP cs (PG j9).h (PG j9).r (PG j9).g (PG j9).tf (PG j9).ta (PG j9).pf (PG j9).na (PG j9).ma (PG j9).wa (PG j9).cf (PG j9).ca (PG j9).ef (PG j9).ea (PG j9).xf (PG j9).xa] := hw.sub [0, 1, 3, 2, 4] rfl rfl
            refine px_calli (pr := [wd_Mo cs mo mr (fun _ => none) mf_51 md_51 (gMo PG hq), fo 13 (fPr cs hq qr QO_51 QF_51 QA_51) p0.toNatClampNeg, fo 8 (fPg cs PG) j9]) (px_runV (As := [.int z86]) (rest := []) S (c_mr_canRead l D cs (0 : Int) (hq p0.toNatClampNeg) (qr p0.toNatClampNeg) (fun _ _ => none) (QF_51 p0.toNatClampNeg) (QA_51 p0.toNatClampNeg) (PG j9).h (PG j9).r (PG j9).g (PG j9).tf (PG j9).ta (PG j9).pf (PG j9).na (PG j9).ma (PG j9).wa (PG j9).cf (PG j9).ca (PG j9).ef (PG j9).ea (PG j9).xf (PG j9).xa z86  (show 0 ≤ ((PG j9).xf 68).toInt from by omega) (show ((PG j9).xf 68).toInt ≤ 512 from by omega) _) hT (pr := [wd_Mo cs mo mr (fun _ => none) mf_51 md_51 (gMo PG hq), fo 13 (fPr cs hq qr QO_51 QF_51 QA_51) p0.toNatClampNeg, fo 8 (fPg cs PG) j9]) (pcs := [wd_Mpr cs (hq p0.toNatClampNeg) (qr p0.toNatClampNeg) (fun k => if k = 0 then (some (PG j9).h) else none) (QF_51 p0.toNatClampNeg) (QA_51 p0.toNatClampNeg) (fun _ _ => none), wdP cs (PG j9).h (PG j9).r (PG j9).g (PG j9).tf (PG j9).ta (PG j9).pf (PG j9).na (PG j9).ma (PG j9).wa (PG j9).cf (PG j9).ca (PG j9).ef (PG j9).ea (PG j9).xf (PG j9).xa]) hw (oX_call (P := (fun A U H => (oP A (PG j9).g U H))) (pr := [wd_Mo cs mo mr (fun _ => none) mf_51 md_51 (gMo PG hq), fo 13 (fPr cs hq qr QO_51 QF_51 QA_51) p0.toNatClampNeg, fo 8 (fPg cs PG) j9]) oG_P hw hA hP) (px_recv hT hw 3 0 rfl rfl rfl) m13_237 m14_96 m13_235 m13_236 m1_22 q_Mpr_canRead ⟨Nat.le_of_ble_eq_true rfl, Nat.le_of_ble_eq_true rfl⟩ hl.1 rfl (Nat.le_of_ble_eq_true rfl) d_Mo_moveWords_91 ⟨Nat.le_of_ble_eq_true rfl, Nat.le_of_ble_eq_true rfl⟩) hw hA (fun v88 p87 H locs hp87 hw => ?_)
            obtain ⟨rfl, e89, e90, e91⟩ := hp87
            have e89 : 0 ≤ v88.toInt := e89
            have e90 : v88.toInt ≤ 1 := e90
            have e91 : v88.toInt = 1 → (4194304 ≤ z86.toInt % 4294967296 ∧ z86.toInt % 4294967296 < 4194304 + (4 * ((PG j9).xf 68).toInt + 4095) / 4096 * 4096) ∨ (5242880 ≤ z86.toInt % 4294967296 ∧ z86.toInt % 4294967296 < 5259264) ∨ (8257536 ≤ z86.toInt % 4294967296 ∧ z86.toInt % 4294967296 < 8388608) := e91
            have hw : pw D A s.heap H locs [wd_Mo cs mo mr (fun _ => none) mf_51 md_51 (gMo PG hq), fo 13 (fPr cs hq qr QO_51 QF_51 QA_51) p0.toNatClampNeg, fo 8 (fPg cs PG) j9, wd_Mpr cs (hq p0.toNatClampNeg) (qr p0.toNatClampNeg) (fun k => if k = 0 then (some (PG j9).h) else none) (QF_51 p0.toNatClampNeg) (QA_51 p0.toNatClampNeg) (fun _ _ => none), wdP cs (PG j9).h (PG j9).r (PG j9).g (PG j9).tf (PG j9).ta (PG j9).pf (PG j9).na (PG j9).ma (PG j9).wa (PG j9).cf (PG j9).ca (PG j9).ef (PG j9).ea (PG j9).xf (PG j9).xa] := hw
            have lv88 := Int32.le_toInt v88
            have uv88 := Int32.toInt_lt v88
            refine lv_istore (lv' := [(8, .int v88), (0, .ref mo), (1, .int p0), (2, .int p1), (3, .int p2), (4, .int p3), (5, .int p4), (6, .ref (hq p0.toNatClampNeg)), (7, .int x51_7), (9, .int x51_9)]) S.x S.b d_Mo_moveWords_94 hl (by decide) rfl (fun ls hl => ?_)
            obtain ⟨z92, ez92⟩ : ∃ y : Int32, y = x51_9 + 1 := ⟨_, rfl⟩
            have tz92 : z92.toInt = (x51_9.toInt + 1 + 2147483648) % 4294967296 - 2147483648 := by rw [ez92]; exact i_add x51_9 1
            have lz92 := Int32.le_toInt z92
            have uz92 := Int32.toInt_lt z92
            try replace tz92 : z92.toInt = x51_9.toInt + 1 := by omega
            refine lv_iinc (v := z92) (lv' := [(9, .int z92), (8, .int v88), (0, .ref mo), (1, .int p0), (2, .int p1), (3, .int p2), (4, .int p3), (5, .int p4), (6, .ref (hq p0.toNatClampNeg)), (7, .int x51_7)]) S.x S.b d_Mo_moveWords_96 hl (k := 9) rfl (by rw [ez92]; rfl) (by decide) rfl (fun ls hl => ?_)
            refine lv_goto (tgt := 51) S.x S.b d_Mo_moveWords_99 (by decide) ?_
            have hw : pw D A s.heap _ _ [wd_Mo cs mo mr (fun _ => none) mf_51 md_51 (gMo PG hq), fo 8 (fPg cs PG) j9, wdP cs (PG j9).h (PG j9).r (PG j9).g (PG j9).tf (PG j9).ta (PG j9).pf (PG j9).na (PG j9).ma (PG j9).wa (PG j9).cf (PG j9).ca (PG j9).ef (PG j9).ea (PG j9).xf (PG j9).xa, fo 13 (fPr cs hq qr QO_51 QF_51 QA_51) p0.toNatClampNeg, wd_Mpr cs (hq p0.toNatClampNeg) (qr p0.toNatClampNeg) (fun k => if k = 0 then (some (PG j9).h) else none) (QF_51 p0.toNatClampNeg) (QA_51 p0.toNatClampNeg) (fun _ _ => none)] := hw.sub [0, 2, 4, 1, 3] rfl rfl
            have hw : pw D A s.heap _ _ [wd_Mo cs mo mr (fun _ => none) mf_51 md_51 (gMo PG hq), fo 8 (fPg cs PG) j9, wdP cs (PG j9).h (PG j9).r (PG j9).g (PG j9).tf (PG j9).ta (PG j9).pf (PG j9).na (PG j9).ma (PG j9).wa (PG j9).cf (PG j9).ca (PG j9).ef (PG j9).ea (PG j9).xf (PG j9).xa, fm 13 (fPr cs hq qr QO_51 QF_51 QA_51)] := fm_back (pr := [wd_Mo cs mo mr (fun _ => none) mf_51 md_51 (gMo PG hq), fo 8 (fPg cs PG) j9, wdP cs (PG j9).h (PG j9).r (PG j9).g (PG j9).tf (PG j9).ta (PG j9).pf (PG j9).na (PG j9).ma (PG j9).wa (PG j9).cf (PG j9).ca (PG j9).ef (PG j9).ea (PG j9).xf (PG j9).xa]) (T := fPr cs hq qr QO_51 QF_51 QA_51) (by have q8 := hw; rw [wd_oo (o := (fun k => if k = 0 then (some (PG j9).h) else none)) (o' := fun _ => QO_51 p0.toNatClampNeg) (Eq.symm hqo)] at q8; exact q8) hi83
            have hw : pw D A s.heap _ _ [wd_Mo cs mo mr (fun _ => none) mf_51 md_51 (gMo PG hq), fm 13 (fPr cs hq qr QO_51 QF_51 QA_51), fo 8 (fPg cs PG) j9, wdP cs (PG j9).h (PG j9).r (PG j9).g (PG j9).tf (PG j9).ta (PG j9).pf (PG j9).na (PG j9).ma (PG j9).wa (PG j9).cf (PG j9).ca (PG j9).ef (PG j9).ea (PG j9).xf (PG j9).xa] := hw.sub [0, 3, 1, 2] rfl rfl
            have hw : pw D A s.heap _ _ [wd_Mo cs mo mr (fun _ => none) mf_51 md_51 (gMo PG hq), fm 13 (fPr cs hq qr QO_51 QF_51 QA_51), fm 8 (fPg cs PG)] := fm_back (pr := [wd_Mo cs mo mr (fun _ => none) mf_51 md_51 (gMo PG hq), fm 13 (fPr cs hq qr QO_51 QF_51 QA_51)]) (T := fPg cs PG) hw hj9
            exact ih51 mf_51 md_51 QO_51 QF_51 QA_51 x51_7 v88 z92 _ _ ls (show (mf_51 0).toInt = (mf 0).toInt from by first | exact k51_0 | omega) (show (mf_51 2).toInt = (mf 2).toInt from by first | exact k51_1 | omega) (show (mf_51 3).toInt = (mf 3).toInt from by first | exact k51_2 | omega) (show (mf_51 7).toInt = (mf 7).toInt from by first | exact k51_3 | omega) (show (mf_51 8).toInt = (mf 8).toInt from by first | exact k51_4 | omega) (show (mf_51 9).toInt = (mf 9).toInt from by first | exact k51_5 | omega) (show (mf_51 10).toInt = (mf 10).toInt from by first | exact k51_6 | omega) (show Md1 md md_51 from hmdq) (show PrA PG RR QO_51 QF_51 QA_51 from hpr) (show OqE (QO_51 p0.toNatClampNeg) (PG j9).h from hqo) (show KpW QO QF QO_51 QF_51 p0.toNatClampNeg from hkw) (show p0.toInt = 0 from by first | exact k51_11 | omega) (show 0 ≤ p2.toInt from by first | exact k51_12 | omega) (show p2.toInt < 8 from by first | exact k51_13 | omega) (show x51_7.toInt ≤ 16 from by first | exact k51_14 | omega) (show 0 ≤ v88.toInt from by first | exact e89 | omega) (show v88.toInt ≤ 1 from by first | exact e90 | omega) (show 0 ≤ z92.toInt from by first | exact oz_ae613611c0 tz92 k51_17 | omega) (show RdG v88.toInt (RdLw p1.toInt p3.toInt z92.toInt ((PG j9).xf 68).toInt) from (fun q9 => (hrd (by omega)).nx (by omega) (fun q8 => absurd q8 (by omega)) (fun q8 => by unfold TxW ClX; omega))) (show 17 - z92.toInt + 4294967296 < (n_51 : Int) from by omega) hw (lv_sub hl [2, 3, 4, 5, 6, 7, 8, 9, 1, 0] rfl)
          · have nc81 : ¬ p1.toInt = (0 : Int) := mt (i_eq (x := p1) (y := 0)).mpr c81
            refine lv_aload S.x S.b d_Mo_moveWords_67 (lv_at hl 6 rfl) ?_
            have hw : pw D A s.heap _ _ [wd_Mo cs mo mr (fun _ => none) mf_51 md_51 (gMo PG hq), fm 8 (fPg cs PG), fm 13 (fPr cs hq qr QO_51 QF_51 QA_51)] := hw.sub [0, 2, 1] rfl rfl
            have hc93 := cl_nat (x := p0) (by first | exact g0 | omega)
            have hi93 : p0.toNatClampNeg < 13 := by first | exact oz_a63a387477 hc93 k51_11 | omega
            have hw : pw D A s.heap _ _ [wd_Mo cs mo mr (fun _ => none) mf_51 md_51 (gMo PG hq), fm 8 (fPg cs PG), fo 13 (fPr cs hq qr QO_51 QF_51 QA_51) p0.toNatClampNeg, wd_Mpr cs (hq p0.toNatClampNeg) (qr p0.toNatClampNeg) (fun _ => QO_51 p0.toNatClampNeg) (QF_51 p0.toNatClampNeg) (QA_51 p0.toNatClampNeg) (fun _ _ => none)] := fm_out (pr := [wd_Mo cs mo mr (fun _ => none) mf_51 md_51 (gMo PG hq), fm 8 (fPg cs PG)]) (T := fPr cs hq qr QO_51 QF_51 QA_51) hw hi93
            have hps93 := hpr.1 p0.toNatClampNeg hi93
            have hpb93 := hps93.1
            unfold PsB at hpb93
            have hw : pw D A s.heap _ _ [wd_Mo cs mo mr (fun _ => none) mf_51 md_51 (gMo PG hq), fm 8 (fPg cs PG), fo 13 (fPr cs hq qr QO_51 QF_51 QA_51) p0.toNatClampNeg, wd_Mpr cs (hq p0.toNatClampNeg) (qr p0.toNatClampNeg) (fun k => if k = 0 then (some (PG j9).h) else none) (QF_51 p0.toNatClampNeg) (QA_51 p0.toNatClampNeg) (fun _ _ => none)] := (by have q8 := hw; rw [wd_oo (o := (fun _ => QO_51 p0.toNatClampNeg)) (o' := (fun k => if k = 0 then (some (PG j9).h) else none)) hqo] at q8; exact q8)
            have hw : pw D A s.heap _ _ [wd_Mo cs mo mr (fun _ => none) mf_51 md_51 (gMo PG hq), fo 13 (fPr cs hq qr QO_51 QF_51 QA_51) p0.toNatClampNeg, wd_Mpr cs (hq p0.toNatClampNeg) (qr p0.toNatClampNeg) (fun k => if k = 0 then (some (PG j9).h) else none) (QF_51 p0.toNatClampNeg) (QA_51 p0.toNatClampNeg) (fun _ _ => none), fm 8 (fPg cs PG)] := hw.sub [0, 2, 3, 1] rfl rfl
            have hw : pw D A s.heap _ _ [wd_Mo cs mo mr (fun _ => none) mf_51 md_51 (gMo PG hq), fo 13 (fPr cs hq qr QO_51 QF_51 QA_51) p0.toNatClampNeg, wd_Mpr cs (hq p0.toNatClampNeg) (qr p0.toNatClampNeg) (fun k => if k = 0 then (some (PG j9).h) else none) (QF_51 p0.toNatClampNeg) (QA_51 p0.toNatClampNeg) (fun _ _ => none), fo 8 (fPg cs PG) j9, wdP cs (PG j9).h (PG j9).r (PG j9).g (PG j9).tf (PG j9).ta (PG j9).pf (PG j9).na (PG j9).ma (PG j9).wa (PG j9).cf (PG j9).ca (PG j9).ef (PG j9).ea (PG j9).xf (PG j9).xa] := fm_out (pr := [wd_Mo cs mo mr (fun _ => none) mf_51 md_51 (gMo PG hq), fo 13 (fPr cs hq qr QO_51 QF_51 QA_51) p0.toNatClampNeg, wd_Mpr cs (hq p0.toNatClampNeg) (qr p0.toNatClampNeg) (fun k => if k = 0 then (some (PG j9).h) else none) (QF_51 p0.toNatClampNeg) (QA_51 p0.toNatClampNeg) (fun _ _ => none)]) (T := fPg cs PG) hw hj9
            have hpo94 := hpg j9 hj9
            have hp194 := hpo94.1
            have hp294 := hpo94.2.1
            have hP := hGG j9 hj9
            refine lv_iload S.x S.b d_Mo_moveWords_69 (lv_at hl 4 rfl) ?_
            refine lv_iconst (v := 4) S.x S.b d_Mo_moveWords_71 (by decide) ?_
            refine lv_iload S.x S.b d_Mo_moveWords_72 (lv_at hl 9 rfl) ?_
            refine lv_imul S.x S.b d_Mo_moveWords_74 ?_
            refine lv_topi (fun z95 ez95 => ?_)
            have lz95 := Int32.le_toInt z95
            have uz95 := Int32.toInt_lt z95
            have tz95 : -2147483648 ≤ 4 * x51_9.toInt → 4 * x51_9.toInt < 2147483648 → z95.toInt = 4 * x51_9.toInt := by rw [ez95]; exact i_mulc 4 x51_9 (by decide)
            try replace tz95 : z95.toInt = 4 * x51_9.toInt := by omega
            refine lv_iadd S.x S.b d_Mo_moveWords_75 ?_
            refine lv_topi (fun z96 ez96 => ?_)
            have tz96 : z96.toInt = (p3.toInt + z95.toInt + 2147483648) % 4294967296 - 2147483648 := by rw [ez96]; exact i_add p3 z95
            have lz96 := Int32.le_toInt z96
            have uz96 := Int32.toInt_lt z96
            try replace tz96 : z96.toInt = p3.toInt + z95.toInt := by omega
            have hw : pw D A s.heap _ _ [wd_Mo cs mo mr (fun _ => none) mf_51 md_51 (gMo PG hq), fo 13 (fPr cs hq qr QO_51 QF_51 QA_51) p0.toNatClampNeg, fo 8 (fPg cs PG) j9, wd_Mpr cs (hq p0.toNatClampNeg) (qr p0.toNatClampNeg) (fun k => if k = 0 then (some (PG j9).h) else none) (QF_51 p0.toNatClampNeg) (QA_51 p0.toNatClampNeg) (fun _ _ => none), wdP cs (PG j9).h (PG j9).r (PG j9).g (PG j9).tf (PG j9).ta (PG j9).pf (PG j9).na (PG j9).ma (PG j9).wa (PG j9).cf (PG j9).ca (PG j9).ef (PG j9).ea (PG j9).xf (PG j9).xa] := hw.sub [0, 1, 3, 2, 4] rfl rfl
            refine px_calli (pr := [wd_Mo cs mo mr (fun _ => none) mf_51 md_51 (gMo PG hq), fo 13 (fPr cs hq qr QO_51 QF_51 QA_51) p0.toNatClampNeg, fo 8 (fPg cs PG) j9]) (px_runV (As := [.int z96]) (rest := []) S (c_mr_canWrite l D cs (0 : Int) (hq p0.toNatClampNeg) (qr p0.toNatClampNeg) (fun _ _ => none) (QF_51 p0.toNatClampNeg) (QA_51 p0.toNatClampNeg) (PG j9).h (PG j9).r (PG j9).g (PG j9).tf (PG j9).ta (PG j9).pf (PG j9).na (PG j9).ma (PG j9).wa (PG j9).cf (PG j9).ca (PG j9).ef (PG j9).ea (PG j9).xf (PG j9).xa z96   _) hT (pr := [wd_Mo cs mo mr (fun _ => none) mf_51 md_51 (gMo PG hq), fo 13 (fPr cs hq qr QO_51 QF_51 QA_51) p0.toNatClampNeg, fo 8 (fPg cs PG) j9]) (pcs := [wd_Mpr cs (hq p0.toNatClampNeg) (qr p0.toNatClampNeg) (fun k => if k = 0 then (some (PG j9).h) else none) (QF_51 p0.toNatClampNeg) (QA_51 p0.toNatClampNeg) (fun _ _ => none), wdP cs (PG j9).h (PG j9).r (PG j9).g (PG j9).tf (PG j9).ta (PG j9).pf (PG j9).na (PG j9).ma (PG j9).wa (PG j9).cf (PG j9).ca (PG j9).ef (PG j9).ea (PG j9).xf (PG j9).xa]) hw (oX_call (P := (fun A U H => (oP A (PG j9).g U H))) (pr := [wd_Mo cs mo mr (fun _ => none) mf_51 md_51 (gMo PG hq), fo 13 (fPr cs hq qr QO_51 QF_51 QA_51) p0.toNatClampNeg, fo 8 (fPg cs PG) j9]) oG_P hw hA hP) (px_recv hT hw 3 0 rfl rfl rfl) m14_5 m14_95 m14_3 m14_4 m1_22 q_Mpr_canWrite ⟨Nat.le_of_ble_eq_true rfl, Nat.le_of_ble_eq_true rfl⟩ hl.1 rfl (Nat.le_of_ble_eq_true rfl) d_Mo_moveWords_76 ⟨Nat.le_of_ble_eq_true rfl, Nat.le_of_ble_eq_true rfl⟩) hw hA (fun v98 p97 H locs hp97 hw => ?_)
            obtain ⟨rfl, e99, e100, e101⟩ := hp97
            have e99 : 0 ≤ v98.toInt := e99
            have e100 : v98.toInt ≤ 1 := e100
            have e101 : v98.toInt = 1 → (5242880 ≤ z96.toInt % 4294967296 ∧ z96.toInt % 4294967296 < 5259264) ∨ (8257536 ≤ z96.toInt % 4294967296 ∧ z96.toInt % 4294967296 < 8388608) := e101
            have hw : pw D A s.heap H locs [wd_Mo cs mo mr (fun _ => none) mf_51 md_51 (gMo PG hq), fo 13 (fPr cs hq qr QO_51 QF_51 QA_51) p0.toNatClampNeg, fo 8 (fPg cs PG) j9, wd_Mpr cs (hq p0.toNatClampNeg) (qr p0.toNatClampNeg) (fun k => if k = 0 then (some (PG j9).h) else none) (QF_51 p0.toNatClampNeg) (QA_51 p0.toNatClampNeg) (fun _ _ => none), wdP cs (PG j9).h (PG j9).r (PG j9).g (PG j9).tf (PG j9).ta (PG j9).pf (PG j9).na (PG j9).ma (PG j9).wa (PG j9).cf (PG j9).ca (PG j9).ef (PG j9).ea (PG j9).xf (PG j9).xa] := hw
            have lv98 := Int32.le_toInt v98
            have uv98 := Int32.toInt_lt v98
            refine lv_goto (tgt := 94) S.x S.b d_Mo_moveWords_79 (by decide) ?_
            refine lv_istore (lv' := [(8, .int v98), (0, .ref mo), (1, .int p0), (2, .int p1), (3, .int p2), (4, .int p3), (5, .int p4), (6, .ref (hq p0.toNatClampNeg)), (7, .int x51_7), (9, .int x51_9)]) S.x S.b d_Mo_moveWords_94 hl (by decide) rfl (fun ls hl => ?_)
            obtain ⟨z102, ez102⟩ : ∃ y : Int32, y = x51_9 + 1 := ⟨_, rfl⟩
            have tz102 : z102.toInt = (x51_9.toInt + 1 + 2147483648) % 4294967296 - 2147483648 := by rw [ez102]; exact i_add x51_9 1
            have lz102 := Int32.le_toInt z102
            have uz102 := Int32.toInt_lt z102
            try replace tz102 : z102.toInt = x51_9.toInt + 1 := by omega
            refine lv_iinc (v := z102) (lv' := [(9, .int z102), (8, .int v98), (0, .ref mo), (1, .int p0), (2, .int p1), (3, .int p2), (4, .int p3), (5, .int p4), (6, .ref (hq p0.toNatClampNeg)), (7, .int x51_7)]) S.x S.b d_Mo_moveWords_96 hl (k := 9) rfl (by rw [ez102]; rfl) (by decide) rfl (fun ls hl => ?_)
            refine lv_goto (tgt := 51) S.x S.b d_Mo_moveWords_99 (by decide) ?_
            have hw : pw D A s.heap _ _ [wd_Mo cs mo mr (fun _ => none) mf_51 md_51 (gMo PG hq), fo 8 (fPg cs PG) j9, wdP cs (PG j9).h (PG j9).r (PG j9).g (PG j9).tf (PG j9).ta (PG j9).pf (PG j9).na (PG j9).ma (PG j9).wa (PG j9).cf (PG j9).ca (PG j9).ef (PG j9).ea (PG j9).xf (PG j9).xa, fo 13 (fPr cs hq qr QO_51 QF_51 QA_51) p0.toNatClampNeg, wd_Mpr cs (hq p0.toNatClampNeg) (qr p0.toNatClampNeg) (fun k => if k = 0 then (some (PG j9).h) else none) (QF_51 p0.toNatClampNeg) (QA_51 p0.toNatClampNeg) (fun _ _ => none)] := hw.sub [0, 2, 4, 1, 3] rfl rfl
            have hw : pw D A s.heap _ _ [wd_Mo cs mo mr (fun _ => none) mf_51 md_51 (gMo PG hq), fo 8 (fPg cs PG) j9, wdP cs (PG j9).h (PG j9).r (PG j9).g (PG j9).tf (PG j9).ta (PG j9).pf (PG j9).na (PG j9).ma (PG j9).wa (PG j9).cf (PG j9).ca (PG j9).ef (PG j9).ea (PG j9).xf (PG j9).xa, fm 13 (fPr cs hq qr QO_51 QF_51 QA_51)] := fm_back (pr := [wd_Mo cs mo mr (fun _ => none) mf_51 md_51 (gMo PG hq), fo 8 (fPg cs PG) j9, wdP cs (PG j9).h (PG j9).r (PG j9).g (PG j9).tf (PG j9).ta (PG j9).pf (PG j9).na (PG j9).ma (PG j9).wa (PG j9).cf (PG j9).ca (PG j9).ef (PG j9).ea (PG j9).xf (PG j9).xa]) (T := fPr cs hq qr QO_51 QF_51 QA_51) (by have q8 := hw; rw [wd_oo (o := (fun k => if k = 0 then (some (PG j9).h) else none)) (o' := fun _ => QO_51 p0.toNatClampNeg) (Eq.symm hqo)] at q8; exact q8) hi93
            have hw : pw D A s.heap _ _ [wd_Mo cs mo mr (fun _ => none) mf_51 md_51 (gMo PG hq), fm 13 (fPr cs hq qr QO_51 QF_51 QA_51), fo 8 (fPg cs PG) j9, wdP cs (PG j9).h (PG j9).r (PG j9).g (PG j9).tf (PG j9).ta (PG j9).pf (PG j9).na (PG j9).ma (PG j9).wa (PG j9).cf (PG j9).ca (PG j9).ef (PG j9).ea (PG j9).xf (PG j9).xa] := hw.sub [0, 3, 1, 2] rfl rfl
            have hw : pw D A s.heap _ _ [wd_Mo cs mo mr (fun _ => none) mf_51 md_51 (gMo PG hq), fm 13 (fPr cs hq qr QO_51 QF_51 QA_51), fm 8 (fPg cs PG)] := fm_back (pr := [wd_Mo cs mo mr (fun _ => none) mf_51 md_51 (gMo PG hq), fm 13 (fPr cs hq qr QO_51 QF_51 QA_51)]) (T := fPg cs PG) hw hj9
            exact ih51 mf_51 md_51 QO_51 QF_51 QA_51 x51_7 v98 z102 _ _ ls (show (mf_51 0).toInt = (mf 0).toInt from by first | exact k51_0 | omega) (show (mf_51 2).toInt = (mf 2).toInt from by first | exact k51_1 | omega) (show (mf_51 3).toInt = (mf 3).toInt from by first | exact k51_2 | omega) (show (mf_51 7).toInt = (mf 7).toInt from by first | exact k51_3 | omega) (show (mf_51 8).toInt = (mf 8).toInt from by first | exact k51_4 | omega) (show (mf_51 9).toInt = (mf 9).toInt from by first | exact k51_5 | omega) (show (mf_51 10).toInt = (mf 10).toInt from by first | exact k51_6 | omega) (show Md1 md md_51 from hmdq) (show PrA PG RR QO_51 QF_51 QA_51 from hpr) (show OqE (QO_51 p0.toNatClampNeg) (PG j9).h from hqo) (show KpW QO QF QO_51 QF_51 p0.toNatClampNeg from hkw) (show p0.toInt = 0 from by first | exact k51_11 | omega) (show 0 ≤ p2.toInt from by first | exact k51_12 | omega) (show p2.toInt < 8 from by first | exact k51_13 | omega) (show x51_7.toInt ≤ 16 from by first | exact k51_14 | omega) (show 0 ≤ v98.toInt from by first | exact e99 | omega) (show v98.toInt ≤ 1 from by first | exact e100 | omega) (show 0 ≤ z102.toInt from by first | exact oz_ae613611c0 tz102 k51_17 | omega) (show RdG v98.toInt (RdLw p1.toInt p3.toInt z102.toInt ((PG j9).xf 68).toInt) from (fun q9 => (hrd (by omega)).nx (by omega) (fun q8 => by unfold ClX; omega) (fun q8 => absurd q8 (by omega)))) (show 17 - z102.toInt + 4294967296 < (n_51 : Int) from by omega) hw (lv_sub hl [2, 3, 4, 5, 6, 7, 8, 9, 1, 0] rfl)
  refine lv_aload_n S.x S.b d_Mo_moveWords_0 rfl (lv_at hl 0 rfl) ?_
  refine lv_iload_n S.x S.b d_Mo_moveWords_1 rfl (lv_at hl 1 rfl) ?_
  refine lv_iload_n S.x S.b d_Mo_moveWords_2 rfl (lv_at hl 3 rfl) ?_
  refine px_calli (pr := []) (px_runV (As := [.int p0, .int p2]) (rest := []) S (c_mo_isBlock l D cs RR mo mr mf md hq qr QO QF QA PG p0 p2  (show 0 ≤ p0.toInt from by first | exact g0 | omega) (show p0.toInt < 13 from by first | exact g1 | omega) hpr hpg _) hT (pr := []) (pcs := [wd_Mo cs mo mr (fun _ => none) mf md (gMo PG hq), fm 13 (fPr cs hq qr QO QF QA), fm 8 (fPg cs PG)]) hw px_X.tt (px_recv hT hw 0 0 rfl rfl rfl) m14_94 m14_91 m14_93 ms_16_8 m1_20 q_Mo_isBlock ⟨Nat.le_of_ble_eq_true rfl, Nat.le_of_ble_eq_true rfl⟩ hl.1 rfl (Nat.le_of_ble_eq_true rfl) d_Mo_moveWords_3 ⟨Nat.le_of_ble_eq_true rfl, Nat.le_of_ble_eq_true rfl⟩) hw hA (fun v110 p109 H locs hp109 hw => ?_)
  obtain ⟨QO106, QF107, QA108, rfl, e111, e112, e113, e114, e115⟩ := hp109
  have e111 : PrA PG RR QO106 QF107 QA108 := e111
  have hpr := e111
  have e112 : KpP QO QF QA QO106 QF107 QA108 p0.toNatClampNeg := e112
  have hkw : KpW QO QF QO106 QF107 p0.toNatClampNeg := ⟨(e112.1).trans hkw.1, hkw.2.tr e112.2.1⟩
  have hqo : OqE (QO106 p0.toNatClampNeg) (PG j9).h := hkw.1.trans hqoE
  have hkf := hkw.2
  unfold KpF at hkf
  have e113 : 0 ≤ v110.toInt := e113
  have e114 : v110.toInt ≤ 1 := e114
  have e115 : v110.toInt = 1 → p0.toInt = 0 ∧ 0 ≤ p2.toInt ∧ p2.toInt < 8 := e115
  have hw : pw D A s.heap H locs [wd_Mo cs mo mr (fun _ => none) mf md (gMo PG hq), fm 13 (fPr cs hq qr QO106 QF107 QA108), fm 8 (fPg cs PG)] := hw
  have lv110 := Int32.le_toInt v110
  have uv110 := Int32.toInt_lt v110
  refine lv_if_ne (tgt := 10) S.x S.b d_Mo_moveWords_6 (by decide) (fun c116 => ?_) (fun c116 => ?_)
  · have nc116 : ¬ v110.toInt = (0 : Int) := mt (i_eq (x := v110) (y := 0)).mpr c116
    refine lv_aload_n S.x S.b d_Mo_moveWords_10 rfl (lv_at hl 0 rfl) ?_
    refine px_get S k_Mo hT hw 0 0 5 (v := .ref (mr 5)) rfl rfl rfl (by decide) m11_83 d_Mo_moveWords_11 ?_
    refine lv_iload_n S.x S.b d_Mo_moveWords_14 rfl (lv_at hl 1 rfl) ?_
    refine px_aaldS S hT hw 0 3 10 (n := 13) (f := ((gMo PG hq) 5)) rfl rfl rfl (x := p0) (vp_in_iff.mpr (by first | exact oz_59feca6c45 g0 g1 | (constructor <;> omega))) (sk := (hq p0.toNatClampNeg)) rfl d_Mo_moveWords_15 ?_
    refine lv_astore (lv' := [(6, .ref (hq p0.toNatClampNeg)), (0, .ref mo), (1, .int p0), (2, .int p1), (3, .int p2), (4, .int p3), (5, .int p4)]) S.x S.b d_Mo_moveWords_16 hl (by decide) rfl (fun ls hl => ?_)
    refine lv_iload S.x S.b d_Mo_moveWords_18 (lv_at hl 6 rfl) ?_
    refine lv_bipush (v := 16) S.x S.b d_Mo_moveWords_20 (by decide) ?_
    refine lv_icmp_ge (tgt := 30) S.x S.b d_Mo_moveWords_22 (by decide) (fun c118 => ?_) (fun c118 => ?_)
    · have nc118 : (16 : Int) ≤ p4.toInt := (i_le (x := 16) (y := p4)).mp c118
      refine lv_bipush (v := 16) S.x S.b d_Mo_moveWords_30 (by decide) ?_
      refine lv_istore (lv' := [(7, .int 16), (6, .ref (hq p0.toNatClampNeg)), (0, .ref mo), (1, .int p0), (2, .int p1), (3, .int p2), (4, .int p3), (5, .int p4)]) S.x S.b d_Mo_moveWords_32 hl (by decide) rfl (fun ls hl => ?_)
      refine lv_iload S.x S.b d_Mo_moveWords_34 (lv_at hl 6 rfl) ?_
      refine lv_iconst (v := 4) S.x S.b d_Mo_moveWords_36 (by decide) ?_
      refine lv_irem S.x S.b d_Mo_moveWords_37 (by decide) ?_
      refine lv_topi (fun z120 ez120 => ?_)
      have lz120 := Int32.le_toInt z120
      have uz120 := Int32.toInt_lt z120
      refine lv_if_ne (tgt := 45) S.x S.b d_Mo_moveWords_38 (by decide) (fun c121 => ?_) (fun c121 => ?_)
      · have nc121 : ¬ z120.toInt = (0 : Int) := mt (i_eq (x := z120) (y := 0)).mpr c121
        refine lv_iconst (v := 0) S.x S.b d_Mo_moveWords_45 (by decide) ?_
        refine lv_istore (lv' := [(8, .int 0), (7, .int 16), (6, .ref (hq p0.toNatClampNeg)), (0, .ref mo), (1, .int p0), (2, .int p1), (3, .int p2), (4, .int p3), (5, .int p4)]) S.x S.b d_Mo_moveWords_46 hl (by decide) rfl (fun ls hl => ?_)
        refine lv_iconst (v := 0) S.x S.b d_Mo_moveWords_48 (by decide) ?_
        refine lv_istore (lv' := [(9, .int 0), (8, .int 0), (7, .int 16), (6, .ref (hq p0.toNatClampNeg)), (0, .ref mo), (1, .int p0), (2, .int p1), (3, .int p2), (4, .int p3), (5, .int p4)]) S.x S.b d_Mo_moveWords_49 hl (by decide) rfl (fun ls hl => ?_)
        exact J51 ((17 - (0 : Int) + 4294967296).toNat + 1) mf md QO106 QF107 QA108 (16 : Int32) (0 : Int32) (0 : Int32) _ _ ls (show (mf 0).toInt = (mf 0).toInt from rfl) (show (mf 2).toInt = (mf 2).toInt from rfl) (show (mf 3).toInt = (mf 3).toInt from rfl) (show (mf 7).toInt = (mf 7).toInt from rfl) (show (mf 8).toInt = (mf 8).toInt from rfl) (show (mf 9).toInt = (mf 9).toInt from rfl) (show (mf 10).toInt = (mf 10).toInt from rfl) (show Md1 md md from hmdq) (show PrA PG RR QO106 QF107 QA108 from hpr) (show OqE (QO106 p0.toNatClampNeg) (PG j9).h from hqo) (show KpW QO QF QO106 QF107 p0.toNatClampNeg from hkw) (show p0.toInt = 0 from by omega) (show 0 ≤ p2.toInt from by omega) (show p2.toInt < 8 from by omega) (show (16 : Int) ≤ 16 from by first | exact oz_475cc07103 | omega) (show 0 ≤ (0 : Int) from by first | exact oz_5a341f00aa | omega) (show (0 : Int) ≤ 1 from by first | exact oz_6e68cd0f48 | omega) (show 0 ≤ (0 : Int) from by first | exact oz_5a341f00aa | omega) (show RdG (0 : Int) (RdLw p1.toInt p3.toInt (0 : Int) ((PG j9).xf 68).toInt) from (fun _ k9 a9 b9 => absurd b9 (by omega))) (show 17 - (0 : Int) + 4294967296 < ((((17 - (0 : Int) + 4294967296).toNat + 1 : Nat) : Int) : Int) from by first | exact oz_natlt | omega) hw (lv_sub hl [4, 5, 6, 7, 8, 9, 3, 2, 1, 0] rfl)
      · have nc121 : z120.toInt = (0 : Int) := (i_eq (x := z120) (y := 0)).mp c121
        refine lv_iconst (v := 1) S.x S.b d_Mo_moveWords_41 (by decide) ?_
        refine lv_goto (tgt := 46) S.x S.b d_Mo_moveWords_42 (by decide) ?_
        refine lv_istore (lv' := [(8, .int 1), (7, .int 16), (6, .ref (hq p0.toNatClampNeg)), (0, .ref mo), (1, .int p0), (2, .int p1), (3, .int p2), (4, .int p3), (5, .int p4)]) S.x S.b d_Mo_moveWords_46 hl (by decide) rfl (fun ls hl => ?_)
        refine lv_iconst (v := 0) S.x S.b d_Mo_moveWords_48 (by decide) ?_
        refine lv_istore (lv' := [(9, .int 0), (8, .int 1), (7, .int 16), (6, .ref (hq p0.toNatClampNeg)), (0, .ref mo), (1, .int p0), (2, .int p1), (3, .int p2), (4, .int p3), (5, .int p4)]) S.x S.b d_Mo_moveWords_49 hl (by decide) rfl (fun ls hl => ?_)
        exact J51 ((17 - (0 : Int) + 4294967296).toNat + 1) mf md QO106 QF107 QA108 (16 : Int32) (1 : Int32) (0 : Int32) _ _ ls (show (mf 0).toInt = (mf 0).toInt from rfl) (show (mf 2).toInt = (mf 2).toInt from rfl) (show (mf 3).toInt = (mf 3).toInt from rfl) (show (mf 7).toInt = (mf 7).toInt from rfl) (show (mf 8).toInt = (mf 8).toInt from rfl) (show (mf 9).toInt = (mf 9).toInt from rfl) (show (mf 10).toInt = (mf 10).toInt from rfl) (show Md1 md md from hmdq) (show PrA PG RR QO106 QF107 QA108 from hpr) (show OqE (QO106 p0.toNatClampNeg) (PG j9).h from hqo) (show KpW QO QF QO106 QF107 p0.toNatClampNeg from hkw) (show p0.toInt = 0 from by omega) (show 0 ≤ p2.toInt from by omega) (show p2.toInt < 8 from by omega) (show (16 : Int) ≤ 16 from by first | exact oz_475cc07103 | omega) (show 0 ≤ (1 : Int) from by first | exact oz_19c3a41681 | omega) (show (1 : Int) ≤ 1 from by first | exact oz_f9181dc4bb | omega) (show 0 ≤ (0 : Int) from by first | exact oz_5a341f00aa | omega) (show RdG (1 : Int) (RdLw p1.toInt p3.toInt (0 : Int) ((PG j9).xf 68).toInt) from (fun _ k9 a9 b9 => absurd b9 (by omega))) (show 17 - (0 : Int) + 4294967296 < ((((17 - (0 : Int) + 4294967296).toNat + 1 : Nat) : Int) : Int) from by first | exact oz_natlt | omega) hw (lv_sub hl [4, 5, 6, 7, 8, 9, 3, 2, 1, 0] rfl)
    · have nc118 : ¬ (16 : Int) ≤ p4.toInt := mt (i_le (x := 16) (y := p4)).mpr c118
      refine lv_iload S.x S.b d_Mo_moveWords_25 (lv_at hl 6 rfl) ?_
      refine lv_goto (tgt := 32) S.x S.b d_Mo_moveWords_27 (by decide) ?_
      refine lv_istore (lv' := [(7, .int p4), (6, .ref (hq p0.toNatClampNeg)), (0, .ref mo), (1, .int p0), (2, .int p1), (3, .int p2), (4, .int p3), (5, .int p4)]) S.x S.b d_Mo_moveWords_32 hl (by decide) rfl (fun ls hl => ?_)
      refine lv_iload S.x S.b d_Mo_moveWords_34 (lv_at hl 6 rfl) ?_
      refine lv_iconst (v := 4) S.x S.b d_Mo_moveWords_36 (by decide) ?_
      refine lv_irem S.x S.b d_Mo_moveWords_37 (by decide) ?_
      refine lv_topi (fun z123 ez123 => ?_)
      have lz123 := Int32.le_toInt z123
      have uz123 := Int32.toInt_lt z123
      refine lv_if_ne (tgt := 45) S.x S.b d_Mo_moveWords_38 (by decide) (fun c124 => ?_) (fun c124 => ?_)
      · have nc124 : ¬ z123.toInt = (0 : Int) := mt (i_eq (x := z123) (y := 0)).mpr c124
        refine lv_iconst (v := 0) S.x S.b d_Mo_moveWords_45 (by decide) ?_
        refine lv_istore (lv' := [(8, .int 0), (7, .int p4), (6, .ref (hq p0.toNatClampNeg)), (0, .ref mo), (1, .int p0), (2, .int p1), (3, .int p2), (4, .int p3), (5, .int p4)]) S.x S.b d_Mo_moveWords_46 hl (by decide) rfl (fun ls hl => ?_)
        refine lv_iconst (v := 0) S.x S.b d_Mo_moveWords_48 (by decide) ?_
        refine lv_istore (lv' := [(9, .int 0), (8, .int 0), (7, .int p4), (6, .ref (hq p0.toNatClampNeg)), (0, .ref mo), (1, .int p0), (2, .int p1), (3, .int p2), (4, .int p3), (5, .int p4)]) S.x S.b d_Mo_moveWords_49 hl (by decide) rfl (fun ls hl => ?_)
        exact J51 ((17 - (0 : Int) + 4294967296).toNat + 1) mf md QO106 QF107 QA108 p4 (0 : Int32) (0 : Int32) _ _ ls (show (mf 0).toInt = (mf 0).toInt from rfl) (show (mf 2).toInt = (mf 2).toInt from rfl) (show (mf 3).toInt = (mf 3).toInt from rfl) (show (mf 7).toInt = (mf 7).toInt from rfl) (show (mf 8).toInt = (mf 8).toInt from rfl) (show (mf 9).toInt = (mf 9).toInt from rfl) (show (mf 10).toInt = (mf 10).toInt from rfl) (show Md1 md md from hmdq) (show PrA PG RR QO106 QF107 QA108 from hpr) (show OqE (QO106 p0.toNatClampNeg) (PG j9).h from hqo) (show KpW QO QF QO106 QF107 p0.toNatClampNeg from hkw) (show p0.toInt = 0 from by omega) (show 0 ≤ p2.toInt from by omega) (show p2.toInt < 8 from by omega) (show p4.toInt ≤ 16 from by first | exact oz_05cfa6a11f nc118 | omega) (show 0 ≤ (0 : Int) from by first | exact oz_5a341f00aa | omega) (show (0 : Int) ≤ 1 from by first | exact oz_6e68cd0f48 | omega) (show 0 ≤ (0 : Int) from by first | exact oz_5a341f00aa | omega) (show RdG (0 : Int) (RdLw p1.toInt p3.toInt (0 : Int) ((PG j9).xf 68).toInt) from (fun _ k9 a9 b9 => absurd b9 (by omega))) (show 17 - (0 : Int) + 4294967296 < ((((17 - (0 : Int) + 4294967296).toNat + 1 : Nat) : Int) : Int) from by first | exact oz_natlt | omega) hw (lv_sub hl [4, 5, 6, 7, 8, 9, 3, 2, 1, 0] rfl)
      · have nc124 : z123.toInt = (0 : Int) := (i_eq (x := z123) (y := 0)).mp c124
        refine lv_iconst (v := 1) S.x S.b d_Mo_moveWords_41 (by decide) ?_
        refine lv_goto (tgt := 46) S.x S.b d_Mo_moveWords_42 (by decide) ?_
        refine lv_istore (lv' := [(8, .int 1), (7, .int p4), (6, .ref (hq p0.toNatClampNeg)), (0, .ref mo), (1, .int p0), (2, .int p1), (3, .int p2), (4, .int p3), (5, .int p4)]) S.x S.b d_Mo_moveWords_46 hl (by decide) rfl (fun ls hl => ?_)
        refine lv_iconst (v := 0) S.x S.b d_Mo_moveWords_48 (by decide) ?_
        refine lv_istore (lv' := [(9, .int 0), (8, .int 1), (7, .int p4), (6, .ref (hq p0.toNatClampNeg)), (0, .ref mo), (1, .int p0), (2, .int p1), (3, .int p2), (4, .int p3), (5, .int p4)]) S.x S.b d_Mo_moveWords_49 hl (by decide) rfl (fun ls hl => ?_)
        exact J51 ((17 - (0 : Int) + 4294967296).toNat + 1) mf md QO106 QF107 QA108 p4 (1 : Int32) (0 : Int32) _ _ ls (show (mf 0).toInt = (mf 0).toInt from rfl) (show (mf 2).toInt = (mf 2).toInt from rfl) (show (mf 3).toInt = (mf 3).toInt from rfl) (show (mf 7).toInt = (mf 7).toInt from rfl) (show (mf 8).toInt = (mf 8).toInt from rfl) (show (mf 9).toInt = (mf 9).toInt from rfl) (show (mf 10).toInt = (mf 10).toInt from rfl) (show Md1 md md from hmdq) (show PrA PG RR QO106 QF107 QA108 from hpr) (show OqE (QO106 p0.toNatClampNeg) (PG j9).h from hqo) (show KpW QO QF QO106 QF107 p0.toNatClampNeg from hkw) (show p0.toInt = 0 from by omega) (show 0 ≤ p2.toInt from by omega) (show p2.toInt < 8 from by omega) (show p4.toInt ≤ 16 from by first | exact oz_05cfa6a11f nc118 | omega) (show 0 ≤ (1 : Int) from by first | exact oz_19c3a41681 | omega) (show (1 : Int) ≤ 1 from by first | exact oz_f9181dc4bb | omega) (show 0 ≤ (0 : Int) from by first | exact oz_5a341f00aa | omega) (show RdG (1 : Int) (RdLw p1.toInt p3.toInt (0 : Int) ((PG j9).xf 68).toInt) from (fun _ k9 a9 b9 => absurd b9 (by omega))) (show 17 - (0 : Int) + 4294967296 < ((((17 - (0 : Int) + 4294967296).toNat + 1 : Nat) : Int) : Int) from by first | exact oz_natlt | omega) hw (lv_sub hl [4, 5, 6, 7, 8, 9, 3, 2, 1, 0] rfl)
  · have nc116 : v110.toInt = (0 : Int) := (i_eq (x := v110) (y := 0)).mp c116
    exact px_vret S hr hlk hAe hw (Nat.le_of_ble_eq_true rfl) (Nat.le_of_ble_eq_true rfl) (⟨mf, md, QO106, QF107, QA108, rfl, (show PrA PG RR QO106 QF107 QA108 from hpr), (show OqE (QO106 p0.toNatClampNeg) (PG j9).h from hqo), (show KpW QO QF QO106 QF107 p0.toNatClampNeg from hkw), (show (mf 0).toInt = (mf 0).toInt from rfl), (show (mf 2).toInt = (mf 2).toInt from rfl), (show (mf 3).toInt = (mf 3).toInt from rfl), (show (mf 7).toInt = (mf 7).toInt from rfl), (show (mf 8).toInt = (mf 8).toInt from rfl), (show (mf 9).toInt = (mf 9).toInt from rfl), (show (mf 10).toInt = (mf 10).toInt from rfl), (show Md1 md md from hmdq)⟩) d_Mo_moveWords_9
abbrev b_Mo_rawCall : ByteArray := prog_14_method_25_code
def y_Mo_rawCall : MethodName := ⟨"HomeSystemModel", "rawCall", "(I)Z"⟩
theorem d_Mo_rawCall_0 : decode b_Mo_rawCall 0 = .ok (.aload_n 0, 1) := by decide +kernel
theorem d_Mo_rawCall_1 : decode b_Mo_rawCall 1 = .ok (.getfield 21, 3) := by decide +kernel
theorem d_Mo_rawCall_4 : decode b_Mo_rawCall 4 = .ok (.iload_n 1, 1) := by decide +kernel
theorem d_Mo_rawCall_5 : decode b_Mo_rawCall 5 = .ok (.aaload, 1) := by decide +kernel
theorem d_Mo_rawCall_6 : decode b_Mo_rawCall 6 = .ok (.astore_n 2, 1) := by decide +kernel
theorem d_Mo_rawCall_7 : decode b_Mo_rawCall 7 = .ok (.aload_n 2, 1) := by decide +kernel
theorem d_Mo_rawCall_8 : decode b_Mo_rawCall 8 = .ok (.getfield 172, 3) := by decide +kernel
theorem d_Mo_rawCall_11 : decode b_Mo_rawCall 11 = .ok (.bipush 10, 2) := by decide +kernel
theorem d_Mo_rawCall_13 : decode b_Mo_rawCall 13 = .ok (.iaload, 1) := by decide +kernel
theorem d_Mo_rawCall_14 : decode b_Mo_rawCall 14 = .ok (.istore_n 3, 1) := by decide +kernel
theorem d_Mo_rawCall_15 : decode b_Mo_rawCall 15 = .ok (.aload_n 2, 1) := by decide +kernel
theorem d_Mo_rawCall_16 : decode b_Mo_rawCall 16 = .ok (.getfield 172, 3) := by decide +kernel
theorem d_Mo_rawCall_19 : decode b_Mo_rawCall 19 = .ok (.bipush 11, 2) := by decide +kernel
theorem d_Mo_rawCall_21 : decode b_Mo_rawCall 21 = .ok (.iaload, 1) := by decide +kernel
theorem d_Mo_rawCall_22 : decode b_Mo_rawCall 22 = .ok (.istore 4, 2) := by decide +kernel
theorem d_Mo_rawCall_24 : decode b_Mo_rawCall 24 = .ok (.iconst 1, 1) := by decide +kernel
theorem d_Mo_rawCall_25 : decode b_Mo_rawCall 25 = .ok (.istore 5, 2) := by decide +kernel
theorem d_Mo_rawCall_27 : decode b_Mo_rawCall 27 = .ok (.iconst 0, 1) := by decide +kernel
theorem d_Mo_rawCall_28 : decode b_Mo_rawCall 28 = .ok (.istore 6, 2) := by decide +kernel
theorem d_Mo_rawCall_30 : decode b_Mo_rawCall 30 = .ok (.aload_n 2, 1) := by decide +kernel
theorem d_Mo_rawCall_31 : decode b_Mo_rawCall 31 = .ok (.getfield 172, 3) := by decide +kernel
theorem d_Mo_rawCall_34 : decode b_Mo_rawCall 34 = .ok (.bipush 17, 2) := by decide +kernel
theorem d_Mo_rawCall_36 : decode b_Mo_rawCall 36 = .ok (.iaload, 1) := by decide +kernel
theorem d_Mo_rawCall_37 : decode b_Mo_rawCall 37 = .ok (.tableswitch 245 0 19 #[95, 104, 112, 125, 139, 153, 167, 181, 181, 216, 245, 245, 245, 245, 245, 245, 225, 225, 225, 225], 95) := by decide +kernel
theorem d_Mo_rawCall_132 : decode b_Mo_rawCall 132 = .ok (.aload_n 2, 1) := by decide +kernel
theorem d_Mo_rawCall_133 : decode b_Mo_rawCall 133 = .ok (.iconst 0, 1) := by decide +kernel
theorem d_Mo_rawCall_134 : decode b_Mo_rawCall 134 = .ok (.iload_n 3, 1) := by decide +kernel
theorem d_Mo_rawCall_135 : decode b_Mo_rawCall 135 = .ok (.invokevirtual 85, 3) := by decide +kernel
theorem d_Mo_rawCall_138 : decode b_Mo_rawCall 138 = .ok (.goto 151, 3) := by decide +kernel
theorem d_Mo_rawCall_141 : decode b_Mo_rawCall 141 = .ok (.aload_n 2, 1) := by decide +kernel
theorem d_Mo_rawCall_142 : decode b_Mo_rawCall 142 = .ok (.iload_n 3, 1) := by decide +kernel
theorem d_Mo_rawCall_143 : decode b_Mo_rawCall 143 = .ok (.invokevirtual 139, 3) := by decide +kernel
theorem d_Mo_rawCall_146 : decode b_Mo_rawCall 146 = .ok (.goto 143, 3) := by decide +kernel
theorem d_Mo_rawCall_149 : decode b_Mo_rawCall 149 = .ok (.aload_n 0, 1) := by decide +kernel
theorem d_Mo_rawCall_150 : decode b_Mo_rawCall 150 = .ok (.iload_n 1, 1) := by decide +kernel
theorem d_Mo_rawCall_151 : decode b_Mo_rawCall 151 = .ok (.iload_n 3, 1) := by decide +kernel
theorem d_Mo_rawCall_152 : decode b_Mo_rawCall 152 = .ok (.iload 4, 2) := by decide +kernel
theorem d_Mo_rawCall_154 : decode b_Mo_rawCall 154 = .ok (.invokevirtual 142, 3) := by decide +kernel
theorem d_Mo_rawCall_157 : decode b_Mo_rawCall 157 = .ok (.istore 5, 2) := by decide +kernel
theorem d_Mo_rawCall_159 : decode b_Mo_rawCall 159 = .ok (.goto 130, 3) := by decide +kernel
theorem d_Mo_rawCall_162 : decode b_Mo_rawCall 162 = .ok (.aload_n 0, 1) := by decide +kernel
theorem d_Mo_rawCall_163 : decode b_Mo_rawCall 163 = .ok (.iload_n 1, 1) := by decide +kernel
theorem d_Mo_rawCall_164 : decode b_Mo_rawCall 164 = .ok (.iload_n 3, 1) := by decide +kernel
theorem d_Mo_rawCall_165 : decode b_Mo_rawCall 165 = .ok (.invokevirtual 146, 3) := by decide +kernel
theorem d_Mo_rawCall_168 : decode b_Mo_rawCall 168 = .ok (.istore 5, 2) := by decide +kernel
theorem d_Mo_rawCall_170 : decode b_Mo_rawCall 170 = .ok (.iconst 1, 1) := by decide +kernel
theorem d_Mo_rawCall_171 : decode b_Mo_rawCall 171 = .ok (.istore 6, 2) := by decide +kernel
theorem d_Mo_rawCall_173 : decode b_Mo_rawCall 173 = .ok (.goto 116, 3) := by decide +kernel
theorem d_Mo_rawCall_176 : decode b_Mo_rawCall 176 = .ok (.aload_n 0, 1) := by decide +kernel
theorem d_Mo_rawCall_177 : decode b_Mo_rawCall 177 = .ok (.iload_n 1, 1) := by decide +kernel
theorem d_Mo_rawCall_178 : decode b_Mo_rawCall 178 = .ok (.iload_n 3, 1) := by decide +kernel
theorem d_Mo_rawCall_179 : decode b_Mo_rawCall 179 = .ok (.invokevirtual 150, 3) := by decide +kernel
theorem d_Mo_rawCall_182 : decode b_Mo_rawCall 182 = .ok (.istore 5, 2) := by decide +kernel
theorem d_Mo_rawCall_184 : decode b_Mo_rawCall 184 = .ok (.iconst 1, 1) := by decide +kernel
theorem d_Mo_rawCall_185 : decode b_Mo_rawCall 185 = .ok (.istore 6, 2) := by decide +kernel
theorem d_Mo_rawCall_187 : decode b_Mo_rawCall 187 = .ok (.goto 102, 3) := by decide +kernel
theorem d_Mo_rawCall_190 : decode b_Mo_rawCall 190 = .ok (.aload_n 0, 1) := by decide +kernel
theorem d_Mo_rawCall_191 : decode b_Mo_rawCall 191 = .ok (.iload_n 1, 1) := by decide +kernel
theorem d_Mo_rawCall_192 : decode b_Mo_rawCall 192 = .ok (.iload_n 3, 1) := by decide +kernel
theorem d_Mo_rawCall_193 : decode b_Mo_rawCall 193 = .ok (.iload 4, 2) := by decide +kernel
theorem d_Mo_rawCall_195 : decode b_Mo_rawCall 195 = .ok (.invokevirtual 153, 3) := by decide +kernel
theorem d_Mo_rawCall_198 : decode b_Mo_rawCall 198 = .ok (.iconst 1, 1) := by decide +kernel
theorem d_Mo_rawCall_199 : decode b_Mo_rawCall 199 = .ok (.istore 6, 2) := by decide +kernel
theorem d_Mo_rawCall_201 : decode b_Mo_rawCall 201 = .ok (.goto 88, 3) := by decide +kernel
theorem d_Mo_rawCall_204 : decode b_Mo_rawCall 204 = .ok (.aload_n 0, 1) := by decide +kernel
theorem d_Mo_rawCall_205 : decode b_Mo_rawCall 205 = .ok (.iload_n 1, 1) := by decide +kernel
theorem d_Mo_rawCall_206 : decode b_Mo_rawCall 206 = .ok (.iload_n 3, 1) := by decide +kernel
theorem d_Mo_rawCall_207 : decode b_Mo_rawCall 207 = .ok (.invokevirtual 156, 3) := by decide +kernel
theorem d_Mo_rawCall_210 : decode b_Mo_rawCall 210 = .ok (.istore 5, 2) := by decide +kernel
theorem d_Mo_rawCall_212 : decode b_Mo_rawCall 212 = .ok (.iconst 1, 1) := by decide +kernel
theorem d_Mo_rawCall_213 : decode b_Mo_rawCall 213 = .ok (.istore 6, 2) := by decide +kernel
theorem d_Mo_rawCall_215 : decode b_Mo_rawCall 215 = .ok (.goto 74, 3) := by decide +kernel
theorem d_Mo_rawCall_218 : decode b_Mo_rawCall 218 = .ok (.aload_n 0, 1) := by decide +kernel
theorem d_Mo_rawCall_219 : decode b_Mo_rawCall 219 = .ok (.iload_n 1, 1) := by decide +kernel
theorem d_Mo_rawCall_220 : decode b_Mo_rawCall 220 = .ok (.aload_n 2, 1) := by decide +kernel
theorem d_Mo_rawCall_221 : decode b_Mo_rawCall 221 = .ok (.getfield 172, 3) := by decide +kernel
theorem d_Mo_rawCall_224 : decode b_Mo_rawCall 224 = .ok (.bipush 17, 2) := by decide +kernel
theorem d_Mo_rawCall_226 : decode b_Mo_rawCall 226 = .ok (.iaload, 1) := by decide +kernel
theorem d_Mo_rawCall_227 : decode b_Mo_rawCall 227 = .ok (.bipush 7, 2) := by decide +kernel
theorem d_Mo_rawCall_229 : decode b_Mo_rawCall 229 = .ok (.if_icmp .ne 7, 3) := by decide +kernel
theorem d_Mo_rawCall_232 : decode b_Mo_rawCall 232 = .ok (.iconst 1, 1) := by decide +kernel
theorem d_Mo_rawCall_233 : decode b_Mo_rawCall 233 = .ok (.goto 4, 3) := by decide +kernel
theorem d_Mo_rawCall_236 : decode b_Mo_rawCall 236 = .ok (.iconst 0, 1) := by decide +kernel
theorem d_Mo_rawCall_237 : decode b_Mo_rawCall 237 = .ok (.iload_n 3, 1) := by decide +kernel
theorem d_Mo_rawCall_238 : decode b_Mo_rawCall 238 = .ok (.iload 4, 2) := by decide +kernel
theorem d_Mo_rawCall_240 : decode b_Mo_rawCall 240 = .ok (.aload_n 2, 1) := by decide +kernel
theorem d_Mo_rawCall_241 : decode b_Mo_rawCall 241 = .ok (.getfield 172, 3) := by decide +kernel
theorem d_Mo_rawCall_244 : decode b_Mo_rawCall 244 = .ok (.bipush 12, 2) := by decide +kernel
theorem d_Mo_rawCall_246 : decode b_Mo_rawCall 246 = .ok (.iaload, 1) := by decide +kernel
theorem d_Mo_rawCall_247 : decode b_Mo_rawCall 247 = .ok (.invokevirtual 175, 3) := by decide +kernel
theorem d_Mo_rawCall_250 : decode b_Mo_rawCall 250 = .ok (.goto 39, 3) := by decide +kernel
theorem d_Mo_rawCall_253 : decode b_Mo_rawCall 253 = .ok (.aload_n 2, 1) := by decide +kernel
theorem d_Mo_rawCall_254 : decode b_Mo_rawCall 254 = .ok (.iconst 1, 1) := by decide +kernel
theorem d_Mo_rawCall_255 : decode b_Mo_rawCall 255 = .ok (.iload_n 3, 1) := by decide +kernel
theorem d_Mo_rawCall_256 : decode b_Mo_rawCall 256 = .ok (.invokevirtual 85, 3) := by decide +kernel
theorem d_Mo_rawCall_259 : decode b_Mo_rawCall 259 = .ok (.goto 30, 3) := by decide +kernel
theorem d_Mo_rawCall_262 : decode b_Mo_rawCall 262 = .ok (.aload_n 2, 1) := by decide +kernel
theorem d_Mo_rawCall_263 : decode b_Mo_rawCall 263 = .ok (.iconst 2, 1) := by decide +kernel
theorem d_Mo_rawCall_264 : decode b_Mo_rawCall 264 = .ok (.aload_n 2, 1) := by decide +kernel
theorem d_Mo_rawCall_265 : decode b_Mo_rawCall 265 = .ok (.getfield 172, 3) := by decide +kernel
theorem d_Mo_rawCall_268 : decode b_Mo_rawCall 268 = .ok (.bipush 17, 2) := by decide +kernel
theorem d_Mo_rawCall_270 : decode b_Mo_rawCall 270 = .ok (.iaload, 1) := by decide +kernel
theorem d_Mo_rawCall_271 : decode b_Mo_rawCall 271 = .ok (.iadd, 1) := by decide +kernel
theorem d_Mo_rawCall_272 : decode b_Mo_rawCall 272 = .ok (.bipush 16, 2) := by decide +kernel
theorem d_Mo_rawCall_274 : decode b_Mo_rawCall 274 = .ok (.isub, 1) := by decide +kernel
theorem d_Mo_rawCall_275 : decode b_Mo_rawCall 275 = .ok (.iconst 0, 1) := by decide +kernel
theorem d_Mo_rawCall_276 : decode b_Mo_rawCall 276 = .ok (.invokevirtual 85, 3) := by decide +kernel
theorem d_Mo_rawCall_279 : decode b_Mo_rawCall 279 = .ok (.goto 10, 3) := by decide +kernel
theorem d_Mo_rawCall_282 : decode b_Mo_rawCall 282 = .ok (.aload_n 2, 1) := by decide +kernel
theorem d_Mo_rawCall_283 : decode b_Mo_rawCall 283 = .ok (.bipush 7, 2) := by decide +kernel
theorem d_Mo_rawCall_285 : decode b_Mo_rawCall 285 = .ok (.iconst 0, 1) := by decide +kernel
theorem d_Mo_rawCall_286 : decode b_Mo_rawCall 286 = .ok (.invokevirtual 85, 3) := by decide +kernel
theorem d_Mo_rawCall_289 : decode b_Mo_rawCall 289 = .ok (.iload 5, 2) := by decide +kernel
theorem d_Mo_rawCall_291 : decode b_Mo_rawCall 291 = .ok (.ifCond .eq 50, 3) := by decide +kernel
theorem d_Mo_rawCall_294 : decode b_Mo_rawCall 294 = .ok (.aload_n 2, 1) := by decide +kernel
theorem d_Mo_rawCall_295 : decode b_Mo_rawCall 295 = .ok (.invokevirtual 178, 3) := by decide +kernel
theorem d_Mo_rawCall_298 : decode b_Mo_rawCall 298 = .ok (.ifCond .eq 43, 3) := by decide +kernel
theorem d_Mo_rawCall_301 : decode b_Mo_rawCall 301 = .ok (.aload_n 2, 1) := by decide +kernel
theorem d_Mo_rawCall_302 : decode b_Mo_rawCall 302 = .ok (.getfield 172, 3) := by decide +kernel
theorem d_Mo_rawCall_305 : decode b_Mo_rawCall 305 = .ok (.bipush 10, 2) := by decide +kernel
theorem d_Mo_rawCall_307 : decode b_Mo_rawCall 307 = .ok (.iload 6, 2) := by decide +kernel
theorem d_Mo_rawCall_309 : decode b_Mo_rawCall 309 = .ok (.ifCond .eq 10, 3) := by decide +kernel
theorem d_Mo_rawCall_312 : decode b_Mo_rawCall 312 = .ok (.aload_n 0, 1) := by decide +kernel
theorem d_Mo_rawCall_313 : decode b_Mo_rawCall 313 = .ok (.getfield 111, 3) := by decide +kernel
theorem d_Mo_rawCall_316 : decode b_Mo_rawCall 316 = .ok (.goto 4, 3) := by decide +kernel
theorem d_Mo_rawCall_319 : decode b_Mo_rawCall 319 = .ok (.iload_n 3, 1) := by decide +kernel
theorem d_Mo_rawCall_320 : decode b_Mo_rawCall 320 = .ok (.iastore, 1) := by decide +kernel
theorem d_Mo_rawCall_321 : decode b_Mo_rawCall 321 = .ok (.aload_n 2, 1) := by decide +kernel
theorem d_Mo_rawCall_322 : decode b_Mo_rawCall 322 = .ok (.aload_n 2, 1) := by decide +kernel
theorem d_Mo_rawCall_323 : decode b_Mo_rawCall 323 = .ok (.getfield 181, 3) := by decide +kernel
theorem d_Mo_rawCall_326 : decode b_Mo_rawCall 326 = .ok (.iconst 4, 1) := by decide +kernel
theorem d_Mo_rawCall_327 : decode b_Mo_rawCall 327 = .ok (.iadd, 1) := by decide +kernel
theorem d_Mo_rawCall_328 : decode b_Mo_rawCall 328 = .ok (.putfield 181, 3) := by decide +kernel
theorem d_Mo_rawCall_331 : decode b_Mo_rawCall 331 = .ok (.aload_n 2, 1) := by decide +kernel
theorem d_Mo_rawCall_332 : decode b_Mo_rawCall 332 = .ok (.dup, 1) := by decide +kernel
theorem d_Mo_rawCall_333 : decode b_Mo_rawCall 333 = .ok (.getfield 184, 3) := by decide +kernel
theorem d_Mo_rawCall_336 : decode b_Mo_rawCall 336 = .ok (.iconst 1, 1) := by decide +kernel
theorem d_Mo_rawCall_337 : decode b_Mo_rawCall 337 = .ok (.isub, 1) := by decide +kernel
theorem d_Mo_rawCall_338 : decode b_Mo_rawCall 338 = .ok (.putfield 184, 3) := by decide +kernel
theorem d_Mo_rawCall_341 : decode b_Mo_rawCall 341 = .ok (.iload 5, 2) := by decide +kernel
theorem d_Mo_rawCall_343 : decode b_Mo_rawCall 343 = .ok (.ireturn, 1) := by decide +kernel
theorem q_Mo_rawCall : px_y y_Mo_rawCall 1 := by unfold px_y; decide +kernel
set_option maxHeartbeats 4000000 in
set_option maxRecDepth 100000 in
theorem c_mo_rawCall (l : Launch) (D : va_G) (cs : Nat → ClassId) (RR : Nat → Int) (j9 : Nat) (mo : Nat) (mr : Nat → Nat) (mf : Nat → Int32) (md : Nat → Nat → Int32) (hq : Nat → Nat) (qr : Nat → Nat → Nat) (QO : Nat → Option Nat) (QF : Nat → Nat → Int32) (QA : Nat → Nat → Nat → Int32) (PG : Nat → Pgs) (p0 : Int32)  (g0 : 0 ≤ p0.toInt) (g1 : p0.toInt < 13) (g2 : 0 ≤ (mf 7).toInt) (g3 : (mf 7).toInt ≤ 100) (g4 : 0 ≤ (mf 8).toInt) (g5 : (mf 8).toInt ≤ 512) (g6 : (QF p0.toNatClampNeg 1).toInt = 1) (g7 : (QF p0.toNatClampNeg 2).toInt = -2) (g8 : 1 ≤ (QF p0.toNatClampNeg 4).toInt) (hpr : PrA PG RR QO QF QA) (hpg : PgA PG) (hj9 : j9 < 8) (h66 : ((PG j9).xf 66).toInt = 2) (hqo : OqE (QO p0.toNatClampNeg) (PG j9).h) (hrw : PsW (RR p0.toNatClampNeg) (QF p0.toNatClampNeg)) : MetI l y_Mo_rawCall b_Mo_rawCall 7 (.boolean) D cs 5 220 (0) (0) [.ref mo, .int p0] [wd_Mo cs mo mr (fun _ => none) mf md (gMo PG hq), fm 13 (fPr cs hq qr QO QF QA), fm 8 (fPg cs PG)] (oX (fun A U H => (∀ j : Nat, j < 8 → oP A (PG j).g U H)) [wd_Mo cs mo mr (fun _ => none) mf md (gMo PG hq), fm 13 (fPr cs hq qr QO QF QA), fm 8 (fPg cs PG)]) (fun v ps => ∃ (mf' : Nat → Int32) (md' : Nat → Nat → Int32) (QO' : Nat → Option Nat) (QF' : Nat → Nat → Int32) (QA' : Nat → Nat → Nat → Int32), (ps = [wd_Mo cs mo mr (fun _ => none) mf' md' (gMo PG hq), fm 13 (fPr cs hq qr QO' QF' QA'), fm 8 (fPg cs PG)]) ∧ (0 ≤ v.toInt) ∧ (v.toInt ≤ 1) ∧ (PrA PG (va_up RR p0.toNatClampNeg (RR p0.toNatClampNeg - v.toInt)) QO' QF' QA') ∧ ((mf' 0).toInt = (mf 0).toInt) ∧ ((mf' 2).toInt = (mf 2).toInt) ∧ ((mf' 3).toInt = (mf 3).toInt) ∧ ((mf' 7).toInt = (mf 7).toInt) ∧ ((mf' 8).toInt = (mf 8).toInt) ∧ ((mf' 10).toInt = (mf 10).toInt) ∧ (Md1 md md')) := by
  refine px_enter (by decide) (Nat.le_of_ble_eq_true rfl) ?_
  intro p e s m below meth c A ls hAe S hr hlk hnm hA hT hX hw hl
  have hl : lv_has ls 7 [(0, .ref mo), (1, .int p0)] := hl
  have lp0 := Int32.le_toInt p0
  have up0 := Int32.toInt_lt p0
  have cst0 : (0 : Int32).toInt = 0 := rfl
  have cst1 : (1 : Int32).toInt = 1 := rfl
  have cst2 : (2 : Int32).toInt = 2 := rfl
  have cst4 : (4 : Int32).toInt = 4 := rfl
  have cst7 : (7 : Int32).toInt = 7 := rfl
  have cst10 : (10 : Int32).toInt = 10 := rfl
  have cst11 : (11 : Int32).toInt = 11 := rfl
  have cst12 : (12 : Int32).toInt = 12 := rfl
  have cst16 : (16 : Int32).toInt = 16 := rfl
  have cst17 : (17 : Int32).toInt = 17 := rfl
  have hX : (fun A U H => (∀ j : Nat, j < 8 → oP A (PG j).g U H)) A s s.heap := by rw [hAe]; exact hX
  have hGG := hX
  have hmdq : Md1 md md := rfl
  have hkw : KpW QO QF QO QF p0.toNatClampNeg := ⟨rfl, KpF.rf⟩
  have hrw0 := hrw
  have hqoE : QO p0.toNatClampNeg = some (PG j9).h := hqo
  unfold PsW at hrw0
  refine lv_aload_n S.x S.b d_Mo_rawCall_0 rfl (lv_at hl 0 rfl) ?_
  refine px_get S k_Mo hT hw 0 0 5 (v := .ref (mr 5)) rfl rfl rfl (by decide) m11_83 d_Mo_rawCall_1 ?_
  refine lv_iload_n S.x S.b d_Mo_rawCall_4 rfl (lv_at hl 1 rfl) ?_
  refine px_aaldS S hT hw 0 3 10 (n := 13) (f := ((gMo PG hq) 5)) rfl rfl rfl (x := p0) (vp_in_iff.mpr (by first | exact oz_59feca6c45 g0 g1 | (constructor <;> omega))) (sk := (hq p0.toNatClampNeg)) rfl d_Mo_rawCall_5 ?_
  refine lv_astore_n (lv' := [(2, .ref (hq p0.toNatClampNeg)), (0, .ref mo), (1, .int p0)]) S.x S.b d_Mo_rawCall_6 rfl hl (by decide) rfl (fun ls hl => ?_)
  refine lv_aload_n S.x S.b d_Mo_rawCall_7 rfl (lv_at hl 0 rfl) ?_
  have hw : pw D A s.heap _ _ [wd_Mo cs mo mr (fun _ => none) mf md (gMo PG hq), fm 8 (fPg cs PG), fm 13 (fPr cs hq qr QO QF QA)] := hw.sub [0, 2, 1] rfl rfl
  have hc1 := cl_nat (x := p0) (by first | exact g0 | omega)
  have hi1 : p0.toNatClampNeg < 13 := by first | exact oz_9995642664 hc1 g1 | omega
  have hw : pw D A s.heap _ _ [wd_Mo cs mo mr (fun _ => none) mf md (gMo PG hq), fm 8 (fPg cs PG), fo 13 (fPr cs hq qr QO QF QA) p0.toNatClampNeg, wd_Mpr cs (hq p0.toNatClampNeg) (qr p0.toNatClampNeg) (fun _ => QO p0.toNatClampNeg) (QF p0.toNatClampNeg) (QA p0.toNatClampNeg) (fun _ _ => none)] := fm_out (pr := [wd_Mo cs mo mr (fun _ => none) mf md (gMo PG hq), fm 8 (fPg cs PG)]) (T := fPr cs hq qr QO QF QA) hw hi1
  have hps1 := hpr.1 p0.toNatClampNeg hi1
  have hpb1 := hps1.1
  unfold PsB at hpb1
  refine px_get S k_Mpr hT hw 3 0 19 (v := .ref ((qr p0.toNatClampNeg) 19)) rfl rfl rfl (by decide) m11_12 d_Mo_rawCall_8 ?_
  refine lv_bipush (v := 10) S.x S.b d_Mo_rawCall_11 (by decide) ?_
  refine px_iald S hT hw 3 7 (n := 32) (f := ((QA p0.toNatClampNeg) 19)) rfl (ga_Mpr_19 _ _ _ _ _ _ _) (x := 10) (vp_in_iff.mpr (by constructor <;> omega)) d_Mo_rawCall_13 ?_
  refine lv_topi (fun z2 ez2 => ?_)
  have lz2 := Int32.le_toInt z2
  have uz2 := Int32.toInt_lt z2
  refine lv_istore_n (lv' := [(3, .int z2), (2, .ref (hq p0.toNatClampNeg)), (0, .ref mo), (1, .int p0)]) S.x S.b d_Mo_rawCall_14 rfl hl (by decide) rfl (fun ls hl => ?_)
  refine lv_aload_n S.x S.b d_Mo_rawCall_15 rfl (lv_at hl 1 rfl) ?_
  refine px_get S k_Mpr hT hw 3 0 19 (v := .ref ((qr p0.toNatClampNeg) 19)) rfl rfl rfl (by decide) m11_12 d_Mo_rawCall_16 ?_
  refine lv_bipush (v := 11) S.x S.b d_Mo_rawCall_19 (by decide) ?_
  refine px_iald S hT hw 3 7 (n := 32) (f := ((QA p0.toNatClampNeg) 19)) rfl (ga_Mpr_19 _ _ _ _ _ _ _) (x := 11) (vp_in_iff.mpr (by constructor <;> omega)) d_Mo_rawCall_21 ?_
  refine lv_topi (fun z3 ez3 => ?_)
  have lz3 := Int32.le_toInt z3
  have uz3 := Int32.toInt_lt z3
  refine lv_istore (lv' := [(4, .int z3), (3, .int z2), (2, .ref (hq p0.toNatClampNeg)), (0, .ref mo), (1, .int p0)]) S.x S.b d_Mo_rawCall_22 hl (by decide) rfl (fun ls hl => ?_)
  refine lv_iconst (v := 1) S.x S.b d_Mo_rawCall_24 (by decide) ?_
  refine lv_istore (lv' := [(5, .int 1), (4, .int z3), (3, .int z2), (2, .ref (hq p0.toNatClampNeg)), (0, .ref mo), (1, .int p0)]) S.x S.b d_Mo_rawCall_25 hl (by decide) rfl (fun ls hl => ?_)
  refine lv_iconst (v := 0) S.x S.b d_Mo_rawCall_27 (by decide) ?_
  refine lv_istore (lv' := [(6, .int 0), (5, .int 1), (4, .int z3), (3, .int z2), (2, .ref (hq p0.toNatClampNeg)), (0, .ref mo), (1, .int p0)]) S.x S.b d_Mo_rawCall_28 hl (by decide) rfl (fun ls hl => ?_)
  refine lv_aload_n S.x S.b d_Mo_rawCall_30 rfl (lv_at hl 4 rfl) ?_
  refine px_get S k_Mpr hT hw 3 0 19 (v := .ref ((qr p0.toNatClampNeg) 19)) rfl rfl rfl (by decide) m11_12 d_Mo_rawCall_31 ?_
  refine lv_bipush (v := 17) S.x S.b d_Mo_rawCall_34 (by decide) ?_
  refine px_iald S hT hw 3 7 (n := 32) (f := ((QA p0.toNatClampNeg) 19)) rfl (ga_Mpr_19 _ _ _ _ _ _ _) (x := 17) (vp_in_iff.mpr (by constructor <;> omega)) d_Mo_rawCall_36 ?_
  refine lv_topi (fun z4 ez4 => ?_)
  have lz4 := Int32.le_toInt z4
  have uz4 := Int32.toInt_lt z4
  refine px_tableD S (dt := 282) [(132, [0]), (141, [1]), (149, [2]), (162, [3]), (176, [4]), (190, [5]), (204, [6]), (218, [7, 8]), (253, [9]), (282, [10, 11, 12, 13, 14, 15]), (262, [16, 17, 18, 19])] d_Mo_rawCall_37 (by decide +kernel) (by decide) (by decide +kernel) ?_ ?_
  · intro hdf_37
    refine lv_aload_n S.x S.b d_Mo_rawCall_282 rfl (lv_at hl 4 rfl) ?_
    refine lv_bipush (v := 7) S.x S.b d_Mo_rawCall_283 (by decide) ?_
    refine lv_iconst (v := 0) S.x S.b d_Mo_rawCall_285 (by decide) ?_
    refine px_callv (pr := [wd_Mo cs mo mr (fun _ => none) mf md (gMo PG hq), fm 8 (fPg cs PG), fo 13 (fPr cs hq qr QO QF QA) p0.toNatClampNeg]) (px_runV (As := [.int 7, .int 0]) (rest := []) S (c_mq_end l D cs (hq p0.toNatClampNeg) (qr p0.toNatClampNeg) (fun _ _ => none) (fun _ => QO p0.toNatClampNeg) (QA p0.toNatClampNeg) (QF p0.toNatClampNeg) 7 0   _) hT (pr := [wd_Mo cs mo mr (fun _ => none) mf md (gMo PG hq), fm 8 (fPg cs PG), fo 13 (fPr cs hq qr QO QF QA) p0.toNatClampNeg]) (pcs := [wd_Mpr cs (hq p0.toNatClampNeg) (qr p0.toNatClampNeg) (fun _ => QO p0.toNatClampNeg) (QF p0.toNatClampNeg) (QA p0.toNatClampNeg) (fun _ _ => none)]) hw px_X.tt (px_recv hT hw 3 0 rfl rfl rfl) m13_177 m14_35 m13_175 m13_176 m1_22 q_Mpr_end ⟨Nat.le_of_ble_eq_true rfl, Nat.le_of_ble_eq_true rfl⟩ hl.1 rfl (Nat.le_of_ble_eq_true rfl) d_Mo_rawCall_286 ⟨Nat.le_of_ble_eq_true rfl, Nat.le_of_ble_eq_true rfl⟩) hw hA (fun p8 H locs hp8 hw => ?_)
    obtain ⟨qf7, rfl, e10, e11, e12, e13, e14, e15, e16, e17, e18, e19, e20, e21, e22, e23⟩ := hp8
    have e10 : (qf7 2).toInt = (7 : Int) := e10
    have e11 : (qf7 1).toInt = ((QF p0.toNatClampNeg) 1).toInt := e11
    have e12 : (qf7 4).toInt = ((QF p0.toNatClampNeg) 4).toInt := e12
    have e13 : (qf7 5).toInt = ((QF p0.toNatClampNeg) 5).toInt := e13
    have e14 : (qf7 6).toInt = ((QF p0.toNatClampNeg) 6).toInt := e14
    have e15 : (qf7 7).toInt = ((QF p0.toNatClampNeg) 7).toInt := e15
    have e16 : (qf7 10).toInt = ((QF p0.toNatClampNeg) 10).toInt := e16
    have e17 : (qf7 11).toInt = ((QF p0.toNatClampNeg) 11).toInt := e17
    have e18 : (qf7 12).toInt = ((QF p0.toNatClampNeg) 12).toInt := e18
    have e19 : (qf7 13).toInt = ((QF p0.toNatClampNeg) 13).toInt := e19
    have e20 : (qf7 14).toInt = ((QF p0.toNatClampNeg) 14).toInt := e20
    have e21 : (qf7 21).toInt = ((QF p0.toNatClampNeg) 21).toInt := e21
    have e22 : (qf7 23).toInt = ((QF p0.toNatClampNeg) 23).toInt := e22
    have e23 : (qf7 24).toInt = ((QF p0.toNatClampNeg) 24).toInt := e23
    have hw : pw D A s.heap H locs [wd_Mo cs mo mr (fun _ => none) mf md (gMo PG hq), fm 8 (fPg cs PG), fo 13 (fPr cs hq qr QO QF QA) p0.toNatClampNeg, wd_Mpr cs (hq p0.toNatClampNeg) (qr p0.toNatClampNeg) (fun _ => QO p0.toNatClampNeg) qf7 (QA p0.toNatClampNeg) (fun _ _ => none)] := hw
    refine lv_iload S.x S.b d_Mo_rawCall_289 (lv_at hl 1 rfl) ?_
    refine lv_if_eq (tgt := 341) S.x S.b d_Mo_rawCall_291 (by decide) (fun c24 => ?_) (fun c24 => ?_)
    · exact absurd c24 (by decide)
    ·
      refine lv_aload_n S.x S.b d_Mo_rawCall_294 rfl (lv_at hl 4 rfl) ?_
      refine px_calli (pr := [wd_Mo cs mo mr (fun _ => none) mf md (gMo PG hq), fm 8 (fPg cs PG), fo 13 (fPr cs hq qr QO QF QA) p0.toNatClampNeg]) (px_runV (As := []) (rest := []) S (c_mq_isGoing l D cs (hq p0.toNatClampNeg) (qr p0.toNatClampNeg) (fun _ _ => none) (fun _ => QO p0.toNatClampNeg) qf7 (QA p0.toNatClampNeg)    _) hT (pr := [wd_Mo cs mo mr (fun _ => none) mf md (gMo PG hq), fm 8 (fPg cs PG), fo 13 (fPr cs hq qr QO QF QA) p0.toNatClampNeg]) (pcs := [wd_Mpr cs (hq p0.toNatClampNeg) (qr p0.toNatClampNeg) (fun _ => QO p0.toNatClampNeg) qf7 (QA p0.toNatClampNeg) (fun _ _ => none)]) hw px_X.tt (px_recv hT hw 3 0 rfl rfl rfl) m13_165 m13_162 m13_163 m13_164 m1_22 q_Mpr_isGoing ⟨Nat.le_of_ble_eq_true rfl, Nat.le_of_ble_eq_true rfl⟩ hl.1 rfl (Nat.le_of_ble_eq_true rfl) d_Mo_rawCall_295 ⟨Nat.le_of_ble_eq_true rfl, Nat.le_of_ble_eq_true rfl⟩) hw hA (fun v26 p25 H locs hp25 hw => ?_)
      obtain ⟨rfl, e27, e28, e29, e30, e31⟩ := hp25
      have e27 : 0 ≤ v26.toInt := e27
      have e28 : v26.toInt ≤ 1 := e28
      have e29 : v26.toInt = 1 → (qf7 1).toInt ≠ 0 := e29
      have e30 : v26.toInt = 1 → (qf7 2).toInt = -2 := e30
      have e31 : (qf7 1).toInt ≠ 0 → (qf7 2).toInt = -2 → v26.toInt = 1 := e31
      have hw : pw D A s.heap H locs [wd_Mo cs mo mr (fun _ => none) mf md (gMo PG hq), fm 8 (fPg cs PG), fo 13 (fPr cs hq qr QO QF QA) p0.toNatClampNeg, wd_Mpr cs (hq p0.toNatClampNeg) (qr p0.toNatClampNeg) (fun _ => QO p0.toNatClampNeg) qf7 (QA p0.toNatClampNeg) (fun _ _ => none)] := hw
      have lv26 := Int32.le_toInt v26
      have uv26 := Int32.toInt_lt v26
      refine lv_if_eq (tgt := 341) S.x S.b d_Mo_rawCall_298 (by decide) (fun c32 => ?_) (fun c32 => ?_)
      · have nc32 : v26.toInt = (0 : Int) := (i_eq (x := v26) (y := 0)).mp c32
        refine lv_iload S.x S.b d_Mo_rawCall_341 (lv_at hl 1 rfl) ?_
        have hw := fpr_in (pr := [wd_Mo cs mo mr (fun _ => none) mf md (gMo PG hq), fm 8 (fPg cs PG)]) hw hi1
        obtain ⟨QO34, hu_QO34⟩ : ∃ y : Nat → Option Nat, y = va_up QO p0.toNatClampNeg ((fun _ => QO p0.toNatClampNeg) 0) := ⟨_, rfl⟩
        obtain ⟨QF35, hu_QF35⟩ : ∃ y : Nat → Nat → Int32, y = va_up QF p0.toNatClampNeg qf7 := ⟨_, rfl⟩
        obtain ⟨QA36, hu_QA36⟩ : ∃ y : Nat → Nat → Nat → Int32, y = va_up QA p0.toNatClampNeg (QA p0.toNatClampNeg) := ⟨_, rfl⟩
        have hw : pw D A s.heap _ _ [wd_Mo cs mo mr (fun _ => none) mf md (gMo PG hq), fm 8 (fPg cs PG), fm 13 (fPr cs hq qr QO34 QF35 QA36)] := (by rw [hu_QO34, hu_QF35, hu_QA36]; exact hw)
        have hpr : PrA PG RR QO34 QF35 QA36 := (by rw [hu_QO34, hu_QF35, hu_QA36]; exact PrA.up hpr (psr_raw (j := j9) hj9 hqo h66 (show (0 ≤ (qf7 1).toInt ∧ (qf7 1).toInt ≤ 1) ∧ (0 ≤ (qf7 21).toInt ∧ (qf7 21).toInt ≤ 4) ∧ (0 ≤ (qf7 23).toInt ∧ (qf7 23).toInt ≤ 4) ∧ (0 ≤ (qf7 24).toInt ∧ (qf7 24).toInt ≤ 1000000) ∧ (0 ≤ (qf7 6).toInt ∧ (qf7 6).toInt ≤ 3) ∧ (0 ≤ (qf7 7).toInt ∧ (qf7 7).toInt ≤ 1) from by omega) (show (qf7 1).toInt = 1 from by first | exact oz_e863b17997 e11 g6 | omega) (show 0 ≤ (qf7 4).toInt ∧ (qf7 4).toInt + 1 ≤ RR p0.toNatClampNeg ∧ (qf7 24).toInt + (qf7 4).toInt ≤ 1600 from by omega)) (show (qf7 1).toInt = (QF p0.toNatClampNeg 1).toInt from by first | exact oz_1811ac7fe4 e11 | omega) (show (QF p0.toNatClampNeg 6).toInt ≤ (qf7 6).toInt from by first | exact oz_f9b42d1b56 e14 | omega))
        have hqo : OqE (QO34 p0.toNatClampNeg) (PG j9).h := (by rw [hu_QO34, va_up_s]; exact hqo)
        have hkw : KpW QO QF QO34 QF35 p0.toNatClampNeg := ⟨hqo.trans hqoE.symm, (by rw [hu_QF35, va_up_s]; exact (show ((qf7 1).toInt = (QF p0.toNatClampNeg 1).toInt ∧ (qf7 4).toInt = (QF p0.toNatClampNeg 4).toInt ∧ (qf7 5).toInt = (QF p0.toNatClampNeg 5).toInt ∧ (qf7 7).toInt = (QF p0.toNatClampNeg 7).toInt ∧ (qf7 10).toInt = (QF p0.toNatClampNeg 10).toInt ∧ (qf7 11).toInt = (QF p0.toNatClampNeg 11).toInt) ∧ (qf7 12).toInt = (QF p0.toNatClampNeg 12).toInt ∧ (qf7 13).toInt = (QF p0.toNatClampNeg 13).toInt ∧ (qf7 14).toInt = (QF p0.toNatClampNeg 14).toInt ∧ (qf7 24).toInt = (QF p0.toNatClampNeg 24).toInt from by omega))⟩
        have hqk1_QF35 : (QF35 p0.toNatClampNeg 1).toInt = (qf7 1).toInt := (by rw [hu_QF35, va_up_s]; try rfl)
        have hqk2_QF35 : (QF35 p0.toNatClampNeg 2).toInt = (qf7 2).toInt := (by rw [hu_QF35, va_up_s]; try rfl)
        have hqk4_QF35 : (QF35 p0.toNatClampNeg 4).toInt = (qf7 4).toInt := (by rw [hu_QF35, va_up_s]; try rfl)
        have hqk24_QF35 : (QF35 p0.toNatClampNeg 24).toInt = (qf7 24).toInt := (by rw [hu_QF35, va_up_s]; try rfl)
        have hw : pw D A s.heap _ _ [wd_Mo cs mo mr (fun _ => none) mf md (gMo PG hq), fm 13 (fPr cs hq qr QO34 QF35 QA36), fm 8 (fPg cs PG)] := hw.sub [0, 2, 1] rfl rfl
        exact px_iret (v := 1) S hr rfl hlk hAe hw (Nat.le_of_ble_eq_true rfl) (Nat.le_of_ble_eq_true rfl) (⟨mf, md, QO34, QF35, QA36, rfl, (show 0 ≤ (1 : Int) from by first | exact oz_19c3a41681 | omega), (show (1 : Int) ≤ 1 from by first | exact oz_f9181dc4bb | omega), (show PrA PG (va_up RR p0.toNatClampNeg (RR p0.toNatClampNeg - (1 : Int))) QO34 QF35 QA36 from (hpr.low (by omega) (by omega) (by omega) (by have q9 := cl_nat (x := p0) (by first | exact g0 | omega); omega))), (show (mf 0).toInt = (mf 0).toInt from rfl), (show (mf 2).toInt = (mf 2).toInt from rfl), (show (mf 3).toInt = (mf 3).toInt from rfl), (show (mf 7).toInt = (mf 7).toInt from rfl), (show (mf 8).toInt = (mf 8).toInt from rfl), (show (mf 10).toInt = (mf 10).toInt from rfl), (show Md1 md md from hmdq)⟩) d_Mo_rawCall_343
      · have nc32 : ¬ v26.toInt = (0 : Int) := mt (i_eq (x := v26) (y := 0)).mpr c32
        refine lv_aload_n S.x S.b d_Mo_rawCall_301 rfl (lv_at hl 4 rfl) ?_
        refine px_get S k_Mpr hT hw 3 0 19 (v := .ref ((qr p0.toNatClampNeg) 19)) rfl rfl rfl (by decide) m11_12 d_Mo_rawCall_302 ?_
        refine lv_bipush (v := 10) S.x S.b d_Mo_rawCall_305 (by decide) ?_
        refine lv_iload S.x S.b d_Mo_rawCall_307 (lv_at hl 0 rfl) ?_
        refine lv_if_eq (tgt := 319) S.x S.b d_Mo_rawCall_309 (by decide) (fun c37 => ?_) (fun c37 => ?_)
        ·
          refine lv_iload_n S.x S.b d_Mo_rawCall_319 rfl (lv_at hl 3 rfl) ?_
          refine px_iast S hT hw 3 7 (n := 32) (f := ((QA p0.toNatClampNeg) 19)) (x := 10) (y := z2) rfl (ga_Mpr_19 _ _ _ _ _ _ _) (vp_in_iff.mpr (by constructor <;> omega)) d_Mo_rawCall_320 (w' := wd_Mpr cs (hq p0.toNatClampNeg) (qr p0.toNatClampNeg) (fun _ => QO p0.toNatClampNeg) qf7 (va_up (QA p0.toNatClampNeg) 19 (upd ((QA p0.toNatClampNeg) 19) (10 : Int32).toNatClampNeg z2)) (fun _ _ => none)) (ps' := [wd_Mo cs mo mr (fun _ => none) mf md (gMo PG hq), fm 8 (fPg cs PG), fo 13 (fPr cs hq qr QO QF QA) p0.toNatClampNeg, wd_Mpr cs (hq p0.toNatClampNeg) (qr p0.toNatClampNeg) (fun _ => QO p0.toNatClampNeg) qf7 (va_up (QA p0.toNatClampNeg) 19 (upd ((QA p0.toNatClampNeg) 19) (10 : Int32).toNatClampNeg z2)) (fun _ _ => none)]) (sa_Mpr_19 _ _ _ _ _ _ _ _) rfl (fun H locs hw => ?_)
          refine lv_aload_n S.x S.b d_Mo_rawCall_321 rfl (lv_at hl 4 rfl) ?_
          refine lv_aload_n S.x S.b d_Mo_rawCall_322 rfl (lv_at hl 4 rfl) ?_
          refine px_get S k_Mpr hT hw 3 0 11 (v := .int (qf7 11)) rfl rfl rfl (by decide) m11_3 d_Mo_rawCall_323 ?_
          refine lv_iconst (v := 4) S.x S.b d_Mo_rawCall_326 (by decide) ?_
          refine lv_iadd S.x S.b d_Mo_rawCall_327 ?_
          have lr38 := Int32.le_toInt (qf7 11)
          have ur38 := Int32.toInt_lt (qf7 11)
          refine lv_topi (fun z39 ez39 => ?_)
          have tz39 : z39.toInt = ((qf7 11).toInt + (4 : Int) + 2147483648) % 4294967296 - 2147483648 := by rw [ez39]; exact i_add (qf7 11) 4
          have lz39 := Int32.le_toInt z39
          have uz39 := Int32.toInt_lt z39
          try replace tz39 : z39.toInt = (qf7 11).toInt + (4 : Int) := by omega
          refine px_put S k_Mpr hT hw 3 0 11 rfl rfl (by decide) m11_3 rfl rfl rfl (Nat.le_of_ble_eq_true rfl) d_Mo_rawCall_328 (w' := wd_Mpr cs (hq p0.toNatClampNeg) (qr p0.toNatClampNeg) (fun _ => QO p0.toNatClampNeg) (upd qf7 11 z39) (va_up (QA p0.toNatClampNeg) 19 (upd ((QA p0.toNatClampNeg) 19) (10 : Int32).toNatClampNeg z2)) (fun _ _ => none)) (ps' := [wd_Mo cs mo mr (fun _ => none) mf md (gMo PG hq), fm 8 (fPg cs PG), fo 13 (fPr cs hq qr QO QF QA) p0.toNatClampNeg, wd_Mpr cs (hq p0.toNatClampNeg) (qr p0.toNatClampNeg) (fun _ => QO p0.toNatClampNeg) (upd qf7 11 z39) (va_up (QA p0.toNatClampNeg) 19 (upd ((QA p0.toNatClampNeg) 19) (10 : Int32).toNatClampNeg z2)) (fun _ _ => none)]) rfl rfl (fun H locs hw => ?_)
          refine lv_aload_n S.x S.b d_Mo_rawCall_331 rfl (lv_at hl 4 rfl) ?_
          refine lv_dup S.x S.b d_Mo_rawCall_332 rfl ?_
          refine px_get S k_Mpr hT hw 3 0 4 (v := .int (qf7 4)) rfl rfl rfl (by decide) m10_230 d_Mo_rawCall_333 ?_
          refine lv_iconst (v := 1) S.x S.b d_Mo_rawCall_336 (by decide) ?_
          refine lv_isub S.x S.b d_Mo_rawCall_337 ?_
          have lr40 := Int32.le_toInt (qf7 4)
          have ur40 := Int32.toInt_lt (qf7 4)
          refine lv_topi (fun z41 ez41 => ?_)
          have tz41 : z41.toInt = ((qf7 4).toInt - (1 : Int) + 2147483648) % 4294967296 - 2147483648 := by rw [ez41]; exact i_sub (qf7 4) 1
          have lz41 := Int32.le_toInt z41
          have uz41 := Int32.toInt_lt z41
          try replace tz41 : z41.toInt = (qf7 4).toInt - (1 : Int) := by omega
          refine px_put S k_Mpr hT hw 3 0 4 rfl rfl (by decide) m10_230 rfl rfl rfl (Nat.le_of_ble_eq_true rfl) d_Mo_rawCall_338 (w' := wd_Mpr cs (hq p0.toNatClampNeg) (qr p0.toNatClampNeg) (fun _ => QO p0.toNatClampNeg) (upd (upd qf7 4 z41) 11 z39) (va_up (QA p0.toNatClampNeg) 19 (upd ((QA p0.toNatClampNeg) 19) (10 : Int32).toNatClampNeg z2)) (fun _ _ => none)) (ps' := [wd_Mo cs mo mr (fun _ => none) mf md (gMo PG hq), fm 8 (fPg cs PG), fo 13 (fPr cs hq qr QO QF QA) p0.toNatClampNeg, wd_Mpr cs (hq p0.toNatClampNeg) (qr p0.toNatClampNeg) (fun _ => QO p0.toNatClampNeg) (upd (upd qf7 4 z41) 11 z39) (va_up (QA p0.toNatClampNeg) 19 (upd ((QA p0.toNatClampNeg) 19) (10 : Int32).toNatClampNeg z2)) (fun _ _ => none)]) rfl rfl (fun H locs hw => ?_)
          refine lv_iload S.x S.b d_Mo_rawCall_341 (lv_at hl 1 rfl) ?_
          have hw := fpr_in (pr := [wd_Mo cs mo mr (fun _ => none) mf md (gMo PG hq), fm 8 (fPg cs PG)]) hw hi1
          obtain ⟨QO42, hu_QO42⟩ : ∃ y : Nat → Option Nat, y = va_up QO p0.toNatClampNeg ((fun _ => QO p0.toNatClampNeg) 0) := ⟨_, rfl⟩
          obtain ⟨QF43, hu_QF43⟩ : ∃ y : Nat → Nat → Int32, y = va_up QF p0.toNatClampNeg (upd (upd qf7 4 z41) 11 z39) := ⟨_, rfl⟩
          obtain ⟨QA44, hu_QA44⟩ : ∃ y : Nat → Nat → Nat → Int32, y = va_up QA p0.toNatClampNeg (va_up (QA p0.toNatClampNeg) 19 (upd ((QA p0.toNatClampNeg) 19) (10 : Int32).toNatClampNeg z2)) := ⟨_, rfl⟩
          have hw : pw D A s.heap _ _ [wd_Mo cs mo mr (fun _ => none) mf md (gMo PG hq), fm 8 (fPg cs PG), fm 13 (fPr cs hq qr QO42 QF43 QA44)] := (by rw [hu_QO42, hu_QF43, hu_QA44]; exact hw)
          have hpr : PrA PG (va_up RR p0.toNatClampNeg (RR p0.toNatClampNeg - (1 : Int))) QO42 QF43 QA44 := (by rw [hu_QO42, hu_QF43, hu_QA44]; exact PrA.upR hpr (psr_raw (j := j9) hj9 hqo h66 (show (0 ≤ (qf7 1).toInt ∧ (qf7 1).toInt ≤ 1) ∧ (0 ≤ (qf7 21).toInt ∧ (qf7 21).toInt ≤ 4) ∧ (0 ≤ (qf7 23).toInt ∧ (qf7 23).toInt ≤ 4) ∧ (0 ≤ (qf7 24).toInt ∧ (qf7 24).toInt ≤ 1000000) ∧ (0 ≤ (qf7 6).toInt ∧ (qf7 6).toInt ≤ 3) ∧ (0 ≤ (qf7 7).toInt ∧ (qf7 7).toInt ≤ 1) from by omega) (show (qf7 1).toInt = 1 from by first | exact oz_e863b17997 e11 g6 | omega) (show 0 ≤ z41.toInt ∧ z41.toInt + 1 ≤ RR p0.toNatClampNeg - (1 : Int) ∧ (qf7 24).toInt + z41.toInt ≤ 1600 from by omega)) (show (qf7 1).toInt = (QF p0.toNatClampNeg 1).toInt from by first | exact oz_1811ac7fe4 e11 | omega) (show (QF p0.toNatClampNeg 6).toInt ≤ (qf7 6).toInt from by first | exact oz_f9b42d1b56 e14 | omega))
          have hqo : OqE (QO42 p0.toNatClampNeg) (PG j9).h := (by rw [hu_QO42, va_up_s]; exact hqo)
          have hqk1_QF43 : (QF43 p0.toNatClampNeg 1).toInt = (qf7 1).toInt := (by rw [hu_QF43, va_up_s]; try rfl)
          have hqk2_QF43 : (QF43 p0.toNatClampNeg 2).toInt = (qf7 2).toInt := (by rw [hu_QF43, va_up_s]; try rfl)
          have hqk4_QF43 : (QF43 p0.toNatClampNeg 4).toInt = z41.toInt := (by rw [hu_QF43, va_up_s]; try rfl)
          have hqk24_QF43 : (QF43 p0.toNatClampNeg 24).toInt = (qf7 24).toInt := (by rw [hu_QF43, va_up_s]; try rfl)
          have hw : pw D A s.heap _ _ [wd_Mo cs mo mr (fun _ => none) mf md (gMo PG hq), fm 13 (fPr cs hq qr QO42 QF43 QA44), fm 8 (fPg cs PG)] := hw.sub [0, 2, 1] rfl rfl
          exact px_iret (v := 1) S hr rfl hlk hAe hw (Nat.le_of_ble_eq_true rfl) (Nat.le_of_ble_eq_true rfl) (⟨mf, md, QO42, QF43, QA44, rfl, (show 0 ≤ (1 : Int) from by first | exact oz_19c3a41681 | omega), (show (1 : Int) ≤ 1 from by first | exact oz_f9181dc4bb | omega), (show PrA PG (va_up RR p0.toNatClampNeg (RR p0.toNatClampNeg - (1 : Int))) QO42 QF43 QA44 from hpr), (show (mf 0).toInt = (mf 0).toInt from rfl), (show (mf 2).toInt = (mf 2).toInt from rfl), (show (mf 3).toInt = (mf 3).toInt from rfl), (show (mf 7).toInt = (mf 7).toInt from rfl), (show (mf 8).toInt = (mf 8).toInt from rfl), (show (mf 10).toInt = (mf 10).toInt from rfl), (show Md1 md md from hmdq)⟩) d_Mo_rawCall_343
        · exact absurd c37 (by decide)
  · refine List.forall_mem_cons.mpr ⟨fun c45 => ?_, List.forall_mem_cons.mpr ⟨fun c45 => ?_, List.forall_mem_cons.mpr ⟨fun c45 => ?_, List.forall_mem_cons.mpr ⟨fun c45 => ?_, List.forall_mem_cons.mpr ⟨fun c45 => ?_, List.forall_mem_cons.mpr ⟨fun c45 => ?_, List.forall_mem_cons.mpr ⟨fun c45 => ?_, List.forall_mem_cons.mpr ⟨fun c45 => ?_, List.forall_mem_cons.mpr ⟨fun c45 => ?_, List.forall_mem_cons.mpr ⟨fun c45 => ?_, List.forall_mem_cons.mpr ⟨fun c45 => ?_, fun _ h => absurd h List.not_mem_nil⟩⟩⟩⟩⟩⟩⟩⟩⟩⟩⟩
    · simp only [List.mem_cons, List.not_mem_nil, or_false] at c45
      refine lv_aload_n S.x S.b d_Mo_rawCall_132 rfl (lv_at hl 4 rfl) ?_
      refine lv_iconst (v := 0) S.x S.b d_Mo_rawCall_133 (by decide) ?_
      refine lv_iload_n S.x S.b d_Mo_rawCall_134 rfl (lv_at hl 3 rfl) ?_
      refine px_callv (pr := [wd_Mo cs mo mr (fun _ => none) mf md (gMo PG hq), fm 8 (fPg cs PG), fo 13 (fPr cs hq qr QO QF QA) p0.toNatClampNeg]) (px_runV (As := [.int 0, .int z2]) (rest := []) S (c_mq_end l D cs (hq p0.toNatClampNeg) (qr p0.toNatClampNeg) (fun _ _ => none) (fun _ => QO p0.toNatClampNeg) (QA p0.toNatClampNeg) (QF p0.toNatClampNeg) 0 z2   _) hT (pr := [wd_Mo cs mo mr (fun _ => none) mf md (gMo PG hq), fm 8 (fPg cs PG), fo 13 (fPr cs hq qr QO QF QA) p0.toNatClampNeg]) (pcs := [wd_Mpr cs (hq p0.toNatClampNeg) (qr p0.toNatClampNeg) (fun _ => QO p0.toNatClampNeg) (QF p0.toNatClampNeg) (QA p0.toNatClampNeg) (fun _ _ => none)]) hw px_X.tt (px_recv hT hw 3 0 rfl rfl rfl) m13_177 m14_35 m13_175 m13_176 m1_22 q_Mpr_end ⟨Nat.le_of_ble_eq_true rfl, Nat.le_of_ble_eq_true rfl⟩ hl.1 rfl (Nat.le_of_ble_eq_true rfl) d_Mo_rawCall_135 ⟨Nat.le_of_ble_eq_true rfl, Nat.le_of_ble_eq_true rfl⟩) hw hA (fun p48 H locs hp48 hw => ?_)
      obtain ⟨qf47, rfl, e50, e51, e52, e53, e54, e55, e56, e57, e58, e59, e60, e61, e62, e63⟩ := hp48
      have e50 : (qf47 2).toInt = (0 : Int) := e50
      have e51 : (qf47 1).toInt = ((QF p0.toNatClampNeg) 1).toInt := e51
      have e52 : (qf47 4).toInt = ((QF p0.toNatClampNeg) 4).toInt := e52
      have e53 : (qf47 5).toInt = ((QF p0.toNatClampNeg) 5).toInt := e53
      have e54 : (qf47 6).toInt = ((QF p0.toNatClampNeg) 6).toInt := e54
      have e55 : (qf47 7).toInt = ((QF p0.toNatClampNeg) 7).toInt := e55
      have e56 : (qf47 10).toInt = ((QF p0.toNatClampNeg) 10).toInt := e56
      have e57 : (qf47 11).toInt = ((QF p0.toNatClampNeg) 11).toInt := e57
      have e58 : (qf47 12).toInt = ((QF p0.toNatClampNeg) 12).toInt := e58
      have e59 : (qf47 13).toInt = ((QF p0.toNatClampNeg) 13).toInt := e59
      have e60 : (qf47 14).toInt = ((QF p0.toNatClampNeg) 14).toInt := e60
      have e61 : (qf47 21).toInt = ((QF p0.toNatClampNeg) 21).toInt := e61
      have e62 : (qf47 23).toInt = ((QF p0.toNatClampNeg) 23).toInt := e62
      have e63 : (qf47 24).toInt = ((QF p0.toNatClampNeg) 24).toInt := e63
      have hw : pw D A s.heap H locs [wd_Mo cs mo mr (fun _ => none) mf md (gMo PG hq), fm 8 (fPg cs PG), fo 13 (fPr cs hq qr QO QF QA) p0.toNatClampNeg, wd_Mpr cs (hq p0.toNatClampNeg) (qr p0.toNatClampNeg) (fun _ => QO p0.toNatClampNeg) qf47 (QA p0.toNatClampNeg) (fun _ _ => none)] := hw
      refine lv_goto (tgt := 289) S.x S.b d_Mo_rawCall_138 (by decide) ?_
      refine lv_iload S.x S.b d_Mo_rawCall_289 (lv_at hl 1 rfl) ?_
      refine lv_if_eq (tgt := 341) S.x S.b d_Mo_rawCall_291 (by decide) (fun c64 => ?_) (fun c64 => ?_)
      · exact absurd c64 (by decide)
      ·
        refine lv_aload_n S.x S.b d_Mo_rawCall_294 rfl (lv_at hl 4 rfl) ?_
        refine px_calli (pr := [wd_Mo cs mo mr (fun _ => none) mf md (gMo PG hq), fm 8 (fPg cs PG), fo 13 (fPr cs hq qr QO QF QA) p0.toNatClampNeg]) (px_runV (As := []) (rest := []) S (c_mq_isGoing l D cs (hq p0.toNatClampNeg) (qr p0.toNatClampNeg) (fun _ _ => none) (fun _ => QO p0.toNatClampNeg) qf47 (QA p0.toNatClampNeg)    _) hT (pr := [wd_Mo cs mo mr (fun _ => none) mf md (gMo PG hq), fm 8 (fPg cs PG), fo 13 (fPr cs hq qr QO QF QA) p0.toNatClampNeg]) (pcs := [wd_Mpr cs (hq p0.toNatClampNeg) (qr p0.toNatClampNeg) (fun _ => QO p0.toNatClampNeg) qf47 (QA p0.toNatClampNeg) (fun _ _ => none)]) hw px_X.tt (px_recv hT hw 3 0 rfl rfl rfl) m13_165 m13_162 m13_163 m13_164 m1_22 q_Mpr_isGoing ⟨Nat.le_of_ble_eq_true rfl, Nat.le_of_ble_eq_true rfl⟩ hl.1 rfl (Nat.le_of_ble_eq_true rfl) d_Mo_rawCall_295 ⟨Nat.le_of_ble_eq_true rfl, Nat.le_of_ble_eq_true rfl⟩) hw hA (fun v66 p65 H locs hp65 hw => ?_)
        obtain ⟨rfl, e67, e68, e69, e70, e71⟩ := hp65
        have e67 : 0 ≤ v66.toInt := e67
        have e68 : v66.toInt ≤ 1 := e68
        have e69 : v66.toInt = 1 → (qf47 1).toInt ≠ 0 := e69
        have e70 : v66.toInt = 1 → (qf47 2).toInt = -2 := e70
        have e71 : (qf47 1).toInt ≠ 0 → (qf47 2).toInt = -2 → v66.toInt = 1 := e71
        have hw : pw D A s.heap H locs [wd_Mo cs mo mr (fun _ => none) mf md (gMo PG hq), fm 8 (fPg cs PG), fo 13 (fPr cs hq qr QO QF QA) p0.toNatClampNeg, wd_Mpr cs (hq p0.toNatClampNeg) (qr p0.toNatClampNeg) (fun _ => QO p0.toNatClampNeg) qf47 (QA p0.toNatClampNeg) (fun _ _ => none)] := hw
        have lv66 := Int32.le_toInt v66
        have uv66 := Int32.toInt_lt v66
        refine lv_if_eq (tgt := 341) S.x S.b d_Mo_rawCall_298 (by decide) (fun c72 => ?_) (fun c72 => ?_)
        · have nc72 : v66.toInt = (0 : Int) := (i_eq (x := v66) (y := 0)).mp c72
          refine lv_iload S.x S.b d_Mo_rawCall_341 (lv_at hl 1 rfl) ?_
          have hw := fpr_in (pr := [wd_Mo cs mo mr (fun _ => none) mf md (gMo PG hq), fm 8 (fPg cs PG)]) hw hi1
          obtain ⟨QO74, hu_QO74⟩ : ∃ y : Nat → Option Nat, y = va_up QO p0.toNatClampNeg ((fun _ => QO p0.toNatClampNeg) 0) := ⟨_, rfl⟩
          obtain ⟨QF75, hu_QF75⟩ : ∃ y : Nat → Nat → Int32, y = va_up QF p0.toNatClampNeg qf47 := ⟨_, rfl⟩
          obtain ⟨QA76, hu_QA76⟩ : ∃ y : Nat → Nat → Nat → Int32, y = va_up QA p0.toNatClampNeg (QA p0.toNatClampNeg) := ⟨_, rfl⟩
          have hw : pw D A s.heap _ _ [wd_Mo cs mo mr (fun _ => none) mf md (gMo PG hq), fm 8 (fPg cs PG), fm 13 (fPr cs hq qr QO74 QF75 QA76)] := (by rw [hu_QO74, hu_QF75, hu_QA76]; exact hw)
          have hpr : PrA PG RR QO74 QF75 QA76 := (by rw [hu_QO74, hu_QF75, hu_QA76]; exact PrA.up hpr (psr_raw (j := j9) hj9 hqo h66 (show (0 ≤ (qf47 1).toInt ∧ (qf47 1).toInt ≤ 1) ∧ (0 ≤ (qf47 21).toInt ∧ (qf47 21).toInt ≤ 4) ∧ (0 ≤ (qf47 23).toInt ∧ (qf47 23).toInt ≤ 4) ∧ (0 ≤ (qf47 24).toInt ∧ (qf47 24).toInt ≤ 1000000) ∧ (0 ≤ (qf47 6).toInt ∧ (qf47 6).toInt ≤ 3) ∧ (0 ≤ (qf47 7).toInt ∧ (qf47 7).toInt ≤ 1) from by omega) (show (qf47 1).toInt = 1 from by first | exact oz_e863b17997 e51 g6 | omega) (show 0 ≤ (qf47 4).toInt ∧ (qf47 4).toInt + 1 ≤ RR p0.toNatClampNeg ∧ (qf47 24).toInt + (qf47 4).toInt ≤ 1600 from by omega)) (show (qf47 1).toInt = (QF p0.toNatClampNeg 1).toInt from by first | exact oz_1811ac7fe4 e51 | omega) (show (QF p0.toNatClampNeg 6).toInt ≤ (qf47 6).toInt from by first | exact oz_f9b42d1b56 e54 | omega))
          have hqo : OqE (QO74 p0.toNatClampNeg) (PG j9).h := (by rw [hu_QO74, va_up_s]; exact hqo)
          have hkw : KpW QO QF QO74 QF75 p0.toNatClampNeg := ⟨hqo.trans hqoE.symm, (by rw [hu_QF75, va_up_s]; exact (show ((qf47 1).toInt = (QF p0.toNatClampNeg 1).toInt ∧ (qf47 4).toInt = (QF p0.toNatClampNeg 4).toInt ∧ (qf47 5).toInt = (QF p0.toNatClampNeg 5).toInt ∧ (qf47 7).toInt = (QF p0.toNatClampNeg 7).toInt ∧ (qf47 10).toInt = (QF p0.toNatClampNeg 10).toInt ∧ (qf47 11).toInt = (QF p0.toNatClampNeg 11).toInt) ∧ (qf47 12).toInt = (QF p0.toNatClampNeg 12).toInt ∧ (qf47 13).toInt = (QF p0.toNatClampNeg 13).toInt ∧ (qf47 14).toInt = (QF p0.toNatClampNeg 14).toInt ∧ (qf47 24).toInt = (QF p0.toNatClampNeg 24).toInt from by omega))⟩
          have hqk1_QF75 : (QF75 p0.toNatClampNeg 1).toInt = (qf47 1).toInt := (by rw [hu_QF75, va_up_s]; try rfl)
          have hqk2_QF75 : (QF75 p0.toNatClampNeg 2).toInt = (qf47 2).toInt := (by rw [hu_QF75, va_up_s]; try rfl)
          have hqk4_QF75 : (QF75 p0.toNatClampNeg 4).toInt = (qf47 4).toInt := (by rw [hu_QF75, va_up_s]; try rfl)
          have hqk24_QF75 : (QF75 p0.toNatClampNeg 24).toInt = (qf47 24).toInt := (by rw [hu_QF75, va_up_s]; try rfl)
          have hw : pw D A s.heap _ _ [wd_Mo cs mo mr (fun _ => none) mf md (gMo PG hq), fm 13 (fPr cs hq qr QO74 QF75 QA76), fm 8 (fPg cs PG)] := hw.sub [0, 2, 1] rfl rfl
          exact px_iret (v := 1) S hr rfl hlk hAe hw (Nat.le_of_ble_eq_true rfl) (Nat.le_of_ble_eq_true rfl) (⟨mf, md, QO74, QF75, QA76, rfl, (show 0 ≤ (1 : Int) from by first | exact oz_19c3a41681 | omega), (show (1 : Int) ≤ 1 from by first | exact oz_f9181dc4bb | omega), (show PrA PG (va_up RR p0.toNatClampNeg (RR p0.toNatClampNeg - (1 : Int))) QO74 QF75 QA76 from (hpr.low (by omega) (by omega) (by omega) (by have q9 := cl_nat (x := p0) (by first | exact g0 | omega); omega))), (show (mf 0).toInt = (mf 0).toInt from rfl), (show (mf 2).toInt = (mf 2).toInt from rfl), (show (mf 3).toInt = (mf 3).toInt from rfl), (show (mf 7).toInt = (mf 7).toInt from rfl), (show (mf 8).toInt = (mf 8).toInt from rfl), (show (mf 10).toInt = (mf 10).toInt from rfl), (show Md1 md md from hmdq)⟩) d_Mo_rawCall_343
        · have nc72 : ¬ v66.toInt = (0 : Int) := mt (i_eq (x := v66) (y := 0)).mpr c72
          refine lv_aload_n S.x S.b d_Mo_rawCall_301 rfl (lv_at hl 4 rfl) ?_
          refine px_get S k_Mpr hT hw 3 0 19 (v := .ref ((qr p0.toNatClampNeg) 19)) rfl rfl rfl (by decide) m11_12 d_Mo_rawCall_302 ?_
          refine lv_bipush (v := 10) S.x S.b d_Mo_rawCall_305 (by decide) ?_
          refine lv_iload S.x S.b d_Mo_rawCall_307 (lv_at hl 0 rfl) ?_
          refine lv_if_eq (tgt := 319) S.x S.b d_Mo_rawCall_309 (by decide) (fun c77 => ?_) (fun c77 => ?_)
          ·
            refine lv_iload_n S.x S.b d_Mo_rawCall_319 rfl (lv_at hl 3 rfl) ?_
            refine px_iast S hT hw 3 7 (n := 32) (f := ((QA p0.toNatClampNeg) 19)) (x := 10) (y := z2) rfl (ga_Mpr_19 _ _ _ _ _ _ _) (vp_in_iff.mpr (by constructor <;> omega)) d_Mo_rawCall_320 (w' := wd_Mpr cs (hq p0.toNatClampNeg) (qr p0.toNatClampNeg) (fun _ => QO p0.toNatClampNeg) qf47 (va_up (QA p0.toNatClampNeg) 19 (upd ((QA p0.toNatClampNeg) 19) (10 : Int32).toNatClampNeg z2)) (fun _ _ => none)) (ps' := [wd_Mo cs mo mr (fun _ => none) mf md (gMo PG hq), fm 8 (fPg cs PG), fo 13 (fPr cs hq qr QO QF QA) p0.toNatClampNeg, wd_Mpr cs (hq p0.toNatClampNeg) (qr p0.toNatClampNeg) (fun _ => QO p0.toNatClampNeg) qf47 (va_up (QA p0.toNatClampNeg) 19 (upd ((QA p0.toNatClampNeg) 19) (10 : Int32).toNatClampNeg z2)) (fun _ _ => none)]) (sa_Mpr_19 _ _ _ _ _ _ _ _) rfl (fun H locs hw => ?_)
            refine lv_aload_n S.x S.b d_Mo_rawCall_321 rfl (lv_at hl 4 rfl) ?_
            refine lv_aload_n S.x S.b d_Mo_rawCall_322 rfl (lv_at hl 4 rfl) ?_
            refine px_get S k_Mpr hT hw 3 0 11 (v := .int (qf47 11)) rfl rfl rfl (by decide) m11_3 d_Mo_rawCall_323 ?_
            refine lv_iconst (v := 4) S.x S.b d_Mo_rawCall_326 (by decide) ?_
            refine lv_iadd S.x S.b d_Mo_rawCall_327 ?_
            have lr78 := Int32.le_toInt (qf47 11)
            have ur78 := Int32.toInt_lt (qf47 11)
            refine lv_topi (fun z79 ez79 => ?_)
            have tz79 : z79.toInt = ((qf47 11).toInt + (4 : Int) + 2147483648) % 4294967296 - 2147483648 := by rw [ez79]; exact i_add (qf47 11) 4
            have lz79 := Int32.le_toInt z79
            have uz79 := Int32.toInt_lt z79
            try replace tz79 : z79.toInt = (qf47 11).toInt + (4 : Int) := by omega
            refine px_put S k_Mpr hT hw 3 0 11 rfl rfl (by decide) m11_3 rfl rfl rfl (Nat.le_of_ble_eq_true rfl) d_Mo_rawCall_328 (w' := wd_Mpr cs (hq p0.toNatClampNeg) (qr p0.toNatClampNeg) (fun _ => QO p0.toNatClampNeg) (upd qf47 11 z79) (va_up (QA p0.toNatClampNeg) 19 (upd ((QA p0.toNatClampNeg) 19) (10 : Int32).toNatClampNeg z2)) (fun _ _ => none)) (ps' := [wd_Mo cs mo mr (fun _ => none) mf md (gMo PG hq), fm 8 (fPg cs PG), fo 13 (fPr cs hq qr QO QF QA) p0.toNatClampNeg, wd_Mpr cs (hq p0.toNatClampNeg) (qr p0.toNatClampNeg) (fun _ => QO p0.toNatClampNeg) (upd qf47 11 z79) (va_up (QA p0.toNatClampNeg) 19 (upd ((QA p0.toNatClampNeg) 19) (10 : Int32).toNatClampNeg z2)) (fun _ _ => none)]) rfl rfl (fun H locs hw => ?_)
            refine lv_aload_n S.x S.b d_Mo_rawCall_331 rfl (lv_at hl 4 rfl) ?_
            refine lv_dup S.x S.b d_Mo_rawCall_332 rfl ?_
            refine px_get S k_Mpr hT hw 3 0 4 (v := .int (qf47 4)) rfl rfl rfl (by decide) m10_230 d_Mo_rawCall_333 ?_
            refine lv_iconst (v := 1) S.x S.b d_Mo_rawCall_336 (by decide) ?_
            refine lv_isub S.x S.b d_Mo_rawCall_337 ?_
            have lr80 := Int32.le_toInt (qf47 4)
            have ur80 := Int32.toInt_lt (qf47 4)
            refine lv_topi (fun z81 ez81 => ?_)
            have tz81 : z81.toInt = ((qf47 4).toInt - (1 : Int) + 2147483648) % 4294967296 - 2147483648 := by rw [ez81]; exact i_sub (qf47 4) 1
            have lz81 := Int32.le_toInt z81
            have uz81 := Int32.toInt_lt z81
            try replace tz81 : z81.toInt = (qf47 4).toInt - (1 : Int) := by omega
            refine px_put S k_Mpr hT hw 3 0 4 rfl rfl (by decide) m10_230 rfl rfl rfl (Nat.le_of_ble_eq_true rfl) d_Mo_rawCall_338 (w' := wd_Mpr cs (hq p0.toNatClampNeg) (qr p0.toNatClampNeg) (fun _ => QO p0.toNatClampNeg) (upd (upd qf47 4 z81) 11 z79) (va_up (QA p0.toNatClampNeg) 19 (upd ((QA p0.toNatClampNeg) 19) (10 : Int32).toNatClampNeg z2)) (fun _ _ => none)) (ps' := [wd_Mo cs mo mr (fun _ => none) mf md (gMo PG hq), fm 8 (fPg cs PG), fo 13 (fPr cs hq qr QO QF QA) p0.toNatClampNeg, wd_Mpr cs (hq p0.toNatClampNeg) (qr p0.toNatClampNeg) (fun _ => QO p0.toNatClampNeg) (upd (upd qf47 4 z81) 11 z79) (va_up (QA p0.toNatClampNeg) 19 (upd ((QA p0.toNatClampNeg) 19) (10 : Int32).toNatClampNeg z2)) (fun _ _ => none)]) rfl rfl (fun H locs hw => ?_)
            refine lv_iload S.x S.b d_Mo_rawCall_341 (lv_at hl 1 rfl) ?_
            have hw := fpr_in (pr := [wd_Mo cs mo mr (fun _ => none) mf md (gMo PG hq), fm 8 (fPg cs PG)]) hw hi1
            obtain ⟨QO82, hu_QO82⟩ : ∃ y : Nat → Option Nat, y = va_up QO p0.toNatClampNeg ((fun _ => QO p0.toNatClampNeg) 0) := ⟨_, rfl⟩
            obtain ⟨QF83, hu_QF83⟩ : ∃ y : Nat → Nat → Int32, y = va_up QF p0.toNatClampNeg (upd (upd qf47 4 z81) 11 z79) := ⟨_, rfl⟩
            obtain ⟨QA84, hu_QA84⟩ : ∃ y : Nat → Nat → Nat → Int32, y = va_up QA p0.toNatClampNeg (va_up (QA p0.toNatClampNeg) 19 (upd ((QA p0.toNatClampNeg) 19) (10 : Int32).toNatClampNeg z2)) := ⟨_, rfl⟩
            have hw : pw D A s.heap _ _ [wd_Mo cs mo mr (fun _ => none) mf md (gMo PG hq), fm 8 (fPg cs PG), fm 13 (fPr cs hq qr QO82 QF83 QA84)] := (by rw [hu_QO82, hu_QF83, hu_QA84]; exact hw)
            have hpr : PrA PG (va_up RR p0.toNatClampNeg (RR p0.toNatClampNeg - (1 : Int))) QO82 QF83 QA84 := (by rw [hu_QO82, hu_QF83, hu_QA84]; exact PrA.upR hpr (psr_raw (j := j9) hj9 hqo h66 (show (0 ≤ (qf47 1).toInt ∧ (qf47 1).toInt ≤ 1) ∧ (0 ≤ (qf47 21).toInt ∧ (qf47 21).toInt ≤ 4) ∧ (0 ≤ (qf47 23).toInt ∧ (qf47 23).toInt ≤ 4) ∧ (0 ≤ (qf47 24).toInt ∧ (qf47 24).toInt ≤ 1000000) ∧ (0 ≤ (qf47 6).toInt ∧ (qf47 6).toInt ≤ 3) ∧ (0 ≤ (qf47 7).toInt ∧ (qf47 7).toInt ≤ 1) from by omega) (show (qf47 1).toInt = 1 from by first | exact oz_e863b17997 e51 g6 | omega) (show 0 ≤ z81.toInt ∧ z81.toInt + 1 ≤ RR p0.toNatClampNeg - (1 : Int) ∧ (qf47 24).toInt + z81.toInt ≤ 1600 from by omega)) (show (qf47 1).toInt = (QF p0.toNatClampNeg 1).toInt from by first | exact oz_1811ac7fe4 e51 | omega) (show (QF p0.toNatClampNeg 6).toInt ≤ (qf47 6).toInt from by first | exact oz_f9b42d1b56 e54 | omega))
            have hqo : OqE (QO82 p0.toNatClampNeg) (PG j9).h := (by rw [hu_QO82, va_up_s]; exact hqo)
            have hqk1_QF83 : (QF83 p0.toNatClampNeg 1).toInt = (qf47 1).toInt := (by rw [hu_QF83, va_up_s]; try rfl)
            have hqk2_QF83 : (QF83 p0.toNatClampNeg 2).toInt = (qf47 2).toInt := (by rw [hu_QF83, va_up_s]; try rfl)
            have hqk4_QF83 : (QF83 p0.toNatClampNeg 4).toInt = z81.toInt := (by rw [hu_QF83, va_up_s]; try rfl)
            have hqk24_QF83 : (QF83 p0.toNatClampNeg 24).toInt = (qf47 24).toInt := (by rw [hu_QF83, va_up_s]; try rfl)
            have hw : pw D A s.heap _ _ [wd_Mo cs mo mr (fun _ => none) mf md (gMo PG hq), fm 13 (fPr cs hq qr QO82 QF83 QA84), fm 8 (fPg cs PG)] := hw.sub [0, 2, 1] rfl rfl
            exact px_iret (v := 1) S hr rfl hlk hAe hw (Nat.le_of_ble_eq_true rfl) (Nat.le_of_ble_eq_true rfl) (⟨mf, md, QO82, QF83, QA84, rfl, (show 0 ≤ (1 : Int) from by first | exact oz_19c3a41681 | omega), (show (1 : Int) ≤ 1 from by first | exact oz_f9181dc4bb | omega), (show PrA PG (va_up RR p0.toNatClampNeg (RR p0.toNatClampNeg - (1 : Int))) QO82 QF83 QA84 from hpr), (show (mf 0).toInt = (mf 0).toInt from rfl), (show (mf 2).toInt = (mf 2).toInt from rfl), (show (mf 3).toInt = (mf 3).toInt from rfl), (show (mf 7).toInt = (mf 7).toInt from rfl), (show (mf 8).toInt = (mf 8).toInt from rfl), (show (mf 10).toInt = (mf 10).toInt from rfl), (show Md1 md md from hmdq)⟩) d_Mo_rawCall_343
          · exact absurd c77 (by decide)
    · simp only [List.mem_cons, List.not_mem_nil, or_false] at c45
      refine lv_aload_n S.x S.b d_Mo_rawCall_141 rfl (lv_at hl 4 rfl) ?_
      refine lv_iload_n S.x S.b d_Mo_rawCall_142 rfl (lv_at hl 3 rfl) ?_
      refine px_callv (pr := [wd_Mo cs mo mr (fun _ => none) mf md (gMo PG hq), fm 8 (fPg cs PG), fo 13 (fPr cs hq qr QO QF QA) p0.toNatClampNeg]) (px_runV (As := [.int z2]) (rest := []) S (c_mq_write l D cs (hq p0.toNatClampNeg) (qr p0.toNatClampNeg) (fun _ _ => none) (fun _ => QO p0.toNatClampNeg) (QF p0.toNatClampNeg) (QA p0.toNatClampNeg) z2  (show 0 ≤ ((QF p0.toNatClampNeg) 24).toInt from by omega) (show ((QF p0.toNatClampNeg) 24).toInt ≤ 1000000 from by omega) _) hT (pr := [wd_Mo cs mo mr (fun _ => none) mf md (gMo PG hq), fm 8 (fPg cs PG), fo 13 (fPr cs hq qr QO QF QA) p0.toNatClampNeg]) (pcs := [wd_Mpr cs (hq p0.toNatClampNeg) (qr p0.toNatClampNeg) (fun _ => QO p0.toNatClampNeg) (QF p0.toNatClampNeg) (QA p0.toNatClampNeg) (fun _ _ => none)]) hw px_X.tt (px_recv hT hw 3 0 rfl rfl rfl) m14_39 m14_36 m14_37 m14_38 m1_22 q_Mpr_write ⟨Nat.le_of_ble_eq_true rfl, Nat.le_of_ble_eq_true rfl⟩ hl.1 rfl (Nat.le_of_ble_eq_true rfl) d_Mo_rawCall_143 ⟨Nat.le_of_ble_eq_true rfl, Nat.le_of_ble_eq_true rfl⟩) hw hA (fun p89 H locs hp89 hw => ?_)
      obtain ⟨qf87, qa88, rfl, e91, e92, e93, e94, e95, e96, e97, e98, e99, e100, e101, e102, e103, e104, e105, e106⟩ := hp89
      have e91 : (qf87 24).toInt = ((QF p0.toNatClampNeg) 24).toInt + 1 := e91
      have e92 : (qf87 1).toInt = ((QF p0.toNatClampNeg) 1).toInt := e92
      have e93 : (qf87 2).toInt = ((QF p0.toNatClampNeg) 2).toInt := e93
      have e94 : (qf87 3).toInt = ((QF p0.toNatClampNeg) 3).toInt := e94
      have e95 : (qf87 4).toInt = ((QF p0.toNatClampNeg) 4).toInt := e95
      have e96 : (qf87 5).toInt = ((QF p0.toNatClampNeg) 5).toInt := e96
      have e97 : (qf87 6).toInt = ((QF p0.toNatClampNeg) 6).toInt := e97
      have e98 : (qf87 7).toInt = ((QF p0.toNatClampNeg) 7).toInt := e98
      have e99 : (qf87 10).toInt = ((QF p0.toNatClampNeg) 10).toInt := e99
      have e100 : (qf87 11).toInt = ((QF p0.toNatClampNeg) 11).toInt := e100
      have e101 : (qf87 12).toInt = ((QF p0.toNatClampNeg) 12).toInt := e101
      have e102 : (qf87 13).toInt = ((QF p0.toNatClampNeg) 13).toInt := e102
      have e103 : (qf87 14).toInt = ((QF p0.toNatClampNeg) 14).toInt := e103
      have e104 : (qf87 21).toInt = ((QF p0.toNatClampNeg) 21).toInt := e104
      have e105 : (qf87 23).toInt = ((QF p0.toNatClampNeg) 23).toInt := e105
      have e106 : ∀ k9 : Nat, k9 ≠ 25 → qa88 k9 = (QA p0.toNatClampNeg) k9 := e106
      have haw := e106
      have hw : pw D A s.heap H locs [wd_Mo cs mo mr (fun _ => none) mf md (gMo PG hq), fm 8 (fPg cs PG), fo 13 (fPr cs hq qr QO QF QA) p0.toNatClampNeg, wd_Mpr cs (hq p0.toNatClampNeg) (qr p0.toNatClampNeg) (fun _ => QO p0.toNatClampNeg) qf87 qa88 (fun _ _ => none)] := hw
      refine lv_goto (tgt := 289) S.x S.b d_Mo_rawCall_146 (by decide) ?_
      refine lv_iload S.x S.b d_Mo_rawCall_289 (lv_at hl 1 rfl) ?_
      refine lv_if_eq (tgt := 341) S.x S.b d_Mo_rawCall_291 (by decide) (fun c107 => ?_) (fun c107 => ?_)
      · exact absurd c107 (by decide)
      ·
        refine lv_aload_n S.x S.b d_Mo_rawCall_294 rfl (lv_at hl 4 rfl) ?_
        refine px_calli (pr := [wd_Mo cs mo mr (fun _ => none) mf md (gMo PG hq), fm 8 (fPg cs PG), fo 13 (fPr cs hq qr QO QF QA) p0.toNatClampNeg]) (px_runV (As := []) (rest := []) S (c_mq_isGoing l D cs (hq p0.toNatClampNeg) (qr p0.toNatClampNeg) (fun _ _ => none) (fun _ => QO p0.toNatClampNeg) qf87 qa88    _) hT (pr := [wd_Mo cs mo mr (fun _ => none) mf md (gMo PG hq), fm 8 (fPg cs PG), fo 13 (fPr cs hq qr QO QF QA) p0.toNatClampNeg]) (pcs := [wd_Mpr cs (hq p0.toNatClampNeg) (qr p0.toNatClampNeg) (fun _ => QO p0.toNatClampNeg) qf87 qa88 (fun _ _ => none)]) hw px_X.tt (px_recv hT hw 3 0 rfl rfl rfl) m13_165 m13_162 m13_163 m13_164 m1_22 q_Mpr_isGoing ⟨Nat.le_of_ble_eq_true rfl, Nat.le_of_ble_eq_true rfl⟩ hl.1 rfl (Nat.le_of_ble_eq_true rfl) d_Mo_rawCall_295 ⟨Nat.le_of_ble_eq_true rfl, Nat.le_of_ble_eq_true rfl⟩) hw hA (fun v109 p108 H locs hp108 hw => ?_)
        obtain ⟨rfl, e110, e111, e112, e113, e114⟩ := hp108
        have e110 : 0 ≤ v109.toInt := e110
        have e111 : v109.toInt ≤ 1 := e111
        have e112 : v109.toInt = 1 → (qf87 1).toInt ≠ 0 := e112
        have e113 : v109.toInt = 1 → (qf87 2).toInt = -2 := e113
        have e114 : (qf87 1).toInt ≠ 0 → (qf87 2).toInt = -2 → v109.toInt = 1 := e114
        have hw : pw D A s.heap H locs [wd_Mo cs mo mr (fun _ => none) mf md (gMo PG hq), fm 8 (fPg cs PG), fo 13 (fPr cs hq qr QO QF QA) p0.toNatClampNeg, wd_Mpr cs (hq p0.toNatClampNeg) (qr p0.toNatClampNeg) (fun _ => QO p0.toNatClampNeg) qf87 qa88 (fun _ _ => none)] := hw
        have lv109 := Int32.le_toInt v109
        have uv109 := Int32.toInt_lt v109
        refine lv_if_eq (tgt := 341) S.x S.b d_Mo_rawCall_298 (by decide) (fun c115 => ?_) (fun c115 => ?_)
        · have nc115 : v109.toInt = (0 : Int) := (i_eq (x := v109) (y := 0)).mp c115
          refine lv_iload S.x S.b d_Mo_rawCall_341 (lv_at hl 1 rfl) ?_
          have hw := fpr_in (pr := [wd_Mo cs mo mr (fun _ => none) mf md (gMo PG hq), fm 8 (fPg cs PG)]) hw hi1
          obtain ⟨QO117, hu_QO117⟩ : ∃ y : Nat → Option Nat, y = va_up QO p0.toNatClampNeg ((fun _ => QO p0.toNatClampNeg) 0) := ⟨_, rfl⟩
          obtain ⟨QF118, hu_QF118⟩ : ∃ y : Nat → Nat → Int32, y = va_up QF p0.toNatClampNeg qf87 := ⟨_, rfl⟩
          obtain ⟨QA119, hu_QA119⟩ : ∃ y : Nat → Nat → Nat → Int32, y = va_up QA p0.toNatClampNeg qa88 := ⟨_, rfl⟩
          have hw : pw D A s.heap _ _ [wd_Mo cs mo mr (fun _ => none) mf md (gMo PG hq), fm 8 (fPg cs PG), fm 13 (fPr cs hq qr QO117 QF118 QA119)] := (by rw [hu_QO117, hu_QF118, hu_QA119]; exact hw)
          have hpr : PrA PG RR QO117 QF118 QA119 := (by rw [hu_QO117, hu_QF118, hu_QA119]; exact PrA.up hpr (psr_raw (j := j9) hj9 hqo h66 (show (0 ≤ (qf87 1).toInt ∧ (qf87 1).toInt ≤ 1) ∧ (0 ≤ (qf87 21).toInt ∧ (qf87 21).toInt ≤ 4) ∧ (0 ≤ (qf87 23).toInt ∧ (qf87 23).toInt ≤ 4) ∧ (0 ≤ (qf87 24).toInt ∧ (qf87 24).toInt ≤ 1000000) ∧ (0 ≤ (qf87 6).toInt ∧ (qf87 6).toInt ≤ 3) ∧ (0 ≤ (qf87 7).toInt ∧ (qf87 7).toInt ≤ 1) from by omega) (show (qf87 1).toInt = 1 from by first | exact oz_e863b17997 e92 g6 | omega) (show 0 ≤ (qf87 4).toInt ∧ (qf87 4).toInt + 1 ≤ RR p0.toNatClampNeg ∧ (qf87 24).toInt + (qf87 4).toInt ≤ 1600 from by omega)) (show (qf87 1).toInt = (QF p0.toNatClampNeg 1).toInt from by first | exact oz_1811ac7fe4 e92 | omega) (show (QF p0.toNatClampNeg 6).toInt ≤ (qf87 6).toInt from by first | exact oz_f9b42d1b56 e97 | omega))
          have hqo : OqE (QO117 p0.toNatClampNeg) (PG j9).h := (by rw [hu_QO117, va_up_s]; exact hqo)
          have hkw : KpW QO QF QO117 QF118 p0.toNatClampNeg := ⟨hqo.trans hqoE.symm, (by rw [hu_QF118, va_up_s]; exact (show ((qf87 1).toInt = (QF p0.toNatClampNeg 1).toInt ∧ (qf87 4).toInt = (QF p0.toNatClampNeg 4).toInt ∧ (qf87 5).toInt = (QF p0.toNatClampNeg 5).toInt ∧ (qf87 7).toInt = (QF p0.toNatClampNeg 7).toInt ∧ (qf87 10).toInt = (QF p0.toNatClampNeg 10).toInt ∧ (qf87 11).toInt = (QF p0.toNatClampNeg 11).toInt) ∧ (qf87 12).toInt = (QF p0.toNatClampNeg 12).toInt ∧ (qf87 13).toInt = (QF p0.toNatClampNeg 13).toInt ∧ (qf87 14).toInt = (QF p0.toNatClampNeg 14).toInt ∧ (qf87 24).toInt = (QF p0.toNatClampNeg 24).toInt from by omega))⟩
          have hqk1_QF118 : (QF118 p0.toNatClampNeg 1).toInt = (qf87 1).toInt := (by rw [hu_QF118, va_up_s]; try rfl)
          have hqk2_QF118 : (QF118 p0.toNatClampNeg 2).toInt = (qf87 2).toInt := (by rw [hu_QF118, va_up_s]; try rfl)
          have hqk4_QF118 : (QF118 p0.toNatClampNeg 4).toInt = (qf87 4).toInt := (by rw [hu_QF118, va_up_s]; try rfl)
          have hqk24_QF118 : (QF118 p0.toNatClampNeg 24).toInt = (qf87 24).toInt := (by rw [hu_QF118, va_up_s]; try rfl)
          have hw : pw D A s.heap _ _ [wd_Mo cs mo mr (fun _ => none) mf md (gMo PG hq), fm 13 (fPr cs hq qr QO117 QF118 QA119), fm 8 (fPg cs PG)] := hw.sub [0, 2, 1] rfl rfl
          exact px_iret (v := 1) S hr rfl hlk hAe hw (Nat.le_of_ble_eq_true rfl) (Nat.le_of_ble_eq_true rfl) (⟨mf, md, QO117, QF118, QA119, rfl, (show 0 ≤ (1 : Int) from by first | exact oz_19c3a41681 | omega), (show (1 : Int) ≤ 1 from by first | exact oz_f9181dc4bb | omega), (show PrA PG (va_up RR p0.toNatClampNeg (RR p0.toNatClampNeg - (1 : Int))) QO117 QF118 QA119 from (hpr.low (by omega) (by omega) (by omega) (by have q9 := cl_nat (x := p0) (by first | exact g0 | omega); omega))), (show (mf 0).toInt = (mf 0).toInt from rfl), (show (mf 2).toInt = (mf 2).toInt from rfl), (show (mf 3).toInt = (mf 3).toInt from rfl), (show (mf 7).toInt = (mf 7).toInt from rfl), (show (mf 8).toInt = (mf 8).toInt from rfl), (show (mf 10).toInt = (mf 10).toInt from rfl), (show Md1 md md from hmdq)⟩) d_Mo_rawCall_343
        · have nc115 : ¬ v109.toInt = (0 : Int) := mt (i_eq (x := v109) (y := 0)).mpr c115
          refine lv_aload_n S.x S.b d_Mo_rawCall_301 rfl (lv_at hl 4 rfl) ?_
          refine px_get S k_Mpr hT hw 3 0 19 (v := .ref ((qr p0.toNatClampNeg) 19)) rfl rfl rfl (by decide) m11_12 d_Mo_rawCall_302 ?_
          refine lv_bipush (v := 10) S.x S.b d_Mo_rawCall_305 (by decide) ?_
          refine lv_iload S.x S.b d_Mo_rawCall_307 (lv_at hl 0 rfl) ?_
          refine lv_if_eq (tgt := 319) S.x S.b d_Mo_rawCall_309 (by decide) (fun c120 => ?_) (fun c120 => ?_)
          ·
            refine lv_iload_n S.x S.b d_Mo_rawCall_319 rfl (lv_at hl 3 rfl) ?_
            refine px_iast S hT hw 3 7 (n := 32) (f := (qa88 19)) (x := 10) (y := z2) rfl (ga_Mpr_19 _ _ _ _ _ _ _) (vp_in_iff.mpr (by constructor <;> omega)) d_Mo_rawCall_320 (w' := wd_Mpr cs (hq p0.toNatClampNeg) (qr p0.toNatClampNeg) (fun _ => QO p0.toNatClampNeg) qf87 (va_up qa88 19 (upd (qa88 19) (10 : Int32).toNatClampNeg z2)) (fun _ _ => none)) (ps' := [wd_Mo cs mo mr (fun _ => none) mf md (gMo PG hq), fm 8 (fPg cs PG), fo 13 (fPr cs hq qr QO QF QA) p0.toNatClampNeg, wd_Mpr cs (hq p0.toNatClampNeg) (qr p0.toNatClampNeg) (fun _ => QO p0.toNatClampNeg) qf87 (va_up qa88 19 (upd (qa88 19) (10 : Int32).toNatClampNeg z2)) (fun _ _ => none)]) (sa_Mpr_19 _ _ _ _ _ _ _ _) rfl (fun H locs hw => ?_)
            refine lv_aload_n S.x S.b d_Mo_rawCall_321 rfl (lv_at hl 4 rfl) ?_
            refine lv_aload_n S.x S.b d_Mo_rawCall_322 rfl (lv_at hl 4 rfl) ?_
            refine px_get S k_Mpr hT hw 3 0 11 (v := .int (qf87 11)) rfl rfl rfl (by decide) m11_3 d_Mo_rawCall_323 ?_
            refine lv_iconst (v := 4) S.x S.b d_Mo_rawCall_326 (by decide) ?_
            refine lv_iadd S.x S.b d_Mo_rawCall_327 ?_
            have lr121 := Int32.le_toInt (qf87 11)
            have ur121 := Int32.toInt_lt (qf87 11)
            refine lv_topi (fun z122 ez122 => ?_)
            have tz122 : z122.toInt = ((qf87 11).toInt + (4 : Int) + 2147483648) % 4294967296 - 2147483648 := by rw [ez122]; exact i_add (qf87 11) 4
            have lz122 := Int32.le_toInt z122
            have uz122 := Int32.toInt_lt z122
            try replace tz122 : z122.toInt = (qf87 11).toInt + (4 : Int) := by omega
            refine px_put S k_Mpr hT hw 3 0 11 rfl rfl (by decide) m11_3 rfl rfl rfl (Nat.le_of_ble_eq_true rfl) d_Mo_rawCall_328 (w' := wd_Mpr cs (hq p0.toNatClampNeg) (qr p0.toNatClampNeg) (fun _ => QO p0.toNatClampNeg) (upd qf87 11 z122) (va_up qa88 19 (upd (qa88 19) (10 : Int32).toNatClampNeg z2)) (fun _ _ => none)) (ps' := [wd_Mo cs mo mr (fun _ => none) mf md (gMo PG hq), fm 8 (fPg cs PG), fo 13 (fPr cs hq qr QO QF QA) p0.toNatClampNeg, wd_Mpr cs (hq p0.toNatClampNeg) (qr p0.toNatClampNeg) (fun _ => QO p0.toNatClampNeg) (upd qf87 11 z122) (va_up qa88 19 (upd (qa88 19) (10 : Int32).toNatClampNeg z2)) (fun _ _ => none)]) rfl rfl (fun H locs hw => ?_)
            refine lv_aload_n S.x S.b d_Mo_rawCall_331 rfl (lv_at hl 4 rfl) ?_
            refine lv_dup S.x S.b d_Mo_rawCall_332 rfl ?_
            refine px_get S k_Mpr hT hw 3 0 4 (v := .int (qf87 4)) rfl rfl rfl (by decide) m10_230 d_Mo_rawCall_333 ?_
            refine lv_iconst (v := 1) S.x S.b d_Mo_rawCall_336 (by decide) ?_
            refine lv_isub S.x S.b d_Mo_rawCall_337 ?_
            have lr123 := Int32.le_toInt (qf87 4)
            have ur123 := Int32.toInt_lt (qf87 4)
            refine lv_topi (fun z124 ez124 => ?_)
            have tz124 : z124.toInt = ((qf87 4).toInt - (1 : Int) + 2147483648) % 4294967296 - 2147483648 := by rw [ez124]; exact i_sub (qf87 4) 1
            have lz124 := Int32.le_toInt z124
            have uz124 := Int32.toInt_lt z124
            try replace tz124 : z124.toInt = (qf87 4).toInt - (1 : Int) := by omega
            refine px_put S k_Mpr hT hw 3 0 4 rfl rfl (by decide) m10_230 rfl rfl rfl (Nat.le_of_ble_eq_true rfl) d_Mo_rawCall_338 (w' := wd_Mpr cs (hq p0.toNatClampNeg) (qr p0.toNatClampNeg) (fun _ => QO p0.toNatClampNeg) (upd (upd qf87 4 z124) 11 z122) (va_up qa88 19 (upd (qa88 19) (10 : Int32).toNatClampNeg z2)) (fun _ _ => none)) (ps' := [wd_Mo cs mo mr (fun _ => none) mf md (gMo PG hq), fm 8 (fPg cs PG), fo 13 (fPr cs hq qr QO QF QA) p0.toNatClampNeg, wd_Mpr cs (hq p0.toNatClampNeg) (qr p0.toNatClampNeg) (fun _ => QO p0.toNatClampNeg) (upd (upd qf87 4 z124) 11 z122) (va_up qa88 19 (upd (qa88 19) (10 : Int32).toNatClampNeg z2)) (fun _ _ => none)]) rfl rfl (fun H locs hw => ?_)
            refine lv_iload S.x S.b d_Mo_rawCall_341 (lv_at hl 1 rfl) ?_
            have hw := fpr_in (pr := [wd_Mo cs mo mr (fun _ => none) mf md (gMo PG hq), fm 8 (fPg cs PG)]) hw hi1
            obtain ⟨QO125, hu_QO125⟩ : ∃ y : Nat → Option Nat, y = va_up QO p0.toNatClampNeg ((fun _ => QO p0.toNatClampNeg) 0) := ⟨_, rfl⟩
            obtain ⟨QF126, hu_QF126⟩ : ∃ y : Nat → Nat → Int32, y = va_up QF p0.toNatClampNeg (upd (upd qf87 4 z124) 11 z122) := ⟨_, rfl⟩
            obtain ⟨QA127, hu_QA127⟩ : ∃ y : Nat → Nat → Nat → Int32, y = va_up QA p0.toNatClampNeg (va_up qa88 19 (upd (qa88 19) (10 : Int32).toNatClampNeg z2)) := ⟨_, rfl⟩
            have hw : pw D A s.heap _ _ [wd_Mo cs mo mr (fun _ => none) mf md (gMo PG hq), fm 8 (fPg cs PG), fm 13 (fPr cs hq qr QO125 QF126 QA127)] := (by rw [hu_QO125, hu_QF126, hu_QA127]; exact hw)
            have hpr : PrA PG (va_up RR p0.toNatClampNeg (RR p0.toNatClampNeg - (1 : Int))) QO125 QF126 QA127 := (by rw [hu_QO125, hu_QF126, hu_QA127]; exact PrA.upR hpr (psr_raw (j := j9) hj9 hqo h66 (show (0 ≤ (qf87 1).toInt ∧ (qf87 1).toInt ≤ 1) ∧ (0 ≤ (qf87 21).toInt ∧ (qf87 21).toInt ≤ 4) ∧ (0 ≤ (qf87 23).toInt ∧ (qf87 23).toInt ≤ 4) ∧ (0 ≤ (qf87 24).toInt ∧ (qf87 24).toInt ≤ 1000000) ∧ (0 ≤ (qf87 6).toInt ∧ (qf87 6).toInt ≤ 3) ∧ (0 ≤ (qf87 7).toInt ∧ (qf87 7).toInt ≤ 1) from by omega) (show (qf87 1).toInt = 1 from by first | exact oz_e863b17997 e92 g6 | omega) (show 0 ≤ z124.toInt ∧ z124.toInt + 1 ≤ RR p0.toNatClampNeg - (1 : Int) ∧ (qf87 24).toInt + z124.toInt ≤ 1600 from by omega)) (show (qf87 1).toInt = (QF p0.toNatClampNeg 1).toInt from by first | exact oz_1811ac7fe4 e92 | omega) (show (QF p0.toNatClampNeg 6).toInt ≤ (qf87 6).toInt from by first | exact oz_f9b42d1b56 e97 | omega))
            have hqo : OqE (QO125 p0.toNatClampNeg) (PG j9).h := (by rw [hu_QO125, va_up_s]; exact hqo)
            have hqk1_QF126 : (QF126 p0.toNatClampNeg 1).toInt = (qf87 1).toInt := (by rw [hu_QF126, va_up_s]; try rfl)
            have hqk2_QF126 : (QF126 p0.toNatClampNeg 2).toInt = (qf87 2).toInt := (by rw [hu_QF126, va_up_s]; try rfl)
            have hqk4_QF126 : (QF126 p0.toNatClampNeg 4).toInt = z124.toInt := (by rw [hu_QF126, va_up_s]; try rfl)
            have hqk24_QF126 : (QF126 p0.toNatClampNeg 24).toInt = (qf87 24).toInt := (by rw [hu_QF126, va_up_s]; try rfl)
            have hw : pw D A s.heap _ _ [wd_Mo cs mo mr (fun _ => none) mf md (gMo PG hq), fm 13 (fPr cs hq qr QO125 QF126 QA127), fm 8 (fPg cs PG)] := hw.sub [0, 2, 1] rfl rfl
            exact px_iret (v := 1) S hr rfl hlk hAe hw (Nat.le_of_ble_eq_true rfl) (Nat.le_of_ble_eq_true rfl) (⟨mf, md, QO125, QF126, QA127, rfl, (show 0 ≤ (1 : Int) from by first | exact oz_19c3a41681 | omega), (show (1 : Int) ≤ 1 from by first | exact oz_f9181dc4bb | omega), (show PrA PG (va_up RR p0.toNatClampNeg (RR p0.toNatClampNeg - (1 : Int))) QO125 QF126 QA127 from hpr), (show (mf 0).toInt = (mf 0).toInt from rfl), (show (mf 2).toInt = (mf 2).toInt from rfl), (show (mf 3).toInt = (mf 3).toInt from rfl), (show (mf 7).toInt = (mf 7).toInt from rfl), (show (mf 8).toInt = (mf 8).toInt from rfl), (show (mf 10).toInt = (mf 10).toInt from rfl), (show Md1 md md from hmdq)⟩) d_Mo_rawCall_343
          · exact absurd c120 (by decide)
    · simp only [List.mem_cons, List.not_mem_nil, or_false] at c45
      refine lv_aload_n S.x S.b d_Mo_rawCall_149 rfl (lv_at hl 5 rfl) ?_
      refine lv_iload_n S.x S.b d_Mo_rawCall_150 rfl (lv_at hl 6 rfl) ?_
      refine lv_iload_n S.x S.b d_Mo_rawCall_151 rfl (lv_at hl 3 rfl) ?_
      refine lv_iload S.x S.b d_Mo_rawCall_152 (lv_at hl 2 rfl) ?_
      have hw : pw D A s.heap _ _ [wd_Mo cs mo mr (fun _ => none) mf md (gMo PG hq), fm 8 (fPg cs PG), fm 13 (fPr cs hq qr QO QF QA)] := fm_back (pr := [wd_Mo cs mo mr (fun _ => none) mf md (gMo PG hq), fm 8 (fPg cs PG)]) (T := fPr cs hq qr QO QF QA) hw hi1
      have hw : pw D A s.heap _ _ [wd_Mo cs mo mr (fun _ => none) mf md (gMo PG hq), fm 13 (fPr cs hq qr QO QF QA), fm 8 (fPg cs PG)] := hw.sub [0, 2, 1] rfl rfl
      refine px_calli (pr := []) (px_runV (As := [.int p0, .int z2, .int z3]) (rest := []) S (c_mo_sends l D cs RR mo mr mf md hq qr QO QF QA PG p0 z2 z3  (show 0 ≤ p0.toInt from by first | exact g0 | omega) (show p0.toInt < 13 from by first | exact g1 | omega) hpr hpg _) hT (pr := []) (pcs := [wd_Mo cs mo mr (fun _ => none) mf md (gMo PG hq), fm 13 (fPr cs hq qr QO QF QA), fm 8 (fPg cs PG)]) hw px_X.tt (px_recv hT hw 0 0 rfl rfl rfl) m14_43 m14_40 m14_42 ms_15_13 m1_20 q_Mo_sends ⟨Nat.le_of_ble_eq_true rfl, Nat.le_of_ble_eq_true rfl⟩ hl.1 rfl (Nat.le_of_ble_eq_true rfl) d_Mo_rawCall_154 ⟨Nat.le_of_ble_eq_true rfl, Nat.le_of_ble_eq_true rfl⟩) hw hA (fun v135 p134 H locs hp134 hw => ?_)
      obtain ⟨QO131, QF132, QA133, rfl, e136, e137, e138, e139⟩ := hp134
      have e136 : PrA PG RR QO131 QF132 QA133 := e136
      have hpr := e136
      have e137 : KpP QO QF QA QO131 QF132 QA133 p0.toNatClampNeg := e137
      have hkw : KpW QO QF QO131 QF132 p0.toNatClampNeg := ⟨(e137.1).trans hkw.1, hkw.2.tr e137.2.1⟩
      have hqo : OqE (QO131 p0.toNatClampNeg) (PG j9).h := hkw.1.trans hqoE
      have hkf := hkw.2
      unfold KpF at hkf
      have e138 : 0 ≤ v135.toInt := e138
      have e139 : v135.toInt ≤ 1 := e139
      have hw : pw D A s.heap H locs [wd_Mo cs mo mr (fun _ => none) mf md (gMo PG hq), fm 13 (fPr cs hq qr QO131 QF132 QA133), fm 8 (fPg cs PG)] := hw
      have lv135 := Int32.le_toInt v135
      have uv135 := Int32.toInt_lt v135
      refine lv_istore (lv' := [(5, .int v135), (6, .int 0), (4, .int z3), (3, .int z2), (2, .ref (hq p0.toNatClampNeg)), (0, .ref mo), (1, .int p0)]) S.x S.b d_Mo_rawCall_157 hl (by decide) rfl (fun ls hl => ?_)
      refine lv_goto (tgt := 289) S.x S.b d_Mo_rawCall_159 (by decide) ?_
      refine lv_iload S.x S.b d_Mo_rawCall_289 (lv_at hl 0 rfl) ?_
      refine lv_if_eq (tgt := 341) S.x S.b d_Mo_rawCall_291 (by decide) (fun c140 => ?_) (fun c140 => ?_)
      · have nc140 : v135.toInt = (0 : Int) := (i_eq (x := v135) (y := 0)).mp c140
        refine lv_iload S.x S.b d_Mo_rawCall_341 (lv_at hl 0 rfl) ?_
        exact px_iret (v := v135) S hr (z_nar (by omega)) hlk hAe hw (Nat.le_of_ble_eq_true rfl) (Nat.le_of_ble_eq_true rfl) (⟨mf, md, QO131, QF132, QA133, rfl, (show 0 ≤ v135.toInt from by first | exact e138 | omega), (show v135.toInt ≤ 1 from by first | exact e139 | omega), (show PrA PG (va_up RR p0.toNatClampNeg (RR p0.toNatClampNeg - v135.toInt)) QO131 QF132 QA133 from (hpr.rs (by omega))), (show (mf 0).toInt = (mf 0).toInt from rfl), (show (mf 2).toInt = (mf 2).toInt from rfl), (show (mf 3).toInt = (mf 3).toInt from rfl), (show (mf 7).toInt = (mf 7).toInt from rfl), (show (mf 8).toInt = (mf 8).toInt from rfl), (show (mf 10).toInt = (mf 10).toInt from rfl), (show Md1 md md from hmdq)⟩) d_Mo_rawCall_343
      · have nc140 : ¬ v135.toInt = (0 : Int) := mt (i_eq (x := v135) (y := 0)).mpr c140
        refine lv_aload_n S.x S.b d_Mo_rawCall_294 rfl (lv_at hl 4 rfl) ?_
        have hw : pw D A s.heap _ _ [wd_Mo cs mo mr (fun _ => none) mf md (gMo PG hq), fm 8 (fPg cs PG), fm 13 (fPr cs hq qr QO131 QF132 QA133)] := hw.sub [0, 2, 1] rfl rfl
        have hc142 := cl_nat (x := p0) (by first | exact g0 | omega)
        have hi142 : p0.toNatClampNeg < 13 := by first | exact hi1 | omega
        have hw : pw D A s.heap _ _ [wd_Mo cs mo mr (fun _ => none) mf md (gMo PG hq), fm 8 (fPg cs PG), fo 13 (fPr cs hq qr QO131 QF132 QA133) p0.toNatClampNeg, wd_Mpr cs (hq p0.toNatClampNeg) (qr p0.toNatClampNeg) (fun _ => QO131 p0.toNatClampNeg) (QF132 p0.toNatClampNeg) (QA133 p0.toNatClampNeg) (fun _ _ => none)] := fm_out (pr := [wd_Mo cs mo mr (fun _ => none) mf md (gMo PG hq), fm 8 (fPg cs PG)]) (T := fPr cs hq qr QO131 QF132 QA133) hw hi142
        have hps142 := hpr.1 p0.toNatClampNeg hi142
        have hpb142 := hps142.1
        unfold PsB at hpb142
        refine px_calli (pr := [wd_Mo cs mo mr (fun _ => none) mf md (gMo PG hq), fm 8 (fPg cs PG), fo 13 (fPr cs hq qr QO131 QF132 QA133) p0.toNatClampNeg]) (px_runV (As := []) (rest := []) S (c_mq_isGoing l D cs (hq p0.toNatClampNeg) (qr p0.toNatClampNeg) (fun _ _ => none) (fun _ => QO131 p0.toNatClampNeg) (QF132 p0.toNatClampNeg) (QA133 p0.toNatClampNeg)    _) hT (pr := [wd_Mo cs mo mr (fun _ => none) mf md (gMo PG hq), fm 8 (fPg cs PG), fo 13 (fPr cs hq qr QO131 QF132 QA133) p0.toNatClampNeg]) (pcs := [wd_Mpr cs (hq p0.toNatClampNeg) (qr p0.toNatClampNeg) (fun _ => QO131 p0.toNatClampNeg) (QF132 p0.toNatClampNeg) (QA133 p0.toNatClampNeg) (fun _ _ => none)]) hw px_X.tt (px_recv hT hw 3 0 rfl rfl rfl) m13_165 m13_162 m13_163 m13_164 m1_22 q_Mpr_isGoing ⟨Nat.le_of_ble_eq_true rfl, Nat.le_of_ble_eq_true rfl⟩ hl.1 rfl (Nat.le_of_ble_eq_true rfl) d_Mo_rawCall_295 ⟨Nat.le_of_ble_eq_true rfl, Nat.le_of_ble_eq_true rfl⟩) hw hA (fun v144 p143 H locs hp143 hw => ?_)
        obtain ⟨rfl, e145, e146, e147, e148, e149⟩ := hp143
        have e145 : 0 ≤ v144.toInt := e145
        have e146 : v144.toInt ≤ 1 := e146
        have e147 : v144.toInt = 1 → ((QF132 p0.toNatClampNeg) 1).toInt ≠ 0 := e147
        have e148 : v144.toInt = 1 → ((QF132 p0.toNatClampNeg) 2).toInt = -2 := e148
        have e149 : ((QF132 p0.toNatClampNeg) 1).toInt ≠ 0 → ((QF132 p0.toNatClampNeg) 2).toInt = -2 → v144.toInt = 1 := e149
        have hw : pw D A s.heap H locs [wd_Mo cs mo mr (fun _ => none) mf md (gMo PG hq), fm 8 (fPg cs PG), fo 13 (fPr cs hq qr QO131 QF132 QA133) p0.toNatClampNeg, wd_Mpr cs (hq p0.toNatClampNeg) (qr p0.toNatClampNeg) (fun _ => QO131 p0.toNatClampNeg) (QF132 p0.toNatClampNeg) (QA133 p0.toNatClampNeg) (fun _ _ => none)] := hw
        have lv144 := Int32.le_toInt v144
        have uv144 := Int32.toInt_lt v144
        refine lv_if_eq (tgt := 341) S.x S.b d_Mo_rawCall_298 (by decide) (fun c150 => ?_) (fun c150 => ?_)
        · have nc150 : v144.toInt = (0 : Int) := (i_eq (x := v144) (y := 0)).mp c150
          refine lv_iload S.x S.b d_Mo_rawCall_341 (lv_at hl 0 rfl) ?_
          have hw : pw D A s.heap _ _ [wd_Mo cs mo mr (fun _ => none) mf md (gMo PG hq), fm 8 (fPg cs PG), fm 13 (fPr cs hq qr QO131 QF132 QA133)] := fm_back (pr := [wd_Mo cs mo mr (fun _ => none) mf md (gMo PG hq), fm 8 (fPg cs PG)]) (T := fPr cs hq qr QO131 QF132 QA133) hw hi142
          have hw : pw D A s.heap _ _ [wd_Mo cs mo mr (fun _ => none) mf md (gMo PG hq), fm 13 (fPr cs hq qr QO131 QF132 QA133), fm 8 (fPg cs PG)] := hw.sub [0, 2, 1] rfl rfl
          exact px_iret (v := v135) S hr (z_nar (by omega)) hlk hAe hw (Nat.le_of_ble_eq_true rfl) (Nat.le_of_ble_eq_true rfl) (⟨mf, md, QO131, QF132, QA133, rfl, (show 0 ≤ v135.toInt from by first | exact e138 | omega), (show v135.toInt ≤ 1 from by first | exact e139 | omega), (show PrA PG (va_up RR p0.toNatClampNeg (RR p0.toNatClampNeg - v135.toInt)) QO131 QF132 QA133 from (hpr.low (by omega) (by omega) (by omega) (by have q9 := cl_nat (x := p0) (by first | exact g0 | omega); omega))), (show (mf 0).toInt = (mf 0).toInt from rfl), (show (mf 2).toInt = (mf 2).toInt from rfl), (show (mf 3).toInt = (mf 3).toInt from rfl), (show (mf 7).toInt = (mf 7).toInt from rfl), (show (mf 8).toInt = (mf 8).toInt from rfl), (show (mf 10).toInt = (mf 10).toInt from rfl), (show Md1 md md from hmdq)⟩) d_Mo_rawCall_343
        · have nc150 : ¬ v144.toInt = (0 : Int) := mt (i_eq (x := v144) (y := 0)).mpr c150
          refine lv_aload_n S.x S.b d_Mo_rawCall_301 rfl (lv_at hl 4 rfl) ?_
          refine px_get S k_Mpr hT hw 3 0 19 (v := .ref ((qr p0.toNatClampNeg) 19)) rfl rfl rfl (by decide) m11_12 d_Mo_rawCall_302 ?_
          refine lv_bipush (v := 10) S.x S.b d_Mo_rawCall_305 (by decide) ?_
          refine lv_iload S.x S.b d_Mo_rawCall_307 (lv_at hl 1 rfl) ?_
          refine lv_if_eq (tgt := 319) S.x S.b d_Mo_rawCall_309 (by decide) (fun c152 => ?_) (fun c152 => ?_)
          ·
            refine lv_iload_n S.x S.b d_Mo_rawCall_319 rfl (lv_at hl 3 rfl) ?_
            refine px_iast S hT hw 3 7 (n := 32) (f := ((QA133 p0.toNatClampNeg) 19)) (x := 10) (y := z2) rfl (ga_Mpr_19 _ _ _ _ _ _ _) (vp_in_iff.mpr (by constructor <;> omega)) d_Mo_rawCall_320 (w' := wd_Mpr cs (hq p0.toNatClampNeg) (qr p0.toNatClampNeg) (fun _ => QO131 p0.toNatClampNeg) (QF132 p0.toNatClampNeg) (va_up (QA133 p0.toNatClampNeg) 19 (upd ((QA133 p0.toNatClampNeg) 19) (10 : Int32).toNatClampNeg z2)) (fun _ _ => none)) (ps' := [wd_Mo cs mo mr (fun _ => none) mf md (gMo PG hq), fm 8 (fPg cs PG), fo 13 (fPr cs hq qr QO131 QF132 QA133) p0.toNatClampNeg, wd_Mpr cs (hq p0.toNatClampNeg) (qr p0.toNatClampNeg) (fun _ => QO131 p0.toNatClampNeg) (QF132 p0.toNatClampNeg) (va_up (QA133 p0.toNatClampNeg) 19 (upd ((QA133 p0.toNatClampNeg) 19) (10 : Int32).toNatClampNeg z2)) (fun _ _ => none)]) (sa_Mpr_19 _ _ _ _ _ _ _ _) rfl (fun H locs hw => ?_)
            refine lv_aload_n S.x S.b d_Mo_rawCall_321 rfl (lv_at hl 4 rfl) ?_
            refine lv_aload_n S.x S.b d_Mo_rawCall_322 rfl (lv_at hl 4 rfl) ?_
            refine px_get S k_Mpr hT hw 3 0 11 (v := .int ((QF132 p0.toNatClampNeg) 11)) rfl rfl rfl (by decide) m11_3 d_Mo_rawCall_323 ?_
            refine lv_iconst (v := 4) S.x S.b d_Mo_rawCall_326 (by decide) ?_
            refine lv_iadd S.x S.b d_Mo_rawCall_327 ?_
            have lr153 := Int32.le_toInt ((QF132 p0.toNatClampNeg) 11)
            have ur153 := Int32.toInt_lt ((QF132 p0.toNatClampNeg) 11)
            refine lv_topi (fun z154 ez154 => ?_)
            have tz154 : z154.toInt = (((QF132 p0.toNatClampNeg) 11).toInt + (4 : Int) + 2147483648) % 4294967296 - 2147483648 := by rw [ez154]; exact i_add ((QF132 p0.toNatClampNeg) 11) 4
            have lz154 := Int32.le_toInt z154
            have uz154 := Int32.toInt_lt z154
            try replace tz154 : z154.toInt = ((QF132 p0.toNatClampNeg) 11).toInt + (4 : Int) := by omega
            refine px_put S k_Mpr hT hw 3 0 11 rfl rfl (by decide) m11_3 rfl rfl rfl (Nat.le_of_ble_eq_true rfl) d_Mo_rawCall_328 (w' := wd_Mpr cs (hq p0.toNatClampNeg) (qr p0.toNatClampNeg) (fun _ => QO131 p0.toNatClampNeg) (upd (QF132 p0.toNatClampNeg) 11 z154) (va_up (QA133 p0.toNatClampNeg) 19 (upd ((QA133 p0.toNatClampNeg) 19) (10 : Int32).toNatClampNeg z2)) (fun _ _ => none)) (ps' := [wd_Mo cs mo mr (fun _ => none) mf md (gMo PG hq), fm 8 (fPg cs PG), fo 13 (fPr cs hq qr QO131 QF132 QA133) p0.toNatClampNeg, wd_Mpr cs (hq p0.toNatClampNeg) (qr p0.toNatClampNeg) (fun _ => QO131 p0.toNatClampNeg) (upd (QF132 p0.toNatClampNeg) 11 z154) (va_up (QA133 p0.toNatClampNeg) 19 (upd ((QA133 p0.toNatClampNeg) 19) (10 : Int32).toNatClampNeg z2)) (fun _ _ => none)]) rfl rfl (fun H locs hw => ?_)
            refine lv_aload_n S.x S.b d_Mo_rawCall_331 rfl (lv_at hl 4 rfl) ?_
            refine lv_dup S.x S.b d_Mo_rawCall_332 rfl ?_
            refine px_get S k_Mpr hT hw 3 0 4 (v := .int ((QF132 p0.toNatClampNeg) 4)) rfl rfl rfl (by decide) m10_230 d_Mo_rawCall_333 ?_
            refine lv_iconst (v := 1) S.x S.b d_Mo_rawCall_336 (by decide) ?_
            refine lv_isub S.x S.b d_Mo_rawCall_337 ?_
            have lr155 := Int32.le_toInt ((QF132 p0.toNatClampNeg) 4)
            have ur155 := Int32.toInt_lt ((QF132 p0.toNatClampNeg) 4)
            refine lv_topi (fun z156 ez156 => ?_)
            have tz156 : z156.toInt = (((QF132 p0.toNatClampNeg) 4).toInt - (1 : Int) + 2147483648) % 4294967296 - 2147483648 := by rw [ez156]; exact i_sub ((QF132 p0.toNatClampNeg) 4) 1
            have lz156 := Int32.le_toInt z156
            have uz156 := Int32.toInt_lt z156
            try replace tz156 : z156.toInt = ((QF132 p0.toNatClampNeg) 4).toInt - (1 : Int) := by omega
            refine px_put S k_Mpr hT hw 3 0 4 rfl rfl (by decide) m10_230 rfl rfl rfl (Nat.le_of_ble_eq_true rfl) d_Mo_rawCall_338 (w' := wd_Mpr cs (hq p0.toNatClampNeg) (qr p0.toNatClampNeg) (fun _ => QO131 p0.toNatClampNeg) (upd (upd (QF132 p0.toNatClampNeg) 4 z156) 11 z154) (va_up (QA133 p0.toNatClampNeg) 19 (upd ((QA133 p0.toNatClampNeg) 19) (10 : Int32).toNatClampNeg z2)) (fun _ _ => none)) (ps' := [wd_Mo cs mo mr (fun _ => none) mf md (gMo PG hq), fm 8 (fPg cs PG), fo 13 (fPr cs hq qr QO131 QF132 QA133) p0.toNatClampNeg, wd_Mpr cs (hq p0.toNatClampNeg) (qr p0.toNatClampNeg) (fun _ => QO131 p0.toNatClampNeg) (upd (upd (QF132 p0.toNatClampNeg) 4 z156) 11 z154) (va_up (QA133 p0.toNatClampNeg) 19 (upd ((QA133 p0.toNatClampNeg) 19) (10 : Int32).toNatClampNeg z2)) (fun _ _ => none)]) rfl rfl (fun H locs hw => ?_)
            refine lv_iload S.x S.b d_Mo_rawCall_341 (lv_at hl 0 rfl) ?_
            have hw := fpr_in (pr := [wd_Mo cs mo mr (fun _ => none) mf md (gMo PG hq), fm 8 (fPg cs PG)]) hw hi142
            obtain ⟨QO157, hu_QO157⟩ : ∃ y : Nat → Option Nat, y = va_up QO131 p0.toNatClampNeg ((fun _ => QO131 p0.toNatClampNeg) 0) := ⟨_, rfl⟩
            obtain ⟨QF158, hu_QF158⟩ : ∃ y : Nat → Nat → Int32, y = va_up QF132 p0.toNatClampNeg (upd (upd (QF132 p0.toNatClampNeg) 4 z156) 11 z154) := ⟨_, rfl⟩
            obtain ⟨QA159, hu_QA159⟩ : ∃ y : Nat → Nat → Nat → Int32, y = va_up QA133 p0.toNatClampNeg (va_up (QA133 p0.toNatClampNeg) 19 (upd ((QA133 p0.toNatClampNeg) 19) (10 : Int32).toNatClampNeg z2)) := ⟨_, rfl⟩
            have hw : pw D A s.heap _ _ [wd_Mo cs mo mr (fun _ => none) mf md (gMo PG hq), fm 8 (fPg cs PG), fm 13 (fPr cs hq qr QO157 QF158 QA159)] := (by rw [hu_QO157, hu_QF158, hu_QA159]; exact hw)
            have hpr : PrA PG (va_up RR p0.toNatClampNeg (RR p0.toNatClampNeg - v135.toInt)) QO157 QF158 QA159 := (by rw [hu_QO157, hu_QF158, hu_QA159]; exact PrA.upR hpr (psr_raw (j := j9) hj9 hqo h66 (show (0 ≤ ((QF132 p0.toNatClampNeg) 1).toInt ∧ ((QF132 p0.toNatClampNeg) 1).toInt ≤ 1) ∧ (0 ≤ ((QF132 p0.toNatClampNeg) 21).toInt ∧ ((QF132 p0.toNatClampNeg) 21).toInt ≤ 4) ∧ (0 ≤ ((QF132 p0.toNatClampNeg) 23).toInt ∧ ((QF132 p0.toNatClampNeg) 23).toInt ≤ 4) ∧ (0 ≤ ((QF132 p0.toNatClampNeg) 24).toInt ∧ ((QF132 p0.toNatClampNeg) 24).toInt ≤ 1000000) ∧ (0 ≤ ((QF132 p0.toNatClampNeg) 6).toInt ∧ ((QF132 p0.toNatClampNeg) 6).toInt ≤ 3) ∧ (0 ≤ ((QF132 p0.toNatClampNeg) 7).toInt ∧ ((QF132 p0.toNatClampNeg) 7).toInt ≤ 1) from by omega) (show ((QF132 p0.toNatClampNeg) 1).toInt = 1 from by omega) (show 0 ≤ z156.toInt ∧ z156.toInt + 1 ≤ RR p0.toNatClampNeg - v135.toInt ∧ ((QF132 p0.toNatClampNeg) 24).toInt + z156.toInt ≤ 1600 from by omega)) (show ((QF132 p0.toNatClampNeg) 1).toInt = (QF132 p0.toNatClampNeg 1).toInt from by first | exact oz_507c05ca68 | omega) (show (QF132 p0.toNatClampNeg 6).toInt ≤ ((QF132 p0.toNatClampNeg) 6).toInt from by first | exact oz_1cb5f934a5 | omega))
            have hqo : OqE (QO157 p0.toNatClampNeg) (PG j9).h := (by rw [hu_QO157, va_up_s]; exact hqo)
            have hqk1_QF158 : (QF158 p0.toNatClampNeg 1).toInt = ((QF132 p0.toNatClampNeg) 1).toInt := (by rw [hu_QF158, va_up_s]; try rfl)
            have hqk2_QF158 : (QF158 p0.toNatClampNeg 2).toInt = ((QF132 p0.toNatClampNeg) 2).toInt := (by rw [hu_QF158, va_up_s]; try rfl)
            have hqk4_QF158 : (QF158 p0.toNatClampNeg 4).toInt = z156.toInt := (by rw [hu_QF158, va_up_s]; try rfl)
            have hqk24_QF158 : (QF158 p0.toNatClampNeg 24).toInt = ((QF132 p0.toNatClampNeg) 24).toInt := (by rw [hu_QF158, va_up_s]; try rfl)
            have hw : pw D A s.heap _ _ [wd_Mo cs mo mr (fun _ => none) mf md (gMo PG hq), fm 13 (fPr cs hq qr QO157 QF158 QA159), fm 8 (fPg cs PG)] := hw.sub [0, 2, 1] rfl rfl
            exact px_iret (v := v135) S hr (z_nar (by omega)) hlk hAe hw (Nat.le_of_ble_eq_true rfl) (Nat.le_of_ble_eq_true rfl) (⟨mf, md, QO157, QF158, QA159, rfl, (show 0 ≤ v135.toInt from by first | exact e138 | omega), (show v135.toInt ≤ 1 from by first | exact e139 | omega), (show PrA PG (va_up RR p0.toNatClampNeg (RR p0.toNatClampNeg - v135.toInt)) QO157 QF158 QA159 from hpr), (show (mf 0).toInt = (mf 0).toInt from rfl), (show (mf 2).toInt = (mf 2).toInt from rfl), (show (mf 3).toInt = (mf 3).toInt from rfl), (show (mf 7).toInt = (mf 7).toInt from rfl), (show (mf 8).toInt = (mf 8).toInt from rfl), (show (mf 10).toInt = (mf 10).toInt from rfl), (show Md1 md md from hmdq)⟩) d_Mo_rawCall_343
          · exact absurd c152 (by decide)
    · simp only [List.mem_cons, List.not_mem_nil, or_false] at c45
      refine lv_aload_n S.x S.b d_Mo_rawCall_162 rfl (lv_at hl 5 rfl) ?_
      refine lv_iload_n S.x S.b d_Mo_rawCall_163 rfl (lv_at hl 6 rfl) ?_
      refine lv_iload_n S.x S.b d_Mo_rawCall_164 rfl (lv_at hl 3 rfl) ?_
      have hw : pw D A s.heap _ _ [wd_Mo cs mo mr (fun _ => none) mf md (gMo PG hq), fm 8 (fPg cs PG), fm 13 (fPr cs hq qr QO QF QA)] := fm_back (pr := [wd_Mo cs mo mr (fun _ => none) mf md (gMo PG hq), fm 8 (fPg cs PG)]) (T := fPr cs hq qr QO QF QA) hw hi1
      have hw : pw D A s.heap _ _ [wd_Mo cs mo mr (fun _ => none) mf md (gMo PG hq), fm 13 (fPr cs hq qr QO QF QA), fm 8 (fPg cs PG)] := hw.sub [0, 2, 1] rfl rfl
      refine px_calli (pr := []) (px_runV (As := [.int p0, .int z2]) (rest := []) S (c_mo_receives l D cs RR mo mr md mf hq qr QO QF QA PG p0 z2  (show 0 ≤ p0.toInt from by first | exact g0 | omega) (show p0.toInt < 13 from by first | exact g1 | omega) hpr hpg _) hT (pr := []) (pcs := [wd_Mo cs mo mr (fun _ => none) mf md (gMo PG hq), fm 13 (fPr cs hq qr QO QF QA), fm 8 (fPg cs PG)]) hw px_X.tt (px_recv hT hw 0 0 rfl rfl rfl) m14_66 m14_63 m14_65 ms_16_1 m1_20 q_Mo_receives ⟨Nat.le_of_ble_eq_true rfl, Nat.le_of_ble_eq_true rfl⟩ hl.1 rfl (Nat.le_of_ble_eq_true rfl) d_Mo_rawCall_165 ⟨Nat.le_of_ble_eq_true rfl, Nat.le_of_ble_eq_true rfl⟩) hw hA (fun v169 p168 H locs hp168 hw => ?_)
      obtain ⟨mf164, QO165, QF166, QA167, rfl, e170, e171, e172, e173, e174, e175, e176, e177, e178, e179⟩ := hp168
      have e170 : PrA PG RR QO165 QF166 QA167 := e170
      have hpr := e170
      have e171 : KpP QO QF QA QO165 QF166 QA167 p0.toNatClampNeg := e171
      have hkw : KpW QO QF QO165 QF166 p0.toNatClampNeg := ⟨(e171.1).trans hkw.1, hkw.2.tr e171.2.1⟩
      have hqo : OqE (QO165 p0.toNatClampNeg) (PG j9).h := hkw.1.trans hqoE
      have hkf := hkw.2
      unfold KpF at hkf
      have e172 : (mf164 0).toInt = (mf 0).toInt := e172
      have e173 : (mf164 2).toInt = (mf 2).toInt := e173
      have e174 : (mf164 3).toInt = (mf 3).toInt := e174
      have e175 : (mf164 7).toInt = (mf 7).toInt := e175
      have e176 : (mf164 8).toInt = (mf 8).toInt := e176
      have e177 : (mf164 10).toInt = (mf 10).toInt := e177
      have e178 : 0 ≤ v169.toInt := e178
      have e179 : v169.toInt ≤ 1 := e179
      have hw : pw D A s.heap H locs [wd_Mo cs mo mr (fun _ => none) mf164 md (gMo PG hq), fm 13 (fPr cs hq qr QO165 QF166 QA167), fm 8 (fPg cs PG)] := hw
      have lv169 := Int32.le_toInt v169
      have uv169 := Int32.toInt_lt v169
      refine lv_istore (lv' := [(5, .int v169), (6, .int 0), (4, .int z3), (3, .int z2), (2, .ref (hq p0.toNatClampNeg)), (0, .ref mo), (1, .int p0)]) S.x S.b d_Mo_rawCall_168 hl (by decide) rfl (fun ls hl => ?_)
      refine lv_iconst (v := 1) S.x S.b d_Mo_rawCall_170 (by decide) ?_
      refine lv_istore (lv' := [(6, .int 1), (5, .int v169), (4, .int z3), (3, .int z2), (2, .ref (hq p0.toNatClampNeg)), (0, .ref mo), (1, .int p0)]) S.x S.b d_Mo_rawCall_171 hl (by decide) rfl (fun ls hl => ?_)
      refine lv_goto (tgt := 289) S.x S.b d_Mo_rawCall_173 (by decide) ?_
      refine lv_iload S.x S.b d_Mo_rawCall_289 (lv_at hl 1 rfl) ?_
      refine lv_if_eq (tgt := 341) S.x S.b d_Mo_rawCall_291 (by decide) (fun c180 => ?_) (fun c180 => ?_)
      · have nc180 : v169.toInt = (0 : Int) := (i_eq (x := v169) (y := 0)).mp c180
        refine lv_iload S.x S.b d_Mo_rawCall_341 (lv_at hl 1 rfl) ?_
        exact px_iret (v := v169) S hr (z_nar (by omega)) hlk hAe hw (Nat.le_of_ble_eq_true rfl) (Nat.le_of_ble_eq_true rfl) (⟨mf164, md, QO165, QF166, QA167, rfl, (show 0 ≤ v169.toInt from by first | exact e178 | omega), (show v169.toInt ≤ 1 from by first | exact e179 | omega), (show PrA PG (va_up RR p0.toNatClampNeg (RR p0.toNatClampNeg - v169.toInt)) QO165 QF166 QA167 from (hpr.rs (by omega))), (show (mf164 0).toInt = (mf 0).toInt from by first | exact e172 | omega), (show (mf164 2).toInt = (mf 2).toInt from by first | exact e173 | omega), (show (mf164 3).toInt = (mf 3).toInt from by first | exact e174 | omega), (show (mf164 7).toInt = (mf 7).toInt from by first | exact e175 | omega), (show (mf164 8).toInt = (mf 8).toInt from by first | exact e176 | omega), (show (mf164 10).toInt = (mf 10).toInt from by first | exact e177 | omega), (show Md1 md md from hmdq)⟩) d_Mo_rawCall_343
      · have nc180 : ¬ v169.toInt = (0 : Int) := mt (i_eq (x := v169) (y := 0)).mpr c180
        refine lv_aload_n S.x S.b d_Mo_rawCall_294 rfl (lv_at hl 4 rfl) ?_
        have hw : pw D A s.heap _ _ [wd_Mo cs mo mr (fun _ => none) mf164 md (gMo PG hq), fm 8 (fPg cs PG), fm 13 (fPr cs hq qr QO165 QF166 QA167)] := hw.sub [0, 2, 1] rfl rfl
        have hc182 := cl_nat (x := p0) (by first | exact g0 | omega)
        have hi182 : p0.toNatClampNeg < 13 := by first | exact hi1 | omega
        have hw : pw D A s.heap _ _ [wd_Mo cs mo mr (fun _ => none) mf164 md (gMo PG hq), fm 8 (fPg cs PG), fo 13 (fPr cs hq qr QO165 QF166 QA167) p0.toNatClampNeg, wd_Mpr cs (hq p0.toNatClampNeg) (qr p0.toNatClampNeg) (fun _ => QO165 p0.toNatClampNeg) (QF166 p0.toNatClampNeg) (QA167 p0.toNatClampNeg) (fun _ _ => none)] := fm_out (pr := [wd_Mo cs mo mr (fun _ => none) mf164 md (gMo PG hq), fm 8 (fPg cs PG)]) (T := fPr cs hq qr QO165 QF166 QA167) hw hi182
        have hps182 := hpr.1 p0.toNatClampNeg hi182
        have hpb182 := hps182.1
        unfold PsB at hpb182
        refine px_calli (pr := [wd_Mo cs mo mr (fun _ => none) mf164 md (gMo PG hq), fm 8 (fPg cs PG), fo 13 (fPr cs hq qr QO165 QF166 QA167) p0.toNatClampNeg]) (px_runV (As := []) (rest := []) S (c_mq_isGoing l D cs (hq p0.toNatClampNeg) (qr p0.toNatClampNeg) (fun _ _ => none) (fun _ => QO165 p0.toNatClampNeg) (QF166 p0.toNatClampNeg) (QA167 p0.toNatClampNeg)    _) hT (pr := [wd_Mo cs mo mr (fun _ => none) mf164 md (gMo PG hq), fm 8 (fPg cs PG), fo 13 (fPr cs hq qr QO165 QF166 QA167) p0.toNatClampNeg]) (pcs := [wd_Mpr cs (hq p0.toNatClampNeg) (qr p0.toNatClampNeg) (fun _ => QO165 p0.toNatClampNeg) (QF166 p0.toNatClampNeg) (QA167 p0.toNatClampNeg) (fun _ _ => none)]) hw px_X.tt (px_recv hT hw 3 0 rfl rfl rfl) m13_165 m13_162 m13_163 m13_164 m1_22 q_Mpr_isGoing ⟨Nat.le_of_ble_eq_true rfl, Nat.le_of_ble_eq_true rfl⟩ hl.1 rfl (Nat.le_of_ble_eq_true rfl) d_Mo_rawCall_295 ⟨Nat.le_of_ble_eq_true rfl, Nat.le_of_ble_eq_true rfl⟩) hw hA (fun v184 p183 H locs hp183 hw => ?_)
        obtain ⟨rfl, e185, e186, e187, e188, e189⟩ := hp183
        have e185 : 0 ≤ v184.toInt := e185
        have e186 : v184.toInt ≤ 1 := e186
        have e187 : v184.toInt = 1 → ((QF166 p0.toNatClampNeg) 1).toInt ≠ 0 := e187
        have e188 : v184.toInt = 1 → ((QF166 p0.toNatClampNeg) 2).toInt = -2 := e188
        have e189 : ((QF166 p0.toNatClampNeg) 1).toInt ≠ 0 → ((QF166 p0.toNatClampNeg) 2).toInt = -2 → v184.toInt = 1 := e189
        have hw : pw D A s.heap H locs [wd_Mo cs mo mr (fun _ => none) mf164 md (gMo PG hq), fm 8 (fPg cs PG), fo 13 (fPr cs hq qr QO165 QF166 QA167) p0.toNatClampNeg, wd_Mpr cs (hq p0.toNatClampNeg) (qr p0.toNatClampNeg) (fun _ => QO165 p0.toNatClampNeg) (QF166 p0.toNatClampNeg) (QA167 p0.toNatClampNeg) (fun _ _ => none)] := hw
        have lv184 := Int32.le_toInt v184
        have uv184 := Int32.toInt_lt v184
        refine lv_if_eq (tgt := 341) S.x S.b d_Mo_rawCall_298 (by decide) (fun c190 => ?_) (fun c190 => ?_)
        · have nc190 : v184.toInt = (0 : Int) := (i_eq (x := v184) (y := 0)).mp c190
          refine lv_iload S.x S.b d_Mo_rawCall_341 (lv_at hl 1 rfl) ?_
          have hw : pw D A s.heap _ _ [wd_Mo cs mo mr (fun _ => none) mf164 md (gMo PG hq), fm 8 (fPg cs PG), fm 13 (fPr cs hq qr QO165 QF166 QA167)] := fm_back (pr := [wd_Mo cs mo mr (fun _ => none) mf164 md (gMo PG hq), fm 8 (fPg cs PG)]) (T := fPr cs hq qr QO165 QF166 QA167) hw hi182
          have hw : pw D A s.heap _ _ [wd_Mo cs mo mr (fun _ => none) mf164 md (gMo PG hq), fm 13 (fPr cs hq qr QO165 QF166 QA167), fm 8 (fPg cs PG)] := hw.sub [0, 2, 1] rfl rfl
          exact px_iret (v := v169) S hr (z_nar (by omega)) hlk hAe hw (Nat.le_of_ble_eq_true rfl) (Nat.le_of_ble_eq_true rfl) (⟨mf164, md, QO165, QF166, QA167, rfl, (show 0 ≤ v169.toInt from by first | exact e178 | omega), (show v169.toInt ≤ 1 from by first | exact e179 | omega), (show PrA PG (va_up RR p0.toNatClampNeg (RR p0.toNatClampNeg - v169.toInt)) QO165 QF166 QA167 from (hpr.low (by omega) (by omega) (by omega) (by have q9 := cl_nat (x := p0) (by first | exact g0 | omega); omega))), (show (mf164 0).toInt = (mf 0).toInt from by first | exact e172 | omega), (show (mf164 2).toInt = (mf 2).toInt from by first | exact e173 | omega), (show (mf164 3).toInt = (mf 3).toInt from by first | exact e174 | omega), (show (mf164 7).toInt = (mf 7).toInt from by first | exact e175 | omega), (show (mf164 8).toInt = (mf 8).toInt from by first | exact e176 | omega), (show (mf164 10).toInt = (mf 10).toInt from by first | exact e177 | omega), (show Md1 md md from hmdq)⟩) d_Mo_rawCall_343
        · have nc190 : ¬ v184.toInt = (0 : Int) := mt (i_eq (x := v184) (y := 0)).mpr c190
          refine lv_aload_n S.x S.b d_Mo_rawCall_301 rfl (lv_at hl 4 rfl) ?_
          refine px_get S k_Mpr hT hw 3 0 19 (v := .ref ((qr p0.toNatClampNeg) 19)) rfl rfl rfl (by decide) m11_12 d_Mo_rawCall_302 ?_
          refine lv_bipush (v := 10) S.x S.b d_Mo_rawCall_305 (by decide) ?_
          refine lv_iload S.x S.b d_Mo_rawCall_307 (lv_at hl 0 rfl) ?_
          refine lv_if_eq (tgt := 319) S.x S.b d_Mo_rawCall_309 (by decide) (fun c192 => ?_) (fun c192 => ?_)
          · exact absurd c192 (by decide)
          ·
            refine lv_aload_n S.x S.b d_Mo_rawCall_312 rfl (lv_at hl 5 rfl) ?_
            refine px_get S k_Mo hT hw 0 0 9 (v := .int (mf164 9)) rfl rfl rfl (by decide) m11_87 d_Mo_rawCall_313 ?_
            refine lv_goto (tgt := 320) S.x S.b d_Mo_rawCall_316 (by decide) ?_
            refine px_iast S hT hw 3 7 (n := 32) (f := ((QA167 p0.toNatClampNeg) 19)) (x := 10) (y := (mf164 9)) rfl (ga_Mpr_19 _ _ _ _ _ _ _) (vp_in_iff.mpr (by constructor <;> omega)) d_Mo_rawCall_320 (w' := wd_Mpr cs (hq p0.toNatClampNeg) (qr p0.toNatClampNeg) (fun _ => QO165 p0.toNatClampNeg) (QF166 p0.toNatClampNeg) (va_up (QA167 p0.toNatClampNeg) 19 (upd ((QA167 p0.toNatClampNeg) 19) (10 : Int32).toNatClampNeg (mf164 9))) (fun _ _ => none)) (ps' := [wd_Mo cs mo mr (fun _ => none) mf164 md (gMo PG hq), fm 8 (fPg cs PG), fo 13 (fPr cs hq qr QO165 QF166 QA167) p0.toNatClampNeg, wd_Mpr cs (hq p0.toNatClampNeg) (qr p0.toNatClampNeg) (fun _ => QO165 p0.toNatClampNeg) (QF166 p0.toNatClampNeg) (va_up (QA167 p0.toNatClampNeg) 19 (upd ((QA167 p0.toNatClampNeg) 19) (10 : Int32).toNatClampNeg (mf164 9))) (fun _ _ => none)]) (sa_Mpr_19 _ _ _ _ _ _ _ _) rfl (fun H locs hw => ?_)
            refine lv_aload_n S.x S.b d_Mo_rawCall_321 rfl (lv_at hl 4 rfl) ?_
            refine lv_aload_n S.x S.b d_Mo_rawCall_322 rfl (lv_at hl 4 rfl) ?_
            refine px_get S k_Mpr hT hw 3 0 11 (v := .int ((QF166 p0.toNatClampNeg) 11)) rfl rfl rfl (by decide) m11_3 d_Mo_rawCall_323 ?_
            refine lv_iconst (v := 4) S.x S.b d_Mo_rawCall_326 (by decide) ?_
            refine lv_iadd S.x S.b d_Mo_rawCall_327 ?_
            have lr193 := Int32.le_toInt ((QF166 p0.toNatClampNeg) 11)
            have ur193 := Int32.toInt_lt ((QF166 p0.toNatClampNeg) 11)
            refine lv_topi (fun z194 ez194 => ?_)
            have tz194 : z194.toInt = (((QF166 p0.toNatClampNeg) 11).toInt + (4 : Int) + 2147483648) % 4294967296 - 2147483648 := by rw [ez194]; exact i_add ((QF166 p0.toNatClampNeg) 11) 4
            have lz194 := Int32.le_toInt z194
            have uz194 := Int32.toInt_lt z194
            try replace tz194 : z194.toInt = ((QF166 p0.toNatClampNeg) 11).toInt + (4 : Int) := by omega
            refine px_put S k_Mpr hT hw 3 0 11 rfl rfl (by decide) m11_3 rfl rfl rfl (Nat.le_of_ble_eq_true rfl) d_Mo_rawCall_328 (w' := wd_Mpr cs (hq p0.toNatClampNeg) (qr p0.toNatClampNeg) (fun _ => QO165 p0.toNatClampNeg) (upd (QF166 p0.toNatClampNeg) 11 z194) (va_up (QA167 p0.toNatClampNeg) 19 (upd ((QA167 p0.toNatClampNeg) 19) (10 : Int32).toNatClampNeg (mf164 9))) (fun _ _ => none)) (ps' := [wd_Mo cs mo mr (fun _ => none) mf164 md (gMo PG hq), fm 8 (fPg cs PG), fo 13 (fPr cs hq qr QO165 QF166 QA167) p0.toNatClampNeg, wd_Mpr cs (hq p0.toNatClampNeg) (qr p0.toNatClampNeg) (fun _ => QO165 p0.toNatClampNeg) (upd (QF166 p0.toNatClampNeg) 11 z194) (va_up (QA167 p0.toNatClampNeg) 19 (upd ((QA167 p0.toNatClampNeg) 19) (10 : Int32).toNatClampNeg (mf164 9))) (fun _ _ => none)]) rfl rfl (fun H locs hw => ?_)
            refine lv_aload_n S.x S.b d_Mo_rawCall_331 rfl (lv_at hl 4 rfl) ?_
            refine lv_dup S.x S.b d_Mo_rawCall_332 rfl ?_
            refine px_get S k_Mpr hT hw 3 0 4 (v := .int ((QF166 p0.toNatClampNeg) 4)) rfl rfl rfl (by decide) m10_230 d_Mo_rawCall_333 ?_
            refine lv_iconst (v := 1) S.x S.b d_Mo_rawCall_336 (by decide) ?_
            refine lv_isub S.x S.b d_Mo_rawCall_337 ?_
            have lr195 := Int32.le_toInt ((QF166 p0.toNatClampNeg) 4)
            have ur195 := Int32.toInt_lt ((QF166 p0.toNatClampNeg) 4)
            refine lv_topi (fun z196 ez196 => ?_)
            have tz196 : z196.toInt = (((QF166 p0.toNatClampNeg) 4).toInt - (1 : Int) + 2147483648) % 4294967296 - 2147483648 := by rw [ez196]; exact i_sub ((QF166 p0.toNatClampNeg) 4) 1
            have lz196 := Int32.le_toInt z196
            have uz196 := Int32.toInt_lt z196
            try replace tz196 : z196.toInt = ((QF166 p0.toNatClampNeg) 4).toInt - (1 : Int) := by omega
            refine px_put S k_Mpr hT hw 3 0 4 rfl rfl (by decide) m10_230 rfl rfl rfl (Nat.le_of_ble_eq_true rfl) d_Mo_rawCall_338 (w' := wd_Mpr cs (hq p0.toNatClampNeg) (qr p0.toNatClampNeg) (fun _ => QO165 p0.toNatClampNeg) (upd (upd (QF166 p0.toNatClampNeg) 4 z196) 11 z194) (va_up (QA167 p0.toNatClampNeg) 19 (upd ((QA167 p0.toNatClampNeg) 19) (10 : Int32).toNatClampNeg (mf164 9))) (fun _ _ => none)) (ps' := [wd_Mo cs mo mr (fun _ => none) mf164 md (gMo PG hq), fm 8 (fPg cs PG), fo 13 (fPr cs hq qr QO165 QF166 QA167) p0.toNatClampNeg, wd_Mpr cs (hq p0.toNatClampNeg) (qr p0.toNatClampNeg) (fun _ => QO165 p0.toNatClampNeg) (upd (upd (QF166 p0.toNatClampNeg) 4 z196) 11 z194) (va_up (QA167 p0.toNatClampNeg) 19 (upd ((QA167 p0.toNatClampNeg) 19) (10 : Int32).toNatClampNeg (mf164 9))) (fun _ _ => none)]) rfl rfl (fun H locs hw => ?_)
            refine lv_iload S.x S.b d_Mo_rawCall_341 (lv_at hl 1 rfl) ?_
            have hw := fpr_in (pr := [wd_Mo cs mo mr (fun _ => none) mf164 md (gMo PG hq), fm 8 (fPg cs PG)]) hw hi182
            obtain ⟨QO197, hu_QO197⟩ : ∃ y : Nat → Option Nat, y = va_up QO165 p0.toNatClampNeg ((fun _ => QO165 p0.toNatClampNeg) 0) := ⟨_, rfl⟩
            obtain ⟨QF198, hu_QF198⟩ : ∃ y : Nat → Nat → Int32, y = va_up QF166 p0.toNatClampNeg (upd (upd (QF166 p0.toNatClampNeg) 4 z196) 11 z194) := ⟨_, rfl⟩
            obtain ⟨QA199, hu_QA199⟩ : ∃ y : Nat → Nat → Nat → Int32, y = va_up QA167 p0.toNatClampNeg (va_up (QA167 p0.toNatClampNeg) 19 (upd ((QA167 p0.toNatClampNeg) 19) (10 : Int32).toNatClampNeg (mf164 9))) := ⟨_, rfl⟩
            have hw : pw D A s.heap _ _ [wd_Mo cs mo mr (fun _ => none) mf164 md (gMo PG hq), fm 8 (fPg cs PG), fm 13 (fPr cs hq qr QO197 QF198 QA199)] := (by rw [hu_QO197, hu_QF198, hu_QA199]; exact hw)
            have hpr : PrA PG (va_up RR p0.toNatClampNeg (RR p0.toNatClampNeg - v169.toInt)) QO197 QF198 QA199 := (by rw [hu_QO197, hu_QF198, hu_QA199]; exact PrA.upR hpr (psr_raw (j := j9) hj9 hqo h66 (show (0 ≤ ((QF166 p0.toNatClampNeg) 1).toInt ∧ ((QF166 p0.toNatClampNeg) 1).toInt ≤ 1) ∧ (0 ≤ ((QF166 p0.toNatClampNeg) 21).toInt ∧ ((QF166 p0.toNatClampNeg) 21).toInt ≤ 4) ∧ (0 ≤ ((QF166 p0.toNatClampNeg) 23).toInt ∧ ((QF166 p0.toNatClampNeg) 23).toInt ≤ 4) ∧ (0 ≤ ((QF166 p0.toNatClampNeg) 24).toInt ∧ ((QF166 p0.toNatClampNeg) 24).toInt ≤ 1000000) ∧ (0 ≤ ((QF166 p0.toNatClampNeg) 6).toInt ∧ ((QF166 p0.toNatClampNeg) 6).toInt ≤ 3) ∧ (0 ≤ ((QF166 p0.toNatClampNeg) 7).toInt ∧ ((QF166 p0.toNatClampNeg) 7).toInt ≤ 1) from by omega) (show ((QF166 p0.toNatClampNeg) 1).toInt = 1 from by omega) (show 0 ≤ z196.toInt ∧ z196.toInt + 1 ≤ RR p0.toNatClampNeg - v169.toInt ∧ ((QF166 p0.toNatClampNeg) 24).toInt + z196.toInt ≤ 1600 from by omega)) (show ((QF166 p0.toNatClampNeg) 1).toInt = (QF166 p0.toNatClampNeg 1).toInt from by first | exact oz_507c05ca68 | omega) (show (QF166 p0.toNatClampNeg 6).toInt ≤ ((QF166 p0.toNatClampNeg) 6).toInt from by first | exact oz_1cb5f934a5 | omega))
            have hqo : OqE (QO197 p0.toNatClampNeg) (PG j9).h := (by rw [hu_QO197, va_up_s]; exact hqo)
            have hqk1_QF198 : (QF198 p0.toNatClampNeg 1).toInt = ((QF166 p0.toNatClampNeg) 1).toInt := (by rw [hu_QF198, va_up_s]; try rfl)
            have hqk2_QF198 : (QF198 p0.toNatClampNeg 2).toInt = ((QF166 p0.toNatClampNeg) 2).toInt := (by rw [hu_QF198, va_up_s]; try rfl)
            have hqk4_QF198 : (QF198 p0.toNatClampNeg 4).toInt = z196.toInt := (by rw [hu_QF198, va_up_s]; try rfl)
            have hqk24_QF198 : (QF198 p0.toNatClampNeg 24).toInt = ((QF166 p0.toNatClampNeg) 24).toInt := (by rw [hu_QF198, va_up_s]; try rfl)
            have hw : pw D A s.heap _ _ [wd_Mo cs mo mr (fun _ => none) mf164 md (gMo PG hq), fm 13 (fPr cs hq qr QO197 QF198 QA199), fm 8 (fPg cs PG)] := hw.sub [0, 2, 1] rfl rfl
            exact px_iret (v := v169) S hr (z_nar (by omega)) hlk hAe hw (Nat.le_of_ble_eq_true rfl) (Nat.le_of_ble_eq_true rfl) (⟨mf164, md, QO197, QF198, QA199, rfl, (show 0 ≤ v169.toInt from by first | exact e178 | omega), (show v169.toInt ≤ 1 from by first | exact e179 | omega), (show PrA PG (va_up RR p0.toNatClampNeg (RR p0.toNatClampNeg - v169.toInt)) QO197 QF198 QA199 from hpr), (show (mf164 0).toInt = (mf 0).toInt from by first | exact e172 | omega), (show (mf164 2).toInt = (mf 2).toInt from by first | exact e173 | omega), (show (mf164 3).toInt = (mf 3).toInt from by first | exact e174 | omega), (show (mf164 7).toInt = (mf 7).toInt from by first | exact e175 | omega), (show (mf164 8).toInt = (mf 8).toInt from by first | exact e176 | omega), (show (mf164 10).toInt = (mf 10).toInt from by first | exact e177 | omega), (show Md1 md md from hmdq)⟩) d_Mo_rawCall_343
    · simp only [List.mem_cons, List.not_mem_nil, or_false] at c45
      refine lv_aload_n S.x S.b d_Mo_rawCall_176 rfl (lv_at hl 5 rfl) ?_
      refine lv_iload_n S.x S.b d_Mo_rawCall_177 rfl (lv_at hl 6 rfl) ?_
      refine lv_iload_n S.x S.b d_Mo_rawCall_178 rfl (lv_at hl 3 rfl) ?_
      have hw : pw D A s.heap _ _ [wd_Mo cs mo mr (fun _ => none) mf md (gMo PG hq), fm 8 (fPg cs PG), fm 13 (fPr cs hq qr QO QF QA)] := fm_back (pr := [wd_Mo cs mo mr (fun _ => none) mf md (gMo PG hq), fm 8 (fPg cs PG)]) (T := fPr cs hq qr QO QF QA) hw hi1
      have hw : pw D A s.heap _ _ [wd_Mo cs mo mr (fun _ => none) mf md (gMo PG hq), fm 13 (fPr cs hq qr QO QF QA), fm 8 (fPg cs PG)] := hw.sub [0, 2, 1] rfl rfl
      refine px_calli (pr := []) (px_runV (As := [.int p0, .int z2]) (rest := []) S (c_mo_asksMore l D cs RR mo mr md mf hq qr QO QF QA PG p0 z2  (show 0 ≤ p0.toInt from by first | exact g0 | omega) (show p0.toInt < 13 from by first | exact g1 | omega) hpr hpg _) hT (pr := []) (pcs := [wd_Mo cs mo mr (fun _ => none) mf md (gMo PG hq), fm 13 (fPr cs hq qr QO QF QA), fm 8 (fPg cs PG)]) hw px_X.tt (px_recv hT hw 0 0 rfl rfl rfl) m14_78 m14_75 m14_77 ms_16_4 m1_20 q_Mo_asksMore ⟨Nat.le_of_ble_eq_true rfl, Nat.le_of_ble_eq_true rfl⟩ hl.1 rfl (Nat.le_of_ble_eq_true rfl) d_Mo_rawCall_179 ⟨Nat.le_of_ble_eq_true rfl, Nat.le_of_ble_eq_true rfl⟩) hw hA (fun v209 p208 H locs hp208 hw => ?_)
      obtain ⟨mf204, QO205, QF206, QA207, rfl, e210, e211, e212, e213, e214, e215, e216, e217, e218, e219⟩ := hp208
      have e210 : PrA PG RR QO205 QF206 QA207 := e210
      have hpr := e210
      have e211 : KpP QO QF QA QO205 QF206 QA207 p0.toNatClampNeg := e211
      have hkw : KpW QO QF QO205 QF206 p0.toNatClampNeg := ⟨(e211.1).trans hkw.1, hkw.2.tr e211.2.1⟩
      have hqo : OqE (QO205 p0.toNatClampNeg) (PG j9).h := hkw.1.trans hqoE
      have hkf := hkw.2
      unfold KpF at hkf
      have e212 : (mf204 0).toInt = (mf 0).toInt := e212
      have e213 : (mf204 2).toInt = (mf 2).toInt := e213
      have e214 : (mf204 3).toInt = (mf 3).toInt := e214
      have e215 : (mf204 7).toInt = (mf 7).toInt := e215
      have e216 : (mf204 8).toInt = (mf 8).toInt := e216
      have e217 : (mf204 10).toInt = (mf 10).toInt := e217
      have e218 : 0 ≤ v209.toInt := e218
      have e219 : v209.toInt ≤ 1 := e219
      have hw : pw D A s.heap H locs [wd_Mo cs mo mr (fun _ => none) mf204 md (gMo PG hq), fm 13 (fPr cs hq qr QO205 QF206 QA207), fm 8 (fPg cs PG)] := hw
      have lv209 := Int32.le_toInt v209
      have uv209 := Int32.toInt_lt v209
      refine lv_istore (lv' := [(5, .int v209), (6, .int 0), (4, .int z3), (3, .int z2), (2, .ref (hq p0.toNatClampNeg)), (0, .ref mo), (1, .int p0)]) S.x S.b d_Mo_rawCall_182 hl (by decide) rfl (fun ls hl => ?_)
      refine lv_iconst (v := 1) S.x S.b d_Mo_rawCall_184 (by decide) ?_
      refine lv_istore (lv' := [(6, .int 1), (5, .int v209), (4, .int z3), (3, .int z2), (2, .ref (hq p0.toNatClampNeg)), (0, .ref mo), (1, .int p0)]) S.x S.b d_Mo_rawCall_185 hl (by decide) rfl (fun ls hl => ?_)
      refine lv_goto (tgt := 289) S.x S.b d_Mo_rawCall_187 (by decide) ?_
      refine lv_iload S.x S.b d_Mo_rawCall_289 (lv_at hl 1 rfl) ?_
      refine lv_if_eq (tgt := 341) S.x S.b d_Mo_rawCall_291 (by decide) (fun c220 => ?_) (fun c220 => ?_)
      · have nc220 : v209.toInt = (0 : Int) := (i_eq (x := v209) (y := 0)).mp c220
        refine lv_iload S.x S.b d_Mo_rawCall_341 (lv_at hl 1 rfl) ?_
        exact px_iret (v := v209) S hr (z_nar (by omega)) hlk hAe hw (Nat.le_of_ble_eq_true rfl) (Nat.le_of_ble_eq_true rfl) (⟨mf204, md, QO205, QF206, QA207, rfl, (show 0 ≤ v209.toInt from by first | exact e218 | omega), (show v209.toInt ≤ 1 from by first | exact e219 | omega), (show PrA PG (va_up RR p0.toNatClampNeg (RR p0.toNatClampNeg - v209.toInt)) QO205 QF206 QA207 from (hpr.rs (by omega))), (show (mf204 0).toInt = (mf 0).toInt from by first | exact e212 | omega), (show (mf204 2).toInt = (mf 2).toInt from by first | exact e213 | omega), (show (mf204 3).toInt = (mf 3).toInt from by first | exact e214 | omega), (show (mf204 7).toInt = (mf 7).toInt from by first | exact e215 | omega), (show (mf204 8).toInt = (mf 8).toInt from by first | exact e216 | omega), (show (mf204 10).toInt = (mf 10).toInt from by first | exact e217 | omega), (show Md1 md md from hmdq)⟩) d_Mo_rawCall_343
      · have nc220 : ¬ v209.toInt = (0 : Int) := mt (i_eq (x := v209) (y := 0)).mpr c220
        refine lv_aload_n S.x S.b d_Mo_rawCall_294 rfl (lv_at hl 4 rfl) ?_
        have hw : pw D A s.heap _ _ [wd_Mo cs mo mr (fun _ => none) mf204 md (gMo PG hq), fm 8 (fPg cs PG), fm 13 (fPr cs hq qr QO205 QF206 QA207)] := hw.sub [0, 2, 1] rfl rfl
        have hc222 := cl_nat (x := p0) (by first | exact g0 | omega)
        have hi222 : p0.toNatClampNeg < 13 := by first | exact hi1 | omega
        have hw : pw D A s.heap _ _ [wd_Mo cs mo mr (fun _ => none) mf204 md (gMo PG hq), fm 8 (fPg cs PG), fo 13 (fPr cs hq qr QO205 QF206 QA207) p0.toNatClampNeg, wd_Mpr cs (hq p0.toNatClampNeg) (qr p0.toNatClampNeg) (fun _ => QO205 p0.toNatClampNeg) (QF206 p0.toNatClampNeg) (QA207 p0.toNatClampNeg) (fun _ _ => none)] := fm_out (pr := [wd_Mo cs mo mr (fun _ => none) mf204 md (gMo PG hq), fm 8 (fPg cs PG)]) (T := fPr cs hq qr QO205 QF206 QA207) hw hi222
        have hps222 := hpr.1 p0.toNatClampNeg hi222
        have hpb222 := hps222.1
        unfold PsB at hpb222
        refine px_calli (pr := [wd_Mo cs mo mr (fun _ => none) mf204 md (gMo PG hq), fm 8 (fPg cs PG), fo 13 (fPr cs hq qr QO205 QF206 QA207) p0.toNatClampNeg]) (px_runV (As := []) (rest := []) S (c_mq_isGoing l D cs (hq p0.toNatClampNeg) (qr p0.toNatClampNeg) (fun _ _ => none) (fun _ => QO205 p0.toNatClampNeg) (QF206 p0.toNatClampNeg) (QA207 p0.toNatClampNeg)    _) hT (pr := [wd_Mo cs mo mr (fun _ => none) mf204 md (gMo PG hq), fm 8 (fPg cs PG), fo 13 (fPr cs hq qr QO205 QF206 QA207) p0.toNatClampNeg]) (pcs := [wd_Mpr cs (hq p0.toNatClampNeg) (qr p0.toNatClampNeg) (fun _ => QO205 p0.toNatClampNeg) (QF206 p0.toNatClampNeg) (QA207 p0.toNatClampNeg) (fun _ _ => none)]) hw px_X.tt (px_recv hT hw 3 0 rfl rfl rfl) m13_165 m13_162 m13_163 m13_164 m1_22 q_Mpr_isGoing ⟨Nat.le_of_ble_eq_true rfl, Nat.le_of_ble_eq_true rfl⟩ hl.1 rfl (Nat.le_of_ble_eq_true rfl) d_Mo_rawCall_295 ⟨Nat.le_of_ble_eq_true rfl, Nat.le_of_ble_eq_true rfl⟩) hw hA (fun v224 p223 H locs hp223 hw => ?_)
        obtain ⟨rfl, e225, e226, e227, e228, e229⟩ := hp223
        have e225 : 0 ≤ v224.toInt := e225
        have e226 : v224.toInt ≤ 1 := e226
        have e227 : v224.toInt = 1 → ((QF206 p0.toNatClampNeg) 1).toInt ≠ 0 := e227
        have e228 : v224.toInt = 1 → ((QF206 p0.toNatClampNeg) 2).toInt = -2 := e228
        have e229 : ((QF206 p0.toNatClampNeg) 1).toInt ≠ 0 → ((QF206 p0.toNatClampNeg) 2).toInt = -2 → v224.toInt = 1 := e229
        have hw : pw D A s.heap H locs [wd_Mo cs mo mr (fun _ => none) mf204 md (gMo PG hq), fm 8 (fPg cs PG), fo 13 (fPr cs hq qr QO205 QF206 QA207) p0.toNatClampNeg, wd_Mpr cs (hq p0.toNatClampNeg) (qr p0.toNatClampNeg) (fun _ => QO205 p0.toNatClampNeg) (QF206 p0.toNatClampNeg) (QA207 p0.toNatClampNeg) (fun _ _ => none)] := hw
        have lv224 := Int32.le_toInt v224
        have uv224 := Int32.toInt_lt v224
        refine lv_if_eq (tgt := 341) S.x S.b d_Mo_rawCall_298 (by decide) (fun c230 => ?_) (fun c230 => ?_)
        · have nc230 : v224.toInt = (0 : Int) := (i_eq (x := v224) (y := 0)).mp c230
          refine lv_iload S.x S.b d_Mo_rawCall_341 (lv_at hl 1 rfl) ?_
          have hw : pw D A s.heap _ _ [wd_Mo cs mo mr (fun _ => none) mf204 md (gMo PG hq), fm 8 (fPg cs PG), fm 13 (fPr cs hq qr QO205 QF206 QA207)] := fm_back (pr := [wd_Mo cs mo mr (fun _ => none) mf204 md (gMo PG hq), fm 8 (fPg cs PG)]) (T := fPr cs hq qr QO205 QF206 QA207) hw hi222
          have hw : pw D A s.heap _ _ [wd_Mo cs mo mr (fun _ => none) mf204 md (gMo PG hq), fm 13 (fPr cs hq qr QO205 QF206 QA207), fm 8 (fPg cs PG)] := hw.sub [0, 2, 1] rfl rfl
          exact px_iret (v := v209) S hr (z_nar (by omega)) hlk hAe hw (Nat.le_of_ble_eq_true rfl) (Nat.le_of_ble_eq_true rfl) (⟨mf204, md, QO205, QF206, QA207, rfl, (show 0 ≤ v209.toInt from by first | exact e218 | omega), (show v209.toInt ≤ 1 from by first | exact e219 | omega), (show PrA PG (va_up RR p0.toNatClampNeg (RR p0.toNatClampNeg - v209.toInt)) QO205 QF206 QA207 from (hpr.low (by omega) (by omega) (by omega) (by have q9 := cl_nat (x := p0) (by first | exact g0 | omega); omega))), (show (mf204 0).toInt = (mf 0).toInt from by first | exact e212 | omega), (show (mf204 2).toInt = (mf 2).toInt from by first | exact e213 | omega), (show (mf204 3).toInt = (mf 3).toInt from by first | exact e214 | omega), (show (mf204 7).toInt = (mf 7).toInt from by first | exact e215 | omega), (show (mf204 8).toInt = (mf 8).toInt from by first | exact e216 | omega), (show (mf204 10).toInt = (mf 10).toInt from by first | exact e217 | omega), (show Md1 md md from hmdq)⟩) d_Mo_rawCall_343
        · have nc230 : ¬ v224.toInt = (0 : Int) := mt (i_eq (x := v224) (y := 0)).mpr c230
          refine lv_aload_n S.x S.b d_Mo_rawCall_301 rfl (lv_at hl 4 rfl) ?_
          refine px_get S k_Mpr hT hw 3 0 19 (v := .ref ((qr p0.toNatClampNeg) 19)) rfl rfl rfl (by decide) m11_12 d_Mo_rawCall_302 ?_
          refine lv_bipush (v := 10) S.x S.b d_Mo_rawCall_305 (by decide) ?_
          refine lv_iload S.x S.b d_Mo_rawCall_307 (lv_at hl 0 rfl) ?_
          refine lv_if_eq (tgt := 319) S.x S.b d_Mo_rawCall_309 (by decide) (fun c232 => ?_) (fun c232 => ?_)
          · exact absurd c232 (by decide)
          ·
            refine lv_aload_n S.x S.b d_Mo_rawCall_312 rfl (lv_at hl 5 rfl) ?_
            refine px_get S k_Mo hT hw 0 0 9 (v := .int (mf204 9)) rfl rfl rfl (by decide) m11_87 d_Mo_rawCall_313 ?_
            refine lv_goto (tgt := 320) S.x S.b d_Mo_rawCall_316 (by decide) ?_
            refine px_iast S hT hw 3 7 (n := 32) (f := ((QA207 p0.toNatClampNeg) 19)) (x := 10) (y := (mf204 9)) rfl (ga_Mpr_19 _ _ _ _ _ _ _) (vp_in_iff.mpr (by constructor <;> omega)) d_Mo_rawCall_320 (w' := wd_Mpr cs (hq p0.toNatClampNeg) (qr p0.toNatClampNeg) (fun _ => QO205 p0.toNatClampNeg) (QF206 p0.toNatClampNeg) (va_up (QA207 p0.toNatClampNeg) 19 (upd ((QA207 p0.toNatClampNeg) 19) (10 : Int32).toNatClampNeg (mf204 9))) (fun _ _ => none)) (ps' := [wd_Mo cs mo mr (fun _ => none) mf204 md (gMo PG hq), fm 8 (fPg cs PG), fo 13 (fPr cs hq qr QO205 QF206 QA207) p0.toNatClampNeg, wd_Mpr cs (hq p0.toNatClampNeg) (qr p0.toNatClampNeg) (fun _ => QO205 p0.toNatClampNeg) (QF206 p0.toNatClampNeg) (va_up (QA207 p0.toNatClampNeg) 19 (upd ((QA207 p0.toNatClampNeg) 19) (10 : Int32).toNatClampNeg (mf204 9))) (fun _ _ => none)]) (sa_Mpr_19 _ _ _ _ _ _ _ _) rfl (fun H locs hw => ?_)
            refine lv_aload_n S.x S.b d_Mo_rawCall_321 rfl (lv_at hl 4 rfl) ?_
            refine lv_aload_n S.x S.b d_Mo_rawCall_322 rfl (lv_at hl 4 rfl) ?_
            refine px_get S k_Mpr hT hw 3 0 11 (v := .int ((QF206 p0.toNatClampNeg) 11)) rfl rfl rfl (by decide) m11_3 d_Mo_rawCall_323 ?_
            refine lv_iconst (v := 4) S.x S.b d_Mo_rawCall_326 (by decide) ?_
            refine lv_iadd S.x S.b d_Mo_rawCall_327 ?_
            have lr233 := Int32.le_toInt ((QF206 p0.toNatClampNeg) 11)
            have ur233 := Int32.toInt_lt ((QF206 p0.toNatClampNeg) 11)
            refine lv_topi (fun z234 ez234 => ?_)
            have tz234 : z234.toInt = (((QF206 p0.toNatClampNeg) 11).toInt + (4 : Int) + 2147483648) % 4294967296 - 2147483648 := by rw [ez234]; exact i_add ((QF206 p0.toNatClampNeg) 11) 4
            have lz234 := Int32.le_toInt z234
            have uz234 := Int32.toInt_lt z234
            try replace tz234 : z234.toInt = ((QF206 p0.toNatClampNeg) 11).toInt + (4 : Int) := by omega
            refine px_put S k_Mpr hT hw 3 0 11 rfl rfl (by decide) m11_3 rfl rfl rfl (Nat.le_of_ble_eq_true rfl) d_Mo_rawCall_328 (w' := wd_Mpr cs (hq p0.toNatClampNeg) (qr p0.toNatClampNeg) (fun _ => QO205 p0.toNatClampNeg) (upd (QF206 p0.toNatClampNeg) 11 z234) (va_up (QA207 p0.toNatClampNeg) 19 (upd ((QA207 p0.toNatClampNeg) 19) (10 : Int32).toNatClampNeg (mf204 9))) (fun _ _ => none)) (ps' := [wd_Mo cs mo mr (fun _ => none) mf204 md (gMo PG hq), fm 8 (fPg cs PG), fo 13 (fPr cs hq qr QO205 QF206 QA207) p0.toNatClampNeg, wd_Mpr cs (hq p0.toNatClampNeg) (qr p0.toNatClampNeg) (fun _ => QO205 p0.toNatClampNeg) (upd (QF206 p0.toNatClampNeg) 11 z234) (va_up (QA207 p0.toNatClampNeg) 19 (upd ((QA207 p0.toNatClampNeg) 19) (10 : Int32).toNatClampNeg (mf204 9))) (fun _ _ => none)]) rfl rfl (fun H locs hw => ?_)
            refine lv_aload_n S.x S.b d_Mo_rawCall_331 rfl (lv_at hl 4 rfl) ?_
            refine lv_dup S.x S.b d_Mo_rawCall_332 rfl ?_
            refine px_get S k_Mpr hT hw 3 0 4 (v := .int ((QF206 p0.toNatClampNeg) 4)) rfl rfl rfl (by decide) m10_230 d_Mo_rawCall_333 ?_
            refine lv_iconst (v := 1) S.x S.b d_Mo_rawCall_336 (by decide) ?_
            refine lv_isub S.x S.b d_Mo_rawCall_337 ?_
            have lr235 := Int32.le_toInt ((QF206 p0.toNatClampNeg) 4)
            have ur235 := Int32.toInt_lt ((QF206 p0.toNatClampNeg) 4)
            refine lv_topi (fun z236 ez236 => ?_)
            have tz236 : z236.toInt = (((QF206 p0.toNatClampNeg) 4).toInt - (1 : Int) + 2147483648) % 4294967296 - 2147483648 := by rw [ez236]; exact i_sub ((QF206 p0.toNatClampNeg) 4) 1
            have lz236 := Int32.le_toInt z236
            have uz236 := Int32.toInt_lt z236
            try replace tz236 : z236.toInt = ((QF206 p0.toNatClampNeg) 4).toInt - (1 : Int) := by omega
            refine px_put S k_Mpr hT hw 3 0 4 rfl rfl (by decide) m10_230 rfl rfl rfl (Nat.le_of_ble_eq_true rfl) d_Mo_rawCall_338 (w' := wd_Mpr cs (hq p0.toNatClampNeg) (qr p0.toNatClampNeg) (fun _ => QO205 p0.toNatClampNeg) (upd (upd (QF206 p0.toNatClampNeg) 4 z236) 11 z234) (va_up (QA207 p0.toNatClampNeg) 19 (upd ((QA207 p0.toNatClampNeg) 19) (10 : Int32).toNatClampNeg (mf204 9))) (fun _ _ => none)) (ps' := [wd_Mo cs mo mr (fun _ => none) mf204 md (gMo PG hq), fm 8 (fPg cs PG), fo 13 (fPr cs hq qr QO205 QF206 QA207) p0.toNatClampNeg, wd_Mpr cs (hq p0.toNatClampNeg) (qr p0.toNatClampNeg) (fun _ => QO205 p0.toNatClampNeg) (upd (upd (QF206 p0.toNatClampNeg) 4 z236) 11 z234) (va_up (QA207 p0.toNatClampNeg) 19 (upd ((QA207 p0.toNatClampNeg) 19) (10 : Int32).toNatClampNeg (mf204 9))) (fun _ _ => none)]) rfl rfl (fun H locs hw => ?_)
            refine lv_iload S.x S.b d_Mo_rawCall_341 (lv_at hl 1 rfl) ?_
            have hw := fpr_in (pr := [wd_Mo cs mo mr (fun _ => none) mf204 md (gMo PG hq), fm 8 (fPg cs PG)]) hw hi222
            obtain ⟨QO237, hu_QO237⟩ : ∃ y : Nat → Option Nat, y = va_up QO205 p0.toNatClampNeg ((fun _ => QO205 p0.toNatClampNeg) 0) := ⟨_, rfl⟩
            obtain ⟨QF238, hu_QF238⟩ : ∃ y : Nat → Nat → Int32, y = va_up QF206 p0.toNatClampNeg (upd (upd (QF206 p0.toNatClampNeg) 4 z236) 11 z234) := ⟨_, rfl⟩
            obtain ⟨QA239, hu_QA239⟩ : ∃ y : Nat → Nat → Nat → Int32, y = va_up QA207 p0.toNatClampNeg (va_up (QA207 p0.toNatClampNeg) 19 (upd ((QA207 p0.toNatClampNeg) 19) (10 : Int32).toNatClampNeg (mf204 9))) := ⟨_, rfl⟩
            have hw : pw D A s.heap _ _ [wd_Mo cs mo mr (fun _ => none) mf204 md (gMo PG hq), fm 8 (fPg cs PG), fm 13 (fPr cs hq qr QO237 QF238 QA239)] := (by rw [hu_QO237, hu_QF238, hu_QA239]; exact hw)
            have hpr : PrA PG (va_up RR p0.toNatClampNeg (RR p0.toNatClampNeg - v209.toInt)) QO237 QF238 QA239 := (by rw [hu_QO237, hu_QF238, hu_QA239]; exact PrA.upR hpr (psr_raw (j := j9) hj9 hqo h66 (show (0 ≤ ((QF206 p0.toNatClampNeg) 1).toInt ∧ ((QF206 p0.toNatClampNeg) 1).toInt ≤ 1) ∧ (0 ≤ ((QF206 p0.toNatClampNeg) 21).toInt ∧ ((QF206 p0.toNatClampNeg) 21).toInt ≤ 4) ∧ (0 ≤ ((QF206 p0.toNatClampNeg) 23).toInt ∧ ((QF206 p0.toNatClampNeg) 23).toInt ≤ 4) ∧ (0 ≤ ((QF206 p0.toNatClampNeg) 24).toInt ∧ ((QF206 p0.toNatClampNeg) 24).toInt ≤ 1000000) ∧ (0 ≤ ((QF206 p0.toNatClampNeg) 6).toInt ∧ ((QF206 p0.toNatClampNeg) 6).toInt ≤ 3) ∧ (0 ≤ ((QF206 p0.toNatClampNeg) 7).toInt ∧ ((QF206 p0.toNatClampNeg) 7).toInt ≤ 1) from by omega) (show ((QF206 p0.toNatClampNeg) 1).toInt = 1 from by omega) (show 0 ≤ z236.toInt ∧ z236.toInt + 1 ≤ RR p0.toNatClampNeg - v209.toInt ∧ ((QF206 p0.toNatClampNeg) 24).toInt + z236.toInt ≤ 1600 from by omega)) (show ((QF206 p0.toNatClampNeg) 1).toInt = (QF206 p0.toNatClampNeg 1).toInt from by first | exact oz_507c05ca68 | omega) (show (QF206 p0.toNatClampNeg 6).toInt ≤ ((QF206 p0.toNatClampNeg) 6).toInt from by first | exact oz_1cb5f934a5 | omega))
            have hqo : OqE (QO237 p0.toNatClampNeg) (PG j9).h := (by rw [hu_QO237, va_up_s]; exact hqo)
            have hqk1_QF238 : (QF238 p0.toNatClampNeg 1).toInt = ((QF206 p0.toNatClampNeg) 1).toInt := (by rw [hu_QF238, va_up_s]; try rfl)
            have hqk2_QF238 : (QF238 p0.toNatClampNeg 2).toInt = ((QF206 p0.toNatClampNeg) 2).toInt := (by rw [hu_QF238, va_up_s]; try rfl)
            have hqk4_QF238 : (QF238 p0.toNatClampNeg 4).toInt = z236.toInt := (by rw [hu_QF238, va_up_s]; try rfl)
            have hqk24_QF238 : (QF238 p0.toNatClampNeg 24).toInt = ((QF206 p0.toNatClampNeg) 24).toInt := (by rw [hu_QF238, va_up_s]; try rfl)
            have hw : pw D A s.heap _ _ [wd_Mo cs mo mr (fun _ => none) mf204 md (gMo PG hq), fm 13 (fPr cs hq qr QO237 QF238 QA239), fm 8 (fPg cs PG)] := hw.sub [0, 2, 1] rfl rfl
            exact px_iret (v := v209) S hr (z_nar (by omega)) hlk hAe hw (Nat.le_of_ble_eq_true rfl) (Nat.le_of_ble_eq_true rfl) (⟨mf204, md, QO237, QF238, QA239, rfl, (show 0 ≤ v209.toInt from by first | exact e218 | omega), (show v209.toInt ≤ 1 from by first | exact e219 | omega), (show PrA PG (va_up RR p0.toNatClampNeg (RR p0.toNatClampNeg - v209.toInt)) QO237 QF238 QA239 from hpr), (show (mf204 0).toInt = (mf 0).toInt from by first | exact e212 | omega), (show (mf204 2).toInt = (mf 2).toInt from by first | exact e213 | omega), (show (mf204 3).toInt = (mf 3).toInt from by first | exact e214 | omega), (show (mf204 7).toInt = (mf 7).toInt from by first | exact e215 | omega), (show (mf204 8).toInt = (mf 8).toInt from by first | exact e216 | omega), (show (mf204 10).toInt = (mf 10).toInt from by first | exact e217 | omega), (show Md1 md md from hmdq)⟩) d_Mo_rawCall_343
    · simp only [List.mem_cons, List.not_mem_nil, or_false] at c45
      refine lv_aload_n S.x S.b d_Mo_rawCall_190 rfl (lv_at hl 5 rfl) ?_
      refine lv_iload_n S.x S.b d_Mo_rawCall_191 rfl (lv_at hl 6 rfl) ?_
      refine lv_iload_n S.x S.b d_Mo_rawCall_192 rfl (lv_at hl 3 rfl) ?_
      refine lv_iload S.x S.b d_Mo_rawCall_193 (lv_at hl 2 rfl) ?_
      have hw : pw D A s.heap _ _ [wd_Mo cs mo mr (fun _ => none) mf md (gMo PG hq), fm 8 (fPg cs PG), fm 13 (fPr cs hq qr QO QF QA)] := fm_back (pr := [wd_Mo cs mo mr (fun _ => none) mf md (gMo PG hq), fm 8 (fPg cs PG)]) (T := fPr cs hq qr QO QF QA) hw hi1
      have hw : pw D A s.heap _ _ [wd_Mo cs mo mr (fun _ => none) mf md (gMo PG hq), fm 13 (fPr cs hq qr QO QF QA), fm 8 (fPg cs PG)] := hw.sub [0, 2, 1] rfl rfl
      refine px_callv (pr := []) (px_runV (As := [.int p0, .int z2, .int z3]) (rest := []) S (c_mo_spawns l D cs RR mo mr md mf hq qr QO QF QA PG p0 z2 z3  (show 0 ≤ p0.toInt from by first | exact g0 | omega) (show p0.toInt < 13 from by first | exact g1 | omega) (show 0 ≤ (mf 7).toInt from by first | exact g2 | omega) (show (mf 7).toInt ≤ 100 from by first | exact g3 | omega) (show 0 ≤ (mf 8).toInt from by first | exact g4 | omega) (show (mf 8).toInt ≤ 512 from by first | exact g5 | omega) (show (QF p0.toNatClampNeg 1).toInt = 1 from by first | exact g6 | omega) hpr hpg _) hT (pr := []) (pcs := [wd_Mo cs mo mr (fun _ => none) mf md (gMo PG hq), fm 13 (fPr cs hq qr QO QF QA), fm 8 (fPg cs PG)]) hw px_X.tt (px_recv hT hw 0 0 rfl rfl rfl) m14_82 m14_79 m14_81 ms_16_5 m1_20 q_Mo_spawns ⟨Nat.le_of_ble_eq_true rfl, Nat.le_of_ble_eq_true rfl⟩ hl.1 rfl (Nat.le_of_ble_eq_true rfl) d_Mo_rawCall_195 ⟨Nat.le_of_ble_eq_true rfl, Nat.le_of_ble_eq_true rfl⟩) hw hA (fun p248 H locs hp248 hw => ?_)
      obtain ⟨mf244, QO245, QF246, QA247, rfl, e250, e251, e252, e253, e254, e255, e256, e257⟩ := hp248
      have e250 : PrA PG RR QO245 QF246 QA247 := e250
      have hpr := e250
      have e251 : KpP QO QF QA QO245 QF246 QA247 p0.toNatClampNeg := e251
      have hkw : KpW QO QF QO245 QF246 p0.toNatClampNeg := ⟨(e251.1).trans hkw.1, hkw.2.tr e251.2.1⟩
      have hqo : OqE (QO245 p0.toNatClampNeg) (PG j9).h := hkw.1.trans hqoE
      have hkf := hkw.2
      unfold KpF at hkf
      have e252 : (mf244 0).toInt = (mf 0).toInt := e252
      have e253 : (mf244 2).toInt = (mf 2).toInt := e253
      have e254 : (mf244 3).toInt = (mf 3).toInt := e254
      have e255 : (mf244 7).toInt = (mf 7).toInt := e255
      have e256 : (mf244 8).toInt = (mf 8).toInt := e256
      have e257 : (mf244 10).toInt = (mf 10).toInt := e257
      have hw : pw D A s.heap H locs [wd_Mo cs mo mr (fun _ => none) mf244 md (gMo PG hq), fm 13 (fPr cs hq qr QO245 QF246 QA247), fm 8 (fPg cs PG)] := hw
      refine lv_iconst (v := 1) S.x S.b d_Mo_rawCall_198 (by decide) ?_
      refine lv_istore (lv' := [(6, .int 1), (5, .int 1), (4, .int z3), (3, .int z2), (2, .ref (hq p0.toNatClampNeg)), (0, .ref mo), (1, .int p0)]) S.x S.b d_Mo_rawCall_199 hl (by decide) rfl (fun ls hl => ?_)
      refine lv_goto (tgt := 289) S.x S.b d_Mo_rawCall_201 (by decide) ?_
      refine lv_iload S.x S.b d_Mo_rawCall_289 (lv_at hl 1 rfl) ?_
      refine lv_if_eq (tgt := 341) S.x S.b d_Mo_rawCall_291 (by decide) (fun c258 => ?_) (fun c258 => ?_)
      · exact absurd c258 (by decide)
      ·
        refine lv_aload_n S.x S.b d_Mo_rawCall_294 rfl (lv_at hl 4 rfl) ?_
        have hw : pw D A s.heap _ _ [wd_Mo cs mo mr (fun _ => none) mf244 md (gMo PG hq), fm 8 (fPg cs PG), fm 13 (fPr cs hq qr QO245 QF246 QA247)] := hw.sub [0, 2, 1] rfl rfl
        have hc259 := cl_nat (x := p0) (by first | exact g0 | omega)
        have hi259 : p0.toNatClampNeg < 13 := by first | exact hi1 | omega
        have hw : pw D A s.heap _ _ [wd_Mo cs mo mr (fun _ => none) mf244 md (gMo PG hq), fm 8 (fPg cs PG), fo 13 (fPr cs hq qr QO245 QF246 QA247) p0.toNatClampNeg, wd_Mpr cs (hq p0.toNatClampNeg) (qr p0.toNatClampNeg) (fun _ => QO245 p0.toNatClampNeg) (QF246 p0.toNatClampNeg) (QA247 p0.toNatClampNeg) (fun _ _ => none)] := fm_out (pr := [wd_Mo cs mo mr (fun _ => none) mf244 md (gMo PG hq), fm 8 (fPg cs PG)]) (T := fPr cs hq qr QO245 QF246 QA247) hw hi259
        have hps259 := hpr.1 p0.toNatClampNeg hi259
        have hpb259 := hps259.1
        unfold PsB at hpb259
        refine px_calli (pr := [wd_Mo cs mo mr (fun _ => none) mf244 md (gMo PG hq), fm 8 (fPg cs PG), fo 13 (fPr cs hq qr QO245 QF246 QA247) p0.toNatClampNeg]) (px_runV (As := []) (rest := []) S (c_mq_isGoing l D cs (hq p0.toNatClampNeg) (qr p0.toNatClampNeg) (fun _ _ => none) (fun _ => QO245 p0.toNatClampNeg) (QF246 p0.toNatClampNeg) (QA247 p0.toNatClampNeg)    _) hT (pr := [wd_Mo cs mo mr (fun _ => none) mf244 md (gMo PG hq), fm 8 (fPg cs PG), fo 13 (fPr cs hq qr QO245 QF246 QA247) p0.toNatClampNeg]) (pcs := [wd_Mpr cs (hq p0.toNatClampNeg) (qr p0.toNatClampNeg) (fun _ => QO245 p0.toNatClampNeg) (QF246 p0.toNatClampNeg) (QA247 p0.toNatClampNeg) (fun _ _ => none)]) hw px_X.tt (px_recv hT hw 3 0 rfl rfl rfl) m13_165 m13_162 m13_163 m13_164 m1_22 q_Mpr_isGoing ⟨Nat.le_of_ble_eq_true rfl, Nat.le_of_ble_eq_true rfl⟩ hl.1 rfl (Nat.le_of_ble_eq_true rfl) d_Mo_rawCall_295 ⟨Nat.le_of_ble_eq_true rfl, Nat.le_of_ble_eq_true rfl⟩) hw hA (fun v261 p260 H locs hp260 hw => ?_)
        obtain ⟨rfl, e262, e263, e264, e265, e266⟩ := hp260
        have e262 : 0 ≤ v261.toInt := e262
        have e263 : v261.toInt ≤ 1 := e263
        have e264 : v261.toInt = 1 → ((QF246 p0.toNatClampNeg) 1).toInt ≠ 0 := e264
        have e265 : v261.toInt = 1 → ((QF246 p0.toNatClampNeg) 2).toInt = -2 := e265
        have e266 : ((QF246 p0.toNatClampNeg) 1).toInt ≠ 0 → ((QF246 p0.toNatClampNeg) 2).toInt = -2 → v261.toInt = 1 := e266
        have hw : pw D A s.heap H locs [wd_Mo cs mo mr (fun _ => none) mf244 md (gMo PG hq), fm 8 (fPg cs PG), fo 13 (fPr cs hq qr QO245 QF246 QA247) p0.toNatClampNeg, wd_Mpr cs (hq p0.toNatClampNeg) (qr p0.toNatClampNeg) (fun _ => QO245 p0.toNatClampNeg) (QF246 p0.toNatClampNeg) (QA247 p0.toNatClampNeg) (fun _ _ => none)] := hw
        have lv261 := Int32.le_toInt v261
        have uv261 := Int32.toInt_lt v261
        refine lv_if_eq (tgt := 341) S.x S.b d_Mo_rawCall_298 (by decide) (fun c267 => ?_) (fun c267 => ?_)
        · have nc267 : v261.toInt = (0 : Int) := (i_eq (x := v261) (y := 0)).mp c267
          refine lv_iload S.x S.b d_Mo_rawCall_341 (lv_at hl 1 rfl) ?_
          have hw : pw D A s.heap _ _ [wd_Mo cs mo mr (fun _ => none) mf244 md (gMo PG hq), fm 8 (fPg cs PG), fm 13 (fPr cs hq qr QO245 QF246 QA247)] := fm_back (pr := [wd_Mo cs mo mr (fun _ => none) mf244 md (gMo PG hq), fm 8 (fPg cs PG)]) (T := fPr cs hq qr QO245 QF246 QA247) hw hi259
          have hw : pw D A s.heap _ _ [wd_Mo cs mo mr (fun _ => none) mf244 md (gMo PG hq), fm 13 (fPr cs hq qr QO245 QF246 QA247), fm 8 (fPg cs PG)] := hw.sub [0, 2, 1] rfl rfl
          exact px_iret (v := 1) S hr rfl hlk hAe hw (Nat.le_of_ble_eq_true rfl) (Nat.le_of_ble_eq_true rfl) (⟨mf244, md, QO245, QF246, QA247, rfl, (show 0 ≤ (1 : Int) from by first | exact oz_19c3a41681 | omega), (show (1 : Int) ≤ 1 from by first | exact oz_f9181dc4bb | omega), (show PrA PG (va_up RR p0.toNatClampNeg (RR p0.toNatClampNeg - (1 : Int))) QO245 QF246 QA247 from (hpr.low (by omega) (by omega) (by omega) (by have q9 := cl_nat (x := p0) (by first | exact g0 | omega); omega))), (show (mf244 0).toInt = (mf 0).toInt from by first | exact e252 | omega), (show (mf244 2).toInt = (mf 2).toInt from by first | exact e253 | omega), (show (mf244 3).toInt = (mf 3).toInt from by first | exact e254 | omega), (show (mf244 7).toInt = (mf 7).toInt from by first | exact e255 | omega), (show (mf244 8).toInt = (mf 8).toInt from by first | exact e256 | omega), (show (mf244 10).toInt = (mf 10).toInt from by first | exact e257 | omega), (show Md1 md md from hmdq)⟩) d_Mo_rawCall_343
        · have nc267 : ¬ v261.toInt = (0 : Int) := mt (i_eq (x := v261) (y := 0)).mpr c267
          refine lv_aload_n S.x S.b d_Mo_rawCall_301 rfl (lv_at hl 4 rfl) ?_
          refine px_get S k_Mpr hT hw 3 0 19 (v := .ref ((qr p0.toNatClampNeg) 19)) rfl rfl rfl (by decide) m11_12 d_Mo_rawCall_302 ?_
          refine lv_bipush (v := 10) S.x S.b d_Mo_rawCall_305 (by decide) ?_
          refine lv_iload S.x S.b d_Mo_rawCall_307 (lv_at hl 0 rfl) ?_
          refine lv_if_eq (tgt := 319) S.x S.b d_Mo_rawCall_309 (by decide) (fun c269 => ?_) (fun c269 => ?_)
          · exact absurd c269 (by decide)
          ·
            refine lv_aload_n S.x S.b d_Mo_rawCall_312 rfl (lv_at hl 5 rfl) ?_
            refine px_get S k_Mo hT hw 0 0 9 (v := .int (mf244 9)) rfl rfl rfl (by decide) m11_87 d_Mo_rawCall_313 ?_
            refine lv_goto (tgt := 320) S.x S.b d_Mo_rawCall_316 (by decide) ?_
            refine px_iast S hT hw 3 7 (n := 32) (f := ((QA247 p0.toNatClampNeg) 19)) (x := 10) (y := (mf244 9)) rfl (ga_Mpr_19 _ _ _ _ _ _ _) (vp_in_iff.mpr (by constructor <;> omega)) d_Mo_rawCall_320 (w' := wd_Mpr cs (hq p0.toNatClampNeg) (qr p0.toNatClampNeg) (fun _ => QO245 p0.toNatClampNeg) (QF246 p0.toNatClampNeg) (va_up (QA247 p0.toNatClampNeg) 19 (upd ((QA247 p0.toNatClampNeg) 19) (10 : Int32).toNatClampNeg (mf244 9))) (fun _ _ => none)) (ps' := [wd_Mo cs mo mr (fun _ => none) mf244 md (gMo PG hq), fm 8 (fPg cs PG), fo 13 (fPr cs hq qr QO245 QF246 QA247) p0.toNatClampNeg, wd_Mpr cs (hq p0.toNatClampNeg) (qr p0.toNatClampNeg) (fun _ => QO245 p0.toNatClampNeg) (QF246 p0.toNatClampNeg) (va_up (QA247 p0.toNatClampNeg) 19 (upd ((QA247 p0.toNatClampNeg) 19) (10 : Int32).toNatClampNeg (mf244 9))) (fun _ _ => none)]) (sa_Mpr_19 _ _ _ _ _ _ _ _) rfl (fun H locs hw => ?_)
            refine lv_aload_n S.x S.b d_Mo_rawCall_321 rfl (lv_at hl 4 rfl) ?_
            refine lv_aload_n S.x S.b d_Mo_rawCall_322 rfl (lv_at hl 4 rfl) ?_
            refine px_get S k_Mpr hT hw 3 0 11 (v := .int ((QF246 p0.toNatClampNeg) 11)) rfl rfl rfl (by decide) m11_3 d_Mo_rawCall_323 ?_
            refine lv_iconst (v := 4) S.x S.b d_Mo_rawCall_326 (by decide) ?_
            refine lv_iadd S.x S.b d_Mo_rawCall_327 ?_
            have lr270 := Int32.le_toInt ((QF246 p0.toNatClampNeg) 11)
            have ur270 := Int32.toInt_lt ((QF246 p0.toNatClampNeg) 11)
            refine lv_topi (fun z271 ez271 => ?_)
            have tz271 : z271.toInt = (((QF246 p0.toNatClampNeg) 11).toInt + (4 : Int) + 2147483648) % 4294967296 - 2147483648 := by rw [ez271]; exact i_add ((QF246 p0.toNatClampNeg) 11) 4
            have lz271 := Int32.le_toInt z271
            have uz271 := Int32.toInt_lt z271
            try replace tz271 : z271.toInt = ((QF246 p0.toNatClampNeg) 11).toInt + (4 : Int) := by omega
            refine px_put S k_Mpr hT hw 3 0 11 rfl rfl (by decide) m11_3 rfl rfl rfl (Nat.le_of_ble_eq_true rfl) d_Mo_rawCall_328 (w' := wd_Mpr cs (hq p0.toNatClampNeg) (qr p0.toNatClampNeg) (fun _ => QO245 p0.toNatClampNeg) (upd (QF246 p0.toNatClampNeg) 11 z271) (va_up (QA247 p0.toNatClampNeg) 19 (upd ((QA247 p0.toNatClampNeg) 19) (10 : Int32).toNatClampNeg (mf244 9))) (fun _ _ => none)) (ps' := [wd_Mo cs mo mr (fun _ => none) mf244 md (gMo PG hq), fm 8 (fPg cs PG), fo 13 (fPr cs hq qr QO245 QF246 QA247) p0.toNatClampNeg, wd_Mpr cs (hq p0.toNatClampNeg) (qr p0.toNatClampNeg) (fun _ => QO245 p0.toNatClampNeg) (upd (QF246 p0.toNatClampNeg) 11 z271) (va_up (QA247 p0.toNatClampNeg) 19 (upd ((QA247 p0.toNatClampNeg) 19) (10 : Int32).toNatClampNeg (mf244 9))) (fun _ _ => none)]) rfl rfl (fun H locs hw => ?_)
            refine lv_aload_n S.x S.b d_Mo_rawCall_331 rfl (lv_at hl 4 rfl) ?_
            refine lv_dup S.x S.b d_Mo_rawCall_332 rfl ?_
            refine px_get S k_Mpr hT hw 3 0 4 (v := .int ((QF246 p0.toNatClampNeg) 4)) rfl rfl rfl (by decide) m10_230 d_Mo_rawCall_333 ?_
            refine lv_iconst (v := 1) S.x S.b d_Mo_rawCall_336 (by decide) ?_
            refine lv_isub S.x S.b d_Mo_rawCall_337 ?_
            have lr272 := Int32.le_toInt ((QF246 p0.toNatClampNeg) 4)
            have ur272 := Int32.toInt_lt ((QF246 p0.toNatClampNeg) 4)
            refine lv_topi (fun z273 ez273 => ?_)
            have tz273 : z273.toInt = (((QF246 p0.toNatClampNeg) 4).toInt - (1 : Int) + 2147483648) % 4294967296 - 2147483648 := by rw [ez273]; exact i_sub ((QF246 p0.toNatClampNeg) 4) 1
            have lz273 := Int32.le_toInt z273
            have uz273 := Int32.toInt_lt z273
            try replace tz273 : z273.toInt = ((QF246 p0.toNatClampNeg) 4).toInt - (1 : Int) := by omega
            refine px_put S k_Mpr hT hw 3 0 4 rfl rfl (by decide) m10_230 rfl rfl rfl (Nat.le_of_ble_eq_true rfl) d_Mo_rawCall_338 (w' := wd_Mpr cs (hq p0.toNatClampNeg) (qr p0.toNatClampNeg) (fun _ => QO245 p0.toNatClampNeg) (upd (upd (QF246 p0.toNatClampNeg) 4 z273) 11 z271) (va_up (QA247 p0.toNatClampNeg) 19 (upd ((QA247 p0.toNatClampNeg) 19) (10 : Int32).toNatClampNeg (mf244 9))) (fun _ _ => none)) (ps' := [wd_Mo cs mo mr (fun _ => none) mf244 md (gMo PG hq), fm 8 (fPg cs PG), fo 13 (fPr cs hq qr QO245 QF246 QA247) p0.toNatClampNeg, wd_Mpr cs (hq p0.toNatClampNeg) (qr p0.toNatClampNeg) (fun _ => QO245 p0.toNatClampNeg) (upd (upd (QF246 p0.toNatClampNeg) 4 z273) 11 z271) (va_up (QA247 p0.toNatClampNeg) 19 (upd ((QA247 p0.toNatClampNeg) 19) (10 : Int32).toNatClampNeg (mf244 9))) (fun _ _ => none)]) rfl rfl (fun H locs hw => ?_)
            refine lv_iload S.x S.b d_Mo_rawCall_341 (lv_at hl 1 rfl) ?_
            have hw := fpr_in (pr := [wd_Mo cs mo mr (fun _ => none) mf244 md (gMo PG hq), fm 8 (fPg cs PG)]) hw hi259
            obtain ⟨QO274, hu_QO274⟩ : ∃ y : Nat → Option Nat, y = va_up QO245 p0.toNatClampNeg ((fun _ => QO245 p0.toNatClampNeg) 0) := ⟨_, rfl⟩
            obtain ⟨QF275, hu_QF275⟩ : ∃ y : Nat → Nat → Int32, y = va_up QF246 p0.toNatClampNeg (upd (upd (QF246 p0.toNatClampNeg) 4 z273) 11 z271) := ⟨_, rfl⟩
            obtain ⟨QA276, hu_QA276⟩ : ∃ y : Nat → Nat → Nat → Int32, y = va_up QA247 p0.toNatClampNeg (va_up (QA247 p0.toNatClampNeg) 19 (upd ((QA247 p0.toNatClampNeg) 19) (10 : Int32).toNatClampNeg (mf244 9))) := ⟨_, rfl⟩
            have hw : pw D A s.heap _ _ [wd_Mo cs mo mr (fun _ => none) mf244 md (gMo PG hq), fm 8 (fPg cs PG), fm 13 (fPr cs hq qr QO274 QF275 QA276)] := (by rw [hu_QO274, hu_QF275, hu_QA276]; exact hw)
            have hpr : PrA PG (va_up RR p0.toNatClampNeg (RR p0.toNatClampNeg - (1 : Int))) QO274 QF275 QA276 := (by rw [hu_QO274, hu_QF275, hu_QA276]; exact PrA.upR hpr (psr_raw (j := j9) hj9 hqo h66 (show (0 ≤ ((QF246 p0.toNatClampNeg) 1).toInt ∧ ((QF246 p0.toNatClampNeg) 1).toInt ≤ 1) ∧ (0 ≤ ((QF246 p0.toNatClampNeg) 21).toInt ∧ ((QF246 p0.toNatClampNeg) 21).toInt ≤ 4) ∧ (0 ≤ ((QF246 p0.toNatClampNeg) 23).toInt ∧ ((QF246 p0.toNatClampNeg) 23).toInt ≤ 4) ∧ (0 ≤ ((QF246 p0.toNatClampNeg) 24).toInt ∧ ((QF246 p0.toNatClampNeg) 24).toInt ≤ 1000000) ∧ (0 ≤ ((QF246 p0.toNatClampNeg) 6).toInt ∧ ((QF246 p0.toNatClampNeg) 6).toInt ≤ 3) ∧ (0 ≤ ((QF246 p0.toNatClampNeg) 7).toInt ∧ ((QF246 p0.toNatClampNeg) 7).toInt ≤ 1) from by omega) (show ((QF246 p0.toNatClampNeg) 1).toInt = 1 from by omega) (show 0 ≤ z273.toInt ∧ z273.toInt + 1 ≤ RR p0.toNatClampNeg - (1 : Int) ∧ ((QF246 p0.toNatClampNeg) 24).toInt + z273.toInt ≤ 1600 from by omega)) (show ((QF246 p0.toNatClampNeg) 1).toInt = (QF246 p0.toNatClampNeg 1).toInt from by first | exact oz_507c05ca68 | omega) (show (QF246 p0.toNatClampNeg 6).toInt ≤ ((QF246 p0.toNatClampNeg) 6).toInt from by first | exact oz_1cb5f934a5 | omega))
            have hqo : OqE (QO274 p0.toNatClampNeg) (PG j9).h := (by rw [hu_QO274, va_up_s]; exact hqo)
            have hqk1_QF275 : (QF275 p0.toNatClampNeg 1).toInt = ((QF246 p0.toNatClampNeg) 1).toInt := (by rw [hu_QF275, va_up_s]; try rfl)
            have hqk2_QF275 : (QF275 p0.toNatClampNeg 2).toInt = ((QF246 p0.toNatClampNeg) 2).toInt := (by rw [hu_QF275, va_up_s]; try rfl)
            have hqk4_QF275 : (QF275 p0.toNatClampNeg 4).toInt = z273.toInt := (by rw [hu_QF275, va_up_s]; try rfl)
            have hqk24_QF275 : (QF275 p0.toNatClampNeg 24).toInt = ((QF246 p0.toNatClampNeg) 24).toInt := (by rw [hu_QF275, va_up_s]; try rfl)
            have hw : pw D A s.heap _ _ [wd_Mo cs mo mr (fun _ => none) mf244 md (gMo PG hq), fm 13 (fPr cs hq qr QO274 QF275 QA276), fm 8 (fPg cs PG)] := hw.sub [0, 2, 1] rfl rfl
            exact px_iret (v := 1) S hr rfl hlk hAe hw (Nat.le_of_ble_eq_true rfl) (Nat.le_of_ble_eq_true rfl) (⟨mf244, md, QO274, QF275, QA276, rfl, (show 0 ≤ (1 : Int) from by first | exact oz_19c3a41681 | omega), (show (1 : Int) ≤ 1 from by first | exact oz_f9181dc4bb | omega), (show PrA PG (va_up RR p0.toNatClampNeg (RR p0.toNatClampNeg - (1 : Int))) QO274 QF275 QA276 from hpr), (show (mf244 0).toInt = (mf 0).toInt from by first | exact e252 | omega), (show (mf244 2).toInt = (mf 2).toInt from by first | exact e253 | omega), (show (mf244 3).toInt = (mf 3).toInt from by first | exact e254 | omega), (show (mf244 7).toInt = (mf 7).toInt from by first | exact e255 | omega), (show (mf244 8).toInt = (mf 8).toInt from by first | exact e256 | omega), (show (mf244 10).toInt = (mf 10).toInt from by first | exact e257 | omega), (show Md1 md md from hmdq)⟩) d_Mo_rawCall_343
    · simp only [List.mem_cons, List.not_mem_nil, or_false] at c45
      refine lv_aload_n S.x S.b d_Mo_rawCall_204 rfl (lv_at hl 5 rfl) ?_
      refine lv_iload_n S.x S.b d_Mo_rawCall_205 rfl (lv_at hl 6 rfl) ?_
      refine lv_iload_n S.x S.b d_Mo_rawCall_206 rfl (lv_at hl 3 rfl) ?_
      have hw : pw D A s.heap _ _ [wd_Mo cs mo mr (fun _ => none) mf md (gMo PG hq), fm 8 (fPg cs PG), fm 13 (fPr cs hq qr QO QF QA)] := fm_back (pr := [wd_Mo cs mo mr (fun _ => none) mf md (gMo PG hq), fm 8 (fPg cs PG)]) (T := fPr cs hq qr QO QF QA) hw hi1
      have hw : pw D A s.heap _ _ [wd_Mo cs mo mr (fun _ => none) mf md (gMo PG hq), fm 13 (fPr cs hq qr QO QF QA), fm 8 (fPg cs PG)] := hw.sub [0, 2, 1] rfl rfl
      refine px_calli (pr := []) (px_runV (As := [.int p0, .int z2]) (rest := []) S (c_mo_waits l D cs RR mo mr md mf hq qr QO QF QA PG p0 z2  (show 0 ≤ p0.toInt from by first | exact g0 | omega) (show p0.toInt < 13 from by first | exact g1 | omega) hpr hpg _) hT (pr := []) (pcs := [wd_Mo cs mo mr (fun _ => none) mf md (gMo PG hq), fm 13 (fPr cs hq qr QO QF QA), fm 8 (fPg cs PG)]) hw px_X.tt (px_recv hT hw 0 0 rfl rfl rfl) m14_86 m14_83 m14_85 ms_16_6 m1_20 q_Mo_waits ⟨Nat.le_of_ble_eq_true rfl, Nat.le_of_ble_eq_true rfl⟩ hl.1 rfl (Nat.le_of_ble_eq_true rfl) d_Mo_rawCall_207 ⟨Nat.le_of_ble_eq_true rfl, Nat.le_of_ble_eq_true rfl⟩) hw hA (fun v286 p285 H locs hp285 hw => ?_)
      obtain ⟨mf281, QO282, QF283, QA284, rfl, e287, e288, e289, e290, e291, e292, e293, e294, e295, e296⟩ := hp285
      have e287 : PrA PG RR QO282 QF283 QA284 := e287
      have hpr := e287
      have e288 : KpP QO QF QA QO282 QF283 QA284 p0.toNatClampNeg := e288
      have hkw : KpW QO QF QO282 QF283 p0.toNatClampNeg := ⟨(e288.1).trans hkw.1, hkw.2.tr e288.2.1⟩
      have hqo : OqE (QO282 p0.toNatClampNeg) (PG j9).h := hkw.1.trans hqoE
      have hkf := hkw.2
      unfold KpF at hkf
      have e289 : (mf281 0).toInt = (mf 0).toInt := e289
      have e290 : (mf281 2).toInt = (mf 2).toInt := e290
      have e291 : (mf281 3).toInt = (mf 3).toInt := e291
      have e292 : (mf281 7).toInt = (mf 7).toInt := e292
      have e293 : (mf281 8).toInt = (mf 8).toInt := e293
      have e294 : (mf281 10).toInt = (mf 10).toInt := e294
      have e295 : 0 ≤ v286.toInt := e295
      have e296 : v286.toInt ≤ 1 := e296
      have hw : pw D A s.heap H locs [wd_Mo cs mo mr (fun _ => none) mf281 md (gMo PG hq), fm 13 (fPr cs hq qr QO282 QF283 QA284), fm 8 (fPg cs PG)] := hw
      have lv286 := Int32.le_toInt v286
      have uv286 := Int32.toInt_lt v286
      refine lv_istore (lv' := [(5, .int v286), (6, .int 0), (4, .int z3), (3, .int z2), (2, .ref (hq p0.toNatClampNeg)), (0, .ref mo), (1, .int p0)]) S.x S.b d_Mo_rawCall_210 hl (by decide) rfl (fun ls hl => ?_)
      refine lv_iconst (v := 1) S.x S.b d_Mo_rawCall_212 (by decide) ?_
      refine lv_istore (lv' := [(6, .int 1), (5, .int v286), (4, .int z3), (3, .int z2), (2, .ref (hq p0.toNatClampNeg)), (0, .ref mo), (1, .int p0)]) S.x S.b d_Mo_rawCall_213 hl (by decide) rfl (fun ls hl => ?_)
      refine lv_goto (tgt := 289) S.x S.b d_Mo_rawCall_215 (by decide) ?_
      refine lv_iload S.x S.b d_Mo_rawCall_289 (lv_at hl 1 rfl) ?_
      refine lv_if_eq (tgt := 341) S.x S.b d_Mo_rawCall_291 (by decide) (fun c297 => ?_) (fun c297 => ?_)
      · have nc297 : v286.toInt = (0 : Int) := (i_eq (x := v286) (y := 0)).mp c297
        refine lv_iload S.x S.b d_Mo_rawCall_341 (lv_at hl 1 rfl) ?_
        exact px_iret (v := v286) S hr (z_nar (by omega)) hlk hAe hw (Nat.le_of_ble_eq_true rfl) (Nat.le_of_ble_eq_true rfl) (⟨mf281, md, QO282, QF283, QA284, rfl, (show 0 ≤ v286.toInt from by first | exact e295 | omega), (show v286.toInt ≤ 1 from by first | exact e296 | omega), (show PrA PG (va_up RR p0.toNatClampNeg (RR p0.toNatClampNeg - v286.toInt)) QO282 QF283 QA284 from (hpr.rs (by omega))), (show (mf281 0).toInt = (mf 0).toInt from by first | exact e289 | omega), (show (mf281 2).toInt = (mf 2).toInt from by first | exact e290 | omega), (show (mf281 3).toInt = (mf 3).toInt from by first | exact e291 | omega), (show (mf281 7).toInt = (mf 7).toInt from by first | exact e292 | omega), (show (mf281 8).toInt = (mf 8).toInt from by first | exact e293 | omega), (show (mf281 10).toInt = (mf 10).toInt from by first | exact e294 | omega), (show Md1 md md from hmdq)⟩) d_Mo_rawCall_343
      · have nc297 : ¬ v286.toInt = (0 : Int) := mt (i_eq (x := v286) (y := 0)).mpr c297
        refine lv_aload_n S.x S.b d_Mo_rawCall_294 rfl (lv_at hl 4 rfl) ?_
        have hw : pw D A s.heap _ _ [wd_Mo cs mo mr (fun _ => none) mf281 md (gMo PG hq), fm 8 (fPg cs PG), fm 13 (fPr cs hq qr QO282 QF283 QA284)] := hw.sub [0, 2, 1] rfl rfl
        have hc299 := cl_nat (x := p0) (by first | exact g0 | omega)
        have hi299 : p0.toNatClampNeg < 13 := by first | exact hi1 | omega
        have hw : pw D A s.heap _ _ [wd_Mo cs mo mr (fun _ => none) mf281 md (gMo PG hq), fm 8 (fPg cs PG), fo 13 (fPr cs hq qr QO282 QF283 QA284) p0.toNatClampNeg, wd_Mpr cs (hq p0.toNatClampNeg) (qr p0.toNatClampNeg) (fun _ => QO282 p0.toNatClampNeg) (QF283 p0.toNatClampNeg) (QA284 p0.toNatClampNeg) (fun _ _ => none)] := fm_out (pr := [wd_Mo cs mo mr (fun _ => none) mf281 md (gMo PG hq), fm 8 (fPg cs PG)]) (T := fPr cs hq qr QO282 QF283 QA284) hw hi299
        have hps299 := hpr.1 p0.toNatClampNeg hi299
        have hpb299 := hps299.1
        unfold PsB at hpb299
        refine px_calli (pr := [wd_Mo cs mo mr (fun _ => none) mf281 md (gMo PG hq), fm 8 (fPg cs PG), fo 13 (fPr cs hq qr QO282 QF283 QA284) p0.toNatClampNeg]) (px_runV (As := []) (rest := []) S (c_mq_isGoing l D cs (hq p0.toNatClampNeg) (qr p0.toNatClampNeg) (fun _ _ => none) (fun _ => QO282 p0.toNatClampNeg) (QF283 p0.toNatClampNeg) (QA284 p0.toNatClampNeg)    _) hT (pr := [wd_Mo cs mo mr (fun _ => none) mf281 md (gMo PG hq), fm 8 (fPg cs PG), fo 13 (fPr cs hq qr QO282 QF283 QA284) p0.toNatClampNeg]) (pcs := [wd_Mpr cs (hq p0.toNatClampNeg) (qr p0.toNatClampNeg) (fun _ => QO282 p0.toNatClampNeg) (QF283 p0.toNatClampNeg) (QA284 p0.toNatClampNeg) (fun _ _ => none)]) hw px_X.tt (px_recv hT hw 3 0 rfl rfl rfl) m13_165 m13_162 m13_163 m13_164 m1_22 q_Mpr_isGoing ⟨Nat.le_of_ble_eq_true rfl, Nat.le_of_ble_eq_true rfl⟩ hl.1 rfl (Nat.le_of_ble_eq_true rfl) d_Mo_rawCall_295 ⟨Nat.le_of_ble_eq_true rfl, Nat.le_of_ble_eq_true rfl⟩) hw hA (fun v301 p300 H locs hp300 hw => ?_)
        obtain ⟨rfl, e302, e303, e304, e305, e306⟩ := hp300
        have e302 : 0 ≤ v301.toInt := e302
        have e303 : v301.toInt ≤ 1 := e303
        have e304 : v301.toInt = 1 → ((QF283 p0.toNatClampNeg) 1).toInt ≠ 0 := e304
        have e305 : v301.toInt = 1 → ((QF283 p0.toNatClampNeg) 2).toInt = -2 := e305
        have e306 : ((QF283 p0.toNatClampNeg) 1).toInt ≠ 0 → ((QF283 p0.toNatClampNeg) 2).toInt = -2 → v301.toInt = 1 := e306
        have hw : pw D A s.heap H locs [wd_Mo cs mo mr (fun _ => none) mf281 md (gMo PG hq), fm 8 (fPg cs PG), fo 13 (fPr cs hq qr QO282 QF283 QA284) p0.toNatClampNeg, wd_Mpr cs (hq p0.toNatClampNeg) (qr p0.toNatClampNeg) (fun _ => QO282 p0.toNatClampNeg) (QF283 p0.toNatClampNeg) (QA284 p0.toNatClampNeg) (fun _ _ => none)] := hw
        have lv301 := Int32.le_toInt v301
        have uv301 := Int32.toInt_lt v301
        refine lv_if_eq (tgt := 341) S.x S.b d_Mo_rawCall_298 (by decide) (fun c307 => ?_) (fun c307 => ?_)
        · have nc307 : v301.toInt = (0 : Int) := (i_eq (x := v301) (y := 0)).mp c307
          refine lv_iload S.x S.b d_Mo_rawCall_341 (lv_at hl 1 rfl) ?_
          have hw : pw D A s.heap _ _ [wd_Mo cs mo mr (fun _ => none) mf281 md (gMo PG hq), fm 8 (fPg cs PG), fm 13 (fPr cs hq qr QO282 QF283 QA284)] := fm_back (pr := [wd_Mo cs mo mr (fun _ => none) mf281 md (gMo PG hq), fm 8 (fPg cs PG)]) (T := fPr cs hq qr QO282 QF283 QA284) hw hi299
          have hw : pw D A s.heap _ _ [wd_Mo cs mo mr (fun _ => none) mf281 md (gMo PG hq), fm 13 (fPr cs hq qr QO282 QF283 QA284), fm 8 (fPg cs PG)] := hw.sub [0, 2, 1] rfl rfl
          exact px_iret (v := v286) S hr (z_nar (by omega)) hlk hAe hw (Nat.le_of_ble_eq_true rfl) (Nat.le_of_ble_eq_true rfl) (⟨mf281, md, QO282, QF283, QA284, rfl, (show 0 ≤ v286.toInt from by first | exact e295 | omega), (show v286.toInt ≤ 1 from by first | exact e296 | omega), (show PrA PG (va_up RR p0.toNatClampNeg (RR p0.toNatClampNeg - v286.toInt)) QO282 QF283 QA284 from (hpr.low (by omega) (by omega) (by omega) (by have q9 := cl_nat (x := p0) (by first | exact g0 | omega); omega))), (show (mf281 0).toInt = (mf 0).toInt from by first | exact e289 | omega), (show (mf281 2).toInt = (mf 2).toInt from by first | exact e290 | omega), (show (mf281 3).toInt = (mf 3).toInt from by first | exact e291 | omega), (show (mf281 7).toInt = (mf 7).toInt from by first | exact e292 | omega), (show (mf281 8).toInt = (mf 8).toInt from by first | exact e293 | omega), (show (mf281 10).toInt = (mf 10).toInt from by first | exact e294 | omega), (show Md1 md md from hmdq)⟩) d_Mo_rawCall_343
        · have nc307 : ¬ v301.toInt = (0 : Int) := mt (i_eq (x := v301) (y := 0)).mpr c307
          refine lv_aload_n S.x S.b d_Mo_rawCall_301 rfl (lv_at hl 4 rfl) ?_
          refine px_get S k_Mpr hT hw 3 0 19 (v := .ref ((qr p0.toNatClampNeg) 19)) rfl rfl rfl (by decide) m11_12 d_Mo_rawCall_302 ?_
          refine lv_bipush (v := 10) S.x S.b d_Mo_rawCall_305 (by decide) ?_
          refine lv_iload S.x S.b d_Mo_rawCall_307 (lv_at hl 0 rfl) ?_
          refine lv_if_eq (tgt := 319) S.x S.b d_Mo_rawCall_309 (by decide) (fun c309 => ?_) (fun c309 => ?_)
          · exact absurd c309 (by decide)
          ·
            refine lv_aload_n S.x S.b d_Mo_rawCall_312 rfl (lv_at hl 5 rfl) ?_
            refine px_get S k_Mo hT hw 0 0 9 (v := .int (mf281 9)) rfl rfl rfl (by decide) m11_87 d_Mo_rawCall_313 ?_
            refine lv_goto (tgt := 320) S.x S.b d_Mo_rawCall_316 (by decide) ?_
            refine px_iast S hT hw 3 7 (n := 32) (f := ((QA284 p0.toNatClampNeg) 19)) (x := 10) (y := (mf281 9)) rfl (ga_Mpr_19 _ _ _ _ _ _ _) (vp_in_iff.mpr (by constructor <;> omega)) d_Mo_rawCall_320 (w' := wd_Mpr cs (hq p0.toNatClampNeg) (qr p0.toNatClampNeg) (fun _ => QO282 p0.toNatClampNeg) (QF283 p0.toNatClampNeg) (va_up (QA284 p0.toNatClampNeg) 19 (upd ((QA284 p0.toNatClampNeg) 19) (10 : Int32).toNatClampNeg (mf281 9))) (fun _ _ => none)) (ps' := [wd_Mo cs mo mr (fun _ => none) mf281 md (gMo PG hq), fm 8 (fPg cs PG), fo 13 (fPr cs hq qr QO282 QF283 QA284) p0.toNatClampNeg, wd_Mpr cs (hq p0.toNatClampNeg) (qr p0.toNatClampNeg) (fun _ => QO282 p0.toNatClampNeg) (QF283 p0.toNatClampNeg) (va_up (QA284 p0.toNatClampNeg) 19 (upd ((QA284 p0.toNatClampNeg) 19) (10 : Int32).toNatClampNeg (mf281 9))) (fun _ _ => none)]) (sa_Mpr_19 _ _ _ _ _ _ _ _) rfl (fun H locs hw => ?_)
            refine lv_aload_n S.x S.b d_Mo_rawCall_321 rfl (lv_at hl 4 rfl) ?_
            refine lv_aload_n S.x S.b d_Mo_rawCall_322 rfl (lv_at hl 4 rfl) ?_
            refine px_get S k_Mpr hT hw 3 0 11 (v := .int ((QF283 p0.toNatClampNeg) 11)) rfl rfl rfl (by decide) m11_3 d_Mo_rawCall_323 ?_
            refine lv_iconst (v := 4) S.x S.b d_Mo_rawCall_326 (by decide) ?_
            refine lv_iadd S.x S.b d_Mo_rawCall_327 ?_
            have lr310 := Int32.le_toInt ((QF283 p0.toNatClampNeg) 11)
            have ur310 := Int32.toInt_lt ((QF283 p0.toNatClampNeg) 11)
            refine lv_topi (fun z311 ez311 => ?_)
            have tz311 : z311.toInt = (((QF283 p0.toNatClampNeg) 11).toInt + (4 : Int) + 2147483648) % 4294967296 - 2147483648 := by rw [ez311]; exact i_add ((QF283 p0.toNatClampNeg) 11) 4
            have lz311 := Int32.le_toInt z311
            have uz311 := Int32.toInt_lt z311
            try replace tz311 : z311.toInt = ((QF283 p0.toNatClampNeg) 11).toInt + (4 : Int) := by omega
            refine px_put S k_Mpr hT hw 3 0 11 rfl rfl (by decide) m11_3 rfl rfl rfl (Nat.le_of_ble_eq_true rfl) d_Mo_rawCall_328 (w' := wd_Mpr cs (hq p0.toNatClampNeg) (qr p0.toNatClampNeg) (fun _ => QO282 p0.toNatClampNeg) (upd (QF283 p0.toNatClampNeg) 11 z311) (va_up (QA284 p0.toNatClampNeg) 19 (upd ((QA284 p0.toNatClampNeg) 19) (10 : Int32).toNatClampNeg (mf281 9))) (fun _ _ => none)) (ps' := [wd_Mo cs mo mr (fun _ => none) mf281 md (gMo PG hq), fm 8 (fPg cs PG), fo 13 (fPr cs hq qr QO282 QF283 QA284) p0.toNatClampNeg, wd_Mpr cs (hq p0.toNatClampNeg) (qr p0.toNatClampNeg) (fun _ => QO282 p0.toNatClampNeg) (upd (QF283 p0.toNatClampNeg) 11 z311) (va_up (QA284 p0.toNatClampNeg) 19 (upd ((QA284 p0.toNatClampNeg) 19) (10 : Int32).toNatClampNeg (mf281 9))) (fun _ _ => none)]) rfl rfl (fun H locs hw => ?_)
            refine lv_aload_n S.x S.b d_Mo_rawCall_331 rfl (lv_at hl 4 rfl) ?_
            refine lv_dup S.x S.b d_Mo_rawCall_332 rfl ?_
            refine px_get S k_Mpr hT hw 3 0 4 (v := .int ((QF283 p0.toNatClampNeg) 4)) rfl rfl rfl (by decide) m10_230 d_Mo_rawCall_333 ?_
            refine lv_iconst (v := 1) S.x S.b d_Mo_rawCall_336 (by decide) ?_
            refine lv_isub S.x S.b d_Mo_rawCall_337 ?_
            have lr312 := Int32.le_toInt ((QF283 p0.toNatClampNeg) 4)
            have ur312 := Int32.toInt_lt ((QF283 p0.toNatClampNeg) 4)
            refine lv_topi (fun z313 ez313 => ?_)
            have tz313 : z313.toInt = (((QF283 p0.toNatClampNeg) 4).toInt - (1 : Int) + 2147483648) % 4294967296 - 2147483648 := by rw [ez313]; exact i_sub ((QF283 p0.toNatClampNeg) 4) 1
            have lz313 := Int32.le_toInt z313
            have uz313 := Int32.toInt_lt z313
            try replace tz313 : z313.toInt = ((QF283 p0.toNatClampNeg) 4).toInt - (1 : Int) := by omega
            refine px_put S k_Mpr hT hw 3 0 4 rfl rfl (by decide) m10_230 rfl rfl rfl (Nat.le_of_ble_eq_true rfl) d_Mo_rawCall_338 (w' := wd_Mpr cs (hq p0.toNatClampNeg) (qr p0.toNatClampNeg) (fun _ => QO282 p0.toNatClampNeg) (upd (upd (QF283 p0.toNatClampNeg) 4 z313) 11 z311) (va_up (QA284 p0.toNatClampNeg) 19 (upd ((QA284 p0.toNatClampNeg) 19) (10 : Int32).toNatClampNeg (mf281 9))) (fun _ _ => none)) (ps' := [wd_Mo cs mo mr (fun _ => none) mf281 md (gMo PG hq), fm 8 (fPg cs PG), fo 13 (fPr cs hq qr QO282 QF283 QA284) p0.toNatClampNeg, wd_Mpr cs (hq p0.toNatClampNeg) (qr p0.toNatClampNeg) (fun _ => QO282 p0.toNatClampNeg) (upd (upd (QF283 p0.toNatClampNeg) 4 z313) 11 z311) (va_up (QA284 p0.toNatClampNeg) 19 (upd ((QA284 p0.toNatClampNeg) 19) (10 : Int32).toNatClampNeg (mf281 9))) (fun _ _ => none)]) rfl rfl (fun H locs hw => ?_)
            refine lv_iload S.x S.b d_Mo_rawCall_341 (lv_at hl 1 rfl) ?_
            have hw := fpr_in (pr := [wd_Mo cs mo mr (fun _ => none) mf281 md (gMo PG hq), fm 8 (fPg cs PG)]) hw hi299
            obtain ⟨QO314, hu_QO314⟩ : ∃ y : Nat → Option Nat, y = va_up QO282 p0.toNatClampNeg ((fun _ => QO282 p0.toNatClampNeg) 0) := ⟨_, rfl⟩
            obtain ⟨QF315, hu_QF315⟩ : ∃ y : Nat → Nat → Int32, y = va_up QF283 p0.toNatClampNeg (upd (upd (QF283 p0.toNatClampNeg) 4 z313) 11 z311) := ⟨_, rfl⟩
            obtain ⟨QA316, hu_QA316⟩ : ∃ y : Nat → Nat → Nat → Int32, y = va_up QA284 p0.toNatClampNeg (va_up (QA284 p0.toNatClampNeg) 19 (upd ((QA284 p0.toNatClampNeg) 19) (10 : Int32).toNatClampNeg (mf281 9))) := ⟨_, rfl⟩
            have hw : pw D A s.heap _ _ [wd_Mo cs mo mr (fun _ => none) mf281 md (gMo PG hq), fm 8 (fPg cs PG), fm 13 (fPr cs hq qr QO314 QF315 QA316)] := (by rw [hu_QO314, hu_QF315, hu_QA316]; exact hw)
            have hpr : PrA PG (va_up RR p0.toNatClampNeg (RR p0.toNatClampNeg - v286.toInt)) QO314 QF315 QA316 := (by rw [hu_QO314, hu_QF315, hu_QA316]; exact PrA.upR hpr (psr_raw (j := j9) hj9 hqo h66 (show (0 ≤ ((QF283 p0.toNatClampNeg) 1).toInt ∧ ((QF283 p0.toNatClampNeg) 1).toInt ≤ 1) ∧ (0 ≤ ((QF283 p0.toNatClampNeg) 21).toInt ∧ ((QF283 p0.toNatClampNeg) 21).toInt ≤ 4) ∧ (0 ≤ ((QF283 p0.toNatClampNeg) 23).toInt ∧ ((QF283 p0.toNatClampNeg) 23).toInt ≤ 4) ∧ (0 ≤ ((QF283 p0.toNatClampNeg) 24).toInt ∧ ((QF283 p0.toNatClampNeg) 24).toInt ≤ 1000000) ∧ (0 ≤ ((QF283 p0.toNatClampNeg) 6).toInt ∧ ((QF283 p0.toNatClampNeg) 6).toInt ≤ 3) ∧ (0 ≤ ((QF283 p0.toNatClampNeg) 7).toInt ∧ ((QF283 p0.toNatClampNeg) 7).toInt ≤ 1) from by omega) (show ((QF283 p0.toNatClampNeg) 1).toInt = 1 from by omega) (show 0 ≤ z313.toInt ∧ z313.toInt + 1 ≤ RR p0.toNatClampNeg - v286.toInt ∧ ((QF283 p0.toNatClampNeg) 24).toInt + z313.toInt ≤ 1600 from by omega)) (show ((QF283 p0.toNatClampNeg) 1).toInt = (QF283 p0.toNatClampNeg 1).toInt from by first | exact oz_507c05ca68 | omega) (show (QF283 p0.toNatClampNeg 6).toInt ≤ ((QF283 p0.toNatClampNeg) 6).toInt from by first | exact oz_1cb5f934a5 | omega))
            have hqo : OqE (QO314 p0.toNatClampNeg) (PG j9).h := (by rw [hu_QO314, va_up_s]; exact hqo)
            have hqk1_QF315 : (QF315 p0.toNatClampNeg 1).toInt = ((QF283 p0.toNatClampNeg) 1).toInt := (by rw [hu_QF315, va_up_s]; try rfl)
            have hqk2_QF315 : (QF315 p0.toNatClampNeg 2).toInt = ((QF283 p0.toNatClampNeg) 2).toInt := (by rw [hu_QF315, va_up_s]; try rfl)
            have hqk4_QF315 : (QF315 p0.toNatClampNeg 4).toInt = z313.toInt := (by rw [hu_QF315, va_up_s]; try rfl)
            have hqk24_QF315 : (QF315 p0.toNatClampNeg 24).toInt = ((QF283 p0.toNatClampNeg) 24).toInt := (by rw [hu_QF315, va_up_s]; try rfl)
            have hw : pw D A s.heap _ _ [wd_Mo cs mo mr (fun _ => none) mf281 md (gMo PG hq), fm 13 (fPr cs hq qr QO314 QF315 QA316), fm 8 (fPg cs PG)] := hw.sub [0, 2, 1] rfl rfl
            exact px_iret (v := v286) S hr (z_nar (by omega)) hlk hAe hw (Nat.le_of_ble_eq_true rfl) (Nat.le_of_ble_eq_true rfl) (⟨mf281, md, QO314, QF315, QA316, rfl, (show 0 ≤ v286.toInt from by first | exact e295 | omega), (show v286.toInt ≤ 1 from by first | exact e296 | omega), (show PrA PG (va_up RR p0.toNatClampNeg (RR p0.toNatClampNeg - v286.toInt)) QO314 QF315 QA316 from hpr), (show (mf281 0).toInt = (mf 0).toInt from by first | exact e289 | omega), (show (mf281 2).toInt = (mf 2).toInt from by first | exact e290 | omega), (show (mf281 3).toInt = (mf 3).toInt from by first | exact e291 | omega), (show (mf281 7).toInt = (mf 7).toInt from by first | exact e292 | omega), (show (mf281 8).toInt = (mf 8).toInt from by first | exact e293 | omega), (show (mf281 10).toInt = (mf 10).toInt from by first | exact e294 | omega), (show Md1 md md from hmdq)⟩) d_Mo_rawCall_343
    · simp only [List.mem_cons, List.not_mem_nil, or_false] at c45
      refine lv_aload_n S.x S.b d_Mo_rawCall_218 rfl (lv_at hl 5 rfl) ?_
      refine lv_iload_n S.x S.b d_Mo_rawCall_219 rfl (lv_at hl 6 rfl) ?_
      refine lv_aload_n S.x S.b d_Mo_rawCall_220 rfl (lv_at hl 4 rfl) ?_
      refine px_get S k_Mpr hT hw 3 0 19 (v := .ref ((qr p0.toNatClampNeg) 19)) rfl rfl rfl (by decide) m11_12 d_Mo_rawCall_221 ?_
      refine lv_bipush (v := 17) S.x S.b d_Mo_rawCall_224 (by decide) ?_
      refine px_iald S hT hw 3 7 (n := 32) (f := ((QA p0.toNatClampNeg) 19)) rfl (ga_Mpr_19 _ _ _ _ _ _ _) (x := 17) (vp_in_iff.mpr (by constructor <;> omega)) d_Mo_rawCall_226 ?_
      refine lv_topi (fun z317 ez317 => ?_)
      have lz317 := Int32.le_toInt z317
      have uz317 := Int32.toInt_lt z317
      refine lv_bipush (v := 7) S.x S.b d_Mo_rawCall_227 (by decide) ?_
      refine lv_icmp_ne (tgt := 236) S.x S.b d_Mo_rawCall_229 (by decide) (fun c318 => ?_) (fun c318 => ?_)
      · have nc318 : ¬ z317.toInt = (7 : Int) := mt (i_eq (x := z317) (y := 7)).mpr c318
        refine lv_iconst (v := 0) S.x S.b d_Mo_rawCall_236 (by decide) ?_
        refine lv_iload_n S.x S.b d_Mo_rawCall_237 rfl (lv_at hl 3 rfl) ?_
        refine lv_iload S.x S.b d_Mo_rawCall_238 (lv_at hl 2 rfl) ?_
        refine lv_aload_n S.x S.b d_Mo_rawCall_240 rfl (lv_at hl 4 rfl) ?_
        refine px_get S k_Mpr hT hw 3 0 19 (v := .ref ((qr p0.toNatClampNeg) 19)) rfl rfl rfl (by decide) m11_12 d_Mo_rawCall_241 ?_
        refine lv_bipush (v := 12) S.x S.b d_Mo_rawCall_244 (by decide) ?_
        refine px_iald S hT hw 3 7 (n := 32) (f := ((QA p0.toNatClampNeg) 19)) rfl (ga_Mpr_19 _ _ _ _ _ _ _) (x := 12) (vp_in_iff.mpr (by constructor <;> omega)) d_Mo_rawCall_246 ?_
        refine lv_topi (fun z320 ez320 => ?_)
        have lz320 := Int32.le_toInt z320
        have uz320 := Int32.toInt_lt z320
        have hw : pw D A s.heap _ _ [wd_Mo cs mo mr (fun _ => none) mf md (gMo PG hq), fm 8 (fPg cs PG), fm 13 (fPr cs hq qr QO QF QA)] := fm_back (pr := [wd_Mo cs mo mr (fun _ => none) mf md (gMo PG hq), fm 8 (fPg cs PG)]) (T := fPr cs hq qr QO QF QA) hw hi1
        have hw : pw D A s.heap _ _ [wd_Mo cs mo mr (fun _ => none) mf md (gMo PG hq), fm 13 (fPr cs hq qr QO QF QA), fm 8 (fPg cs PG)] := hw.sub [0, 2, 1] rfl rfl
        refine px_callv (pr := []) (px_runV (As := [.int p0, .int 0, .int z2, .int z3, .int z320]) (rest := []) S (c_mo_moveWords l D cs RR j9 mo mr mf md hq qr QO QF QA PG p0 0 z2 z3 z320  (show 0 ≤ p0.toInt from by first | exact g0 | omega) (show p0.toInt < 13 from by first | exact g1 | omega) (show (QF p0.toNatClampNeg 1).toInt = 1 from by first | exact g6 | omega) (show (QF p0.toNatClampNeg 2).toInt = -2 from by first | exact g7 | omega) hpr hpg hj9 h66 hqo hrw _) hT (pr := []) (pcs := [wd_Mo cs mo mr (fun _ => none) mf md (gMo PG hq), fm 13 (fPr cs hq qr QO QF QA), fm 8 (fPg cs PG)]) hw (oX_call (P := (fun A U H => (∀ j : Nat, j < 8 → oP A (PG j).g U H))) (pr := []) oG_G hw hA hGG) (px_recv hT hw 0 0 rfl rfl rfl) m14_90 m14_87 m14_89 ms_16_7 m1_20 q_Mo_moveWords ⟨Nat.le_of_ble_eq_true rfl, Nat.le_of_ble_eq_true rfl⟩ hl.1 rfl (Nat.le_of_ble_eq_true rfl) d_Mo_rawCall_247 ⟨Nat.le_of_ble_eq_true rfl, Nat.le_of_ble_eq_true rfl⟩) hw hA (fun p331 H locs hp331 hw => ?_)
        obtain ⟨mf326, md327, QO328, QF329, QA330, rfl, e333, e334, e335, e336, e337, e338, e339, e340, e341, e342, e343⟩ := hp331
        have e333 : PrA PG RR QO328 QF329 QA330 := e333
        have hpr := e333
        have e334 : OqE (QO328 p0.toNatClampNeg) (PG j9).h := e334
        have hqo := e334
        have e335 : KpW QO QF QO328 QF329 p0.toNatClampNeg := e335
        have hkw := e335
        have hkf := hkw.2
        unfold KpF at hkf
        have e336 : (mf326 0).toInt = (mf 0).toInt := e336
        have e337 : (mf326 2).toInt = (mf 2).toInt := e337
        have e338 : (mf326 3).toInt = (mf 3).toInt := e338
        have e339 : (mf326 7).toInt = (mf 7).toInt := e339
        have e340 : (mf326 8).toInt = (mf 8).toInt := e340
        have e341 : (mf326 9).toInt = (mf 9).toInt := e341
        have e342 : (mf326 10).toInt = (mf 10).toInt := e342
        have e343 : Md1 md md327 := e343
        have hmdq := Md1.tr hmdq e343
        have hw : pw D A s.heap H locs [wd_Mo cs mo mr (fun _ => none) mf326 md327 (gMo PG hq), fm 13 (fPr cs hq qr QO328 QF329 QA330), fm 8 (fPg cs PG)] := hw
        refine lv_goto (tgt := 289) S.x S.b d_Mo_rawCall_250 (by decide) ?_
        refine lv_iload S.x S.b d_Mo_rawCall_289 (lv_at hl 1 rfl) ?_
        refine lv_if_eq (tgt := 341) S.x S.b d_Mo_rawCall_291 (by decide) (fun c344 => ?_) (fun c344 => ?_)
        · exact absurd c344 (by decide)
        ·
          refine lv_aload_n S.x S.b d_Mo_rawCall_294 rfl (lv_at hl 4 rfl) ?_
          have hw : pw D A s.heap _ _ [wd_Mo cs mo mr (fun _ => none) mf326 md327 (gMo PG hq), fm 8 (fPg cs PG), fm 13 (fPr cs hq qr QO328 QF329 QA330)] := hw.sub [0, 2, 1] rfl rfl
          have hc345 := cl_nat (x := p0) (by first | exact g0 | omega)
          have hi345 : p0.toNatClampNeg < 13 := by first | exact hi1 | omega
          have hw : pw D A s.heap _ _ [wd_Mo cs mo mr (fun _ => none) mf326 md327 (gMo PG hq), fm 8 (fPg cs PG), fo 13 (fPr cs hq qr QO328 QF329 QA330) p0.toNatClampNeg, wd_Mpr cs (hq p0.toNatClampNeg) (qr p0.toNatClampNeg) (fun _ => QO328 p0.toNatClampNeg) (QF329 p0.toNatClampNeg) (QA330 p0.toNatClampNeg) (fun _ _ => none)] := fm_out (pr := [wd_Mo cs mo mr (fun _ => none) mf326 md327 (gMo PG hq), fm 8 (fPg cs PG)]) (T := fPr cs hq qr QO328 QF329 QA330) hw hi345
          have hps345 := hpr.1 p0.toNatClampNeg hi345
          have hpb345 := hps345.1
          unfold PsB at hpb345
          refine px_calli (pr := [wd_Mo cs mo mr (fun _ => none) mf326 md327 (gMo PG hq), fm 8 (fPg cs PG), fo 13 (fPr cs hq qr QO328 QF329 QA330) p0.toNatClampNeg]) (px_runV (As := []) (rest := []) S (c_mq_isGoing l D cs (hq p0.toNatClampNeg) (qr p0.toNatClampNeg) (fun _ _ => none) (fun _ => QO328 p0.toNatClampNeg) (QF329 p0.toNatClampNeg) (QA330 p0.toNatClampNeg)    _) hT (pr := [wd_Mo cs mo mr (fun _ => none) mf326 md327 (gMo PG hq), fm 8 (fPg cs PG), fo 13 (fPr cs hq qr QO328 QF329 QA330) p0.toNatClampNeg]) (pcs := [wd_Mpr cs (hq p0.toNatClampNeg) (qr p0.toNatClampNeg) (fun _ => QO328 p0.toNatClampNeg) (QF329 p0.toNatClampNeg) (QA330 p0.toNatClampNeg) (fun _ _ => none)]) hw px_X.tt (px_recv hT hw 3 0 rfl rfl rfl) m13_165 m13_162 m13_163 m13_164 m1_22 q_Mpr_isGoing ⟨Nat.le_of_ble_eq_true rfl, Nat.le_of_ble_eq_true rfl⟩ hl.1 rfl (Nat.le_of_ble_eq_true rfl) d_Mo_rawCall_295 ⟨Nat.le_of_ble_eq_true rfl, Nat.le_of_ble_eq_true rfl⟩) hw hA (fun v347 p346 H locs hp346 hw => ?_)
          obtain ⟨rfl, e348, e349, e350, e351, e352⟩ := hp346
          have e348 : 0 ≤ v347.toInt := e348
          have e349 : v347.toInt ≤ 1 := e349
          have e350 : v347.toInt = 1 → ((QF329 p0.toNatClampNeg) 1).toInt ≠ 0 := e350
          have e351 : v347.toInt = 1 → ((QF329 p0.toNatClampNeg) 2).toInt = -2 := e351
          have e352 : ((QF329 p0.toNatClampNeg) 1).toInt ≠ 0 → ((QF329 p0.toNatClampNeg) 2).toInt = -2 → v347.toInt = 1 := e352
          have hw : pw D A s.heap H locs [wd_Mo cs mo mr (fun _ => none) mf326 md327 (gMo PG hq), fm 8 (fPg cs PG), fo 13 (fPr cs hq qr QO328 QF329 QA330) p0.toNatClampNeg, wd_Mpr cs (hq p0.toNatClampNeg) (qr p0.toNatClampNeg) (fun _ => QO328 p0.toNatClampNeg) (QF329 p0.toNatClampNeg) (QA330 p0.toNatClampNeg) (fun _ _ => none)] := hw
          have lv347 := Int32.le_toInt v347
          have uv347 := Int32.toInt_lt v347
          refine lv_if_eq (tgt := 341) S.x S.b d_Mo_rawCall_298 (by decide) (fun c353 => ?_) (fun c353 => ?_)
          · have nc353 : v347.toInt = (0 : Int) := (i_eq (x := v347) (y := 0)).mp c353
            refine lv_iload S.x S.b d_Mo_rawCall_341 (lv_at hl 1 rfl) ?_
            have hw : pw D A s.heap _ _ [wd_Mo cs mo mr (fun _ => none) mf326 md327 (gMo PG hq), fm 8 (fPg cs PG), fm 13 (fPr cs hq qr QO328 QF329 QA330)] := fm_back (pr := [wd_Mo cs mo mr (fun _ => none) mf326 md327 (gMo PG hq), fm 8 (fPg cs PG)]) (T := fPr cs hq qr QO328 QF329 QA330) hw hi345
            have hw : pw D A s.heap _ _ [wd_Mo cs mo mr (fun _ => none) mf326 md327 (gMo PG hq), fm 13 (fPr cs hq qr QO328 QF329 QA330), fm 8 (fPg cs PG)] := hw.sub [0, 2, 1] rfl rfl
            exact px_iret (v := 1) S hr rfl hlk hAe hw (Nat.le_of_ble_eq_true rfl) (Nat.le_of_ble_eq_true rfl) (⟨mf326, md327, QO328, QF329, QA330, rfl, (show 0 ≤ (1 : Int) from by first | exact oz_19c3a41681 | omega), (show (1 : Int) ≤ 1 from by first | exact oz_f9181dc4bb | omega), (show PrA PG (va_up RR p0.toNatClampNeg (RR p0.toNatClampNeg - (1 : Int))) QO328 QF329 QA330 from (hpr.low (by omega) (by omega) (by omega) (by have q9 := cl_nat (x := p0) (by first | exact g0 | omega); omega))), (show (mf326 0).toInt = (mf 0).toInt from by first | exact e336 | omega), (show (mf326 2).toInt = (mf 2).toInt from by first | exact e337 | omega), (show (mf326 3).toInt = (mf 3).toInt from by first | exact e338 | omega), (show (mf326 7).toInt = (mf 7).toInt from by first | exact e339 | omega), (show (mf326 8).toInt = (mf 8).toInt from by first | exact e340 | omega), (show (mf326 10).toInt = (mf 10).toInt from by first | exact e342 | omega), (show Md1 md md327 from hmdq)⟩) d_Mo_rawCall_343
          · have nc353 : ¬ v347.toInt = (0 : Int) := mt (i_eq (x := v347) (y := 0)).mpr c353
            refine lv_aload_n S.x S.b d_Mo_rawCall_301 rfl (lv_at hl 4 rfl) ?_
            refine px_get S k_Mpr hT hw 3 0 19 (v := .ref ((qr p0.toNatClampNeg) 19)) rfl rfl rfl (by decide) m11_12 d_Mo_rawCall_302 ?_
            refine lv_bipush (v := 10) S.x S.b d_Mo_rawCall_305 (by decide) ?_
            refine lv_iload S.x S.b d_Mo_rawCall_307 (lv_at hl 0 rfl) ?_
            refine lv_if_eq (tgt := 319) S.x S.b d_Mo_rawCall_309 (by decide) (fun c355 => ?_) (fun c355 => ?_)
            ·
              refine lv_iload_n S.x S.b d_Mo_rawCall_319 rfl (lv_at hl 3 rfl) ?_
              refine px_iast S hT hw 3 7 (n := 32) (f := ((QA330 p0.toNatClampNeg) 19)) (x := 10) (y := z2) rfl (ga_Mpr_19 _ _ _ _ _ _ _) (vp_in_iff.mpr (by constructor <;> omega)) d_Mo_rawCall_320 (w' := wd_Mpr cs (hq p0.toNatClampNeg) (qr p0.toNatClampNeg) (fun _ => QO328 p0.toNatClampNeg) (QF329 p0.toNatClampNeg) (va_up (QA330 p0.toNatClampNeg) 19 (upd ((QA330 p0.toNatClampNeg) 19) (10 : Int32).toNatClampNeg z2)) (fun _ _ => none)) (ps' := [wd_Mo cs mo mr (fun _ => none) mf326 md327 (gMo PG hq), fm 8 (fPg cs PG), fo 13 (fPr cs hq qr QO328 QF329 QA330) p0.toNatClampNeg, wd_Mpr cs (hq p0.toNatClampNeg) (qr p0.toNatClampNeg) (fun _ => QO328 p0.toNatClampNeg) (QF329 p0.toNatClampNeg) (va_up (QA330 p0.toNatClampNeg) 19 (upd ((QA330 p0.toNatClampNeg) 19) (10 : Int32).toNatClampNeg z2)) (fun _ _ => none)]) (sa_Mpr_19 _ _ _ _ _ _ _ _) rfl (fun H locs hw => ?_)
              refine lv_aload_n S.x S.b d_Mo_rawCall_321 rfl (lv_at hl 4 rfl) ?_
              refine lv_aload_n S.x S.b d_Mo_rawCall_322 rfl (lv_at hl 4 rfl) ?_
              refine px_get S k_Mpr hT hw 3 0 11 (v := .int ((QF329 p0.toNatClampNeg) 11)) rfl rfl rfl (by decide) m11_3 d_Mo_rawCall_323 ?_
              refine lv_iconst (v := 4) S.x S.b d_Mo_rawCall_326 (by decide) ?_
              refine lv_iadd S.x S.b d_Mo_rawCall_327 ?_
              have lr356 := Int32.le_toInt ((QF329 p0.toNatClampNeg) 11)
              have ur356 := Int32.toInt_lt ((QF329 p0.toNatClampNeg) 11)
              refine lv_topi (fun z357 ez357 => ?_)
              have tz357 : z357.toInt = (((QF329 p0.toNatClampNeg) 11).toInt + (4 : Int) + 2147483648) % 4294967296 - 2147483648 := by rw [ez357]; exact i_add ((QF329 p0.toNatClampNeg) 11) 4
              have lz357 := Int32.le_toInt z357
              have uz357 := Int32.toInt_lt z357
              try replace tz357 : z357.toInt = ((QF329 p0.toNatClampNeg) 11).toInt + (4 : Int) := by omega
              refine px_put S k_Mpr hT hw 3 0 11 rfl rfl (by decide) m11_3 rfl rfl rfl (Nat.le_of_ble_eq_true rfl) d_Mo_rawCall_328 (w' := wd_Mpr cs (hq p0.toNatClampNeg) (qr p0.toNatClampNeg) (fun _ => QO328 p0.toNatClampNeg) (upd (QF329 p0.toNatClampNeg) 11 z357) (va_up (QA330 p0.toNatClampNeg) 19 (upd ((QA330 p0.toNatClampNeg) 19) (10 : Int32).toNatClampNeg z2)) (fun _ _ => none)) (ps' := [wd_Mo cs mo mr (fun _ => none) mf326 md327 (gMo PG hq), fm 8 (fPg cs PG), fo 13 (fPr cs hq qr QO328 QF329 QA330) p0.toNatClampNeg, wd_Mpr cs (hq p0.toNatClampNeg) (qr p0.toNatClampNeg) (fun _ => QO328 p0.toNatClampNeg) (upd (QF329 p0.toNatClampNeg) 11 z357) (va_up (QA330 p0.toNatClampNeg) 19 (upd ((QA330 p0.toNatClampNeg) 19) (10 : Int32).toNatClampNeg z2)) (fun _ _ => none)]) rfl rfl (fun H locs hw => ?_)
              refine lv_aload_n S.x S.b d_Mo_rawCall_331 rfl (lv_at hl 4 rfl) ?_
              refine lv_dup S.x S.b d_Mo_rawCall_332 rfl ?_
              refine px_get S k_Mpr hT hw 3 0 4 (v := .int ((QF329 p0.toNatClampNeg) 4)) rfl rfl rfl (by decide) m10_230 d_Mo_rawCall_333 ?_
              refine lv_iconst (v := 1) S.x S.b d_Mo_rawCall_336 (by decide) ?_
              refine lv_isub S.x S.b d_Mo_rawCall_337 ?_
              have lr358 := Int32.le_toInt ((QF329 p0.toNatClampNeg) 4)
              have ur358 := Int32.toInt_lt ((QF329 p0.toNatClampNeg) 4)
              refine lv_topi (fun z359 ez359 => ?_)
              have tz359 : z359.toInt = (((QF329 p0.toNatClampNeg) 4).toInt - (1 : Int) + 2147483648) % 4294967296 - 2147483648 := by rw [ez359]; exact i_sub ((QF329 p0.toNatClampNeg) 4) 1
              have lz359 := Int32.le_toInt z359
              have uz359 := Int32.toInt_lt z359
              try replace tz359 : z359.toInt = ((QF329 p0.toNatClampNeg) 4).toInt - (1 : Int) := by omega
              refine px_put S k_Mpr hT hw 3 0 4 rfl rfl (by decide) m10_230 rfl rfl rfl (Nat.le_of_ble_eq_true rfl) d_Mo_rawCall_338 (w' := wd_Mpr cs (hq p0.toNatClampNeg) (qr p0.toNatClampNeg) (fun _ => QO328 p0.toNatClampNeg) (upd (upd (QF329 p0.toNatClampNeg) 4 z359) 11 z357) (va_up (QA330 p0.toNatClampNeg) 19 (upd ((QA330 p0.toNatClampNeg) 19) (10 : Int32).toNatClampNeg z2)) (fun _ _ => none)) (ps' := [wd_Mo cs mo mr (fun _ => none) mf326 md327 (gMo PG hq), fm 8 (fPg cs PG), fo 13 (fPr cs hq qr QO328 QF329 QA330) p0.toNatClampNeg, wd_Mpr cs (hq p0.toNatClampNeg) (qr p0.toNatClampNeg) (fun _ => QO328 p0.toNatClampNeg) (upd (upd (QF329 p0.toNatClampNeg) 4 z359) 11 z357) (va_up (QA330 p0.toNatClampNeg) 19 (upd ((QA330 p0.toNatClampNeg) 19) (10 : Int32).toNatClampNeg z2)) (fun _ _ => none)]) rfl rfl (fun H locs hw => ?_)
              refine lv_iload S.x S.b d_Mo_rawCall_341 (lv_at hl 1 rfl) ?_
              have hw := fpr_in (pr := [wd_Mo cs mo mr (fun _ => none) mf326 md327 (gMo PG hq), fm 8 (fPg cs PG)]) hw hi345
              obtain ⟨QO360, hu_QO360⟩ : ∃ y : Nat → Option Nat, y = va_up QO328 p0.toNatClampNeg ((fun _ => QO328 p0.toNatClampNeg) 0) := ⟨_, rfl⟩
              obtain ⟨QF361, hu_QF361⟩ : ∃ y : Nat → Nat → Int32, y = va_up QF329 p0.toNatClampNeg (upd (upd (QF329 p0.toNatClampNeg) 4 z359) 11 z357) := ⟨_, rfl⟩
              obtain ⟨QA362, hu_QA362⟩ : ∃ y : Nat → Nat → Nat → Int32, y = va_up QA330 p0.toNatClampNeg (va_up (QA330 p0.toNatClampNeg) 19 (upd ((QA330 p0.toNatClampNeg) 19) (10 : Int32).toNatClampNeg z2)) := ⟨_, rfl⟩
              have hw : pw D A s.heap _ _ [wd_Mo cs mo mr (fun _ => none) mf326 md327 (gMo PG hq), fm 8 (fPg cs PG), fm 13 (fPr cs hq qr QO360 QF361 QA362)] := (by rw [hu_QO360, hu_QF361, hu_QA362]; exact hw)
              have hpr : PrA PG (va_up RR p0.toNatClampNeg (RR p0.toNatClampNeg - (1 : Int))) QO360 QF361 QA362 := (by rw [hu_QO360, hu_QF361, hu_QA362]; exact PrA.upR hpr (psr_raw (j := j9) hj9 hqo h66 (show (0 ≤ ((QF329 p0.toNatClampNeg) 1).toInt ∧ ((QF329 p0.toNatClampNeg) 1).toInt ≤ 1) ∧ (0 ≤ ((QF329 p0.toNatClampNeg) 21).toInt ∧ ((QF329 p0.toNatClampNeg) 21).toInt ≤ 4) ∧ (0 ≤ ((QF329 p0.toNatClampNeg) 23).toInt ∧ ((QF329 p0.toNatClampNeg) 23).toInt ≤ 4) ∧ (0 ≤ ((QF329 p0.toNatClampNeg) 24).toInt ∧ ((QF329 p0.toNatClampNeg) 24).toInt ≤ 1000000) ∧ (0 ≤ ((QF329 p0.toNatClampNeg) 6).toInt ∧ ((QF329 p0.toNatClampNeg) 6).toInt ≤ 3) ∧ (0 ≤ ((QF329 p0.toNatClampNeg) 7).toInt ∧ ((QF329 p0.toNatClampNeg) 7).toInt ≤ 1) from by omega) (show ((QF329 p0.toNatClampNeg) 1).toInt = 1 from by omega) (show 0 ≤ z359.toInt ∧ z359.toInt + 1 ≤ RR p0.toNatClampNeg - (1 : Int) ∧ ((QF329 p0.toNatClampNeg) 24).toInt + z359.toInt ≤ 1600 from by omega)) (show ((QF329 p0.toNatClampNeg) 1).toInt = (QF329 p0.toNatClampNeg 1).toInt from by first | exact oz_507c05ca68 | omega) (show (QF329 p0.toNatClampNeg 6).toInt ≤ ((QF329 p0.toNatClampNeg) 6).toInt from by first | exact oz_1cb5f934a5 | omega))
              have hqo : OqE (QO360 p0.toNatClampNeg) (PG j9).h := (by rw [hu_QO360, va_up_s]; exact hqo)
              have hqk1_QF361 : (QF361 p0.toNatClampNeg 1).toInt = ((QF329 p0.toNatClampNeg) 1).toInt := (by rw [hu_QF361, va_up_s]; try rfl)
              have hqk2_QF361 : (QF361 p0.toNatClampNeg 2).toInt = ((QF329 p0.toNatClampNeg) 2).toInt := (by rw [hu_QF361, va_up_s]; try rfl)
              have hqk4_QF361 : (QF361 p0.toNatClampNeg 4).toInt = z359.toInt := (by rw [hu_QF361, va_up_s]; try rfl)
              have hqk24_QF361 : (QF361 p0.toNatClampNeg 24).toInt = ((QF329 p0.toNatClampNeg) 24).toInt := (by rw [hu_QF361, va_up_s]; try rfl)
              have hw : pw D A s.heap _ _ [wd_Mo cs mo mr (fun _ => none) mf326 md327 (gMo PG hq), fm 13 (fPr cs hq qr QO360 QF361 QA362), fm 8 (fPg cs PG)] := hw.sub [0, 2, 1] rfl rfl
              exact px_iret (v := 1) S hr rfl hlk hAe hw (Nat.le_of_ble_eq_true rfl) (Nat.le_of_ble_eq_true rfl) (⟨mf326, md327, QO360, QF361, QA362, rfl, (show 0 ≤ (1 : Int) from by first | exact oz_19c3a41681 | omega), (show (1 : Int) ≤ 1 from by first | exact oz_f9181dc4bb | omega), (show PrA PG (va_up RR p0.toNatClampNeg (RR p0.toNatClampNeg - (1 : Int))) QO360 QF361 QA362 from hpr), (show (mf326 0).toInt = (mf 0).toInt from by first | exact e336 | omega), (show (mf326 2).toInt = (mf 2).toInt from by first | exact e337 | omega), (show (mf326 3).toInt = (mf 3).toInt from by first | exact e338 | omega), (show (mf326 7).toInt = (mf 7).toInt from by first | exact e339 | omega), (show (mf326 8).toInt = (mf 8).toInt from by first | exact e340 | omega), (show (mf326 10).toInt = (mf 10).toInt from by first | exact e342 | omega), (show Md1 md md327 from hmdq)⟩) d_Mo_rawCall_343
            · exact absurd c355 (by decide)
      · have nc318 : z317.toInt = (7 : Int) := (i_eq (x := z317) (y := 7)).mp c318
        refine lv_iconst (v := 1) S.x S.b d_Mo_rawCall_232 (by decide) ?_
        refine lv_goto (tgt := 237) S.x S.b d_Mo_rawCall_233 (by decide) ?_
        refine lv_iload_n S.x S.b d_Mo_rawCall_237 rfl (lv_at hl 3 rfl) ?_
        refine lv_iload S.x S.b d_Mo_rawCall_238 (lv_at hl 2 rfl) ?_
        refine lv_aload_n S.x S.b d_Mo_rawCall_240 rfl (lv_at hl 4 rfl) ?_
        refine px_get S k_Mpr hT hw 3 0 19 (v := .ref ((qr p0.toNatClampNeg) 19)) rfl rfl rfl (by decide) m11_12 d_Mo_rawCall_241 ?_
        refine lv_bipush (v := 12) S.x S.b d_Mo_rawCall_244 (by decide) ?_
        refine px_iald S hT hw 3 7 (n := 32) (f := ((QA p0.toNatClampNeg) 19)) rfl (ga_Mpr_19 _ _ _ _ _ _ _) (x := 12) (vp_in_iff.mpr (by constructor <;> omega)) d_Mo_rawCall_246 ?_
        refine lv_topi (fun z363 ez363 => ?_)
        have lz363 := Int32.le_toInt z363
        have uz363 := Int32.toInt_lt z363
        have hw : pw D A s.heap _ _ [wd_Mo cs mo mr (fun _ => none) mf md (gMo PG hq), fm 8 (fPg cs PG), fm 13 (fPr cs hq qr QO QF QA)] := fm_back (pr := [wd_Mo cs mo mr (fun _ => none) mf md (gMo PG hq), fm 8 (fPg cs PG)]) (T := fPr cs hq qr QO QF QA) hw hi1
        have hw : pw D A s.heap _ _ [wd_Mo cs mo mr (fun _ => none) mf md (gMo PG hq), fm 13 (fPr cs hq qr QO QF QA), fm 8 (fPg cs PG)] := hw.sub [0, 2, 1] rfl rfl
        refine px_callv (pr := []) (px_runV (As := [.int p0, .int 1, .int z2, .int z3, .int z363]) (rest := []) S (c_mo_moveWords l D cs RR j9 mo mr mf md hq qr QO QF QA PG p0 1 z2 z3 z363  (show 0 ≤ p0.toInt from by first | exact g0 | omega) (show p0.toInt < 13 from by first | exact g1 | omega) (show (QF p0.toNatClampNeg 1).toInt = 1 from by first | exact g6 | omega) (show (QF p0.toNatClampNeg 2).toInt = -2 from by first | exact g7 | omega) hpr hpg hj9 h66 hqo hrw _) hT (pr := []) (pcs := [wd_Mo cs mo mr (fun _ => none) mf md (gMo PG hq), fm 13 (fPr cs hq qr QO QF QA), fm 8 (fPg cs PG)]) hw (oX_call (P := (fun A U H => (∀ j : Nat, j < 8 → oP A (PG j).g U H))) (pr := []) oG_G hw hA hGG) (px_recv hT hw 0 0 rfl rfl rfl) m14_90 m14_87 m14_89 ms_16_7 m1_20 q_Mo_moveWords ⟨Nat.le_of_ble_eq_true rfl, Nat.le_of_ble_eq_true rfl⟩ hl.1 rfl (Nat.le_of_ble_eq_true rfl) d_Mo_rawCall_247 ⟨Nat.le_of_ble_eq_true rfl, Nat.le_of_ble_eq_true rfl⟩) hw hA (fun p374 H locs hp374 hw => ?_)
        obtain ⟨mf369, md370, QO371, QF372, QA373, rfl, e376, e377, e378, e379, e380, e381, e382, e383, e384, e385, e386⟩ := hp374
        have e376 : PrA PG RR QO371 QF372 QA373 := e376
        have hpr := e376
        have e377 : OqE (QO371 p0.toNatClampNeg) (PG j9).h := e377
        have hqo := e377
        have e378 : KpW QO QF QO371 QF372 p0.toNatClampNeg := e378
        have hkw := e378
        have hkf := hkw.2
        unfold KpF at hkf
        have e379 : (mf369 0).toInt = (mf 0).toInt := e379
        have e380 : (mf369 2).toInt = (mf 2).toInt := e380
        have e381 : (mf369 3).toInt = (mf 3).toInt := e381
        have e382 : (mf369 7).toInt = (mf 7).toInt := e382
        have e383 : (mf369 8).toInt = (mf 8).toInt := e383
        have e384 : (mf369 9).toInt = (mf 9).toInt := e384
        have e385 : (mf369 10).toInt = (mf 10).toInt := e385
        have e386 : Md1 md md370 := e386
        have hmdq := Md1.tr hmdq e386
        have hw : pw D A s.heap H locs [wd_Mo cs mo mr (fun _ => none) mf369 md370 (gMo PG hq), fm 13 (fPr cs hq qr QO371 QF372 QA373), fm 8 (fPg cs PG)] := hw
        refine lv_goto (tgt := 289) S.x S.b d_Mo_rawCall_250 (by decide) ?_
        refine lv_iload S.x S.b d_Mo_rawCall_289 (lv_at hl 1 rfl) ?_
        refine lv_if_eq (tgt := 341) S.x S.b d_Mo_rawCall_291 (by decide) (fun c387 => ?_) (fun c387 => ?_)
        · exact absurd c387 (by decide)
        ·
          refine lv_aload_n S.x S.b d_Mo_rawCall_294 rfl (lv_at hl 4 rfl) ?_
          have hw : pw D A s.heap _ _ [wd_Mo cs mo mr (fun _ => none) mf369 md370 (gMo PG hq), fm 8 (fPg cs PG), fm 13 (fPr cs hq qr QO371 QF372 QA373)] := hw.sub [0, 2, 1] rfl rfl
          have hc388 := cl_nat (x := p0) (by first | exact g0 | omega)
          have hi388 : p0.toNatClampNeg < 13 := by first | exact hi1 | omega
          have hw : pw D A s.heap _ _ [wd_Mo cs mo mr (fun _ => none) mf369 md370 (gMo PG hq), fm 8 (fPg cs PG), fo 13 (fPr cs hq qr QO371 QF372 QA373) p0.toNatClampNeg, wd_Mpr cs (hq p0.toNatClampNeg) (qr p0.toNatClampNeg) (fun _ => QO371 p0.toNatClampNeg) (QF372 p0.toNatClampNeg) (QA373 p0.toNatClampNeg) (fun _ _ => none)] := fm_out (pr := [wd_Mo cs mo mr (fun _ => none) mf369 md370 (gMo PG hq), fm 8 (fPg cs PG)]) (T := fPr cs hq qr QO371 QF372 QA373) hw hi388
          have hps388 := hpr.1 p0.toNatClampNeg hi388
          have hpb388 := hps388.1
          unfold PsB at hpb388
          refine px_calli (pr := [wd_Mo cs mo mr (fun _ => none) mf369 md370 (gMo PG hq), fm 8 (fPg cs PG), fo 13 (fPr cs hq qr QO371 QF372 QA373) p0.toNatClampNeg]) (px_runV (As := []) (rest := []) S (c_mq_isGoing l D cs (hq p0.toNatClampNeg) (qr p0.toNatClampNeg) (fun _ _ => none) (fun _ => QO371 p0.toNatClampNeg) (QF372 p0.toNatClampNeg) (QA373 p0.toNatClampNeg)    _) hT (pr := [wd_Mo cs mo mr (fun _ => none) mf369 md370 (gMo PG hq), fm 8 (fPg cs PG), fo 13 (fPr cs hq qr QO371 QF372 QA373) p0.toNatClampNeg]) (pcs := [wd_Mpr cs (hq p0.toNatClampNeg) (qr p0.toNatClampNeg) (fun _ => QO371 p0.toNatClampNeg) (QF372 p0.toNatClampNeg) (QA373 p0.toNatClampNeg) (fun _ _ => none)]) hw px_X.tt (px_recv hT hw 3 0 rfl rfl rfl) m13_165 m13_162 m13_163 m13_164 m1_22 q_Mpr_isGoing ⟨Nat.le_of_ble_eq_true rfl, Nat.le_of_ble_eq_true rfl⟩ hl.1 rfl (Nat.le_of_ble_eq_true rfl) d_Mo_rawCall_295 ⟨Nat.le_of_ble_eq_true rfl, Nat.le_of_ble_eq_true rfl⟩) hw hA (fun v390 p389 H locs hp389 hw => ?_)
          obtain ⟨rfl, e391, e392, e393, e394, e395⟩ := hp389
          have e391 : 0 ≤ v390.toInt := e391
          have e392 : v390.toInt ≤ 1 := e392
          have e393 : v390.toInt = 1 → ((QF372 p0.toNatClampNeg) 1).toInt ≠ 0 := e393
          have e394 : v390.toInt = 1 → ((QF372 p0.toNatClampNeg) 2).toInt = -2 := e394
          have e395 : ((QF372 p0.toNatClampNeg) 1).toInt ≠ 0 → ((QF372 p0.toNatClampNeg) 2).toInt = -2 → v390.toInt = 1 := e395
          have hw : pw D A s.heap H locs [wd_Mo cs mo mr (fun _ => none) mf369 md370 (gMo PG hq), fm 8 (fPg cs PG), fo 13 (fPr cs hq qr QO371 QF372 QA373) p0.toNatClampNeg, wd_Mpr cs (hq p0.toNatClampNeg) (qr p0.toNatClampNeg) (fun _ => QO371 p0.toNatClampNeg) (QF372 p0.toNatClampNeg) (QA373 p0.toNatClampNeg) (fun _ _ => none)] := hw
          have lv390 := Int32.le_toInt v390
          have uv390 := Int32.toInt_lt v390
          refine lv_if_eq (tgt := 341) S.x S.b d_Mo_rawCall_298 (by decide) (fun c396 => ?_) (fun c396 => ?_)
          · have nc396 : v390.toInt = (0 : Int) := (i_eq (x := v390) (y := 0)).mp c396
            refine lv_iload S.x S.b d_Mo_rawCall_341 (lv_at hl 1 rfl) ?_
            have hw : pw D A s.heap _ _ [wd_Mo cs mo mr (fun _ => none) mf369 md370 (gMo PG hq), fm 8 (fPg cs PG), fm 13 (fPr cs hq qr QO371 QF372 QA373)] := fm_back (pr := [wd_Mo cs mo mr (fun _ => none) mf369 md370 (gMo PG hq), fm 8 (fPg cs PG)]) (T := fPr cs hq qr QO371 QF372 QA373) hw hi388
            have hw : pw D A s.heap _ _ [wd_Mo cs mo mr (fun _ => none) mf369 md370 (gMo PG hq), fm 13 (fPr cs hq qr QO371 QF372 QA373), fm 8 (fPg cs PG)] := hw.sub [0, 2, 1] rfl rfl
            exact px_iret (v := 1) S hr rfl hlk hAe hw (Nat.le_of_ble_eq_true rfl) (Nat.le_of_ble_eq_true rfl) (⟨mf369, md370, QO371, QF372, QA373, rfl, (show 0 ≤ (1 : Int) from by first | exact oz_19c3a41681 | omega), (show (1 : Int) ≤ 1 from by first | exact oz_f9181dc4bb | omega), (show PrA PG (va_up RR p0.toNatClampNeg (RR p0.toNatClampNeg - (1 : Int))) QO371 QF372 QA373 from (hpr.low (by omega) (by omega) (by omega) (by have q9 := cl_nat (x := p0) (by first | exact g0 | omega); omega))), (show (mf369 0).toInt = (mf 0).toInt from by first | exact e379 | omega), (show (mf369 2).toInt = (mf 2).toInt from by first | exact e380 | omega), (show (mf369 3).toInt = (mf 3).toInt from by first | exact e381 | omega), (show (mf369 7).toInt = (mf 7).toInt from by first | exact e382 | omega), (show (mf369 8).toInt = (mf 8).toInt from by first | exact e383 | omega), (show (mf369 10).toInt = (mf 10).toInt from by first | exact e385 | omega), (show Md1 md md370 from hmdq)⟩) d_Mo_rawCall_343
          · have nc396 : ¬ v390.toInt = (0 : Int) := mt (i_eq (x := v390) (y := 0)).mpr c396
            refine lv_aload_n S.x S.b d_Mo_rawCall_301 rfl (lv_at hl 4 rfl) ?_
            refine px_get S k_Mpr hT hw 3 0 19 (v := .ref ((qr p0.toNatClampNeg) 19)) rfl rfl rfl (by decide) m11_12 d_Mo_rawCall_302 ?_
            refine lv_bipush (v := 10) S.x S.b d_Mo_rawCall_305 (by decide) ?_
            refine lv_iload S.x S.b d_Mo_rawCall_307 (lv_at hl 0 rfl) ?_
            refine lv_if_eq (tgt := 319) S.x S.b d_Mo_rawCall_309 (by decide) (fun c398 => ?_) (fun c398 => ?_)
            ·
              refine lv_iload_n S.x S.b d_Mo_rawCall_319 rfl (lv_at hl 3 rfl) ?_
              refine px_iast S hT hw 3 7 (n := 32) (f := ((QA373 p0.toNatClampNeg) 19)) (x := 10) (y := z2) rfl (ga_Mpr_19 _ _ _ _ _ _ _) (vp_in_iff.mpr (by constructor <;> omega)) d_Mo_rawCall_320 (w' := wd_Mpr cs (hq p0.toNatClampNeg) (qr p0.toNatClampNeg) (fun _ => QO371 p0.toNatClampNeg) (QF372 p0.toNatClampNeg) (va_up (QA373 p0.toNatClampNeg) 19 (upd ((QA373 p0.toNatClampNeg) 19) (10 : Int32).toNatClampNeg z2)) (fun _ _ => none)) (ps' := [wd_Mo cs mo mr (fun _ => none) mf369 md370 (gMo PG hq), fm 8 (fPg cs PG), fo 13 (fPr cs hq qr QO371 QF372 QA373) p0.toNatClampNeg, wd_Mpr cs (hq p0.toNatClampNeg) (qr p0.toNatClampNeg) (fun _ => QO371 p0.toNatClampNeg) (QF372 p0.toNatClampNeg) (va_up (QA373 p0.toNatClampNeg) 19 (upd ((QA373 p0.toNatClampNeg) 19) (10 : Int32).toNatClampNeg z2)) (fun _ _ => none)]) (sa_Mpr_19 _ _ _ _ _ _ _ _) rfl (fun H locs hw => ?_)
              refine lv_aload_n S.x S.b d_Mo_rawCall_321 rfl (lv_at hl 4 rfl) ?_
              refine lv_aload_n S.x S.b d_Mo_rawCall_322 rfl (lv_at hl 4 rfl) ?_
              refine px_get S k_Mpr hT hw 3 0 11 (v := .int ((QF372 p0.toNatClampNeg) 11)) rfl rfl rfl (by decide) m11_3 d_Mo_rawCall_323 ?_
              refine lv_iconst (v := 4) S.x S.b d_Mo_rawCall_326 (by decide) ?_
              refine lv_iadd S.x S.b d_Mo_rawCall_327 ?_
              have lr399 := Int32.le_toInt ((QF372 p0.toNatClampNeg) 11)
              have ur399 := Int32.toInt_lt ((QF372 p0.toNatClampNeg) 11)
              refine lv_topi (fun z400 ez400 => ?_)
              have tz400 : z400.toInt = (((QF372 p0.toNatClampNeg) 11).toInt + (4 : Int) + 2147483648) % 4294967296 - 2147483648 := by rw [ez400]; exact i_add ((QF372 p0.toNatClampNeg) 11) 4
              have lz400 := Int32.le_toInt z400
              have uz400 := Int32.toInt_lt z400
              try replace tz400 : z400.toInt = ((QF372 p0.toNatClampNeg) 11).toInt + (4 : Int) := by omega
              refine px_put S k_Mpr hT hw 3 0 11 rfl rfl (by decide) m11_3 rfl rfl rfl (Nat.le_of_ble_eq_true rfl) d_Mo_rawCall_328 (w' := wd_Mpr cs (hq p0.toNatClampNeg) (qr p0.toNatClampNeg) (fun _ => QO371 p0.toNatClampNeg) (upd (QF372 p0.toNatClampNeg) 11 z400) (va_up (QA373 p0.toNatClampNeg) 19 (upd ((QA373 p0.toNatClampNeg) 19) (10 : Int32).toNatClampNeg z2)) (fun _ _ => none)) (ps' := [wd_Mo cs mo mr (fun _ => none) mf369 md370 (gMo PG hq), fm 8 (fPg cs PG), fo 13 (fPr cs hq qr QO371 QF372 QA373) p0.toNatClampNeg, wd_Mpr cs (hq p0.toNatClampNeg) (qr p0.toNatClampNeg) (fun _ => QO371 p0.toNatClampNeg) (upd (QF372 p0.toNatClampNeg) 11 z400) (va_up (QA373 p0.toNatClampNeg) 19 (upd ((QA373 p0.toNatClampNeg) 19) (10 : Int32).toNatClampNeg z2)) (fun _ _ => none)]) rfl rfl (fun H locs hw => ?_)
              refine lv_aload_n S.x S.b d_Mo_rawCall_331 rfl (lv_at hl 4 rfl) ?_
              refine lv_dup S.x S.b d_Mo_rawCall_332 rfl ?_
              refine px_get S k_Mpr hT hw 3 0 4 (v := .int ((QF372 p0.toNatClampNeg) 4)) rfl rfl rfl (by decide) m10_230 d_Mo_rawCall_333 ?_
              refine lv_iconst (v := 1) S.x S.b d_Mo_rawCall_336 (by decide) ?_
              refine lv_isub S.x S.b d_Mo_rawCall_337 ?_
              have lr401 := Int32.le_toInt ((QF372 p0.toNatClampNeg) 4)
              have ur401 := Int32.toInt_lt ((QF372 p0.toNatClampNeg) 4)
              refine lv_topi (fun z402 ez402 => ?_)
              have tz402 : z402.toInt = (((QF372 p0.toNatClampNeg) 4).toInt - (1 : Int) + 2147483648) % 4294967296 - 2147483648 := by rw [ez402]; exact i_sub ((QF372 p0.toNatClampNeg) 4) 1
              have lz402 := Int32.le_toInt z402
              have uz402 := Int32.toInt_lt z402
              try replace tz402 : z402.toInt = ((QF372 p0.toNatClampNeg) 4).toInt - (1 : Int) := by omega
              refine px_put S k_Mpr hT hw 3 0 4 rfl rfl (by decide) m10_230 rfl rfl rfl (Nat.le_of_ble_eq_true rfl) d_Mo_rawCall_338 (w' := wd_Mpr cs (hq p0.toNatClampNeg) (qr p0.toNatClampNeg) (fun _ => QO371 p0.toNatClampNeg) (upd (upd (QF372 p0.toNatClampNeg) 4 z402) 11 z400) (va_up (QA373 p0.toNatClampNeg) 19 (upd ((QA373 p0.toNatClampNeg) 19) (10 : Int32).toNatClampNeg z2)) (fun _ _ => none)) (ps' := [wd_Mo cs mo mr (fun _ => none) mf369 md370 (gMo PG hq), fm 8 (fPg cs PG), fo 13 (fPr cs hq qr QO371 QF372 QA373) p0.toNatClampNeg, wd_Mpr cs (hq p0.toNatClampNeg) (qr p0.toNatClampNeg) (fun _ => QO371 p0.toNatClampNeg) (upd (upd (QF372 p0.toNatClampNeg) 4 z402) 11 z400) (va_up (QA373 p0.toNatClampNeg) 19 (upd ((QA373 p0.toNatClampNeg) 19) (10 : Int32).toNatClampNeg z2)) (fun _ _ => none)]) rfl rfl (fun H locs hw => ?_)
              refine lv_iload S.x S.b d_Mo_rawCall_341 (lv_at hl 1 rfl) ?_
              have hw := fpr_in (pr := [wd_Mo cs mo mr (fun _ => none) mf369 md370 (gMo PG hq), fm 8 (fPg cs PG)]) hw hi388
              obtain ⟨QO403, hu_QO403⟩ : ∃ y : Nat → Option Nat, y = va_up QO371 p0.toNatClampNeg ((fun _ => QO371 p0.toNatClampNeg) 0) := ⟨_, rfl⟩
              obtain ⟨QF404, hu_QF404⟩ : ∃ y : Nat → Nat → Int32, y = va_up QF372 p0.toNatClampNeg (upd (upd (QF372 p0.toNatClampNeg) 4 z402) 11 z400) := ⟨_, rfl⟩
              obtain ⟨QA405, hu_QA405⟩ : ∃ y : Nat → Nat → Nat → Int32, y = va_up QA373 p0.toNatClampNeg (va_up (QA373 p0.toNatClampNeg) 19 (upd ((QA373 p0.toNatClampNeg) 19) (10 : Int32).toNatClampNeg z2)) := ⟨_, rfl⟩
              have hw : pw D A s.heap _ _ [wd_Mo cs mo mr (fun _ => none) mf369 md370 (gMo PG hq), fm 8 (fPg cs PG), fm 13 (fPr cs hq qr QO403 QF404 QA405)] := (by rw [hu_QO403, hu_QF404, hu_QA405]; exact hw)
              have hpr : PrA PG (va_up RR p0.toNatClampNeg (RR p0.toNatClampNeg - (1 : Int))) QO403 QF404 QA405 := (by rw [hu_QO403, hu_QF404, hu_QA405]; exact PrA.upR hpr (psr_raw (j := j9) hj9 hqo h66 (show (0 ≤ ((QF372 p0.toNatClampNeg) 1).toInt ∧ ((QF372 p0.toNatClampNeg) 1).toInt ≤ 1) ∧ (0 ≤ ((QF372 p0.toNatClampNeg) 21).toInt ∧ ((QF372 p0.toNatClampNeg) 21).toInt ≤ 4) ∧ (0 ≤ ((QF372 p0.toNatClampNeg) 23).toInt ∧ ((QF372 p0.toNatClampNeg) 23).toInt ≤ 4) ∧ (0 ≤ ((QF372 p0.toNatClampNeg) 24).toInt ∧ ((QF372 p0.toNatClampNeg) 24).toInt ≤ 1000000) ∧ (0 ≤ ((QF372 p0.toNatClampNeg) 6).toInt ∧ ((QF372 p0.toNatClampNeg) 6).toInt ≤ 3) ∧ (0 ≤ ((QF372 p0.toNatClampNeg) 7).toInt ∧ ((QF372 p0.toNatClampNeg) 7).toInt ≤ 1) from by omega) (show ((QF372 p0.toNatClampNeg) 1).toInt = 1 from by omega) (show 0 ≤ z402.toInt ∧ z402.toInt + 1 ≤ RR p0.toNatClampNeg - (1 : Int) ∧ ((QF372 p0.toNatClampNeg) 24).toInt + z402.toInt ≤ 1600 from by omega)) (show ((QF372 p0.toNatClampNeg) 1).toInt = (QF372 p0.toNatClampNeg 1).toInt from by first | exact oz_507c05ca68 | omega) (show (QF372 p0.toNatClampNeg 6).toInt ≤ ((QF372 p0.toNatClampNeg) 6).toInt from by first | exact oz_1cb5f934a5 | omega))
              have hqo : OqE (QO403 p0.toNatClampNeg) (PG j9).h := (by rw [hu_QO403, va_up_s]; exact hqo)
              have hqk1_QF404 : (QF404 p0.toNatClampNeg 1).toInt = ((QF372 p0.toNatClampNeg) 1).toInt := (by rw [hu_QF404, va_up_s]; try rfl)
              have hqk2_QF404 : (QF404 p0.toNatClampNeg 2).toInt = ((QF372 p0.toNatClampNeg) 2).toInt := (by rw [hu_QF404, va_up_s]; try rfl)
              have hqk4_QF404 : (QF404 p0.toNatClampNeg 4).toInt = z402.toInt := (by rw [hu_QF404, va_up_s]; try rfl)
              have hqk24_QF404 : (QF404 p0.toNatClampNeg 24).toInt = ((QF372 p0.toNatClampNeg) 24).toInt := (by rw [hu_QF404, va_up_s]; try rfl)
              have hw : pw D A s.heap _ _ [wd_Mo cs mo mr (fun _ => none) mf369 md370 (gMo PG hq), fm 13 (fPr cs hq qr QO403 QF404 QA405), fm 8 (fPg cs PG)] := hw.sub [0, 2, 1] rfl rfl
              exact px_iret (v := 1) S hr rfl hlk hAe hw (Nat.le_of_ble_eq_true rfl) (Nat.le_of_ble_eq_true rfl) (⟨mf369, md370, QO403, QF404, QA405, rfl, (show 0 ≤ (1 : Int) from by first | exact oz_19c3a41681 | omega), (show (1 : Int) ≤ 1 from by first | exact oz_f9181dc4bb | omega), (show PrA PG (va_up RR p0.toNatClampNeg (RR p0.toNatClampNeg - (1 : Int))) QO403 QF404 QA405 from hpr), (show (mf369 0).toInt = (mf 0).toInt from by first | exact e379 | omega), (show (mf369 2).toInt = (mf 2).toInt from by first | exact e380 | omega), (show (mf369 3).toInt = (mf 3).toInt from by first | exact e381 | omega), (show (mf369 7).toInt = (mf 7).toInt from by first | exact e382 | omega), (show (mf369 8).toInt = (mf 8).toInt from by first | exact e383 | omega), (show (mf369 10).toInt = (mf 10).toInt from by first | exact e385 | omega), (show Md1 md md370 from hmdq)⟩) d_Mo_rawCall_343
            · exact absurd c398 (by decide)
    · simp only [List.mem_cons, List.not_mem_nil, or_false] at c45
      refine lv_aload_n S.x S.b d_Mo_rawCall_253 rfl (lv_at hl 4 rfl) ?_
      refine lv_iconst (v := 1) S.x S.b d_Mo_rawCall_254 (by decide) ?_
      refine lv_iload_n S.x S.b d_Mo_rawCall_255 rfl (lv_at hl 3 rfl) ?_
      refine px_callv (pr := [wd_Mo cs mo mr (fun _ => none) mf md (gMo PG hq), fm 8 (fPg cs PG), fo 13 (fPr cs hq qr QO QF QA) p0.toNatClampNeg]) (px_runV (As := [.int 1, .int z2]) (rest := []) S (c_mq_end l D cs (hq p0.toNatClampNeg) (qr p0.toNatClampNeg) (fun _ _ => none) (fun _ => QO p0.toNatClampNeg) (QA p0.toNatClampNeg) (QF p0.toNatClampNeg) 1 z2   _) hT (pr := [wd_Mo cs mo mr (fun _ => none) mf md (gMo PG hq), fm 8 (fPg cs PG), fo 13 (fPr cs hq qr QO QF QA) p0.toNatClampNeg]) (pcs := [wd_Mpr cs (hq p0.toNatClampNeg) (qr p0.toNatClampNeg) (fun _ => QO p0.toNatClampNeg) (QF p0.toNatClampNeg) (QA p0.toNatClampNeg) (fun _ _ => none)]) hw px_X.tt (px_recv hT hw 3 0 rfl rfl rfl) m13_177 m14_35 m13_175 m13_176 m1_22 q_Mpr_end ⟨Nat.le_of_ble_eq_true rfl, Nat.le_of_ble_eq_true rfl⟩ hl.1 rfl (Nat.le_of_ble_eq_true rfl) d_Mo_rawCall_256 ⟨Nat.le_of_ble_eq_true rfl, Nat.le_of_ble_eq_true rfl⟩) hw hA (fun p408 H locs hp408 hw => ?_)
      obtain ⟨qf407, rfl, e410, e411, e412, e413, e414, e415, e416, e417, e418, e419, e420, e421, e422, e423⟩ := hp408
      have e410 : (qf407 2).toInt = (1 : Int) := e410
      have e411 : (qf407 1).toInt = ((QF p0.toNatClampNeg) 1).toInt := e411
      have e412 : (qf407 4).toInt = ((QF p0.toNatClampNeg) 4).toInt := e412
      have e413 : (qf407 5).toInt = ((QF p0.toNatClampNeg) 5).toInt := e413
      have e414 : (qf407 6).toInt = ((QF p0.toNatClampNeg) 6).toInt := e414
      have e415 : (qf407 7).toInt = ((QF p0.toNatClampNeg) 7).toInt := e415
      have e416 : (qf407 10).toInt = ((QF p0.toNatClampNeg) 10).toInt := e416
      have e417 : (qf407 11).toInt = ((QF p0.toNatClampNeg) 11).toInt := e417
      have e418 : (qf407 12).toInt = ((QF p0.toNatClampNeg) 12).toInt := e418
      have e419 : (qf407 13).toInt = ((QF p0.toNatClampNeg) 13).toInt := e419
      have e420 : (qf407 14).toInt = ((QF p0.toNatClampNeg) 14).toInt := e420
      have e421 : (qf407 21).toInt = ((QF p0.toNatClampNeg) 21).toInt := e421
      have e422 : (qf407 23).toInt = ((QF p0.toNatClampNeg) 23).toInt := e422
      have e423 : (qf407 24).toInt = ((QF p0.toNatClampNeg) 24).toInt := e423
      have hw : pw D A s.heap H locs [wd_Mo cs mo mr (fun _ => none) mf md (gMo PG hq), fm 8 (fPg cs PG), fo 13 (fPr cs hq qr QO QF QA) p0.toNatClampNeg, wd_Mpr cs (hq p0.toNatClampNeg) (qr p0.toNatClampNeg) (fun _ => QO p0.toNatClampNeg) qf407 (QA p0.toNatClampNeg) (fun _ _ => none)] := hw
      refine lv_goto (tgt := 289) S.x S.b d_Mo_rawCall_259 (by decide) ?_
      refine lv_iload S.x S.b d_Mo_rawCall_289 (lv_at hl 1 rfl) ?_
      refine lv_if_eq (tgt := 341) S.x S.b d_Mo_rawCall_291 (by decide) (fun c424 => ?_) (fun c424 => ?_)
      · exact absurd c424 (by decide)
      ·
        refine lv_aload_n S.x S.b d_Mo_rawCall_294 rfl (lv_at hl 4 rfl) ?_
        refine px_calli (pr := [wd_Mo cs mo mr (fun _ => none) mf md (gMo PG hq), fm 8 (fPg cs PG), fo 13 (fPr cs hq qr QO QF QA) p0.toNatClampNeg]) (px_runV (As := []) (rest := []) S (c_mq_isGoing l D cs (hq p0.toNatClampNeg) (qr p0.toNatClampNeg) (fun _ _ => none) (fun _ => QO p0.toNatClampNeg) qf407 (QA p0.toNatClampNeg)    _) hT (pr := [wd_Mo cs mo mr (fun _ => none) mf md (gMo PG hq), fm 8 (fPg cs PG), fo 13 (fPr cs hq qr QO QF QA) p0.toNatClampNeg]) (pcs := [wd_Mpr cs (hq p0.toNatClampNeg) (qr p0.toNatClampNeg) (fun _ => QO p0.toNatClampNeg) qf407 (QA p0.toNatClampNeg) (fun _ _ => none)]) hw px_X.tt (px_recv hT hw 3 0 rfl rfl rfl) m13_165 m13_162 m13_163 m13_164 m1_22 q_Mpr_isGoing ⟨Nat.le_of_ble_eq_true rfl, Nat.le_of_ble_eq_true rfl⟩ hl.1 rfl (Nat.le_of_ble_eq_true rfl) d_Mo_rawCall_295 ⟨Nat.le_of_ble_eq_true rfl, Nat.le_of_ble_eq_true rfl⟩) hw hA (fun v426 p425 H locs hp425 hw => ?_)
        obtain ⟨rfl, e427, e428, e429, e430, e431⟩ := hp425
        have e427 : 0 ≤ v426.toInt := e427
        have e428 : v426.toInt ≤ 1 := e428
        have e429 : v426.toInt = 1 → (qf407 1).toInt ≠ 0 := e429
        have e430 : v426.toInt = 1 → (qf407 2).toInt = -2 := e430
        have e431 : (qf407 1).toInt ≠ 0 → (qf407 2).toInt = -2 → v426.toInt = 1 := e431
        have hw : pw D A s.heap H locs [wd_Mo cs mo mr (fun _ => none) mf md (gMo PG hq), fm 8 (fPg cs PG), fo 13 (fPr cs hq qr QO QF QA) p0.toNatClampNeg, wd_Mpr cs (hq p0.toNatClampNeg) (qr p0.toNatClampNeg) (fun _ => QO p0.toNatClampNeg) qf407 (QA p0.toNatClampNeg) (fun _ _ => none)] := hw
        have lv426 := Int32.le_toInt v426
        have uv426 := Int32.toInt_lt v426
        refine lv_if_eq (tgt := 341) S.x S.b d_Mo_rawCall_298 (by decide) (fun c432 => ?_) (fun c432 => ?_)
        · have nc432 : v426.toInt = (0 : Int) := (i_eq (x := v426) (y := 0)).mp c432
          refine lv_iload S.x S.b d_Mo_rawCall_341 (lv_at hl 1 rfl) ?_
          have hw := fpr_in (pr := [wd_Mo cs mo mr (fun _ => none) mf md (gMo PG hq), fm 8 (fPg cs PG)]) hw hi1
          obtain ⟨QO434, hu_QO434⟩ : ∃ y : Nat → Option Nat, y = va_up QO p0.toNatClampNeg ((fun _ => QO p0.toNatClampNeg) 0) := ⟨_, rfl⟩
          obtain ⟨QF435, hu_QF435⟩ : ∃ y : Nat → Nat → Int32, y = va_up QF p0.toNatClampNeg qf407 := ⟨_, rfl⟩
          obtain ⟨QA436, hu_QA436⟩ : ∃ y : Nat → Nat → Nat → Int32, y = va_up QA p0.toNatClampNeg (QA p0.toNatClampNeg) := ⟨_, rfl⟩
          have hw : pw D A s.heap _ _ [wd_Mo cs mo mr (fun _ => none) mf md (gMo PG hq), fm 8 (fPg cs PG), fm 13 (fPr cs hq qr QO434 QF435 QA436)] := (by rw [hu_QO434, hu_QF435, hu_QA436]; exact hw)
          have hpr : PrA PG RR QO434 QF435 QA436 := (by rw [hu_QO434, hu_QF435, hu_QA436]; exact PrA.up hpr (psr_raw (j := j9) hj9 hqo h66 (show (0 ≤ (qf407 1).toInt ∧ (qf407 1).toInt ≤ 1) ∧ (0 ≤ (qf407 21).toInt ∧ (qf407 21).toInt ≤ 4) ∧ (0 ≤ (qf407 23).toInt ∧ (qf407 23).toInt ≤ 4) ∧ (0 ≤ (qf407 24).toInt ∧ (qf407 24).toInt ≤ 1000000) ∧ (0 ≤ (qf407 6).toInt ∧ (qf407 6).toInt ≤ 3) ∧ (0 ≤ (qf407 7).toInt ∧ (qf407 7).toInt ≤ 1) from by omega) (show (qf407 1).toInt = 1 from by first | exact oz_e863b17997 e411 g6 | omega) (show 0 ≤ (qf407 4).toInt ∧ (qf407 4).toInt + 1 ≤ RR p0.toNatClampNeg ∧ (qf407 24).toInt + (qf407 4).toInt ≤ 1600 from by omega)) (show (qf407 1).toInt = (QF p0.toNatClampNeg 1).toInt from by first | exact oz_1811ac7fe4 e411 | omega) (show (QF p0.toNatClampNeg 6).toInt ≤ (qf407 6).toInt from by first | exact oz_f9b42d1b56 e414 | omega))
          have hqo : OqE (QO434 p0.toNatClampNeg) (PG j9).h := (by rw [hu_QO434, va_up_s]; exact hqo)
          have hkw : KpW QO QF QO434 QF435 p0.toNatClampNeg := ⟨hqo.trans hqoE.symm, (by rw [hu_QF435, va_up_s]; exact (show ((qf407 1).toInt = (QF p0.toNatClampNeg 1).toInt ∧ (qf407 4).toInt = (QF p0.toNatClampNeg 4).toInt ∧ (qf407 5).toInt = (QF p0.toNatClampNeg 5).toInt ∧ (qf407 7).toInt = (QF p0.toNatClampNeg 7).toInt ∧ (qf407 10).toInt = (QF p0.toNatClampNeg 10).toInt ∧ (qf407 11).toInt = (QF p0.toNatClampNeg 11).toInt) ∧ (qf407 12).toInt = (QF p0.toNatClampNeg 12).toInt ∧ (qf407 13).toInt = (QF p0.toNatClampNeg 13).toInt ∧ (qf407 14).toInt = (QF p0.toNatClampNeg 14).toInt ∧ (qf407 24).toInt = (QF p0.toNatClampNeg 24).toInt from by omega))⟩
          have hqk1_QF435 : (QF435 p0.toNatClampNeg 1).toInt = (qf407 1).toInt := (by rw [hu_QF435, va_up_s]; try rfl)
          have hqk2_QF435 : (QF435 p0.toNatClampNeg 2).toInt = (qf407 2).toInt := (by rw [hu_QF435, va_up_s]; try rfl)
          have hqk4_QF435 : (QF435 p0.toNatClampNeg 4).toInt = (qf407 4).toInt := (by rw [hu_QF435, va_up_s]; try rfl)
          have hqk24_QF435 : (QF435 p0.toNatClampNeg 24).toInt = (qf407 24).toInt := (by rw [hu_QF435, va_up_s]; try rfl)
          have hw : pw D A s.heap _ _ [wd_Mo cs mo mr (fun _ => none) mf md (gMo PG hq), fm 13 (fPr cs hq qr QO434 QF435 QA436), fm 8 (fPg cs PG)] := hw.sub [0, 2, 1] rfl rfl
          exact px_iret (v := 1) S hr rfl hlk hAe hw (Nat.le_of_ble_eq_true rfl) (Nat.le_of_ble_eq_true rfl) (⟨mf, md, QO434, QF435, QA436, rfl, (show 0 ≤ (1 : Int) from by first | exact oz_19c3a41681 | omega), (show (1 : Int) ≤ 1 from by first | exact oz_f9181dc4bb | omega), (show PrA PG (va_up RR p0.toNatClampNeg (RR p0.toNatClampNeg - (1 : Int))) QO434 QF435 QA436 from (hpr.low (by omega) (by omega) (by omega) (by have q9 := cl_nat (x := p0) (by first | exact g0 | omega); omega))), (show (mf 0).toInt = (mf 0).toInt from rfl), (show (mf 2).toInt = (mf 2).toInt from rfl), (show (mf 3).toInt = (mf 3).toInt from rfl), (show (mf 7).toInt = (mf 7).toInt from rfl), (show (mf 8).toInt = (mf 8).toInt from rfl), (show (mf 10).toInt = (mf 10).toInt from rfl), (show Md1 md md from hmdq)⟩) d_Mo_rawCall_343
        · have nc432 : ¬ v426.toInt = (0 : Int) := mt (i_eq (x := v426) (y := 0)).mpr c432
          refine lv_aload_n S.x S.b d_Mo_rawCall_301 rfl (lv_at hl 4 rfl) ?_
          refine px_get S k_Mpr hT hw 3 0 19 (v := .ref ((qr p0.toNatClampNeg) 19)) rfl rfl rfl (by decide) m11_12 d_Mo_rawCall_302 ?_
          refine lv_bipush (v := 10) S.x S.b d_Mo_rawCall_305 (by decide) ?_
          refine lv_iload S.x S.b d_Mo_rawCall_307 (lv_at hl 0 rfl) ?_
          refine lv_if_eq (tgt := 319) S.x S.b d_Mo_rawCall_309 (by decide) (fun c437 => ?_) (fun c437 => ?_)
          ·
            refine lv_iload_n S.x S.b d_Mo_rawCall_319 rfl (lv_at hl 3 rfl) ?_
            refine px_iast S hT hw 3 7 (n := 32) (f := ((QA p0.toNatClampNeg) 19)) (x := 10) (y := z2) rfl (ga_Mpr_19 _ _ _ _ _ _ _) (vp_in_iff.mpr (by constructor <;> omega)) d_Mo_rawCall_320 (w' := wd_Mpr cs (hq p0.toNatClampNeg) (qr p0.toNatClampNeg) (fun _ => QO p0.toNatClampNeg) qf407 (va_up (QA p0.toNatClampNeg) 19 (upd ((QA p0.toNatClampNeg) 19) (10 : Int32).toNatClampNeg z2)) (fun _ _ => none)) (ps' := [wd_Mo cs mo mr (fun _ => none) mf md (gMo PG hq), fm 8 (fPg cs PG), fo 13 (fPr cs hq qr QO QF QA) p0.toNatClampNeg, wd_Mpr cs (hq p0.toNatClampNeg) (qr p0.toNatClampNeg) (fun _ => QO p0.toNatClampNeg) qf407 (va_up (QA p0.toNatClampNeg) 19 (upd ((QA p0.toNatClampNeg) 19) (10 : Int32).toNatClampNeg z2)) (fun _ _ => none)]) (sa_Mpr_19 _ _ _ _ _ _ _ _) rfl (fun H locs hw => ?_)
            refine lv_aload_n S.x S.b d_Mo_rawCall_321 rfl (lv_at hl 4 rfl) ?_
            refine lv_aload_n S.x S.b d_Mo_rawCall_322 rfl (lv_at hl 4 rfl) ?_
            refine px_get S k_Mpr hT hw 3 0 11 (v := .int (qf407 11)) rfl rfl rfl (by decide) m11_3 d_Mo_rawCall_323 ?_
            refine lv_iconst (v := 4) S.x S.b d_Mo_rawCall_326 (by decide) ?_
            refine lv_iadd S.x S.b d_Mo_rawCall_327 ?_
            have lr438 := Int32.le_toInt (qf407 11)
            have ur438 := Int32.toInt_lt (qf407 11)
            refine lv_topi (fun z439 ez439 => ?_)
            have tz439 : z439.toInt = ((qf407 11).toInt + (4 : Int) + 2147483648) % 4294967296 - 2147483648 := by rw [ez439]; exact i_add (qf407 11) 4
            have lz439 := Int32.le_toInt z439
            have uz439 := Int32.toInt_lt z439
            try replace tz439 : z439.toInt = (qf407 11).toInt + (4 : Int) := by omega
            refine px_put S k_Mpr hT hw 3 0 11 rfl rfl (by decide) m11_3 rfl rfl rfl (Nat.le_of_ble_eq_true rfl) d_Mo_rawCall_328 (w' := wd_Mpr cs (hq p0.toNatClampNeg) (qr p0.toNatClampNeg) (fun _ => QO p0.toNatClampNeg) (upd qf407 11 z439) (va_up (QA p0.toNatClampNeg) 19 (upd ((QA p0.toNatClampNeg) 19) (10 : Int32).toNatClampNeg z2)) (fun _ _ => none)) (ps' := [wd_Mo cs mo mr (fun _ => none) mf md (gMo PG hq), fm 8 (fPg cs PG), fo 13 (fPr cs hq qr QO QF QA) p0.toNatClampNeg, wd_Mpr cs (hq p0.toNatClampNeg) (qr p0.toNatClampNeg) (fun _ => QO p0.toNatClampNeg) (upd qf407 11 z439) (va_up (QA p0.toNatClampNeg) 19 (upd ((QA p0.toNatClampNeg) 19) (10 : Int32).toNatClampNeg z2)) (fun _ _ => none)]) rfl rfl (fun H locs hw => ?_)
            refine lv_aload_n S.x S.b d_Mo_rawCall_331 rfl (lv_at hl 4 rfl) ?_
            refine lv_dup S.x S.b d_Mo_rawCall_332 rfl ?_
            refine px_get S k_Mpr hT hw 3 0 4 (v := .int (qf407 4)) rfl rfl rfl (by decide) m10_230 d_Mo_rawCall_333 ?_
            refine lv_iconst (v := 1) S.x S.b d_Mo_rawCall_336 (by decide) ?_
            refine lv_isub S.x S.b d_Mo_rawCall_337 ?_
            have lr440 := Int32.le_toInt (qf407 4)
            have ur440 := Int32.toInt_lt (qf407 4)
            refine lv_topi (fun z441 ez441 => ?_)
            have tz441 : z441.toInt = ((qf407 4).toInt - (1 : Int) + 2147483648) % 4294967296 - 2147483648 := by rw [ez441]; exact i_sub (qf407 4) 1
            have lz441 := Int32.le_toInt z441
            have uz441 := Int32.toInt_lt z441
            try replace tz441 : z441.toInt = (qf407 4).toInt - (1 : Int) := by omega
            refine px_put S k_Mpr hT hw 3 0 4 rfl rfl (by decide) m10_230 rfl rfl rfl (Nat.le_of_ble_eq_true rfl) d_Mo_rawCall_338 (w' := wd_Mpr cs (hq p0.toNatClampNeg) (qr p0.toNatClampNeg) (fun _ => QO p0.toNatClampNeg) (upd (upd qf407 4 z441) 11 z439) (va_up (QA p0.toNatClampNeg) 19 (upd ((QA p0.toNatClampNeg) 19) (10 : Int32).toNatClampNeg z2)) (fun _ _ => none)) (ps' := [wd_Mo cs mo mr (fun _ => none) mf md (gMo PG hq), fm 8 (fPg cs PG), fo 13 (fPr cs hq qr QO QF QA) p0.toNatClampNeg, wd_Mpr cs (hq p0.toNatClampNeg) (qr p0.toNatClampNeg) (fun _ => QO p0.toNatClampNeg) (upd (upd qf407 4 z441) 11 z439) (va_up (QA p0.toNatClampNeg) 19 (upd ((QA p0.toNatClampNeg) 19) (10 : Int32).toNatClampNeg z2)) (fun _ _ => none)]) rfl rfl (fun H locs hw => ?_)
            refine lv_iload S.x S.b d_Mo_rawCall_341 (lv_at hl 1 rfl) ?_
            have hw := fpr_in (pr := [wd_Mo cs mo mr (fun _ => none) mf md (gMo PG hq), fm 8 (fPg cs PG)]) hw hi1
            obtain ⟨QO442, hu_QO442⟩ : ∃ y : Nat → Option Nat, y = va_up QO p0.toNatClampNeg ((fun _ => QO p0.toNatClampNeg) 0) := ⟨_, rfl⟩
            obtain ⟨QF443, hu_QF443⟩ : ∃ y : Nat → Nat → Int32, y = va_up QF p0.toNatClampNeg (upd (upd qf407 4 z441) 11 z439) := ⟨_, rfl⟩
            obtain ⟨QA444, hu_QA444⟩ : ∃ y : Nat → Nat → Nat → Int32, y = va_up QA p0.toNatClampNeg (va_up (QA p0.toNatClampNeg) 19 (upd ((QA p0.toNatClampNeg) 19) (10 : Int32).toNatClampNeg z2)) := ⟨_, rfl⟩
            have hw : pw D A s.heap _ _ [wd_Mo cs mo mr (fun _ => none) mf md (gMo PG hq), fm 8 (fPg cs PG), fm 13 (fPr cs hq qr QO442 QF443 QA444)] := (by rw [hu_QO442, hu_QF443, hu_QA444]; exact hw)
            have hpr : PrA PG (va_up RR p0.toNatClampNeg (RR p0.toNatClampNeg - (1 : Int))) QO442 QF443 QA444 := (by rw [hu_QO442, hu_QF443, hu_QA444]; exact PrA.upR hpr (psr_raw (j := j9) hj9 hqo h66 (show (0 ≤ (qf407 1).toInt ∧ (qf407 1).toInt ≤ 1) ∧ (0 ≤ (qf407 21).toInt ∧ (qf407 21).toInt ≤ 4) ∧ (0 ≤ (qf407 23).toInt ∧ (qf407 23).toInt ≤ 4) ∧ (0 ≤ (qf407 24).toInt ∧ (qf407 24).toInt ≤ 1000000) ∧ (0 ≤ (qf407 6).toInt ∧ (qf407 6).toInt ≤ 3) ∧ (0 ≤ (qf407 7).toInt ∧ (qf407 7).toInt ≤ 1) from by omega) (show (qf407 1).toInt = 1 from by first | exact oz_e863b17997 e411 g6 | omega) (show 0 ≤ z441.toInt ∧ z441.toInt + 1 ≤ RR p0.toNatClampNeg - (1 : Int) ∧ (qf407 24).toInt + z441.toInt ≤ 1600 from by omega)) (show (qf407 1).toInt = (QF p0.toNatClampNeg 1).toInt from by first | exact oz_1811ac7fe4 e411 | omega) (show (QF p0.toNatClampNeg 6).toInt ≤ (qf407 6).toInt from by first | exact oz_f9b42d1b56 e414 | omega))
            have hqo : OqE (QO442 p0.toNatClampNeg) (PG j9).h := (by rw [hu_QO442, va_up_s]; exact hqo)
            have hqk1_QF443 : (QF443 p0.toNatClampNeg 1).toInt = (qf407 1).toInt := (by rw [hu_QF443, va_up_s]; try rfl)
            have hqk2_QF443 : (QF443 p0.toNatClampNeg 2).toInt = (qf407 2).toInt := (by rw [hu_QF443, va_up_s]; try rfl)
            have hqk4_QF443 : (QF443 p0.toNatClampNeg 4).toInt = z441.toInt := (by rw [hu_QF443, va_up_s]; try rfl)
            have hqk24_QF443 : (QF443 p0.toNatClampNeg 24).toInt = (qf407 24).toInt := (by rw [hu_QF443, va_up_s]; try rfl)
            have hw : pw D A s.heap _ _ [wd_Mo cs mo mr (fun _ => none) mf md (gMo PG hq), fm 13 (fPr cs hq qr QO442 QF443 QA444), fm 8 (fPg cs PG)] := hw.sub [0, 2, 1] rfl rfl
            exact px_iret (v := 1) S hr rfl hlk hAe hw (Nat.le_of_ble_eq_true rfl) (Nat.le_of_ble_eq_true rfl) (⟨mf, md, QO442, QF443, QA444, rfl, (show 0 ≤ (1 : Int) from by first | exact oz_19c3a41681 | omega), (show (1 : Int) ≤ 1 from by first | exact oz_f9181dc4bb | omega), (show PrA PG (va_up RR p0.toNatClampNeg (RR p0.toNatClampNeg - (1 : Int))) QO442 QF443 QA444 from hpr), (show (mf 0).toInt = (mf 0).toInt from rfl), (show (mf 2).toInt = (mf 2).toInt from rfl), (show (mf 3).toInt = (mf 3).toInt from rfl), (show (mf 7).toInt = (mf 7).toInt from rfl), (show (mf 8).toInt = (mf 8).toInt from rfl), (show (mf 10).toInt = (mf 10).toInt from rfl), (show Md1 md md from hmdq)⟩) d_Mo_rawCall_343
          · exact absurd c437 (by decide)
    · simp only [List.mem_cons, List.not_mem_nil, or_false] at c45
      refine lv_aload_n S.x S.b d_Mo_rawCall_282 rfl (lv_at hl 4 rfl) ?_
      refine lv_bipush (v := 7) S.x S.b d_Mo_rawCall_283 (by decide) ?_
      refine lv_iconst (v := 0) S.x S.b d_Mo_rawCall_285 (by decide) ?_
      refine px_callv (pr := [wd_Mo cs mo mr (fun _ => none) mf md (gMo PG hq), fm 8 (fPg cs PG), fo 13 (fPr cs hq qr QO QF QA) p0.toNatClampNeg]) (px_runV (As := [.int 7, .int 0]) (rest := []) S (c_mq_end l D cs (hq p0.toNatClampNeg) (qr p0.toNatClampNeg) (fun _ _ => none) (fun _ => QO p0.toNatClampNeg) (QA p0.toNatClampNeg) (QF p0.toNatClampNeg) 7 0   _) hT (pr := [wd_Mo cs mo mr (fun _ => none) mf md (gMo PG hq), fm 8 (fPg cs PG), fo 13 (fPr cs hq qr QO QF QA) p0.toNatClampNeg]) (pcs := [wd_Mpr cs (hq p0.toNatClampNeg) (qr p0.toNatClampNeg) (fun _ => QO p0.toNatClampNeg) (QF p0.toNatClampNeg) (QA p0.toNatClampNeg) (fun _ _ => none)]) hw px_X.tt (px_recv hT hw 3 0 rfl rfl rfl) m13_177 m14_35 m13_175 m13_176 m1_22 q_Mpr_end ⟨Nat.le_of_ble_eq_true rfl, Nat.le_of_ble_eq_true rfl⟩ hl.1 rfl (Nat.le_of_ble_eq_true rfl) d_Mo_rawCall_286 ⟨Nat.le_of_ble_eq_true rfl, Nat.le_of_ble_eq_true rfl⟩) hw hA (fun p447 H locs hp447 hw => ?_)
      obtain ⟨qf446, rfl, e449, e450, e451, e452, e453, e454, e455, e456, e457, e458, e459, e460, e461, e462⟩ := hp447
      have e449 : (qf446 2).toInt = (7 : Int) := e449
      have e450 : (qf446 1).toInt = ((QF p0.toNatClampNeg) 1).toInt := e450
      have e451 : (qf446 4).toInt = ((QF p0.toNatClampNeg) 4).toInt := e451
      have e452 : (qf446 5).toInt = ((QF p0.toNatClampNeg) 5).toInt := e452
      have e453 : (qf446 6).toInt = ((QF p0.toNatClampNeg) 6).toInt := e453
      have e454 : (qf446 7).toInt = ((QF p0.toNatClampNeg) 7).toInt := e454
      have e455 : (qf446 10).toInt = ((QF p0.toNatClampNeg) 10).toInt := e455
      have e456 : (qf446 11).toInt = ((QF p0.toNatClampNeg) 11).toInt := e456
      have e457 : (qf446 12).toInt = ((QF p0.toNatClampNeg) 12).toInt := e457
      have e458 : (qf446 13).toInt = ((QF p0.toNatClampNeg) 13).toInt := e458
      have e459 : (qf446 14).toInt = ((QF p0.toNatClampNeg) 14).toInt := e459
      have e460 : (qf446 21).toInt = ((QF p0.toNatClampNeg) 21).toInt := e460
      have e461 : (qf446 23).toInt = ((QF p0.toNatClampNeg) 23).toInt := e461
      have e462 : (qf446 24).toInt = ((QF p0.toNatClampNeg) 24).toInt := e462
      have hw : pw D A s.heap H locs [wd_Mo cs mo mr (fun _ => none) mf md (gMo PG hq), fm 8 (fPg cs PG), fo 13 (fPr cs hq qr QO QF QA) p0.toNatClampNeg, wd_Mpr cs (hq p0.toNatClampNeg) (qr p0.toNatClampNeg) (fun _ => QO p0.toNatClampNeg) qf446 (QA p0.toNatClampNeg) (fun _ _ => none)] := hw
      refine lv_iload S.x S.b d_Mo_rawCall_289 (lv_at hl 1 rfl) ?_
      refine lv_if_eq (tgt := 341) S.x S.b d_Mo_rawCall_291 (by decide) (fun c463 => ?_) (fun c463 => ?_)
      · exact absurd c463 (by decide)
      ·
        refine lv_aload_n S.x S.b d_Mo_rawCall_294 rfl (lv_at hl 4 rfl) ?_
        refine px_calli (pr := [wd_Mo cs mo mr (fun _ => none) mf md (gMo PG hq), fm 8 (fPg cs PG), fo 13 (fPr cs hq qr QO QF QA) p0.toNatClampNeg]) (px_runV (As := []) (rest := []) S (c_mq_isGoing l D cs (hq p0.toNatClampNeg) (qr p0.toNatClampNeg) (fun _ _ => none) (fun _ => QO p0.toNatClampNeg) qf446 (QA p0.toNatClampNeg)    _) hT (pr := [wd_Mo cs mo mr (fun _ => none) mf md (gMo PG hq), fm 8 (fPg cs PG), fo 13 (fPr cs hq qr QO QF QA) p0.toNatClampNeg]) (pcs := [wd_Mpr cs (hq p0.toNatClampNeg) (qr p0.toNatClampNeg) (fun _ => QO p0.toNatClampNeg) qf446 (QA p0.toNatClampNeg) (fun _ _ => none)]) hw px_X.tt (px_recv hT hw 3 0 rfl rfl rfl) m13_165 m13_162 m13_163 m13_164 m1_22 q_Mpr_isGoing ⟨Nat.le_of_ble_eq_true rfl, Nat.le_of_ble_eq_true rfl⟩ hl.1 rfl (Nat.le_of_ble_eq_true rfl) d_Mo_rawCall_295 ⟨Nat.le_of_ble_eq_true rfl, Nat.le_of_ble_eq_true rfl⟩) hw hA (fun v465 p464 H locs hp464 hw => ?_)
        obtain ⟨rfl, e466, e467, e468, e469, e470⟩ := hp464
        have e466 : 0 ≤ v465.toInt := e466
        have e467 : v465.toInt ≤ 1 := e467
        have e468 : v465.toInt = 1 → (qf446 1).toInt ≠ 0 := e468
        have e469 : v465.toInt = 1 → (qf446 2).toInt = -2 := e469
        have e470 : (qf446 1).toInt ≠ 0 → (qf446 2).toInt = -2 → v465.toInt = 1 := e470
        have hw : pw D A s.heap H locs [wd_Mo cs mo mr (fun _ => none) mf md (gMo PG hq), fm 8 (fPg cs PG), fo 13 (fPr cs hq qr QO QF QA) p0.toNatClampNeg, wd_Mpr cs (hq p0.toNatClampNeg) (qr p0.toNatClampNeg) (fun _ => QO p0.toNatClampNeg) qf446 (QA p0.toNatClampNeg) (fun _ _ => none)] := hw
        have lv465 := Int32.le_toInt v465
        have uv465 := Int32.toInt_lt v465
        refine lv_if_eq (tgt := 341) S.x S.b d_Mo_rawCall_298 (by decide) (fun c471 => ?_) (fun c471 => ?_)
        · have nc471 : v465.toInt = (0 : Int) := (i_eq (x := v465) (y := 0)).mp c471
          refine lv_iload S.x S.b d_Mo_rawCall_341 (lv_at hl 1 rfl) ?_
          have hw := fpr_in (pr := [wd_Mo cs mo mr (fun _ => none) mf md (gMo PG hq), fm 8 (fPg cs PG)]) hw hi1
          obtain ⟨QO473, hu_QO473⟩ : ∃ y : Nat → Option Nat, y = va_up QO p0.toNatClampNeg ((fun _ => QO p0.toNatClampNeg) 0) := ⟨_, rfl⟩
          obtain ⟨QF474, hu_QF474⟩ : ∃ y : Nat → Nat → Int32, y = va_up QF p0.toNatClampNeg qf446 := ⟨_, rfl⟩
          obtain ⟨QA475, hu_QA475⟩ : ∃ y : Nat → Nat → Nat → Int32, y = va_up QA p0.toNatClampNeg (QA p0.toNatClampNeg) := ⟨_, rfl⟩
          have hw : pw D A s.heap _ _ [wd_Mo cs mo mr (fun _ => none) mf md (gMo PG hq), fm 8 (fPg cs PG), fm 13 (fPr cs hq qr QO473 QF474 QA475)] := (by rw [hu_QO473, hu_QF474, hu_QA475]; exact hw)
          have hpr : PrA PG RR QO473 QF474 QA475 := (by rw [hu_QO473, hu_QF474, hu_QA475]; exact PrA.up hpr (psr_raw (j := j9) hj9 hqo h66 (show (0 ≤ (qf446 1).toInt ∧ (qf446 1).toInt ≤ 1) ∧ (0 ≤ (qf446 21).toInt ∧ (qf446 21).toInt ≤ 4) ∧ (0 ≤ (qf446 23).toInt ∧ (qf446 23).toInt ≤ 4) ∧ (0 ≤ (qf446 24).toInt ∧ (qf446 24).toInt ≤ 1000000) ∧ (0 ≤ (qf446 6).toInt ∧ (qf446 6).toInt ≤ 3) ∧ (0 ≤ (qf446 7).toInt ∧ (qf446 7).toInt ≤ 1) from by omega) (show (qf446 1).toInt = 1 from by first | exact oz_e863b17997 e450 g6 | omega) (show 0 ≤ (qf446 4).toInt ∧ (qf446 4).toInt + 1 ≤ RR p0.toNatClampNeg ∧ (qf446 24).toInt + (qf446 4).toInt ≤ 1600 from by omega)) (show (qf446 1).toInt = (QF p0.toNatClampNeg 1).toInt from by first | exact oz_1811ac7fe4 e450 | omega) (show (QF p0.toNatClampNeg 6).toInt ≤ (qf446 6).toInt from by first | exact oz_f9b42d1b56 e453 | omega))
          have hqo : OqE (QO473 p0.toNatClampNeg) (PG j9).h := (by rw [hu_QO473, va_up_s]; exact hqo)
          have hkw : KpW QO QF QO473 QF474 p0.toNatClampNeg := ⟨hqo.trans hqoE.symm, (by rw [hu_QF474, va_up_s]; exact (show ((qf446 1).toInt = (QF p0.toNatClampNeg 1).toInt ∧ (qf446 4).toInt = (QF p0.toNatClampNeg 4).toInt ∧ (qf446 5).toInt = (QF p0.toNatClampNeg 5).toInt ∧ (qf446 7).toInt = (QF p0.toNatClampNeg 7).toInt ∧ (qf446 10).toInt = (QF p0.toNatClampNeg 10).toInt ∧ (qf446 11).toInt = (QF p0.toNatClampNeg 11).toInt) ∧ (qf446 12).toInt = (QF p0.toNatClampNeg 12).toInt ∧ (qf446 13).toInt = (QF p0.toNatClampNeg 13).toInt ∧ (qf446 14).toInt = (QF p0.toNatClampNeg 14).toInt ∧ (qf446 24).toInt = (QF p0.toNatClampNeg 24).toInt from by omega))⟩
          have hqk1_QF474 : (QF474 p0.toNatClampNeg 1).toInt = (qf446 1).toInt := (by rw [hu_QF474, va_up_s]; try rfl)
          have hqk2_QF474 : (QF474 p0.toNatClampNeg 2).toInt = (qf446 2).toInt := (by rw [hu_QF474, va_up_s]; try rfl)
          have hqk4_QF474 : (QF474 p0.toNatClampNeg 4).toInt = (qf446 4).toInt := (by rw [hu_QF474, va_up_s]; try rfl)
          have hqk24_QF474 : (QF474 p0.toNatClampNeg 24).toInt = (qf446 24).toInt := (by rw [hu_QF474, va_up_s]; try rfl)
          have hw : pw D A s.heap _ _ [wd_Mo cs mo mr (fun _ => none) mf md (gMo PG hq), fm 13 (fPr cs hq qr QO473 QF474 QA475), fm 8 (fPg cs PG)] := hw.sub [0, 2, 1] rfl rfl
          exact px_iret (v := 1) S hr rfl hlk hAe hw (Nat.le_of_ble_eq_true rfl) (Nat.le_of_ble_eq_true rfl) (⟨mf, md, QO473, QF474, QA475, rfl, (show 0 ≤ (1 : Int) from by first | exact oz_19c3a41681 | omega), (show (1 : Int) ≤ 1 from by first | exact oz_f9181dc4bb | omega), (show PrA PG (va_up RR p0.toNatClampNeg (RR p0.toNatClampNeg - (1 : Int))) QO473 QF474 QA475 from (hpr.low (by omega) (by omega) (by omega) (by have q9 := cl_nat (x := p0) (by first | exact g0 | omega); omega))), (show (mf 0).toInt = (mf 0).toInt from rfl), (show (mf 2).toInt = (mf 2).toInt from rfl), (show (mf 3).toInt = (mf 3).toInt from rfl), (show (mf 7).toInt = (mf 7).toInt from rfl), (show (mf 8).toInt = (mf 8).toInt from rfl), (show (mf 10).toInt = (mf 10).toInt from rfl), (show Md1 md md from hmdq)⟩) d_Mo_rawCall_343
        · have nc471 : ¬ v465.toInt = (0 : Int) := mt (i_eq (x := v465) (y := 0)).mpr c471
          refine lv_aload_n S.x S.b d_Mo_rawCall_301 rfl (lv_at hl 4 rfl) ?_
          refine px_get S k_Mpr hT hw 3 0 19 (v := .ref ((qr p0.toNatClampNeg) 19)) rfl rfl rfl (by decide) m11_12 d_Mo_rawCall_302 ?_
          refine lv_bipush (v := 10) S.x S.b d_Mo_rawCall_305 (by decide) ?_
          refine lv_iload S.x S.b d_Mo_rawCall_307 (lv_at hl 0 rfl) ?_
          refine lv_if_eq (tgt := 319) S.x S.b d_Mo_rawCall_309 (by decide) (fun c476 => ?_) (fun c476 => ?_)
          ·
            refine lv_iload_n S.x S.b d_Mo_rawCall_319 rfl (lv_at hl 3 rfl) ?_
            refine px_iast S hT hw 3 7 (n := 32) (f := ((QA p0.toNatClampNeg) 19)) (x := 10) (y := z2) rfl (ga_Mpr_19 _ _ _ _ _ _ _) (vp_in_iff.mpr (by constructor <;> omega)) d_Mo_rawCall_320 (w' := wd_Mpr cs (hq p0.toNatClampNeg) (qr p0.toNatClampNeg) (fun _ => QO p0.toNatClampNeg) qf446 (va_up (QA p0.toNatClampNeg) 19 (upd ((QA p0.toNatClampNeg) 19) (10 : Int32).toNatClampNeg z2)) (fun _ _ => none)) (ps' := [wd_Mo cs mo mr (fun _ => none) mf md (gMo PG hq), fm 8 (fPg cs PG), fo 13 (fPr cs hq qr QO QF QA) p0.toNatClampNeg, wd_Mpr cs (hq p0.toNatClampNeg) (qr p0.toNatClampNeg) (fun _ => QO p0.toNatClampNeg) qf446 (va_up (QA p0.toNatClampNeg) 19 (upd ((QA p0.toNatClampNeg) 19) (10 : Int32).toNatClampNeg z2)) (fun _ _ => none)]) (sa_Mpr_19 _ _ _ _ _ _ _ _) rfl (fun H locs hw => ?_)
            refine lv_aload_n S.x S.b d_Mo_rawCall_321 rfl (lv_at hl 4 rfl) ?_
            refine lv_aload_n S.x S.b d_Mo_rawCall_322 rfl (lv_at hl 4 rfl) ?_
            refine px_get S k_Mpr hT hw 3 0 11 (v := .int (qf446 11)) rfl rfl rfl (by decide) m11_3 d_Mo_rawCall_323 ?_
            refine lv_iconst (v := 4) S.x S.b d_Mo_rawCall_326 (by decide) ?_
            refine lv_iadd S.x S.b d_Mo_rawCall_327 ?_
            have lr477 := Int32.le_toInt (qf446 11)
            have ur477 := Int32.toInt_lt (qf446 11)
            refine lv_topi (fun z478 ez478 => ?_)
            have tz478 : z478.toInt = ((qf446 11).toInt + (4 : Int) + 2147483648) % 4294967296 - 2147483648 := by rw [ez478]; exact i_add (qf446 11) 4
            have lz478 := Int32.le_toInt z478
            have uz478 := Int32.toInt_lt z478
            try replace tz478 : z478.toInt = (qf446 11).toInt + (4 : Int) := by omega
            refine px_put S k_Mpr hT hw 3 0 11 rfl rfl (by decide) m11_3 rfl rfl rfl (Nat.le_of_ble_eq_true rfl) d_Mo_rawCall_328 (w' := wd_Mpr cs (hq p0.toNatClampNeg) (qr p0.toNatClampNeg) (fun _ => QO p0.toNatClampNeg) (upd qf446 11 z478) (va_up (QA p0.toNatClampNeg) 19 (upd ((QA p0.toNatClampNeg) 19) (10 : Int32).toNatClampNeg z2)) (fun _ _ => none)) (ps' := [wd_Mo cs mo mr (fun _ => none) mf md (gMo PG hq), fm 8 (fPg cs PG), fo 13 (fPr cs hq qr QO QF QA) p0.toNatClampNeg, wd_Mpr cs (hq p0.toNatClampNeg) (qr p0.toNatClampNeg) (fun _ => QO p0.toNatClampNeg) (upd qf446 11 z478) (va_up (QA p0.toNatClampNeg) 19 (upd ((QA p0.toNatClampNeg) 19) (10 : Int32).toNatClampNeg z2)) (fun _ _ => none)]) rfl rfl (fun H locs hw => ?_)
            refine lv_aload_n S.x S.b d_Mo_rawCall_331 rfl (lv_at hl 4 rfl) ?_
            refine lv_dup S.x S.b d_Mo_rawCall_332 rfl ?_
            refine px_get S k_Mpr hT hw 3 0 4 (v := .int (qf446 4)) rfl rfl rfl (by decide) m10_230 d_Mo_rawCall_333 ?_
            refine lv_iconst (v := 1) S.x S.b d_Mo_rawCall_336 (by decide) ?_
            refine lv_isub S.x S.b d_Mo_rawCall_337 ?_
            have lr479 := Int32.le_toInt (qf446 4)
            have ur479 := Int32.toInt_lt (qf446 4)
            refine lv_topi (fun z480 ez480 => ?_)
            have tz480 : z480.toInt = ((qf446 4).toInt - (1 : Int) + 2147483648) % 4294967296 - 2147483648 := by rw [ez480]; exact i_sub (qf446 4) 1
            have lz480 := Int32.le_toInt z480
            have uz480 := Int32.toInt_lt z480
            try replace tz480 : z480.toInt = (qf446 4).toInt - (1 : Int) := by omega
            refine px_put S k_Mpr hT hw 3 0 4 rfl rfl (by decide) m10_230 rfl rfl rfl (Nat.le_of_ble_eq_true rfl) d_Mo_rawCall_338 (w' := wd_Mpr cs (hq p0.toNatClampNeg) (qr p0.toNatClampNeg) (fun _ => QO p0.toNatClampNeg) (upd (upd qf446 4 z480) 11 z478) (va_up (QA p0.toNatClampNeg) 19 (upd ((QA p0.toNatClampNeg) 19) (10 : Int32).toNatClampNeg z2)) (fun _ _ => none)) (ps' := [wd_Mo cs mo mr (fun _ => none) mf md (gMo PG hq), fm 8 (fPg cs PG), fo 13 (fPr cs hq qr QO QF QA) p0.toNatClampNeg, wd_Mpr cs (hq p0.toNatClampNeg) (qr p0.toNatClampNeg) (fun _ => QO p0.toNatClampNeg) (upd (upd qf446 4 z480) 11 z478) (va_up (QA p0.toNatClampNeg) 19 (upd ((QA p0.toNatClampNeg) 19) (10 : Int32).toNatClampNeg z2)) (fun _ _ => none)]) rfl rfl (fun H locs hw => ?_)
            refine lv_iload S.x S.b d_Mo_rawCall_341 (lv_at hl 1 rfl) ?_
            have hw := fpr_in (pr := [wd_Mo cs mo mr (fun _ => none) mf md (gMo PG hq), fm 8 (fPg cs PG)]) hw hi1
            obtain ⟨QO481, hu_QO481⟩ : ∃ y : Nat → Option Nat, y = va_up QO p0.toNatClampNeg ((fun _ => QO p0.toNatClampNeg) 0) := ⟨_, rfl⟩
            obtain ⟨QF482, hu_QF482⟩ : ∃ y : Nat → Nat → Int32, y = va_up QF p0.toNatClampNeg (upd (upd qf446 4 z480) 11 z478) := ⟨_, rfl⟩
            obtain ⟨QA483, hu_QA483⟩ : ∃ y : Nat → Nat → Nat → Int32, y = va_up QA p0.toNatClampNeg (va_up (QA p0.toNatClampNeg) 19 (upd ((QA p0.toNatClampNeg) 19) (10 : Int32).toNatClampNeg z2)) := ⟨_, rfl⟩
            have hw : pw D A s.heap _ _ [wd_Mo cs mo mr (fun _ => none) mf md (gMo PG hq), fm 8 (fPg cs PG), fm 13 (fPr cs hq qr QO481 QF482 QA483)] := (by rw [hu_QO481, hu_QF482, hu_QA483]; exact hw)
            have hpr : PrA PG (va_up RR p0.toNatClampNeg (RR p0.toNatClampNeg - (1 : Int))) QO481 QF482 QA483 := (by rw [hu_QO481, hu_QF482, hu_QA483]; exact PrA.upR hpr (psr_raw (j := j9) hj9 hqo h66 (show (0 ≤ (qf446 1).toInt ∧ (qf446 1).toInt ≤ 1) ∧ (0 ≤ (qf446 21).toInt ∧ (qf446 21).toInt ≤ 4) ∧ (0 ≤ (qf446 23).toInt ∧ (qf446 23).toInt ≤ 4) ∧ (0 ≤ (qf446 24).toInt ∧ (qf446 24).toInt ≤ 1000000) ∧ (0 ≤ (qf446 6).toInt ∧ (qf446 6).toInt ≤ 3) ∧ (0 ≤ (qf446 7).toInt ∧ (qf446 7).toInt ≤ 1) from by omega) (show (qf446 1).toInt = 1 from by first | exact oz_e863b17997 e450 g6 | omega) (show 0 ≤ z480.toInt ∧ z480.toInt + 1 ≤ RR p0.toNatClampNeg - (1 : Int) ∧ (qf446 24).toInt + z480.toInt ≤ 1600 from by omega)) (show (qf446 1).toInt = (QF p0.toNatClampNeg 1).toInt from by first | exact oz_1811ac7fe4 e450 | omega) (show (QF p0.toNatClampNeg 6).toInt ≤ (qf446 6).toInt from by first | exact oz_f9b42d1b56 e453 | omega))
            have hqo : OqE (QO481 p0.toNatClampNeg) (PG j9).h := (by rw [hu_QO481, va_up_s]; exact hqo)
            have hqk1_QF482 : (QF482 p0.toNatClampNeg 1).toInt = (qf446 1).toInt := (by rw [hu_QF482, va_up_s]; try rfl)
            have hqk2_QF482 : (QF482 p0.toNatClampNeg 2).toInt = (qf446 2).toInt := (by rw [hu_QF482, va_up_s]; try rfl)
            have hqk4_QF482 : (QF482 p0.toNatClampNeg 4).toInt = z480.toInt := (by rw [hu_QF482, va_up_s]; try rfl)
            have hqk24_QF482 : (QF482 p0.toNatClampNeg 24).toInt = (qf446 24).toInt := (by rw [hu_QF482, va_up_s]; try rfl)
            have hw : pw D A s.heap _ _ [wd_Mo cs mo mr (fun _ => none) mf md (gMo PG hq), fm 13 (fPr cs hq qr QO481 QF482 QA483), fm 8 (fPg cs PG)] := hw.sub [0, 2, 1] rfl rfl
            exact px_iret (v := 1) S hr rfl hlk hAe hw (Nat.le_of_ble_eq_true rfl) (Nat.le_of_ble_eq_true rfl) (⟨mf, md, QO481, QF482, QA483, rfl, (show 0 ≤ (1 : Int) from by first | exact oz_19c3a41681 | omega), (show (1 : Int) ≤ 1 from by first | exact oz_f9181dc4bb | omega), (show PrA PG (va_up RR p0.toNatClampNeg (RR p0.toNatClampNeg - (1 : Int))) QO481 QF482 QA483 from hpr), (show (mf 0).toInt = (mf 0).toInt from rfl), (show (mf 2).toInt = (mf 2).toInt from rfl), (show (mf 3).toInt = (mf 3).toInt from rfl), (show (mf 7).toInt = (mf 7).toInt from rfl), (show (mf 8).toInt = (mf 8).toInt from rfl), (show (mf 10).toInt = (mf 10).toInt from rfl), (show Md1 md md from hmdq)⟩) d_Mo_rawCall_343
          · exact absurd c476 (by decide)
    · simp only [List.mem_cons, List.not_mem_nil, or_false] at c45
      refine lv_aload_n S.x S.b d_Mo_rawCall_262 rfl (lv_at hl 4 rfl) ?_
      refine lv_iconst (v := 2) S.x S.b d_Mo_rawCall_263 (by decide) ?_
      refine lv_aload_n S.x S.b d_Mo_rawCall_264 rfl (lv_at hl 4 rfl) ?_
      refine px_get S k_Mpr hT hw 3 0 19 (v := .ref ((qr p0.toNatClampNeg) 19)) rfl rfl rfl (by decide) m11_12 d_Mo_rawCall_265 ?_
      refine lv_bipush (v := 17) S.x S.b d_Mo_rawCall_268 (by decide) ?_
      refine px_iald S hT hw 3 7 (n := 32) (f := ((QA p0.toNatClampNeg) 19)) rfl (ga_Mpr_19 _ _ _ _ _ _ _) (x := 17) (vp_in_iff.mpr (by constructor <;> omega)) d_Mo_rawCall_270 ?_
      refine lv_topi (fun z484 ez484 => ?_)
      have lz484 := Int32.le_toInt z484
      have uz484 := Int32.toInt_lt z484
      refine lv_iadd S.x S.b d_Mo_rawCall_271 ?_
      refine lv_topi (fun z485 ez485 => ?_)
      have tz485 : z485.toInt = ((2 : Int) + z484.toInt + 2147483648) % 4294967296 - 2147483648 := by rw [ez485]; exact i_add 2 z484
      have lz485 := Int32.le_toInt z485
      have uz485 := Int32.toInt_lt z485
      try replace tz485 : z485.toInt = (2 : Int) + z484.toInt := by omega
      refine lv_bipush (v := 16) S.x S.b d_Mo_rawCall_272 (by decide) ?_
      refine lv_isub S.x S.b d_Mo_rawCall_274 ?_
      refine lv_topi (fun z486 ez486 => ?_)
      have tz486 : z486.toInt = (z485.toInt - (16 : Int) + 2147483648) % 4294967296 - 2147483648 := by rw [ez486]; exact i_sub z485 16
      have lz486 := Int32.le_toInt z486
      have uz486 := Int32.toInt_lt z486
      try replace tz486 : z486.toInt = z485.toInt - (16 : Int) := by omega
      refine lv_iconst (v := 0) S.x S.b d_Mo_rawCall_275 (by decide) ?_
      refine px_callv (pr := [wd_Mo cs mo mr (fun _ => none) mf md (gMo PG hq), fm 8 (fPg cs PG), fo 13 (fPr cs hq qr QO QF QA) p0.toNatClampNeg]) (px_runV (As := [.int z486, .int 0]) (rest := []) S (c_mq_end l D cs (hq p0.toNatClampNeg) (qr p0.toNatClampNeg) (fun _ _ => none) (fun _ => QO p0.toNatClampNeg) (QA p0.toNatClampNeg) (QF p0.toNatClampNeg) z486 0   _) hT (pr := [wd_Mo cs mo mr (fun _ => none) mf md (gMo PG hq), fm 8 (fPg cs PG), fo 13 (fPr cs hq qr QO QF QA) p0.toNatClampNeg]) (pcs := [wd_Mpr cs (hq p0.toNatClampNeg) (qr p0.toNatClampNeg) (fun _ => QO p0.toNatClampNeg) (QF p0.toNatClampNeg) (QA p0.toNatClampNeg) (fun _ _ => none)]) hw px_X.tt (px_recv hT hw 3 0 rfl rfl rfl) m13_177 m14_35 m13_175 m13_176 m1_22 q_Mpr_end ⟨Nat.le_of_ble_eq_true rfl, Nat.le_of_ble_eq_true rfl⟩ hl.1 rfl (Nat.le_of_ble_eq_true rfl) d_Mo_rawCall_276 ⟨Nat.le_of_ble_eq_true rfl, Nat.le_of_ble_eq_true rfl⟩) hw hA (fun p489 H locs hp489 hw => ?_)
      obtain ⟨qf488, rfl, e491, e492, e493, e494, e495, e496, e497, e498, e499, e500, e501, e502, e503, e504⟩ := hp489
      have e491 : (qf488 2).toInt = z486.toInt := e491
      have e492 : (qf488 1).toInt = ((QF p0.toNatClampNeg) 1).toInt := e492
      have e493 : (qf488 4).toInt = ((QF p0.toNatClampNeg) 4).toInt := e493
      have e494 : (qf488 5).toInt = ((QF p0.toNatClampNeg) 5).toInt := e494
      have e495 : (qf488 6).toInt = ((QF p0.toNatClampNeg) 6).toInt := e495
      have e496 : (qf488 7).toInt = ((QF p0.toNatClampNeg) 7).toInt := e496
      have e497 : (qf488 10).toInt = ((QF p0.toNatClampNeg) 10).toInt := e497
      have e498 : (qf488 11).toInt = ((QF p0.toNatClampNeg) 11).toInt := e498
      have e499 : (qf488 12).toInt = ((QF p0.toNatClampNeg) 12).toInt := e499
      have e500 : (qf488 13).toInt = ((QF p0.toNatClampNeg) 13).toInt := e500
      have e501 : (qf488 14).toInt = ((QF p0.toNatClampNeg) 14).toInt := e501
      have e502 : (qf488 21).toInt = ((QF p0.toNatClampNeg) 21).toInt := e502
      have e503 : (qf488 23).toInt = ((QF p0.toNatClampNeg) 23).toInt := e503
      have e504 : (qf488 24).toInt = ((QF p0.toNatClampNeg) 24).toInt := e504
      have hw : pw D A s.heap H locs [wd_Mo cs mo mr (fun _ => none) mf md (gMo PG hq), fm 8 (fPg cs PG), fo 13 (fPr cs hq qr QO QF QA) p0.toNatClampNeg, wd_Mpr cs (hq p0.toNatClampNeg) (qr p0.toNatClampNeg) (fun _ => QO p0.toNatClampNeg) qf488 (QA p0.toNatClampNeg) (fun _ _ => none)] := hw
      refine lv_goto (tgt := 289) S.x S.b d_Mo_rawCall_279 (by decide) ?_
      refine lv_iload S.x S.b d_Mo_rawCall_289 (lv_at hl 1 rfl) ?_
      refine lv_if_eq (tgt := 341) S.x S.b d_Mo_rawCall_291 (by decide) (fun c505 => ?_) (fun c505 => ?_)
      · exact absurd c505 (by decide)
      ·
        refine lv_aload_n S.x S.b d_Mo_rawCall_294 rfl (lv_at hl 4 rfl) ?_
        refine px_calli (pr := [wd_Mo cs mo mr (fun _ => none) mf md (gMo PG hq), fm 8 (fPg cs PG), fo 13 (fPr cs hq qr QO QF QA) p0.toNatClampNeg]) (px_runV (As := []) (rest := []) S (c_mq_isGoing l D cs (hq p0.toNatClampNeg) (qr p0.toNatClampNeg) (fun _ _ => none) (fun _ => QO p0.toNatClampNeg) qf488 (QA p0.toNatClampNeg)    _) hT (pr := [wd_Mo cs mo mr (fun _ => none) mf md (gMo PG hq), fm 8 (fPg cs PG), fo 13 (fPr cs hq qr QO QF QA) p0.toNatClampNeg]) (pcs := [wd_Mpr cs (hq p0.toNatClampNeg) (qr p0.toNatClampNeg) (fun _ => QO p0.toNatClampNeg) qf488 (QA p0.toNatClampNeg) (fun _ _ => none)]) hw px_X.tt (px_recv hT hw 3 0 rfl rfl rfl) m13_165 m13_162 m13_163 m13_164 m1_22 q_Mpr_isGoing ⟨Nat.le_of_ble_eq_true rfl, Nat.le_of_ble_eq_true rfl⟩ hl.1 rfl (Nat.le_of_ble_eq_true rfl) d_Mo_rawCall_295 ⟨Nat.le_of_ble_eq_true rfl, Nat.le_of_ble_eq_true rfl⟩) hw hA (fun v507 p506 H locs hp506 hw => ?_)
        obtain ⟨rfl, e508, e509, e510, e511, e512⟩ := hp506
        have e508 : 0 ≤ v507.toInt := e508
        have e509 : v507.toInt ≤ 1 := e509
        have e510 : v507.toInt = 1 → (qf488 1).toInt ≠ 0 := e510
        have e511 : v507.toInt = 1 → (qf488 2).toInt = -2 := e511
        have e512 : (qf488 1).toInt ≠ 0 → (qf488 2).toInt = -2 → v507.toInt = 1 := e512
        have hw : pw D A s.heap H locs [wd_Mo cs mo mr (fun _ => none) mf md (gMo PG hq), fm 8 (fPg cs PG), fo 13 (fPr cs hq qr QO QF QA) p0.toNatClampNeg, wd_Mpr cs (hq p0.toNatClampNeg) (qr p0.toNatClampNeg) (fun _ => QO p0.toNatClampNeg) qf488 (QA p0.toNatClampNeg) (fun _ _ => none)] := hw
        have lv507 := Int32.le_toInt v507
        have uv507 := Int32.toInt_lt v507
        refine lv_if_eq (tgt := 341) S.x S.b d_Mo_rawCall_298 (by decide) (fun c513 => ?_) (fun c513 => ?_)
        · have nc513 : v507.toInt = (0 : Int) := (i_eq (x := v507) (y := 0)).mp c513
          refine lv_iload S.x S.b d_Mo_rawCall_341 (lv_at hl 1 rfl) ?_
          have hw := fpr_in (pr := [wd_Mo cs mo mr (fun _ => none) mf md (gMo PG hq), fm 8 (fPg cs PG)]) hw hi1
          obtain ⟨QO515, hu_QO515⟩ : ∃ y : Nat → Option Nat, y = va_up QO p0.toNatClampNeg ((fun _ => QO p0.toNatClampNeg) 0) := ⟨_, rfl⟩
          obtain ⟨QF516, hu_QF516⟩ : ∃ y : Nat → Nat → Int32, y = va_up QF p0.toNatClampNeg qf488 := ⟨_, rfl⟩
          obtain ⟨QA517, hu_QA517⟩ : ∃ y : Nat → Nat → Nat → Int32, y = va_up QA p0.toNatClampNeg (QA p0.toNatClampNeg) := ⟨_, rfl⟩
          have hw : pw D A s.heap _ _ [wd_Mo cs mo mr (fun _ => none) mf md (gMo PG hq), fm 8 (fPg cs PG), fm 13 (fPr cs hq qr QO515 QF516 QA517)] := (by rw [hu_QO515, hu_QF516, hu_QA517]; exact hw)
          have hpr : PrA PG RR QO515 QF516 QA517 := (by rw [hu_QO515, hu_QF516, hu_QA517]; exact PrA.up hpr (psr_raw (j := j9) hj9 hqo h66 (show (0 ≤ (qf488 1).toInt ∧ (qf488 1).toInt ≤ 1) ∧ (0 ≤ (qf488 21).toInt ∧ (qf488 21).toInt ≤ 4) ∧ (0 ≤ (qf488 23).toInt ∧ (qf488 23).toInt ≤ 4) ∧ (0 ≤ (qf488 24).toInt ∧ (qf488 24).toInt ≤ 1000000) ∧ (0 ≤ (qf488 6).toInt ∧ (qf488 6).toInt ≤ 3) ∧ (0 ≤ (qf488 7).toInt ∧ (qf488 7).toInt ≤ 1) from by omega) (show (qf488 1).toInt = 1 from by first | exact oz_e863b17997 e492 g6 | omega) (show 0 ≤ (qf488 4).toInt ∧ (qf488 4).toInt + 1 ≤ RR p0.toNatClampNeg ∧ (qf488 24).toInt + (qf488 4).toInt ≤ 1600 from by omega)) (show (qf488 1).toInt = (QF p0.toNatClampNeg 1).toInt from by first | exact oz_1811ac7fe4 e492 | omega) (show (QF p0.toNatClampNeg 6).toInt ≤ (qf488 6).toInt from by first | exact oz_f9b42d1b56 e495 | omega))
          have hqo : OqE (QO515 p0.toNatClampNeg) (PG j9).h := (by rw [hu_QO515, va_up_s]; exact hqo)
          have hkw : KpW QO QF QO515 QF516 p0.toNatClampNeg := ⟨hqo.trans hqoE.symm, (by rw [hu_QF516, va_up_s]; exact (show ((qf488 1).toInt = (QF p0.toNatClampNeg 1).toInt ∧ (qf488 4).toInt = (QF p0.toNatClampNeg 4).toInt ∧ (qf488 5).toInt = (QF p0.toNatClampNeg 5).toInt ∧ (qf488 7).toInt = (QF p0.toNatClampNeg 7).toInt ∧ (qf488 10).toInt = (QF p0.toNatClampNeg 10).toInt ∧ (qf488 11).toInt = (QF p0.toNatClampNeg 11).toInt) ∧ (qf488 12).toInt = (QF p0.toNatClampNeg 12).toInt ∧ (qf488 13).toInt = (QF p0.toNatClampNeg 13).toInt ∧ (qf488 14).toInt = (QF p0.toNatClampNeg 14).toInt ∧ (qf488 24).toInt = (QF p0.toNatClampNeg 24).toInt from by omega))⟩
          have hqk1_QF516 : (QF516 p0.toNatClampNeg 1).toInt = (qf488 1).toInt := (by rw [hu_QF516, va_up_s]; try rfl)
          have hqk2_QF516 : (QF516 p0.toNatClampNeg 2).toInt = (qf488 2).toInt := (by rw [hu_QF516, va_up_s]; try rfl)
          have hqk4_QF516 : (QF516 p0.toNatClampNeg 4).toInt = (qf488 4).toInt := (by rw [hu_QF516, va_up_s]; try rfl)
          have hqk24_QF516 : (QF516 p0.toNatClampNeg 24).toInt = (qf488 24).toInt := (by rw [hu_QF516, va_up_s]; try rfl)
          have hw : pw D A s.heap _ _ [wd_Mo cs mo mr (fun _ => none) mf md (gMo PG hq), fm 13 (fPr cs hq qr QO515 QF516 QA517), fm 8 (fPg cs PG)] := hw.sub [0, 2, 1] rfl rfl
          exact px_iret (v := 1) S hr rfl hlk hAe hw (Nat.le_of_ble_eq_true rfl) (Nat.le_of_ble_eq_true rfl) (⟨mf, md, QO515, QF516, QA517, rfl, (show 0 ≤ (1 : Int) from by first | exact oz_19c3a41681 | omega), (show (1 : Int) ≤ 1 from by first | exact oz_f9181dc4bb | omega), (show PrA PG (va_up RR p0.toNatClampNeg (RR p0.toNatClampNeg - (1 : Int))) QO515 QF516 QA517 from (hpr.low (by omega) (by omega) (by omega) (by have q9 := cl_nat (x := p0) (by first | exact g0 | omega); omega))), (show (mf 0).toInt = (mf 0).toInt from rfl), (show (mf 2).toInt = (mf 2).toInt from rfl), (show (mf 3).toInt = (mf 3).toInt from rfl), (show (mf 7).toInt = (mf 7).toInt from rfl), (show (mf 8).toInt = (mf 8).toInt from rfl), (show (mf 10).toInt = (mf 10).toInt from rfl), (show Md1 md md from hmdq)⟩) d_Mo_rawCall_343
        · have nc513 : ¬ v507.toInt = (0 : Int) := mt (i_eq (x := v507) (y := 0)).mpr c513
          refine lv_aload_n S.x S.b d_Mo_rawCall_301 rfl (lv_at hl 4 rfl) ?_
          refine px_get S k_Mpr hT hw 3 0 19 (v := .ref ((qr p0.toNatClampNeg) 19)) rfl rfl rfl (by decide) m11_12 d_Mo_rawCall_302 ?_
          refine lv_bipush (v := 10) S.x S.b d_Mo_rawCall_305 (by decide) ?_
          refine lv_iload S.x S.b d_Mo_rawCall_307 (lv_at hl 0 rfl) ?_
          refine lv_if_eq (tgt := 319) S.x S.b d_Mo_rawCall_309 (by decide) (fun c518 => ?_) (fun c518 => ?_)
          ·
            refine lv_iload_n S.x S.b d_Mo_rawCall_319 rfl (lv_at hl 3 rfl) ?_
            refine px_iast S hT hw 3 7 (n := 32) (f := ((QA p0.toNatClampNeg) 19)) (x := 10) (y := z2) rfl (ga_Mpr_19 _ _ _ _ _ _ _) (vp_in_iff.mpr (by constructor <;> omega)) d_Mo_rawCall_320 (w' := wd_Mpr cs (hq p0.toNatClampNeg) (qr p0.toNatClampNeg) (fun _ => QO p0.toNatClampNeg) qf488 (va_up (QA p0.toNatClampNeg) 19 (upd ((QA p0.toNatClampNeg) 19) (10 : Int32).toNatClampNeg z2)) (fun _ _ => none)) (ps' := [wd_Mo cs mo mr (fun _ => none) mf md (gMo PG hq), fm 8 (fPg cs PG), fo 13 (fPr cs hq qr QO QF QA) p0.toNatClampNeg, wd_Mpr cs (hq p0.toNatClampNeg) (qr p0.toNatClampNeg) (fun _ => QO p0.toNatClampNeg) qf488 (va_up (QA p0.toNatClampNeg) 19 (upd ((QA p0.toNatClampNeg) 19) (10 : Int32).toNatClampNeg z2)) (fun _ _ => none)]) (sa_Mpr_19 _ _ _ _ _ _ _ _) rfl (fun H locs hw => ?_)
            refine lv_aload_n S.x S.b d_Mo_rawCall_321 rfl (lv_at hl 4 rfl) ?_
            refine lv_aload_n S.x S.b d_Mo_rawCall_322 rfl (lv_at hl 4 rfl) ?_
            refine px_get S k_Mpr hT hw 3 0 11 (v := .int (qf488 11)) rfl rfl rfl (by decide) m11_3 d_Mo_rawCall_323 ?_
            refine lv_iconst (v := 4) S.x S.b d_Mo_rawCall_326 (by decide) ?_
            refine lv_iadd S.x S.b d_Mo_rawCall_327 ?_
            have lr519 := Int32.le_toInt (qf488 11)
            have ur519 := Int32.toInt_lt (qf488 11)
            refine lv_topi (fun z520 ez520 => ?_)
            have tz520 : z520.toInt = ((qf488 11).toInt + (4 : Int) + 2147483648) % 4294967296 - 2147483648 := by rw [ez520]; exact i_add (qf488 11) 4
            have lz520 := Int32.le_toInt z520
            have uz520 := Int32.toInt_lt z520
            try replace tz520 : z520.toInt = (qf488 11).toInt + (4 : Int) := by omega
            refine px_put S k_Mpr hT hw 3 0 11 rfl rfl (by decide) m11_3 rfl rfl rfl (Nat.le_of_ble_eq_true rfl) d_Mo_rawCall_328 (w' := wd_Mpr cs (hq p0.toNatClampNeg) (qr p0.toNatClampNeg) (fun _ => QO p0.toNatClampNeg) (upd qf488 11 z520) (va_up (QA p0.toNatClampNeg) 19 (upd ((QA p0.toNatClampNeg) 19) (10 : Int32).toNatClampNeg z2)) (fun _ _ => none)) (ps' := [wd_Mo cs mo mr (fun _ => none) mf md (gMo PG hq), fm 8 (fPg cs PG), fo 13 (fPr cs hq qr QO QF QA) p0.toNatClampNeg, wd_Mpr cs (hq p0.toNatClampNeg) (qr p0.toNatClampNeg) (fun _ => QO p0.toNatClampNeg) (upd qf488 11 z520) (va_up (QA p0.toNatClampNeg) 19 (upd ((QA p0.toNatClampNeg) 19) (10 : Int32).toNatClampNeg z2)) (fun _ _ => none)]) rfl rfl (fun H locs hw => ?_)
            refine lv_aload_n S.x S.b d_Mo_rawCall_331 rfl (lv_at hl 4 rfl) ?_
            refine lv_dup S.x S.b d_Mo_rawCall_332 rfl ?_
            refine px_get S k_Mpr hT hw 3 0 4 (v := .int (qf488 4)) rfl rfl rfl (by decide) m10_230 d_Mo_rawCall_333 ?_
            refine lv_iconst (v := 1) S.x S.b d_Mo_rawCall_336 (by decide) ?_
            refine lv_isub S.x S.b d_Mo_rawCall_337 ?_
            have lr521 := Int32.le_toInt (qf488 4)
            have ur521 := Int32.toInt_lt (qf488 4)
            refine lv_topi (fun z522 ez522 => ?_)
            have tz522 : z522.toInt = ((qf488 4).toInt - (1 : Int) + 2147483648) % 4294967296 - 2147483648 := by rw [ez522]; exact i_sub (qf488 4) 1
            have lz522 := Int32.le_toInt z522
            have uz522 := Int32.toInt_lt z522
            try replace tz522 : z522.toInt = (qf488 4).toInt - (1 : Int) := by omega
            refine px_put S k_Mpr hT hw 3 0 4 rfl rfl (by decide) m10_230 rfl rfl rfl (Nat.le_of_ble_eq_true rfl) d_Mo_rawCall_338 (w' := wd_Mpr cs (hq p0.toNatClampNeg) (qr p0.toNatClampNeg) (fun _ => QO p0.toNatClampNeg) (upd (upd qf488 4 z522) 11 z520) (va_up (QA p0.toNatClampNeg) 19 (upd ((QA p0.toNatClampNeg) 19) (10 : Int32).toNatClampNeg z2)) (fun _ _ => none)) (ps' := [wd_Mo cs mo mr (fun _ => none) mf md (gMo PG hq), fm 8 (fPg cs PG), fo 13 (fPr cs hq qr QO QF QA) p0.toNatClampNeg, wd_Mpr cs (hq p0.toNatClampNeg) (qr p0.toNatClampNeg) (fun _ => QO p0.toNatClampNeg) (upd (upd qf488 4 z522) 11 z520) (va_up (QA p0.toNatClampNeg) 19 (upd ((QA p0.toNatClampNeg) 19) (10 : Int32).toNatClampNeg z2)) (fun _ _ => none)]) rfl rfl (fun H locs hw => ?_)
            refine lv_iload S.x S.b d_Mo_rawCall_341 (lv_at hl 1 rfl) ?_
            have hw := fpr_in (pr := [wd_Mo cs mo mr (fun _ => none) mf md (gMo PG hq), fm 8 (fPg cs PG)]) hw hi1
            obtain ⟨QO523, hu_QO523⟩ : ∃ y : Nat → Option Nat, y = va_up QO p0.toNatClampNeg ((fun _ => QO p0.toNatClampNeg) 0) := ⟨_, rfl⟩
            obtain ⟨QF524, hu_QF524⟩ : ∃ y : Nat → Nat → Int32, y = va_up QF p0.toNatClampNeg (upd (upd qf488 4 z522) 11 z520) := ⟨_, rfl⟩
            obtain ⟨QA525, hu_QA525⟩ : ∃ y : Nat → Nat → Nat → Int32, y = va_up QA p0.toNatClampNeg (va_up (QA p0.toNatClampNeg) 19 (upd ((QA p0.toNatClampNeg) 19) (10 : Int32).toNatClampNeg z2)) := ⟨_, rfl⟩
            have hw : pw D A s.heap _ _ [wd_Mo cs mo mr (fun _ => none) mf md (gMo PG hq), fm 8 (fPg cs PG), fm 13 (fPr cs hq qr QO523 QF524 QA525)] := (by rw [hu_QO523, hu_QF524, hu_QA525]; exact hw)
            have hpr : PrA PG (va_up RR p0.toNatClampNeg (RR p0.toNatClampNeg - (1 : Int))) QO523 QF524 QA525 := (by rw [hu_QO523, hu_QF524, hu_QA525]; exact PrA.upR hpr (psr_raw (j := j9) hj9 hqo h66 (show (0 ≤ (qf488 1).toInt ∧ (qf488 1).toInt ≤ 1) ∧ (0 ≤ (qf488 21).toInt ∧ (qf488 21).toInt ≤ 4) ∧ (0 ≤ (qf488 23).toInt ∧ (qf488 23).toInt ≤ 4) ∧ (0 ≤ (qf488 24).toInt ∧ (qf488 24).toInt ≤ 1000000) ∧ (0 ≤ (qf488 6).toInt ∧ (qf488 6).toInt ≤ 3) ∧ (0 ≤ (qf488 7).toInt ∧ (qf488 7).toInt ≤ 1) from by omega) (show (qf488 1).toInt = 1 from by first | exact oz_e863b17997 e492 g6 | omega) (show 0 ≤ z522.toInt ∧ z522.toInt + 1 ≤ RR p0.toNatClampNeg - (1 : Int) ∧ (qf488 24).toInt + z522.toInt ≤ 1600 from by omega)) (show (qf488 1).toInt = (QF p0.toNatClampNeg 1).toInt from by first | exact oz_1811ac7fe4 e492 | omega) (show (QF p0.toNatClampNeg 6).toInt ≤ (qf488 6).toInt from by first | exact oz_f9b42d1b56 e495 | omega))
            have hqo : OqE (QO523 p0.toNatClampNeg) (PG j9).h := (by rw [hu_QO523, va_up_s]; exact hqo)
            have hqk1_QF524 : (QF524 p0.toNatClampNeg 1).toInt = (qf488 1).toInt := (by rw [hu_QF524, va_up_s]; try rfl)
            have hqk2_QF524 : (QF524 p0.toNatClampNeg 2).toInt = (qf488 2).toInt := (by rw [hu_QF524, va_up_s]; try rfl)
            have hqk4_QF524 : (QF524 p0.toNatClampNeg 4).toInt = z522.toInt := (by rw [hu_QF524, va_up_s]; try rfl)
            have hqk24_QF524 : (QF524 p0.toNatClampNeg 24).toInt = (qf488 24).toInt := (by rw [hu_QF524, va_up_s]; try rfl)
            have hw : pw D A s.heap _ _ [wd_Mo cs mo mr (fun _ => none) mf md (gMo PG hq), fm 13 (fPr cs hq qr QO523 QF524 QA525), fm 8 (fPg cs PG)] := hw.sub [0, 2, 1] rfl rfl
            exact px_iret (v := 1) S hr rfl hlk hAe hw (Nat.le_of_ble_eq_true rfl) (Nat.le_of_ble_eq_true rfl) (⟨mf, md, QO523, QF524, QA525, rfl, (show 0 ≤ (1 : Int) from by first | exact oz_19c3a41681 | omega), (show (1 : Int) ≤ 1 from by first | exact oz_f9181dc4bb | omega), (show PrA PG (va_up RR p0.toNatClampNeg (RR p0.toNatClampNeg - (1 : Int))) QO523 QF524 QA525 from hpr), (show (mf 0).toInt = (mf 0).toInt from rfl), (show (mf 2).toInt = (mf 2).toInt from rfl), (show (mf 3).toInt = (mf 3).toInt from rfl), (show (mf 7).toInt = (mf 7).toInt from rfl), (show (mf 8).toInt = (mf 8).toInt from rfl), (show (mf 10).toInt = (mf 10).toInt from rfl), (show Md1 md md from hmdq)⟩) d_Mo_rawCall_343
          · exact absurd c518 (by decide)
