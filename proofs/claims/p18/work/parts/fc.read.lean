theorem oz_2cbcaf7199 {a0 : Int} (h0 : a0 ≤ 2048) : a0 ≤ (2048 : Int) := by omega
theorem oz_8aa2f97af7 {a0 a1 a2 a3 : Int} (h0 : a0 = 4 * a1) (h1 : 0 ≤ a1) (h2 : ¬ a2 ≤ a1) (h3 : 4 * a2 ≤ a3) (h4 : a3 ≤ 2048) : 0 ≤ a0 ∧ a0 < ((2048 : Nat) : Int) := by omega
theorem oz_accf9ba773 {a0 a1 a2 a3 : Int} (h0 : a0 = a1 + (1 : Int)) (h1 : a1 = 4 * a2) (h2 : 0 ≤ a2) (h3 : ¬ a3 ≤ a2) (h4 : a3 ≤ 512) : 0 ≤ a0 ∧ a0 < ((2048 : Nat) : Int) := by omega
theorem oz_a9d6d3164f {a0 a1 a2 a3 : Int} (h0 : a0 = a1 + (2 : Int)) (h1 : a1 = 4 * a2) (h2 : 0 ≤ a2) (h3 : ¬ a3 ≤ a2) (h4 : a3 ≤ 512) : 0 ≤ a0 ∧ a0 < ((2048 : Nat) : Int) := by omega
theorem oz_8f70aa4df5 {a0 a1 a2 a3 : Int} (h0 : a0 = a1 + (3 : Int)) (h1 : a1 = 4 * a2) (h2 : 0 ≤ a2) (h3 : ¬ a3 ≤ a2) (h4 : a3 ≤ 512) : 0 ≤ a0 ∧ a0 < ((2048 : Nat) : Int) := by omega
theorem m11_127 : Cond.methodLink "HomeSystemModel" 45 ⟨"HomeSystemModel$Program", "read", "([BI)I"⟩ ∈ AL := AL_11 (List.mem_of_getElem? (i := 127) rfl) rfl
theorem m11_130 : Cond.code ⟨"HomeSystemModel$Program", "read", "([BI)I"⟩ prog_16_method_121_code 4 (Option.some FieldType.int) ∈ AL := AL_11 (List.mem_of_getElem? (i := 130) rfl) rfl
theorem m11_129 : Cond.selects "HomeSystemModel$Program" ⟨"HomeSystemModel$Program", "read", "([BI)I"⟩ ⟨"HomeSystemModel$Program", "read", "([BI)I"⟩ ∈ AL := AL_11 (List.mem_of_getElem? (i := 129) rfl) rfl
theorem m11_128 : Cond.instanceMethod ⟨"HomeSystemModel$Program", "read", "([BI)I"⟩ ∈ AL := AL_11 (List.mem_of_getElem? (i := 128) rfl) rfl
theorem m10_20n : Cond.fieldLinkNest "HomeSystemModel" 49 "HomeSystemModel$Program" "where" "I" "HomeSystemModel" ∈ tables_1 := by unfold tables_1; exact List.mem_append_right _ (List.mem_append_right _ (List.mem_append_right _ (List.mem_append_right _ (List.mem_append_right _ (List.mem_append_right _ (List.mem_append_right _ (List.mem_append_right _ (List.mem_append_right _ (List.mem_append_left _ (List.mem_of_getElem? (i := 20) rfl))))))))))
theorem m10_72 : Cond.fieldLink "HomeSystemModel" 58 "HomeSystemModel$Program" "rawWords" "I" ∈ AL := AL_10 (List.mem_of_getElem? (i := 72) rfl) rfl
theorem m10_70 : Cond.fieldLink "HomeSystemModel" 55 "HomeSystemModel$Program" "raw" "[I" ∈ AL := AL_10 (List.mem_of_getElem? (i := 70) rfl) rfl
/-! a program is read anew -/
def PgS (PG PG' : Nat → Pgs) : Prop := ∀ j : Nat, (PG' j).h = (PG j).h ∧ (PG' j).r = (PG j).r ∧ (PG' j).g = (PG j).g
section FC
variable {PG PG' : Nat → Pgs} {j : Nat} {g : Pgs}
theorem PgS.rf : PgS PG PG := fun _ => ⟨rfl, rfl, rfl⟩
theorem PgS.tr {PG2 : Nat → Pgs} (h : PgS PG PG') (k : PgS PG' PG2) : PgS PG PG2 := fun i => ⟨(k i).1.trans (h i).1, (k i).2.1.trans (h i).2.1, (k i).2.2.trans (h i).2.2⟩
theorem pgs_up (e1 : g.h = (PG j).h) (e2 : g.r = (PG j).r) (e3 : g.g = (PG j).g) : PgS PG (va_up PG j g) := fun i => by
  by_cases e : i = j
  · subst e; rw [va_up_s]; exact ⟨e1, e2, e3⟩
  · rw [va_up_n e]; exact ⟨rfl, rfl, rfl⟩
theorem PgA.up (h : PgA PG) (n : PgO g) : PgA (va_up PG j g) := fun i hi => by
  by_cases e : i = j
  · subst e; rw [va_up_s]; exact n
  · rw [va_up_n e]; exact h i hi
theorem gmo_up {hq : Nat → Nat} (h : PgS PG PG') : gMo PG hq = gMo PG' hq := by
  funext k i
  unfold gMo; rw [(h i).1]
theorem fpg_in {D : va_G} {A : Nat → Prop} {H0 H : Heap} {locs : List Loc} {pr : List va_W} {cs : Nat → ClassId} {tf pf cf ef xf : Nat → Int32} {ta na ma wa ca ea xa : Nat → Nat → Int32} (hw : pw D A H0 H locs (pr ++ [fo 8 (fPg cs PG) j, wdP cs (PG j).h (PG j).r (PG j).g tf ta pf na ma wa cf ca ef ea xf xa])) (hj : j < 8) : pw D A H0 H locs (pr ++ [fm 8 (fPg cs (va_up PG j ⟨(PG j).h, (PG j).r, (PG j).g, tf, ta, pf, na, ma, wa, cf, ca, ef, ea, xf, xa⟩))]) :=
  fm_put hw hj (fun i hi => by unfold fPg; rw [va_up_n hi]) (by unfold fPg; rw [va_up_s])
theorem pgo_rd {v : Int} (h : RdV v (g.xf 66).toInt (PgT g.tf g.cf g.ef g.ta g.na g.ma g.ca g.ea)) (h46 : 0 ≤ (g.cf 46).toInt ∧ (g.cf 46).toInt ≤ 1) (h47 : 0 ≤ (g.cf 47).toInt ∧ (g.cf 47).toInt ≤ 1) (h68 : 0 ≤ (g.xf 68).toInt ∧ (g.xf 68).toInt ≤ 512) : PgO g := by
  rcases h with ⟨a, b, c⟩ | ⟨a, b⟩
  · exact ⟨⟨by omega, h46, h47⟩, h68, fun _ => c⟩
  · exact ⟨⟨by omega, h46, h47⟩, h68, fun q => by omega⟩
end FC
set_option maxHeartbeats 4000000 in
set_option maxRecDepth 100000 in
theorem c_mo_isProg2 (l : Launch) (D : va_G) (cs : Nat → ClassId)  (p0 : Int32)   : MetI l y_Mo_isProgram b_Mo_isProgram 1 (.boolean) D cs 0 0 (0) (0) [.int p0] [] (fun _ => True) (fun v ps => (ps = []) ∧ (0 ≤ v.toInt) ∧ (v.toInt ≤ 1) ∧ ((v.toInt = 1 ∧ 0 ≤ p0.toInt ∧ p0.toInt < 8) ∨ (v.toInt = 0 ∧ (p0.toInt < 0 ∨ 8 ≤ p0.toInt)))) := by
  refine px_enter (by decide) (Nat.le_of_ble_eq_true rfl) ?_
  intro p e s m below meth c A ls hAe S hr hlk hnm hA hT hX hw hl
  replace hl : lv_has ls 1 [(0, .int p0)] := hl
  have lp0 := Int32.le_toInt p0
  have up0 := Int32.toInt_lt p0
  have cst0 : (0 : Int32).toInt = 0 := rfl
  have cst1 : (1 : Int32).toInt = 1 := rfl
  have cst8 : (8 : Int32).toInt = 8 := rfl
  refine lv_iload_n S.x S.b d_Mo_isProgram_0 rfl (lv_at hl 0 rfl) ?_
  refine lv_if_lt (tgt := 14) S.x S.b d_Mo_isProgram_1 (by decide) (fun c1 => ?_) (fun c1 => ?_)
  · have nc1 : p0.toInt < (0 : Int) := (i_lt (x := p0) (y := 0)).mp c1
    refine lv_iconst (v := 0) S.x S.b d_Mo_isProgram_14 (by decide) ?_
    exact px_iret (v := 0) S hr rfl hlk hAe hw (Nat.le_of_ble_eq_true rfl) (Nat.le_of_ble_eq_true rfl) (⟨rfl, (show 0 ≤ (0 : Int) from by first | decide | omega), (show (0 : Int) ≤ 1 from by first | decide | omega), (show ((0 : Int) = 1 ∧ 0 ≤ p0.toInt ∧ p0.toInt < 8) ∨ ((0 : Int) = 0 ∧ (p0.toInt < 0 ∨ 8 ≤ p0.toInt)) from by first | with_reducible rfl | with_reducible assumption | omega)⟩) d_Mo_isProgram_15
  · have nc1 : ¬ p0.toInt < (0 : Int) := mt (i_lt (x := p0) (y := 0)).mpr c1
    refine lv_iload_n S.x S.b d_Mo_isProgram_4 rfl (lv_at hl 0 rfl) ?_
    refine lv_bipush (v := 8) S.x S.b d_Mo_isProgram_5 (by decide) ?_
    refine lv_icmp_ge (tgt := 14) S.x S.b d_Mo_isProgram_7 (by decide) (fun c2 => ?_) (fun c2 => ?_)
    · have nc2 : (8 : Int) ≤ p0.toInt := (i_le (x := 8) (y := p0)).mp c2
      refine lv_iconst (v := 0) S.x S.b d_Mo_isProgram_14 (by decide) ?_
      exact px_iret (v := 0) S hr rfl hlk hAe hw (Nat.le_of_ble_eq_true rfl) (Nat.le_of_ble_eq_true rfl) (⟨rfl, (show 0 ≤ (0 : Int) from by first | decide | omega), (show (0 : Int) ≤ 1 from by first | decide | omega), (show ((0 : Int) = 1 ∧ 0 ≤ p0.toInt ∧ p0.toInt < 8) ∨ ((0 : Int) = 0 ∧ (p0.toInt < 0 ∨ 8 ≤ p0.toInt)) from by first | with_reducible rfl | with_reducible assumption | omega)⟩) d_Mo_isProgram_15
    · have nc2 : ¬ (8 : Int) ≤ p0.toInt := mt (i_le (x := 8) (y := p0)).mpr c2
      refine lv_iconst (v := 1) S.x S.b d_Mo_isProgram_10 (by decide) ?_
      refine lv_goto (tgt := 15) S.x S.b d_Mo_isProgram_11 (by decide) ?_
      exact px_iret (v := 1) S hr rfl hlk hAe hw (Nat.le_of_ble_eq_true rfl) (Nat.le_of_ble_eq_true rfl) (⟨rfl, (show 0 ≤ (1 : Int) from by first | decide | omega), (show (1 : Int) ≤ 1 from by first | decide | omega), (show ((1 : Int) = 1 ∧ 0 ≤ p0.toInt ∧ p0.toInt < 8) ∨ ((1 : Int) = 0 ∧ (p0.toInt < 0 ∨ 8 ≤ p0.toInt)) from by first | with_reducible rfl | with_reducible assumption | omega)⟩) d_Mo_isProgram_15
abbrev b_Mo_text : ByteArray := prog_14_method_6_code
def y_Mo_text : MethodName := ⟨"HomeSystemModel", "text", "(I)I"⟩
theorem d_Mo_text_0 : decode b_Mo_text 0 = .ok (.aload_n 0, 1) := by decide +kernel
theorem d_Mo_text_1 : decode b_Mo_text 1 = .ok (.iload_n 1, 1) := by decide +kernel
theorem d_Mo_text_2 : decode b_Mo_text 2 = .ok (.invokestatic 41, 3) := by decide +kernel
theorem d_Mo_text_5 : decode b_Mo_text 5 = .ok (.ifCond .eq 7, 3) := by decide +kernel
theorem d_Mo_text_8 : decode b_Mo_text 8 = .ok (.iconst 0, 1) := by decide +kernel
theorem d_Mo_text_9 : decode b_Mo_text 9 = .ok (.goto 4, 3) := by decide +kernel
theorem d_Mo_text_12 : decode b_Mo_text 12 = .ok (.iconst 1, 1) := by decide +kernel
theorem d_Mo_text_13 : decode b_Mo_text 13 = .ok (.putfield 35, 3) := by decide +kernel
theorem d_Mo_text_16 : decode b_Mo_text 16 = .ok (.aload_n 0, 1) := by decide +kernel
theorem d_Mo_text_17 : decode b_Mo_text 17 = .ok (.getfield 35, 3) := by decide +kernel
theorem d_Mo_text_20 : decode b_Mo_text 20 = .ok (.ifCond .le 5, 3) := by decide +kernel
theorem d_Mo_text_23 : decode b_Mo_text 23 = .ok (.iconst 0, 1) := by decide +kernel
theorem d_Mo_text_24 : decode b_Mo_text 24 = .ok (.ireturn, 1) := by decide +kernel
theorem d_Mo_text_25 : decode b_Mo_text 25 = .ok (.aload_n 0, 1) := by decide +kernel
theorem d_Mo_text_26 : decode b_Mo_text 26 = .ok (.getfield 15, 3) := by decide +kernel
theorem d_Mo_text_29 : decode b_Mo_text 29 = .ok (.iload_n 1, 1) := by decide +kernel
theorem d_Mo_text_30 : decode b_Mo_text 30 = .ok (.aaload, 1) := by decide +kernel
theorem d_Mo_text_31 : decode b_Mo_text 31 = .ok (.aload_n 0, 1) := by decide +kernel
theorem d_Mo_text_32 : decode b_Mo_text 32 = .ok (.getfield 7, 3) := by decide +kernel
theorem d_Mo_text_35 : decode b_Mo_text 35 = .ok (.aload_n 0, 1) := by decide +kernel
theorem d_Mo_text_36 : decode b_Mo_text 36 = .ok (.getfield 38, 3) := by decide +kernel
theorem d_Mo_text_39 : decode b_Mo_text 39 = .ok (.invokevirtual 45, 3) := by decide +kernel
theorem d_Mo_text_42 : decode b_Mo_text 42 = .ok (.istore_n 2, 1) := by decide +kernel
theorem d_Mo_text_43 : decode b_Mo_text 43 = .ok (.aload_n 0, 1) := by decide +kernel
theorem d_Mo_text_44 : decode b_Mo_text 44 = .ok (.iconst 0, 1) := by decide +kernel
theorem d_Mo_text_45 : decode b_Mo_text 45 = .ok (.putfield 38, 3) := by decide +kernel
theorem d_Mo_text_48 : decode b_Mo_text 48 = .ok (.aload_n 0, 1) := by decide +kernel
theorem d_Mo_text_49 : decode b_Mo_text 49 = .ok (.iload_n 2, 1) := by decide +kernel
theorem d_Mo_text_50 : decode b_Mo_text 50 = .ok (.ifCond .ne 7, 3) := by decide +kernel
theorem d_Mo_text_53 : decode b_Mo_text 53 = .ok (.iconst 0, 1) := by decide +kernel
theorem d_Mo_text_54 : decode b_Mo_text 54 = .ok (.goto 12, 3) := by decide +kernel
theorem d_Mo_text_57 : decode b_Mo_text 57 = .ok (.aload_n 0, 1) := by decide +kernel
theorem d_Mo_text_58 : decode b_Mo_text 58 = .ok (.getfield 15, 3) := by decide +kernel
theorem d_Mo_text_61 : decode b_Mo_text 61 = .ok (.iload_n 1, 1) := by decide +kernel
theorem d_Mo_text_62 : decode b_Mo_text 62 = .ok (.aaload, 1) := by decide +kernel
theorem d_Mo_text_63 : decode b_Mo_text 63 = .ok (.getfield 49, 3) := by decide +kernel
theorem d_Mo_text_66 : decode b_Mo_text 66 = .ok (.putfield 52, 3) := by decide +kernel
theorem d_Mo_text_69 : decode b_Mo_text 69 = .ok (.iload_n 2, 1) := by decide +kernel
theorem d_Mo_text_70 : decode b_Mo_text 70 = .ok (.ireturn, 1) := by decide +kernel
theorem q_Mo_text : px_y y_Mo_text 1 := by unfold px_y; decide +kernel
set_option maxHeartbeats 4000000 in
set_option maxRecDepth 100000 in
theorem c_mo_text (l : Launch) (D : va_G) (cs : Nat → ClassId) (sk : Nat) (st : Nat) (sb : Nat → Int32) (mo : Nat) (mr : Nat → Nat) (md : Nat → Nat → Int32) (mf : Nat → Int32) (hq : Nat → Nat) (qr : Nat → Nat → Nat) (QO : Nat → Option Nat) (QF : Nat → Nat → Int32) (QA : Nat → Nat → Nat → Int32) (PG : Nat → Pgs) (p0 : Int32)  (g0 : 0 ≤ (mf 2).toInt) (g1 : (mf 2).toInt ≤ 2048) (hpn : PrN QF) (hpg : PgA PG) (hlf : l.flags = pinnedFlags ++ [noTraceFlag]) : MetI l y_Mo_text b_Mo_text 3 (.int) D cs 1301 60100 (1) (6) [.ref mo, .int p0] [wd_Mo cs mo mr (fun _ => none) mf md (gMo PG hq), fm 13 (fPr cs hq qr QO QF QA), fm 8 (fPg cs PG)] (oX (fun A U H => (oN A U H) ∧ (∀ j : Nat, j < 8 → oP A (PG j).g U H) ∧ ((vk_R "HomeSystemModel$Program" 688 "main" sk U ∧ oS A sk st 4 sb U H))) [wd_Mo cs mo mr (fun _ => none) mf md (gMo PG hq), fm 13 (fPr cs hq qr QO QF QA), fm 8 (fPg cs PG)]) (fun v ps => ∃ (mf' : Nat → Int32) (PG' : Nat → Pgs), (ps = [wd_Mo cs mo mr (fun _ => none) mf' md (gMo PG' hq), fm 13 (fPr cs hq qr QO QF QA), fm 8 (fPg cs PG')]) ∧ (PgA PG') ∧ (PgS PG PG') ∧ ((mf' 10).toInt = (mf 10).toInt) ∧ (0 ≤ (mf' 2).toInt) ∧ ((mf' 2).toInt ≤ 2048) ∧ (((mf' 0).toInt = 0 ∧ 0 ≤ p0.toInt ∧ p0.toInt < 8 ∧ (mf' 2).toInt = 0) ∨ ((mf' 0).toInt = 1 ∧ (p0.toInt < 0 ∨ 8 ≤ p0.toInt) ∧ (mf' 2).toInt = (mf 2).toInt))) := by
  refine px_enter (by decide) (Nat.le_of_ble_eq_true rfl) ?_
  intro p e s m below meth c A ls hAe S hr hlk hnm hA hT hX hw hl
  replace hl : lv_has ls 3 [(0, .ref mo), (1, .int p0)] := hl
  have lp0 := Int32.le_toInt p0
  have up0 := Int32.toInt_lt p0
  have cst0 : (0 : Int32).toInt = 0 := rfl
  have cst1 : (1 : Int32).toInt = 1 := rfl
  have hX : (fun A U H => (oN A U H) ∧ (∀ j : Nat, j < 8 → oP A (PG j).g U H) ∧ ((vk_R "HomeSystemModel$Program" 688 "main" sk U ∧ oS A sk st 4 sb U H))) A s s.heap := by rw [hAe]; exact hX
  obtain ⟨hN, hGG, hMn⟩ := hX
  refine lv_aload_n S.x S.b d_Mo_text_0 rfl (lv_at hl 0 rfl) ?_
  refine lv_iload_n S.x S.b d_Mo_text_1 rfl (lv_at hl 1 rfl) ?_
  refine px_calli (pr := [wd_Mo cs mo mr (fun _ => none) mf md (gMo PG hq), fm 13 (fPr cs hq qr QO QF QA), fm 8 (fPg cs PG)]) (px_runS (As := [.int p0]) (rest := [.ref mo]) S (c_mo_isProg2 l D cs  p0   _) hT (pr := [wd_Mo cs mo mr (fun _ => none) mf md (gMo PG hq), fm 13 (fPr cs hq qr QO QF QA), fm 8 (fPg cs PG)]) (pcs := []) hw px_X.tt m11_126 m11_124 m11_125 m1_20 q_Mo_isProgram ⟨Nat.le_of_ble_eq_true rfl, Nat.le_of_ble_eq_true rfl⟩ hl.1 rfl (Nat.le_of_ble_eq_true rfl) d_Mo_text_2 ⟨Nat.le_of_ble_eq_true rfl, Nat.le_of_ble_eq_true rfl⟩) hw hA (fun v2 p1 H locs hp1 hw => ?_)
  obtain ⟨rfl, e3, e4, e5⟩ := hp1
  replace e3 : 0 ≤ v2.toInt := e3
  replace e4 : v2.toInt ≤ 1 := e4
  replace e5 : (v2.toInt = 1 ∧ 0 ≤ p0.toInt ∧ p0.toInt < 8) ∨ (v2.toInt = 0 ∧ (p0.toInt < 0 ∨ 8 ≤ p0.toInt)) := e5
  replace hw : pw D A s.heap H locs [wd_Mo cs mo mr (fun _ => none) mf md (gMo PG hq), fm 13 (fPr cs hq qr QO QF QA), fm 8 (fPg cs PG)] := hw
  have lv2 := Int32.le_toInt v2
  have uv2 := Int32.toInt_lt v2
  refine lv_if_eq (tgt := 12) S.x S.b d_Mo_text_5 (by decide) (fun c6 => ?_) (fun c6 => ?_)
  · have nc6 : v2.toInt = (0 : Int) := (i_eq (x := v2) (y := 0)).mp c6
    refine lv_iconst (v := 1) S.x S.b d_Mo_text_12 (by decide) ?_
    refine px_put S k_Mo hT hw 0 0 0 rfl rfl (by decide) m11_78 rfl rfl rfl (Nat.le_of_ble_eq_true rfl) d_Mo_text_13 (w' := wd_Mo cs mo mr (fun _ => none) (upd mf 0 1) md (gMo PG hq)) (ps' := [wd_Mo cs mo mr (fun _ => none) (upd mf 0 1) md (gMo PG hq), fm 13 (fPr cs hq qr QO QF QA), fm 8 (fPg cs PG)]) rfl rfl (fun H locs hw => ?_)
    refine lv_aload_n S.x S.b d_Mo_text_16 rfl (lv_at hl 0 rfl) ?_
    refine px_get S k_Mo hT hw 0 0 0 (v := .int 1) rfl rfl rfl (by decide) m11_78 d_Mo_text_17 ?_
    refine lv_if_le (tgt := 25) S.x S.b d_Mo_text_20 (by decide) (fun c7 => ?_) (fun c7 => ?_)
    · exact absurd c7 (by decide)
    ·
      refine lv_iconst (v := 0) S.x S.b d_Mo_text_23 (by decide) ?_
      exact px_iret (v := 0) S hr rfl hlk hAe hw (Nat.le_of_ble_eq_true rfl) (Nat.le_of_ble_eq_true rfl) (⟨(upd mf 0 1), PG, rfl, (show PgA PG from hpg), (show PgS PG PG from PgS.rf), (show (mf 10).toInt = (mf 10).toInt from rfl), (show 0 ≤ (mf 2).toInt from by first | exact g0 | omega), (show (mf 2).toInt ≤ 2048 from by first | exact g1 | omega), (show ((1 : Int) = 0 ∧ 0 ≤ p0.toInt ∧ p0.toInt < 8 ∧ (mf 2).toInt = 0) ∨ ((1 : Int) = 1 ∧ (p0.toInt < 0 ∨ 8 ≤ p0.toInt) ∧ (mf 2).toInt = (mf 2).toInt) from by first | with_reducible rfl | with_reducible assumption | omega)⟩) d_Mo_text_24
  · have nc6 : ¬ v2.toInt = (0 : Int) := mt (i_eq (x := v2) (y := 0)).mpr c6
    refine lv_iconst (v := 0) S.x S.b d_Mo_text_8 (by decide) ?_
    refine lv_goto (tgt := 13) S.x S.b d_Mo_text_9 (by decide) ?_
    refine px_put S k_Mo hT hw 0 0 0 rfl rfl (by decide) m11_78 rfl rfl rfl (Nat.le_of_ble_eq_true rfl) d_Mo_text_13 (w' := wd_Mo cs mo mr (fun _ => none) (upd mf 0 0) md (gMo PG hq)) (ps' := [wd_Mo cs mo mr (fun _ => none) (upd mf 0 0) md (gMo PG hq), fm 13 (fPr cs hq qr QO QF QA), fm 8 (fPg cs PG)]) rfl rfl (fun H locs hw => ?_)
    refine lv_aload_n S.x S.b d_Mo_text_16 rfl (lv_at hl 0 rfl) ?_
    refine px_get S k_Mo hT hw 0 0 0 (v := .int 0) rfl rfl rfl (by decide) m11_78 d_Mo_text_17 ?_
    refine lv_if_le (tgt := 25) S.x S.b d_Mo_text_20 (by decide) (fun c8 => ?_) (fun c8 => ?_)
    ·
      refine lv_aload_n S.x S.b d_Mo_text_25 rfl (lv_at hl 0 rfl) ?_
      refine px_get S k_Mo hT hw 0 0 4 (v := .ref (mr 4)) rfl rfl rfl (by decide) m11_82 d_Mo_text_26 ?_
      refine lv_iload_n S.x S.b d_Mo_text_29 rfl (lv_at hl 1 rfl) ?_
      refine px_aaldS S hT hw 0 2 9 (n := 8) (f := ((gMo PG hq) 4)) rfl rfl rfl (x := p0) (vp_in_iff.mpr (by constructor <;> omega)) (sk := (PG p0.toNatClampNeg).h) rfl d_Mo_text_30 ?_
      refine lv_aload_n S.x S.b d_Mo_text_31 rfl (lv_at hl 0 rfl) ?_
      refine px_get S k_Mo hT hw 0 0 1 (v := .ref (mr 1)) rfl rfl rfl (by decide) m11_79 d_Mo_text_32 ?_
      refine lv_aload_n S.x S.b d_Mo_text_35 rfl (lv_at hl 0 rfl) ?_
      refine px_get S k_Mo hT hw 0 0 2 (v := .int (mf 2)) rfl rfl rfl (by decide) m11_80 d_Mo_text_36 ?_
      have hw : pw D A s.heap _ _ [fm 13 (fPr cs hq qr QO QF QA), fm 8 (fPg cs PG), wd_Mo cs mo mr (fun _ => none) (upd mf 0 0) md (gMo PG hq)] := hw.sub [1, 2, 0] rfl rfl
      have hw : pw D A s.heap _ _ [fm 13 (fPr cs hq qr QO QF QA), fm 8 (fPg cs PG), [(mo, .inr (11, [.int 0, .ref (mr 1), .int (mf 2), .int (mf 3), .ref (mr 4), .ref (mr 5), .ref (mr 6), .int (mf 7), .int (mf 8), .int (mf 9), .int (mf 10)]))], [((mr 1), .inl (cs 1, 2048, .inl (md 1)))], [((mr 4), .inl (cs 9, 8, .inr (.inr (.inr (.inr ((gMo PG hq) 4))))))], [((mr 5), .inl (cs 10, 13, .inr (.inr (.inr (.inr ((gMo PG hq) 5))))))], [((mr 6), .inl (cs 0, 128, .inl (md 6)))]] := hw.eq rfl
      have hw : pw D A s.heap _ _ [fm 13 (fPr cs hq qr QO QF QA), [(mo, .inr (11, [.int 0, .ref (mr 1), .int (mf 2), .int (mf 3), .ref (mr 4), .ref (mr 5), .ref (mr 6), .int (mf 7), .int (mf 8), .int (mf 9), .int (mf 10)]))], [((mr 1), .inl (cs 1, 2048, .inl (md 1)))], [((mr 4), .inl (cs 9, 8, .inr (.inr (.inr (.inr ((gMo PG hq) 4))))))], [((mr 5), .inl (cs 10, 13, .inr (.inr (.inr (.inr ((gMo PG hq) 5))))))], [((mr 6), .inl (cs 0, 128, .inl (md 6)))], fm 8 (fPg cs PG)] := hw.sub [0, 2, 3, 4, 5, 6, 1] rfl rfl
      have hc9 := cl_nat (x := p0) (by first | exact oz_016f458179 hc9 | omega)
      have hj9 : p0.toNatClampNeg < 8 := by omega
      have hw : pw D A s.heap _ _ [fm 13 (fPr cs hq qr QO QF QA), [(mo, .inr (11, [.int 0, .ref (mr 1), .int (mf 2), .int (mf 3), .ref (mr 4), .ref (mr 5), .ref (mr 6), .int (mf 7), .int (mf 8), .int (mf 9), .int (mf 10)]))], [((mr 1), .inl (cs 1, 2048, .inl (md 1)))], [((mr 4), .inl (cs 9, 8, .inr (.inr (.inr (.inr ((gMo PG hq) 4))))))], [((mr 5), .inl (cs 10, 13, .inr (.inr (.inr (.inr ((gMo PG hq) 5))))))], [((mr 6), .inl (cs 0, 128, .inl (md 6)))], fo 8 (fPg cs PG) p0.toNatClampNeg, wdP cs (PG p0.toNatClampNeg).h (PG p0.toNatClampNeg).r (PG p0.toNatClampNeg).g (PG p0.toNatClampNeg).tf (PG p0.toNatClampNeg).ta (PG p0.toNatClampNeg).pf (PG p0.toNatClampNeg).na (PG p0.toNatClampNeg).ma (PG p0.toNatClampNeg).wa (PG p0.toNatClampNeg).cf (PG p0.toNatClampNeg).ca (PG p0.toNatClampNeg).ef (PG p0.toNatClampNeg).ea (PG p0.toNatClampNeg).xf (PG p0.toNatClampNeg).xa] := fm_out (pr := [fm 13 (fPr cs hq qr QO QF QA), [(mo, .inr (11, [.int 0, .ref (mr 1), .int (mf 2), .int (mf 3), .ref (mr 4), .ref (mr 5), .ref (mr 6), .int (mf 7), .int (mf 8), .int (mf 9), .int (mf 10)]))], [((mr 1), .inl (cs 1, 2048, .inl (md 1)))], [((mr 4), .inl (cs 9, 8, .inr (.inr (.inr (.inr ((gMo PG hq) 4))))))], [((mr 5), .inl (cs 10, 13, .inr (.inr (.inr (.inr ((gMo PG hq) 5))))))], [((mr 6), .inl (cs 0, 128, .inl (md 6)))]]) (T := fPg cs PG) hw hj9
      have hpo10 := hpg p0.toNatClampNeg hj9
      have hp110 := hpo10.1
      have hp210 := hpo10.2.1
      have hP := hGG p0.toNatClampNeg hj9
      have hw : pw D A s.heap _ _ [fm 13 (fPr cs hq qr QO QF QA), [(mo, .inr (11, [.int 0, .ref (mr 1), .int (mf 2), .int (mf 3), .ref (mr 4), .ref (mr 5), .ref (mr 6), .int (mf 7), .int (mf 8), .int (mf 9), .int (mf 10)]))], [((mr 4), .inl (cs 9, 8, .inr (.inr (.inr (.inr ((gMo PG hq) 4))))))], [((mr 5), .inl (cs 10, 13, .inr (.inr (.inr (.inr ((gMo PG hq) 5))))))], [((mr 6), .inl (cs 0, 128, .inl (md 6)))], fo 8 (fPg cs PG) p0.toNatClampNeg, wdP cs (PG p0.toNatClampNeg).h (PG p0.toNatClampNeg).r (PG p0.toNatClampNeg).g (PG p0.toNatClampNeg).tf (PG p0.toNatClampNeg).ta (PG p0.toNatClampNeg).pf (PG p0.toNatClampNeg).na (PG p0.toNatClampNeg).ma (PG p0.toNatClampNeg).wa (PG p0.toNatClampNeg).cf (PG p0.toNatClampNeg).ca (PG p0.toNatClampNeg).ef (PG p0.toNatClampNeg).ea (PG p0.toNatClampNeg).xf (PG p0.toNatClampNeg).xa, [((mr 1), .inl (cs 1, 2048, .inl (md 1)))]] := hw.sub [0, 1, 3, 4, 5, 6, 7, 2] rfl rfl
      refine px_calli (pr := [fm 13 (fPr cs hq qr QO QF QA), [(mo, .inr (11, [.int 0, .ref (mr 1), .int (mf 2), .int (mf 3), .ref (mr 4), .ref (mr 5), .ref (mr 6), .int (mf 7), .int (mf 8), .int (mf 9), .int (mf 10)]))], [((mr 4), .inl (cs 9, 8, .inr (.inr (.inr (.inr ((gMo PG hq) 4))))))], [((mr 5), .inl (cs 10, 13, .inr (.inr (.inr (.inr ((gMo PG hq) 5))))))], [((mr 6), .inl (cs 0, 128, .inl (md 6)))], fo 8 (fPg cs PG) p0.toNatClampNeg]) (px_runV (As := [.ref (mr 1), .int (mf 2)]) (rest := []) S (c_mp_read l D cs sk st sb (0 : Int) (PG p0.toNatClampNeg).h (PG p0.toNatClampNeg).r (PG p0.toNatClampNeg).g (PG p0.toNatClampNeg).tf (PG p0.toNatClampNeg).ta (PG p0.toNatClampNeg).pf (PG p0.toNatClampNeg).na (PG p0.toNatClampNeg).ma (PG p0.toNatClampNeg).wa (PG p0.toNatClampNeg).cf (PG p0.toNatClampNeg).ca (PG p0.toNatClampNeg).ef (PG p0.toNatClampNeg).ea (PG p0.toNatClampNeg).xf (PG p0.toNatClampNeg).xa (mr 1) 2048 (md 1) (mf 2)  (show 0 ≤ (mf 2).toInt from by first | exact g0 | omega) (show (mf 2).toInt ≤ 2048 from by first | exact g1 | omega) (show (mf 2).toInt ≤ (2048 : Int) from by first | exact oz_2cbcaf7199 g1 | omega) (show 0 ≤ ((PG p0.toNatClampNeg).cf 46).toInt from by first | with_reducible rfl | with_reducible assumption | omega) (show ((PG p0.toNatClampNeg).cf 46).toInt ≤ 1 from by first | with_reducible rfl | with_reducible assumption | omega) (show 0 ≤ ((PG p0.toNatClampNeg).cf 47).toInt from by first | with_reducible rfl | with_reducible assumption | omega) (show ((PG p0.toNatClampNeg).cf 47).toInt ≤ 1 from by first | with_reducible rfl | with_reducible assumption | omega) hlf _) hT (pr := [fm 13 (fPr cs hq qr QO QF QA), [(mo, .inr (11, [.int 0, .ref (mr 1), .int (mf 2), .int (mf 3), .ref (mr 4), .ref (mr 5), .ref (mr 6), .int (mf 7), .int (mf 8), .int (mf 9), .int (mf 10)]))], [((mr 4), .inl (cs 9, 8, .inr (.inr (.inr (.inr ((gMo PG hq) 4))))))], [((mr 5), .inl (cs 10, 13, .inr (.inr (.inr (.inr ((gMo PG hq) 5))))))], [((mr 6), .inl (cs 0, 128, .inl (md 6)))], fo 8 (fPg cs PG) p0.toNatClampNeg]) (pcs := [wdP cs (PG p0.toNatClampNeg).h (PG p0.toNatClampNeg).r (PG p0.toNatClampNeg).g (PG p0.toNatClampNeg).tf (PG p0.toNatClampNeg).ta (PG p0.toNatClampNeg).pf (PG p0.toNatClampNeg).na (PG p0.toNatClampNeg).ma (PG p0.toNatClampNeg).wa (PG p0.toNatClampNeg).cf (PG p0.toNatClampNeg).ca (PG p0.toNatClampNeg).ef (PG p0.toNatClampNeg).ea (PG p0.toNatClampNeg).xf (PG p0.toNatClampNeg).xa, [((mr 1), .inl (cs 1, 2048, .inl (md 1)))]]) hw (oX_call (P := (fun A U H => (oN A U H) ∧ (oP A (PG p0.toNatClampNeg).g U H) ∧ ((vk_R "HomeSystemModel$Program" 688 "main" sk U ∧ oS A sk st 4 sb U H)))) (pr := [fm 13 (fPr cs hq qr QO QF QA), [(mo, .inr (11, [.int 0, .ref (mr 1), .int (mf 2), .int (mf 3), .ref (mr 4), .ref (mr 5), .ref (mr 6), .int (mf 7), .int (mf 8), .int (mf 9), .int (mf 10)]))], [((mr 4), .inl (cs 9, 8, .inr (.inr (.inr (.inr ((gMo PG hq) 4))))))], [((mr 5), .inl (cs 10, 13, .inr (.inr (.inr (.inr ((gMo PG hq) 5))))))], [((mr 6), .inl (cs 0, 128, .inl (md 6)))], fo 8 (fPg cs PG) p0.toNatClampNeg]) (oG_and oG_N (oG_and oG_P (oG_and oG_L oG_S))) hw hA ⟨hN, hP, hMn⟩) (px_recv hT hw 6 0 rfl rfl rfl) m11_130 m11_127 m11_128 m11_129 m1_21 q_Mpg_read ⟨Nat.le_of_ble_eq_true rfl, Nat.le_of_ble_eq_true rfl⟩ hl.1 rfl (Nat.le_of_ble_eq_true rfl) d_Mo_text_39 ⟨Nat.le_of_ble_eq_true rfl, Nat.le_of_ble_eq_true rfl⟩) hw hA (fun v36 p35 H locs hp35 hw => ?_)
      obtain ⟨tf23, ta24, pf25, na26, ma27, wa28, cf29, ca30, ef31, ea32, xf33, xa34, rfl, e37, e38, e39, e40, e41⟩ := hp35
      replace e37 : -1 ≤ v36.toInt := e37
      replace e38 : (cf29 46).toInt = ((PG p0.toNatClampNeg).cf 46).toInt := e38
      replace e39 : (cf29 47).toInt = ((PG p0.toNatClampNeg).cf 47).toInt := e39
      replace e40 : (xf33 68).toInt = ((PG p0.toNatClampNeg).xf 68).toInt := e40
      replace e41 : RdV v36.toInt (xf33 66).toInt (PgT tf23 cf29 ef31 ta24 na26 ma27 ca30 ea32) := e41
      have hrdv := e41
      replace hw : pw D A s.heap H locs [fm 13 (fPr cs hq qr QO QF QA), [(mo, .inr (11, [.int 0, .ref (mr 1), .int (mf 2), .int (mf 3), .ref (mr 4), .ref (mr 5), .ref (mr 6), .int (mf 7), .int (mf 8), .int (mf 9), .int (mf 10)]))], [((mr 4), .inl (cs 9, 8, .inr (.inr (.inr (.inr ((gMo PG hq) 4))))))], [((mr 5), .inl (cs 10, 13, .inr (.inr (.inr (.inr ((gMo PG hq) 5))))))], [((mr 6), .inl (cs 0, 128, .inl (md 6)))], fo 8 (fPg cs PG) p0.toNatClampNeg, wdP cs (PG p0.toNatClampNeg).h (PG p0.toNatClampNeg).r (PG p0.toNatClampNeg).g tf23 ta24 pf25 na26 ma27 wa28 cf29 ca30 ef31 ea32 xf33 xa34, [((mr 1), .inl (cs 1, 2048, .inl (md 1)))]] := hw
      have lv36 := Int32.le_toInt v36
      have uv36 := Int32.toInt_lt v36
      have hw : pw D A s.heap _ _ [fm 13 (fPr cs hq qr QO QF QA), fo 8 (fPg cs PG) p0.toNatClampNeg, wdP cs (PG p0.toNatClampNeg).h (PG p0.toNatClampNeg).r (PG p0.toNatClampNeg).g tf23 ta24 pf25 na26 ma27 wa28 cf29 ca30 ef31 ea32 xf33 xa34, [(mo, .inr (11, [.int 0, .ref (mr 1), .int (mf 2), .int (mf 3), .ref (mr 4), .ref (mr 5), .ref (mr 6), .int (mf 7), .int (mf 8), .int (mf 9), .int (mf 10)]))], [((mr 1), .inl (cs 1, 2048, .inl (md 1)))], [((mr 4), .inl (cs 9, 8, .inr (.inr (.inr (.inr ((gMo PG hq) 4))))))], [((mr 5), .inl (cs 10, 13, .inr (.inr (.inr (.inr ((gMo PG hq) 5))))))], [((mr 6), .inl (cs 0, 128, .inl (md 6)))]] := hw.sub [0, 5, 6, 1, 7, 2, 3, 4] rfl rfl; have hw : pw D A s.heap _ _ [fm 13 (fPr cs hq qr QO QF QA), fo 8 (fPg cs PG) p0.toNatClampNeg, wdP cs (PG p0.toNatClampNeg).h (PG p0.toNatClampNeg).r (PG p0.toNatClampNeg).g tf23 ta24 pf25 na26 ma27 wa28 cf29 ca30 ef31 ea32 xf33 xa34, wd_Mo cs mo mr (fun _ => none) (upd mf 0 0) md (gMo PG hq)] := hw.eq rfl
      refine lv_istore_n (lv' := [(2, .int v36), (0, .ref mo), (1, .int p0)]) S.x S.b d_Mo_text_42 rfl hl (by decide) rfl (fun ls hl => ?_)
      refine lv_aload_n S.x S.b d_Mo_text_43 rfl (lv_at hl 1 rfl) ?_
      refine lv_iconst (v := 0) S.x S.b d_Mo_text_44 (by decide) ?_
      refine px_put S k_Mo hT hw 3 0 2 rfl rfl (by decide) m11_80 rfl rfl rfl (Nat.le_of_ble_eq_true rfl) d_Mo_text_45 (w' := wd_Mo cs mo mr (fun _ => none) (upd (upd mf 0 0) 2 0) md (gMo PG hq)) (ps' := [fm 13 (fPr cs hq qr QO QF QA), fo 8 (fPg cs PG) p0.toNatClampNeg, wdP cs (PG p0.toNatClampNeg).h (PG p0.toNatClampNeg).r (PG p0.toNatClampNeg).g tf23 ta24 pf25 na26 ma27 wa28 cf29 ca30 ef31 ea32 xf33 xa34, wd_Mo cs mo mr (fun _ => none) (upd (upd mf 0 0) 2 0) md (gMo PG hq)]) rfl rfl (fun H locs hw => ?_)
      refine lv_aload_n S.x S.b d_Mo_text_48 rfl (lv_at hl 1 rfl) ?_
      refine lv_iload_n S.x S.b d_Mo_text_49 rfl (lv_at hl 0 rfl) ?_
      refine lv_if_ne (tgt := 57) S.x S.b d_Mo_text_50 (by decide) (fun c42 => ?_) (fun c42 => ?_)
      · have nc42 : ¬ v36.toInt = (0 : Int) := mt (i_eq (x := v36) (y := 0)).mpr c42
        refine lv_aload_n S.x S.b d_Mo_text_57 rfl (lv_at hl 1 rfl) ?_
        refine px_get S k_Mo hT hw 3 0 4 (v := .ref (mr 4)) rfl rfl rfl (by decide) m11_82 d_Mo_text_58 ?_
        refine lv_iload_n S.x S.b d_Mo_text_61 rfl (lv_at hl 2 rfl) ?_
        refine px_aaldS S hT hw 3 2 9 (n := 8) (f := ((gMo PG hq) 4)) rfl rfl rfl (x := p0) (vp_in_iff.mpr (by first | exact oz_f03bff5491 hc9 hj9 | (constructor <;> omega))) (sk := (PG p0.toNatClampNeg).h) rfl d_Mo_text_62 ?_
        refine px_getN S k_Mpg hT hw 2 0 32 (v := .int (cf29 32)) rfl rfl rfl (by decide) m10_20n d_Mo_text_63 ?_
        refine px_put S k_Mo hT hw 3 0 3 rfl rfl (by decide) m11_81 rfl rfl rfl (Nat.le_of_ble_eq_true rfl) d_Mo_text_66 (w' := wd_Mo cs mo mr (fun _ => none) (upd (upd (upd mf 0 0) 2 0) 3 (cf29 32)) md (gMo PG hq)) (ps' := [fm 13 (fPr cs hq qr QO QF QA), fo 8 (fPg cs PG) p0.toNatClampNeg, wdP cs (PG p0.toNatClampNeg).h (PG p0.toNatClampNeg).r (PG p0.toNatClampNeg).g tf23 ta24 pf25 na26 ma27 wa28 cf29 ca30 ef31 ea32 xf33 xa34, wd_Mo cs mo mr (fun _ => none) (upd (upd (upd mf 0 0) 2 0) 3 (cf29 32)) md (gMo PG hq)]) rfl rfl (fun H locs hw => ?_)
        refine lv_iload_n S.x S.b d_Mo_text_69 rfl (lv_at hl 0 rfl) ?_
        have hw : pw D A s.heap _ _ [fm 13 (fPr cs hq qr QO QF QA), wd_Mo cs mo mr (fun _ => none) (upd (upd (upd mf 0 0) 2 0) 3 (cf29 32)) md (gMo PG hq), fo 8 (fPg cs PG) p0.toNatClampNeg, wdP cs (PG p0.toNatClampNeg).h (PG p0.toNatClampNeg).r (PG p0.toNatClampNeg).g tf23 ta24 pf25 na26 ma27 wa28 cf29 ca30 ef31 ea32 xf33 xa34] := hw.sub [0, 3, 1, 2] rfl rfl
        have hw := fpg_in (pr := [fm 13 (fPr cs hq qr QO QF QA), wd_Mo cs mo mr (fun _ => none) (upd (upd (upd mf 0 0) 2 0) 3 (cf29 32)) md (gMo PG hq)]) hw hj9
        obtain ⟨PG43, hu_PG43⟩ : ∃ y : Nat → Pgs, y = va_up PG p0.toNatClampNeg ⟨(PG p0.toNatClampNeg).h, (PG p0.toNatClampNeg).r, (PG p0.toNatClampNeg).g, tf23, ta24, pf25, na26, ma27, wa28, cf29, ca30, ef31, ea32, xf33, xa34⟩ := ⟨_, rfl⟩
        have hgs : PgS PG PG43 := (by rw [hu_PG43]; exact pgs_up rfl rfl rfl)
        have hw : pw D A s.heap _ _ [fm 13 (fPr cs hq qr QO QF QA), wd_Mo cs mo mr (fun _ => none) (upd (upd (upd mf 0 0) 2 0) 3 (cf29 32)) md (gMo PG hq), fm 8 (fPg cs PG43)] := (by rw [hu_PG43]; exact hw)
        have hw : pw D A s.heap _ _ [fm 13 (fPr cs hq qr QO QF QA), wd_Mo cs mo mr (fun _ => none) (upd (upd (upd mf 0 0) 2 0) 3 (cf29 32)) md (gMo PG43 hq), fm 8 (fPg cs PG43)] := (by have q8 := hw; rw [gmo_up (hq := hq) hgs] at q8; exact q8)
        have hpg : PgA PG43 := (by rw [hu_PG43]; exact PgA.up hpg (pgo_rd hrdv (show 0 ≤ (cf29 46).toInt ∧ (cf29 46).toInt ≤ 1 from by first | with_reducible rfl | with_reducible assumption | omega) (show 0 ≤ (cf29 47).toInt ∧ (cf29 47).toInt ≤ 1 from by first | with_reducible rfl | with_reducible assumption | omega) (show 0 ≤ (xf33 68).toInt ∧ (xf33 68).toInt ≤ 512 from by first | with_reducible rfl | with_reducible assumption | omega)))
        have hw : pw D A s.heap _ _ [wd_Mo cs mo mr (fun _ => none) (upd (upd (upd mf 0 0) 2 0) 3 (cf29 32)) md (gMo PG43 hq), fm 13 (fPr cs hq qr QO QF QA), fm 8 (fPg cs PG43)] := hw.sub [1, 0, 2] rfl rfl
        exact px_iret (v := v36) S hr rfl hlk hAe hw (Nat.le_of_ble_eq_true rfl) (Nat.le_of_ble_eq_true rfl) (⟨(upd (upd (upd mf 0 0) 2 0) 3 (cf29 32)), PG43, rfl, (show PgA PG43 from hpg), (show PgS PG PG43 from hgs), (show (mf 10).toInt = (mf 10).toInt from rfl), (show 0 ≤ (0 : Int) from by first | decide | omega), (show (0 : Int) ≤ 2048 from by first | decide | omega), (show ((0 : Int) = 0 ∧ 0 ≤ p0.toInt ∧ p0.toInt < 8 ∧ (0 : Int) = 0) ∨ ((0 : Int) = 1 ∧ (p0.toInt < 0 ∨ 8 ≤ p0.toInt) ∧ (0 : Int) = (mf 2).toInt) from by first | with_reducible rfl | with_reducible assumption | omega)⟩) d_Mo_text_70
      · have nc42 : v36.toInt = (0 : Int) := (i_eq (x := v36) (y := 0)).mp c42
        refine lv_iconst (v := 0) S.x S.b d_Mo_text_53 (by decide) ?_
        refine lv_goto (tgt := 66) S.x S.b d_Mo_text_54 (by decide) ?_
        refine px_put S k_Mo hT hw 3 0 3 rfl rfl (by decide) m11_81 rfl rfl rfl (Nat.le_of_ble_eq_true rfl) d_Mo_text_66 (w' := wd_Mo cs mo mr (fun _ => none) (upd (upd (upd mf 0 0) 2 0) 3 0) md (gMo PG hq)) (ps' := [fm 13 (fPr cs hq qr QO QF QA), fo 8 (fPg cs PG) p0.toNatClampNeg, wdP cs (PG p0.toNatClampNeg).h (PG p0.toNatClampNeg).r (PG p0.toNatClampNeg).g tf23 ta24 pf25 na26 ma27 wa28 cf29 ca30 ef31 ea32 xf33 xa34, wd_Mo cs mo mr (fun _ => none) (upd (upd (upd mf 0 0) 2 0) 3 0) md (gMo PG hq)]) rfl rfl (fun H locs hw => ?_)
        refine lv_iload_n S.x S.b d_Mo_text_69 rfl (lv_at hl 0 rfl) ?_
        have hw : pw D A s.heap _ _ [fm 13 (fPr cs hq qr QO QF QA), wd_Mo cs mo mr (fun _ => none) (upd (upd (upd mf 0 0) 2 0) 3 0) md (gMo PG hq), fo 8 (fPg cs PG) p0.toNatClampNeg, wdP cs (PG p0.toNatClampNeg).h (PG p0.toNatClampNeg).r (PG p0.toNatClampNeg).g tf23 ta24 pf25 na26 ma27 wa28 cf29 ca30 ef31 ea32 xf33 xa34] := hw.sub [0, 3, 1, 2] rfl rfl
        have hw := fpg_in (pr := [fm 13 (fPr cs hq qr QO QF QA), wd_Mo cs mo mr (fun _ => none) (upd (upd (upd mf 0 0) 2 0) 3 0) md (gMo PG hq)]) hw hj9
        obtain ⟨PG44, hu_PG44⟩ : ∃ y : Nat → Pgs, y = va_up PG p0.toNatClampNeg ⟨(PG p0.toNatClampNeg).h, (PG p0.toNatClampNeg).r, (PG p0.toNatClampNeg).g, tf23, ta24, pf25, na26, ma27, wa28, cf29, ca30, ef31, ea32, xf33, xa34⟩ := ⟨_, rfl⟩
        have hgs : PgS PG PG44 := (by rw [hu_PG44]; exact pgs_up rfl rfl rfl)
        have hw : pw D A s.heap _ _ [fm 13 (fPr cs hq qr QO QF QA), wd_Mo cs mo mr (fun _ => none) (upd (upd (upd mf 0 0) 2 0) 3 0) md (gMo PG hq), fm 8 (fPg cs PG44)] := (by rw [hu_PG44]; exact hw)
        have hw : pw D A s.heap _ _ [fm 13 (fPr cs hq qr QO QF QA), wd_Mo cs mo mr (fun _ => none) (upd (upd (upd mf 0 0) 2 0) 3 0) md (gMo PG44 hq), fm 8 (fPg cs PG44)] := (by have q8 := hw; rw [gmo_up (hq := hq) hgs] at q8; exact q8)
        have hpg : PgA PG44 := (by rw [hu_PG44]; exact PgA.up hpg (pgo_rd hrdv (show 0 ≤ (cf29 46).toInt ∧ (cf29 46).toInt ≤ 1 from by first | with_reducible rfl | with_reducible assumption | omega) (show 0 ≤ (cf29 47).toInt ∧ (cf29 47).toInt ≤ 1 from by first | with_reducible rfl | with_reducible assumption | omega) (show 0 ≤ (xf33 68).toInt ∧ (xf33 68).toInt ≤ 512 from by first | with_reducible rfl | with_reducible assumption | omega)))
        have hw : pw D A s.heap _ _ [wd_Mo cs mo mr (fun _ => none) (upd (upd (upd mf 0 0) 2 0) 3 0) md (gMo PG44 hq), fm 13 (fPr cs hq qr QO QF QA), fm 8 (fPg cs PG44)] := hw.sub [1, 0, 2] rfl rfl
        exact px_iret (v := v36) S hr rfl hlk hAe hw (Nat.le_of_ble_eq_true rfl) (Nat.le_of_ble_eq_true rfl) (⟨(upd (upd (upd mf 0 0) 2 0) 3 0), PG44, rfl, (show PgA PG44 from hpg), (show PgS PG PG44 from hgs), (show (mf 10).toInt = (mf 10).toInt from rfl), (show 0 ≤ (0 : Int) from by first | decide | omega), (show (0 : Int) ≤ 2048 from by first | decide | omega), (show ((0 : Int) = 0 ∧ 0 ≤ p0.toInt ∧ p0.toInt < 8 ∧ (0 : Int) = 0) ∨ ((0 : Int) = 1 ∧ (p0.toInt < 0 ∨ 8 ≤ p0.toInt) ∧ (0 : Int) = (mf 2).toInt) from by first | with_reducible rfl | with_reducible assumption | omega)⟩) d_Mo_text_70
    · exact absurd c8 (by decide)
abbrev b_Mo_raw : ByteArray := prog_14_method_8_code
def y_Mo_raw : MethodName := ⟨"HomeSystemModel", "raw", "(I)I"⟩
theorem d_Mo_raw_0 : decode b_Mo_raw 0 = .ok (.aload_n 0, 1) := by decide +kernel
theorem d_Mo_raw_1 : decode b_Mo_raw 1 = .ok (.iload_n 1, 1) := by decide +kernel
theorem d_Mo_raw_2 : decode b_Mo_raw 2 = .ok (.invokestatic 41, 3) := by decide +kernel
theorem d_Mo_raw_5 : decode b_Mo_raw 5 = .ok (.ifCond .eq 7, 3) := by decide +kernel
theorem d_Mo_raw_8 : decode b_Mo_raw 8 = .ok (.iconst 0, 1) := by decide +kernel
theorem d_Mo_raw_9 : decode b_Mo_raw 9 = .ok (.goto 4, 3) := by decide +kernel
theorem d_Mo_raw_12 : decode b_Mo_raw 12 = .ok (.iconst 1, 1) := by decide +kernel
theorem d_Mo_raw_13 : decode b_Mo_raw 13 = .ok (.putfield 35, 3) := by decide +kernel
theorem d_Mo_raw_16 : decode b_Mo_raw 16 = .ok (.aload_n 0, 1) := by decide +kernel
theorem d_Mo_raw_17 : decode b_Mo_raw 17 = .ok (.getfield 35, 3) := by decide +kernel
theorem d_Mo_raw_20 : decode b_Mo_raw 20 = .ok (.ifCond .le 5, 3) := by decide +kernel
theorem d_Mo_raw_23 : decode b_Mo_raw 23 = .ok (.iconst 0, 1) := by decide +kernel
theorem d_Mo_raw_24 : decode b_Mo_raw 24 = .ok (.ireturn, 1) := by decide +kernel
theorem d_Mo_raw_25 : decode b_Mo_raw 25 = .ok (.aload_n 0, 1) := by decide +kernel
theorem d_Mo_raw_26 : decode b_Mo_raw 26 = .ok (.getfield 15, 3) := by decide +kernel
theorem d_Mo_raw_29 : decode b_Mo_raw 29 = .ok (.iload_n 1, 1) := by decide +kernel
theorem d_Mo_raw_30 : decode b_Mo_raw 30 = .ok (.aaload, 1) := by decide +kernel
theorem d_Mo_raw_31 : decode b_Mo_raw 31 = .ok (.astore_n 2, 1) := by decide +kernel
theorem d_Mo_raw_32 : decode b_Mo_raw 32 = .ok (.aload_n 0, 1) := by decide +kernel
theorem d_Mo_raw_33 : decode b_Mo_raw 33 = .ok (.getfield 38, 3) := by decide +kernel
theorem d_Mo_raw_36 : decode b_Mo_raw 36 = .ok (.iconst 4, 1) := by decide +kernel
theorem d_Mo_raw_37 : decode b_Mo_raw 37 = .ok (.idiv, 1) := by decide +kernel
theorem d_Mo_raw_38 : decode b_Mo_raw 38 = .ok (.istore_n 3, 1) := by decide +kernel
theorem d_Mo_raw_39 : decode b_Mo_raw 39 = .ok (.iconst 0, 1) := by decide +kernel
theorem d_Mo_raw_40 : decode b_Mo_raw 40 = .ok (.istore 4, 2) := by decide +kernel
theorem d_Mo_raw_42 : decode b_Mo_raw 42 = .ok (.iload 4, 2) := by decide +kernel
theorem d_Mo_raw_44 : decode b_Mo_raw 44 = .ok (.iload_n 3, 1) := by decide +kernel
theorem d_Mo_raw_45 : decode b_Mo_raw 45 = .ok (.if_icmp .ge 86, 3) := by decide +kernel
theorem d_Mo_raw_48 : decode b_Mo_raw 48 = .ok (.aload_n 2, 1) := by decide +kernel
theorem d_Mo_raw_49 : decode b_Mo_raw 49 = .ok (.getfield 55, 3) := by decide +kernel
theorem d_Mo_raw_52 : decode b_Mo_raw 52 = .ok (.iload 4, 2) := by decide +kernel
theorem d_Mo_raw_54 : decode b_Mo_raw 54 = .ok (.aload_n 0, 1) := by decide +kernel
theorem d_Mo_raw_55 : decode b_Mo_raw 55 = .ok (.getfield 7, 3) := by decide +kernel
theorem d_Mo_raw_58 : decode b_Mo_raw 58 = .ok (.iconst 4, 1) := by decide +kernel
theorem d_Mo_raw_59 : decode b_Mo_raw 59 = .ok (.iload 4, 2) := by decide +kernel
theorem d_Mo_raw_61 : decode b_Mo_raw 61 = .ok (.imul, 1) := by decide +kernel
theorem d_Mo_raw_62 : decode b_Mo_raw 62 = .ok (.baload, 1) := by decide +kernel
theorem d_Mo_raw_63 : decode b_Mo_raw 63 = .ok (.sipush 255, 3) := by decide +kernel
theorem d_Mo_raw_66 : decode b_Mo_raw 66 = .ok (.iand, 1) := by decide +kernel
theorem d_Mo_raw_67 : decode b_Mo_raw 67 = .ok (.aload_n 0, 1) := by decide +kernel
theorem d_Mo_raw_68 : decode b_Mo_raw 68 = .ok (.getfield 7, 3) := by decide +kernel
theorem d_Mo_raw_71 : decode b_Mo_raw 71 = .ok (.iconst 4, 1) := by decide +kernel
theorem d_Mo_raw_72 : decode b_Mo_raw 72 = .ok (.iload 4, 2) := by decide +kernel
theorem d_Mo_raw_74 : decode b_Mo_raw 74 = .ok (.imul, 1) := by decide +kernel
theorem d_Mo_raw_75 : decode b_Mo_raw 75 = .ok (.iconst 1, 1) := by decide +kernel
theorem d_Mo_raw_76 : decode b_Mo_raw 76 = .ok (.iadd, 1) := by decide +kernel
theorem d_Mo_raw_77 : decode b_Mo_raw 77 = .ok (.baload, 1) := by decide +kernel
theorem d_Mo_raw_78 : decode b_Mo_raw 78 = .ok (.sipush 255, 3) := by decide +kernel
theorem d_Mo_raw_81 : decode b_Mo_raw 81 = .ok (.iand, 1) := by decide +kernel
theorem d_Mo_raw_82 : decode b_Mo_raw 82 = .ok (.bipush 8, 2) := by decide +kernel
theorem d_Mo_raw_84 : decode b_Mo_raw 84 = .ok (.ishl, 1) := by decide +kernel
theorem d_Mo_raw_85 : decode b_Mo_raw 85 = .ok (.ior, 1) := by decide +kernel
theorem d_Mo_raw_86 : decode b_Mo_raw 86 = .ok (.aload_n 0, 1) := by decide +kernel
theorem d_Mo_raw_87 : decode b_Mo_raw 87 = .ok (.getfield 7, 3) := by decide +kernel
theorem d_Mo_raw_90 : decode b_Mo_raw 90 = .ok (.iconst 4, 1) := by decide +kernel
theorem d_Mo_raw_91 : decode b_Mo_raw 91 = .ok (.iload 4, 2) := by decide +kernel
theorem d_Mo_raw_93 : decode b_Mo_raw 93 = .ok (.imul, 1) := by decide +kernel
theorem d_Mo_raw_94 : decode b_Mo_raw 94 = .ok (.iconst 2, 1) := by decide +kernel
theorem d_Mo_raw_95 : decode b_Mo_raw 95 = .ok (.iadd, 1) := by decide +kernel
theorem d_Mo_raw_96 : decode b_Mo_raw 96 = .ok (.baload, 1) := by decide +kernel
theorem d_Mo_raw_97 : decode b_Mo_raw 97 = .ok (.sipush 255, 3) := by decide +kernel
theorem d_Mo_raw_100 : decode b_Mo_raw 100 = .ok (.iand, 1) := by decide +kernel
theorem d_Mo_raw_101 : decode b_Mo_raw 101 = .ok (.bipush 16, 2) := by decide +kernel
theorem d_Mo_raw_103 : decode b_Mo_raw 103 = .ok (.ishl, 1) := by decide +kernel
theorem d_Mo_raw_104 : decode b_Mo_raw 104 = .ok (.ior, 1) := by decide +kernel
theorem d_Mo_raw_105 : decode b_Mo_raw 105 = .ok (.aload_n 0, 1) := by decide +kernel
theorem d_Mo_raw_106 : decode b_Mo_raw 106 = .ok (.getfield 7, 3) := by decide +kernel
theorem d_Mo_raw_109 : decode b_Mo_raw 109 = .ok (.iconst 4, 1) := by decide +kernel
theorem d_Mo_raw_110 : decode b_Mo_raw 110 = .ok (.iload 4, 2) := by decide +kernel
theorem d_Mo_raw_112 : decode b_Mo_raw 112 = .ok (.imul, 1) := by decide +kernel
theorem d_Mo_raw_113 : decode b_Mo_raw 113 = .ok (.iconst 3, 1) := by decide +kernel
theorem d_Mo_raw_114 : decode b_Mo_raw 114 = .ok (.iadd, 1) := by decide +kernel
theorem d_Mo_raw_115 : decode b_Mo_raw 115 = .ok (.baload, 1) := by decide +kernel
theorem d_Mo_raw_116 : decode b_Mo_raw 116 = .ok (.sipush 255, 3) := by decide +kernel
theorem d_Mo_raw_119 : decode b_Mo_raw 119 = .ok (.iand, 1) := by decide +kernel
theorem d_Mo_raw_120 : decode b_Mo_raw 120 = .ok (.bipush 24, 2) := by decide +kernel
theorem d_Mo_raw_122 : decode b_Mo_raw 122 = .ok (.ishl, 1) := by decide +kernel
theorem d_Mo_raw_123 : decode b_Mo_raw 123 = .ok (.ior, 1) := by decide +kernel
theorem d_Mo_raw_124 : decode b_Mo_raw 124 = .ok (.iastore, 1) := by decide +kernel
theorem d_Mo_raw_125 : decode b_Mo_raw 125 = .ok (.iinc 4 1, 3) := by decide +kernel
theorem d_Mo_raw_128 : decode b_Mo_raw 128 = .ok (.goto (-86), 3) := by decide +kernel
theorem d_Mo_raw_131 : decode b_Mo_raw 131 = .ok (.aload_n 2, 1) := by decide +kernel
theorem d_Mo_raw_132 : decode b_Mo_raw 132 = .ok (.iload_n 3, 1) := by decide +kernel
theorem d_Mo_raw_133 : decode b_Mo_raw 133 = .ok (.putfield 58, 3) := by decide +kernel
theorem d_Mo_raw_136 : decode b_Mo_raw 136 = .ok (.aload_n 2, 1) := by decide +kernel
theorem d_Mo_raw_137 : decode b_Mo_raw 137 = .ok (.iload_n 3, 1) := by decide +kernel
theorem d_Mo_raw_138 : decode b_Mo_raw 138 = .ok (.ifCond .le 7, 3) := by decide +kernel
theorem d_Mo_raw_141 : decode b_Mo_raw 141 = .ok (.iconst 2, 1) := by decide +kernel
theorem d_Mo_raw_142 : decode b_Mo_raw 142 = .ok (.goto 4, 3) := by decide +kernel
theorem d_Mo_raw_145 : decode b_Mo_raw 145 = .ok (.iconst 0, 1) := by decide +kernel
theorem d_Mo_raw_146 : decode b_Mo_raw 146 = .ok (.putfield 61, 3) := by decide +kernel
theorem d_Mo_raw_149 : decode b_Mo_raw 149 = .ok (.aload_n 0, 1) := by decide +kernel
theorem d_Mo_raw_150 : decode b_Mo_raw 150 = .ok (.iconst 0, 1) := by decide +kernel
theorem d_Mo_raw_151 : decode b_Mo_raw 151 = .ok (.putfield 38, 3) := by decide +kernel
theorem d_Mo_raw_154 : decode b_Mo_raw 154 = .ok (.iload_n 3, 1) := by decide +kernel
theorem d_Mo_raw_155 : decode b_Mo_raw 155 = .ok (.ifCond .le 7, 3) := by decide +kernel
theorem d_Mo_raw_158 : decode b_Mo_raw 158 = .ok (.iload_n 3, 1) := by decide +kernel
theorem d_Mo_raw_159 : decode b_Mo_raw 159 = .ok (.goto 4, 3) := by decide +kernel
theorem d_Mo_raw_162 : decode b_Mo_raw 162 = .ok (.iconst (-1), 1) := by decide +kernel
theorem d_Mo_raw_163 : decode b_Mo_raw 163 = .ok (.ireturn, 1) := by decide +kernel
theorem q_Mo_raw : px_y y_Mo_raw 1 := by unfold px_y; decide +kernel
set_option maxHeartbeats 4000000 in
set_option maxRecDepth 100000 in
theorem c_mo_raw (l : Launch) (D : va_G) (cs : Nat → ClassId) (mo : Nat) (mr : Nat → Nat) (md : Nat → Nat → Int32) (mf : Nat → Int32) (hq : Nat → Nat) (qr : Nat → Nat → Nat) (QO : Nat → Option Nat) (QF : Nat → Nat → Int32) (QA : Nat → Nat → Nat → Int32) (PG : Nat → Pgs) (p0 : Int32)  (g0 : 0 ≤ (mf 2).toInt) (g1 : (mf 2).toInt ≤ 2048) (hpn : PrN QF) (hpg : PgA PG) : MetI l y_Mo_raw b_Mo_raw 5 (.int) D cs 1 40 (0) (0) [.ref mo, .int p0] [wd_Mo cs mo mr (fun _ => none) mf md (gMo PG hq), fm 13 (fPr cs hq qr QO QF QA), fm 8 (fPg cs PG)] (fun _ => True) (fun v ps => ∃ (mf' : Nat → Int32) (PG' : Nat → Pgs), (ps = [wd_Mo cs mo mr (fun _ => none) mf' md (gMo PG' hq), fm 13 (fPr cs hq qr QO QF QA), fm 8 (fPg cs PG')]) ∧ (PgA PG') ∧ (PgS PG PG') ∧ ((mf' 10).toInt = (mf 10).toInt) ∧ (0 ≤ (mf' 2).toInt) ∧ ((mf' 2).toInt ≤ 2048) ∧ (((mf' 0).toInt = 0 ∧ 0 ≤ p0.toInt ∧ p0.toInt < 8 ∧ (mf' 2).toInt = 0 ∧ (((mf 2).toInt < 4 ∧ v.toInt = -1) ∨ (4 ≤ (mf 2).toInt ∧ 4 * v.toInt ≤ (mf 2).toInt ∧ (mf 2).toInt < 4 * v.toInt + 4))) ∨ ((mf' 0).toInt = 1 ∧ (p0.toInt < 0 ∨ 8 ≤ p0.toInt) ∧ (mf' 2).toInt = (mf 2).toInt))) := by
  refine px_enter (by decide) (Nat.le_of_ble_eq_true rfl) ?_
  intro p e s m below meth c A ls hAe S hr hlk hnm hA hT hX hw hl
  replace hl : lv_has ls 5 [(0, .ref mo), (1, .int p0)] := hl
  have lp0 := Int32.le_toInt p0
  have up0 := Int32.toInt_lt p0
  have cstm1 : ((-1) : Int32).toInt = (-1) := rfl
  have cst0 : (0 : Int32).toInt = 0 := rfl
  have cst1 : (1 : Int32).toInt = 1 := rfl
  have cst2 : (2 : Int32).toInt = 2 := rfl
  have cst3 : (3 : Int32).toInt = 3 := rfl
  have cst4 : (4 : Int32).toInt = 4 := rfl
  have cst8 : (8 : Int32).toInt = 8 := rfl
  have cst16 : (16 : Int32).toInt = 16 := rfl
  have cst24 : (24 : Int32).toInt = 24 := rfl
  have cst255 : (255 : Int32).toInt = 255 := rfl
  have J42 : ∀ (n_42 : Nat) (mf_42 : Nat → Int32) (PG_42 : Nat → Pgs) (x42_3 x42_4 : Int32) (H : Heap) (locs : List Loc) (ls : Array Slot), (PgA PG_42) → (PgS PG PG_42) → ((mf_42 10).toInt = (mf 10).toInt) → ((mf_42 2).toInt = (mf 2).toInt) → (0 ≤ p0.toInt) → (p0.toInt < 8) → (0 ≤ x42_4.toInt) → (x42_4.toInt ≤ x42_3.toInt) → (4 * x42_3.toInt ≤ (mf 2).toInt) → (x42_3.toInt ≤ 512) → ((mf_42 0).toInt = 0) → ((mf 2).toInt < 4 * x42_3.toInt + 4) → x42_3.toInt - x42_4.toInt < (n_42 : Int) → pw D A s.heap H locs [wd_Mo cs mo mr (fun _ => none) mf_42 md (gMo PG_42 hq), fm 13 (fPr cs hq qr QO QF QA), fm 8 (fPg cs PG_42)] → lv_has ls 5 [(0, .ref mo), (1, .int p0), (2, .ref (PG p0.toNatClampNeg).h), (3, .int x42_3), (4, .int x42_4)] → W p l e { frames := 1, cells := 0, slots := 0, locals := 40 } s m [.ref mo, .int p0].toArray below meth c H locs 0 0 (MQ below (va_Qi (fun v ps => ∃ (mf' : Nat → Int32) (PG' : Nat → Pgs), (ps = [wd_Mo cs mo mr (fun _ => none) mf' md (gMo PG' hq), fm 13 (fPr cs hq qr QO QF QA), fm 8 (fPg cs PG')]) ∧ (PgA PG') ∧ (PgS PG PG') ∧ ((mf' 10).toInt = (mf 10).toInt) ∧ (0 ≤ (mf' 2).toInt) ∧ ((mf' 2).toInt ≤ 2048) ∧ (((mf' 0).toInt = 0 ∧ 0 ≤ p0.toInt ∧ p0.toInt < 8 ∧ (mf' 2).toInt = 0 ∧ (((mf 2).toInt < 4 ∧ v.toInt = -1) ∨ (4 ≤ (mf 2).toInt ∧ 4 * v.toInt ≤ (mf 2).toInt ∧ (mf 2).toInt < 4 * v.toInt + 4))) ∨ ((mf' 0).toInt = 1 ∧ (p0.toInt < 0 ∨ 8 ≤ p0.toInt) ∧ (mf' 2).toInt = (mf 2).toInt))) (pc_B D (va_A ([wd_Mo cs mo mr (fun _ => none) mf md (gMo PG hq), fm 13 (fPr cs hq qr QO QF QA), fm 8 (fPg cs PG)] : List va_W).flatten s.heap.size)) (va_A ([wd_Mo cs mo mr (fun _ => none) mf md (gMo PG hq), fm 13 (fPr cs hq qr QO QF QA), fm 8 (fPg cs PG)] : List va_W).flatten s.heap.size)) [.ref mo, .int p0].toArray s 0 0 A) (F0 m 42 ls []) := by
    intro  n_42
    induction n_42 with
    | zero =>
      intro mf_42 PG_42 x42_3 x42_4 H locs ls k42_0 k42_1 k42_2 k42_3 k42_4 k42_5 k42_6 k42_7 k42_8 k42_9 k42_10 k42_11 hm hw hl
      have lx42_3 := Int32.le_toInt x42_3
      have ux42_3 := Int32.toInt_lt x42_3
      have lx42_4 := Int32.le_toInt x42_4
      have ux42_4 := Int32.toInt_lt x42_4
      have hpg := k42_0
      have hgs := k42_1
      exact absurd hm (by omega)
    | succ n_42 ih42 =>
      intro mf_42 PG_42 x42_3 x42_4 H locs ls k42_0 k42_1 k42_2 k42_3 k42_4 k42_5 k42_6 k42_7 k42_8 k42_9 k42_10 k42_11 hm hw hl
      have lx42_3 := Int32.le_toInt x42_3
      have ux42_3 := Int32.toInt_lt x42_3
      have lx42_4 := Int32.le_toInt x42_4
      have ux42_4 := Int32.toInt_lt x42_4
      have hpg := k42_0
      have hgs := k42_1
      refine lv_iload S.x S.b d_Mo_raw_42 (lv_at hl 4 rfl) ?_
      refine lv_iload_n S.x S.b d_Mo_raw_44 rfl (lv_at hl 3 rfl) ?_
      refine lv_icmp_ge (tgt := 131) S.x S.b d_Mo_raw_45 (by decide) (fun c1 => ?_) (fun c1 => ?_)
      · have nc1 : x42_3.toInt ≤ x42_4.toInt := (i_le (x := x42_3) (y := x42_4)).mp c1
        refine lv_aload_n S.x S.b d_Mo_raw_131 rfl (lv_at hl 2 rfl) ?_
        refine lv_iload_n S.x S.b d_Mo_raw_132 rfl (lv_at hl 3 rfl) ?_
        have hc2 := cl_nat (x := p0) (by first | exact k42_4 | omega)
        have hj2 : p0.toNatClampNeg < 8 := by first | exact oz_988ece23c5 hc2 k42_5 | omega
        have hw : pw D A s.heap _ _ [wd_Mo cs mo mr (fun _ => none) mf_42 md (gMo PG_42 hq), fm 13 (fPr cs hq qr QO QF QA), fo 8 (fPg cs PG_42) p0.toNatClampNeg, wdP cs (PG_42 p0.toNatClampNeg).h (PG_42 p0.toNatClampNeg).r (PG_42 p0.toNatClampNeg).g (PG_42 p0.toNatClampNeg).tf (PG_42 p0.toNatClampNeg).ta (PG_42 p0.toNatClampNeg).pf (PG_42 p0.toNatClampNeg).na (PG_42 p0.toNatClampNeg).ma (PG_42 p0.toNatClampNeg).wa (PG_42 p0.toNatClampNeg).cf (PG_42 p0.toNatClampNeg).ca (PG_42 p0.toNatClampNeg).ef (PG_42 p0.toNatClampNeg).ea (PG_42 p0.toNatClampNeg).xf (PG_42 p0.toNatClampNeg).xa] := fm_out (pr := [wd_Mo cs mo mr (fun _ => none) mf_42 md (gMo PG_42 hq), fm 13 (fPr cs hq qr QO QF QA)]) (T := fPg cs PG_42) hw hj2
        have hpo3 := hpg p0.toNatClampNeg hj2
        have hp13 := hpo3.1
        have hp23 := hpo3.2.1
        have hw : pw D A s.heap _ _ [wd_Mo cs mo mr (fun _ => none) mf_42 md (gMo PG_42 hq), fm 13 (fPr cs hq qr QO QF QA), fo 8 (fPg cs PG_42) p0.toNatClampNeg, wdP cs (PG p0.toNatClampNeg).h (PG_42 p0.toNatClampNeg).r (PG_42 p0.toNatClampNeg).g (PG_42 p0.toNatClampNeg).tf (PG_42 p0.toNatClampNeg).ta (PG_42 p0.toNatClampNeg).pf (PG_42 p0.toNatClampNeg).na (PG_42 p0.toNatClampNeg).ma (PG_42 p0.toNatClampNeg).wa (PG_42 p0.toNatClampNeg).cf (PG_42 p0.toNatClampNeg).ca (PG_42 p0.toNatClampNeg).ef (PG_42 p0.toNatClampNeg).ea (PG_42 p0.toNatClampNeg).xf (PG_42 p0.toNatClampNeg).xa] := (by have q8 := hw; rw [show (PG_42 p0.toNatClampNeg).h = (PG p0.toNatClampNeg).h from (hgs p0.toNatClampNeg).1] at q8; exact q8)
        refine px_put S k_Mpg hT hw 3 0 68 rfl rfl (by decide) m10_72 rfl rfl rfl (Nat.le_of_ble_eq_true rfl) d_Mo_raw_133 (w' := wdP cs (PG p0.toNatClampNeg).h (PG_42 p0.toNatClampNeg).r (PG_42 p0.toNatClampNeg).g (PG_42 p0.toNatClampNeg).tf (PG_42 p0.toNatClampNeg).ta (PG_42 p0.toNatClampNeg).pf (PG_42 p0.toNatClampNeg).na (PG_42 p0.toNatClampNeg).ma (PG_42 p0.toNatClampNeg).wa (PG_42 p0.toNatClampNeg).cf (PG_42 p0.toNatClampNeg).ca (PG_42 p0.toNatClampNeg).ef (PG_42 p0.toNatClampNeg).ea (upd (PG_42 p0.toNatClampNeg).xf 68 x42_3) (PG_42 p0.toNatClampNeg).xa) (ps' := [wd_Mo cs mo mr (fun _ => none) mf_42 md (gMo PG_42 hq), fm 13 (fPr cs hq qr QO QF QA), fo 8 (fPg cs PG_42) p0.toNatClampNeg, wdP cs (PG p0.toNatClampNeg).h (PG_42 p0.toNatClampNeg).r (PG_42 p0.toNatClampNeg).g (PG_42 p0.toNatClampNeg).tf (PG_42 p0.toNatClampNeg).ta (PG_42 p0.toNatClampNeg).pf (PG_42 p0.toNatClampNeg).na (PG_42 p0.toNatClampNeg).ma (PG_42 p0.toNatClampNeg).wa (PG_42 p0.toNatClampNeg).cf (PG_42 p0.toNatClampNeg).ca (PG_42 p0.toNatClampNeg).ef (PG_42 p0.toNatClampNeg).ea (upd (PG_42 p0.toNatClampNeg).xf 68 x42_3) (PG_42 p0.toNatClampNeg).xa]) rfl rfl (fun H locs hw => ?_)
        refine lv_aload_n S.x S.b d_Mo_raw_136 rfl (lv_at hl 2 rfl) ?_
        refine lv_iload_n S.x S.b d_Mo_raw_137 rfl (lv_at hl 3 rfl) ?_
        refine lv_if_le (tgt := 145) S.x S.b d_Mo_raw_138 (by decide) (fun c4 => ?_) (fun c4 => ?_)
        · have nc4 : x42_3.toInt ≤ (0 : Int) := (i_le (x := x42_3) (y := 0)).mp c4
          refine lv_iconst (v := 0) S.x S.b d_Mo_raw_145 (by decide) ?_
          refine px_put S k_Mpg hT hw 3 0 66 rfl rfl (by decide) m10_67 rfl rfl rfl (Nat.le_of_ble_eq_true rfl) d_Mo_raw_146 (w' := wdP cs (PG p0.toNatClampNeg).h (PG_42 p0.toNatClampNeg).r (PG_42 p0.toNatClampNeg).g (PG_42 p0.toNatClampNeg).tf (PG_42 p0.toNatClampNeg).ta (PG_42 p0.toNatClampNeg).pf (PG_42 p0.toNatClampNeg).na (PG_42 p0.toNatClampNeg).ma (PG_42 p0.toNatClampNeg).wa (PG_42 p0.toNatClampNeg).cf (PG_42 p0.toNatClampNeg).ca (PG_42 p0.toNatClampNeg).ef (PG_42 p0.toNatClampNeg).ea (upd (upd (PG_42 p0.toNatClampNeg).xf 66 0) 68 x42_3) (PG_42 p0.toNatClampNeg).xa) (ps' := [wd_Mo cs mo mr (fun _ => none) mf_42 md (gMo PG_42 hq), fm 13 (fPr cs hq qr QO QF QA), fo 8 (fPg cs PG_42) p0.toNatClampNeg, wdP cs (PG p0.toNatClampNeg).h (PG_42 p0.toNatClampNeg).r (PG_42 p0.toNatClampNeg).g (PG_42 p0.toNatClampNeg).tf (PG_42 p0.toNatClampNeg).ta (PG_42 p0.toNatClampNeg).pf (PG_42 p0.toNatClampNeg).na (PG_42 p0.toNatClampNeg).ma (PG_42 p0.toNatClampNeg).wa (PG_42 p0.toNatClampNeg).cf (PG_42 p0.toNatClampNeg).ca (PG_42 p0.toNatClampNeg).ef (PG_42 p0.toNatClampNeg).ea (upd (upd (PG_42 p0.toNatClampNeg).xf 66 0) 68 x42_3) (PG_42 p0.toNatClampNeg).xa]) rfl rfl (fun H locs hw => ?_)
          refine lv_aload_n S.x S.b d_Mo_raw_149 rfl (lv_at hl 0 rfl) ?_
          refine lv_iconst (v := 0) S.x S.b d_Mo_raw_150 (by decide) ?_
          refine px_put S k_Mo hT hw 0 0 2 rfl rfl (by decide) m11_80 rfl rfl rfl (Nat.le_of_ble_eq_true rfl) d_Mo_raw_151 (w' := wd_Mo cs mo mr (fun _ => none) (upd mf_42 2 0) md (gMo PG_42 hq)) (ps' := [wd_Mo cs mo mr (fun _ => none) (upd mf_42 2 0) md (gMo PG_42 hq), fm 13 (fPr cs hq qr QO QF QA), fo 8 (fPg cs PG_42) p0.toNatClampNeg, wdP cs (PG p0.toNatClampNeg).h (PG_42 p0.toNatClampNeg).r (PG_42 p0.toNatClampNeg).g (PG_42 p0.toNatClampNeg).tf (PG_42 p0.toNatClampNeg).ta (PG_42 p0.toNatClampNeg).pf (PG_42 p0.toNatClampNeg).na (PG_42 p0.toNatClampNeg).ma (PG_42 p0.toNatClampNeg).wa (PG_42 p0.toNatClampNeg).cf (PG_42 p0.toNatClampNeg).ca (PG_42 p0.toNatClampNeg).ef (PG_42 p0.toNatClampNeg).ea (upd (upd (PG_42 p0.toNatClampNeg).xf 66 0) 68 x42_3) (PG_42 p0.toNatClampNeg).xa]) rfl rfl (fun H locs hw => ?_)
          refine lv_iload_n S.x S.b d_Mo_raw_154 rfl (lv_at hl 3 rfl) ?_
          refine lv_if_le (tgt := 162) S.x S.b d_Mo_raw_155 (by decide) (fun c5 => ?_) (fun c5 => ?_)
          · have nc5 : x42_3.toInt ≤ (0 : Int) := (i_le (x := x42_3) (y := 0)).mp c5
            refine lv_iconst (v := (-1)) S.x S.b d_Mo_raw_162 (by decide) ?_
            have hw : pw D A s.heap _ _ [wd_Mo cs mo mr (fun _ => none) (upd mf_42 2 0) md (gMo PG_42 hq), fm 13 (fPr cs hq qr QO QF QA), fo 8 (fPg cs PG_42) p0.toNatClampNeg, wdP cs (PG_42 p0.toNatClampNeg).h (PG_42 p0.toNatClampNeg).r (PG_42 p0.toNatClampNeg).g (PG_42 p0.toNatClampNeg).tf (PG_42 p0.toNatClampNeg).ta (PG_42 p0.toNatClampNeg).pf (PG_42 p0.toNatClampNeg).na (PG_42 p0.toNatClampNeg).ma (PG_42 p0.toNatClampNeg).wa (PG_42 p0.toNatClampNeg).cf (PG_42 p0.toNatClampNeg).ca (PG_42 p0.toNatClampNeg).ef (PG_42 p0.toNatClampNeg).ea (upd (upd (PG_42 p0.toNatClampNeg).xf 66 0) 68 x42_3) (PG_42 p0.toNatClampNeg).xa] := (by have q8 := hw; rw [show (PG p0.toNatClampNeg).h = (PG_42 p0.toNatClampNeg).h from (hgs p0.toNatClampNeg).1.symm] at q8; exact q8)
            have hgs0 := hgs
            have hw := fpg_in (pr := [wd_Mo cs mo mr (fun _ => none) (upd mf_42 2 0) md (gMo PG_42 hq), fm 13 (fPr cs hq qr QO QF QA)]) hw hj2
            obtain ⟨PG6, hu_PG6⟩ : ∃ y : Nat → Pgs, y = va_up PG_42 p0.toNatClampNeg ⟨(PG_42 p0.toNatClampNeg).h, (PG_42 p0.toNatClampNeg).r, (PG_42 p0.toNatClampNeg).g, (PG_42 p0.toNatClampNeg).tf, (PG_42 p0.toNatClampNeg).ta, (PG_42 p0.toNatClampNeg).pf, (PG_42 p0.toNatClampNeg).na, (PG_42 p0.toNatClampNeg).ma, (PG_42 p0.toNatClampNeg).wa, (PG_42 p0.toNatClampNeg).cf, (PG_42 p0.toNatClampNeg).ca, (PG_42 p0.toNatClampNeg).ef, (PG_42 p0.toNatClampNeg).ea, (upd (upd (PG_42 p0.toNatClampNeg).xf 66 0) 68 x42_3), (PG_42 p0.toNatClampNeg).xa⟩ := ⟨_, rfl⟩
            have hgs : PgS PG_42 PG6 := (by rw [hu_PG6]; exact pgs_up rfl rfl rfl)
            have hw : pw D A s.heap _ _ [wd_Mo cs mo mr (fun _ => none) (upd mf_42 2 0) md (gMo PG_42 hq), fm 13 (fPr cs hq qr QO QF QA), fm 8 (fPg cs PG6)] := (by rw [hu_PG6]; exact hw)
            have hw : pw D A s.heap _ _ [wd_Mo cs mo mr (fun _ => none) (upd mf_42 2 0) md (gMo PG6 hq), fm 13 (fPr cs hq qr QO QF QA), fm 8 (fPg cs PG6)] := (by have q8 := hw; rw [gmo_up (hq := hq) hgs] at q8; exact q8)
            have hgs : PgS PG PG6 := hgs0.tr hgs
            have hpg : PgA PG6 := (by rw [hu_PG6]; exact PgA.up hpg (show PgO _ from ⟨⟨(show 0 ≤ (0 : Int) ∧ (0 : Int) ≤ 2 from by first | with_reducible rfl | with_reducible assumption | omega), (show 0 ≤ ((PG_42 p0.toNatClampNeg).cf 46).toInt ∧ ((PG_42 p0.toNatClampNeg).cf 46).toInt ≤ 1 from by first | with_reducible rfl | with_reducible assumption | omega), (show 0 ≤ ((PG_42 p0.toNatClampNeg).cf 47).toInt ∧ ((PG_42 p0.toNatClampNeg).cf 47).toInt ≤ 1 from by first | with_reducible rfl | with_reducible assumption | omega)⟩, (show 0 ≤ x42_3.toInt ∧ x42_3.toInt ≤ 512 from by first | with_reducible rfl | with_reducible assumption | omega), (fun q8 => absurd (show (0 : Int) = 1 from q8) (by omega))⟩))
            exact px_iret (v := (-1)) S hr rfl hlk hAe hw (Nat.le_of_ble_eq_true rfl) (Nat.le_of_ble_eq_true rfl) (⟨(upd mf_42 2 0), PG6, rfl, (show PgA PG6 from hpg), (show PgS PG PG6 from hgs), (show (mf_42 10).toInt = (mf 10).toInt from by first | exact k42_2 | omega), (show 0 ≤ (0 : Int) from by first | decide | omega), (show (0 : Int) ≤ 2048 from by first | decide | omega), (show ((mf_42 0).toInt = 0 ∧ 0 ≤ p0.toInt ∧ p0.toInt < 8 ∧ (0 : Int) = 0 ∧ (((mf 2).toInt < 4 ∧ (-1 : Int) = -1) ∨ (4 ≤ (mf 2).toInt ∧ 4 * (-1 : Int) ≤ (mf 2).toInt ∧ (mf 2).toInt < 4 * (-1 : Int) + 4))) ∨ ((mf_42 0).toInt = 1 ∧ (p0.toInt < 0 ∨ 8 ≤ p0.toInt) ∧ (0 : Int) = (mf 2).toInt) from by omega)⟩) d_Mo_raw_163
          · have nc5 : ¬ x42_3.toInt ≤ (0 : Int) := mt (i_le (x := x42_3) (y := 0)).mpr c5
            refine lv_iload_n S.x S.b d_Mo_raw_158 rfl (lv_at hl 3 rfl) ?_
            refine lv_goto (tgt := 163) S.x S.b d_Mo_raw_159 (by decide) ?_
            have hw : pw D A s.heap _ _ [wd_Mo cs mo mr (fun _ => none) (upd mf_42 2 0) md (gMo PG_42 hq), fm 13 (fPr cs hq qr QO QF QA), fo 8 (fPg cs PG_42) p0.toNatClampNeg, wdP cs (PG_42 p0.toNatClampNeg).h (PG_42 p0.toNatClampNeg).r (PG_42 p0.toNatClampNeg).g (PG_42 p0.toNatClampNeg).tf (PG_42 p0.toNatClampNeg).ta (PG_42 p0.toNatClampNeg).pf (PG_42 p0.toNatClampNeg).na (PG_42 p0.toNatClampNeg).ma (PG_42 p0.toNatClampNeg).wa (PG_42 p0.toNatClampNeg).cf (PG_42 p0.toNatClampNeg).ca (PG_42 p0.toNatClampNeg).ef (PG_42 p0.toNatClampNeg).ea (upd (upd (PG_42 p0.toNatClampNeg).xf 66 0) 68 x42_3) (PG_42 p0.toNatClampNeg).xa] := (by have q8 := hw; rw [show (PG p0.toNatClampNeg).h = (PG_42 p0.toNatClampNeg).h from (hgs p0.toNatClampNeg).1.symm] at q8; exact q8)
            have hgs0 := hgs
            have hw := fpg_in (pr := [wd_Mo cs mo mr (fun _ => none) (upd mf_42 2 0) md (gMo PG_42 hq), fm 13 (fPr cs hq qr QO QF QA)]) hw hj2
            obtain ⟨PG7, hu_PG7⟩ : ∃ y : Nat → Pgs, y = va_up PG_42 p0.toNatClampNeg ⟨(PG_42 p0.toNatClampNeg).h, (PG_42 p0.toNatClampNeg).r, (PG_42 p0.toNatClampNeg).g, (PG_42 p0.toNatClampNeg).tf, (PG_42 p0.toNatClampNeg).ta, (PG_42 p0.toNatClampNeg).pf, (PG_42 p0.toNatClampNeg).na, (PG_42 p0.toNatClampNeg).ma, (PG_42 p0.toNatClampNeg).wa, (PG_42 p0.toNatClampNeg).cf, (PG_42 p0.toNatClampNeg).ca, (PG_42 p0.toNatClampNeg).ef, (PG_42 p0.toNatClampNeg).ea, (upd (upd (PG_42 p0.toNatClampNeg).xf 66 0) 68 x42_3), (PG_42 p0.toNatClampNeg).xa⟩ := ⟨_, rfl⟩
            have hgs : PgS PG_42 PG7 := (by rw [hu_PG7]; exact pgs_up rfl rfl rfl)
            have hw : pw D A s.heap _ _ [wd_Mo cs mo mr (fun _ => none) (upd mf_42 2 0) md (gMo PG_42 hq), fm 13 (fPr cs hq qr QO QF QA), fm 8 (fPg cs PG7)] := (by rw [hu_PG7]; exact hw)
            have hw : pw D A s.heap _ _ [wd_Mo cs mo mr (fun _ => none) (upd mf_42 2 0) md (gMo PG7 hq), fm 13 (fPr cs hq qr QO QF QA), fm 8 (fPg cs PG7)] := (by have q8 := hw; rw [gmo_up (hq := hq) hgs] at q8; exact q8)
            have hgs : PgS PG PG7 := hgs0.tr hgs
            have hpg : PgA PG7 := (by rw [hu_PG7]; exact PgA.up hpg (show PgO _ from ⟨⟨(show 0 ≤ (0 : Int) ∧ (0 : Int) ≤ 2 from by first | with_reducible rfl | with_reducible assumption | omega), (show 0 ≤ ((PG_42 p0.toNatClampNeg).cf 46).toInt ∧ ((PG_42 p0.toNatClampNeg).cf 46).toInt ≤ 1 from by first | with_reducible rfl | with_reducible assumption | omega), (show 0 ≤ ((PG_42 p0.toNatClampNeg).cf 47).toInt ∧ ((PG_42 p0.toNatClampNeg).cf 47).toInt ≤ 1 from by first | with_reducible rfl | with_reducible assumption | omega)⟩, (show 0 ≤ x42_3.toInt ∧ x42_3.toInt ≤ 512 from by first | with_reducible rfl | with_reducible assumption | omega), (fun q8 => absurd (show (0 : Int) = 1 from q8) (by omega))⟩))
            exact px_iret (v := x42_3) S hr rfl hlk hAe hw (Nat.le_of_ble_eq_true rfl) (Nat.le_of_ble_eq_true rfl) (⟨(upd mf_42 2 0), PG7, rfl, (show PgA PG7 from hpg), (show PgS PG PG7 from hgs), (show (mf_42 10).toInt = (mf 10).toInt from by first | exact k42_2 | omega), (show 0 ≤ (0 : Int) from by first | decide | omega), (show (0 : Int) ≤ 2048 from by first | decide | omega), (show ((mf_42 0).toInt = 0 ∧ 0 ≤ p0.toInt ∧ p0.toInt < 8 ∧ (0 : Int) = 0 ∧ (((mf 2).toInt < 4 ∧ x42_3.toInt = -1) ∨ (4 ≤ (mf 2).toInt ∧ 4 * x42_3.toInt ≤ (mf 2).toInt ∧ (mf 2).toInt < 4 * x42_3.toInt + 4))) ∨ ((mf_42 0).toInt = 1 ∧ (p0.toInt < 0 ∨ 8 ≤ p0.toInt) ∧ (0 : Int) = (mf 2).toInt) from by omega)⟩) d_Mo_raw_163
        · have nc4 : ¬ x42_3.toInt ≤ (0 : Int) := mt (i_le (x := x42_3) (y := 0)).mpr c4
          refine lv_iconst (v := 2) S.x S.b d_Mo_raw_141 (by decide) ?_
          refine lv_goto (tgt := 146) S.x S.b d_Mo_raw_142 (by decide) ?_
          refine px_put S k_Mpg hT hw 3 0 66 rfl rfl (by decide) m10_67 rfl rfl rfl (Nat.le_of_ble_eq_true rfl) d_Mo_raw_146 (w' := wdP cs (PG p0.toNatClampNeg).h (PG_42 p0.toNatClampNeg).r (PG_42 p0.toNatClampNeg).g (PG_42 p0.toNatClampNeg).tf (PG_42 p0.toNatClampNeg).ta (PG_42 p0.toNatClampNeg).pf (PG_42 p0.toNatClampNeg).na (PG_42 p0.toNatClampNeg).ma (PG_42 p0.toNatClampNeg).wa (PG_42 p0.toNatClampNeg).cf (PG_42 p0.toNatClampNeg).ca (PG_42 p0.toNatClampNeg).ef (PG_42 p0.toNatClampNeg).ea (upd (upd (PG_42 p0.toNatClampNeg).xf 66 2) 68 x42_3) (PG_42 p0.toNatClampNeg).xa) (ps' := [wd_Mo cs mo mr (fun _ => none) mf_42 md (gMo PG_42 hq), fm 13 (fPr cs hq qr QO QF QA), fo 8 (fPg cs PG_42) p0.toNatClampNeg, wdP cs (PG p0.toNatClampNeg).h (PG_42 p0.toNatClampNeg).r (PG_42 p0.toNatClampNeg).g (PG_42 p0.toNatClampNeg).tf (PG_42 p0.toNatClampNeg).ta (PG_42 p0.toNatClampNeg).pf (PG_42 p0.toNatClampNeg).na (PG_42 p0.toNatClampNeg).ma (PG_42 p0.toNatClampNeg).wa (PG_42 p0.toNatClampNeg).cf (PG_42 p0.toNatClampNeg).ca (PG_42 p0.toNatClampNeg).ef (PG_42 p0.toNatClampNeg).ea (upd (upd (PG_42 p0.toNatClampNeg).xf 66 2) 68 x42_3) (PG_42 p0.toNatClampNeg).xa]) rfl rfl (fun H locs hw => ?_)
          refine lv_aload_n S.x S.b d_Mo_raw_149 rfl (lv_at hl 0 rfl) ?_
          refine lv_iconst (v := 0) S.x S.b d_Mo_raw_150 (by decide) ?_
          refine px_put S k_Mo hT hw 0 0 2 rfl rfl (by decide) m11_80 rfl rfl rfl (Nat.le_of_ble_eq_true rfl) d_Mo_raw_151 (w' := wd_Mo cs mo mr (fun _ => none) (upd mf_42 2 0) md (gMo PG_42 hq)) (ps' := [wd_Mo cs mo mr (fun _ => none) (upd mf_42 2 0) md (gMo PG_42 hq), fm 13 (fPr cs hq qr QO QF QA), fo 8 (fPg cs PG_42) p0.toNatClampNeg, wdP cs (PG p0.toNatClampNeg).h (PG_42 p0.toNatClampNeg).r (PG_42 p0.toNatClampNeg).g (PG_42 p0.toNatClampNeg).tf (PG_42 p0.toNatClampNeg).ta (PG_42 p0.toNatClampNeg).pf (PG_42 p0.toNatClampNeg).na (PG_42 p0.toNatClampNeg).ma (PG_42 p0.toNatClampNeg).wa (PG_42 p0.toNatClampNeg).cf (PG_42 p0.toNatClampNeg).ca (PG_42 p0.toNatClampNeg).ef (PG_42 p0.toNatClampNeg).ea (upd (upd (PG_42 p0.toNatClampNeg).xf 66 2) 68 x42_3) (PG_42 p0.toNatClampNeg).xa]) rfl rfl (fun H locs hw => ?_)
          refine lv_iload_n S.x S.b d_Mo_raw_154 rfl (lv_at hl 3 rfl) ?_
          refine lv_if_le (tgt := 162) S.x S.b d_Mo_raw_155 (by decide) (fun c8 => ?_) (fun c8 => ?_)
          · have nc8 : x42_3.toInt ≤ (0 : Int) := (i_le (x := x42_3) (y := 0)).mp c8
            refine lv_iconst (v := (-1)) S.x S.b d_Mo_raw_162 (by decide) ?_
            have hw : pw D A s.heap _ _ [wd_Mo cs mo mr (fun _ => none) (upd mf_42 2 0) md (gMo PG_42 hq), fm 13 (fPr cs hq qr QO QF QA), fo 8 (fPg cs PG_42) p0.toNatClampNeg, wdP cs (PG_42 p0.toNatClampNeg).h (PG_42 p0.toNatClampNeg).r (PG_42 p0.toNatClampNeg).g (PG_42 p0.toNatClampNeg).tf (PG_42 p0.toNatClampNeg).ta (PG_42 p0.toNatClampNeg).pf (PG_42 p0.toNatClampNeg).na (PG_42 p0.toNatClampNeg).ma (PG_42 p0.toNatClampNeg).wa (PG_42 p0.toNatClampNeg).cf (PG_42 p0.toNatClampNeg).ca (PG_42 p0.toNatClampNeg).ef (PG_42 p0.toNatClampNeg).ea (upd (upd (PG_42 p0.toNatClampNeg).xf 66 2) 68 x42_3) (PG_42 p0.toNatClampNeg).xa] := (by have q8 := hw; rw [show (PG p0.toNatClampNeg).h = (PG_42 p0.toNatClampNeg).h from (hgs p0.toNatClampNeg).1.symm] at q8; exact q8)
            have hgs0 := hgs
            have hw := fpg_in (pr := [wd_Mo cs mo mr (fun _ => none) (upd mf_42 2 0) md (gMo PG_42 hq), fm 13 (fPr cs hq qr QO QF QA)]) hw hj2
            obtain ⟨PG9, hu_PG9⟩ : ∃ y : Nat → Pgs, y = va_up PG_42 p0.toNatClampNeg ⟨(PG_42 p0.toNatClampNeg).h, (PG_42 p0.toNatClampNeg).r, (PG_42 p0.toNatClampNeg).g, (PG_42 p0.toNatClampNeg).tf, (PG_42 p0.toNatClampNeg).ta, (PG_42 p0.toNatClampNeg).pf, (PG_42 p0.toNatClampNeg).na, (PG_42 p0.toNatClampNeg).ma, (PG_42 p0.toNatClampNeg).wa, (PG_42 p0.toNatClampNeg).cf, (PG_42 p0.toNatClampNeg).ca, (PG_42 p0.toNatClampNeg).ef, (PG_42 p0.toNatClampNeg).ea, (upd (upd (PG_42 p0.toNatClampNeg).xf 66 2) 68 x42_3), (PG_42 p0.toNatClampNeg).xa⟩ := ⟨_, rfl⟩
            have hgs : PgS PG_42 PG9 := (by rw [hu_PG9]; exact pgs_up rfl rfl rfl)
            have hw : pw D A s.heap _ _ [wd_Mo cs mo mr (fun _ => none) (upd mf_42 2 0) md (gMo PG_42 hq), fm 13 (fPr cs hq qr QO QF QA), fm 8 (fPg cs PG9)] := (by rw [hu_PG9]; exact hw)
            have hw : pw D A s.heap _ _ [wd_Mo cs mo mr (fun _ => none) (upd mf_42 2 0) md (gMo PG9 hq), fm 13 (fPr cs hq qr QO QF QA), fm 8 (fPg cs PG9)] := (by have q8 := hw; rw [gmo_up (hq := hq) hgs] at q8; exact q8)
            have hgs : PgS PG PG9 := hgs0.tr hgs
            have hpg : PgA PG9 := (by rw [hu_PG9]; exact PgA.up hpg (show PgO _ from ⟨⟨(show 0 ≤ (2 : Int) ∧ (2 : Int) ≤ 2 from by first | with_reducible rfl | with_reducible assumption | omega), (show 0 ≤ ((PG_42 p0.toNatClampNeg).cf 46).toInt ∧ ((PG_42 p0.toNatClampNeg).cf 46).toInt ≤ 1 from by first | with_reducible rfl | with_reducible assumption | omega), (show 0 ≤ ((PG_42 p0.toNatClampNeg).cf 47).toInt ∧ ((PG_42 p0.toNatClampNeg).cf 47).toInt ≤ 1 from by first | with_reducible rfl | with_reducible assumption | omega)⟩, (show 0 ≤ x42_3.toInt ∧ x42_3.toInt ≤ 512 from by first | with_reducible rfl | with_reducible assumption | omega), (fun q8 => absurd (show (2 : Int) = 1 from q8) (by omega))⟩))
            exact px_iret (v := (-1)) S hr rfl hlk hAe hw (Nat.le_of_ble_eq_true rfl) (Nat.le_of_ble_eq_true rfl) (⟨(upd mf_42 2 0), PG9, rfl, (show PgA PG9 from hpg), (show PgS PG PG9 from hgs), (show (mf_42 10).toInt = (mf 10).toInt from by first | exact k42_2 | omega), (show 0 ≤ (0 : Int) from by first | decide | omega), (show (0 : Int) ≤ 2048 from by first | decide | omega), (show ((mf_42 0).toInt = 0 ∧ 0 ≤ p0.toInt ∧ p0.toInt < 8 ∧ (0 : Int) = 0 ∧ (((mf 2).toInt < 4 ∧ (-1 : Int) = -1) ∨ (4 ≤ (mf 2).toInt ∧ 4 * (-1 : Int) ≤ (mf 2).toInt ∧ (mf 2).toInt < 4 * (-1 : Int) + 4))) ∨ ((mf_42 0).toInt = 1 ∧ (p0.toInt < 0 ∨ 8 ≤ p0.toInt) ∧ (0 : Int) = (mf 2).toInt) from by omega)⟩) d_Mo_raw_163
          · have nc8 : ¬ x42_3.toInt ≤ (0 : Int) := mt (i_le (x := x42_3) (y := 0)).mpr c8
            refine lv_iload_n S.x S.b d_Mo_raw_158 rfl (lv_at hl 3 rfl) ?_
            refine lv_goto (tgt := 163) S.x S.b d_Mo_raw_159 (by decide) ?_
            have hw : pw D A s.heap _ _ [wd_Mo cs mo mr (fun _ => none) (upd mf_42 2 0) md (gMo PG_42 hq), fm 13 (fPr cs hq qr QO QF QA), fo 8 (fPg cs PG_42) p0.toNatClampNeg, wdP cs (PG_42 p0.toNatClampNeg).h (PG_42 p0.toNatClampNeg).r (PG_42 p0.toNatClampNeg).g (PG_42 p0.toNatClampNeg).tf (PG_42 p0.toNatClampNeg).ta (PG_42 p0.toNatClampNeg).pf (PG_42 p0.toNatClampNeg).na (PG_42 p0.toNatClampNeg).ma (PG_42 p0.toNatClampNeg).wa (PG_42 p0.toNatClampNeg).cf (PG_42 p0.toNatClampNeg).ca (PG_42 p0.toNatClampNeg).ef (PG_42 p0.toNatClampNeg).ea (upd (upd (PG_42 p0.toNatClampNeg).xf 66 2) 68 x42_3) (PG_42 p0.toNatClampNeg).xa] := (by have q8 := hw; rw [show (PG p0.toNatClampNeg).h = (PG_42 p0.toNatClampNeg).h from (hgs p0.toNatClampNeg).1.symm] at q8; exact q8)
            have hgs0 := hgs
            have hw := fpg_in (pr := [wd_Mo cs mo mr (fun _ => none) (upd mf_42 2 0) md (gMo PG_42 hq), fm 13 (fPr cs hq qr QO QF QA)]) hw hj2
            obtain ⟨PG10, hu_PG10⟩ : ∃ y : Nat → Pgs, y = va_up PG_42 p0.toNatClampNeg ⟨(PG_42 p0.toNatClampNeg).h, (PG_42 p0.toNatClampNeg).r, (PG_42 p0.toNatClampNeg).g, (PG_42 p0.toNatClampNeg).tf, (PG_42 p0.toNatClampNeg).ta, (PG_42 p0.toNatClampNeg).pf, (PG_42 p0.toNatClampNeg).na, (PG_42 p0.toNatClampNeg).ma, (PG_42 p0.toNatClampNeg).wa, (PG_42 p0.toNatClampNeg).cf, (PG_42 p0.toNatClampNeg).ca, (PG_42 p0.toNatClampNeg).ef, (PG_42 p0.toNatClampNeg).ea, (upd (upd (PG_42 p0.toNatClampNeg).xf 66 2) 68 x42_3), (PG_42 p0.toNatClampNeg).xa⟩ := ⟨_, rfl⟩
            have hgs : PgS PG_42 PG10 := (by rw [hu_PG10]; exact pgs_up rfl rfl rfl)
            have hw : pw D A s.heap _ _ [wd_Mo cs mo mr (fun _ => none) (upd mf_42 2 0) md (gMo PG_42 hq), fm 13 (fPr cs hq qr QO QF QA), fm 8 (fPg cs PG10)] := (by rw [hu_PG10]; exact hw)
            have hw : pw D A s.heap _ _ [wd_Mo cs mo mr (fun _ => none) (upd mf_42 2 0) md (gMo PG10 hq), fm 13 (fPr cs hq qr QO QF QA), fm 8 (fPg cs PG10)] := (by have q8 := hw; rw [gmo_up (hq := hq) hgs] at q8; exact q8)
            have hgs : PgS PG PG10 := hgs0.tr hgs
            have hpg : PgA PG10 := (by rw [hu_PG10]; exact PgA.up hpg (show PgO _ from ⟨⟨(show 0 ≤ (2 : Int) ∧ (2 : Int) ≤ 2 from by first | with_reducible rfl | with_reducible assumption | omega), (show 0 ≤ ((PG_42 p0.toNatClampNeg).cf 46).toInt ∧ ((PG_42 p0.toNatClampNeg).cf 46).toInt ≤ 1 from by first | with_reducible rfl | with_reducible assumption | omega), (show 0 ≤ ((PG_42 p0.toNatClampNeg).cf 47).toInt ∧ ((PG_42 p0.toNatClampNeg).cf 47).toInt ≤ 1 from by first | with_reducible rfl | with_reducible assumption | omega)⟩, (show 0 ≤ x42_3.toInt ∧ x42_3.toInt ≤ 512 from by first | with_reducible rfl | with_reducible assumption | omega), (fun q8 => absurd (show (2 : Int) = 1 from q8) (by omega))⟩))
            exact px_iret (v := x42_3) S hr rfl hlk hAe hw (Nat.le_of_ble_eq_true rfl) (Nat.le_of_ble_eq_true rfl) (⟨(upd mf_42 2 0), PG10, rfl, (show PgA PG10 from hpg), (show PgS PG PG10 from hgs), (show (mf_42 10).toInt = (mf 10).toInt from by first | exact k42_2 | omega), (show 0 ≤ (0 : Int) from by first | decide | omega), (show (0 : Int) ≤ 2048 from by first | decide | omega), (show ((mf_42 0).toInt = 0 ∧ 0 ≤ p0.toInt ∧ p0.toInt < 8 ∧ (0 : Int) = 0 ∧ (((mf 2).toInt < 4 ∧ x42_3.toInt = -1) ∨ (4 ≤ (mf 2).toInt ∧ 4 * x42_3.toInt ≤ (mf 2).toInt ∧ (mf 2).toInt < 4 * x42_3.toInt + 4))) ∨ ((mf_42 0).toInt = 1 ∧ (p0.toInt < 0 ∨ 8 ≤ p0.toInt) ∧ (0 : Int) = (mf 2).toInt) from by omega)⟩) d_Mo_raw_163
      · have nc1 : ¬ x42_3.toInt ≤ x42_4.toInt := mt (i_le (x := x42_3) (y := x42_4)).mpr c1
        refine lv_aload_n S.x S.b d_Mo_raw_48 rfl (lv_at hl 2 rfl) ?_
        have hc11 := cl_nat (x := p0) (by first | exact k42_4 | omega)
        have hj11 : p0.toNatClampNeg < 8 := by first | exact oz_988ece23c5 hc11 k42_5 | omega
        have hw : pw D A s.heap _ _ [wd_Mo cs mo mr (fun _ => none) mf_42 md (gMo PG_42 hq), fm 13 (fPr cs hq qr QO QF QA), fo 8 (fPg cs PG_42) p0.toNatClampNeg, wdP cs (PG_42 p0.toNatClampNeg).h (PG_42 p0.toNatClampNeg).r (PG_42 p0.toNatClampNeg).g (PG_42 p0.toNatClampNeg).tf (PG_42 p0.toNatClampNeg).ta (PG_42 p0.toNatClampNeg).pf (PG_42 p0.toNatClampNeg).na (PG_42 p0.toNatClampNeg).ma (PG_42 p0.toNatClampNeg).wa (PG_42 p0.toNatClampNeg).cf (PG_42 p0.toNatClampNeg).ca (PG_42 p0.toNatClampNeg).ef (PG_42 p0.toNatClampNeg).ea (PG_42 p0.toNatClampNeg).xf (PG_42 p0.toNatClampNeg).xa] := fm_out (pr := [wd_Mo cs mo mr (fun _ => none) mf_42 md (gMo PG_42 hq), fm 13 (fPr cs hq qr QO QF QA)]) (T := fPg cs PG_42) hw hj11
        have hpo12 := hpg p0.toNatClampNeg hj11
        have hp112 := hpo12.1
        have hp212 := hpo12.2.1
        have hw : pw D A s.heap _ _ [wd_Mo cs mo mr (fun _ => none) mf_42 md (gMo PG_42 hq), fm 13 (fPr cs hq qr QO QF QA), fo 8 (fPg cs PG_42) p0.toNatClampNeg, wdP cs (PG p0.toNatClampNeg).h (PG_42 p0.toNatClampNeg).r (PG_42 p0.toNatClampNeg).g (PG_42 p0.toNatClampNeg).tf (PG_42 p0.toNatClampNeg).ta (PG_42 p0.toNatClampNeg).pf (PG_42 p0.toNatClampNeg).na (PG_42 p0.toNatClampNeg).ma (PG_42 p0.toNatClampNeg).wa (PG_42 p0.toNatClampNeg).cf (PG_42 p0.toNatClampNeg).ca (PG_42 p0.toNatClampNeg).ef (PG_42 p0.toNatClampNeg).ea (PG_42 p0.toNatClampNeg).xf (PG_42 p0.toNatClampNeg).xa] := (by have q8 := hw; rw [show (PG_42 p0.toNatClampNeg).h = (PG p0.toNatClampNeg).h from (hgs p0.toNatClampNeg).1] at q8; exact q8)
        refine px_get S k_Mpg hT hw 3 0 67 (v := .ref ((PG_42 p0.toNatClampNeg).r 67)) rfl rfl rfl (by decide) m10_70 d_Mo_raw_49 ?_
        refine lv_iload S.x S.b d_Mo_raw_52 (lv_at hl 4 rfl) ?_
        refine lv_aload_n S.x S.b d_Mo_raw_54 rfl (lv_at hl 0 rfl) ?_
        refine px_get S k_Mo hT hw 0 0 1 (v := .ref (mr 1)) rfl rfl rfl (by decide) m11_79 d_Mo_raw_55 ?_
        refine lv_iconst (v := 4) S.x S.b d_Mo_raw_58 (by decide) ?_
        refine lv_iload S.x S.b d_Mo_raw_59 (lv_at hl 4 rfl) ?_
        refine lv_imul S.x S.b d_Mo_raw_61 ?_
        refine lv_topi (fun z13 ez13 => ?_)
        have lz13 := Int32.le_toInt z13
        have uz13 := Int32.toInt_lt z13
        have tz13 : -2147483648 ≤ 4 * x42_4.toInt → 4 * x42_4.toInt < 2147483648 → z13.toInt = 4 * x42_4.toInt := by rw [ez13]; exact i_mulc 4 x42_4 (by decide)
        try replace tz13 : z13.toInt = 4 * x42_4.toInt := by omega
        refine px_bald S hT hw 0 1 (n := 2048) (f := (md 1)) rfl (ga_Mo_1 _ _ _ _ _ _ _) (x := z13) (vp_in_iff.mpr (by first | exact oz_8aa2f97af7 tz13 k42_6 nc1 k42_8 g1 | (constructor <;> omega))) d_Mo_raw_62 ?_
        refine lv_topi (fun z14 ez14 => ?_)
        have lz14 := Int32.le_toInt z14
        have uz14 := Int32.toInt_lt z14
        refine lv_sipush (v := 255) S.x S.b d_Mo_raw_63 (by decide) ?_
        refine lv_iand S.x S.b d_Mo_raw_66 ?_
        refine lv_topi (fun z15 ez15 => ?_)
        have lz15 := Int32.le_toInt z15
        have uz15 := Int32.toInt_lt z15
        have bz15 := i_andm z14 (m := 255) 8 (by decide) (by decide)
        rw [← ez15] at bz15
        have wz15 : 0 ≤ z15.toInt ∧ z15.toInt ≤ 255 := by simp only [Nat.reducePow, Int.reducePow] at bz15; omega
        refine lv_aload_n S.x S.b d_Mo_raw_67 rfl (lv_at hl 0 rfl) ?_
        refine px_get S k_Mo hT hw 0 0 1 (v := .ref (mr 1)) rfl rfl rfl (by decide) m11_79 d_Mo_raw_68 ?_
        refine lv_iconst (v := 4) S.x S.b d_Mo_raw_71 (by decide) ?_
        refine lv_iload S.x S.b d_Mo_raw_72 (lv_at hl 4 rfl) ?_
        refine lv_imul S.x S.b d_Mo_raw_74 ?_
        refine lv_topi (fun z16 ez16 => ?_)
        have lz16 := Int32.le_toInt z16
        have uz16 := Int32.toInt_lt z16
        have tz16 : -2147483648 ≤ 4 * x42_4.toInt → 4 * x42_4.toInt < 2147483648 → z16.toInt = 4 * x42_4.toInt := by rw [ez16]; exact i_mulc 4 x42_4 (by decide)
        try replace tz16 : z16.toInt = 4 * x42_4.toInt := by omega
        refine lv_iconst (v := 1) S.x S.b d_Mo_raw_75 (by decide) ?_
        refine lv_iadd S.x S.b d_Mo_raw_76 ?_
        refine lv_topi (fun z17 ez17 => ?_)
        have tz17 : z17.toInt = (z16.toInt + (1 : Int) + 2147483648) % 4294967296 - 2147483648 := by rw [ez17]; exact i_add z16 1
        have lz17 := Int32.le_toInt z17
        have uz17 := Int32.toInt_lt z17
        try replace tz17 : z17.toInt = z16.toInt + (1 : Int) := by omega
        refine px_bald S hT hw 0 1 (n := 2048) (f := (md 1)) rfl (ga_Mo_1 _ _ _ _ _ _ _) (x := z17) (vp_in_iff.mpr (by first | exact oz_accf9ba773 tz17 tz16 k42_6 nc1 k42_9 | (constructor <;> omega))) d_Mo_raw_77 ?_
        refine lv_topi (fun z18 ez18 => ?_)
        have lz18 := Int32.le_toInt z18
        have uz18 := Int32.toInt_lt z18
        refine lv_sipush (v := 255) S.x S.b d_Mo_raw_78 (by decide) ?_
        refine lv_iand S.x S.b d_Mo_raw_81 ?_
        refine lv_topi (fun z19 ez19 => ?_)
        have lz19 := Int32.le_toInt z19
        have uz19 := Int32.toInt_lt z19
        have bz19 := i_andm z18 (m := 255) 8 (by decide) (by decide)
        rw [← ez19] at bz19
        have wz19 : 0 ≤ z19.toInt ∧ z19.toInt ≤ 255 := by simp only [Nat.reducePow, Int.reducePow] at bz19; omega
        refine lv_bipush (v := 8) S.x S.b d_Mo_raw_82 (by decide) ?_
        refine lv_ishl S.x S.b d_Mo_raw_84 ?_
        refine lv_topi (fun z20 ez20 => ?_)
        have lz20 := Int32.le_toInt z20
        have uz20 := Int32.toInt_lt z20
        have tz20 : 0 ≤ z19.toInt → z19.toInt * 256 < 2147483648 → z20.toInt = z19.toInt * 256 := by rw [ez20]; exact i_shl z19 8 (k := 8) (d := 256) (by decide) (by decide)
        refine lv_ior S.x S.b d_Mo_raw_85 ?_
        refine lv_topi (fun z21 ez21 => ?_)
        have lz21 := Int32.le_toInt z21
        have uz21 := Int32.toInt_lt z21
        refine lv_aload_n S.x S.b d_Mo_raw_86 rfl (lv_at hl 0 rfl) ?_
        refine px_get S k_Mo hT hw 0 0 1 (v := .ref (mr 1)) rfl rfl rfl (by decide) m11_79 d_Mo_raw_87 ?_
        refine lv_iconst (v := 4) S.x S.b d_Mo_raw_90 (by decide) ?_
        refine lv_iload S.x S.b d_Mo_raw_91 (lv_at hl 4 rfl) ?_
        refine lv_imul S.x S.b d_Mo_raw_93 ?_
        refine lv_topi (fun z22 ez22 => ?_)
        have lz22 := Int32.le_toInt z22
        have uz22 := Int32.toInt_lt z22
        have tz22 : -2147483648 ≤ 4 * x42_4.toInt → 4 * x42_4.toInt < 2147483648 → z22.toInt = 4 * x42_4.toInt := by rw [ez22]; exact i_mulc 4 x42_4 (by decide)
        try replace tz22 : z22.toInt = 4 * x42_4.toInt := by omega
        refine lv_iconst (v := 2) S.x S.b d_Mo_raw_94 (by decide) ?_
        refine lv_iadd S.x S.b d_Mo_raw_95 ?_
        refine lv_topi (fun z23 ez23 => ?_)
        have tz23 : z23.toInt = (z22.toInt + (2 : Int) + 2147483648) % 4294967296 - 2147483648 := by rw [ez23]; exact i_add z22 2
        have lz23 := Int32.le_toInt z23
        have uz23 := Int32.toInt_lt z23
        try replace tz23 : z23.toInt = z22.toInt + (2 : Int) := by omega
        refine px_bald S hT hw 0 1 (n := 2048) (f := (md 1)) rfl (ga_Mo_1 _ _ _ _ _ _ _) (x := z23) (vp_in_iff.mpr (by first | exact oz_a9d6d3164f tz23 tz22 k42_6 nc1 k42_9 | (constructor <;> omega))) d_Mo_raw_96 ?_
        refine lv_topi (fun z24 ez24 => ?_)
        have lz24 := Int32.le_toInt z24
        have uz24 := Int32.toInt_lt z24
        refine lv_sipush (v := 255) S.x S.b d_Mo_raw_97 (by decide) ?_
        refine lv_iand S.x S.b d_Mo_raw_100 ?_
        refine lv_topi (fun z25 ez25 => ?_)
        have lz25 := Int32.le_toInt z25
        have uz25 := Int32.toInt_lt z25
        have bz25 := i_andm z24 (m := 255) 8 (by decide) (by decide)
        rw [← ez25] at bz25
        have wz25 : 0 ≤ z25.toInt ∧ z25.toInt ≤ 255 := by simp only [Nat.reducePow, Int.reducePow] at bz25; omega
        refine lv_bipush (v := 16) S.x S.b d_Mo_raw_101 (by decide) ?_
        refine lv_ishl S.x S.b d_Mo_raw_103 ?_
        refine lv_topi (fun z26 ez26 => ?_)
        have lz26 := Int32.le_toInt z26
        have uz26 := Int32.toInt_lt z26
        have tz26 : 0 ≤ z25.toInt → z25.toInt * 65536 < 2147483648 → z26.toInt = z25.toInt * 65536 := by rw [ez26]; exact i_shl z25 16 (k := 16) (d := 65536) (by decide) (by decide)
        refine lv_ior S.x S.b d_Mo_raw_104 ?_
        refine lv_topi (fun z27 ez27 => ?_)
        have lz27 := Int32.le_toInt z27
        have uz27 := Int32.toInt_lt z27
        refine lv_aload_n S.x S.b d_Mo_raw_105 rfl (lv_at hl 0 rfl) ?_
        refine px_get S k_Mo hT hw 0 0 1 (v := .ref (mr 1)) rfl rfl rfl (by decide) m11_79 d_Mo_raw_106 ?_
        refine lv_iconst (v := 4) S.x S.b d_Mo_raw_109 (by decide) ?_
        refine lv_iload S.x S.b d_Mo_raw_110 (lv_at hl 4 rfl) ?_
        refine lv_imul S.x S.b d_Mo_raw_112 ?_
        refine lv_topi (fun z28 ez28 => ?_)
        have lz28 := Int32.le_toInt z28
        have uz28 := Int32.toInt_lt z28
        have tz28 : -2147483648 ≤ 4 * x42_4.toInt → 4 * x42_4.toInt < 2147483648 → z28.toInt = 4 * x42_4.toInt := by rw [ez28]; exact i_mulc 4 x42_4 (by decide)
        try replace tz28 : z28.toInt = 4 * x42_4.toInt := by omega
        refine lv_iconst (v := 3) S.x S.b d_Mo_raw_113 (by decide) ?_
        refine lv_iadd S.x S.b d_Mo_raw_114 ?_
        refine lv_topi (fun z29 ez29 => ?_)
        have tz29 : z29.toInt = (z28.toInt + (3 : Int) + 2147483648) % 4294967296 - 2147483648 := by rw [ez29]; exact i_add z28 3
        have lz29 := Int32.le_toInt z29
        have uz29 := Int32.toInt_lt z29
        try replace tz29 : z29.toInt = z28.toInt + (3 : Int) := by omega
        refine px_bald S hT hw 0 1 (n := 2048) (f := (md 1)) rfl (ga_Mo_1 _ _ _ _ _ _ _) (x := z29) (vp_in_iff.mpr (by first | exact oz_8f70aa4df5 tz29 tz28 k42_6 nc1 k42_9 | (constructor <;> omega))) d_Mo_raw_115 ?_
        refine lv_topi (fun z30 ez30 => ?_)
        have lz30 := Int32.le_toInt z30
        have uz30 := Int32.toInt_lt z30
        refine lv_sipush (v := 255) S.x S.b d_Mo_raw_116 (by decide) ?_
        refine lv_iand S.x S.b d_Mo_raw_119 ?_
        refine lv_topi (fun z31 ez31 => ?_)
        have lz31 := Int32.le_toInt z31
        have uz31 := Int32.toInt_lt z31
        have bz31 := i_andm z30 (m := 255) 8 (by decide) (by decide)
        rw [← ez31] at bz31
        have wz31 : 0 ≤ z31.toInt ∧ z31.toInt ≤ 255 := by simp only [Nat.reducePow, Int.reducePow] at bz31; omega
        refine lv_bipush (v := 24) S.x S.b d_Mo_raw_120 (by decide) ?_
        refine lv_ishl S.x S.b d_Mo_raw_122 ?_
        refine lv_topi (fun z32 ez32 => ?_)
        have lz32 := Int32.le_toInt z32
        have uz32 := Int32.toInt_lt z32
        have tz32 : 0 ≤ z31.toInt → z31.toInt * 16777216 < 2147483648 → z32.toInt = z31.toInt * 16777216 := by rw [ez32]; exact i_shl z31 24 (k := 24) (d := 16777216) (by decide) (by decide)
        refine lv_ior S.x S.b d_Mo_raw_123 ?_
        refine lv_topi (fun z33 ez33 => ?_)
        have lz33 := Int32.le_toInt z33
        have uz33 := Int32.toInt_lt z33
        refine px_iast S hT hw 3 37 (n := 512) (f := ((PG_42 p0.toNatClampNeg).xa 67)) (x := x42_4) (y := z33) rfl gp_67 (vp_in_iff.mpr (by constructor <;> omega)) d_Mo_raw_124 (w' := wdP cs (PG p0.toNatClampNeg).h (PG_42 p0.toNatClampNeg).r (PG_42 p0.toNatClampNeg).g (PG_42 p0.toNatClampNeg).tf (PG_42 p0.toNatClampNeg).ta (PG_42 p0.toNatClampNeg).pf (PG_42 p0.toNatClampNeg).na (PG_42 p0.toNatClampNeg).ma (PG_42 p0.toNatClampNeg).wa (PG_42 p0.toNatClampNeg).cf (PG_42 p0.toNatClampNeg).ca (PG_42 p0.toNatClampNeg).ef (PG_42 p0.toNatClampNeg).ea (PG_42 p0.toNatClampNeg).xf (va_up (PG_42 p0.toNatClampNeg).xa 67 (upd ((PG_42 p0.toNatClampNeg).xa 67) x42_4.toNatClampNeg z33))) (ps' := [wd_Mo cs mo mr (fun _ => none) mf_42 md (gMo PG_42 hq), fm 13 (fPr cs hq qr QO QF QA), fo 8 (fPg cs PG_42) p0.toNatClampNeg, wdP cs (PG p0.toNatClampNeg).h (PG_42 p0.toNatClampNeg).r (PG_42 p0.toNatClampNeg).g (PG_42 p0.toNatClampNeg).tf (PG_42 p0.toNatClampNeg).ta (PG_42 p0.toNatClampNeg).pf (PG_42 p0.toNatClampNeg).na (PG_42 p0.toNatClampNeg).ma (PG_42 p0.toNatClampNeg).wa (PG_42 p0.toNatClampNeg).cf (PG_42 p0.toNatClampNeg).ca (PG_42 p0.toNatClampNeg).ef (PG_42 p0.toNatClampNeg).ea (PG_42 p0.toNatClampNeg).xf (va_up (PG_42 p0.toNatClampNeg).xa 67 (upd ((PG_42 p0.toNatClampNeg).xa 67) x42_4.toNatClampNeg z33))]) sp_67 rfl (fun H locs hw => ?_)
        obtain ⟨z34, ez34⟩ : ∃ y : Int32, y = x42_4 + 1 := ⟨_, rfl⟩
        have tz34 : z34.toInt = (x42_4.toInt + 1 + 2147483648) % 4294967296 - 2147483648 := by rw [ez34]; exact i_add x42_4 1
        have lz34 := Int32.le_toInt z34
        have uz34 := Int32.toInt_lt z34
        try replace tz34 : z34.toInt = x42_4.toInt + 1 := by omega
        refine lv_iinc (v := z34) (lv' := [(4, .int z34), (0, .ref mo), (1, .int p0), (2, .ref (PG p0.toNatClampNeg).h), (3, .int x42_3)]) S.x S.b d_Mo_raw_125 hl (k := 4) rfl (by rw [ez34]; rfl) (by decide) rfl (fun ls hl => ?_)
        refine lv_goto (tgt := 42) S.x S.b d_Mo_raw_128 (by decide) ?_
        have hw : pw D A s.heap _ _ [wd_Mo cs mo mr (fun _ => none) mf_42 md (gMo PG_42 hq), fm 13 (fPr cs hq qr QO QF QA), fo 8 (fPg cs PG_42) p0.toNatClampNeg, wdP cs (PG_42 p0.toNatClampNeg).h (PG_42 p0.toNatClampNeg).r (PG_42 p0.toNatClampNeg).g (PG_42 p0.toNatClampNeg).tf (PG_42 p0.toNatClampNeg).ta (PG_42 p0.toNatClampNeg).pf (PG_42 p0.toNatClampNeg).na (PG_42 p0.toNatClampNeg).ma (PG_42 p0.toNatClampNeg).wa (PG_42 p0.toNatClampNeg).cf (PG_42 p0.toNatClampNeg).ca (PG_42 p0.toNatClampNeg).ef (PG_42 p0.toNatClampNeg).ea (PG_42 p0.toNatClampNeg).xf (va_up (PG_42 p0.toNatClampNeg).xa 67 (upd ((PG_42 p0.toNatClampNeg).xa 67) x42_4.toNatClampNeg z33))] := (by have q8 := hw; rw [show (PG p0.toNatClampNeg).h = (PG_42 p0.toNatClampNeg).h from (hgs p0.toNatClampNeg).1.symm] at q8; exact q8)
        have hgs0 := hgs
        have hw := fpg_in (pr := [wd_Mo cs mo mr (fun _ => none) mf_42 md (gMo PG_42 hq), fm 13 (fPr cs hq qr QO QF QA)]) hw hj11
        obtain ⟨PG35, hu_PG35⟩ : ∃ y : Nat → Pgs, y = va_up PG_42 p0.toNatClampNeg ⟨(PG_42 p0.toNatClampNeg).h, (PG_42 p0.toNatClampNeg).r, (PG_42 p0.toNatClampNeg).g, (PG_42 p0.toNatClampNeg).tf, (PG_42 p0.toNatClampNeg).ta, (PG_42 p0.toNatClampNeg).pf, (PG_42 p0.toNatClampNeg).na, (PG_42 p0.toNatClampNeg).ma, (PG_42 p0.toNatClampNeg).wa, (PG_42 p0.toNatClampNeg).cf, (PG_42 p0.toNatClampNeg).ca, (PG_42 p0.toNatClampNeg).ef, (PG_42 p0.toNatClampNeg).ea, (PG_42 p0.toNatClampNeg).xf, (va_up (PG_42 p0.toNatClampNeg).xa 67 (upd ((PG_42 p0.toNatClampNeg).xa 67) x42_4.toNatClampNeg z33))⟩ := ⟨_, rfl⟩
        have hgs : PgS PG_42 PG35 := (by rw [hu_PG35]; exact pgs_up rfl rfl rfl)
        have hw : pw D A s.heap _ _ [wd_Mo cs mo mr (fun _ => none) mf_42 md (gMo PG_42 hq), fm 13 (fPr cs hq qr QO QF QA), fm 8 (fPg cs PG35)] := (by rw [hu_PG35]; exact hw)
        have hw : pw D A s.heap _ _ [wd_Mo cs mo mr (fun _ => none) mf_42 md (gMo PG35 hq), fm 13 (fPr cs hq qr QO QF QA), fm 8 (fPg cs PG35)] := (by have q8 := hw; rw [gmo_up (hq := hq) hgs] at q8; exact q8)
        have hgs : PgS PG PG35 := hgs0.tr hgs
        have hpg : PgA PG35 := (by rw [hu_PG35]; exact PgA.up hpg (show PgO _ from hpo12))
        exact ih42 mf_42 PG35 x42_3 z34 _ _ ls (show PgA PG35 from hpg) (show PgS PG PG35 from hgs) (show (mf_42 10).toInt = (mf 10).toInt from by first | exact k42_2 | omega) (show (mf_42 2).toInt = (mf 2).toInt from by first | exact k42_3 | omega) (show 0 ≤ p0.toInt from by first | exact k42_4 | omega) (show p0.toInt < 8 from by first | exact k42_5 | omega) (show 0 ≤ z34.toInt from by first | exact oz_ae613611c0 tz34 k42_6 | omega) (show z34.toInt ≤ x42_3.toInt from by first | exact oz_b1314744c8 nc1 tz34 | omega) (show 4 * x42_3.toInt ≤ (mf 2).toInt from by first | exact k42_8 | omega) (show x42_3.toInt ≤ 512 from by first | exact k42_9 | omega) (show (mf_42 0).toInt = 0 from by first | exact k42_10 | omega) (show (mf 2).toInt < 4 * x42_3.toInt + 4 from by first | exact k42_11 | omega) (show x42_3.toInt - z34.toInt < (n_42 : Int) from by first | exact oz_654393c63a hm tz34 | omega) hw (lv_sub hl [1, 2, 3, 4, 0] rfl)
  refine lv_aload_n S.x S.b d_Mo_raw_0 rfl (lv_at hl 0 rfl) ?_
  refine lv_iload_n S.x S.b d_Mo_raw_1 rfl (lv_at hl 1 rfl) ?_
  refine px_calli (pr := [wd_Mo cs mo mr (fun _ => none) mf md (gMo PG hq), fm 13 (fPr cs hq qr QO QF QA), fm 8 (fPg cs PG)]) (px_runS (As := [.int p0]) (rest := [.ref mo]) S (c_mo_isProg2 l D cs  p0   _) hT (pr := [wd_Mo cs mo mr (fun _ => none) mf md (gMo PG hq), fm 13 (fPr cs hq qr QO QF QA), fm 8 (fPg cs PG)]) (pcs := []) hw px_X.tt m11_126 m11_124 m11_125 m1_20 q_Mo_isProgram ⟨Nat.le_of_ble_eq_true rfl, Nat.le_of_ble_eq_true rfl⟩ hl.1 rfl (Nat.le_of_ble_eq_true rfl) d_Mo_raw_2 ⟨Nat.le_of_ble_eq_true rfl, Nat.le_of_ble_eq_true rfl⟩) hw hA (fun v37 p36 H locs hp36 hw => ?_)
  obtain ⟨rfl, e38, e39, e40⟩ := hp36
  replace e38 : 0 ≤ v37.toInt := e38
  replace e39 : v37.toInt ≤ 1 := e39
  replace e40 : (v37.toInt = 1 ∧ 0 ≤ p0.toInt ∧ p0.toInt < 8) ∨ (v37.toInt = 0 ∧ (p0.toInt < 0 ∨ 8 ≤ p0.toInt)) := e40
  replace hw : pw D A s.heap H locs [wd_Mo cs mo mr (fun _ => none) mf md (gMo PG hq), fm 13 (fPr cs hq qr QO QF QA), fm 8 (fPg cs PG)] := hw
  have lv37 := Int32.le_toInt v37
  have uv37 := Int32.toInt_lt v37
  refine lv_if_eq (tgt := 12) S.x S.b d_Mo_raw_5 (by decide) (fun c41 => ?_) (fun c41 => ?_)
  · have nc41 : v37.toInt = (0 : Int) := (i_eq (x := v37) (y := 0)).mp c41
    refine lv_iconst (v := 1) S.x S.b d_Mo_raw_12 (by decide) ?_
    refine px_put S k_Mo hT hw 0 0 0 rfl rfl (by decide) m11_78 rfl rfl rfl (Nat.le_of_ble_eq_true rfl) d_Mo_raw_13 (w' := wd_Mo cs mo mr (fun _ => none) (upd mf 0 1) md (gMo PG hq)) (ps' := [wd_Mo cs mo mr (fun _ => none) (upd mf 0 1) md (gMo PG hq), fm 13 (fPr cs hq qr QO QF QA), fm 8 (fPg cs PG)]) rfl rfl (fun H locs hw => ?_)
    refine lv_aload_n S.x S.b d_Mo_raw_16 rfl (lv_at hl 0 rfl) ?_
    refine px_get S k_Mo hT hw 0 0 0 (v := .int 1) rfl rfl rfl (by decide) m11_78 d_Mo_raw_17 ?_
    refine lv_if_le (tgt := 25) S.x S.b d_Mo_raw_20 (by decide) (fun c42 => ?_) (fun c42 => ?_)
    · exact absurd c42 (by decide)
    ·
      refine lv_iconst (v := 0) S.x S.b d_Mo_raw_23 (by decide) ?_
      exact px_iret (v := 0) S hr rfl hlk hAe hw (Nat.le_of_ble_eq_true rfl) (Nat.le_of_ble_eq_true rfl) (⟨(upd mf 0 1), PG, rfl, (show PgA PG from hpg), (show PgS PG PG from PgS.rf), (show (mf 10).toInt = (mf 10).toInt from rfl), (show 0 ≤ (mf 2).toInt from by first | exact g0 | omega), (show (mf 2).toInt ≤ 2048 from by first | exact g1 | omega), (show ((1 : Int) = 0 ∧ 0 ≤ p0.toInt ∧ p0.toInt < 8 ∧ (mf 2).toInt = 0 ∧ (((mf 2).toInt < 4 ∧ (0 : Int) = -1) ∨ (4 ≤ (mf 2).toInt ∧ 4 * (0 : Int) ≤ (mf 2).toInt ∧ (mf 2).toInt < 4 * (0 : Int) + 4))) ∨ ((1 : Int) = 1 ∧ (p0.toInt < 0 ∨ 8 ≤ p0.toInt) ∧ (mf 2).toInt = (mf 2).toInt) from by omega)⟩) d_Mo_raw_24
  · have nc41 : ¬ v37.toInt = (0 : Int) := mt (i_eq (x := v37) (y := 0)).mpr c41
    refine lv_iconst (v := 0) S.x S.b d_Mo_raw_8 (by decide) ?_
    refine lv_goto (tgt := 13) S.x S.b d_Mo_raw_9 (by decide) ?_
    refine px_put S k_Mo hT hw 0 0 0 rfl rfl (by decide) m11_78 rfl rfl rfl (Nat.le_of_ble_eq_true rfl) d_Mo_raw_13 (w' := wd_Mo cs mo mr (fun _ => none) (upd mf 0 0) md (gMo PG hq)) (ps' := [wd_Mo cs mo mr (fun _ => none) (upd mf 0 0) md (gMo PG hq), fm 13 (fPr cs hq qr QO QF QA), fm 8 (fPg cs PG)]) rfl rfl (fun H locs hw => ?_)
    refine lv_aload_n S.x S.b d_Mo_raw_16 rfl (lv_at hl 0 rfl) ?_
    refine px_get S k_Mo hT hw 0 0 0 (v := .int 0) rfl rfl rfl (by decide) m11_78 d_Mo_raw_17 ?_
    refine lv_if_le (tgt := 25) S.x S.b d_Mo_raw_20 (by decide) (fun c43 => ?_) (fun c43 => ?_)
    ·
      refine lv_aload_n S.x S.b d_Mo_raw_25 rfl (lv_at hl 0 rfl) ?_
      refine px_get S k_Mo hT hw 0 0 4 (v := .ref (mr 4)) rfl rfl rfl (by decide) m11_82 d_Mo_raw_26 ?_
      refine lv_iload_n S.x S.b d_Mo_raw_29 rfl (lv_at hl 1 rfl) ?_
      refine px_aaldS S hT hw 0 2 9 (n := 8) (f := ((gMo PG hq) 4)) rfl rfl rfl (x := p0) (vp_in_iff.mpr (by constructor <;> omega)) (sk := (PG p0.toNatClampNeg).h) rfl d_Mo_raw_30 ?_
      refine lv_astore_n (lv' := [(2, .ref (PG p0.toNatClampNeg).h), (0, .ref mo), (1, .int p0)]) S.x S.b d_Mo_raw_31 rfl hl (by decide) rfl (fun ls hl => ?_)
      refine lv_aload_n S.x S.b d_Mo_raw_32 rfl (lv_at hl 1 rfl) ?_
      refine px_get S k_Mo hT hw 0 0 2 (v := .int (mf 2)) rfl rfl rfl (by decide) m11_80 d_Mo_raw_33 ?_
      refine lv_iconst (v := 4) S.x S.b d_Mo_raw_36 (by decide) ?_
      refine lv_idiv S.x S.b d_Mo_raw_37 (by decide) ?_
      refine lv_topi (fun z44 ez44 => ?_)
      have lz44 := Int32.le_toInt z44
      have uz44 := Int32.toInt_lt z44
      have td4 : z44.toInt = (mf 2).toInt / 4 := (by rw [ez44]; exact i_dv4 (by omega))
      refine lv_istore_n (lv' := [(3, .int z44), (2, .ref (PG p0.toNatClampNeg).h), (0, .ref mo), (1, .int p0)]) S.x S.b d_Mo_raw_38 rfl hl (by decide) rfl (fun ls hl => ?_)
      refine lv_iconst (v := 0) S.x S.b d_Mo_raw_39 (by decide) ?_
      refine lv_istore (lv' := [(4, .int 0), (3, .int z44), (2, .ref (PG p0.toNatClampNeg).h), (0, .ref mo), (1, .int p0)]) S.x S.b d_Mo_raw_40 hl (by decide) rfl (fun ls hl => ?_)
      exact J42 ((z44.toInt - (0 : Int)).toNat + 1) (upd mf 0 0) PG z44 (0 : Int32) _ _ ls (show PgA PG from hpg) (show PgS PG PG from PgS.rf) (show (mf 10).toInt = (mf 10).toInt from rfl) (show (mf 2).toInt = (mf 2).toInt from rfl) (show 0 ≤ p0.toInt from by first | with_reducible rfl | with_reducible assumption | omega) (show p0.toInt < 8 from by first | with_reducible rfl | with_reducible assumption | omega) (show 0 ≤ (0 : Int) from by first | decide | omega) (show (0 : Int) ≤ z44.toInt from by first | with_reducible rfl | with_reducible assumption | omega) (show 4 * z44.toInt ≤ (mf 2).toInt from by first | with_reducible rfl | with_reducible assumption | omega) (show z44.toInt ≤ 512 from by first | with_reducible rfl | with_reducible assumption | omega) (show (0 : Int) = 0 from by first | decide | omega) (show (mf 2).toInt < 4 * z44.toInt + 4 from by first | with_reducible rfl | with_reducible assumption | omega) (show z44.toInt - (0 : Int) < ((((z44.toInt - (0 : Int)).toNat + 1 : Nat) : Int) : Int) from by first | exact oz_natlt | omega) hw (lv_sub hl [3, 4, 2, 1, 0] rfl)
    · exact absurd c43 (by decide)
