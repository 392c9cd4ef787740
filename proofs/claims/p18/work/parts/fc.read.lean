theorem oz_2cbcaf7199 {a0 : Int} (h0 : a0 ≤ 2048) : a0 ≤ (2048 : Int) := by omega
theorem oz_8aa2f97af7 {a0 a1 a2 a3 : Int} (h0 : a0 = 4 * a1) (h1 : 0 ≤ a1) (h2 : ¬ a2 ≤ a1) (h3 : 4 * a2 ≤ a3) (h4 : a3 ≤ 2048) : 0 ≤ a0 ∧ a0 < ((2048 : Nat) : Int) := by omega
theorem oz_accf9ba773 {a0 a1 a2 a3 : Int} (h0 : a0 = a1 + (1 : Int)) (h1 : a1 = 4 * a2) (h2 : 0 ≤ a2) (h3 : ¬ a3 ≤ a2) (h4 : a3 ≤ 512) : 0 ≤ a0 ∧ a0 < ((2048 : Nat) : Int) := by omega
theorem oz_a9d6d3164f {a0 a1 a2 a3 : Int} (h0 : a0 = a1 + (2 : Int)) (h1 : a1 = 4 * a2) (h2 : 0 ≤ a2) (h3 : ¬ a3 ≤ a2) (h4 : a3 ≤ 512) : 0 ≤ a0 ∧ a0 < ((2048 : Nat) : Int) := by omega
theorem oz_8f70aa4df5 {a0 a1 a2 a3 : Int} (h0 : a0 = a1 + (3 : Int)) (h1 : a1 = 4 * a2) (h2 : 0 ≤ a2) (h3 : ¬ a3 ≤ a2) (h4 : a3 ≤ 512) : 0 ≤ a0 ∧ a0 < ((2048 : Nat) : Int) := by omega
theorem m11_127 : Cond.methodLink "HomeSystemModel" 45 ⟨"HomeSystemModel$Program", "read", "([BI)I"⟩ ∈ AL := AL_11 (List.mem_of_getElem? (i := 127) rfl) rfl
theorem m11_130 : Cond.code ⟨"HomeSystemModel$Program", "read", "([BI)I"⟩ prog_16_method_121_code 4 (Option.some FieldType.int) ∈ AL := AL_11 (List.mem_of_getElem? (i := 130) rfl) rfl
theorem m11_129 : Cond.selects "HomeSystemModel$Program" ⟨"HomeSystemModel$Program", "read", "([BI)I"⟩ ⟨"HomeSystemModel$Program", "read", "([BI)I"⟩ ∈ AL := AL_11 (List.mem_of_getElem? (i := 129) rfl) rfl
theorem m11_128 : Cond.instanceMethod ⟨"HomeSystemModel$Program", "read", "([BI)I"⟩ ∈ AL := AL_11 (List.mem_of_getElem? (i := 128) rfl) rfl
theorem m10_20n : Cond.fieldLinkNest "HomeSystemModel" 49 "HomeSystemModel$Program" "where" "I" "HomeSystemModel" ∈ tables_1 := by unfold tables_1; exact List.mem_append_right _ (List.mem_append_right _ (List.mem_append_right _ (List.mem_append_right _ (List.mem_append_right _ (List.mem_append_right _ (List.mem_append_right _ (List.mem_append_right _ (List.mem_append_right _ (List.mem_append_left _ (List.mem_of_getElem? (i := 20) rfl))))))))))
theorem m10_72 : Cond.fieldLink "HomeSystemModel" 58 "HomeSystemModel$Program" "rawWords" "I" ∈ AL := AL_10 (List.mem_of_getElem? (i := 72) rfl) rfl
theorem m10_70 : Cond.fieldLink "HomeSystemModel" 55 "HomeSystemModel$Program" "raw" "[I" ∈ AL := AL_10 (List.mem_of_getElem? (i := 70) rfl) rfl
/-! a program is read anew -/
def PgS (PG PG' : Nat → Pgs) : Prop := ∀ j : Nat, (PG' j).h = (PG j).h ∧ (PG' j).r = (PG j).r ∧ (PG' j).g = (PG j).g
section FC
variable {PG PG' : Nat → Pgs} {j : Nat} {g : Pgs}
theorem PgS.rf : PgS PG PG := fun _ => ⟨rfl, rfl, rfl⟩
theorem PgS.tr {PG2 : Nat → Pgs} (h : PgS PG PG') (k : PgS PG' PG2) : PgS PG PG2 := fun i => ⟨(k i).1.trans (h i).1, (k i).2.1.trans (h i).2.1, (k i).2.2.trans (h i).2.2⟩
theorem pgs_up (e1 : g.h = (PG j).h) (e2 : g.r = (PG j).r) (e3 : g.g = (PG j).g) : PgS PG (va_up PG j g) := fun i => by
  by_cases e : i = j
  · subst e; rw [va_up_s]; exact ⟨e1, e2, e3⟩
  · rw [va_up_n e]; exact ⟨rfl, rfl, rfl⟩
theorem PgA.up (h : PgA PG) (n : PgO g) : PgA (va_up PG j g) := fun i hi => by
  by_cases e : i = j
  · subst e; rw [va_up_s]; exact n
  · rw [va_up_n e]; exact h i hi
theorem gmo_up {hq : Nat → Nat} (h : PgS PG PG') : gMo PG hq = gMo PG' hq := by
  funext k i
  unfold gMo; rw [(h i).1]
theorem fpg_in {D : va_G} {A : Nat → Prop} {H0 H : Heap} {locs : List Loc} {pr : List va_W} {cs : Nat → ClassId} {tf pf cf ef xf : Nat → Int32} {ta na ma wa ca ea xa : Nat → Nat → Int32} (hw : pw D A H0 H locs (pr ++ [fo 8 (fPg cs PG) j, wdP cs (PG j).h (PG j).r (PG j).g tf ta pf na ma wa cf ca ef ea xf xa])) (hj : j < 8) : pw D A H0 H locs (pr ++ [fm 8 (fPg cs (va_up PG j ⟨(PG j).h, (PG j).r, (PG j).g, tf, ta, pf, na, ma, wa, cf, ca, ef, ea, xf, xa⟩))]) :=
  fm_put hw hj (fun i hi => by unfold fPg; rw [va_up_n hi]) (by unfold fPg; rw [va_up_s])
theorem pgo_rd {v : Int} (h : RdV v (g.xf 66).toInt (PgT g.tf g.cf g.ef g.ta g.na g.ma g.ca g.ea)) (h46 : 0 ≤ (g.cf 46).toInt ∧ (g.cf 46).toInt ≤ 1) (h47 : 0 ≤ (g.cf 47).toInt ∧ (g.cf 47).toInt ≤ 1) (h68 : 0 ≤ (g.xf 68).toInt ∧ (g.xf 68).toInt ≤ 512) : PgO g := by
  rcases h with ⟨a, b, c⟩ | ⟨a, b⟩
  · exact ⟨⟨by omega, h46, h47⟩, h68, fun _ => c⟩
  · exact ⟨⟨by omega, h46, h47⟩, h68, fun q => by omega⟩
end FC
/-! what life needs of a program that is read -/
def SoK (PG PG' : Nat → Pgs) (p0 : Int32) : Prop := ∀ j : Nat, (j ≠ p0.toNatClampNeg ∨ p0.toInt < 0 ∨ 8 ≤ p0.toInt) → (PG' j).xf 66 = (PG j).xf 66
theorem SoK.rf {PG : Nat → Pgs} {p0 : Int32} : SoK PG PG p0 := fun _ _ => rfl
theorem SoK.up {PG PG2 : Nat → Pgs} {p0 : Int32} {g : Pgs} (h : SoK PG PG2 p0) (hr : 0 ≤ p0.toInt ∧ p0.toInt < 8) : SoK PG (va_up PG2 p0.toNatClampNeg g) p0 := fun j hj => by
  have hn : j ≠ p0.toNatClampNeg := by
    rcases hj with h1 | h1 | h1
    · exact h1
    · omega
    · omega
  rw [va_up_n hn]
  exact h j hj
theorem RdV.n {v s : Int} {P : Prop} (h : RdV v s P) : (v = 0 ∧ s = 1) ∨ (v ≠ 0 ∧ s = 0) := h.elim (fun a => Or.inl ⟨a.1, a.2.1⟩) Or.inr
def RdX (sb bb : Nat → Int32) (n v : Int32) : Prop := ∃ (tf : Nat → Int32) (ta : Nat → Nat → Int32) (pf : Nat → Int32) (na : Nat → Nat → Int32) (ma : Nat → Nat → Int32) (wa : Nat → Nat → Int32) (cf : Nat → Int32) (ca : Nat → Nat → Int32) (ef : Nat → Int32) (ea : Nat → Nat → Int32) (xf : Nat → Int32) (xa : Nat → Nat → Int32) (tf' : Nat → Int32) (ta' : Nat → Nat → Int32) (pf' : Nat → Int32) (na' : Nat → Nat → Int32) (ma' : Nat → Nat → Int32) (wa' : Nat → Nat → Int32) (cf' : Nat → Int32) (ca' : Nat → Nat → Int32) (ef' : Nat → Int32) (ea' : Nat → Nat → Int32) (xf' : Nat → Int32) (xa' : Nat → Nat → Int32), R_mp_read sb bb n tf ta pf na ma wa cf ca ef ea xf xa tf' ta' pf' na' ma' wa' cf' ca' ef' ea' xf' xa' v
theorem rdx_mk {sb bb : Nat → Int32} {n v : Int32} {tf : Nat → Int32} {ta : Nat → Nat → Int32} {pf : Nat → Int32} {na : Nat → Nat → Int32} {ma : Nat → Nat → Int32} {wa : Nat → Nat → Int32} {cf : Nat → Int32} {ca : Nat → Nat → Int32} {ef : Nat → Int32} {ea : Nat → Nat → Int32} {xf : Nat → Int32} {xa : Nat → Nat → Int32} {tf' : Nat → Int32} {ta' : Nat → Nat → Int32} {pf' : Nat → Int32} {na' : Nat → Nat → Int32} {ma' : Nat → Nat → Int32} {wa' : Nat → Nat → Int32} {cf' : Nat → Int32} {ca' : Nat → Nat → Int32} {ef' : Nat → Int32} {ea' : Nat → Nat → Int32} {xf' : Nat → Int32} {xa' : Nat → Nat → Int32} (h : R_mp_read sb bb n tf ta pf na ma wa cf ca ef ea xf xa tf' ta' pf' na' ma' wa' cf' ca' ef' ea' xf' xa' v) : RdX sb bb n v := ⟨_, _, _, _, _, _, _, _, _, _, _, _, _, _, _, _, _, _, _, _, _, _, _, _, h⟩
def RdQ (sb bb : Nat → Int32) (n p0 v : Int32) : Prop := (0 ≤ p0.toInt ∧ p0.toInt < 8) → RdX sb bb n v
abbrev b_Mo_text : ByteArray := prog_14_method_6_code
def y_Mo_text : MethodName := ⟨"HomeSystemModel", "text", "(I)I"⟩
theorem d_Mo_text_0 : decode b_Mo_text 0 = .ok (.aload_n 0, 1) := by decide +kernel
theorem d_Mo_text_1 : decode b_Mo_text 1 = .ok (.iload_n 1, 1) := by decide +kernel
theorem d_Mo_text_2 : decode b_Mo_text 2 = .ok (.invokestatic 41, 3) := by decide +kernel
theorem d_Mo_text_5 : decode b_Mo_text 5 = .ok (.ifCond .eq 7, 3) := by decide +kernel
theorem d_Mo_text_8 : decode b_Mo_text 8 = .ok (.iconst 0, 1) := by decide +kernel
theorem d_Mo_text_9 : decode b_Mo_text 9 = .ok (.goto 4, 3) := by decide +kernel
theorem d_Mo_text_12 : decode b_Mo_text 12 = .ok (.iconst 1, 1) := by decide +kernel
theorem d_Mo_text_13 : decode b_Mo_text 13 = .ok (.putfield 35, 3) := by decide +kernel
theorem d_Mo_text_16 : decode b_Mo_text 16 = .ok (.aload_n 0, 1) := by decide +kernel
theorem d_Mo_text_17 : decode b_Mo_text 17 = .ok (.getfield 35, 3) := by decide +kernel
theorem d_Mo_text_20 : decode b_Mo_text 20 = .ok (.ifCond .le 5, 3) := by decide +kernel
theorem d_Mo_text_23 : decode b_Mo_text 23 = .ok (.iconst 0, 1) := by decide +kernel
theorem d_Mo_text_24 : decode b_Mo_text 24 = .ok (.ireturn, 1) := by decide +kernel
theorem d_Mo_text_25 : decode b_Mo_text 25 = .ok (.aload_n 0, 1) := by decide +kernel
theorem d_Mo_text_26 : decode b_Mo_text 26 = .ok (.getfield 15, 3) := by decide +kernel
theorem d_Mo_text_29 : decode b_Mo_text 29 = .ok (.iload_n 1, 1) := by decide +kernel
theorem d_Mo_text_30 : decode b_Mo_text 30 = .ok (.aaload, 1) := by decide +kernel
theorem d_Mo_text_31 : decode b_Mo_text 31 = .ok (.aload_n 0, 1) := by decide +kernel
theorem d_Mo_text_32 : decode b_Mo_text 32 = .ok (.getfield 7, 3) := by decide +kernel
theorem d_Mo_text_35 : decode b_Mo_text 35 = .ok (.aload_n 0, 1) := by decide +kernel
theorem d_Mo_text_36 : decode b_Mo_text 36 = .ok (.getfield 38, 3) := by decide +kernel
theorem d_Mo_text_39 : decode b_Mo_text 39 = .ok (.invokevirtual 45, 3) := by decide +kernel
theorem d_Mo_text_42 : decode b_Mo_text 42 = .ok (.istore_n 2, 1) := by decide +kernel
theorem d_Mo_text_43 : decode b_Mo_text 43 = .ok (.aload_n 0, 1) := by decide +kernel
theorem d_Mo_text_44 : decode b_Mo_text 44 = .ok (.iconst 0, 1) := by decide +kernel
theorem d_Mo_text_45 : decode b_Mo_text 45 = .ok (.putfield 38, 3) := by decide +kernel
theorem d_Mo_text_48 : decode b_Mo_text 48 = .ok (.aload_n 0, 1) := by decide +kernel
theorem d_Mo_text_49 : decode b_Mo_text 49 = .ok (.iload_n 2, 1) := by decide +kernel
theorem d_Mo_text_50 : decode b_Mo_text 50 = .ok (.ifCond .ne 7, 3) := by decide +kernel
theorem d_Mo_text_53 : decode b_Mo_text 53 = .ok (.iconst 0, 1) := by decide +kernel
theorem d_Mo_text_54 : decode b_Mo_text 54 = .ok (.goto 12, 3) := by decide +kernel
theorem d_Mo_text_57 : decode b_Mo_text 57 = .ok (.aload_n 0, 1) := by decide +kernel
theorem d_Mo_text_58 : decode b_Mo_text 58 = .ok (.getfield 15, 3) := by decide +kernel
theorem d_Mo_text_61 : decode b_Mo_text 61 = .ok (.iload_n 1, 1) := by decide +kernel
theorem d_Mo_text_62 : decode b_Mo_text 62 = .ok (.aaload, 1) := by decide +kernel
theorem d_Mo_text_63 : decode b_Mo_text 63 = .ok (.getfield 49, 3) := by decide +kernel
theorem d_Mo_text_66 : decode b_Mo_text 66 = .ok (.putfield 52, 3) := by decide +kernel
theorem d_Mo_text_69 : decode b_Mo_text 69 = .ok (.iload_n 2, 1) := by decide +kernel
theorem d_Mo_text_70 : decode b_Mo_text 70 = .ok (.ireturn, 1) := by decide +kernel
theorem q_Mo_text : px_y y_Mo_text 1 := by unfold px_y; decide +kernel
set_option maxHeartbeats 4000000 in
set_option maxRecDepth 100000 in
theorem c_mo_text (l : Launch) (D : va_G) (cs : Nat → ClassId) (sk : Nat) (st : Nat) (sb : Nat → Int32) (mo : Nat) (mr : Nat → Nat) (md : Nat → Nat → Int32) (mf : Nat → Int32) (hq : Nat → Nat) (qr : Nat → Nat → Nat) (QO : Nat → Option Nat) (QF : Nat → Nat → Int32) (QA : Nat → Nat → Nat → Int32) (PG : Nat → Pgs) (p0 : Int32)  (g0 : 0 ≤ (mf 2).toInt) (g1 : (mf 2).toInt ≤ 2048) (hpn : PrN QF) (hpg : PgA PG) (hlf : l.flags = pinnedFlags ++ [noTraceFlag]) : MetI l y_Mo_text b_Mo_text 3 (.int) D cs 1301 60100 (1) (6) [.ref mo, .int p0] [wd_Mo cs mo mr (fun _ => none) mf md (gMo PG hq), fm 13 (fPr cs hq qr QO QF QA), fm 8 (fPg cs PG)] (oX (fun A U H => (oN A U H) ∧ (∀ j : Nat, j < 8 → oP A (PG j).g U H) ∧ ((vk_R "HomeSystemModel$Program" 688 "main" sk U ∧ oS A sk st 4 sb U H))) [wd_Mo cs mo mr (fun _ => none) mf md (gMo PG hq), fm 13 (fPr cs hq qr QO QF QA), fm 8 (fPg cs PG)]) (fun v ps => ∃ (mf' : Nat → Int32) (PG' : Nat → Pgs), (ps = [wd_Mo cs mo mr (fun _ => none) mf' md (gMo PG' hq), fm 13 (fPr cs hq qr QO QF QA), fm 8 (fPg cs PG')]) ∧ (PgA PG') ∧ (PgS PG PG') ∧ ((mf' 10).toInt = (mf 10).toInt) ∧ (0 ≤ (mf' 2).toInt) ∧ ((mf' 2).toInt ≤ 2048) ∧ (SoK PG PG' p0) ∧ (RdQ sb (md 1) (mf 2) p0 v) ∧ (((mf' 0).toInt = 0 ∧ 0 ≤ p0.toInt ∧ p0.toInt < 8 ∧ (mf' 2).toInt = 0 ∧ ((v.toInt = 0 ∧ ((PG' p0.toNatClampNeg).xf 66).toInt = 1) ∨ (v.toInt ≠ 0 ∧ ((PG' p0.toNatClampNeg).xf 66).toInt = 0))) ∨ ((mf' 0).toInt = 1 ∧ (p0.toInt < 0 ∨ 8 ≤ p0.toInt) ∧ (mf' 2).toInt = (mf 2).toInt))) := by
  refine px_enter (by decide) (Nat.le_of_ble_eq_true rfl) ?_
  intro p e s m below meth c A ls hAe S hr hlk hnm hA hT hX hw hl
  have hl : lv_has ls 3 [(0, .ref mo), (1, .int p0)] := hl
  have lp0 := Int32.le_toInt p0
  have up0 := Int32.toInt_lt p0
  have cst0 : (0 : Int32).toInt = 0 := rfl
  have cst1 : (1 : Int32).toInt = 1 := rfl
  have hX : (fun A U H => (oN A U H) ∧ (∀ j : Nat, j < 8 → oP A (PG j).g U H) ∧ ((vk_R "HomeSystemModel$Program" 688 "main" sk U ∧ oS A sk st 4 sb U H))) A s s.heap := by rw [hAe]; exact hX
  obtain ⟨hN, hGG, hMn⟩ := hX
  refine lv_aload_n S.x S.b d_Mo_text_0 rfl (lv_at hl 0 rfl) ?_
  refine lv_iload_n S.x S.b d_Mo_text_1 rfl (lv_at hl 1 rfl) ?_
  refine px_calli (pr := [wd_Mo cs mo mr (fun _ => none) mf md (gMo PG hq), fm 13 (fPr cs hq qr QO QF QA), fm 8 (fPg cs PG)]) (px_runS (As := [.int p0]) (rest := [.ref mo]) S (c_mo_isProg2 l D cs  p0   _) hT (pr := [wd_Mo cs mo mr (fun _ => none) mf md (gMo PG hq), fm 13 (fPr cs hq qr QO QF QA), fm 8 (fPg cs PG)]) (pcs := []) hw px_X.tt m11_126 m11_124 m11_125 m1_20 q_Mo_isProgram ⟨Nat.le_of_ble_eq_true rfl, Nat.le_of_ble_eq_true rfl⟩ hl.1 rfl (Nat.le_of_ble_eq_true rfl) d_Mo_text_2 ⟨Nat.le_of_ble_eq_true rfl, Nat.le_of_ble_eq_true rfl⟩) hw hA (fun v2 p1 H locs hp1 hw => ?_)
  obtain ⟨rfl, e3, e4, e5⟩ := hp1
  have e3 : 0 ≤ v2.toInt := e3
  have e4 : v2.toInt ≤ 1 := e4
  have e5 : (v2.toInt = 1 ∧ 0 ≤ p0.toInt ∧ p0.toInt < 8) ∨ (v2.toInt = 0 ∧ (p0.toInt < 0 ∨ 8 ≤ p0.toInt)) := e5
  have hw : pw D A s.heap H locs [wd_Mo cs mo mr (fun _ => none) mf md (gMo PG hq), fm 13 (fPr cs hq qr QO QF QA), fm 8 (fPg cs PG)] := hw
  have lv2 := Int32.le_toInt v2
  have uv2 := Int32.toInt_lt v2
  refine lv_if_eq (tgt := 12) S.x S.b d_Mo_text_5 (by decide) (fun c6 => ?_) (fun c6 => ?_)
  · have nc6 : v2.toInt = (0 : Int) := (i_eq (x := v2) (y := 0)).mp c6
    refine lv_iconst (v := 1) S.x S.b d_Mo_text_12 (by decide) ?_
    refine px_put S k_Mo hT hw 0 0 0 rfl rfl (by decide) m11_78 rfl rfl rfl (Nat.le_of_ble_eq_true rfl) d_Mo_text_13 (w' := wd_Mo cs mo mr (fun _ => none) (upd mf 0 1) md (gMo PG hq)) (ps' := [wd_Mo cs mo mr (fun _ => none) (upd mf 0 1) md (gMo PG hq), fm 13 (fPr cs hq qr QO QF QA), fm 8 (fPg cs PG)]) rfl rfl (fun H locs hw => ?_)
    refine lv_aload_n S.x S.b d_Mo_text_16 rfl (lv_at hl 0 rfl) ?_
    refine px_get S k_Mo hT hw 0 0 0 (v := .int 1) rfl rfl rfl (by decide) m11_78 d_Mo_text_17 ?_
    refine lv_if_le (tgt := 25) S.x S.b d_Mo_text_20 (by decide) (fun c8 => ?_) (fun c8 => ?_)
    · exact absurd c8 (by decide)
    ·
      refine lv_iconst (v := 0) S.x S.b d_Mo_text_23 (by decide) ?_
      exact px_iret (v := 0) S hr rfl hlk hAe hw (Nat.le_of_ble_eq_true rfl) (Nat.le_of_ble_eq_true rfl) (⟨(upd mf 0 1), PG, rfl, (show PgA PG from hpg), (show PgS PG PG from PgS.rf), (show (mf 10).toInt = (mf 10).toInt from rfl), (show 0 ≤ (mf 2).toInt from by first | exact g0 | omega), (show (mf 2).toInt ≤ 2048 from by first | exact g1 | omega), (show SoK PG PG p0 from SoK.rf), (show RdQ sb (md 1) (mf 2) p0 (0 : Int32) from (fun q9 => absurd q9 (by omega))), (show ((1 : Int) = 0 ∧ 0 ≤ p0.toInt ∧ p0.toInt < 8 ∧ (mf 2).toInt = 0 ∧ (((0 : Int) = 0 ∧ ((PG p0.toNatClampNeg).xf 66).toInt = 1) ∨ ((0 : Int) ≠ 0 ∧ ((PG p0.toNatClampNeg).xf 66).toInt = 0))) ∨ ((1 : Int) = 1 ∧ (p0.toInt < 0 ∨ 8 ≤ p0.toInt) ∧ (mf 2).toInt = (mf 2).toInt) from by omega)⟩) d_Mo_text_24
  · have nc6 : ¬ v2.toInt = (0 : Int) := mt (i_eq (x := v2) (y := 0)).mpr c6
    refine lv_iconst (v := 0) S.x S.b d_Mo_text_8 (by decide) ?_
    refine lv_goto (tgt := 13) S.x S.b d_Mo_text_9 (by decide) ?_
    refine px_put S k_Mo hT hw 0 0 0 rfl rfl (by decide) m11_78 rfl rfl rfl (Nat.le_of_ble_eq_true rfl) d_Mo_text_13 (w' := wd_Mo cs mo mr (fun _ => none) (upd mf 0 0) md (gMo PG hq)) (ps' := [wd_Mo cs mo mr (fun _ => none) (upd mf 0 0) md (gMo PG hq), fm 13 (fPr cs hq qr QO QF QA), fm 8 (fPg cs PG)]) rfl rfl (fun H locs hw => ?_)
    refine lv_aload_n S.x S.b d_Mo_text_16 rfl (lv_at hl 0 rfl) ?_
    refine px_get S k_Mo hT hw 0 0 0 (v := .int 0) rfl rfl rfl (by decide) m11_78 d_Mo_text_17 ?_
    refine lv_if_le (tgt := 25) S.x S.b d_Mo_text_20 (by decide) (fun c9 => ?_) (fun c9 => ?_)
    ·
      refine lv_aload_n S.x S.b d_Mo_text_25 rfl (lv_at hl 0 rfl) ?_
      refine px_get S k_Mo hT hw 0 0 4 (v := .ref (mr 4)) rfl rfl rfl (by decide) m11_82 d_Mo_text_26 ?_
      refine lv_iload_n S.x S.b d_Mo_text_29 rfl (lv_at hl 1 rfl) ?_
      refine px_aaldS S hT hw 0 2 9 (n := 8) (f := ((gMo PG hq) 4)) rfl rfl rfl (x := p0) (vp_in_iff.mpr (by constructor <;> omega)) (sk := (PG p0.toNatClampNeg).h) rfl d_Mo_text_30 ?_
      refine lv_aload_n S.x S.b d_Mo_text_31 rfl (lv_at hl 0 rfl) ?_
      refine px_get S k_Mo hT hw 0 0 1 (v := .ref (mr 1)) rfl rfl rfl (by decide) m11_79 d_Mo_text_32 ?_
      refine lv_aload_n S.x S.b d_Mo_text_35 rfl (lv_at hl 0 rfl) ?_
      refine px_get S k_Mo hT hw 0 0 2 (v := .int (mf 2)) rfl rfl rfl (by decide) m11_80 d_Mo_text_36 ?_
      have hw : pw D A s.heap _ _ [fm 13 (fPr cs hq qr QO QF QA), fm 8 (fPg cs PG), wd_Mo cs mo mr (fun _ => none) (upd mf 0 0) md (gMo PG hq)] := hw.sub [1, 2, 0] rfl rfl
      have hw : pw D A s.heap _ _ [fm 13 (fPr cs hq qr QO QF QA), fm 8 (fPg cs PG), [(mo, .inr (11, [.int 0, .ref (mr 1), .int (mf 2), .int (mf 3), .ref (mr 4), .ref (mr 5), .ref (mr 6), .int (mf 7), .int (mf 8), .int (mf 9), .int (mf 10)]))], [((mr 1), .inl (cs 1, 2048, .inl (md 1)))], [((mr 4), .inl (cs 9, 8, .inr (.inr (.inr (.inr ((gMo PG hq) 4))))))], [((mr 5), .inl (cs 10, 13, .inr (.inr (.inr (.inr ((gMo PG hq) 5))))))], [((mr 6), .inl (cs 0, 128, .inl (md 6)))]] := hw.eq rfl
      have hw : pw D A s.heap _ _ [fm 13 (fPr cs hq qr QO QF QA), [(mo, .inr (11, [.int 0, .ref (mr 1), .int (mf 2), .int (mf 3), .ref (mr 4), .ref (mr 5), .ref (mr 6), .int (mf 7), .int (mf 8), .int (mf 9), .int (mf 10)]))], [((mr 1), .inl (cs 1, 2048, .inl (md 1)))], [((mr 4), .inl (cs 9, 8, .inr (.inr (.inr (.inr ((gMo PG hq) 4))))))], [((mr 5), .inl (cs 10, 13, .inr (.inr (.inr (.inr ((gMo PG hq) 5))))))], [((mr 6), .inl (cs 0, 128, .inl (md 6)))], fm 8 (fPg cs PG)] := hw.sub [0, 2, 3, 4, 5, 6, 1] rfl rfl
      have hc10 := cl_nat (x := p0) (by first | exact oz_016f458179 hc10 | omega)
      have hj10 : p0.toNatClampNeg < 8 := by omega
      have hw : pw D A s.heap _ _ [fm 13 (fPr cs hq qr QO QF QA), [(mo, .inr (11, [.int 0, .ref (mr 1), .int (mf 2), .int (mf 3), .ref (mr 4), .ref (mr 5), .ref (mr 6), .int (mf 7), .int (mf 8), .int (mf 9), .int (mf 10)]))], [((mr 1), .inl (cs 1, 2048, .inl (md 1)))], [((mr 4), .inl (cs 9, 8, .inr (.inr (.inr (.inr ((gMo PG hq) 4))))))], [((mr 5), .inl (cs 10, 13, .inr (.inr (.inr (.inr ((gMo PG hq) 5))))))], [((mr 6), .inl (cs 0, 128, .inl (md 6)))], fo 8 (fPg cs PG) p0.toNatClampNeg, wdP cs (PG p0.toNatClampNeg).h (PG p0.toNatClampNeg).r (PG p0.toNatClampNeg).g (PG p0.toNatClampNeg).tf (PG p0.toNatClampNeg).ta (PG p0.toNatClampNeg).pf (PG p0.toNatClampNeg).na (PG p0.toNatClampNeg).ma (PG p0.toNatClampNeg).wa (PG p0.toNatClampNeg).cf (PG p0.toNatClampNeg).ca (PG p0.toNatClampNeg).ef (PG p0.toNatClampNeg).ea (PG p0.toNatClampNeg).xf (PG p0.toNatClampNeg).xa] := fm_out (pr := [fm 13 (fPr cs hq qr QO QF QA), [(mo, .inr (11, [.int 0, .ref (mr 1), .int (mf 2), .int (mf 3), .ref (mr 4), .ref (mr 5), .ref (mr 6), .int (mf 7), .int (mf 8), .int (mf 9), .int (mf 10)]))], [((mr 1), .inl (cs 1, 2048, .inl (md 1)))], [((mr 4), .inl (cs 9, 8, .inr (.inr (.inr (.inr ((gMo PG hq) 4))))))], [((mr 5), .inl (cs 10, 13, .inr (.inr (.inr (.inr ((gMo PG hq) 5))))))], [((mr 6), .inl (cs 0, 128, .inl (md 6)))]]) (T := fPg cs PG) hw hj10
      have hpo11 := hpg p0.toNatClampNeg hj10
      have hp111 := hpo11.1
      have hp211 := hpo11.2.1
      have hP := hGG p0.toNatClampNeg hj10
      have hw : pw D A s.heap _ _ [fm 13 (fPr cs hq qr QO QF QA), [(mo, .inr (11, [.int 0, .ref (mr 1), .int (mf 2), .int (mf 3), .ref (mr 4), .ref (mr 5), .ref (mr 6), .int (mf 7), .int (mf 8), .int (mf 9), .int (mf 10)]))], [((mr 4), .inl (cs 9, 8, .inr (.inr (.inr (.inr ((gMo PG hq) 4))))))], [((mr 5), .inl (cs 10, 13, .inr (.inr (.inr (.inr ((gMo PG hq) 5))))))], [((mr 6), .inl (cs 0, 128, .inl (md 6)))], fo 8 (fPg cs PG) p0.toNatClampNeg, wdP cs (PG p0.toNatClampNeg).h (PG p0.toNatClampNeg).r (PG p0.toNatClampNeg).g (PG p0.toNatClampNeg).tf (PG p0.toNatClampNeg).ta (PG p0.toNatClampNeg).pf (PG p0.toNatClampNeg).na (PG p0.toNatClampNeg).ma (PG p0.toNatClampNeg).wa (PG p0.toNatClampNeg).cf (PG p0.toNatClampNeg).ca (PG p0.toNatClampNeg).ef (PG p0.toNatClampNeg).ea (PG p0.toNatClampNeg).xf (PG p0.toNatClampNeg).xa, [((mr 1), .inl (cs 1, 2048, .inl (md 1)))]] := hw.sub [0, 1, 3, 4, 5, 6, 7, 2] rfl rfl
      refine px_calli (pr := [fm 13 (fPr cs hq qr QO QF QA), [(mo, .inr (11, [.int 0, .ref (mr 1), .int (mf 2), .int (mf 3), .ref (mr 4), .ref (mr 5), .ref (mr 6), .int (mf 7), .int (mf 8), .int (mf 9), .int (mf 10)]))], [((mr 4), .inl (cs 9, 8, .inr (.inr (.inr (.inr ((gMo PG hq) 4))))))], [((mr 5), .inl (cs 10, 13, .inr (.inr (.inr (.inr ((gMo PG hq) 5))))))], [((mr 6), .inl (cs 0, 128, .inl (md 6)))], fo 8 (fPg cs PG) p0.toNatClampNeg]) (px_runV (As := [.ref (mr 1), .int (mf 2)]) (rest := []) S (c_mp_read l D cs sk st sb (0 : Int) (PG p0.toNatClampNeg).h (PG p0.toNatClampNeg).r (PG p0.toNatClampNeg).g (PG p0.toNatClampNeg).tf (PG p0.toNatClampNeg).ta (PG p0.toNatClampNeg).pf (PG p0.toNatClampNeg).na (PG p0.toNatClampNeg).ma (PG p0.toNatClampNeg).wa (PG p0.toNatClampNeg).cf (PG p0.toNatClampNeg).ca (PG p0.toNatClampNeg).ef (PG p0.toNatClampNeg).ea (PG p0.toNatClampNeg).xf (PG p0.toNatClampNeg).xa (mr 1) 2048 (md 1) (mf 2)  (show 0 ≤ (mf 2).toInt from by first | exact g0 | omega) (show (mf 2).toInt ≤ 2048 from by first | exact g1 | omega) (show (mf 2).toInt ≤ (2048 : Int) from by first | exact oz_2cbcaf7199 g1 | omega) (show 0 ≤ ((PG p0.toNatClampNeg).cf 46).toInt from by omega) (show ((PG p0.toNatClampNeg).cf 46).toInt ≤ 1 from by omega) (show 0 ≤ ((PG p0.toNatClampNeg).cf 47).toInt from by omega) (show ((PG p0.toNatClampNeg).cf 47).toInt ≤ 1 from by omega) hlf _) hT (pr := [fm 13 (fPr cs hq qr QO QF QA), [(mo, .inr (11, [.int 0, .ref (mr 1), .int (mf 2), .int (mf 3), .ref (mr 4), .ref (mr 5), .ref (mr 6), .int (mf 7), .int (mf 8), .int (mf 9), .int (mf 10)]))], [((mr 4), .inl (cs 9, 8, .inr (.inr (.inr (.inr ((gMo PG hq) 4))))))], [((mr 5), .inl (cs 10, 13, .inr (.inr (.inr (.inr ((gMo PG hq) 5))))))], [((mr 6), .inl (cs 0, 128, .inl (md 6)))], fo 8 (fPg cs PG) p0.toNatClampNeg]) (pcs := [wdP cs (PG p0.toNatClampNeg).h (PG p0.toNatClampNeg).r (PG p0.toNatClampNeg).g (PG p0.toNatClampNeg).tf (PG p0.toNatClampNeg).ta (PG p0.toNatClampNeg).pf (PG p0.toNatClampNeg).na (PG p0.toNatClampNeg).ma (PG p0.toNatClampNeg).wa (PG p0.toNatClampNeg).cf (PG p0.toNatClampNeg).ca (PG p0.toNatClampNeg).ef (PG p0.toNatClampNeg).ea (PG p0.toNatClampNeg).xf (PG p0.toNatClampNeg).xa, [((mr 1), .inl (cs 1, 2048, .inl (md 1)))]]) hw (oX_call (P := (fun A U H => (oN A U H) ∧ (oP A (PG p0.toNatClampNeg).g U H) ∧ ((vk_R "HomeSystemModel$Program" 688 "main" sk U ∧ oS A sk st 4 sb U H)))) (pr := [fm 13 (fPr cs hq qr QO QF QA), [(mo, .inr (11, [.int 0, .ref (mr 1), .int (mf 2), .int (mf 3), .ref (mr 4), .ref (mr 5), .ref (mr 6), .int (mf 7), .int (mf 8), .int (mf 9), .int (mf 10)]))], [((mr 4), .inl (cs 9, 8, .inr (.inr (.inr (.inr ((gMo PG hq) 4))))))], [((mr 5), .inl (cs 10, 13, .inr (.inr (.inr (.inr ((gMo PG hq) 5))))))], [((mr 6), .inl (cs 0, 128, .inl (md 6)))], fo 8 (fPg cs PG) p0.toNatClampNeg]) (oG_and oG_N (oG_and oG_P (oG_and oG_L oG_S))) hw hA ⟨hN, hP, hMn⟩) (px_recv hT hw 6 0 rfl rfl rfl) m11_130 m11_127 m11_128 m11_129 m1_21 q_Mpg_read ⟨Nat.le_of_ble_eq_true rfl, Nat.le_of_ble_eq_true rfl⟩ hl.1 rfl (Nat.le_of_ble_eq_true rfl) d_Mo_text_39 ⟨Nat.le_of_ble_eq_true rfl, Nat.le_of_ble_eq_true rfl⟩) hw hA (fun v37 p36 H locs hp36 hw => ?_)
      obtain ⟨tf24, ta25, pf26, na27, ma28, wa29, cf30, ca31, ef32, ea33, xf34, xa35, rfl, e38, e39, e40, e41, e42, e43⟩ := hp36
      have e38 : -1 ≤ v37.toInt := e38
      have e39 : (cf30 46).toInt = ((PG p0.toNatClampNeg).cf 46).toInt := e39
      have e40 : (cf30 47).toInt = ((PG p0.toNatClampNeg).cf 47).toInt := e40
      have e41 : (xf34 68).toInt = ((PG p0.toNatClampNeg).xf 68).toInt := e41
      have e42 : RdV v37.toInt (xf34 66).toInt (PgT tf24 cf30 ef32 ta25 na27 ma28 ca31 ea33) := e42
      have hrdv := e42
      have hrdn := RdV.n e42
      have e43 : R_mp_read sb (md 1) (mf 2) (PG p0.toNatClampNeg).tf (PG p0.toNatClampNeg).ta (PG p0.toNatClampNeg).pf (PG p0.toNatClampNeg).na (PG p0.toNatClampNeg).ma (PG p0.toNatClampNeg).wa (PG p0.toNatClampNeg).cf (PG p0.toNatClampNeg).ca (PG p0.toNatClampNeg).ef (PG p0.toNatClampNeg).ea (PG p0.toNatClampNeg).xf (PG p0.toNatClampNeg).xa tf24 ta25 pf26 na27 ma28 wa29 cf30 ca31 ef32 ea33 xf34 xa35 v37 := e43
      have hrdr := e43
      have hw : pw D A s.heap H locs [fm 13 (fPr cs hq qr QO QF QA), [(mo, .inr (11, [.int 0, .ref (mr 1), .int (mf 2), .int (mf 3), .ref (mr 4), .ref (mr 5), .ref (mr 6), .int (mf 7), .int (mf 8), .int (mf 9), .int (mf 10)]))], [((mr 4), .inl (cs 9, 8, .inr (.inr (.inr (.inr ((gMo PG hq) 4))))))], [((mr 5), .inl (cs 10, 13, .inr (.inr (.inr (.inr ((gMo PG hq) 5))))))], [((mr 6), .inl (cs 0, 128, .inl (md 6)))], fo 8 (fPg cs PG) p0.toNatClampNeg, wdP cs (PG p0.toNatClampNeg).h (PG p0.toNatClampNeg).r (PG p0.toNatClampNeg).g tf24 ta25 pf26 na27 ma28 wa29 cf30 ca31 ef32 ea33 xf34 xa35, [((mr 1), .inl (cs 1, 2048, .inl (md 1)))]] := hw
      have lv37 := Int32.le_toInt v37
      have uv37 := Int32.toInt_lt v37
      have hw : pw D A s.heap _ _ [fm 13 (fPr cs hq qr QO QF QA), fo 8 (fPg cs PG) p0.toNatClampNeg, wdP cs (PG p0.toNatClampNeg).h (PG p0.toNatClampNeg).r (PG p0.toNatClampNeg).g tf24 ta25 pf26 na27 ma28 wa29 cf30 ca31 ef32 ea33 xf34 xa35, [(mo, .inr (11, [.int 0, .ref (mr 1), .int (mf 2), .int (mf 3), .ref (mr 4), .ref (mr 5), .ref (mr 6), .int (mf 7), .int (mf 8), .int (mf 9), .int (mf 10)]))], [((mr 1), .inl (cs 1, 2048, .inl (md 1)))], [((mr 4), .inl (cs 9, 8, .inr (.inr (.inr (.inr ((gMo PG hq) 4))))))], [((mr 5), .inl (cs 10, 13, .inr (.inr (.inr (.inr ((gMo PG hq) 5))))))], [((mr 6), .inl (cs 0, 128, .inl (md 6)))]] := hw.sub [0, 5, 6, 1, 7, 2, 3, 4] rfl rfl; have hw : pw D A s.heap _ _ [fm 13 (fPr cs hq qr QO QF QA), fo 8 (fPg cs PG) p0.toNatClampNeg, wdP cs (PG p0.toNatClampNeg).h (PG p0.toNatClampNeg).r (PG p0.toNatClampNeg).g tf24 ta25 pf26 na27 ma28 wa29 cf30 ca31 ef32 ea33 xf34 xa35, wd_Mo cs mo mr (fun _ => none) (upd mf 0 0) md (gMo PG hq)] := hw.eq rfl
      refine lv_istore_n (lv' := [(2, .int v37), (0, .ref mo), (1, .int p0)]) S.x S.b d_Mo_text_42 rfl hl (by decide) rfl (fun ls hl => ?_)
      refine lv_aload_n S.x S.b d_Mo_text_43 rfl (lv_at hl 1 rfl) ?_
      refine lv_iconst (v := 0) S.x S.b d_Mo_text_44 (by decide) ?_
      refine px_put S k_Mo hT hw 3 0 2 rfl rfl (by decide) m11_80 rfl rfl rfl (Nat.le_of_ble_eq_true rfl) d_Mo_text_45 (w' := wd_Mo cs mo mr (fun _ => none) (upd (upd mf 0 0) 2 0) md (gMo PG hq)) (ps' := [fm 13 (fPr cs hq qr QO QF QA), fo 8 (fPg cs PG) p0.toNatClampNeg, wdP cs (PG p0.toNatClampNeg).h (PG p0.toNatClampNeg).r (PG p0.toNatClampNeg).g tf24 ta25 pf26 na27 ma28 wa29 cf30 ca31 ef32 ea33 xf34 xa35, wd_Mo cs mo mr (fun _ => none) (upd (upd mf 0 0) 2 0) md (gMo PG hq)]) rfl rfl (fun H locs hw => ?_)
      refine lv_aload_n S.x S.b d_Mo_text_48 rfl (lv_at hl 1 rfl) ?_
      refine lv_iload_n S.x S.b d_Mo_text_49 rfl (lv_at hl 0 rfl) ?_
      refine lv_if_ne (tgt := 57) S.x S.b d_Mo_text_50 (by decide) (fun c44 => ?_) (fun c44 => ?_)
      · have nc44 : ¬ v37.toInt = (0 : Int) := mt (i_eq (x := v37) (y := 0)).mpr c44
        refine lv_aload_n S.x S.b d_Mo_text_57 rfl (lv_at hl 1 rfl) ?_
        refine px_get S k_Mo hT hw 3 0 4 (v := .ref (mr 4)) rfl rfl rfl (by decide) m11_82 d_Mo_text_58 ?_
        refine lv_iload_n S.x S.b d_Mo_text_61 rfl (lv_at hl 2 rfl) ?_
        refine px_aaldS S hT hw 3 2 9 (n := 8) (f := ((gMo PG hq) 4)) rfl rfl rfl (x := p0) (vp_in_iff.mpr (by first | exact oz_f03bff5491 hc10 hj10 | (constructor <;> omega))) (sk := (PG p0.toNatClampNeg).h) rfl d_Mo_text_62 ?_
        refine px_getN S k_Mpg hT hw 2 0 32 (v := .int (cf30 32)) rfl rfl rfl (by decide) m10_20n d_Mo_text_63 ?_
        refine px_put S k_Mo hT hw 3 0 3 rfl rfl (by decide) m11_81 rfl rfl rfl (Nat.le_of_ble_eq_true rfl) d_Mo_text_66 (w' := wd_Mo cs mo mr (fun _ => none) (upd (upd (upd mf 0 0) 2 0) 3 (cf30 32)) md (gMo PG hq)) (ps' := [fm 13 (fPr cs hq qr QO QF QA), fo 8 (fPg cs PG) p0.toNatClampNeg, wdP cs (PG p0.toNatClampNeg).h (PG p0.toNatClampNeg).r (PG p0.toNatClampNeg).g tf24 ta25 pf26 na27 ma28 wa29 cf30 ca31 ef32 ea33 xf34 xa35, wd_Mo cs mo mr (fun _ => none) (upd (upd (upd mf 0 0) 2 0) 3 (cf30 32)) md (gMo PG hq)]) rfl rfl (fun H locs hw => ?_)
        refine lv_iload_n S.x S.b d_Mo_text_69 rfl (lv_at hl 0 rfl) ?_
        have hw : pw D A s.heap _ _ [fm 13 (fPr cs hq qr QO QF QA), wd_Mo cs mo mr (fun _ => none) (upd (upd (upd mf 0 0) 2 0) 3 (cf30 32)) md (gMo PG hq), fo 8 (fPg cs PG) p0.toNatClampNeg, wdP cs (PG p0.toNatClampNeg).h (PG p0.toNatClampNeg).r (PG p0.toNatClampNeg).g tf24 ta25 pf26 na27 ma28 wa29 cf30 ca31 ef32 ea33 xf34 xa35] := hw.sub [0, 3, 1, 2] rfl rfl
        have hw := fpg_in (pr := [fm 13 (fPr cs hq qr QO QF QA), wd_Mo cs mo mr (fun _ => none) (upd (upd (upd mf 0 0) 2 0) 3 (cf30 32)) md (gMo PG hq)]) hw hj10
        obtain ⟨PG46, hu_PG46⟩ : ∃ y : Nat → Pgs, y = va_up PG p0.toNatClampNeg ⟨(PG p0.toNatClampNeg).h, (PG p0.toNatClampNeg).r, (PG p0.toNatClampNeg).g, tf24, ta25, pf26, na27, ma28, wa29, cf30, ca31, ef32, ea33, xf34, xa35⟩ := ⟨_, rfl⟩
        have hgs : PgS PG PG46 := (by rw [hu_PG46]; exact pgs_up rfl rfl rfl)
        have hw : pw D A s.heap _ _ [fm 13 (fPr cs hq qr QO QF QA), wd_Mo cs mo mr (fun _ => none) (upd (upd (upd mf 0 0) 2 0) 3 (cf30 32)) md (gMo PG hq), fm 8 (fPg cs PG46)] := (by rw [hu_PG46]; exact hw)
        have hw : pw D A s.heap _ _ [fm 13 (fPr cs hq qr QO QF QA), wd_Mo cs mo mr (fun _ => none) (upd (upd (upd mf 0 0) 2 0) 3 (cf30 32)) md (gMo PG46 hq), fm 8 (fPg cs PG46)] := (by have q8 := hw; rw [gmo_up (hq := hq) hgs] at q8; exact q8)
        have hpg : PgA PG46 := (by rw [hu_PG46]; exact PgA.up hpg (pgo_rd hrdv (show 0 ≤ (cf30 46).toInt ∧ (cf30 46).toInt ≤ 1 from by omega) (show 0 ≤ (cf30 47).toInt ∧ (cf30 47).toInt ≤ 1 from by omega) (show 0 ≤ (xf34 68).toInt ∧ (xf34 68).toInt ≤ 512 from by omega)))
        have hso : SoK PG PG46 p0 := (by rw [hu_PG46]; exact SoK.up SoK.rf (by omega))
        have hs66_PG46 : ((PG46 p0.toNatClampNeg).xf 66).toInt = (xf34 66).toInt := (by rw [hu_PG46, va_up_s]; try rfl)
        have hw : pw D A s.heap _ _ [wd_Mo cs mo mr (fun _ => none) (upd (upd (upd mf 0 0) 2 0) 3 (cf30 32)) md (gMo PG46 hq), fm 13 (fPr cs hq qr QO QF QA), fm 8 (fPg cs PG46)] := hw.sub [1, 0, 2] rfl rfl
        exact px_iret (v := v37) S hr rfl hlk hAe hw (Nat.le_of_ble_eq_true rfl) (Nat.le_of_ble_eq_true rfl) (⟨(upd (upd (upd mf 0 0) 2 0) 3 (cf30 32)), PG46, rfl, (show PgA PG46 from hpg), (show PgS PG PG46 from hgs), (show (mf 10).toInt = (mf 10).toInt from rfl), (show 0 ≤ (0 : Int) from by first | exact oz_5a341f00aa | omega), (show (0 : Int) ≤ 2048 from by first | exact oz_b3869020ab | omega), (show SoK PG PG46 p0 from hso), (show RdQ sb (md 1) (mf 2) p0 v37 from (fun _ => rdx_mk hrdr)), (show ((0 : Int) = 0 ∧ 0 ≤ p0.toInt ∧ p0.toInt < 8 ∧ (0 : Int) = 0 ∧ ((v37.toInt = 0 ∧ ((PG46 p0.toNatClampNeg).xf 66).toInt = 1) ∨ (v37.toInt ≠ 0 ∧ ((PG46 p0.toNatClampNeg).xf 66).toInt = 0))) ∨ ((0 : Int) = 1 ∧ (p0.toInt < 0 ∨ 8 ≤ p0.toInt) ∧ (0 : Int) = (mf 2).toInt) from by omega)⟩) d_Mo_text_70
      · have nc44 : v37.toInt = (0 : Int) := (i_eq (x := v37) (y := 0)).mp c44
        refine lv_iconst (v := 0) S.x S.b d_Mo_text_53 (by decide) ?_
        refine lv_goto (tgt := 66) S.x S.b d_Mo_text_54 (by decide) ?_
        refine px_put S k_Mo hT hw 3 0 3 rfl rfl (by decide) m11_81 rfl rfl rfl (Nat.le_of_ble_eq_true rfl) d_Mo_text_66 (w' := wd_Mo cs mo mr (fun _ => none) (upd (upd (upd mf 0 0) 2 0) 3 0) md (gMo PG hq)) (ps' := [fm 13 (fPr cs hq qr QO QF QA), fo 8 (fPg cs PG) p0.toNatClampNeg, wdP cs (PG p0.toNatClampNeg).h (PG p0.toNatClampNeg).r (PG p0.toNatClampNeg).g tf24 ta25 pf26 na27 ma28 wa29 cf30 ca31 ef32 ea33 xf34 xa35, wd_Mo cs mo mr (fun _ => none) (upd (upd (upd mf 0 0) 2 0) 3 0) md (gMo PG hq)]) rfl rfl (fun H locs hw => ?_)
        refine lv_iload_n S.x S.b d_Mo_text_69 rfl (lv_at hl 0 rfl) ?_
        have hw : pw D A s.heap _ _ [fm 13 (fPr cs hq qr QO QF QA), wd_Mo cs mo mr (fun _ => none) (upd (upd (upd mf 0 0) 2 0) 3 0) md (gMo PG hq), fo 8 (fPg cs PG) p0.toNatClampNeg, wdP cs (PG p0.toNatClampNeg).h (PG p0.toNatClampNeg).r (PG p0.toNatClampNeg).g tf24 ta25 pf26 na27 ma28 wa29 cf30 ca31 ef32 ea33 xf34 xa35] := hw.sub [0, 3, 1, 2] rfl rfl
        have hw := fpg_in (pr := [fm 13 (fPr cs hq qr QO QF QA), wd_Mo cs mo mr (fun _ => none) (upd (upd (upd mf 0 0) 2 0) 3 0) md (gMo PG hq)]) hw hj10
        obtain ⟨PG47, hu_PG47⟩ : ∃ y : Nat → Pgs, y = va_up PG p0.toNatClampNeg ⟨(PG p0.toNatClampNeg).h, (PG p0.toNatClampNeg).r, (PG p0.toNatClampNeg).g, tf24, ta25, pf26, na27, ma28, wa29, cf30, ca31, ef32, ea33, xf34, xa35⟩ := ⟨_, rfl⟩
        have hgs : PgS PG PG47 := (by rw [hu_PG47]; exact pgs_up rfl rfl rfl)
        have hw : pw D A s.heap _ _ [fm 13 (fPr cs hq qr QO QF QA), wd_Mo cs mo mr (fun _ => none) (upd (upd (upd mf 0 0) 2 0) 3 0) md (gMo PG hq), fm 8 (fPg cs PG47)] := (by rw [hu_PG47]; exact hw)
        have hw : pw D A s.heap _ _ [fm 13 (fPr cs hq qr QO QF QA), wd_Mo cs mo mr (fun _ => none) (upd (upd (upd mf 0 0) 2 0) 3 0) md (gMo PG47 hq), fm 8 (fPg cs PG47)] := (by have q8 := hw; rw [gmo_up (hq := hq) hgs] at q8; exact q8)
        have hpg : PgA PG47 := (by rw [hu_PG47]; exact PgA.up hpg (pgo_rd hrdv (show 0 ≤ (cf30 46).toInt ∧ (cf30 46).toInt ≤ 1 from by omega) (show 0 ≤ (cf30 47).toInt ∧ (cf30 47).toInt ≤ 1 from by omega) (show 0 ≤ (xf34 68).toInt ∧ (xf34 68).toInt ≤ 512 from by omega)))
        have hso : SoK PG PG47 p0 := (by rw [hu_PG47]; exact SoK.up SoK.rf (by omega))
        have hs66_PG47 : ((PG47 p0.toNatClampNeg).xf 66).toInt = (xf34 66).toInt := (by rw [hu_PG47, va_up_s]; try rfl)
        have hw : pw D A s.heap _ _ [wd_Mo cs mo mr (fun _ => none) (upd (upd (upd mf 0 0) 2 0) 3 0) md (gMo PG47 hq), fm 13 (fPr cs hq qr QO QF QA), fm 8 (fPg cs PG47)] := hw.sub [1, 0, 2] rfl rfl
        exact px_iret (v := v37) S hr rfl hlk hAe hw (Nat.le_of_ble_eq_true rfl) (Nat.le_of_ble_eq_true rfl) (⟨(upd (upd (upd mf 0 0) 2 0) 3 0), PG47, rfl, (show PgA PG47 from hpg), (show PgS PG PG47 from hgs), (show (mf 10).toInt = (mf 10).toInt from rfl), (show 0 ≤ (0 : Int) from by first | exact oz_5a341f00aa | omega), (show (0 : Int) ≤ 2048 from by first | exact oz_b3869020ab | omega), (show SoK PG PG47 p0 from hso), (show RdQ sb (md 1) (mf 2) p0 v37 from (fun _ => rdx_mk hrdr)), (show ((0 : Int) = 0 ∧ 0 ≤ p0.toInt ∧ p0.toInt < 8 ∧ (0 : Int) = 0 ∧ ((v37.toInt = 0 ∧ ((PG47 p0.toNatClampNeg).xf 66).toInt = 1) ∨ (v37.toInt ≠ 0 ∧ ((PG47 p0.toNatClampNeg).xf 66).toInt = 0))) ∨ ((0 : Int) = 1 ∧ (p0.toInt < 0 ∨ 8 ≤ p0.toInt) ∧ (0 : Int) = (mf 2).toInt) from by omega)⟩) d_Mo_text_70
    · exact absurd c9 (by decide)
abbrev b_Mo_raw : ByteArray := prog_14_method_8_code
def y_Mo_raw : MethodName := ⟨"HomeSystemModel", "raw", "(I)I"⟩
theorem d_Mo_raw_0 : decode b_Mo_raw 0 = .ok (.aload_n 0, 1) := by decide +kernel
theorem d_Mo_raw_1 : decode b_Mo_raw 1 = .ok (.iload_n 1, 1) := by decide +kernel
theorem d_Mo_raw_2 : decode b_Mo_raw 2 = .ok (.invokestatic 41, 3) := by decide +kernel
theorem d_Mo_raw_5 : decode b_Mo_raw 5 = .ok (.ifCond .eq 7, 3) := by decide +kernel
theorem d_Mo_raw_8 : decode b_Mo_raw 8 = .ok (.iconst 0, 1) := by decide +kernel
theorem d_Mo_raw_9 : decode b_Mo_raw 9 = .ok (.goto 4, 3) := by decide +kernel
theorem d_Mo_raw_12 : decode b_Mo_raw 12 = .ok (.iconst 1, 1) := by decide +kernel
theorem d_Mo_raw_13 : decode b_Mo_raw 13 = .ok (.putfield 35, 3) := by decide +kernel
theorem d_Mo_raw_16 : decode b_Mo_raw 16 = .ok (.aload_n 0, 1) := by decide +kernel
theorem d_Mo_raw_17 : decode b_Mo_raw 17 = .ok (.getfield 35, 3) := by decide +kernel
theorem d_Mo_raw_20 : decode b_Mo_raw 20 = .ok (.ifCond .le 5, 3) := by decide +kernel
theorem d_Mo_raw_23 : decode b_Mo_raw 23 = .ok (.iconst 0, 1) := by decide +kernel
theorem d_Mo_raw_24 : decode b_Mo_raw 24 = .ok (.ireturn, 1) := by decide +kernel
theorem d_Mo_raw_25 : decode b_Mo_raw 25 = .ok (.aload_n 0, 1) := by decide +kernel
theorem d_Mo_raw_26 : decode b_Mo_raw 26 = .ok (.getfield 15, 3) := by decide +kernel
theorem d_Mo_raw_29 : decode b_Mo_raw 29 = .ok (.iload_n 1, 1) := by decide +kernel
theorem d_Mo_raw_30 : decode b_Mo_raw 30 = .ok (.aaload, 1) := by decide +kernel
theorem d_Mo_raw_31 : decode b_Mo_raw 31 = .ok (.astore_n 2, 1) := by decide +kernel
theorem d_Mo_raw_32 : decode b_Mo_raw 32 = .ok (.aload_n 0, 1) := by decide +kernel
theorem d_Mo_raw_33 : decode b_Mo_raw 33 = .ok (.getfield 38, 3) := by decide +kernel
theorem d_Mo_raw_36 : decode b_Mo_raw 36 = .ok (.iconst 4, 1) := by decide +kernel
theorem d_Mo_raw_37 : decode b_Mo_raw 37 = .ok (.idiv, 1) := by decide +kernel
theorem d_Mo_raw_38 : decode b_Mo_raw 38 = .ok (.istore_n 3, 1) := by decide +kernel
theorem d_Mo_raw_39 : decode b_Mo_raw 39 = .ok (.iconst 0, 1) := by decide +kernel
theorem d_Mo_raw_40 : decode b_Mo_raw 40 = .ok (.istore 4, 2) := by decide +kernel
theorem d_Mo_raw_42 : decode b_Mo_raw 42 = .ok (.iload 4, 2) := by decide +kernel
theorem d_Mo_raw_44 : decode b_Mo_raw 44 = .ok (.iload_n 3, 1) := by decide +kernel
theorem d_Mo_raw_45 : decode b_Mo_raw 45 = .ok (.if_icmp .ge 86, 3) := by decide +kernel
theorem d_Mo_raw_48 : decode b_Mo_raw 48 = .ok (.aload_n 2, 1) := by decide +kernel
theorem d_Mo_raw_49 : decode b_Mo_raw 49 = .ok (.getfield 55, 3) := by decide +kernel
theorem d_Mo_raw_52 : decode b_Mo_raw 52 = .ok (.iload 4, 2) := by decide +kernel
theorem d_Mo_raw_54 : decode b_Mo_raw 54 = .ok (.aload_n 0, 1) := by decide +kernel
theorem d_Mo_raw_55 : decode b_Mo_raw 55 = .ok (.getfield 7, 3) := by decide +kernel
theorem d_Mo_raw_58 : decode b_Mo_raw 58 = .ok (.iconst 4, 1) := by decide +kernel
theorem d_Mo_raw_59 : decode b_Mo_raw 59 = .ok (.iload 4, 2) := by decide +kernel
theorem d_Mo_raw_61 : decode b_Mo_raw 61 = .ok (.imul, 1) := by decide +kernel
theorem d_Mo_raw_62 : decode b_Mo_raw 62 = .ok (.baload, 1) := by decide +kernel
theorem d_Mo_raw_63 : decode b_Mo_raw 63 = .ok (.sipush 255, 3) := by decide +kernel
theorem d_Mo_raw_66 : decode b_Mo_raw 66 = .ok (.iand, 1) := by decide +kernel
theorem d_Mo_raw_67 : decode b_Mo_raw 67 = .ok (.aload_n 0, 1) := by decide +kernel
theorem d_Mo_raw_68 : decode b_Mo_raw 68 = .ok (.getfield 7, 3) := by decide +kernel
theorem d_Mo_raw_71 : decode b_Mo_raw 71 = .ok (.iconst 4, 1) := by decide +kernel
theorem d_Mo_raw_72 : decode b_Mo_raw 72 = .ok (.iload 4, 2) := by decide +kernel
theorem d_Mo_raw_74 : decode b_Mo_raw 74 = .ok (.imul, 1) := by decide +kernel
theorem d_Mo_raw_75 : decode b_Mo_raw 75 = .ok (.iconst 1, 1) := by decide +kernel
theorem d_Mo_raw_76 : decode b_Mo_raw 76 = .ok (.iadd, 1) := by decide +kernel
theorem d_Mo_raw_77 : decode b_Mo_raw 77 = .ok (.baload, 1) := by decide +kernel
theorem d_Mo_raw_78 : decode b_Mo_raw 78 = .ok (.sipush 255, 3) := by decide +kernel
theorem d_Mo_raw_81 : decode b_Mo_raw 81 = .ok (.iand, 1) := by decide +kernel
theorem d_Mo_raw_82 : decode b_Mo_raw 82 = .ok (.bipush 8, 2) := by decide +kernel
theorem d_Mo_raw_84 : decode b_Mo_raw 84 = .ok (.ishl, 1) := by decide +kernel
theorem d_Mo_raw_85 : decode b_Mo_raw 85 = .ok (.ior, 1) := by decide +kernel
theorem d_Mo_raw_86 : decode b_Mo_raw 86 = .ok (.aload_n 0, 1) := by decide +kernel
theorem d_Mo_raw_87 : decode b_Mo_raw 87 = .ok (.getfield 7, 3) := by decide +kernel
theorem d_Mo_raw_90 : decode b_Mo_raw 90 = .ok (.iconst 4, 1) := by decide +kernel
theorem d_Mo_raw_91 : decode b_Mo_raw 91 = .ok (.iload 4, 2) := by decide +kernel
theorem d_Mo_raw_93 : decode b_Mo_raw 93 = .ok (.imul, 1) := by decide +kernel
theorem d_Mo_raw_94 : decode b_Mo_raw 94 = .ok (.iconst 2, 1) := by decide +kernel
theorem d_Mo_raw_95 : decode b_Mo_raw 95 = .ok (.iadd, 1) := by decide +kernel
theorem d_Mo_raw_96 : decode b_Mo_raw 96 = .ok (.baload, 1) := by decide +kernel
theorem d_Mo_raw_97 : decode b_Mo_raw 97 = .ok (.sipush 255, 3) := by decide +kernel
theorem d_Mo_raw_100 : decode b_Mo_raw 100 = .ok (.iand, 1) := by decide +kernel
theorem d_Mo_raw_101 : decode b_Mo_raw 101 = .ok (.bipush 16, 2) := by decide +kernel
theorem d_Mo_raw_103 : decode b_Mo_raw 103 = .ok (.ishl, 1) := by decide +kernel
theorem d_Mo_raw_104 : decode b_Mo_raw 104 = .ok (.ior, 1) := by decide +kernel
theorem d_Mo_raw_105 : decode b_Mo_raw 105 = .ok (.aload_n 0, 1) := by decide +kernel
theorem d_Mo_raw_106 : decode b_Mo_raw 106 = .ok (.getfield 7, 3) := by decide +kernel
theorem d_Mo_raw_109 : decode b_Mo_raw 109 = .ok (.iconst 4, 1) := by decide +kernel
theorem d_Mo_raw_110 : decode b_Mo_raw 110 = .ok (.iload 4, 2) := by decide +kernel
theorem d_Mo_raw_112 : decode b_Mo_raw 112 = .ok (.imul, 1) := by decide +kernel
theorem d_Mo_raw_113 : decode b_Mo_raw 113 = .ok (.iconst 3, 1) := by decide +kernel
theorem d_Mo_raw_114 : decode b_Mo_raw 114 = .ok (.iadd, 1) := by decide +kernel
theorem d_Mo_raw_115 : decode b_Mo_raw 115 = .ok (.baload, 1) := by decide +kernel
theorem d_Mo_raw_116 : decode b_Mo_raw 116 = .ok (.sipush 255, 3) := by decide +kernel
theorem d_Mo_raw_119 : decode b_Mo_raw 119 = .ok (.iand, 1) := by decide +kernel
theorem d_Mo_raw_120 : decode b_Mo_raw 120 = .ok (.bipush 24, 2) := by decide +kernel
theorem d_Mo_raw_122 : decode b_Mo_raw 122 = .ok (.ishl, 1) := by decide +kernel
theorem d_Mo_raw_123 : decode b_Mo_raw 123 = .ok (.ior, 1) := by decide +kernel
theorem d_Mo_raw_124 : decode b_Mo_raw 124 = .ok (.iastore, 1) := by decide +kernel
theorem d_Mo_raw_125 : decode b_Mo_raw 125 = .ok (.iinc 4 1, 3) := by decide +kernel
theorem d_Mo_raw_128 : decode b_Mo_raw 128 = .ok (.goto (-86), 3) := by decide +kernel
theorem d_Mo_raw_131 : decode b_Mo_raw 131 = .ok (.aload_n 2, 1) := by decide +kernel
theorem d_Mo_raw_132 : decode b_Mo_raw 132 = .ok (.iload_n 3, 1) := by decide +kernel
theorem d_Mo_raw_133 : decode b_Mo_raw 133 = .ok (.putfield 58, 3) := by decide +kernel
theorem d_Mo_raw_136 : decode b_Mo_raw 136 = .ok (.aload_n 2, 1) := by decide +kernel
theorem d_Mo_raw_137 : decode b_Mo_raw 137 = .ok (.iload_n 3, 1) := by decide +kernel
theorem d_Mo_raw_138 : decode b_Mo_raw 138 = .ok (.ifCond .le 7, 3) := by decide +kernel
theorem d_Mo_raw_141 : decode b_Mo_raw 141 = .ok (.iconst 2, 1) := by decide +kernel
theorem d_Mo_raw_142 : decode b_Mo_raw 142 = .ok (.goto 4, 3) := by decide +kernel
theorem d_Mo_raw_145 : decode b_Mo_raw 145 = .ok (.iconst 0, 1) := by decide +kernel
theorem d_Mo_raw_146 : decode b_Mo_raw 146 = .ok (.putfield 61, 3) := by decide +kernel
theorem d_Mo_raw_149 : decode b_Mo_raw 149 = .ok (.aload_n 0, 1) := by decide +kernel
theorem d_Mo_raw_150 : decode b_Mo_raw 150 = .ok (.iconst 0, 1) := by decide +kernel
theorem d_Mo_raw_151 : decode b_Mo_raw 151 = .ok (.putfield 38, 3) := by decide +kernel
theorem d_Mo_raw_154 : decode b_Mo_raw 154 = .ok (.iload_n 3, 1) := by decide +kernel
theorem d_Mo_raw_155 : decode b_Mo_raw 155 = .ok (.ifCond .le 7, 3) := by decide +kernel
theorem d_Mo_raw_158 : decode b_Mo_raw 158 = .ok (.iload_n 3, 1) := by decide +kernel
theorem d_Mo_raw_159 : decode b_Mo_raw 159 = .ok (.goto 4, 3) := by decide +kernel
theorem d_Mo_raw_162 : decode b_Mo_raw 162 = .ok (.iconst (-1), 1) := by decide +kernel
theorem d_Mo_raw_163 : decode b_Mo_raw 163 = .ok (.ireturn, 1) := by decide +kernel
theorem q_Mo_raw : px_y y_Mo_raw 1 := by unfold px_y; decide +kernel
set_option maxHeartbeats 4000000 in
set_option maxRecDepth 100000 in
theorem c_mo_raw (l : Launch) (D : va_G) (cs : Nat → ClassId) (mo : Nat) (mr : Nat → Nat) (md : Nat → Nat → Int32) (mf : Nat → Int32) (hq : Nat → Nat) (qr : Nat → Nat → Nat) (QO : Nat → Option Nat) (QF : Nat → Nat → Int32) (QA : Nat → Nat → Nat → Int32) (PG : Nat → Pgs) (p0 : Int32)  (g0 : 0 ≤ (mf 2).toInt) (g1 : (mf 2).toInt ≤ 2048) (hpn : PrN QF) (hpg : PgA PG) : MetI l y_Mo_raw b_Mo_raw 5 (.int) D cs 1 40 (0) (0) [.ref mo, .int p0] [wd_Mo cs mo mr (fun _ => none) mf md (gMo PG hq), fm 13 (fPr cs hq qr QO QF QA), fm 8 (fPg cs PG)] (fun _ => True) (fun v ps => ∃ (mf' : Nat → Int32) (PG' : Nat → Pgs), (ps = [wd_Mo cs mo mr (fun _ => none) mf' md (gMo PG' hq), fm 13 (fPr cs hq qr QO QF QA), fm 8 (fPg cs PG')]) ∧ (PgA PG') ∧ (PgS PG PG') ∧ ((mf' 10).toInt = (mf 10).toInt) ∧ (0 ≤ (mf' 2).toInt) ∧ ((mf' 2).toInt ≤ 2048) ∧ (SoK PG PG' p0) ∧ (((mf' 0).toInt = 0 ∧ 0 ≤ p0.toInt ∧ p0.toInt < 8 ∧ (mf' 2).toInt = 0 ∧ (((mf 2).toInt < 4 ∧ v.toInt = -1) ∨ (4 ≤ (mf 2).toInt ∧ 4 * v.toInt ≤ (mf 2).toInt ∧ (mf 2).toInt < 4 * v.toInt + 4)) ∧ ((v.toInt < 0 ∧ ((PG' p0.toNatClampNeg).xf 66).toInt = 0) ∨ (0 ≤ v.toInt ∧ ((PG' p0.toNatClampNeg).xf 66).toInt = 2))) ∨ ((mf' 0).toInt = 1 ∧ (p0.toInt < 0 ∨ 8 ≤ p0.toInt) ∧ (mf' 2).toInt = (mf 2).toInt))) := by
  refine px_enter (by decide) (Nat.le_of_ble_eq_true rfl) ?_
  intro p e s m below meth c A ls hAe S hr hlk hnm hA hT hX hw hl
  have hl : lv_has ls 5 [(0, .ref mo), (1, .int p0)] := hl
  have lp0 := Int32.le_toInt p0
  have up0 := Int32.toInt_lt p0
  have cstm1 : ((-1) : Int32).toInt = (-1) := rfl
  have cst0 : (0 : Int32).toInt = 0 := rfl
  have cst1 : (1 : Int32).toInt = 1 := rfl
  have cst2 : (2 : Int32).toInt = 2 := rfl
  have cst3 : (3 : Int32).toInt = 3 := rfl
  have cst4 : (4 : Int32).toInt = 4 := rfl
  have cst8 : (8 : Int32).toInt = 8 := rfl
  have cst16 : (16 : Int32).toInt = 16 := rfl
  have cst24 : (24 : Int32).toInt = 24 := rfl
  have cst255 : (255 : Int32).toInt = 255 := rfl
  have J42 : ∀ (n_42 : Nat) (mf_42 : Nat → Int32) (PG_42 : Nat → Pgs) (x42_3 x42_4 : Int32) (H : Heap) (locs : List Loc) (ls : Array Slot), (PgA PG_42) → (PgS PG PG_42) → (SoK PG PG_42 p0) → ((mf_42 10).toInt = (mf 10).toInt) → ((mf_42 2).toInt = (mf 2).toInt) → (0 ≤ p0.toInt) → (p0.toInt < 8) → (0 ≤ x42_4.toInt) → (x42_4.toInt ≤ x42_3.toInt) → (4 * x42_3.toInt ≤ (mf 2).toInt) → (x42_3.toInt ≤ 512) → ((mf_42 0).toInt = 0) → ((mf 2).toInt < 4 * x42_3.toInt + 4) → x42_3.toInt - x42_4.toInt < (n_42 : Int) → pw D A s.heap H locs [wd_Mo cs mo mr (fun _ => none) mf_42 md (gMo PG_42 hq), fm 13 (fPr cs hq qr QO QF QA), fm 8 (fPg cs PG_42)] → lv_has ls 5 [(0, .ref mo), (1, .int p0), (2, .ref (PG p0.toNatClampNeg).h), (3, .int x42_3), (4, .int x42_4)] → W p l e { frames := 1, cells := 0, slots := 0, locals := 40 } s m [.ref mo, .int p0].toArray below meth c H locs 0 0 (MQ below (va_Qi (fun v ps => ∃ (mf' : Nat → Int32) (PG' : Nat → Pgs), (ps = [wd_Mo cs mo mr (fun _ => none) mf' md (gMo PG' hq), fm 13 (fPr cs hq qr QO QF QA), fm 8 (fPg cs PG')]) ∧ (PgA PG') ∧ (PgS PG PG') ∧ ((mf' 10).toInt = (mf 10).toInt) ∧ (0 ≤ (mf' 2).toInt) ∧ ((mf' 2).toInt ≤ 2048) ∧ (SoK PG PG' p0) ∧ (((mf' 0).toInt = 0 ∧ 0 ≤ p0.toInt ∧ p0.toInt < 8 ∧ (mf' 2).toInt = 0 ∧ (((mf 2).toInt < 4 ∧ v.toInt = -1) ∨ (4 ≤ (mf 2).toInt ∧ 4 * v.toInt ≤ (mf 2).toInt ∧ (mf 2).toInt < 4 * v.toInt + 4)) ∧ ((v.toInt < 0 ∧ ((PG' p0.toNatClampNeg).xf 66).toInt = 0) ∨ (0 ≤ v.toInt ∧ ((PG' p0.toNatClampNeg).xf 66).toInt = 2))) ∨ ((mf' 0).toInt = 1 ∧ (p0.toInt < 0 ∨ 8 ≤ p0.toInt) ∧ (mf' 2).toInt = (mf 2).toInt))) (pc_B D (va_A ([wd_Mo cs mo mr (fun _ => none) mf md (gMo PG hq), fm 13 (fPr cs hq qr QO QF QA), fm 8 (fPg cs PG)] : List va_W).flatten s.heap.size)) (va_A ([wd_Mo cs mo mr (fun _ => none) mf md (gMo PG hq), fm 13 (fPr cs hq qr QO QF QA), fm 8 (fPg cs PG)] : List va_W).flatten s.heap.size)) [.ref mo, .int p0].toArray s 0 0 A) (F0 m 42 ls []) := by
    intro  n_42
    induction n_42 with
    | zero =>
      intro mf_42 PG_42 x42_3 x42_4 H locs ls k42_0 k42_1 k42_2 k42_3 k42_4 k42_5 k42_6 k42_7 k42_8 k42_9 k42_10 k42_11 k42_12 hm hw hl
      have lx42_3 := Int32.le_toInt x42_3
      have ux42_3 := Int32.toInt_lt x42_3
      have lx42_4 := Int32.le_toInt x42_4
      have ux42_4 := Int32.toInt_lt x42_4
      have hpg := k42_0
      have hgs := k42_1
      have hso := k42_2
      exact absurd hm (by omega)
    | succ n_42 ih42 =>
      intro mf_42 PG_42 x42_3 x42_4 H locs ls k42_0 k42_1 k42_2 k42_3 k42_4 k42_5 k42_6 k42_7 k42_8 k42_9 k42_10 k42_11 k42_12 hm hw hl
      have lx42_3 := Int32.le_toInt x42_3
      have ux42_3 := Int32.toInt_lt x42_3
      have lx42_4 := Int32.le_toInt x42_4
      have ux42_4 := Int32.toInt_lt x42_4
      have hpg := k42_0
      have hgs := k42_1
      have hso := k42_2
      refine lv_iload S.x S.b d_Mo_raw_42 (lv_at hl 4 rfl) ?_
      refine lv_iload_n S.x S.b d_Mo_raw_44 rfl (lv_at hl 3 rfl) ?_
      refine lv_icmp_ge (tgt := 131) S.x S.b d_Mo_raw_45 (by decide) (fun c1 => ?_) (fun c1 => ?_)
      · have nc1 : x42_3.toInt ≤ x42_4.toInt := (i_le (x := x42_3) (y := x42_4)).mp c1
        refine lv_aload_n S.x S.b d_Mo_raw_131 rfl (lv_at hl 2 rfl) ?_
        refine lv_iload_n S.x S.b d_Mo_raw_132 rfl (lv_at hl 3 rfl) ?_
        have hc3 := cl_nat (x := p0) (by first | exact k42_5 | omega)
        have hj3 : p0.toNatClampNeg < 8 := by first | exact oz_988ece23c5 hc3 k42_6 | omega
        have hw : pw D A s.heap _ _ [wd_Mo cs mo mr (fun _ => none) mf_42 md (gMo PG_42 hq), fm 13 (fPr cs hq qr QO QF QA), fo 8 (fPg cs PG_42) p0.toNatClampNeg, wdP cs (PG_42 p0.toNatClampNeg).h (PG_42 p0.toNatClampNeg).r (PG_42 p0.toNatClampNeg).g (PG_42 p0.toNatClampNeg).tf (PG_42 p0.toNatClampNeg).ta (PG_42 p0.toNatClampNeg).pf (PG_42 p0.toNatClampNeg).na (PG_42 p0.toNatClampNeg).ma (PG_42 p0.toNatClampNeg).wa (PG_42 p0.toNatClampNeg).cf (PG_42 p0.toNatClampNeg).ca (PG_42 p0.toNatClampNeg).ef (PG_42 p0.toNatClampNeg).ea (PG_42 p0.toNatClampNeg).xf (PG_42 p0.toNatClampNeg).xa] := fm_out (pr := [wd_Mo cs mo mr (fun _ => none) mf_42 md (gMo PG_42 hq), fm 13 (fPr cs hq qr QO QF QA)]) (T := fPg cs PG_42) hw hj3
        have hpo4 := hpg p0.toNatClampNeg hj3
        have hp14 := hpo4.1
        have hp24 := hpo4.2.1
        have hw : pw D A s.heap _ _ [wd_Mo cs mo mr (fun _ => none) mf_42 md (gMo PG_42 hq), fm 13 (fPr cs hq qr QO QF QA), fo 8 (fPg cs PG_42) p0.toNatClampNeg, wdP cs (PG p0.toNatClampNeg).h (PG_42 p0.toNatClampNeg).r (PG_42 p0.toNatClampNeg).g (PG_42 p0.toNatClampNeg).tf (PG_42 p0.toNatClampNeg).ta (PG_42 p0.toNatClampNeg).pf (PG_42 p0.toNatClampNeg).na (PG_42 p0.toNatClampNeg).ma (PG_42 p0.toNatClampNeg).wa (PG_42 p0.toNatClampNeg).cf (PG_42 p0.toNatClampNeg).ca (PG_42 p0.toNatClampNeg).ef (PG_42 p0.toNatClampNeg).ea (PG_42 p0.toNatClampNeg).xf (PG_42 p0.toNatClampNeg).xa] := (by have q8 := hw; rw [show (PG_42 p0.toNatClampNeg).h = (PG p0.toNatClampNeg).h from (hgs p0.toNatClampNeg).1] at q8; exact q8)
        refine px_put S k_Mpg hT hw 3 0 68 rfl rfl (by decide) m10_72 rfl rfl rfl (Nat.le_of_ble_eq_true rfl) d_Mo_raw_133 (w' := wdP cs (PG p0.toNatClampNeg).h (PG_42 p0.toNatClampNeg).r (PG_42 p0.toNatClampNeg).g (PG_42 p0.toNatClampNeg).tf (PG_42 p0.toNatClampNeg).ta (PG_42 p0.toNatClampNeg).pf (PG_42 p0.toNatClampNeg).na (PG_42 p0.toNatClampNeg).ma (PG_42 p0.toNatClampNeg).wa (PG_42 p0.toNatClampNeg).cf (PG_42 p0.toNatClampNeg).ca (PG_42 p0.toNatClampNeg).ef (PG_42 p0.toNatClampNeg).ea (upd (PG_42 p0.toNatClampNeg).xf 68 x42_3) (PG_42 p0.toNatClampNeg).xa) (ps' := [wd_Mo cs mo mr (fun _ => none) mf_42 md (gMo PG_42 hq), fm 13 (fPr cs hq qr QO QF QA), fo 8 (fPg cs PG_42) p0.toNatClampNeg, wdP cs (PG p0.toNatClampNeg).h (PG_42 p0.toNatClampNeg).r (PG_42 p0.toNatClampNeg).g (PG_42 p0.toNatClampNeg).tf (PG_42 p0.toNatClampNeg).ta (PG_42 p0.toNatClampNeg).pf (PG_42 p0.toNatClampNeg).na (PG_42 p0.toNatClampNeg).ma (PG_42 p0.toNatClampNeg).wa (PG_42 p0.toNatClampNeg).cf (PG_42 p0.toNatClampNeg).ca (PG_42 p0.toNatClampNeg).ef (PG_42 p0.toNatClampNeg).ea (upd (PG_42 p0.toNatClampNeg).xf 68 x42_3) (PG_42 p0.toNatClampNeg).xa]) rfl rfl (fun H locs hw => ?_)
        refine lv_aload_n S.x S.b d_Mo_raw_136 rfl (lv_at hl 2 rfl) ?_
        refine lv_iload_n S.x S.b d_Mo_raw_137 rfl (lv_at hl 3 rfl) ?_
        refine lv_if_le (tgt := 145) S.x S.b d_Mo_raw_138 (by decide) (fun c5 => ?_) (fun c5 => ?_)
        · have nc5 : x42_3.toInt ≤ (0 : Int) := (i_le (x := x42_3) (y := 0)).mp c5
          refine lv_iconst (v := 0) S.x S.b d_Mo_raw_145 (by decide) ?_
          refine px_put S k_Mpg hT hw 3 0 66 rfl rfl (by decide) m10_67 rfl rfl rfl (Nat.le_of_ble_eq_true rfl) d_Mo_raw_146 (w' := wdP cs (PG p0.toNatClampNeg).h (PG_42 p0.toNatClampNeg).r (PG_42 p0.toNatClampNeg).g (PG_42 p0.toNatClampNeg).tf (PG_42 p0.toNatClampNeg).ta (PG_42 p0.toNatClampNeg).pf (PG_42 p0.toNatClampNeg).na (PG_42 p0.toNatClampNeg).ma (PG_42 p0.toNatClampNeg).wa (PG_42 p0.toNatClampNeg).cf (PG_42 p0.toNatClampNeg).ca (PG_42 p0.toNatClampNeg).ef (PG_42 p0.toNatClampNeg).ea (upd (upd (PG_42 p0.toNatClampNeg).xf 66 0) 68 x42_3) (PG_42 p0.toNatClampNeg).xa) (ps' := [wd_Mo cs mo mr (fun _ => none) mf_42 md (gMo PG_42 hq), fm 13 (fPr cs hq qr QO QF QA), fo 8 (fPg cs PG_42) p0.toNatClampNeg, wdP cs (PG p0.toNatClampNeg).h (PG_42 p0.toNatClampNeg).r (PG_42 p0.toNatClampNeg).g (PG_42 p0.toNatClampNeg).tf (PG_42 p0.toNatClampNeg).ta (PG_42 p0.toNatClampNeg).pf (PG_42 p0.toNatClampNeg).na (PG_42 p0.toNatClampNeg).ma (PG_42 p0.toNatClampNeg).wa (PG_42 p0.toNatClampNeg).cf (PG_42 p0.toNatClampNeg).ca (PG_42 p0.toNatClampNeg).ef (PG_42 p0.toNatClampNeg).ea (upd (upd (PG_42 p0.toNatClampNeg).xf 66 0) 68 x42_3) (PG_42 p0.toNatClampNeg).xa]) rfl rfl (fun H locs hw => ?_)
          refine lv_aload_n S.x S.b d_Mo_raw_149 rfl (lv_at hl 0 rfl) ?_
          refine lv_iconst (v := 0) S.x S.b d_Mo_raw_150 (by decide) ?_
          refine px_put S k_Mo hT hw 0 0 2 rfl rfl (by decide) m11_80 rfl rfl rfl (Nat.le_of_ble_eq_true rfl) d_Mo_raw_151 (w' := wd_Mo cs mo mr (fun _ => none) (upd mf_42 2 0) md (gMo PG_42 hq)) (ps' := [wd_Mo cs mo mr (fun _ => none) (upd mf_42 2 0) md (gMo PG_42 hq), fm 13 (fPr cs hq qr QO QF QA), fo 8 (fPg cs PG_42) p0.toNatClampNeg, wdP cs (PG p0.toNatClampNeg).h (PG_42 p0.toNatClampNeg).r (PG_42 p0.toNatClampNeg).g (PG_42 p0.toNatClampNeg).tf (PG_42 p0.toNatClampNeg).ta (PG_42 p0.toNatClampNeg).pf (PG_42 p0.toNatClampNeg).na (PG_42 p0.toNatClampNeg).ma (PG_42 p0.toNatClampNeg).wa (PG_42 p0.toNatClampNeg).cf (PG_42 p0.toNatClampNeg).ca (PG_42 p0.toNatClampNeg).ef (PG_42 p0.toNatClampNeg).ea (upd (upd (PG_42 p0.toNatClampNeg).xf 66 0) 68 x42_3) (PG_42 p0.toNatClampNeg).xa]) rfl rfl (fun H locs hw => ?_)
          refine lv_iload_n S.x S.b d_Mo_raw_154 rfl (lv_at hl 3 rfl) ?_
          refine lv_if_le (tgt := 162) S.x S.b d_Mo_raw_155 (by decide) (fun c7 => ?_) (fun c7 => ?_)
          · have nc7 : x42_3.toInt ≤ (0 : Int) := (i_le (x := x42_3) (y := 0)).mp c7
            refine lv_iconst (v := (-1)) S.x S.b d_Mo_raw_162 (by decide) ?_
            have hw : pw D A s.heap _ _ [wd_Mo cs mo mr (fun _ => none) (upd mf_42 2 0) md (gMo PG_42 hq), fm 13 (fPr cs hq qr QO QF QA), fo 8 (fPg cs PG_42) p0.toNatClampNeg, wdP cs (PG_42 p0.toNatClampNeg).h (PG_42 p0.toNatClampNeg).r (PG_42 p0.toNatClampNeg).g (PG_42 p0.toNatClampNeg).tf (PG_42 p0.toNatClampNeg).ta (PG_42 p0.toNatClampNeg).pf (PG_42 p0.toNatClampNeg).na (PG_42 p0.toNatClampNeg).ma (PG_42 p0.toNatClampNeg).wa (PG_42 p0.toNatClampNeg).cf (PG_42 p0.toNatClampNeg).ca (PG_42 p0.toNatClampNeg).ef (PG_42 p0.toNatClampNeg).ea (upd (upd (PG_42 p0.toNatClampNeg).xf 66 0) 68 x42_3) (PG_42 p0.toNatClampNeg).xa] := (by have q8 := hw; rw [show (PG p0.toNatClampNeg).h = (PG_42 p0.toNatClampNeg).h from (hgs p0.toNatClampNeg).1.symm] at q8; exact q8)
            have hgs0 := hgs
            have hw := fpg_in (pr := [wd_Mo cs mo mr (fun _ => none) (upd mf_42 2 0) md (gMo PG_42 hq), fm 13 (fPr cs hq qr QO QF QA)]) hw hj3
            obtain ⟨PG9, hu_PG9⟩ : ∃ y : Nat → Pgs, y = va_up PG_42 p0.toNatClampNeg ⟨(PG_42 p0.toNatClampNeg).h, (PG_42 p0.toNatClampNeg).r, (PG_42 p0.toNatClampNeg).g, (PG_42 p0.toNatClampNeg).tf, (PG_42 p0.toNatClampNeg).ta, (PG_42 p0.toNatClampNeg).pf, (PG_42 p0.toNatClampNeg).na, (PG_42 p0.toNatClampNeg).ma, (PG_42 p0.toNatClampNeg).wa, (PG_42 p0.toNatClampNeg).cf, (PG_42 p0.toNatClampNeg).ca, (PG_42 p0.toNatClampNeg).ef, (PG_42 p0.toNatClampNeg).ea, (upd (upd (PG_42 p0.toNatClampNeg).xf 66 0) 68 x42_3), (PG_42 p0.toNatClampNeg).xa⟩ := ⟨_, rfl⟩
            have hgs : PgS PG_42 PG9 := (by rw [hu_PG9]; exact pgs_up rfl rfl rfl)
            have hw : pw D A s.heap _ _ [wd_Mo cs mo mr (fun _ => none) (upd mf_42 2 0) md (gMo PG_42 hq), fm 13 (fPr cs hq qr QO QF QA), fm 8 (fPg cs PG9)] := (by rw [hu_PG9]; exact hw)
            have hw : pw D A s.heap _ _ [wd_Mo cs mo mr (fun _ => none) (upd mf_42 2 0) md (gMo PG9 hq), fm 13 (fPr cs hq qr QO QF QA), fm 8 (fPg cs PG9)] := (by have q8 := hw; rw [gmo_up (hq := hq) hgs] at q8; exact q8)
            have hgs : PgS PG PG9 := hgs0.tr hgs
            have hpg : PgA PG9 := (by rw [hu_PG9]; exact PgA.up hpg (show PgO _ from ⟨⟨(show 0 ≤ (0 : Int) ∧ (0 : Int) ≤ 2 from by omega), (show 0 ≤ ((PG_42 p0.toNatClampNeg).cf 46).toInt ∧ ((PG_42 p0.toNatClampNeg).cf 46).toInt ≤ 1 from by omega), (show 0 ≤ ((PG_42 p0.toNatClampNeg).cf 47).toInt ∧ ((PG_42 p0.toNatClampNeg).cf 47).toInt ≤ 1 from by omega)⟩, (show 0 ≤ x42_3.toInt ∧ x42_3.toInt ≤ 512 from by omega), (fun q8 => absurd (show (0 : Int) = 1 from q8) (by omega))⟩))
            have hso : SoK PG PG9 p0 := (by rw [hu_PG9]; exact SoK.up hso (by omega))
            have hs66_PG9 : ((PG9 p0.toNatClampNeg).xf 66).toInt = (0 : Int) := (by rw [hu_PG9, va_up_s]; try rfl)
            exact px_iret (v := (-1)) S hr rfl hlk hAe hw (Nat.le_of_ble_eq_true rfl) (Nat.le_of_ble_eq_true rfl) (⟨(upd mf_42 2 0), PG9, rfl, (show PgA PG9 from hpg), (show PgS PG PG9 from hgs), (show (mf_42 10).toInt = (mf 10).toInt from by first | exact k42_3 | omega), (show 0 ≤ (0 : Int) from by first | exact oz_5a341f00aa | omega), (show (0 : Int) ≤ 2048 from by first | exact oz_b3869020ab | omega), (show SoK PG PG9 p0 from hso), (show ((mf_42 0).toInt = 0 ∧ 0 ≤ p0.toInt ∧ p0.toInt < 8 ∧ (0 : Int) = 0 ∧ (((mf 2).toInt < 4 ∧ (-1 : Int) = -1) ∨ (4 ≤ (mf 2).toInt ∧ 4 * (-1 : Int) ≤ (mf 2).toInt ∧ (mf 2).toInt < 4 * (-1 : Int) + 4)) ∧ (((-1 : Int) < 0 ∧ ((PG9 p0.toNatClampNeg).xf 66).toInt = 0) ∨ (0 ≤ (-1 : Int) ∧ ((PG9 p0.toNatClampNeg).xf 66).toInt = 2))) ∨ ((mf_42 0).toInt = 1 ∧ (p0.toInt < 0 ∨ 8 ≤ p0.toInt) ∧ (0 : Int) = (mf 2).toInt) from by omega)⟩) d_Mo_raw_163
          · have nc7 : ¬ x42_3.toInt ≤ (0 : Int) := mt (i_le (x := x42_3) (y := 0)).mpr c7
            refine lv_iload_n S.x S.b d_Mo_raw_158 rfl (lv_at hl 3 rfl) ?_
            refine lv_goto (tgt := 163) S.x S.b d_Mo_raw_159 (by decide) ?_
            have hw : pw D A s.heap _ _ [wd_Mo cs mo mr (fun _ => none) (upd mf_42 2 0) md (gMo PG_42 hq), fm 13 (fPr cs hq qr QO QF QA), fo 8 (fPg cs PG_42) p0.toNatClampNeg, wdP cs (PG_42 p0.toNatClampNeg).h (PG_42 p0.toNatClampNeg).r (PG_42 p0.toNatClampNeg).g (PG_42 p0.toNatClampNeg).tf (PG_42 p0.toNatClampNeg).ta (PG_42 p0.toNatClampNeg).pf (PG_42 p0.toNatClampNeg).na (PG_42 p0.toNatClampNeg).ma (PG_42 p0.toNatClampNeg).wa (PG_42 p0.toNatClampNeg).cf (PG_42 p0.toNatClampNeg).ca (PG_42 p0.toNatClampNeg).ef (PG_42 p0.toNatClampNeg).ea (upd (upd (PG_42 p0.toNatClampNeg).xf 66 0) 68 x42_3) (PG_42 p0.toNatClampNeg).xa] := (by have q8 := hw; rw [show (PG p0.toNatClampNeg).h = (PG_42 p0.toNatClampNeg).h from (hgs p0.toNatClampNeg).1.symm] at q8; exact q8)
            have hgs0 := hgs
            have hw := fpg_in (pr := [wd_Mo cs mo mr (fun _ => none) (upd mf_42 2 0) md (gMo PG_42 hq), fm 13 (fPr cs hq qr QO QF QA)]) hw hj3
            obtain ⟨PG10, hu_PG10⟩ : ∃ y : Nat → Pgs, y = va_up PG_42 p0.toNatClampNeg ⟨(PG_42 p0.toNatClampNeg).h, (PG_42 p0.toNatClampNeg).r, (PG_42 p0.toNatClampNeg).g, (PG_42 p0.toNatClampNeg).tf, (PG_42 p0.toNatClampNeg).ta, (PG_42 p0.toNatClampNeg).pf, (PG_42 p0.toNatClampNeg).na, (PG_42 p0.toNatClampNeg).ma, (PG_42 p0.toNatClampNeg).wa, (PG_42 p0.toNatClampNeg).cf, (PG_42 p0.toNatClampNeg).ca, (PG_42 p0.toNatClampNeg).ef, (PG_42 p0.toNatClampNeg).ea, (upd (upd (PG_42 p0.toNatClampNeg).xf 66 0) 68 x42_3), (PG_42 p0.toNatClampNeg).xa⟩ := ⟨_, rfl⟩
            have hgs : PgS PG_42 PG10 := (by rw [hu_PG10]; exact pgs_up rfl rfl rfl)
            have hw : pw D A s.heap _ _ [wd_Mo cs mo mr (fun _ => none) (upd mf_42 2 0) md (gMo PG_42 hq), fm 13 (fPr cs hq qr QO QF QA), fm 8 (fPg cs PG10)] := (by rw [hu_PG10]; exact hw)
            have hw : pw D A s.heap _ _ [wd_Mo cs mo mr (fun _ => none) (upd mf_42 2 0) md (gMo PG10 hq), fm 13 (fPr cs hq qr QO QF QA), fm 8 (fPg cs PG10)] := (by have q8 := hw; rw [gmo_up (hq := hq) hgs] at q8; exact q8)
            have hgs : PgS PG PG10 := hgs0.tr hgs
            have hpg : PgA PG10 := (by rw [hu_PG10]; exact PgA.up hpg (show PgO _ from ⟨⟨(show 0 ≤ (0 : Int) ∧ (0 : Int) ≤ 2 from by omega), (show 0 ≤ ((PG_42 p0.toNatClampNeg).cf 46).toInt ∧ ((PG_42 p0.toNatClampNeg).cf 46).toInt ≤ 1 from by omega), (show 0 ≤ ((PG_42 p0.toNatClampNeg).cf 47).toInt ∧ ((PG_42 p0.toNatClampNeg).cf 47).toInt ≤ 1 from by omega)⟩, (show 0 ≤ x42_3.toInt ∧ x42_3.toInt ≤ 512 from by omega), (fun q8 => absurd (show (0 : Int) = 1 from q8) (by omega))⟩))
            have hso : SoK PG PG10 p0 := (by rw [hu_PG10]; exact SoK.up hso (by omega))
            have hs66_PG10 : ((PG10 p0.toNatClampNeg).xf 66).toInt = (0 : Int) := (by rw [hu_PG10, va_up_s]; try rfl)
            exact px_iret (v := x42_3) S hr rfl hlk hAe hw (Nat.le_of_ble_eq_true rfl) (Nat.le_of_ble_eq_true rfl) (⟨(upd mf_42 2 0), PG10, rfl, (show PgA PG10 from hpg), (show PgS PG PG10 from hgs), (show (mf_42 10).toInt = (mf 10).toInt from by first | exact k42_3 | omega), (show 0 ≤ (0 : Int) from by first | exact oz_5a341f00aa | omega), (show (0 : Int) ≤ 2048 from by first | exact oz_b3869020ab | omega), (show SoK PG PG10 p0 from hso), (show ((mf_42 0).toInt = 0 ∧ 0 ≤ p0.toInt ∧ p0.toInt < 8 ∧ (0 : Int) = 0 ∧ (((mf 2).toInt < 4 ∧ x42_3.toInt = -1) ∨ (4 ≤ (mf 2).toInt ∧ 4 * x42_3.toInt ≤ (mf 2).toInt ∧ (mf 2).toInt < 4 * x42_3.toInt + 4)) ∧ ((x42_3.toInt < 0 ∧ ((PG10 p0.toNatClampNeg).xf 66).toInt = 0) ∨ (0 ≤ x42_3.toInt ∧ ((PG10 p0.toNatClampNeg).xf 66).toInt = 2))) ∨ ((mf_42 0).toInt = 1 ∧ (p0.toInt < 0 ∨ 8 ≤ p0.toInt) ∧ (0 : Int) = (mf 2).toInt) from by omega)⟩) d_Mo_raw_163
        · have nc5 : ¬ x42_3.toInt ≤ (0 : Int) := mt (i_le (x := x42_3) (y := 0)).mpr c5
          refine lv_iconst (v := 2) S.x S.b d_Mo_raw_141 (by decide) ?_
          refine lv_goto (tgt := 146) S.x S.b d_Mo_raw_142 (by decide) ?_
          refine px_put S k_Mpg hT hw 3 0 66 rfl rfl (by decide) m10_67 rfl rfl rfl (Nat.le_of_ble_eq_true rfl) d_Mo_raw_146 (w' := wdP cs (PG p0.toNatClampNeg).h (PG_42 p0.toNatClampNeg).r (PG_42 p0.toNatClampNeg).g (PG_42 p0.toNatClampNeg).tf (PG_42 p0.toNatClampNeg).ta (PG_42 p0.toNatClampNeg).pf (PG_42 p0.toNatClampNeg).na (PG_42 p0.toNatClampNeg).ma (PG_42 p0.toNatClampNeg).wa (PG_42 p0.toNatClampNeg).cf (PG_42 p0.toNatClampNeg).ca (PG_42 p0.toNatClampNeg).ef (PG_42 p0.toNatClampNeg).ea (upd (upd (PG_42 p0.toNatClampNeg).xf 66 2) 68 x42_3) (PG_42 p0.toNatClampNeg).xa) (ps' := [wd_Mo cs mo mr (fun _ => none) mf_42 md (gMo PG_42 hq), fm 13 (fPr cs hq qr QO QF QA), fo 8 (fPg cs PG_42) p0.toNatClampNeg, wdP cs (PG p0.toNatClampNeg).h (PG_42 p0.toNatClampNeg).r (PG_42 p0.toNatClampNeg).g (PG_42 p0.toNatClampNeg).tf (PG_42 p0.toNatClampNeg).ta (PG_42 p0.toNatClampNeg).pf (PG_42 p0.toNatClampNeg).na (PG_42 p0.toNatClampNeg).ma (PG_42 p0.toNatClampNeg).wa (PG_42 p0.toNatClampNeg).cf (PG_42 p0.toNatClampNeg).ca (PG_42 p0.toNatClampNeg).ef (PG_42 p0.toNatClampNeg).ea (upd (upd (PG_42 p0.toNatClampNeg).xf 66 2) 68 x42_3) (PG_42 p0.toNatClampNeg).xa]) rfl rfl (fun H locs hw => ?_)
          refine lv_aload_n S.x S.b d_Mo_raw_149 rfl (lv_at hl 0 rfl) ?_
          refine lv_iconst (v := 0) S.x S.b d_Mo_raw_150 (by decide) ?_
          refine px_put S k_Mo hT hw 0 0 2 rfl rfl (by decide) m11_80 rfl rfl rfl (Nat.le_of_ble_eq_true rfl) d_Mo_raw_151 (w' := wd_Mo cs mo mr (fun _ => none) (upd mf_42 2 0) md (gMo PG_42 hq)) (ps' := [wd_Mo cs mo mr (fun _ => none) (upd mf_42 2 0) md (gMo PG_42 hq), fm 13 (fPr cs hq qr QO QF QA), fo 8 (fPg cs PG_42) p0.toNatClampNeg, wdP cs (PG p0.toNatClampNeg).h (PG_42 p0.toNatClampNeg).r (PG_42 p0.toNatClampNeg).g (PG_42 p0.toNatClampNeg).tf (PG_42 p0.toNatClampNeg).ta (PG_42 p0.toNatClampNeg).pf (PG_42 p0.toNatClampNeg).na (PG_42 p0.toNatClampNeg).ma (PG_42 p0.toNatClampNeg).wa (PG_42 p0.toNatClampNeg).cf (PG_42 p0.toNatClampNeg).ca (PG_42 p0.toNatClampNeg).ef (PG_42 p0.toNatClampNeg).ea (upd (upd (PG_42 p0.toNatClampNeg).xf 66 2) 68 x42_3) (PG_42 p0.toNatClampNeg).xa]) rfl rfl (fun H locs hw => ?_)
          refine lv_iload_n S.x S.b d_Mo_raw_154 rfl (lv_at hl 3 rfl) ?_
          refine lv_if_le (tgt := 162) S.x S.b d_Mo_raw_155 (by decide) (fun c11 => ?_) (fun c11 => ?_)
          · have nc11 : x42_3.toInt ≤ (0 : Int) := (i_le (x := x42_3) (y := 0)).mp c11
            refine lv_iconst (v := (-1)) S.x S.b d_Mo_raw_162 (by decide) ?_
            have hw : pw D A s.heap _ _ [wd_Mo cs mo mr (fun _ => none) (upd mf_42 2 0) md (gMo PG_42 hq), fm 13 (fPr cs hq qr QO QF QA), fo 8 (fPg cs PG_42) p0.toNatClampNeg, wdP cs (PG_42 p0.toNatClampNeg).h (PG_42 p0.toNatClampNeg).r (PG_42 p0.toNatClampNeg).g (PG_42 p0.toNatClampNeg).tf (PG_42 p0.toNatClampNeg).ta (PG_42 p0.toNatClampNeg).pf (PG_42 p0.toNatClampNeg).na (PG_42 p0.toNatClampNeg).ma (PG_42 p0.toNatClampNeg).wa (PG_42 p0.toNatClampNeg).cf (PG_42 p0.toNatClampNeg).ca (PG_42 p0.toNatClampNeg).ef (PG_42 p0.toNatClampNeg).ea (upd (upd (PG_42 p0.toNatClampNeg).xf 66 2) 68 x42_3) (PG_42 p0.toNatClampNeg).xa] := (by have q8 := hw; rw [show (PG p0.toNatClampNeg).h = (PG_42 p0.toNatClampNeg).h from (hgs p0.toNatClampNeg).1.symm] at q8; exact q8)
            have hgs0 := hgs
            have hw := fpg_in (pr := [wd_Mo cs mo mr (fun _ => none) (upd mf_42 2 0) md (gMo PG_42 hq), fm 13 (fPr cs hq qr QO QF QA)]) hw hj3
            obtain ⟨PG13, hu_PG13⟩ : ∃ y : Nat → Pgs, y = va_up PG_42 p0.toNatClampNeg ⟨(PG_42 p0.toNatClampNeg).h, (PG_42 p0.toNatClampNeg).r, (PG_42 p0.toNatClampNeg).g, (PG_42 p0.toNatClampNeg).tf, (PG_42 p0.toNatClampNeg).ta, (PG_42 p0.toNatClampNeg).pf, (PG_42 p0.toNatClampNeg).na, (PG_42 p0.toNatClampNeg).ma, (PG_42 p0.toNatClampNeg).wa, (PG_42 p0.toNatClampNeg).cf, (PG_42 p0.toNatClampNeg).ca, (PG_42 p0.toNatClampNeg).ef, (PG_42 p0.toNatClampNeg).ea, (upd (upd (PG_42 p0.toNatClampNeg).xf 66 2) 68 x42_3), (PG_42 p0.toNatClampNeg).xa⟩ := ⟨_, rfl⟩
            have hgs : PgS PG_42 PG13 := (by rw [hu_PG13]; exact pgs_up rfl rfl rfl)
            have hw : pw D A s.heap _ _ [wd_Mo cs mo mr (fun _ => none) (upd mf_42 2 0) md (gMo PG_42 hq), fm 13 (fPr cs hq qr QO QF QA), fm 8 (fPg cs PG13)] := (by rw [hu_PG13]; exact hw)
            have hw : pw D A s.heap _ _ [wd_Mo cs mo mr (fun _ => none) (upd mf_42 2 0) md (gMo PG13 hq), fm 13 (fPr cs hq qr QO QF QA), fm 8 (fPg cs PG13)] := (by have q8 := hw; rw [gmo_up (hq := hq) hgs] at q8; exact q8)
            have hgs : PgS PG PG13 := hgs0.tr hgs
            have hpg : PgA PG13 := (by rw [hu_PG13]; exact PgA.up hpg (show PgO _ from ⟨⟨(show 0 ≤ (2 : Int) ∧ (2 : Int) ≤ 2 from by omega), (show 0 ≤ ((PG_42 p0.toNatClampNeg).cf 46).toInt ∧ ((PG_42 p0.toNatClampNeg).cf 46).toInt ≤ 1 from by omega), (show 0 ≤ ((PG_42 p0.toNatClampNeg).cf 47).toInt ∧ ((PG_42 p0.toNatClampNeg).cf 47).toInt ≤ 1 from by omega)⟩, (show 0 ≤ x42_3.toInt ∧ x42_3.toInt ≤ 512 from by omega), (fun q8 => absurd (show (2 : Int) = 1 from q8) (by omega))⟩))
            have hso : SoK PG PG13 p0 := (by rw [hu_PG13]; exact SoK.up hso (by omega))
            have hs66_PG13 : ((PG13 p0.toNatClampNeg).xf 66).toInt = (2 : Int) := (by rw [hu_PG13, va_up_s]; try rfl)
            exact px_iret (v := (-1)) S hr rfl hlk hAe hw (Nat.le_of_ble_eq_true rfl) (Nat.le_of_ble_eq_true rfl) (⟨(upd mf_42 2 0), PG13, rfl, (show PgA PG13 from hpg), (show PgS PG PG13 from hgs), (show (mf_42 10).toInt = (mf 10).toInt from by first | exact k42_3 | omega), (show 0 ≤ (0 : Int) from by first | exact oz_5a341f00aa | omega), (show (0 : Int) ≤ 2048 from by first | exact oz_b3869020ab | omega), (show SoK PG PG13 p0 from hso), (show ((mf_42 0).toInt = 0 ∧ 0 ≤ p0.toInt ∧ p0.toInt < 8 ∧ (0 : Int) = 0 ∧ (((mf 2).toInt < 4 ∧ (-1 : Int) = -1) ∨ (4 ≤ (mf 2).toInt ∧ 4 * (-1 : Int) ≤ (mf 2).toInt ∧ (mf 2).toInt < 4 * (-1 : Int) + 4)) ∧ (((-1 : Int) < 0 ∧ ((PG13 p0.toNatClampNeg).xf 66).toInt = 0) ∨ (0 ≤ (-1 : Int) ∧ ((PG13 p0.toNatClampNeg).xf 66).toInt = 2))) ∨ ((mf_42 0).toInt = 1 ∧ (p0.toInt < 0 ∨ 8 ≤ p0.toInt) ∧ (0 : Int) = (mf 2).toInt) from by omega)⟩) d_Mo_raw_163
          · have nc11 : ¬ x42_3.toInt ≤ (0 : Int) := mt (i_le (x := x42_3) (y := 0)).mpr c11
            refine lv_iload_n S.x S.b d_Mo_raw_158 rfl (lv_at hl 3 rfl) ?_
            refine lv_goto (tgt := 163) S.x S.b d_Mo_raw_159 (by decide) ?_
            have hw : pw D A s.heap _ _ [wd_Mo cs mo mr (fun _ => none) (upd mf_42 2 0) md (gMo PG_42 hq), fm 13 (fPr cs hq qr QO QF QA), fo 8 (fPg cs PG_42) p0.toNatClampNeg, wdP cs (PG_42 p0.toNatClampNeg).h (PG_42 p0.toNatClampNeg).r (PG_42 p0.toNatClampNeg).g (PG_42 p0.toNatClampNeg).tf (PG_42 p0.toNatClampNeg).ta (PG_42 p0.toNatClampNeg).pf (PG_42 p0.toNatClampNeg).na (PG_42 p0.toNatClampNeg).ma (PG_42 p0.toNatClampNeg).wa (PG_42 p0.toNatClampNeg).cf (PG_42 p0.toNatClampNeg).ca (PG_42 p0.toNatClampNeg).ef (PG_42 p0.toNatClampNeg).ea (upd (upd (PG_42 p0.toNatClampNeg).xf 66 2) 68 x42_3) (PG_42 p0.toNatClampNeg).xa] := (by have q8 := hw; rw [show (PG p0.toNatClampNeg).h = (PG_42 p0.toNatClampNeg).h from (hgs p0.toNatClampNeg).1.symm] at q8; exact q8)
            have hgs0 := hgs
            have hw := fpg_in (pr := [wd_Mo cs mo mr (fun _ => none) (upd mf_42 2 0) md (gMo PG_42 hq), fm 13 (fPr cs hq qr QO QF QA)]) hw hj3
            obtain ⟨PG14, hu_PG14⟩ : ∃ y : Nat → Pgs, y = va_up PG_42 p0.toNatClampNeg ⟨(PG_42 p0.toNatClampNeg).h, (PG_42 p0.toNatClampNeg).r, (PG_42 p0.toNatClampNeg).g, (PG_42 p0.toNatClampNeg).tf, (PG_42 p0.toNatClampNeg).ta, (PG_42 p0.toNatClampNeg).pf, (PG_42 p0.toNatClampNeg).na, (PG_42 p0.toNatClampNeg).ma, (PG_42 p0.toNatClampNeg).wa, (PG_42 p0.toNatClampNeg).cf, (PG_42 p0.toNatClampNeg).ca, (PG_42 p0.toNatClampNeg).ef, (PG_42 p0.toNatClampNeg).ea, (upd (upd (PG_42 p0.toNatClampNeg).xf 66 2) 68 x42_3), (PG_42 p0.toNatClampNeg).xa⟩ := ⟨_, rfl⟩
            have hgs : PgS PG_42 PG14 := (by rw [hu_PG14]; exact pgs_up rfl rfl rfl)
            have hw : pw D A s.heap _ _ [wd_Mo cs mo mr (fun _ => none) (upd mf_42 2 0) md (gMo PG_42 hq), fm 13 (fPr cs hq qr QO QF QA), fm 8 (fPg cs PG14)] := (by rw [hu_PG14]; exact hw)
            have hw : pw D A s.heap _ _ [wd_Mo cs mo mr (fun _ => none) (upd mf_42 2 0) md (gMo PG14 hq), fm 13 (fPr cs hq qr QO QF QA), fm 8 (fPg cs PG14)] := (by have q8 := hw; rw [gmo_up (hq := hq) hgs] at q8; exact q8)
            have hgs : PgS PG PG14 := hgs0.tr hgs
            have hpg : PgA PG14 := (by rw [hu_PG14]; exact PgA.up hpg (show PgO _ from ⟨⟨(show 0 ≤ (2 : Int) ∧ (2 : Int) ≤ 2 from by omega), (show 0 ≤ ((PG_42 p0.toNatClampNeg).cf 46).toInt ∧ ((PG_42 p0.toNatClampNeg).cf 46).toInt ≤ 1 from by omega), (show 0 ≤ ((PG_42 p0.toNatClampNeg).cf 47).toInt ∧ ((PG_42 p0.toNatClampNeg).cf 47).toInt ≤ 1 from by omega)⟩, (show 0 ≤ x42_3.toInt ∧ x42_3.toInt ≤ 512 from by omega), (fun q8 => absurd (show (2 : Int) = 1 from q8) (by omega))⟩))
            have hso : SoK PG PG14 p0 := (by rw [hu_PG14]; exact SoK.up hso (by omega))
            have hs66_PG14 : ((PG14 p0.toNatClampNeg).xf 66).toInt = (2 : Int) := (by rw [hu_PG14, va_up_s]; try rfl)
            exact px_iret (v := x42_3) S hr rfl hlk hAe hw (Nat.le_of_ble_eq_true rfl) (Nat.le_of_ble_eq_true rfl) (⟨(upd mf_42 2 0), PG14, rfl, (show PgA PG14 from hpg), (show PgS PG PG14 from hgs), (show (mf_42 10).toInt = (mf 10).toInt from by first | exact k42_3 | omega), (show 0 ≤ (0 : Int) from by first | exact oz_5a341f00aa | omega), (show (0 : Int) ≤ 2048 from by first | exact oz_b3869020ab | omega), (show SoK PG PG14 p0 from hso), (show ((mf_42 0).toInt = 0 ∧ 0 ≤ p0.toInt ∧ p0.toInt < 8 ∧ (0 : Int) = 0 ∧ (((mf 2).toInt < 4 ∧ x42_3.toInt = -1) ∨ (4 ≤ (mf 2).toInt ∧ 4 * x42_3.toInt ≤ (mf 2).toInt ∧ (mf 2).toInt < 4 * x42_3.toInt + 4)) ∧ ((x42_3.toInt < 0 ∧ ((PG14 p0.toNatClampNeg).xf 66).toInt = 0) ∨ (0 ≤ x42_3.toInt ∧ ((PG14 p0.toNatClampNeg).xf 66).toInt = 2))) ∨ ((mf_42 0).toInt = 1 ∧ (p0.toInt < 0 ∨ 8 ≤ p0.toInt) ∧ (0 : Int) = (mf 2).toInt) from by omega)⟩) d_Mo_raw_163
      · have nc1 : ¬ x42_3.toInt ≤ x42_4.toInt := mt (i_le (x := x42_3) (y := x42_4)).mpr c1
        refine lv_aload_n S.x S.b d_Mo_raw_48 rfl (lv_at hl 2 rfl) ?_
        have hc15 := cl_nat (x := p0) (by first | exact k42_5 | omega)
        have hj15 : p0.toNatClampNeg < 8 := by first | exact oz_988ece23c5 hc15 k42_6 | omega
        have hw : pw D A s.heap _ _ [wd_Mo cs mo mr (fun _ => none) mf_42 md (gMo PG_42 hq), fm 13 (fPr cs hq qr QO QF QA), fo 8 (fPg cs PG_42) p0.toNatClampNeg, wdP cs (PG_42 p0.toNatClampNeg).h (PG_42 p0.toNatClampNeg).r (PG_42 p0.toNatClampNeg).g (PG_42 p0.toNatClampNeg).tf (PG_42 p0.toNatClampNeg).ta (PG_42 p0.toNatClampNeg).pf (PG_42 p0.toNatClampNeg).na (PG_42 p0.toNatClampNeg).ma (PG_42 p0.toNatClampNeg).wa (PG_42 p0.toNatClampNeg).cf (PG_42 p0.toNatClampNeg).ca (PG_42 p0.toNatClampNeg).ef (PG_42 p0.toNatClampNeg).ea (PG_42 p0.toNatClampNeg).xf (PG_42 p0.toNatClampNeg).xa] := fm_out (pr := [wd_Mo cs mo mr (fun _ => none) mf_42 md (gMo PG_42 hq), fm 13 (fPr cs hq qr QO QF QA)]) (T := fPg cs PG_42) hw hj15
        have hpo16 := hpg p0.toNatClampNeg hj15
        have hp116 := hpo16.1
        have hp216 := hpo16.2.1
        have hw : pw D A s.heap _ _ [wd_Mo cs mo mr (fun _ => none) mf_42 md (gMo PG_42 hq), fm 13 (fPr cs hq qr QO QF QA), fo 8 (fPg cs PG_42) p0.toNatClampNeg, wdP cs (PG p0.toNatClampNeg).h (PG_42 p0.toNatClampNeg).r (PG_42 p0.toNatClampNeg).g (PG_42 p0.toNatClampNeg).tf (PG_42 p0.toNatClampNeg).ta (PG_42 p0.toNatClampNeg).pf (PG_42 p0.toNatClampNeg).na (PG_42 p0.toNatClampNeg).ma (PG_42 p0.toNatClampNeg).wa (PG_42 p0.toNatClampNeg).cf (PG_42 p0.toNatClampNeg).ca (PG_42 p0.toNatClampNeg).ef (PG_42 p0.toNatClampNeg).ea (PG_42 p0.toNatClampNeg).xf (PG_42 p0.toNatClampNeg).xa] := (by have q8 := hw; rw [show (PG_42 p0.toNatClampNeg).h = (PG p0.toNatClampNeg).h from (hgs p0.toNatClampNeg).1] at q8; exact q8)
        refine px_get S k_Mpg hT hw 3 0 67 (v := .ref ((PG_42 p0.toNatClampNeg).r 67)) rfl rfl rfl (by decide) m10_70 d_Mo_raw_49 ?_
        refine lv_iload S.x S.b d_Mo_raw_52 (lv_at hl 4 rfl) ?_
        refine lv_aload_n S.x S.b d_Mo_raw_54 rfl (lv_at hl 0 rfl) ?_
        refine px_get S k_Mo hT hw 0 0 1 (v := .ref (mr 1)) rfl rfl rfl (by decide) m11_79 d_Mo_raw_55 ?_
        refine lv_iconst (v := 4) S.x S.b d_Mo_raw_58 (by decide) ?_
        refine lv_iload S.x S.b d_Mo_raw_59 (lv_at hl 4 rfl) ?_
        refine lv_imul S.x S.b d_Mo_raw_61 ?_
        refine lv_topi (fun z17 ez17 => ?_)
        have lz17 := Int32.le_toInt z17
        have uz17 := Int32.toInt_lt z17
        have tz17 : -2147483648 ≤ 4 * x42_4.toInt → 4 * x42_4.toInt < 2147483648 → z17.toInt = 4 * x42_4.toInt := by rw [ez17]; exact i_mulc 4 x42_4 (by decide)
        try replace tz17 : z17.toInt = 4 * x42_4.toInt := by omega
        refine px_bald S hT hw 0 1 (n := 2048) (f := (md 1)) rfl (ga_Mo_1 _ _ _ _ _ _ _) (x := z17) (vp_in_iff.mpr (by first | exact oz_8aa2f97af7 tz17 k42_7 nc1 k42_9 g1 | (constructor <;> omega))) d_Mo_raw_62 ?_
        refine lv_topi (fun z18 ez18 => ?_)
        have lz18 := Int32.le_toInt z18
        have uz18 := Int32.toInt_lt z18
        refine lv_sipush (v := 255) S.x S.b d_Mo_raw_63 (by decide) ?_
        refine lv_iand S.x S.b d_Mo_raw_66 ?_
        refine lv_topi (fun z19 ez19 => ?_)
        have lz19 := Int32.le_toInt z19
        have uz19 := Int32.toInt_lt z19
        have bz19 := i_andm z18 (m := 255) 8 (by decide) (by decide)
        rw [← ez19] at bz19
        have wz19 : 0 ≤ z19.toInt ∧ z19.toInt ≤ 255 := by simp only [Nat.reducePow, Int.reducePow] at bz19; omega
        refine lv_aload_n S.x S.b d_Mo_raw_67 rfl (lv_at hl 0 rfl) ?_
        refine px_get S k_Mo hT hw 0 0 1 (v := .ref (mr 1)) rfl rfl rfl (by decide) m11_79 d_Mo_raw_68 ?_
        refine lv_iconst (v := 4) S.x S.b d_Mo_raw_71 (by decide) ?_
        refine lv_iload S.x S.b d_Mo_raw_72 (lv_at hl 4 rfl) ?_
        refine lv_imul S.x S.b d_Mo_raw_74 ?_
        refine lv_topi (fun z20 ez20 => ?_)
        have lz20 := Int32.le_toInt z20
        have uz20 := Int32.toInt_lt z20
        have tz20 : -2147483648 ≤ 4 * x42_4.toInt → 4 * x42_4.toInt < 2147483648 → z20.toInt = 4 * x42_4.toInt := by rw [ez20]; exact i_mulc 4 x42_4 (by decide)
        try replace tz20 : z20.toInt = 4 * x42_4.toInt := by omega
        refine lv_iconst (v := 1) S.x S.b d_Mo_raw_75 (by decide) ?_
        refine lv_iadd S.x S.b d_Mo_raw_76 ?_
        refine lv_topi (fun z21 ez21 => ?_)
        have tz21 : z21.toInt = (z20.toInt + (1 : Int) + 2147483648) % 4294967296 - 2147483648 := by rw [ez21]; exact i_add z20 1
        have lz21 := Int32.le_toInt z21
        have uz21 := Int32.toInt_lt z21
        try replace tz21 : z21.toInt = z20.toInt + (1 : Int) := by omega
        refine px_bald S hT hw 0 1 (n := 2048) (f := (md 1)) rfl (ga_Mo_1 _ _ _ _ _ _ _) (x := z21) (vp_in_iff.mpr (by first | exact oz_accf9ba773 tz21 tz20 k42_7 nc1 k42_10 | (constructor <;> omega))) d_Mo_raw_77 ?_
        refine lv_topi (fun z22 ez22 => ?_)
        have lz22 := Int32.le_toInt z22
        have uz22 := Int32.toInt_lt z22
        refine lv_sipush (v := 255) S.x S.b d_Mo_raw_78 (by decide) ?_
        refine lv_iand S.x S.b d_Mo_raw_81 ?_
        refine lv_topi (fun z23 ez23 => ?_)
        have lz23 := Int32.le_toInt z23
        have uz23 := Int32.toInt_lt z23
        have bz23 := i_andm z22 (m := 255) 8 (by decide) (by decide)
        rw [← ez23] at bz23
        have wz23 : 0 ≤ z23.toInt ∧ z23.toInt ≤ 255 := by simp only [Nat.reducePow, Int.reducePow] at bz23; omega
        refine lv_bipush (v := 8) S.x S.b d_Mo_raw_82 (by decide) ?_
        refine lv_ishl S.x S.b d_Mo_raw_84 ?_
        refine lv_topi (fun z24 ez24 => ?_)
        have lz24 := Int32.le_toInt z24
        have uz24 := Int32.toInt_lt z24
        have tz24 : 0 ≤ z23.toInt → z23.toInt * 256 < 2147483648 → z24.toInt = z23.toInt * 256 := by rw [ez24]; exact i_shl z23 8 (k := 8) (d := 256) (by decide) (by decide)
        refine lv_ior S.x S.b d_Mo_raw_85 ?_
        refine lv_topi (fun z25 ez25 => ?_)
        have lz25 := Int32.le_toInt z25
        have uz25 := Int32.toInt_lt z25
        refine lv_aload_n S.x S.b d_Mo_raw_86 rfl (lv_at hl 0 rfl) ?_
        refine px_get S k_Mo hT hw 0 0 1 (v := .ref (mr 1)) rfl rfl rfl (by decide) m11_79 d_Mo_raw_87 ?_
        refine lv_iconst (v := 4) S.x S.b d_Mo_raw_90 (by decide) ?_
        refine lv_iload S.x S.b d_Mo_raw_91 (lv_at hl 4 rfl) ?_
        refine lv_imul S.x S.b d_Mo_raw_93 ?_
        refine lv_topi (fun z26 ez26 => ?_)
        have lz26 := Int32.le_toInt z26
        have uz26 := Int32.toInt_lt z26
        have tz26 : -2147483648 ≤ 4 * x42_4.toInt → 4 * x42_4.toInt < 2147483648 → z26.toInt = 4 * x42_4.toInt := by rw [ez26]; exact i_mulc 4 x42_4 (by decide)
        try replace tz26 : z26.toInt = 4 * x42_4.toInt := by omega
        refine lv_iconst (v := 2) S.x S.b d_Mo_raw_94 (by decide) ?_
        refine lv_iadd S.x S.b d_Mo_raw_95 ?_
        refine lv_topi (fun z27 ez27 => ?_)
        have tz27 : z27.toInt = (z26.toInt + (2 : Int) + 2147483648) % 4294967296 - 2147483648 := by rw [ez27]; exact i_add z26 2
        have lz27 := Int32.le_toInt z27
        have uz27 := Int32.toInt_lt z27
        try replace tz27 : z27.toInt = z26.toInt + (2 : Int) := by omega
        refine px_bald S hT hw 0 1 (n := 2048) (f := (md 1)) rfl (ga_Mo_1 _ _ _ _ _ _ _) (x := z27) (vp_in_iff.mpr (by first | exact oz_a9d6d3164f tz27 tz26 k42_7 nc1 k42_10 | (constructor <;> omega))) d_Mo_raw_96 ?_
        refine lv_topi (fun z28 ez28 => ?_)
        have lz28 := Int32.le_toInt z28
        have uz28 := Int32.toInt_lt z28
        refine lv_sipush (v := 255) S.x S.b d_Mo_raw_97 (by decide) ?_
        refine lv_iand S.x S.b d_Mo_raw_100 ?_
        refine lv_topi (fun z29 ez29 => ?_)
        have lz29 := Int32.le_toInt z29
        have uz29 := Int32.toInt_lt z29
        have bz29 := i_andm z28 (m := 255) 8 (by decide) (by decide)
        rw [← ez29] at bz29
        have wz29 : 0 ≤ z29.toInt ∧ z29.toInt ≤ 255 := by simp only [Nat.reducePow, Int.reducePow] at bz29; omega
        refine lv_bipush (v := 16) S.x S.b d_Mo_raw_101 (by decide) ?_
        refine lv_ishl S.x S.b d_Mo_raw_103 ?_
        refine lv_topi (fun z30 ez30 => ?_)
        have lz30 := Int32.le_toInt z30
        have uz30 := Int32.toInt_lt z30
        have tz30 : 0 ≤ z29.toInt → z29.toInt * 65536 < 2147483648 → z30.toInt = z29.toInt * 65536 := by rw [ez30]; exact i_shl z29 16 (k := 16) (d := 65536) (by decide) (by decide)
        refine lv_ior S.x S.b d_Mo_raw_104 ?_
        refine lv_topi (fun z31 ez31 => ?_)
        have lz31 := Int32.le_toInt z31
        have uz31 := Int32.toInt_lt z31
        refine lv_aload_n S.x S.b d_Mo_raw_105 rfl (lv_at hl 0 rfl) ?_
        refine px_get S k_Mo hT hw 0 0 1 (v := .ref (mr 1)) rfl rfl rfl (by decide) m11_79 d_Mo_raw_106 ?_
        refine lv_iconst (v := 4) S.x S.b d_Mo_raw_109 (by decide) ?_
        refine lv_iload S.x S.b d_Mo_raw_110 (lv_at hl 4 rfl) ?_
        refine lv_imul S.x S.b d_Mo_raw_112 ?_
        refine lv_topi (fun z32 ez32 => ?_)
        have lz32 := Int32.le_toInt z32
        have uz32 := Int32.toInt_lt z32
        have tz32 : -2147483648 ≤ 4 * x42_4.toInt → 4 * x42_4.toInt < 2147483648 → z32.toInt = 4 * x42_4.toInt := by rw [ez32]; exact i_mulc 4 x42_4 (by decide)
        try replace tz32 : z32.toInt = 4 * x42_4.toInt := by omega
        refine lv_iconst (v := 3) S.x S.b d_Mo_raw_113 (by decide) ?_
        refine lv_iadd S.x S.b d_Mo_raw_114 ?_
        refine lv_topi (fun z33 ez33 => ?_)
        have tz33 : z33.toInt = (z32.toInt + (3 : Int) + 2147483648) % 4294967296 - 2147483648 := by rw [ez33]; exact i_add z32 3
        have lz33 := Int32.le_toInt z33
        have uz33 := Int32.toInt_lt z33
        try replace tz33 : z33.toInt = z32.toInt + (3 : Int) := by omega
        refine px_bald S hT hw 0 1 (n := 2048) (f := (md 1)) rfl (ga_Mo_1 _ _ _ _ _ _ _) (x := z33) (vp_in_iff.mpr (by first | exact oz_8f70aa4df5 tz33 tz32 k42_7 nc1 k42_10 | (constructor <;> omega))) d_Mo_raw_115 ?_
        refine lv_topi (fun z34 ez34 => ?_)
        have lz34 := Int32.le_toInt z34
        have uz34 := Int32.toInt_lt z34
        refine lv_sipush (v := 255) S.x S.b d_Mo_raw_116 (by decide) ?_
        refine lv_iand S.x S.b d_Mo_raw_119 ?_
        refine lv_topi (fun z35 ez35 => ?_)
        have lz35 := Int32.le_toInt z35
        have uz35 := Int32.toInt_lt z35
        have bz35 := i_andm z34 (m := 255) 8 (by decide) (by decide)
        rw [← ez35] at bz35
        have wz35 : 0 ≤ z35.toInt ∧ z35.toInt ≤ 255 := by simp only [Nat.reducePow, Int.reducePow] at bz35; omega
        refine lv_bipush (v := 24) S.x S.b d_Mo_raw_120 (by decide) ?_
        refine lv_ishl S.x S.b d_Mo_raw_122 ?_
        refine lv_topi (fun z36 ez36 => ?_)
        have lz36 := Int32.le_toInt z36
        have uz36 := Int32.toInt_lt z36
        have tz36 : 0 ≤ z35.toInt → z35.toInt * 16777216 < 2147483648 → z36.toInt = z35.toInt * 16777216 := by rw [ez36]; exact i_shl z35 24 (k := 24) (d := 16777216) (by decide) (by decide)
        refine lv_ior S.x S.b d_Mo_raw_123 ?_
        refine lv_topi (fun z37 ez37 => ?_)
        have lz37 := Int32.le_toInt z37
        have uz37 := Int32.toInt_lt z37
        refine px_iast S hT hw 3 37 (n := 512) (f := ((PG_42 p0.toNatClampNeg).xa 67)) (x := x42_4) (y := z37) rfl gp_67 (vp_in_iff.mpr (by constructor <;> omega)) d_Mo_raw_124 (w' := wdP cs (PG p0.toNatClampNeg).h (PG_42 p0.toNatClampNeg).r (PG_42 p0.toNatClampNeg).g (PG_42 p0.toNatClampNeg).tf (PG_42 p0.toNatClampNeg).ta (PG_42 p0.toNatClampNeg).pf (PG_42 p0.toNatClampNeg).na (PG_42 p0.toNatClampNeg).ma (PG_42 p0.toNatClampNeg).wa (PG_42 p0.toNatClampNeg).cf (PG_42 p0.toNatClampNeg).ca (PG_42 p0.toNatClampNeg).ef (PG_42 p0.toNatClampNeg).ea (PG_42 p0.toNatClampNeg).xf (va_up (PG_42 p0.toNatClampNeg).xa 67 (upd ((PG_42 p0.toNatClampNeg).xa 67) x42_4.toNatClampNeg z37))) (ps' := [wd_Mo cs mo mr (fun _ => none) mf_42 md (gMo PG_42 hq), fm 13 (fPr cs hq qr QO QF QA), fo 8 (fPg cs PG_42) p0.toNatClampNeg, wdP cs (PG p0.toNatClampNeg).h (PG_42 p0.toNatClampNeg).r (PG_42 p0.toNatClampNeg).g (PG_42 p0.toNatClampNeg).tf (PG_42 p0.toNatClampNeg).ta (PG_42 p0.toNatClampNeg).pf (PG_42 p0.toNatClampNeg).na (PG_42 p0.toNatClampNeg).ma (PG_42 p0.toNatClampNeg).wa (PG_42 p0.toNatClampNeg).cf (PG_42 p0.toNatClampNeg).ca (PG_42 p0.toNatClampNeg).ef (PG_42 p0.toNatClampNeg).ea (PG_42 p0.toNatClampNeg).xf (va_up (PG_42 p0.toNatClampNeg).xa 67 (upd ((PG_42 p0.toNatClampNeg).xa 67) x42_4.toNatClampNeg z37))]) sp_67 rfl (fun H locs hw => ?_)
        obtain ⟨z38, ez38⟩ : ∃ y : Int32, y = x42_4 + 1 := ⟨_, rfl⟩
        have tz38 : z38.toInt = (x42_4.toInt + 1 + 2147483648) % 4294967296 - 2147483648 := by rw [ez38]; exact i_add x42_4 1
        have lz38 := Int32.le_toInt z38
        have uz38 := Int32.toInt_lt z38
        try replace tz38 : z38.toInt = x42_4.toInt + 1 := by omega
        refine lv_iinc (v := z38) (lv' := [(4, .int z38), (0, .ref mo), (1, .int p0), (2, .ref (PG p0.toNatClampNeg).h), (3, .int x42_3)]) S.x S.b d_Mo_raw_125 hl (k := 4) rfl (by rw [ez38]; rfl) (by decide) rfl (fun ls hl => ?_)
        refine lv_goto (tgt := 42) S.x S.b d_Mo_raw_128 (by decide) ?_
        have hw : pw D A s.heap _ _ [wd_Mo cs mo mr (fun _ => none) mf_42 md (gMo PG_42 hq), fm 13 (fPr cs hq qr QO QF QA), fo 8 (fPg cs PG_42) p0.toNatClampNeg, wdP cs (PG_42 p0.toNatClampNeg).h (PG_42 p0.toNatClampNeg).r (PG_42 p0.toNatClampNeg).g (PG_42 p0.toNatClampNeg).tf (PG_42 p0.toNatClampNeg).ta (PG_42 p0.toNatClampNeg).pf (PG_42 p0.toNatClampNeg).na (PG_42 p0.toNatClampNeg).ma (PG_42 p0.toNatClampNeg).wa (PG_42 p0.toNatClampNeg).cf (PG_42 p0.toNatClampNeg).ca (PG_42 p0.toNatClampNeg).ef (PG_42 p0.toNatClampNeg).ea (PG_42 p0.toNatClampNeg).xf (va_up (PG_42 p0.toNatClampNeg).xa 67 (upd ((PG_42 p0.toNatClampNeg).xa 67) x42_4.toNatClampNeg z37))] := (by have q8 := hw; rw [show (PG p0.toNatClampNeg).h = (PG_42 p0.toNatClampNeg).h from (hgs p0.toNatClampNeg).1.symm] at q8; exact q8)
        have hgs0 := hgs
        have hw := fpg_in (pr := [wd_Mo cs mo mr (fun _ => none) mf_42 md (gMo PG_42 hq), fm 13 (fPr cs hq qr QO QF QA)]) hw hj15
        obtain ⟨PG39, hu_PG39⟩ : ∃ y : Nat → Pgs, y = va_up PG_42 p0.toNatClampNeg ⟨(PG_42 p0.toNatClampNeg).h, (PG_42 p0.toNatClampNeg).r, (PG_42 p0.toNatClampNeg).g, (PG_42 p0.toNatClampNeg).tf, (PG_42 p0.toNatClampNeg).ta, (PG_42 p0.toNatClampNeg).pf, (PG_42 p0.toNatClampNeg).na, (PG_42 p0.toNatClampNeg).ma, (PG_42 p0.toNatClampNeg).wa, (PG_42 p0.toNatClampNeg).cf, (PG_42 p0.toNatClampNeg).ca, (PG_42 p0.toNatClampNeg).ef, (PG_42 p0.toNatClampNeg).ea, (PG_42 p0.toNatClampNeg).xf, (va_up (PG_42 p0.toNatClampNeg).xa 67 (upd ((PG_42 p0.toNatClampNeg).xa 67) x42_4.toNatClampNeg z37))⟩ := ⟨_, rfl⟩
        have hgs : PgS PG_42 PG39 := (by rw [hu_PG39]; exact pgs_up rfl rfl rfl)
        have hw : pw D A s.heap _ _ [wd_Mo cs mo mr (fun _ => none) mf_42 md (gMo PG_42 hq), fm 13 (fPr cs hq qr QO QF QA), fm 8 (fPg cs PG39)] := (by rw [hu_PG39]; exact hw)
        have hw : pw D A s.heap _ _ [wd_Mo cs mo mr (fun _ => none) mf_42 md (gMo PG39 hq), fm 13 (fPr cs hq qr QO QF QA), fm 8 (fPg cs PG39)] := (by have q8 := hw; rw [gmo_up (hq := hq) hgs] at q8; exact q8)
        have hgs : PgS PG PG39 := hgs0.tr hgs
        have hpg : PgA PG39 := (by rw [hu_PG39]; exact PgA.up hpg (show PgO _ from hpo16))
        have hso : SoK PG PG39 p0 := (by rw [hu_PG39]; exact SoK.up hso (by omega))
        have hs66_PG39 : ((PG39 p0.toNatClampNeg).xf 66).toInt = ((PG_42 p0.toNatClampNeg).xf 66).toInt := (by rw [hu_PG39, va_up_s]; try rfl)
        exact ih42 mf_42 PG39 x42_3 z38 _ _ ls (show PgA PG39 from hpg) (show PgS PG PG39 from hgs) (show SoK PG PG39 p0 from hso) (show (mf_42 10).toInt = (mf 10).toInt from by first | exact k42_3 | omega) (show (mf_42 2).toInt = (mf 2).toInt from by first | exact k42_4 | omega) (show 0 ≤ p0.toInt from by first | exact k42_5 | omega) (show p0.toInt < 8 from by first | exact k42_6 | omega) (show 0 ≤ z38.toInt from by first | exact oz_ae613611c0 tz38 k42_7 | omega) (show z38.toInt ≤ x42_3.toInt from by first | exact oz_b1314744c8 nc1 tz38 | omega) (show 4 * x42_3.toInt ≤ (mf 2).toInt from by first | exact k42_9 | omega) (show x42_3.toInt ≤ 512 from by first | exact k42_10 | omega) (show (mf_42 0).toInt = 0 from by first | exact k42_11 | omega) (show (mf 2).toInt < 4 * x42_3.toInt + 4 from by first | exact k42_12 | omega) (show x42_3.toInt - z38.toInt < (n_42 : Int) from by first | exact oz_654393c63a hm tz38 | omega) hw (lv_sub hl [1, 2, 3, 4, 0] rfl)
  refine lv_aload_n S.x S.b d_Mo_raw_0 rfl (lv_at hl 0 rfl) ?_
  refine lv_iload_n S.x S.b d_Mo_raw_1 rfl (lv_at hl 1 rfl) ?_
  refine px_calli (pr := [wd_Mo cs mo mr (fun _ => none) mf md (gMo PG hq), fm 13 (fPr cs hq qr QO QF QA), fm 8 (fPg cs PG)]) (px_runS (As := [.int p0]) (rest := [.ref mo]) S (c_mo_isProg2 l D cs  p0   _) hT (pr := [wd_Mo cs mo mr (fun _ => none) mf md (gMo PG hq), fm 13 (fPr cs hq qr QO QF QA), fm 8 (fPg cs PG)]) (pcs := []) hw px_X.tt m11_126 m11_124 m11_125 m1_20 q_Mo_isProgram ⟨Nat.le_of_ble_eq_true rfl, Nat.le_of_ble_eq_true rfl⟩ hl.1 rfl (Nat.le_of_ble_eq_true rfl) d_Mo_raw_2 ⟨Nat.le_of_ble_eq_true rfl, Nat.le_of_ble_eq_true rfl⟩) hw hA (fun v41 p40 H locs hp40 hw => ?_)
  obtain ⟨rfl, e42, e43, e44⟩ := hp40
  have e42 : 0 ≤ v41.toInt := e42
  have e43 : v41.toInt ≤ 1 := e43
  have e44 : (v41.toInt = 1 ∧ 0 ≤ p0.toInt ∧ p0.toInt < 8) ∨ (v41.toInt = 0 ∧ (p0.toInt < 0 ∨ 8 ≤ p0.toInt)) := e44
  have hw : pw D A s.heap H locs [wd_Mo cs mo mr (fun _ => none) mf md (gMo PG hq), fm 13 (fPr cs hq qr QO QF QA), fm 8 (fPg cs PG)] := hw
  have lv41 := Int32.le_toInt v41
  have uv41 := Int32.toInt_lt v41
  refine lv_if_eq (tgt := 12) S.x S.b d_Mo_raw_5 (by decide) (fun c45 => ?_) (fun c45 => ?_)
  · have nc45 : v41.toInt = (0 : Int) := (i_eq (x := v41) (y := 0)).mp c45
    refine lv_iconst (v := 1) S.x S.b d_Mo_raw_12 (by decide) ?_
    refine px_put S k_Mo hT hw 0 0 0 rfl rfl (by decide) m11_78 rfl rfl rfl (Nat.le_of_ble_eq_true rfl) d_Mo_raw_13 (w' := wd_Mo cs mo mr (fun _ => none) (upd mf 0 1) md (gMo PG hq)) (ps' := [wd_Mo cs mo mr (fun _ => none) (upd mf 0 1) md (gMo PG hq), fm 13 (fPr cs hq qr QO QF QA), fm 8 (fPg cs PG)]) rfl rfl (fun H locs hw => ?_)
    refine lv_aload_n S.x S.b d_Mo_raw_16 rfl (lv_at hl 0 rfl) ?_
    refine px_get S k_Mo hT hw 0 0 0 (v := .int 1) rfl rfl rfl (by decide) m11_78 d_Mo_raw_17 ?_
    refine lv_if_le (tgt := 25) S.x S.b d_Mo_raw_20 (by decide) (fun c47 => ?_) (fun c47 => ?_)
    · exact absurd c47 (by decide)
    ·
      refine lv_iconst (v := 0) S.x S.b d_Mo_raw_23 (by decide) ?_
      exact px_iret (v := 0) S hr rfl hlk hAe hw (Nat.le_of_ble_eq_true rfl) (Nat.le_of_ble_eq_true rfl) (⟨(upd mf 0 1), PG, rfl, (show PgA PG from hpg), (show PgS PG PG from PgS.rf), (show (mf 10).toInt = (mf 10).toInt from rfl), (show 0 ≤ (mf 2).toInt from by first | exact g0 | omega), (show (mf 2).toInt ≤ 2048 from by first | exact g1 | omega), (show SoK PG PG p0 from SoK.rf), (show ((1 : Int) = 0 ∧ 0 ≤ p0.toInt ∧ p0.toInt < 8 ∧ (mf 2).toInt = 0 ∧ (((mf 2).toInt < 4 ∧ (0 : Int) = -1) ∨ (4 ≤ (mf 2).toInt ∧ 4 * (0 : Int) ≤ (mf 2).toInt ∧ (mf 2).toInt < 4 * (0 : Int) + 4)) ∧ (((0 : Int) < 0 ∧ ((PG p0.toNatClampNeg).xf 66).toInt = 0) ∨ (0 ≤ (0 : Int) ∧ ((PG p0.toNatClampNeg).xf 66).toInt = 2))) ∨ ((1 : Int) = 1 ∧ (p0.toInt < 0 ∨ 8 ≤ p0.toInt) ∧ (mf 2).toInt = (mf 2).toInt) from by omega)⟩) d_Mo_raw_24
  · have nc45 : ¬ v41.toInt = (0 : Int) := mt (i_eq (x := v41) (y := 0)).mpr c45
    refine lv_iconst (v := 0) S.x S.b d_Mo_raw_8 (by decide) ?_
    refine lv_goto (tgt := 13) S.x S.b d_Mo_raw_9 (by decide) ?_
    refine px_put S k_Mo hT hw 0 0 0 rfl rfl (by decide) m11_78 rfl rfl rfl (Nat.le_of_ble_eq_true rfl) d_Mo_raw_13 (w' := wd_Mo cs mo mr (fun _ => none) (upd mf 0 0) md (gMo PG hq)) (ps' := [wd_Mo cs mo mr (fun _ => none) (upd mf 0 0) md (gMo PG hq), fm 13 (fPr cs hq qr QO QF QA), fm 8 (fPg cs PG)]) rfl rfl (fun H locs hw => ?_)
    refine lv_aload_n S.x S.b d_Mo_raw_16 rfl (lv_at hl 0 rfl) ?_
    refine px_get S k_Mo hT hw 0 0 0 (v := .int 0) rfl rfl rfl (by decide) m11_78 d_Mo_raw_17 ?_
    refine lv_if_le (tgt := 25) S.x S.b d_Mo_raw_20 (by decide) (fun c48 => ?_) (fun c48 => ?_)
    ·
      refine lv_aload_n S.x S.b d_Mo_raw_25 rfl (lv_at hl 0 rfl) ?_
      refine px_get S k_Mo hT hw 0 0 4 (v := .ref (mr 4)) rfl rfl rfl (by decide) m11_82 d_Mo_raw_26 ?_
      refine lv_iload_n S.x S.b d_Mo_raw_29 rfl (lv_at hl 1 rfl) ?_
      refine px_aaldS S hT hw 0 2 9 (n := 8) (f := ((gMo PG hq) 4)) rfl rfl rfl (x := p0) (vp_in_iff.mpr (by constructor <;> omega)) (sk := (PG p0.toNatClampNeg).h) rfl d_Mo_raw_30 ?_
      refine lv_astore_n (lv' := [(2, .ref (PG p0.toNatClampNeg).h), (0, .ref mo), (1, .int p0)]) S.x S.b d_Mo_raw_31 rfl hl (by decide) rfl (fun ls hl => ?_)
      refine lv_aload_n S.x S.b d_Mo_raw_32 rfl (lv_at hl 1 rfl) ?_
      refine px_get S k_Mo hT hw 0 0 2 (v := .int (mf 2)) rfl rfl rfl (by decide) m11_80 d_Mo_raw_33 ?_
      refine lv_iconst (v := 4) S.x S.b d_Mo_raw_36 (by decide) ?_
      refine lv_idiv S.x S.b d_Mo_raw_37 (by decide) ?_
      refine lv_topi (fun z49 ez49 => ?_)
      have lz49 := Int32.le_toInt z49
      have uz49 := Int32.toInt_lt z49
      have td4 : z49.toInt = (mf 2).toInt / 4 := (by rw [ez49]; exact i_dv4 (by omega))
      refine lv_istore_n (lv' := [(3, .int z49), (2, .ref (PG p0.toNatClampNeg).h), (0, .ref mo), (1, .int p0)]) S.x S.b d_Mo_raw_38 rfl hl (by decide) rfl (fun ls hl => ?_)
      refine lv_iconst (v := 0) S.x S.b d_Mo_raw_39 (by decide) ?_
      refine lv_istore (lv' := [(4, .int 0), (3, .int z49), (2, .ref (PG p0.toNatClampNeg).h), (0, .ref mo), (1, .int p0)]) S.x S.b d_Mo_raw_40 hl (by decide) rfl (fun ls hl => ?_)
      exact J42 ((z49.toInt - (0 : Int)).toNat + 1) (upd mf 0 0) PG z49 (0 : Int32) _ _ ls (show PgA PG from hpg) (show PgS PG PG from PgS.rf) (show SoK PG PG p0 from SoK.rf) (show (mf 10).toInt = (mf 10).toInt from rfl) (show (mf 2).toInt = (mf 2).toInt from rfl) (show 0 ≤ p0.toInt from by omega) (show p0.toInt < 8 from by omega) (show 0 ≤ (0 : Int) from by first | exact oz_5a341f00aa | omega) (show (0 : Int) ≤ z49.toInt from by omega) (show 4 * z49.toInt ≤ (mf 2).toInt from by omega) (show z49.toInt ≤ 512 from by omega) (show (0 : Int) = 0 from by first | exact oz_7d1a308c7e | omega) (show (mf 2).toInt < 4 * z49.toInt + 4 from by omega) (show z49.toInt - (0 : Int) < ((((z49.toInt - (0 : Int)).toNat + 1 : Nat) : Int) : Int) from by first | exact oz_natlt | omega) hw (lv_sub hl [3, 4, 2, 1, 0] rfl)
    · exact absurd c48 (by decide)
