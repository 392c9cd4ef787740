theorem oz_3da49dea81 {a0 : Int} (h0 : a0 = 1) : a0 ≤ 4 := by omega
theorem oz_13e7b4d4c1 {a0 : Int} (h0 : a0 = (4 : Int)) : 0 ≤ a0 := by omega
theorem oz_e2e3ee21d3 {a0 : Int} (h0 : a0 = (3 : Int)) : 0 ≤ a0 := by omega
theorem oz_dc2da80b19 {a0 a1 a2 a3 a4 : Int} (h0 : a2 ≤ a1) (h1 : a0 ≤ a3) (h2 : a4 < a2) (h3 : a3 < (a4)) : a0 ≤ a1 := by omega
theorem oz_18f227bc52 {a0 a1 a2 a3 : Int} (h0 : a1 < (a0)) (h1 : 0 ≤ a1) (h2 : a0 < a2) (h3 : a2 ≤ a3) (h4 : a3 ≤ 2100) : 0 ≤ a0 ∧ a0 < ((2100 : Nat) : Int) := by omega
theorem oz_0a7da9c4d6 {a0 a1 : Int} (h0 : a1 < a0) (h1 : 0 ≤ a1) : 0 ≤ a0 := by omega
theorem oz_6996e0781a {a0 a1 a2 : Int} (h0 : a2 ≤ a1) (h1 : a0 < a2) : a0 ≤ a1 := by omega
theorem oz_05bb820b9b {a0 : Int} (h0 : a0 ≤ 3) : a0 ≤ 4 := by omega
theorem oz_39eeb43c3f {a0 : Int} (h0 : a0 = (2 : Int)) : a0 ≤ 4 := by omega
theorem oz_c12c169b81 {a0 : Int} (h0 : 0 ≤ a0) : 0 ≤ (a0 + 1) := by omega
theorem oz_b607b04d7a {a0 a1 : Int} (h0 : 0 ≤ a0) (h1 : a0 < (a1)) (h2 : a1 ≤ 2049) : 0 ≤ a0 ∧ a0 < ((2060 : Nat) : Int) := by omega
theorem oz_dec8fc8b31 {a0 a1 a2 : Int} (h0 : a0 ≤ a2) (h1 : a2 < a1) : a0 ≤ a1 := by omega
theorem oz_0ba3c94183 {a0 a1 a2 a3 a4 a5 : Int} (h0 : a2 ≤ a1) (h1 : a0 ≤ a3) (h2 : a4 < a2) (h3 : a5 ≤ a4) (h4 : a3 < a5) : a0 ≤ a1 := by omega
theorem m13_22 : Cond.methodLink "HomeSystemModel$Program" 581 ⟨"HomeSystemModel$Program", "checkPlace", "(II)V"⟩ ∈ AL := AL_13 (List.mem_of_getElem? (i := 22) rfl) rfl
theorem m13_25 : Cond.code ⟨"HomeSystemModel$Program", "checkPlace", "(II)V"⟩ prog_16_method_76_code 4 (Option.none : Option Jvm.ClassFile.FieldType) ∈ AL := AL_13 (List.mem_of_getElem? (i := 25) rfl) rfl
theorem ms_13_3 : Cond.selects "HomeSystemModel$Program" ⟨"HomeSystemModel$Program", "checkPlace", "(II)V"⟩ ⟨"HomeSystemModel$Program", "checkPlace", "(II)V"⟩ ∈ AL := AL_p (q := (⟨"HomeSystemModel$Program", "checkPlace", "(II)V"⟩, 69)) (by unfold lw_privs; exact List.mem_append_right _ (List.mem_append_right _ (List.mem_append_right _ (List.mem_append_right _ (List.mem_append_right _ (List.mem_append_right _ (List.mem_append_right _ (List.mem_append_right _ (List.mem_append_right _ (List.mem_append_right _ (List.mem_append_right _ (List.mem_append_right _ (List.mem_append_left _ (List.mem_of_getElem? (i := 3) rfl))))))))))))))
theorem m13_24 : Cond.instanceMethod ⟨"HomeSystemModel$Program", "checkPlace", "(II)V"⟩ ∈ AL := AL_13 (List.mem_of_getElem? (i := 24) rfl) rfl
theorem m12_218 : Cond.methodLink "HomeSystemModel$Program" 568 ⟨"HomeSystemModel$Program", "checkName", "(I)I"⟩ ∈ AL := AL_12 (List.mem_of_getElem? (i := 218) rfl) rfl
theorem m12_221 : Cond.code ⟨"HomeSystemModel$Program", "checkName", "(I)I"⟩ prog_16_method_75_code 4 (Option.some FieldType.int) ∈ AL := AL_12 (List.mem_of_getElem? (i := 221) rfl) rfl
theorem ms_12_8 : Cond.selects "HomeSystemModel$Program" ⟨"HomeSystemModel$Program", "checkName", "(I)I"⟩ ⟨"HomeSystemModel$Program", "checkName", "(I)I"⟩ ∈ AL := AL_p (q := (⟨"HomeSystemModel$Program", "checkName", "(I)I"⟩, 69)) (by unfold lw_privs; exact List.mem_append_right _ (List.mem_append_right _ (List.mem_append_right _ (List.mem_append_right _ (List.mem_append_right _ (List.mem_append_right _ (List.mem_append_right _ (List.mem_append_right _ (List.mem_append_right _ (List.mem_append_right _ (List.mem_append_right _ (List.mem_append_left _ (List.mem_of_getElem? (i := 8) rfl)))))))))))))
theorem m12_220 : Cond.instanceMethod ⟨"HomeSystemModel$Program", "checkName", "(I)I"⟩ ∈ AL := AL_12 (List.mem_of_getElem? (i := 220) rfl) rfl
theorem m12_222 : Cond.methodLink "HomeSystemModel$Program" 571 ⟨"HomeSystemModel$Program", "checkCall", "(I)I"⟩ ∈ AL := AL_12 (List.mem_of_getElem? (i := 222) rfl) rfl
theorem m12_225 : Cond.code ⟨"HomeSystemModel$Program", "checkCall", "(I)I"⟩ prog_16_method_79_code 9 (Option.some FieldType.int) ∈ AL := AL_12 (List.mem_of_getElem? (i := 225) rfl) rfl
theorem ms_12_9 : Cond.selects "HomeSystemModel$Program" ⟨"HomeSystemModel$Program", "checkCall", "(I)I"⟩ ⟨"HomeSystemModel$Program", "checkCall", "(I)I"⟩ ∈ AL := AL_p (q := (⟨"HomeSystemModel$Program", "checkCall", "(I)I"⟩, 69)) (by unfold lw_privs; exact List.mem_append_right _ (List.mem_append_right _ (List.mem_append_right _ (List.mem_append_right _ (List.mem_append_right _ (List.mem_append_right _ (List.mem_append_right _ (List.mem_append_right _ (List.mem_append_right _ (List.mem_append_right _ (List.mem_append_right _ (List.mem_append_left _ (List.mem_of_getElem? (i := 9) rfl)))))))))))))
theorem m12_224 : Cond.instanceMethod ⟨"HomeSystemModel$Program", "checkCall", "(I)I"⟩ ∈ AL := AL_12 (List.mem_of_getElem? (i := 224) rfl) rfl
theorem m13_18 : Cond.methodLink "HomeSystemModel$Program" 574 ⟨"HomeSystemModel$Program", "checkIndex", "(I)V"⟩ ∈ AL := AL_13 (List.mem_of_getElem? (i := 18) rfl) rfl
theorem m13_21 : Cond.code ⟨"HomeSystemModel$Program", "checkIndex", "(I)V"⟩ prog_16_method_77_code 4 (Option.none : Option Jvm.ClassFile.FieldType) ∈ AL := AL_13 (List.mem_of_getElem? (i := 21) rfl) rfl
theorem ms_13_2 : Cond.selects "HomeSystemModel$Program" ⟨"HomeSystemModel$Program", "checkIndex", "(I)V"⟩ ⟨"HomeSystemModel$Program", "checkIndex", "(I)V"⟩ ∈ AL := AL_p (q := (⟨"HomeSystemModel$Program", "checkIndex", "(I)V"⟩, 69)) (by unfold lw_privs; exact List.mem_append_right _ (List.mem_append_right _ (List.mem_append_right _ (List.mem_append_right _ (List.mem_append_right _ (List.mem_append_right _ (List.mem_append_right _ (List.mem_append_right _ (List.mem_append_right _ (List.mem_append_right _ (List.mem_append_right _ (List.mem_append_right _ (List.mem_append_left _ (List.mem_of_getElem? (i := 2) rfl))))))))))))))
theorem m13_20 : Cond.instanceMethod ⟨"HomeSystemModel$Program", "checkIndex", "(I)V"⟩ ∈ AL := AL_13 (List.mem_of_getElem? (i := 20) rfl) rfl
set_option maxHeartbeats 4000000 in
set_option maxRecDepth 100000 in
theorem c_mp_check (l : Launch) (D : va_G) (cs : Nat → ClassId) (ma0 : Nat → Nat → Int32) (ys : Int) (ns : Int) (nf : Int) (kn : Int) (d : Nat) (lo : Int) (hi : Int) (h : Nat) (r : Nat → Nat) (g : Nat → Nat → Option Nat) (tf : Nat → Int32) (ta : Nat → Nat → Int32) (pf : Nat → Int32) (na : Nat → Nat → Int32) (wa : Nat → Nat → Int32) (ca : Nat → Nat → Int32) (ef : Nat → Int32) (ea : Nat → Nat → Int32) (xf : Nat → Int32) (xa : Nat → Nat → Int32) (ma : Nat → Nat → Int32) (cf : Nat → Int32) (p0 p1 : Int32)  (g0 : 0 ≤ lo) (g1 : hi ≤ (pf 13).toInt) (g2 : (pf 13).toInt ≤ 2100) (g3 : (tf 6).toInt ≤ 2049) (g4 : (cf 33).toInt = kn) (g5 : 0 ≤ kn) (g6 : (cf 48).toInt = ns) (g7 : (cf 38).toInt = nf) (g8 : 0 ≤ nf) (g9 : 0 ≤ p1.toInt) (g10 : p1.toInt ≤ 1) (htk : TkI tf ta) (hfs : FsI (tf 6).toInt (pf 13).toInt na) (hwr : WrV cf (tf 6).toInt) (hkt : KnT (tf 6).toInt ca (cf 33).toInt) (hft : FnT (tf 6).toInt na ca (cf 38).toInt) (hks : KnS ca kn ns ys) (hfp : FnP na ca nf) (han : Ann na ma0 ma) (hec : EcV ta (tf 6).toInt na ma0 (d + 1) lo hi p0) (hLC : ChkC l D cs d) : MetI l y_Mpg_check b_Mpg_check 8 (.int) D cs (4 * (d + 1) + 12) (200 * (d + 1) + 420) (0) (0) [.ref h, .int p0, .int p1] [wdP cs h r g tf ta pf na ma wa cf ca ef ea xf xa] (oX (fun A U H => (oP A g U H)) [wdP cs h r g tf ta pf na ma wa cf ca ef ea xf xa]) (fun v ps => ∃ (ma' : Nat → Nat → Int32) (cf' : Nat → Int32), (ps = [wdP cs h r g tf ta pf na ma' wa cf' ca ef ea xf xa]) ∧ (KpE cf cf') ∧ (WrV cf' (tf 6).toInt) ∧ ((cf' 33).toInt = (cf 33).toInt) ∧ ((cf' 38).toInt = (cf 38).toInt) ∧ ((cf' 48).toInt = (cf 48).toInt) ∧ ((cf' 46).toInt = (cf 46).toInt) ∧ ((cf' 47).toInt = (cf 47).toInt) ∧ ((cf' 57).toInt = (cf 57).toInt) ∧ (Ann na ma0 ma') ∧ (FrC lo hi ma ma') ∧ (0 ≤ v.toInt) ∧ (v.toInt ≤ 4) ∧ (NmJ ta ca na ma' kn p0 v.toInt) ∧ (ZTy cf' (Gk ta ca na ma0 ns ys nf) na ma' lo hi p0 v.toInt) ∧ (ZNm cf' p1.toInt v.toInt)) := by
  refine px_enter (by decide) (Nat.le_of_ble_eq_true rfl) ?_
  intro p e s m below meth c A ls hAe S hr hlk hnm hA hT hX hw hl
  have hl : lv_has ls 8 [(0, .ref h), (1, .int p0), (2, .int p1)] := hl
  have lp0 := Int32.le_toInt p0
  have up0 := Int32.toInt_lt p0
  have lp1 := Int32.le_toInt p1
  have up1 := Int32.toInt_lt p1
  have cst0 : (0 : Int32).toInt = 0 := rfl
  have cst1 : (1 : Int32).toInt = 1 := rfl
  have cst2 : (2 : Int32).toInt = 2 := rfl
  have cst3 : (3 : Int32).toInt = 3 := rfl
  have cst4 : (4 : Int32).toInt = 4 := rfl
  have cst5 : (5 : Int32).toInt = 5 := rfl
  have hX : (fun A U H => (oP A g U H)) A s s.heap := by rw [hAe]; exact hX
  have hP := hX
  have hZ := hP.1
  have hF0 := hP.2.1
  have hke : KpE cf cf := KpE.rf
  have hfc : FrC lo hi ma ma := FrC.rf
  have hwr0 := hwr.1
  have hk11 := hkt.1
  have hf11 := hft.1
  have hec_p0 := hec
  have hrg := EcV.rng hec
  have J197 : ∀ (n_197 : Nat) (ma_197 : Nat → Nat → Int32) (cf_197 : Nat → Int32) (mid_197 : Int) (x197_3 x197_7 : Int32) (H : Heap) (locs : List Loc) (ls : Array Slot), (KpE cf cf_197) → (WrV cf_197 (tf 6).toInt) → ((cf_197 33).toInt = (cf 33).toInt) → ((cf_197 38).toInt = (cf 38).toInt) → ((cf_197 48).toInt = (cf 48).toInt) → ((cf_197 46).toInt = (cf 46).toInt) → ((cf_197 47).toInt = (cf 47).toInt) → ((cf_197 57).toInt = (cf 57).toInt) → (Ann na ma0 ma_197) → (FrC lo hi ma ma_197) → (x197_3.toInt = 1) → (lo ≤ mid_197) → (mid_197 ≤ hi) → ((na 14 p0.toNatClampNeg).toInt = 7) → (RcN ta (tf 6).toInt na ma0 d p0 mid_197 hi x197_7) → (ZTr cf_197 (Gk ta ca na ma0 ns ys nf) na ma_197 lo mid_197 (na 17 p0.toNatClampNeg) x197_7) → hi - mid_197 < (n_197 : Int) → pw D A s.heap H locs [wdP cs h r g tf ta pf na ma_197 wa cf_197 ca ef ea xf xa] → lv_has ls 8 [(0, .ref h), (1, .int p0), (2, .int p1), (3, .int x197_3), (7, .int x197_7)] → W p l e { frames := (4 * (d + 1) + 12), cells := 0, slots := 0, locals := (200 * (d + 1) + 420) } s m [.ref h, .int p0, .int p1].toArray below meth c H locs 0 0 (MQ below (va_Qi (fun v ps => ∃ (ma' : Nat → Nat → Int32) (cf' : Nat → Int32), (ps = [wdP cs h r g tf ta pf na ma' wa cf' ca ef ea xf xa]) ∧ (KpE cf cf') ∧ (WrV cf' (tf 6).toInt) ∧ ((cf' 33).toInt = (cf 33).toInt) ∧ ((cf' 38).toInt = (cf 38).toInt) ∧ ((cf' 48).toInt = (cf 48).toInt) ∧ ((cf' 46).toInt = (cf 46).toInt) ∧ ((cf' 47).toInt = (cf 47).toInt) ∧ ((cf' 57).toInt = (cf 57).toInt) ∧ (Ann na ma0 ma') ∧ (FrC lo hi ma ma') ∧ (0 ≤ v.toInt) ∧ (v.toInt ≤ 4) ∧ (NmJ ta ca na ma' kn p0 v.toInt) ∧ (ZTy cf' (Gk ta ca na ma0 ns ys nf) na ma' lo hi p0 v.toInt) ∧ (ZNm cf' p1.toInt v.toInt)) (pc_B D (va_A ([wdP cs h r g tf ta pf na ma wa cf ca ef ea xf xa] : List va_W).flatten s.heap.size)) (va_A ([wdP cs h r g tf ta pf na ma wa cf ca ef ea xf xa] : List va_W).flatten s.heap.size)) [.ref h, .int p0, .int p1].toArray s 0 0 A) (F0 m 197 ls []) := by
    intro  n_197
    induction n_197 with
    | zero =>
      intro ma_197 cf_197 mid_197 x197_3 x197_7 H locs ls k197_0 k197_1 k197_2 k197_3 k197_4 k197_5 k197_6 k197_7 k197_8 k197_9 k197_10 k197_11 k197_12 k197_13 k197_14 k197_15 hm hw hl
      have lx197_3 := Int32.le_toInt x197_3
      have ux197_3 := Int32.toInt_lt x197_3
      have lx197_7 := Int32.le_toInt x197_7
      have ux197_7 := Int32.toInt_lt x197_7
      have hke := k197_0
      have hwr := k197_1
      have hw0_k197_1 := hwr.1
      have han := k197_8
      have hfc := k197_9
      have hrr := k197_14
      have hztr := k197_15
      exact absurd hm (by first | with_reducible rfl | with_reducible assumption | omega)
    | succ n_197 ih197 =>
      intro ma_197 cf_197 mid_197 x197_3 x197_7 H locs ls k197_0 k197_1 k197_2 k197_3 k197_4 k197_5 k197_6 k197_7 k197_8 k197_9 k197_10 k197_11 k197_12 k197_13 k197_14 k197_15 hm hw hl
      have lx197_3 := Int32.le_toInt x197_3
      have ux197_3 := Int32.toInt_lt x197_3
      have lx197_7 := Int32.le_toInt x197_7
      have ux197_7 := Int32.toInt_lt x197_7
      have hke := k197_0
      have hwr := k197_1
      have hw0_k197_1 := hwr.1
      have han := k197_8
      have hfc := k197_9
      have hrr := k197_14
      have hztr := k197_15
      refine lv_iload S.x S.b d_Mpg_check_197 (lv_at hl 4 rfl) ?_
      refine lv_if_lt (tgt := 222) S.x S.b d_Mpg_check_199 (by decide) (fun c1 => ?_) (fun c1 => ?_)
      · have nc1 : x197_7.toInt < (0 : Int) := (i_lt (x := x197_7) (y := 0)).mp c1
        refine lv_goto (tgt := 301) S.x S.b d_Mpg_check_222 (by decide) ?_
        refine lv_iload_n S.x S.b d_Mpg_check_301 rfl (lv_at hl 2 rfl) ?_
        refine lv_if_eq (tgt := 328) S.x S.b d_Mpg_check_302 (by decide) (fun c2 => ?_) (fun c2 => ?_)
        · have nc2 : p1.toInt = (0 : Int) := (i_eq (x := p1) (y := 0)).mp c2
          refine lv_iload_n S.x S.b d_Mpg_check_328 rfl (lv_at hl 2 rfl) ?_
          refine lv_if_eq (tgt := 348) S.x S.b d_Mpg_check_329 (by decide) (fun c3 => ?_) (fun c3 => ?_)
          · have nc3 : p1.toInt = (0 : Int) := (i_eq (x := p1) (y := 0)).mp c3
            refine lv_iload_n S.x S.b d_Mpg_check_348 rfl (lv_at hl 3 rfl) ?_
            exact px_iret (v := x197_3) S hr rfl hlk hAe hw (Nat.le_of_ble_eq_true rfl) (Nat.le_of_ble_eq_true rfl) (⟨ma_197, cf_197, rfl, (show KpE cf cf_197 from hke), (show WrV cf_197 (tf 6).toInt from hwr), (show (cf_197 33).toInt = (cf 33).toInt from by first | exact k197_2 | omega), (show (cf_197 38).toInt = (cf 38).toInt from by first | exact k197_3 | omega), (show (cf_197 48).toInt = (cf 48).toInt from by first | exact k197_4 | omega), (show (cf_197 46).toInt = (cf 46).toInt from by first | exact k197_5 | omega), (show (cf_197 47).toInt = (cf 47).toInt from by first | exact k197_6 | omega), (show (cf_197 57).toInt = (cf 57).toInt from by first | exact k197_7 | omega), (show Ann na ma0 ma_197 from han), (show FrC lo hi ma ma_197 from hfc), (show 0 ≤ x197_3.toInt from by first | exact oz_1b364b1c5f k197_10 | omega), (show x197_3.toInt ≤ 4 from by first | exact oz_3da49dea81 k197_10 | omega), (show NmJ ta ca na ma_197 kn p0 x197_3.toInt from (fun h => absurd h (by first | with_reducible rfl | with_reducible assumption | omega))), (show ZTy cf_197 (Gk ta ca na ma0 ns ys nf) na ma_197 lo hi p0 x197_3.toInt from (fun zz => Or.inr ⟨by first | with_reducible rfl | with_reducible assumption | omega, ty_7 hrg (by first | with_reducible rfl | with_reducible assumption | omega) rfl ((hztr zz).le (by first | with_reducible rfl | with_reducible assumption | omega) (by first | with_reducible rfl | with_reducible assumption | omega)) (by first | with_reducible rfl | with_reducible assumption | omega)⟩)), (show ZNm cf_197 p1.toInt x197_3.toInt from (zty_num (G := (Gk ta ca na ma0 ns ys nf)) (na := na) (ma := ma_197) (lo := lo) (hi := hi) (n := p0) (fun zz => Or.inr ⟨by first | with_reducible rfl | with_reducible assumption | omega, ty_7 hrg (by first | with_reducible rfl | with_reducible assumption | omega) rfl ((hztr zz).le (by first | with_reducible rfl | with_reducible assumption | omega) (by first | with_reducible rfl | with_reducible assumption | omega)) (by first | with_reducible rfl | with_reducible assumption | omega)⟩) (by first | with_reducible rfl | with_reducible assumption | omega)))⟩) d_Mpg_check_349
          · have nc3 : ¬ p1.toInt = (0 : Int) := mt (i_eq (x := p1) (y := 0)).mpr c3
            refine lv_iload_n S.x S.b d_Mpg_check_332 rfl (lv_at hl 3 rfl) ?_
            refine lv_iconst (v := 4) S.x S.b d_Mpg_check_333 (by decide) ?_
            refine lv_icmp_ne (tgt := 348) S.x S.b d_Mpg_check_334 (by decide) (fun c4 => ?_) (fun c4 => ?_)
            · have nc4 : ¬ x197_3.toInt = (4 : Int) := mt (i_eq (x := x197_3) (y := 4)).mpr c4
              refine lv_iload_n S.x S.b d_Mpg_check_348 rfl (lv_at hl 3 rfl) ?_
              exact px_iret (v := x197_3) S hr rfl hlk hAe hw (Nat.le_of_ble_eq_true rfl) (Nat.le_of_ble_eq_true rfl) (⟨ma_197, cf_197, rfl, (show KpE cf cf_197 from hke), (show WrV cf_197 (tf 6).toInt from hwr), (show (cf_197 33).toInt = (cf 33).toInt from by first | exact k197_2 | omega), (show (cf_197 38).toInt = (cf 38).toInt from by first | exact k197_3 | omega), (show (cf_197 48).toInt = (cf 48).toInt from by first | exact k197_4 | omega), (show (cf_197 46).toInt = (cf 46).toInt from by first | exact k197_5 | omega), (show (cf_197 47).toInt = (cf 47).toInt from by first | exact k197_6 | omega), (show (cf_197 57).toInt = (cf 57).toInt from by first | exact k197_7 | omega), (show Ann na ma0 ma_197 from han), (show FrC lo hi ma ma_197 from hfc), (show 0 ≤ x197_3.toInt from by first | exact oz_1b364b1c5f k197_10 | omega), (show x197_3.toInt ≤ 4 from by first | exact oz_3da49dea81 k197_10 | omega), (show NmJ ta ca na ma_197 kn p0 x197_3.toInt from (fun h => absurd h (by first | with_reducible rfl | with_reducible assumption | omega))), (show ZTy cf_197 (Gk ta ca na ma0 ns ys nf) na ma_197 lo hi p0 x197_3.toInt from (fun zz => Or.inr ⟨by first | with_reducible rfl | with_reducible assumption | omega, ty_7 hrg (by first | with_reducible rfl | with_reducible assumption | omega) rfl ((hztr zz).le (by first | with_reducible rfl | with_reducible assumption | omega) (by first | with_reducible rfl | with_reducible assumption | omega)) (by first | with_reducible rfl | with_reducible assumption | omega)⟩)), (show ZNm cf_197 p1.toInt x197_3.toInt from (zty_num (G := (Gk ta ca na ma0 ns ys nf)) (na := na) (ma := ma_197) (lo := lo) (hi := hi) (n := p0) (fun zz => Or.inr ⟨by first | with_reducible rfl | with_reducible assumption | omega, ty_7 hrg (by first | with_reducible rfl | with_reducible assumption | omega) rfl ((hztr zz).le (by first | with_reducible rfl | with_reducible assumption | omega) (by first | with_reducible rfl | with_reducible assumption | omega)) (by first | with_reducible rfl | with_reducible assumption | omega)⟩) (by first | with_reducible rfl | with_reducible assumption | omega)))⟩) d_Mpg_check_349
            · have nc4 : x197_3.toInt = (4 : Int) := (i_eq (x := x197_3) (y := 4)).mp c4
              refine lv_aload_n S.x S.b d_Mpg_check_337 rfl (lv_at hl 0 rfl) ?_
              refine lv_iconst (v := 5) S.x S.b d_Mpg_check_338 (by decide) ?_
              refine lv_aload_n S.x S.b d_Mpg_check_339 rfl (lv_at hl 0 rfl) ?_
              refine px_get S k_Mpg hT hw 0 0 15 (v := .ref (r 15)) rfl rfl rfl (by decide) m9_239 d_Mpg_check_340 ?_
              refine lv_iload_n S.x S.b d_Mpg_check_343 rfl (lv_at hl 1 rfl) ?_
              refine px_iald S hT hw 0 11 (n := 2100) (f := (na 15)) rfl gp_15 (x := p0) (vp_in_iff.mpr (by first | exact oz_a7e05de1cd hrg.2.2 hrg.2.1 g1 g2 | (constructor <;> omega))) d_Mpg_check_344 ?_
              refine lv_topi (fun z5 ez5 => ?_)
              have lz5 := Int32.le_toInt z5
              have uz5 := Int32.toInt_lt z5
              have rz5 := EcV.tok hec_p0 ez5
              refine px_callv (pr := []) (px_runV (As := [.int 5, .int z5]) (rest := []) S (c_mp_bad l D cs h r g tf ta pf na ma_197 wa ca ef ea xf xa cf_197 5 z5  (show 1 ≤ (5 : Int) from by first | decide | omega) (show 0 ≤ z5.toInt from by first | exact rz5.1 | omega) (show z5.toInt < (tf 6).toInt from by first | exact oz_7fe81129bf rz5.2 | omega) htk hwr _) hT (pr := []) (pcs := [wdP cs h r g tf ta pf na ma_197 wa cf_197 ca ef ea xf xa]) hw px_X.tt (px_recv hT hw 0 0 rfl rfl rfl) m12_173 m12_170 m12_172 ms_11_12 m1_21 q_Mpg_bad ⟨show 0 + 1 ≤ (4 * (d + 1) + 12) from by first | with_reducible rfl | with_reducible assumption | omega, show 8 + (3 + 11) + 0 ≤ (200 * (d + 1) + 420) from by first | with_reducible rfl | with_reducible assumption | omega⟩ hl.1 rfl (Nat.le_of_ble_eq_true rfl) d_Mpg_check_345 ⟨Nat.le_of_ble_eq_true rfl, Nat.le_of_ble_eq_true rfl⟩) hw hA (fun p8 H locs hp8 hw => ?_)
              obtain ⟨cf7, rfl, e10, e11, e12, e13, e14, e15, e16, e17, e18, e19, e20, e21, e22, e23, e24, e25, e26, e27, e28⟩ := hp8
              have e10 : KpE cf_197 cf7 := e10
              have hke := (hke).tr e10
              have hkz_e10 := e10.2
              have hztr := Zr.kp hztr e10 id
              have e11 : WrV cf7 (tf 6).toInt := e11
              have hwr := e11
              have hw0_e11 := hwr.1
              have e12 : 1 ≤ (cf7 30).toInt := e12
              have e13 : (cf7 33).toInt = (cf_197 33).toInt := e13
              have e14 : (cf7 38).toInt = (cf_197 38).toInt := e14
              have e15 : (cf7 48).toInt = (cf_197 48).toInt := e15
              have e16 : (cf7 46).toInt = (cf_197 46).toInt := e16
              have e17 : (cf7 47).toInt = (cf_197 47).toInt := e17
              have e18 : (cf7 57).toInt = (cf_197 57).toInt := e18
              have e19 : (cf7 37).toInt = (cf_197 37).toInt := e19
              have e20 : (cf7 42).toInt = (cf_197 42).toInt := e20
              have e21 : (cf7 43).toInt = (cf_197 43).toInt := e21
              have e22 : (cf7 44).toInt = (cf_197 44).toInt := e22
              have e23 : (cf7 45).toInt = (cf_197 45).toInt := e23
              have e24 : (cf7 54).toInt = (cf_197 54).toInt := e24
              have e25 : (cf7 55).toInt = (cf_197 55).toInt := e25
              have e26 : (cf7 58).toInt = (cf_197 58).toInt := e26
              have e27 : (cf7 59).toInt = (cf_197 59).toInt := e27
              have e28 : (cf7 41).toInt = (cf_197 41).toInt := e28
              have hw : pw D A s.heap H locs [wdP cs h r g tf ta pf na ma_197 wa cf7 ca ef ea xf xa] := hw
              refine lv_iload_n S.x S.b d_Mpg_check_348 rfl (lv_at hl 3 rfl) ?_
              exact px_iret (v := x197_3) S hr rfl hlk hAe hw (Nat.le_of_ble_eq_true rfl) (Nat.le_of_ble_eq_true rfl) (⟨ma_197, cf7, rfl, (show KpE cf cf7 from hke), (show WrV cf7 (tf 6).toInt from hwr), (show (cf7 33).toInt = (cf 33).toInt from by first | exact oz_1687f4cc65 k197_2 e13 | omega), (show (cf7 38).toInt = (cf 38).toInt from by first | exact oz_1687f4cc65 k197_3 e14 | omega), (show (cf7 48).toInt = (cf 48).toInt from by first | exact oz_1687f4cc65 k197_4 e15 | omega), (show (cf7 46).toInt = (cf 46).toInt from by first | exact oz_1687f4cc65 k197_5 e16 | omega), (show (cf7 47).toInt = (cf 47).toInt from by first | exact oz_1687f4cc65 k197_6 e17 | omega), (show (cf7 57).toInt = (cf 57).toInt from by first | exact oz_1687f4cc65 k197_7 e18 | omega), (show Ann na ma0 ma_197 from han), (show FrC lo hi ma ma_197 from hfc), (show 0 ≤ x197_3.toInt from by first | exact oz_13e7b4d4c1 nc4 | omega), (show x197_3.toInt ≤ 4 from by first | exact oz_3da49dea81 k197_10 | omega), (show NmJ ta ca na ma_197 kn p0 x197_3.toInt from (fun h => absurd h (by first | with_reducible rfl | with_reducible assumption | omega))), (show ZTy cf7 (Gk ta ca na ma0 ns ys nf) na ma_197 lo hi p0 x197_3.toInt from (zr_no (by first | with_reducible rfl | with_reducible assumption | omega))), (show ZNm cf7 p1.toInt x197_3.toInt from (zr_no (by first | with_reducible rfl | with_reducible assumption | omega)))⟩) d_Mpg_check_349
        · have nc2 : ¬ p1.toInt = (0 : Int) := mt (i_eq (x := p1) (y := 0)).mpr c2
          refine lv_iload_n S.x S.b d_Mpg_check_305 rfl (lv_at hl 3 rfl) ?_
          refine lv_iconst (v := 2) S.x S.b d_Mpg_check_306 (by decide) ?_
          refine lv_icmp_eq (tgt := 315) S.x S.b d_Mpg_check_307 (by decide) (fun c29 => ?_) (fun c29 => ?_)
          · have nc29 : x197_3.toInt = (2 : Int) := (i_eq (x := x197_3) (y := 2)).mp c29
            refine lv_aload_n S.x S.b d_Mpg_check_315 rfl (lv_at hl 0 rfl) ?_
            refine lv_iconst (v := 3) S.x S.b d_Mpg_check_316 (by decide) ?_
            refine lv_aload_n S.x S.b d_Mpg_check_317 rfl (lv_at hl 0 rfl) ?_
            refine lv_iload_n S.x S.b d_Mpg_check_318 rfl (lv_at hl 1 rfl) ?_
            refine px_calli (pr := []) (px_runV (As := [.int p0]) (rest := [.int 3, .ref h]) S (c_mp_first l D cs h r g tf ta pf na ma_197 wa cf_197 ca ef ea xf xa p0  (show 0 ≤ p0.toInt from by first | exact hrg.2.2 | omega) (show p0.toInt < (pf 13).toInt from by first | exact oz_7319c2f99d g1 hrg.2.1 | omega) (show (pf 13).toInt ≤ 2100 from by first | exact g2 | omega) htk (FsI.le (N' := (pf 13).toInt) hfs (by first | with_reducible rfl | with_reducible assumption | omega)) _) hT (pr := []) (pcs := [wdP cs h r g tf ta pf na ma_197 wa cf_197 ca ef ea xf xa]) hw px_X.tt (px_recv hT hw 0 0 rfl rfl rfl) m13_9 m13_6 m13_8 ms_12_15 m1_21 q_Mpg_first ⟨show 0 + 1 ≤ (4 * (d + 1) + 12) from by first | with_reducible rfl | with_reducible assumption | omega, show 8 + (2 + 11) + 0 ≤ (200 * (d + 1) + 420) from by first | with_reducible rfl | with_reducible assumption | omega⟩ hl.1 rfl (Nat.le_of_ble_eq_true rfl) d_Mpg_check_319 ⟨Nat.le_of_ble_eq_true rfl, Nat.le_of_ble_eq_true rfl⟩) hw hA (fun v31 p30 H locs hp30 hw => ?_)
            obtain ⟨rfl, e32, e33⟩ := hp30
            have e32 : 0 ≤ v31.toInt := e32
            have e33 : v31.toInt < (tf 6).toInt := e33
            have hw : pw D A s.heap H locs [wdP cs h r g tf ta pf na ma_197 wa cf_197 ca ef ea xf xa] := hw
            have lv31 := Int32.le_toInt v31
            have uv31 := Int32.toInt_lt v31
            refine px_callv (pr := []) (px_runV (As := [.int 3, .int v31]) (rest := []) S (c_mp_bad l D cs h r g tf ta pf na ma_197 wa ca ef ea xf xa cf_197 3 v31  (show 1 ≤ (3 : Int) from by first | decide | omega) (show 0 ≤ v31.toInt from by first | exact e32 | omega) (show v31.toInt < (tf 6).toInt from by first | exact e33 | omega) htk hwr _) hT (pr := []) (pcs := [wdP cs h r g tf ta pf na ma_197 wa cf_197 ca ef ea xf xa]) hw px_X.tt (px_recv hT hw 0 0 rfl rfl rfl) m12_173 m12_170 m12_172 ms_11_12 m1_21 q_Mpg_bad ⟨show 0 + 1 ≤ (4 * (d + 1) + 12) from by first | with_reducible rfl | with_reducible assumption | omega, show 8 + (3 + 11) + 0 ≤ (200 * (d + 1) + 420) from by first | with_reducible rfl | with_reducible assumption | omega⟩ hl.1 rfl (Nat.le_of_ble_eq_true rfl) d_Mpg_check_322 ⟨Nat.le_of_ble_eq_true rfl, Nat.le_of_ble_eq_true rfl⟩) hw hA (fun p36 H locs hp36 hw => ?_)
            obtain ⟨cf35, rfl, e38, e39, e40, e41, e42, e43, e44, e45, e46, e47, e48, e49, e50, e51, e52, e53, e54, e55, e56⟩ := hp36
            have e38 : KpE cf_197 cf35 := e38
            have hke := (hke).tr e38
            have hkz_e38 := e38.2
            have hztr := Zr.kp hztr e38 id
            have e39 : WrV cf35 (tf 6).toInt := e39
            have hwr := e39
            have hw0_e39 := hwr.1
            have e40 : 1 ≤ (cf35 30).toInt := e40
            have e41 : (cf35 33).toInt = (cf_197 33).toInt := e41
            have e42 : (cf35 38).toInt = (cf_197 38).toInt := e42
            have e43 : (cf35 48).toInt = (cf_197 48).toInt := e43
            have e44 : (cf35 46).toInt = (cf_197 46).toInt := e44
            have e45 : (cf35 47).toInt = (cf_197 47).toInt := e45
            have e46 : (cf35 57).toInt = (cf_197 57).toInt := e46
            have e47 : (cf35 37).toInt = (cf_197 37).toInt := e47
            have e48 : (cf35 42).toInt = (cf_197 42).toInt := e48
            have e49 : (cf35 43).toInt = (cf_197 43).toInt := e49
            have e50 : (cf35 44).toInt = (cf_197 44).toInt := e50
            have e51 : (cf35 45).toInt = (cf_197 45).toInt := e51
            have e52 : (cf35 54).toInt = (cf_197 54).toInt := e52
            have e53 : (cf35 55).toInt = (cf_197 55).toInt := e53
            have e54 : (cf35 58).toInt = (cf_197 58).toInt := e54
            have e55 : (cf35 59).toInt = (cf_197 59).toInt := e55
            have e56 : (cf35 41).toInt = (cf_197 41).toInt := e56
            have hw : pw D A s.heap H locs [wdP cs h r g tf ta pf na ma_197 wa cf35 ca ef ea xf xa] := hw
            refine lv_goto (tgt := 348) S.x S.b d_Mpg_check_325 (by decide) ?_
            refine lv_iload_n S.x S.b d_Mpg_check_348 rfl (lv_at hl 3 rfl) ?_
            exact px_iret (v := x197_3) S hr rfl hlk hAe hw (Nat.le_of_ble_eq_true rfl) (Nat.le_of_ble_eq_true rfl) (⟨ma_197, cf35, rfl, (show KpE cf cf35 from hke), (show WrV cf35 (tf 6).toInt from hwr), (show (cf35 33).toInt = (cf 33).toInt from by first | exact oz_1687f4cc65 k197_2 e41 | omega), (show (cf35 38).toInt = (cf 38).toInt from by first | exact oz_1687f4cc65 k197_3 e42 | omega), (show (cf35 48).toInt = (cf 48).toInt from by first | exact oz_1687f4cc65 k197_4 e43 | omega), (show (cf35 46).toInt = (cf 46).toInt from by first | exact oz_1687f4cc65 k197_5 e44 | omega), (show (cf35 47).toInt = (cf 47).toInt from by first | exact oz_1687f4cc65 k197_6 e45 | omega), (show (cf35 57).toInt = (cf 57).toInt from by first | exact oz_1687f4cc65 k197_7 e46 | omega), (show Ann na ma0 ma_197 from han), (show FrC lo hi ma ma_197 from hfc), (show 0 ≤ x197_3.toInt from by first | exact oz_9175d0c236 nc29 | omega), (show x197_3.toInt ≤ 4 from by first | exact oz_3da49dea81 k197_10 | omega), (show NmJ ta ca na ma_197 kn p0 x197_3.toInt from (fun h => absurd h (by first | with_reducible rfl | with_reducible assumption | omega))), (show ZTy cf35 (Gk ta ca na ma0 ns ys nf) na ma_197 lo hi p0 x197_3.toInt from (zr_no (by first | with_reducible rfl | with_reducible assumption | omega))), (show ZNm cf35 p1.toInt x197_3.toInt from (zr_no (by first | with_reducible rfl | with_reducible assumption | omega)))⟩) d_Mpg_check_349
          · have nc29 : ¬ x197_3.toInt = (2 : Int) := mt (i_eq (x := x197_3) (y := 2)).mpr c29
            refine lv_iload_n S.x S.b d_Mpg_check_310 rfl (lv_at hl 3 rfl) ?_
            refine lv_iconst (v := 3) S.x S.b d_Mpg_check_311 (by decide) ?_
            refine lv_icmp_ne (tgt := 328) S.x S.b d_Mpg_check_312 (by decide) (fun c57 => ?_) (fun c57 => ?_)
            · have nc57 : ¬ x197_3.toInt = (3 : Int) := mt (i_eq (x := x197_3) (y := 3)).mpr c57
              refine lv_iload_n S.x S.b d_Mpg_check_328 rfl (lv_at hl 2 rfl) ?_
              refine lv_if_eq (tgt := 348) S.x S.b d_Mpg_check_329 (by decide) (fun c58 => ?_) (fun c58 => ?_)
              · have nc58 : p1.toInt = (0 : Int) := (i_eq (x := p1) (y := 0)).mp c58
                refine lv_iload_n S.x S.b d_Mpg_check_348 rfl (lv_at hl 3 rfl) ?_
                exact px_iret (v := x197_3) S hr rfl hlk hAe hw (Nat.le_of_ble_eq_true rfl) (Nat.le_of_ble_eq_true rfl) (⟨ma_197, cf_197, rfl, (show KpE cf cf_197 from hke), (show WrV cf_197 (tf 6).toInt from hwr), (show (cf_197 33).toInt = (cf 33).toInt from by first | exact k197_2 | omega), (show (cf_197 38).toInt = (cf 38).toInt from by first | exact k197_3 | omega), (show (cf_197 48).toInt = (cf 48).toInt from by first | exact k197_4 | omega), (show (cf_197 46).toInt = (cf 46).toInt from by first | exact k197_5 | omega), (show (cf_197 47).toInt = (cf 47).toInt from by first | exact k197_6 | omega), (show (cf_197 57).toInt = (cf 57).toInt from by first | exact k197_7 | omega), (show Ann na ma0 ma_197 from han), (show FrC lo hi ma ma_197 from hfc), (show 0 ≤ x197_3.toInt from by first | exact oz_1b364b1c5f k197_10 | omega), (show x197_3.toInt ≤ 4 from by first | exact oz_3da49dea81 k197_10 | omega), (show NmJ ta ca na ma_197 kn p0 x197_3.toInt from (fun h => absurd h (by first | with_reducible rfl | with_reducible assumption | omega))), (show ZTy cf_197 (Gk ta ca na ma0 ns ys nf) na ma_197 lo hi p0 x197_3.toInt from (fun zz => Or.inr ⟨by first | with_reducible rfl | with_reducible assumption | omega, ty_7 hrg (by first | with_reducible rfl | with_reducible assumption | omega) rfl ((hztr zz).le (by first | with_reducible rfl | with_reducible assumption | omega) (by first | with_reducible rfl | with_reducible assumption | omega)) (by first | with_reducible rfl | with_reducible assumption | omega)⟩)), (show ZNm cf_197 p1.toInt x197_3.toInt from (zty_num (G := (Gk ta ca na ma0 ns ys nf)) (na := na) (ma := ma_197) (lo := lo) (hi := hi) (n := p0) (fun zz => Or.inr ⟨by first | with_reducible rfl | with_reducible assumption | omega, ty_7 hrg (by first | with_reducible rfl | with_reducible assumption | omega) rfl ((hztr zz).le (by first | with_reducible rfl | with_reducible assumption | omega) (by first | with_reducible rfl | with_reducible assumption | omega)) (by first | with_reducible rfl | with_reducible assumption | omega)⟩) (by first | with_reducible rfl | with_reducible assumption | omega)))⟩) d_Mpg_check_349
              · have nc58 : ¬ p1.toInt = (0 : Int) := mt (i_eq (x := p1) (y := 0)).mpr c58
                refine lv_iload_n S.x S.b d_Mpg_check_332 rfl (lv_at hl 3 rfl) ?_
                refine lv_iconst (v := 4) S.x S.b d_Mpg_check_333 (by decide) ?_
                refine lv_icmp_ne (tgt := 348) S.x S.b d_Mpg_check_334 (by decide) (fun c59 => ?_) (fun c59 => ?_)
                · have nc59 : ¬ x197_3.toInt = (4 : Int) := mt (i_eq (x := x197_3) (y := 4)).mpr c59
                  refine lv_iload_n S.x S.b d_Mpg_check_348 rfl (lv_at hl 3 rfl) ?_
                  exact px_iret (v := x197_3) S hr rfl hlk hAe hw (Nat.le_of_ble_eq_true rfl) (Nat.le_of_ble_eq_true rfl) (⟨ma_197, cf_197, rfl, (show KpE cf cf_197 from hke), (show WrV cf_197 (tf 6).toInt from hwr), (show (cf_197 33).toInt = (cf 33).toInt from by first | exact k197_2 | omega), (show (cf_197 38).toInt = (cf 38).toInt from by first | exact k197_3 | omega), (show (cf_197 48).toInt = (cf 48).toInt from by first | exact k197_4 | omega), (show (cf_197 46).toInt = (cf 46).toInt from by first | exact k197_5 | omega), (show (cf_197 47).toInt = (cf 47).toInt from by first | exact k197_6 | omega), (show (cf_197 57).toInt = (cf 57).toInt from by first | exact k197_7 | omega), (show Ann na ma0 ma_197 from han), (show FrC lo hi ma ma_197 from hfc), (show 0 ≤ x197_3.toInt from by first | exact oz_1b364b1c5f k197_10 | omega), (show x197_3.toInt ≤ 4 from by first | exact oz_3da49dea81 k197_10 | omega), (show NmJ ta ca na ma_197 kn p0 x197_3.toInt from (fun h => absurd h (by first | with_reducible rfl | with_reducible assumption | omega))), (show ZTy cf_197 (Gk ta ca na ma0 ns ys nf) na ma_197 lo hi p0 x197_3.toInt from (fun zz => Or.inr ⟨by first | with_reducible rfl | with_reducible assumption | omega, ty_7 hrg (by first | with_reducible rfl | with_reducible assumption | omega) rfl ((hztr zz).le (by first | with_reducible rfl | with_reducible assumption | omega) (by first | with_reducible rfl | with_reducible assumption | omega)) (by first | with_reducible rfl | with_reducible assumption | omega)⟩)), (show ZNm cf_197 p1.toInt x197_3.toInt from (zty_num (G := (Gk ta ca na ma0 ns ys nf)) (na := na) (ma := ma_197) (lo := lo) (hi := hi) (n := p0) (fun zz => Or.inr ⟨by first | with_reducible rfl | with_reducible assumption | omega, ty_7 hrg (by first | with_reducible rfl | with_reducible assumption | omega) rfl ((hztr zz).le (by first | with_reducible rfl | with_reducible assumption | omega) (by first | with_reducible rfl | with_reducible assumption | omega)) (by first | with_reducible rfl | with_reducible assumption | omega)⟩) (by first | with_reducible rfl | with_reducible assumption | omega)))⟩) d_Mpg_check_349
                · have nc59 : x197_3.toInt = (4 : Int) := (i_eq (x := x197_3) (y := 4)).mp c59
                  refine lv_aload_n S.x S.b d_Mpg_check_337 rfl (lv_at hl 0 rfl) ?_
                  refine lv_iconst (v := 5) S.x S.b d_Mpg_check_338 (by decide) ?_
                  refine lv_aload_n S.x S.b d_Mpg_check_339 rfl (lv_at hl 0 rfl) ?_
                  refine px_get S k_Mpg hT hw 0 0 15 (v := .ref (r 15)) rfl rfl rfl (by decide) m9_239 d_Mpg_check_340 ?_
                  refine lv_iload_n S.x S.b d_Mpg_check_343 rfl (lv_at hl 1 rfl) ?_
                  refine px_iald S hT hw 0 11 (n := 2100) (f := (na 15)) rfl gp_15 (x := p0) (vp_in_iff.mpr (by first | exact oz_a7e05de1cd hrg.2.2 hrg.2.1 g1 g2 | (constructor <;> omega))) d_Mpg_check_344 ?_
                  refine lv_topi (fun z60 ez60 => ?_)
                  have lz60 := Int32.le_toInt z60
                  have uz60 := Int32.toInt_lt z60
                  have rz60 := EcV.tok hec_p0 ez60
                  refine px_callv (pr := []) (px_runV (As := [.int 5, .int z60]) (rest := []) S (c_mp_bad l D cs h r g tf ta pf na ma_197 wa ca ef ea xf xa cf_197 5 z60  (show 1 ≤ (5 : Int) from by first | decide | omega) (show 0 ≤ z60.toInt from by first | exact rz60.1 | omega) (show z60.toInt < (tf 6).toInt from by first | exact oz_7fe81129bf rz60.2 | omega) htk hwr _) hT (pr := []) (pcs := [wdP cs h r g tf ta pf na ma_197 wa cf_197 ca ef ea xf xa]) hw px_X.tt (px_recv hT hw 0 0 rfl rfl rfl) m12_173 m12_170 m12_172 ms_11_12 m1_21 q_Mpg_bad ⟨show 0 + 1 ≤ (4 * (d + 1) + 12) from by first | with_reducible rfl | with_reducible assumption | omega, show 8 + (3 + 11) + 0 ≤ (200 * (d + 1) + 420) from by first | with_reducible rfl | with_reducible assumption | omega⟩ hl.1 rfl (Nat.le_of_ble_eq_true rfl) d_Mpg_check_345 ⟨Nat.le_of_ble_eq_true rfl, Nat.le_of_ble_eq_true rfl⟩) hw hA (fun p63 H locs hp63 hw => ?_)
                  obtain ⟨cf62, rfl, e65, e66, e67, e68, e69, e70, e71, e72, e73, e74, e75, e76, e77, e78, e79, e80, e81, e82, e83⟩ := hp63
                  have e65 : KpE cf_197 cf62 := e65
                  have hke := (hke).tr e65
                  have hkz_e65 := e65.2
                  have hztr := Zr.kp hztr e65 id
                  have e66 : WrV cf62 (tf 6).toInt := e66
                  have hwr := e66
                  have hw0_e66 := hwr.1
                  have e67 : 1 ≤ (cf62 30).toInt := e67
                  have e68 : (cf62 33).toInt = (cf_197 33).toInt := e68
                  have e69 : (cf62 38).toInt = (cf_197 38).toInt := e69
                  have e70 : (cf62 48).toInt = (cf_197 48).toInt := e70
                  have e71 : (cf62 46).toInt = (cf_197 46).toInt := e71
                  have e72 : (cf62 47).toInt = (cf_197 47).toInt := e72
                  have e73 : (cf62 57).toInt = (cf_197 57).toInt := e73
                  have e74 : (cf62 37).toInt = (cf_197 37).toInt := e74
                  have e75 : (cf62 42).toInt = (cf_197 42).toInt := e75
                  have e76 : (cf62 43).toInt = (cf_197 43).toInt := e76
                  have e77 : (cf62 44).toInt = (cf_197 44).toInt := e77
                  have e78 : (cf62 45).toInt = (cf_197 45).toInt := e78
                  have e79 : (cf62 54).toInt = (cf_197 54).toInt := e79
                  have e80 : (cf62 55).toInt = (cf_197 55).toInt := e80
                  have e81 : (cf62 58).toInt = (cf_197 58).toInt := e81
                  have e82 : (cf62 59).toInt = (cf_197 59).toInt := e82
                  have e83 : (cf62 41).toInt = (cf_197 41).toInt := e83
                  have hw : pw D A s.heap H locs [wdP cs h r g tf ta pf na ma_197 wa cf62 ca ef ea xf xa] := hw
                  refine lv_iload_n S.x S.b d_Mpg_check_348 rfl (lv_at hl 3 rfl) ?_
                  exact px_iret (v := x197_3) S hr rfl hlk hAe hw (Nat.le_of_ble_eq_true rfl) (Nat.le_of_ble_eq_true rfl) (⟨ma_197, cf62, rfl, (show KpE cf cf62 from hke), (show WrV cf62 (tf 6).toInt from hwr), (show (cf62 33).toInt = (cf 33).toInt from by first | exact oz_1687f4cc65 k197_2 e68 | omega), (show (cf62 38).toInt = (cf 38).toInt from by first | exact oz_1687f4cc65 k197_3 e69 | omega), (show (cf62 48).toInt = (cf 48).toInt from by first | exact oz_1687f4cc65 k197_4 e70 | omega), (show (cf62 46).toInt = (cf 46).toInt from by first | exact oz_1687f4cc65 k197_5 e71 | omega), (show (cf62 47).toInt = (cf 47).toInt from by first | exact oz_1687f4cc65 k197_6 e72 | omega), (show (cf62 57).toInt = (cf 57).toInt from by first | exact oz_1687f4cc65 k197_7 e73 | omega), (show Ann na ma0 ma_197 from han), (show FrC lo hi ma ma_197 from hfc), (show 0 ≤ x197_3.toInt from by first | exact oz_13e7b4d4c1 nc59 | omega), (show x197_3.toInt ≤ 4 from by first | exact oz_3da49dea81 k197_10 | omega), (show NmJ ta ca na ma_197 kn p0 x197_3.toInt from (fun h => absurd h (by first | with_reducible rfl | with_reducible assumption | omega))), (show ZTy cf62 (Gk ta ca na ma0 ns ys nf) na ma_197 lo hi p0 x197_3.toInt from (zr_no (by first | with_reducible rfl | with_reducible assumption | omega))), (show ZNm cf62 p1.toInt x197_3.toInt from (zr_no (by first | with_reducible rfl | with_reducible assumption | omega)))⟩) d_Mpg_check_349
            · have nc57 : x197_3.toInt = (3 : Int) := (i_eq (x := x197_3) (y := 3)).mp c57
              refine lv_aload_n S.x S.b d_Mpg_check_315 rfl (lv_at hl 0 rfl) ?_
              refine lv_iconst (v := 3) S.x S.b d_Mpg_check_316 (by decide) ?_
              refine lv_aload_n S.x S.b d_Mpg_check_317 rfl (lv_at hl 0 rfl) ?_
              refine lv_iload_n S.x S.b d_Mpg_check_318 rfl (lv_at hl 1 rfl) ?_
              refine px_calli (pr := []) (px_runV (As := [.int p0]) (rest := [.int 3, .ref h]) S (c_mp_first l D cs h r g tf ta pf na ma_197 wa cf_197 ca ef ea xf xa p0  (show 0 ≤ p0.toInt from by first | exact hrg.2.2 | omega) (show p0.toInt < (pf 13).toInt from by first | exact oz_7319c2f99d g1 hrg.2.1 | omega) (show (pf 13).toInt ≤ 2100 from by first | exact g2 | omega) htk (FsI.le (N' := (pf 13).toInt) hfs (by first | with_reducible rfl | with_reducible assumption | omega)) _) hT (pr := []) (pcs := [wdP cs h r g tf ta pf na ma_197 wa cf_197 ca ef ea xf xa]) hw px_X.tt (px_recv hT hw 0 0 rfl rfl rfl) m13_9 m13_6 m13_8 ms_12_15 m1_21 q_Mpg_first ⟨show 0 + 1 ≤ (4 * (d + 1) + 12) from by first | with_reducible rfl | with_reducible assumption | omega, show 8 + (2 + 11) + 0 ≤ (200 * (d + 1) + 420) from by first | with_reducible rfl | with_reducible assumption | omega⟩ hl.1 rfl (Nat.le_of_ble_eq_true rfl) d_Mpg_check_319 ⟨Nat.le_of_ble_eq_true rfl, Nat.le_of_ble_eq_true rfl⟩) hw hA (fun v85 p84 H locs hp84 hw => ?_)
              obtain ⟨rfl, e86, e87⟩ := hp84
              have e86 : 0 ≤ v85.toInt := e86
              have e87 : v85.toInt < (tf 6).toInt := e87
              have hw : pw D A s.heap H locs [wdP cs h r g tf ta pf na ma_197 wa cf_197 ca ef ea xf xa] := hw
              have lv85 := Int32.le_toInt v85
              have uv85 := Int32.toInt_lt v85
              refine px_callv (pr := []) (px_runV (As := [.int 3, .int v85]) (rest := []) S (c_mp_bad l D cs h r g tf ta pf na ma_197 wa ca ef ea xf xa cf_197 3 v85  (show 1 ≤ (3 : Int) from by first | decide | omega) (show 0 ≤ v85.toInt from by first | exact e86 | omega) (show v85.toInt < (tf 6).toInt from by first | exact e87 | omega) htk hwr _) hT (pr := []) (pcs := [wdP cs h r g tf ta pf na ma_197 wa cf_197 ca ef ea xf xa]) hw px_X.tt (px_recv hT hw 0 0 rfl rfl rfl) m12_173 m12_170 m12_172 ms_11_12 m1_21 q_Mpg_bad ⟨show 0 + 1 ≤ (4 * (d + 1) + 12) from by first | with_reducible rfl | with_reducible assumption | omega, show 8 + (3 + 11) + 0 ≤ (200 * (d + 1) + 420) from by first | with_reducible rfl | with_reducible assumption | omega⟩ hl.1 rfl (Nat.le_of_ble_eq_true rfl) d_Mpg_check_322 ⟨Nat.le_of_ble_eq_true rfl, Nat.le_of_ble_eq_true rfl⟩) hw hA (fun p90 H locs hp90 hw => ?_)
              obtain ⟨cf89, rfl, e92, e93, e94, e95, e96, e97, e98, e99, e100, e101, e102, e103, e104, e105, e106, e107, e108, e109, e110⟩ := hp90
              have e92 : KpE cf_197 cf89 := e92
              have hke := (hke).tr e92
              have hkz_e92 := e92.2
              have hztr := Zr.kp hztr e92 id
              have e93 : WrV cf89 (tf 6).toInt := e93
              have hwr := e93
              have hw0_e93 := hwr.1
              have e94 : 1 ≤ (cf89 30).toInt := e94
              have e95 : (cf89 33).toInt = (cf_197 33).toInt := e95
              have e96 : (cf89 38).toInt = (cf_197 38).toInt := e96
              have e97 : (cf89 48).toInt = (cf_197 48).toInt := e97
              have e98 : (cf89 46).toInt = (cf_197 46).toInt := e98
              have e99 : (cf89 47).toInt = (cf_197 47).toInt := e99
              have e100 : (cf89 57).toInt = (cf_197 57).toInt := e100
              have e101 : (cf89 37).toInt = (cf_197 37).toInt := e101
              have e102 : (cf89 42).toInt = (cf_197 42).toInt := e102
              have e103 : (cf89 43).toInt = (cf_197 43).toInt := e103
              have e104 : (cf89 44).toInt = (cf_197 44).toInt := e104
              have e105 : (cf89 45).toInt = (cf_197 45).toInt := e105
              have e106 : (cf89 54).toInt = (cf_197 54).toInt := e106
              have e107 : (cf89 55).toInt = (cf_197 55).toInt := e107
              have e108 : (cf89 58).toInt = (cf_197 58).toInt := e108
              have e109 : (cf89 59).toInt = (cf_197 59).toInt := e109
              have e110 : (cf89 41).toInt = (cf_197 41).toInt := e110
              have hw : pw D A s.heap H locs [wdP cs h r g tf ta pf na ma_197 wa cf89 ca ef ea xf xa] := hw
              refine lv_goto (tgt := 348) S.x S.b d_Mpg_check_325 (by decide) ?_
              refine lv_iload_n S.x S.b d_Mpg_check_348 rfl (lv_at hl 3 rfl) ?_
              exact px_iret (v := x197_3) S hr rfl hlk hAe hw (Nat.le_of_ble_eq_true rfl) (Nat.le_of_ble_eq_true rfl) (⟨ma_197, cf89, rfl, (show KpE cf cf89 from hke), (show WrV cf89 (tf 6).toInt from hwr), (show (cf89 33).toInt = (cf 33).toInt from by first | exact oz_1687f4cc65 k197_2 e95 | omega), (show (cf89 38).toInt = (cf 38).toInt from by first | exact oz_1687f4cc65 k197_3 e96 | omega), (show (cf89 48).toInt = (cf 48).toInt from by first | exact oz_1687f4cc65 k197_4 e97 | omega), (show (cf89 46).toInt = (cf 46).toInt from by first | exact oz_1687f4cc65 k197_5 e98 | omega), (show (cf89 47).toInt = (cf 47).toInt from by first | exact oz_1687f4cc65 k197_6 e99 | omega), (show (cf89 57).toInt = (cf 57).toInt from by first | exact oz_1687f4cc65 k197_7 e100 | omega), (show Ann na ma0 ma_197 from han), (show FrC lo hi ma ma_197 from hfc), (show 0 ≤ x197_3.toInt from by first | exact oz_e2e3ee21d3 nc57 | omega), (show x197_3.toInt ≤ 4 from by first | exact oz_3da49dea81 k197_10 | omega), (show NmJ ta ca na ma_197 kn p0 x197_3.toInt from (fun h => absurd h (by first | with_reducible rfl | with_reducible assumption | omega))), (show ZTy cf89 (Gk ta ca na ma0 ns ys nf) na ma_197 lo hi p0 x197_3.toInt from (zr_no (by first | with_reducible rfl | with_reducible assumption | omega))), (show ZNm cf89 p1.toInt x197_3.toInt from (zr_no (by first | with_reducible rfl | with_reducible assumption | omega)))⟩) d_Mpg_check_349
      · have nc1 : ¬ x197_7.toInt < (0 : Int) := mt (i_lt (x := x197_7) (y := 0)).mpr c1
        refine lv_aload_n S.x S.b d_Mpg_check_202 rfl (lv_at hl 0 rfl) ?_
        obtain ⟨md111, hm1_md111, hm2_md111, ⟨hec_x197_7, hne_md111⟩, hx3_md111, hrr2⟩ := RcE.step hrr (by first | with_reducible rfl | with_reducible assumption | omega)
        refine lv_iload S.x S.b d_Mpg_check_203 (lv_at hl 4 rfl) ?_
        refine lv_iconst (v := 1) S.x S.b d_Mpg_check_205 (by decide) ?_
        refine px_calli (pr := []) (px_runV (As := [.int x197_7, .int 1]) (rest := []) S (hLC ma0 ys ns nf kn mid_197 md111 h r g tf ta pf na wa ca ef ea xf xa ma_197 cf_197 x197_7 1 (show 0 ≤ mid_197 from by first | exact oz_16d7fa9f32 k197_11 g0 | omega) (show md111 ≤ (pf 13).toInt from by first | exact oz_bbb5b20c1a g1 hm2_md111 | omega) (show (pf 13).toInt ≤ 2100 from by first | exact g2 | omega) (show (tf 6).toInt ≤ 2049 from by first | exact g3 | omega) (show (cf_197 33).toInt = kn from by first | exact oz_1687f4cc65 g4 k197_2 | omega) (show 0 ≤ kn from by first | exact g5 | omega) (show (cf_197 48).toInt = ns from by first | exact oz_1687f4cc65 g6 k197_4 | omega) (show (cf_197 38).toInt = nf from by first | exact oz_1687f4cc65 g7 k197_3 | omega) (show 0 ≤ nf from by first | exact g8 | omega) (show 0 ≤ (1 : Int) from by first | decide | omega) (show (1 : Int) ≤ 1 from by first | decide | omega) htk (FsI.le (N' := (pf 13).toInt) hfs (by first | with_reducible rfl | with_reducible assumption | omega)) hwr (KnT.eq hkt (by first | with_reducible rfl | with_reducible assumption | omega)) (FnT.eq hft (by first | with_reducible rfl | with_reducible assumption | omega)) hks hfp han hec_x197_7 _) hT (pr := []) (pcs := [wdP cs h r g tf ta pf na ma_197 wa cf_197 ca ef ea xf xa]) hw (oX_call (P := (fun A U H => (oP A g U H))) (pr := []) oG_P hw hA hP) (px_recv hT hw 0 0 rfl rfl rfl) m12_217 m12_214 m12_216 ms_12_7 m1_21 q_Mpg_check ⟨show (4 * d + 12) + 1 ≤ (4 * (d + 1) + 12) from by first | with_reducible rfl | with_reducible assumption | omega, show 8 + (8 + 11) + (200 * d + 420) ≤ (200 * (d + 1) + 420) from by first | with_reducible rfl | with_reducible assumption | omega⟩ hl.1 rfl (Nat.le_of_ble_eq_true rfl) d_Mpg_check_206 ⟨Nat.le_of_ble_eq_true rfl, Nat.le_of_ble_eq_true rfl⟩) hw hA (fun v117 p116 H locs hp116 hw => ?_)
        obtain ⟨ma114, cf115, rfl, e118, e119, e120, e121, e122, e123, e124, e125, e126, e127, e128, e129, e130, e131, e132⟩ := hp116
        have e118 : KpE cf_197 cf115 := e118
        have hke := (hke).tr e118
        have hkz_e118 := e118.2
        have e119 : WrV cf115 (tf 6).toInt := e119
        have hwr := e119
        have hw0_e119 := hwr.1
        have e120 : (cf115 33).toInt = (cf_197 33).toInt := e120
        have e121 : (cf115 38).toInt = (cf_197 38).toInt := e121
        have e122 : (cf115 48).toInt = (cf_197 48).toInt := e122
        have e123 : (cf115 46).toInt = (cf_197 46).toInt := e123
        have e124 : (cf115 47).toInt = (cf_197 47).toInt := e124
        have e125 : (cf115 57).toInt = (cf_197 57).toInt := e125
        have e126 : Ann na ma0 ma114 := e126
        have han := e126
        have e127 : FrC mid_197 md111 ma_197 ma114 := e127
        have hfc := hfc.tr e127 (by first | with_reducible rfl | with_reducible assumption | omega) (by first | with_reducible rfl | with_reducible assumption | omega)
        have hztr := ZTr.tr hztr e118 e127 (by first | with_reducible rfl | with_reducible assumption | omega)
        have e128 : 0 ≤ v117.toInt := e128
        have e129 : v117.toInt ≤ 4 := e129
        have e130 : NmJ ta ca na ma114 kn x197_7 v117.toInt := e130
        have hnm_x197_7 := e130
        have e131 : ZTy cf115 (Gk ta ca na ma0 ns ys nf) na ma114 mid_197 md111 x197_7 v117.toInt := e131
        have hzt_x197_7 := e131
        have e132 : ZNm cf115 (1 : Int) v117.toInt := e132
        have hty_x197_7 := ZTy.num hzt_x197_7 e132
        have hw : pw D A s.heap H locs [wdP cs h r g tf ta pf na ma114 wa cf115 ca ef ea xf xa] := hw
        have lv117 := Int32.le_toInt v117
        have uv117 := Int32.toInt_lt v117
        refine lv_pop S.x S.b d_Mpg_check_209 rfl ?_
        refine lv_aload_n S.x S.b d_Mpg_check_210 rfl (lv_at hl 0 rfl) ?_
        refine px_get S k_Mpg hT hw 0 0 21 (v := .ref (r 21)) rfl rfl rfl (by decide) m10_7 d_Mpg_check_211 ?_
        refine lv_iload S.x S.b d_Mpg_check_214 (lv_at hl 4 rfl) ?_
        refine px_iald S hT hw 0 17 (n := 2100) (f := (na 21)) rfl gp_21 (x := x197_7) (vp_in_iff.mpr (by constructor <;> omega)) d_Mpg_check_216 ?_
        refine lv_topi (fun z133 ez133 => ?_)
        have lz133 := Int32.le_toInt z133
        have uz133 := Int32.toInt_lt z133
        refine lv_istore (lv' := [(7, .int z133), (0, .ref h), (1, .int p0), (2, .int p1), (3, .int x197_3)]) S.x S.b d_Mpg_check_217 hl (by decide) rfl (fun ls hl => ?_)
        refine lv_goto (tgt := 197) S.x S.b d_Mpg_check_219 (by decide) ?_
        exact ih197 ma114 cf115 md111 x197_3 z133 _ _ ls (show KpE cf cf115 from hke) (show WrV cf115 (tf 6).toInt from hwr) (show (cf115 33).toInt = (cf 33).toInt from by first | exact oz_1687f4cc65 k197_2 e120 | omega) (show (cf115 38).toInt = (cf 38).toInt from by first | exact oz_1687f4cc65 k197_3 e121 | omega) (show (cf115 48).toInt = (cf 48).toInt from by first | exact oz_1687f4cc65 k197_4 e122 | omega) (show (cf115 46).toInt = (cf 46).toInt from by first | exact oz_1687f4cc65 k197_5 e123 | omega) (show (cf115 47).toInt = (cf 47).toInt from by first | exact oz_1687f4cc65 k197_6 e124 | omega) (show (cf115 57).toInt = (cf 57).toInt from by first | exact oz_1687f4cc65 k197_7 e125 | omega) (show Ann na ma0 ma114 from han) (show FrC lo hi ma ma114 from hfc) (show x197_3.toInt = 1 from by first | exact k197_10 | omega) (show lo ≤ md111 from by first | exact hm1_md111 | omega) (show md111 ≤ hi from by first | exact hm2_md111 | omega) (show (na 14 p0.toNatClampNeg).toInt = 7 from by first | exact k197_13 | omega) (show RcN ta (tf 6).toInt na ma0 d p0 md111 hi z133 from (by rw [ez133]; exact hrr2)) (show ZTr cf115 (Gk ta ca na ma0 ns ys nf) na ma114 lo md111 (na 17 p0.toNatClampNeg) z133 from (ZTr.s (hi' := hi) hztr hty_x197_7 (by first | with_reducible rfl | with_reducible assumption | omega) (by first | with_reducible rfl | with_reducible assumption | omega) (by first | with_reducible rfl | with_reducible assumption | omega) ez133)) (show hi - md111 < (n_197 : Int) from by first | with_reducible rfl | with_reducible assumption | omega) hw (lv_sub hl [1, 2, 3, 4, 0] rfl)
  refine lv_iconst (v := 1) S.x S.b d_Mpg_check_0 (by decide) ?_
  refine lv_istore_n (lv' := [(3, .int 1), (0, .ref h), (1, .int p0), (2, .int p1)]) S.x S.b d_Mpg_check_1 rfl hl (by decide) rfl (fun ls hl => ?_)
  refine lv_aload_n S.x S.b d_Mpg_check_2 rfl (lv_at hl 1 rfl) ?_
  refine px_get S k_Mpg hT hw 0 0 14 (v := .ref (r 14)) rfl rfl rfl (by decide) m9_238 d_Mpg_check_3 ?_
  refine lv_iload_n S.x S.b d_Mpg_check_6 rfl (lv_at hl 2 rfl) ?_
  refine px_bald S hT hw 0 10 (n := 2100) (f := (na 14)) rfl gp_14 (x := p0) (vp_in_iff.mpr (by first | exact oz_a7e05de1cd hrg.2.2 hrg.2.1 g1 g2 | (constructor <;> omega))) d_Mpg_check_7 ?_
  refine lv_topi (fun z134 ez134 => ?_)
  have lz134 := Int32.le_toInt z134
  have uz134 := Int32.toInt_lt z134
  have rz134 := EcV.kd hec_p0 ez134
  refine px_tableD S (dt := 264) [(56, [1]), (59, [2]), (68, [3]), (77, [4]), (97, [5]), (161, [6]), (189, [7]), (225, [8])] d_Mpg_check_8 (by decide +kernel) (by decide) (by decide +kernel) ?_ ?_
  · intro hdf_8
    refine lv_aload_n S.x S.b d_Mpg_check_264 rfl (lv_at hl 1 rfl) ?_
    refine lv_aload_n S.x S.b d_Mpg_check_265 rfl (lv_at hl 1 rfl) ?_
    refine px_get S k_Mpg hT hw 0 0 17 (v := .ref (r 17)) rfl rfl rfl (by decide) m10_1 d_Mpg_check_266 ?_
    refine lv_iload_n S.x S.b d_Mpg_check_269 rfl (lv_at hl 2 rfl) ?_
    refine px_iald S hT hw 0 13 (n := 2100) (f := (na 17)) rfl gp_17 (x := p0) (vp_in_iff.mpr (by first | exact oz_a7e05de1cd hrg.2.2 hrg.2.1 g1 g2 | (constructor <;> omega))) d_Mpg_check_270 ?_
    refine lv_topi (fun z135 ez135 => ?_)
    have lz135 := Int32.le_toInt z135
    have uz135 := Int32.toInt_lt z135
    obtain ⟨m1, hm1, hec_z135, hec_y8⟩ := EcV.k9 hec_p0 (by first | with_reducible rfl | with_reducible assumption | omega) ez135 rfl; have hrg_z135 := EcV.rng hec_z135; have hrg_y8 := EcV.rng hec_y8
    refine lv_iconst (v := 0) S.x S.b d_Mpg_check_271 (by decide) ?_
    refine px_calli (pr := []) (px_runV (As := [.int z135, .int 0]) (rest := []) S (hLC ma0 ys ns nf kn lo m1 h r g tf ta pf na wa ca ef ea xf xa ma cf z135 0 (show 0 ≤ lo from by first | exact g0 | omega) (show m1 ≤ (pf 13).toInt from by first | exact oz_dc2da80b19 g1 hrg_y8.1 hrg.2.1 hrg_y8.2.1 | omega) (show (pf 13).toInt ≤ 2100 from by first | exact g2 | omega) (show (tf 6).toInt ≤ 2049 from by first | exact g3 | omega) (show (cf 33).toInt = kn from by first | exact g4 | omega) (show 0 ≤ kn from by first | exact g5 | omega) (show (cf 48).toInt = ns from by first | exact g6 | omega) (show (cf 38).toInt = nf from by first | exact g7 | omega) (show 0 ≤ nf from by first | exact g8 | omega) (show 0 ≤ (0 : Int) from by first | decide | omega) (show (0 : Int) ≤ 1 from by first | decide | omega) htk (FsI.le (N' := (pf 13).toInt) hfs (by first | with_reducible rfl | with_reducible assumption | omega)) hwr (KnT.eq hkt (by first | with_reducible rfl | with_reducible assumption | omega)) (FnT.eq hft (by first | with_reducible rfl | with_reducible assumption | omega)) hks hfp han hec_z135 _) hT (pr := []) (pcs := [wdP cs h r g tf ta pf na ma wa cf ca ef ea xf xa]) hw (oX_call (P := (fun A U H => (oP A g U H))) (pr := []) oG_P hw hA hP) (px_recv hT hw 0 0 rfl rfl rfl) m12_217 m12_214 m12_216 ms_12_7 m1_21 q_Mpg_check ⟨show (4 * d + 12) + 1 ≤ (4 * (d + 1) + 12) from by first | with_reducible rfl | with_reducible assumption | omega, show 8 + (8 + 11) + (200 * d + 420) ≤ (200 * (d + 1) + 420) from by first | with_reducible rfl | with_reducible assumption | omega⟩ hl.1 rfl (Nat.le_of_ble_eq_true rfl) d_Mpg_check_272 ⟨Nat.le_of_ble_eq_true rfl, Nat.le_of_ble_eq_true rfl⟩) hw hA (fun v141 p140 H locs hp140 hw => ?_)
    obtain ⟨ma138, cf139, rfl, e142, e143, e144, e145, e146, e147, e148, e149, e150, e151, e152, e153, e154, e155, e156⟩ := hp140
    have e142 : KpE cf cf139 := e142
    have hke := (hke).tr e142
    have hkz_e142 := e142.2
    have e143 : WrV cf139 (tf 6).toInt := e143
    have hwr := e143
    have hw0_e143 := hwr.1
    have e144 : (cf139 33).toInt = (cf 33).toInt := e144
    have e145 : (cf139 38).toInt = (cf 38).toInt := e145
    have e146 : (cf139 48).toInt = (cf 48).toInt := e146
    have e147 : (cf139 46).toInt = (cf 46).toInt := e147
    have e148 : (cf139 47).toInt = (cf 47).toInt := e148
    have e149 : (cf139 57).toInt = (cf 57).toInt := e149
    have e150 : Ann na ma0 ma138 := e150
    have han := e150
    have e151 : FrC lo m1 ma ma138 := e151
    have hfc := hfc.tr e151 (by first | with_reducible rfl | with_reducible assumption | omega) (by first | with_reducible rfl | with_reducible assumption | omega)
    have e152 : 0 ≤ v141.toInt := e152
    have e153 : v141.toInt ≤ 4 := e153
    have e154 : NmJ ta ca na ma138 kn z135 v141.toInt := e154
    have hnm_z135 := e154
    have e155 : ZTy cf139 (Gk ta ca na ma0 ns ys nf) na ma138 lo m1 z135 v141.toInt := e155
    have hzt_z135 := e155
    have e156 : ZNm cf139 (0 : Int) v141.toInt := e156
    have hw : pw D A s.heap H locs [wdP cs h r g tf ta pf na ma138 wa cf139 ca ef ea xf xa] := hw
    have lv141 := Int32.le_toInt v141
    have uv141 := Int32.toInt_lt v141
    refine lv_istore (lv' := [(7, .int v141), (3, .int 1), (0, .ref h), (1, .int p0), (2, .int p1)]) S.x S.b d_Mpg_check_275 hl (by decide) rfl (fun ls hl => ?_)
    refine lv_aload_n S.x S.b d_Mpg_check_277 rfl (lv_at hl 2 rfl) ?_
    refine lv_aload_n S.x S.b d_Mpg_check_278 rfl (lv_at hl 2 rfl) ?_
    refine px_get S k_Mpg hT hw 0 0 17 (v := .ref (r 17)) rfl rfl rfl (by decide) m10_1 d_Mpg_check_279 ?_
    refine lv_iload_n S.x S.b d_Mpg_check_282 rfl (lv_at hl 3 rfl) ?_
    refine px_iald S hT hw 0 13 (n := 2100) (f := (na 17)) rfl gp_17 (x := p0) (vp_in_iff.mpr (by first | exact oz_18f227bc52 hrg_y8.2.1 hrg_y8.2.2 hrg.2.1 g1 g2 | (constructor <;> omega))) d_Mpg_check_283 ?_
    refine lv_topi (fun z157 ez157 => ?_)
    have lz157 := Int32.le_toInt z157
    have uz157 := Int32.toInt_lt z157
    have hsz157 : z135 = z157 := ez135.trans ez157.symm; subst hsz157
    refine lv_iload S.x S.b d_Mpg_check_284 (lv_at hl 0 rfl) ?_
    refine px_callv (pr := []) (px_runV (As := [.int z135, .int v141]) (rest := []) S (c_mp_checkPlace l D cs ma0 ys ns nf kn d lo m1 h r g tf ta pf na ma138 wa ca ef ea xf xa cf139 z135 v141  (show 0 ≤ lo from by first | exact g0 | omega) (show m1 ≤ (pf 13).toInt from by first | exact oz_dc2da80b19 g1 hrg_y8.1 hrg.2.1 hrg_y8.2.1 | omega) (show (pf 13).toInt ≤ 2100 from by first | exact g2 | omega) (show (tf 6).toInt ≤ 2049 from by first | exact g3 | omega) (show (cf139 33).toInt = kn from by first | exact oz_1687f4cc65 g4 e144 | omega) (show 0 ≤ kn from by first | exact g5 | omega) (show (cf139 48).toInt = ns from by first | exact oz_1687f4cc65 g6 e146 | omega) (show (cf139 38).toInt = nf from by first | exact oz_1687f4cc65 g7 e145 | omega) (show 0 ≤ nf from by first | exact g8 | omega) (show 0 ≤ v141.toInt from by first | exact e152 | omega) (show v141.toInt ≤ 4 from by first | exact e153 | omega) htk (FsI.le (N' := (pf 13).toInt) hfs (by first | with_reducible rfl | with_reducible assumption | omega)) hwr (KnT.eq hkt (by first | with_reducible rfl | with_reducible assumption | omega)) (FnT.eq hft (by first | with_reducible rfl | with_reducible assumption | omega)) hks hec_z135 hnm_z135 _) hT (pr := []) (pcs := [wdP cs h r g tf ta pf na ma138 wa cf139 ca ef ea xf xa]) hw (oX_call (P := (fun A U H => (oP A g U H))) (pr := []) oG_P hw hA hP) (px_recv hT hw 0 0 rfl rfl rfl) m13_25 m13_22 m13_24 ms_13_3 m1_21 q_Mpg_checkPlace ⟨show 3 + 1 ≤ (4 * (d + 1) + 12) from by first | with_reducible rfl | with_reducible assumption | omega, show 8 + (4 + 11) + 120 ≤ (200 * (d + 1) + 420) from by first | with_reducible rfl | with_reducible assumption | omega⟩ hl.1 rfl (Nat.le_of_ble_eq_true rfl) d_Mpg_check_286 ⟨Nat.le_of_ble_eq_true rfl, Nat.le_of_ble_eq_true rfl⟩) hw hA (fun p160 H locs hp160 hw => ?_)
    obtain ⟨cf159, rfl, e162, e163, e164, e165, e166, e167, e168, e169, e170⟩ := hp160
    have e162 : KpE cf139 cf159 := e162
    have hke := (hke).tr e162
    have hkz_e162 := e162.2
    have hzt_z135 := Zr.kp hzt_z135 e162 id
    have e163 : WrV cf159 (tf 6).toInt := e163
    have hwr := e163
    have hw0_e163 := hwr.1
    have e164 : (cf159 33).toInt = (cf139 33).toInt := e164
    have e165 : (cf159 38).toInt = (cf139 38).toInt := e165
    have e166 : (cf159 48).toInt = (cf139 48).toInt := e166
    have e167 : (cf159 46).toInt = (cf139 46).toInt := e167
    have e168 : (cf159 47).toInt = (cf139 47).toInt := e168
    have e169 : (cf159 57).toInt = (cf139 57).toInt := e169
    have e170 : ZPl cf159 na ma138 z135 v141.toInt := e170
    have hzpl_z135 := e170
    have hw : pw D A s.heap H locs [wdP cs h r g tf ta pf na ma138 wa cf159 ca ef ea xf xa] := hw
    refine lv_aload_n S.x S.b d_Mpg_check_289 rfl (lv_at hl 2 rfl) ?_
    refine lv_aload_n S.x S.b d_Mpg_check_290 rfl (lv_at hl 2 rfl) ?_
    refine px_get S k_Mpg hT hw 0 0 18 (v := .ref (r 18)) rfl rfl rfl (by decide) m10_3 d_Mpg_check_291 ?_
    refine lv_iload_n S.x S.b d_Mpg_check_294 rfl (lv_at hl 3 rfl) ?_
    refine px_iald S hT hw 0 14 (n := 2100) (f := (ma138 18)) rfl gp_18 (x := p0) (vp_in_iff.mpr (by first | exact oz_18f227bc52 hrg_y8.2.1 hrg_y8.2.2 hrg.2.1 g1 g2 | (constructor <;> omega))) d_Mpg_check_295 ?_
    refine lv_topi (fun z171 ez171 => ?_)
    have lz171 := Int32.le_toInt z171
    have uz171 := Int32.toInt_lt z171
    have ha_z171 : z171 = ma0 18 p0.toNatClampNeg := ez171.trans (Ann.b18 han (by first | with_reducible rfl | with_reducible assumption | omega)); have hec_z171 : EcV ta (tf 6).toInt na ma0 d m1 p0.toInt z171 := (by rw [ha_z171]; exact hec_y8)
    refine lv_iconst (v := 1) S.x S.b d_Mpg_check_296 (by decide) ?_
    refine px_calli (pr := []) (px_runV (As := [.int z171, .int 1]) (rest := []) S (hLC ma0 ys ns nf kn m1 p0.toInt h r g tf ta pf na wa ca ef ea xf xa ma138 cf159 z171 1 (show 0 ≤ m1 from by first | exact oz_0a7da9c4d6 hrg_z135.2.1 hrg_z135.2.2 | omega) (show p0.toInt ≤ (pf 13).toInt from by first | exact oz_6996e0781a g1 hrg.2.1 | omega) (show (pf 13).toInt ≤ 2100 from by first | exact g2 | omega) (show (tf 6).toInt ≤ 2049 from by first | exact g3 | omega) (show (cf159 33).toInt = kn from by first | exact oz_e13fc83238 g4 e164 e144 | omega) (show 0 ≤ kn from by first | exact g5 | omega) (show (cf159 48).toInt = ns from by first | exact oz_e13fc83238 g6 e166 e146 | omega) (show (cf159 38).toInt = nf from by first | exact oz_e13fc83238 g7 e165 e145 | omega) (show 0 ≤ nf from by first | exact g8 | omega) (show 0 ≤ (1 : Int) from by first | decide | omega) (show (1 : Int) ≤ 1 from by first | decide | omega) htk (FsI.le (N' := (pf 13).toInt) hfs (by first | with_reducible rfl | with_reducible assumption | omega)) hwr (KnT.eq hkt (by first | with_reducible rfl | with_reducible assumption | omega)) (FnT.eq hft (by first | with_reducible rfl | with_reducible assumption | omega)) hks hfp han hec_z171 _) hT (pr := []) (pcs := [wdP cs h r g tf ta pf na ma138 wa cf159 ca ef ea xf xa]) hw (oX_call (P := (fun A U H => (oP A g U H))) (pr := []) oG_P hw hA hP) (px_recv hT hw 0 0 rfl rfl rfl) m12_217 m12_214 m12_216 ms_12_7 m1_21 q_Mpg_check ⟨show (4 * d + 12) + 1 ≤ (4 * (d + 1) + 12) from by first | with_reducible rfl | with_reducible assumption | omega, show 8 + (8 + 11) + (200 * d + 420) ≤ (200 * (d + 1) + 420) from by first | with_reducible rfl | with_reducible assumption | omega⟩ hl.1 rfl (Nat.le_of_ble_eq_true rfl) d_Mpg_check_297 ⟨Nat.le_of_ble_eq_true rfl, Nat.le_of_ble_eq_true rfl⟩) hw hA (fun v177 p176 H locs hp176 hw => ?_)
    obtain ⟨ma174, cf175, rfl, e178, e179, e180, e181, e182, e183, e184, e185, e186, e187, e188, e189, e190, e191, e192⟩ := hp176
    have e178 : KpE cf159 cf175 := e178
    have hke := (hke).tr e178
    have hkz_e178 := e178.2
    have e179 : WrV cf175 (tf 6).toInt := e179
    have hwr := e179
    have hw0_e179 := hwr.1
    have e180 : (cf175 33).toInt = (cf159 33).toInt := e180
    have e181 : (cf175 38).toInt = (cf159 38).toInt := e181
    have e182 : (cf175 48).toInt = (cf159 48).toInt := e182
    have e183 : (cf175 46).toInt = (cf159 46).toInt := e183
    have e184 : (cf175 47).toInt = (cf159 47).toInt := e184
    have e185 : (cf175 57).toInt = (cf159 57).toInt := e185
    have e186 : Ann na ma0 ma174 := e186
    have han := e186
    have e187 : FrC m1 p0.toInt ma138 ma174 := e187
    have hfc := hfc.tr e187 (by first | with_reducible rfl | with_reducible assumption | omega) (by first | with_reducible rfl | with_reducible assumption | omega)
    have hzt_z135 := ZTy.tr hzt_z135 e178 e187 (by first | with_reducible rfl | with_reducible assumption | omega)
    have hzpl_z135 := ZPl.tr hzpl_z135 e178 e187 (by first | with_reducible rfl | with_reducible assumption | omega) (by first | with_reducible rfl | with_reducible assumption | omega)
    have e188 : 0 ≤ v177.toInt := e188
    have e189 : v177.toInt ≤ 4 := e189
    have e190 : NmJ ta ca na ma174 kn z171 v177.toInt := e190
    have hnm_z171 := e190
    have e191 : ZTy cf175 (Gk ta ca na ma0 ns ys nf) na ma174 m1 p0.toInt z171 v177.toInt := e191
    have hzt_z171 := e191
    have e192 : ZNm cf175 (1 : Int) v177.toInt := e192
    have hty_z171 := ZTy.num hzt_z171 e192
    have hw : pw D A s.heap H locs [wdP cs h r g tf ta pf na ma174 wa cf175 ca ef ea xf xa] := hw
    have lv177 := Int32.le_toInt v177
    have uv177 := Int32.toInt_lt v177
    refine lv_pop S.x S.b d_Mpg_check_300 rfl ?_
    refine lv_iload_n S.x S.b d_Mpg_check_301 rfl (lv_at hl 4 rfl) ?_
    refine lv_if_eq (tgt := 328) S.x S.b d_Mpg_check_302 (by decide) (fun c193 => ?_) (fun c193 => ?_)
    · have nc193 : p1.toInt = (0 : Int) := (i_eq (x := p1) (y := 0)).mp c193
      refine lv_iload_n S.x S.b d_Mpg_check_328 rfl (lv_at hl 4 rfl) ?_
      refine lv_if_eq (tgt := 348) S.x S.b d_Mpg_check_329 (by decide) (fun c194 => ?_) (fun c194 => ?_)
      · have nc194 : p1.toInt = (0 : Int) := (i_eq (x := p1) (y := 0)).mp c194
        refine lv_iload_n S.x S.b d_Mpg_check_348 rfl (lv_at hl 1 rfl) ?_
        exact px_iret (v := 1) S hr rfl hlk hAe hw (Nat.le_of_ble_eq_true rfl) (Nat.le_of_ble_eq_true rfl) (⟨ma174, cf175, rfl, (show KpE cf cf175 from hke), (show WrV cf175 (tf 6).toInt from hwr), (show (cf175 33).toInt = (cf 33).toInt from by first | exact oz_e13fc83238 e144 e180 e164 | omega), (show (cf175 38).toInt = (cf 38).toInt from by first | exact oz_e13fc83238 e145 e181 e165 | omega), (show (cf175 48).toInt = (cf 48).toInt from by first | exact oz_e13fc83238 e146 e182 e166 | omega), (show (cf175 46).toInt = (cf 46).toInt from by first | exact oz_e13fc83238 e147 e183 e167 | omega), (show (cf175 47).toInt = (cf 47).toInt from by first | exact oz_e13fc83238 e148 e184 e168 | omega), (show (cf175 57).toInt = (cf 57).toInt from by first | exact oz_e13fc83238 e149 e185 e169 | omega), (show Ann na ma0 ma174 from han), (show FrC lo hi ma ma174 from hfc), (show 0 ≤ (1 : Int) from by first | decide | omega), (show (1 : Int) ≤ 4 from by first | decide | omega), (show NmJ ta ca na ma174 kn p0 (1 : Int) from (fun h => absurd h (by first | with_reducible rfl | with_reducible assumption | omega))), (show ZTy cf175 (Gk ta ca na ma0 ns ys nf) na ma174 lo hi p0 (1 : Int) from (fun zz => Or.inr ⟨by first | with_reducible rfl | with_reducible assumption | omega, ty_9 hrg (by first | with_reducible rfl | with_reducible assumption | omega) ez135 (ha_z171.trans (Ann.b18 han (by first | with_reducible rfl | with_reducible assumption | omega)).symm) ((ZTy.pl hzt_z135 hzpl_z135 zz).le (by first | with_reducible rfl | with_reducible assumption | omega) (by first | with_reducible rfl | with_reducible assumption | omega)) (hzpl_z135 zz) (ZTy.n0 hzt_z135 zz) ((hty_z171 zz).le (by first | with_reducible rfl | with_reducible assumption | omega) (by first | with_reducible rfl | with_reducible assumption | omega))⟩)), (show ZNm cf175 p1.toInt (1 : Int) from (zty_num (G := (Gk ta ca na ma0 ns ys nf)) (na := na) (ma := ma174) (lo := lo) (hi := hi) (n := p0) (fun zz => Or.inr ⟨by first | with_reducible rfl | with_reducible assumption | omega, ty_9 hrg (by first | with_reducible rfl | with_reducible assumption | omega) ez135 (ha_z171.trans (Ann.b18 han (by first | with_reducible rfl | with_reducible assumption | omega)).symm) ((ZTy.pl hzt_z135 hzpl_z135 zz).le (by first | with_reducible rfl | with_reducible assumption | omega) (by first | with_reducible rfl | with_reducible assumption | omega)) (hzpl_z135 zz) (ZTy.n0 hzt_z135 zz) ((hty_z171 zz).le (by first | with_reducible rfl | with_reducible assumption | omega) (by first | with_reducible rfl | with_reducible assumption | omega))⟩) (by first | with_reducible rfl | with_reducible assumption | omega)))⟩) d_Mpg_check_349
      · have nc194 : ¬ p1.toInt = (0 : Int) := mt (i_eq (x := p1) (y := 0)).mpr c194
        refine lv_iload_n S.x S.b d_Mpg_check_332 rfl (lv_at hl 1 rfl) ?_
        refine lv_iconst (v := 4) S.x S.b d_Mpg_check_333 (by decide) ?_
        refine lv_icmp_ne (tgt := 348) S.x S.b d_Mpg_check_334 (by decide) (fun c195 => ?_) (fun c195 => ?_)
        ·
          refine lv_iload_n S.x S.b d_Mpg_check_348 rfl (lv_at hl 1 rfl) ?_
          exact px_iret (v := 1) S hr rfl hlk hAe hw (Nat.le_of_ble_eq_true rfl) (Nat.le_of_ble_eq_true rfl) (⟨ma174, cf175, rfl, (show KpE cf cf175 from hke), (show WrV cf175 (tf 6).toInt from hwr), (show (cf175 33).toInt = (cf 33).toInt from by first | exact oz_e13fc83238 e144 e180 e164 | omega), (show (cf175 38).toInt = (cf 38).toInt from by first | exact oz_e13fc83238 e145 e181 e165 | omega), (show (cf175 48).toInt = (cf 48).toInt from by first | exact oz_e13fc83238 e146 e182 e166 | omega), (show (cf175 46).toInt = (cf 46).toInt from by first | exact oz_e13fc83238 e147 e183 e167 | omega), (show (cf175 47).toInt = (cf 47).toInt from by first | exact oz_e13fc83238 e148 e184 e168 | omega), (show (cf175 57).toInt = (cf 57).toInt from by first | exact oz_e13fc83238 e149 e185 e169 | omega), (show Ann na ma0 ma174 from han), (show FrC lo hi ma ma174 from hfc), (show 0 ≤ (1 : Int) from by first | decide | omega), (show (1 : Int) ≤ 4 from by first | decide | omega), (show NmJ ta ca na ma174 kn p0 (1 : Int) from (fun h => absurd h (by first | with_reducible rfl | with_reducible assumption | omega))), (show ZTy cf175 (Gk ta ca na ma0 ns ys nf) na ma174 lo hi p0 (1 : Int) from (fun zz => Or.inr ⟨by first | with_reducible rfl | with_reducible assumption | omega, ty_9 hrg (by first | with_reducible rfl | with_reducible assumption | omega) ez135 (ha_z171.trans (Ann.b18 han (by first | with_reducible rfl | with_reducible assumption | omega)).symm) ((ZTy.pl hzt_z135 hzpl_z135 zz).le (by first | with_reducible rfl | with_reducible assumption | omega) (by first | with_reducible rfl | with_reducible assumption | omega)) (hzpl_z135 zz) (ZTy.n0 hzt_z135 zz) ((hty_z171 zz).le (by first | with_reducible rfl | with_reducible assumption | omega) (by first | with_reducible rfl | with_reducible assumption | omega))⟩)), (show ZNm cf175 p1.toInt (1 : Int) from (zty_num (G := (Gk ta ca na ma0 ns ys nf)) (na := na) (ma := ma174) (lo := lo) (hi := hi) (n := p0) (fun zz => Or.inr ⟨by first | with_reducible rfl | with_reducible assumption | omega, ty_9 hrg (by first | with_reducible rfl | with_reducible assumption | omega) ez135 (ha_z171.trans (Ann.b18 han (by first | with_reducible rfl | with_reducible assumption | omega)).symm) ((ZTy.pl hzt_z135 hzpl_z135 zz).le (by first | with_reducible rfl | with_reducible assumption | omega) (by first | with_reducible rfl | with_reducible assumption | omega)) (hzpl_z135 zz) (ZTy.n0 hzt_z135 zz) ((hty_z171 zz).le (by first | with_reducible rfl | with_reducible assumption | omega) (by first | with_reducible rfl | with_reducible assumption | omega))⟩) (by first | with_reducible rfl | with_reducible assumption | omega)))⟩) d_Mpg_check_349
        · exact absurd c195 (by decide)
    · have nc193 : ¬ p1.toInt = (0 : Int) := mt (i_eq (x := p1) (y := 0)).mpr c193
      refine lv_iload_n S.x S.b d_Mpg_check_305 rfl (lv_at hl 1 rfl) ?_
      refine lv_iconst (v := 2) S.x S.b d_Mpg_check_306 (by decide) ?_
      refine lv_icmp_eq (tgt := 315) S.x S.b d_Mpg_check_307 (by decide) (fun c196 => ?_) (fun c196 => ?_)
      · exact absurd c196 (by decide)
      ·
        refine lv_iload_n S.x S.b d_Mpg_check_310 rfl (lv_at hl 1 rfl) ?_
        refine lv_iconst (v := 3) S.x S.b d_Mpg_check_311 (by decide) ?_
        refine lv_icmp_ne (tgt := 328) S.x S.b d_Mpg_check_312 (by decide) (fun c197 => ?_) (fun c197 => ?_)
        ·
          refine lv_iload_n S.x S.b d_Mpg_check_328 rfl (lv_at hl 4 rfl) ?_
          refine lv_if_eq (tgt := 348) S.x S.b d_Mpg_check_329 (by decide) (fun c198 => ?_) (fun c198 => ?_)
          · have nc198 : p1.toInt = (0 : Int) := (i_eq (x := p1) (y := 0)).mp c198
            refine lv_iload_n S.x S.b d_Mpg_check_348 rfl (lv_at hl 1 rfl) ?_
            exact px_iret (v := 1) S hr rfl hlk hAe hw (Nat.le_of_ble_eq_true rfl) (Nat.le_of_ble_eq_true rfl) (⟨ma174, cf175, rfl, (show KpE cf cf175 from hke), (show WrV cf175 (tf 6).toInt from hwr), (show (cf175 33).toInt = (cf 33).toInt from by first | exact oz_e13fc83238 e144 e180 e164 | omega), (show (cf175 38).toInt = (cf 38).toInt from by first | exact oz_e13fc83238 e145 e181 e165 | omega), (show (cf175 48).toInt = (cf 48).toInt from by first | exact oz_e13fc83238 e146 e182 e166 | omega), (show (cf175 46).toInt = (cf 46).toInt from by first | exact oz_e13fc83238 e147 e183 e167 | omega), (show (cf175 47).toInt = (cf 47).toInt from by first | exact oz_e13fc83238 e148 e184 e168 | omega), (show (cf175 57).toInt = (cf 57).toInt from by first | exact oz_e13fc83238 e149 e185 e169 | omega), (show Ann na ma0 ma174 from han), (show FrC lo hi ma ma174 from hfc), (show 0 ≤ (1 : Int) from by first | decide | omega), (show (1 : Int) ≤ 4 from by first | decide | omega), (show NmJ ta ca na ma174 kn p0 (1 : Int) from (fun h => absurd h (by first | with_reducible rfl | with_reducible assumption | omega))), (show ZTy cf175 (Gk ta ca na ma0 ns ys nf) na ma174 lo hi p0 (1 : Int) from (fun zz => Or.inr ⟨by first | with_reducible rfl | with_reducible assumption | omega, ty_9 hrg (by first | with_reducible rfl | with_reducible assumption | omega) ez135 (ha_z171.trans (Ann.b18 han (by first | with_reducible rfl | with_reducible assumption | omega)).symm) ((ZTy.pl hzt_z135 hzpl_z135 zz).le (by first | with_reducible rfl | with_reducible assumption | omega) (by first | with_reducible rfl | with_reducible assumption | omega)) (hzpl_z135 zz) (ZTy.n0 hzt_z135 zz) ((hty_z171 zz).le (by first | with_reducible rfl | with_reducible assumption | omega) (by first | with_reducible rfl | with_reducible assumption | omega))⟩)), (show ZNm cf175 p1.toInt (1 : Int) from (zty_num (G := (Gk ta ca na ma0 ns ys nf)) (na := na) (ma := ma174) (lo := lo) (hi := hi) (n := p0) (fun zz => Or.inr ⟨by first | with_reducible rfl | with_reducible assumption | omega, ty_9 hrg (by first | with_reducible rfl | with_reducible assumption | omega) ez135 (ha_z171.trans (Ann.b18 han (by first | with_reducible rfl | with_reducible assumption | omega)).symm) ((ZTy.pl hzt_z135 hzpl_z135 zz).le (by first | with_reducible rfl | with_reducible assumption | omega) (by first | with_reducible rfl | with_reducible assumption | omega)) (hzpl_z135 zz) (ZTy.n0 hzt_z135 zz) ((hty_z171 zz).le (by first | with_reducible rfl | with_reducible assumption | omega) (by first | with_reducible rfl | with_reducible assumption | omega))⟩) (by first | with_reducible rfl | with_reducible assumption | omega)))⟩) d_Mpg_check_349
          · have nc198 : ¬ p1.toInt = (0 : Int) := mt (i_eq (x := p1) (y := 0)).mpr c198
            refine lv_iload_n S.x S.b d_Mpg_check_332 rfl (lv_at hl 1 rfl) ?_
            refine lv_iconst (v := 4) S.x S.b d_Mpg_check_333 (by decide) ?_
            refine lv_icmp_ne (tgt := 348) S.x S.b d_Mpg_check_334 (by decide) (fun c199 => ?_) (fun c199 => ?_)
            ·
              refine lv_iload_n S.x S.b d_Mpg_check_348 rfl (lv_at hl 1 rfl) ?_
              exact px_iret (v := 1) S hr rfl hlk hAe hw (Nat.le_of_ble_eq_true rfl) (Nat.le_of_ble_eq_true rfl) (⟨ma174, cf175, rfl, (show KpE cf cf175 from hke), (show WrV cf175 (tf 6).toInt from hwr), (show (cf175 33).toInt = (cf 33).toInt from by first | exact oz_e13fc83238 e144 e180 e164 | omega), (show (cf175 38).toInt = (cf 38).toInt from by first | exact oz_e13fc83238 e145 e181 e165 | omega), (show (cf175 48).toInt = (cf 48).toInt from by first | exact oz_e13fc83238 e146 e182 e166 | omega), (show (cf175 46).toInt = (cf 46).toInt from by first | exact oz_e13fc83238 e147 e183 e167 | omega), (show (cf175 47).toInt = (cf 47).toInt from by first | exact oz_e13fc83238 e148 e184 e168 | omega), (show (cf175 57).toInt = (cf 57).toInt from by first | exact oz_e13fc83238 e149 e185 e169 | omega), (show Ann na ma0 ma174 from han), (show FrC lo hi ma ma174 from hfc), (show 0 ≤ (1 : Int) from by first | decide | omega), (show (1 : Int) ≤ 4 from by first | decide | omega), (show NmJ ta ca na ma174 kn p0 (1 : Int) from (fun h => absurd h (by first | with_reducible rfl | with_reducible assumption | omega))), (show ZTy cf175 (Gk ta ca na ma0 ns ys nf) na ma174 lo hi p0 (1 : Int) from (fun zz => Or.inr ⟨by first | with_reducible rfl | with_reducible assumption | omega, ty_9 hrg (by first | with_reducible rfl | with_reducible assumption | omega) ez135 (ha_z171.trans (Ann.b18 han (by first | with_reducible rfl | with_reducible assumption | omega)).symm) ((ZTy.pl hzt_z135 hzpl_z135 zz).le (by first | with_reducible rfl | with_reducible assumption | omega) (by first | with_reducible rfl | with_reducible assumption | omega)) (hzpl_z135 zz) (ZTy.n0 hzt_z135 zz) ((hty_z171 zz).le (by first | with_reducible rfl | with_reducible assumption | omega) (by first | with_reducible rfl | with_reducible assumption | omega))⟩)), (show ZNm cf175 p1.toInt (1 : Int) from (zty_num (G := (Gk ta ca na ma0 ns ys nf)) (na := na) (ma := ma174) (lo := lo) (hi := hi) (n := p0) (fun zz => Or.inr ⟨by first | with_reducible rfl | with_reducible assumption | omega, ty_9 hrg (by first | with_reducible rfl | with_reducible assumption | omega) ez135 (ha_z171.trans (Ann.b18 han (by first | with_reducible rfl | with_reducible assumption | omega)).symm) ((ZTy.pl hzt_z135 hzpl_z135 zz).le (by first | with_reducible rfl | with_reducible assumption | omega) (by first | with_reducible rfl | with_reducible assumption | omega)) (hzpl_z135 zz) (ZTy.n0 hzt_z135 zz) ((hty_z171 zz).le (by first | with_reducible rfl | with_reducible assumption | omega) (by first | with_reducible rfl | with_reducible assumption | omega))⟩) (by first | with_reducible rfl | with_reducible assumption | omega)))⟩) d_Mpg_check_349
            · exact absurd c199 (by decide)
        · exact absurd c197 (by decide)
  · refine List.forall_mem_cons.mpr ⟨fun c200 => ?_, List.forall_mem_cons.mpr ⟨fun c200 => ?_, List.forall_mem_cons.mpr ⟨fun c200 => ?_, List.forall_mem_cons.mpr ⟨fun c200 => ?_, List.forall_mem_cons.mpr ⟨fun c200 => ?_, List.forall_mem_cons.mpr ⟨fun c200 => ?_, List.forall_mem_cons.mpr ⟨fun c200 => ?_, List.forall_mem_cons.mpr ⟨fun c200 => ?_, fun _ h => absurd h List.not_mem_nil⟩⟩⟩⟩⟩⟩⟩⟩
    · simp only [List.mem_cons, List.not_mem_nil, or_false] at c200
      refine lv_goto (tgt := 301) S.x S.b d_Mpg_check_56 (by decide) ?_
      refine lv_iload_n S.x S.b d_Mpg_check_301 rfl (lv_at hl 3 rfl) ?_
      refine lv_if_eq (tgt := 328) S.x S.b d_Mpg_check_302 (by decide) (fun c201 => ?_) (fun c201 => ?_)
      · have nc201 : p1.toInt = (0 : Int) := (i_eq (x := p1) (y := 0)).mp c201
        refine lv_iload_n S.x S.b d_Mpg_check_328 rfl (lv_at hl 3 rfl) ?_
        refine lv_if_eq (tgt := 348) S.x S.b d_Mpg_check_329 (by decide) (fun c202 => ?_) (fun c202 => ?_)
        · have nc202 : p1.toInt = (0 : Int) := (i_eq (x := p1) (y := 0)).mp c202
          refine lv_iload_n S.x S.b d_Mpg_check_348 rfl (lv_at hl 0 rfl) ?_
          exact px_iret (v := 1) S hr rfl hlk hAe hw (Nat.le_of_ble_eq_true rfl) (Nat.le_of_ble_eq_true rfl) (⟨ma, cf, rfl, (show KpE cf cf from hke), (show WrV cf (tf 6).toInt from hwr), (show (cf 33).toInt = (cf 33).toInt from rfl), (show (cf 38).toInt = (cf 38).toInt from rfl), (show (cf 48).toInt = (cf 48).toInt from rfl), (show (cf 46).toInt = (cf 46).toInt from rfl), (show (cf 47).toInt = (cf 47).toInt from rfl), (show (cf 57).toInt = (cf 57).toInt from rfl), (show Ann na ma0 ma from han), (show FrC lo hi ma ma from hfc), (show 0 ≤ (1 : Int) from by first | decide | omega), (show (1 : Int) ≤ 4 from by first | decide | omega), (show NmJ ta ca na ma kn p0 (1 : Int) from (fun h => absurd h (by first | with_reducible rfl | with_reducible assumption | omega))), (show ZTy cf (Gk ta ca na ma0 ns ys nf) na ma lo hi p0 (1 : Int) from (fun zz => Or.inr ⟨by first | with_reducible rfl | with_reducible assumption | omega, ty_1 hrg (by first | with_reducible rfl | with_reducible assumption | omega)⟩)), (show ZNm cf p1.toInt (1 : Int) from (zty_num (G := (Gk ta ca na ma0 ns ys nf)) (na := na) (ma := ma) (lo := lo) (hi := hi) (n := p0) (fun zz => Or.inr ⟨by first | with_reducible rfl | with_reducible assumption | omega, ty_1 hrg (by first | with_reducible rfl | with_reducible assumption | omega)⟩) (by first | with_reducible rfl | with_reducible assumption | omega)))⟩) d_Mpg_check_349
        · have nc202 : ¬ p1.toInt = (0 : Int) := mt (i_eq (x := p1) (y := 0)).mpr c202
          refine lv_iload_n S.x S.b d_Mpg_check_332 rfl (lv_at hl 0 rfl) ?_
          refine lv_iconst (v := 4) S.x S.b d_Mpg_check_333 (by decide) ?_
          refine lv_icmp_ne (tgt := 348) S.x S.b d_Mpg_check_334 (by decide) (fun c203 => ?_) (fun c203 => ?_)
          ·
            refine lv_iload_n S.x S.b d_Mpg_check_348 rfl (lv_at hl 0 rfl) ?_
            exact px_iret (v := 1) S hr rfl hlk hAe hw (Nat.le_of_ble_eq_true rfl) (Nat.le_of_ble_eq_true rfl) (⟨ma, cf, rfl, (show KpE cf cf from hke), (show WrV cf (tf 6).toInt from hwr), (show (cf 33).toInt = (cf 33).toInt from rfl), (show (cf 38).toInt = (cf 38).toInt from rfl), (show (cf 48).toInt = (cf 48).toInt from rfl), (show (cf 46).toInt = (cf 46).toInt from rfl), (show (cf 47).toInt = (cf 47).toInt from rfl), (show (cf 57).toInt = (cf 57).toInt from rfl), (show Ann na ma0 ma from han), (show FrC lo hi ma ma from hfc), (show 0 ≤ (1 : Int) from by first | decide | omega), (show (1 : Int) ≤ 4 from by first | decide | omega), (show NmJ ta ca na ma kn p0 (1 : Int) from (fun h => absurd h (by first | with_reducible rfl | with_reducible assumption | omega))), (show ZTy cf (Gk ta ca na ma0 ns ys nf) na ma lo hi p0 (1 : Int) from (fun zz => Or.inr ⟨by first | with_reducible rfl | with_reducible assumption | omega, ty_1 hrg (by first | with_reducible rfl | with_reducible assumption | omega)⟩)), (show ZNm cf p1.toInt (1 : Int) from (zty_num (G := (Gk ta ca na ma0 ns ys nf)) (na := na) (ma := ma) (lo := lo) (hi := hi) (n := p0) (fun zz => Or.inr ⟨by first | with_reducible rfl | with_reducible assumption | omega, ty_1 hrg (by first | with_reducible rfl | with_reducible assumption | omega)⟩) (by first | with_reducible rfl | with_reducible assumption | omega)))⟩) d_Mpg_check_349
          · exact absurd c203 (by decide)
      · have nc201 : ¬ p1.toInt = (0 : Int) := mt (i_eq (x := p1) (y := 0)).mpr c201
        refine lv_iload_n S.x S.b d_Mpg_check_305 rfl (lv_at hl 0 rfl) ?_
        refine lv_iconst (v := 2) S.x S.b d_Mpg_check_306 (by decide) ?_
        refine lv_icmp_eq (tgt := 315) S.x S.b d_Mpg_check_307 (by decide) (fun c204 => ?_) (fun c204 => ?_)
        · exact absurd c204 (by decide)
        ·
          refine lv_iload_n S.x S.b d_Mpg_check_310 rfl (lv_at hl 0 rfl) ?_
          refine lv_iconst (v := 3) S.x S.b d_Mpg_check_311 (by decide) ?_
          refine lv_icmp_ne (tgt := 328) S.x S.b d_Mpg_check_312 (by decide) (fun c205 => ?_) (fun c205 => ?_)
          ·
            refine lv_iload_n S.x S.b d_Mpg_check_328 rfl (lv_at hl 3 rfl) ?_
            refine lv_if_eq (tgt := 348) S.x S.b d_Mpg_check_329 (by decide) (fun c206 => ?_) (fun c206 => ?_)
            · have nc206 : p1.toInt = (0 : Int) := (i_eq (x := p1) (y := 0)).mp c206
              refine lv_iload_n S.x S.b d_Mpg_check_348 rfl (lv_at hl 0 rfl) ?_
              exact px_iret (v := 1) S hr rfl hlk hAe hw (Nat.le_of_ble_eq_true rfl) (Nat.le_of_ble_eq_true rfl) (⟨ma, cf, rfl, (show KpE cf cf from hke), (show WrV cf (tf 6).toInt from hwr), (show (cf 33).toInt = (cf 33).toInt from rfl), (show (cf 38).toInt = (cf 38).toInt from rfl), (show (cf 48).toInt = (cf 48).toInt from rfl), (show (cf 46).toInt = (cf 46).toInt from rfl), (show (cf 47).toInt = (cf 47).toInt from rfl), (show (cf 57).toInt = (cf 57).toInt from rfl), (show Ann na ma0 ma from han), (show FrC lo hi ma ma from hfc), (show 0 ≤ (1 : Int) from by first | decide | omega), (show (1 : Int) ≤ 4 from by first | decide | omega), (show NmJ ta ca na ma kn p0 (1 : Int) from (fun h => absurd h (by first | with_reducible rfl | with_reducible assumption | omega))), (show ZTy cf (Gk ta ca na ma0 ns ys nf) na ma lo hi p0 (1 : Int) from (fun zz => Or.inr ⟨by first | with_reducible rfl | with_reducible assumption | omega, ty_1 hrg (by first | with_reducible rfl | with_reducible assumption | omega)⟩)), (show ZNm cf p1.toInt (1 : Int) from (zty_num (G := (Gk ta ca na ma0 ns ys nf)) (na := na) (ma := ma) (lo := lo) (hi := hi) (n := p0) (fun zz => Or.inr ⟨by first | with_reducible rfl | with_reducible assumption | omega, ty_1 hrg (by first | with_reducible rfl | with_reducible assumption | omega)⟩) (by first | with_reducible rfl | with_reducible assumption | omega)))⟩) d_Mpg_check_349
            · have nc206 : ¬ p1.toInt = (0 : Int) := mt (i_eq (x := p1) (y := 0)).mpr c206
              refine lv_iload_n S.x S.b d_Mpg_check_332 rfl (lv_at hl 0 rfl) ?_
              refine lv_iconst (v := 4) S.x S.b d_Mpg_check_333 (by decide) ?_
              refine lv_icmp_ne (tgt := 348) S.x S.b d_Mpg_check_334 (by decide) (fun c207 => ?_) (fun c207 => ?_)
              ·
                refine lv_iload_n S.x S.b d_Mpg_check_348 rfl (lv_at hl 0 rfl) ?_
                exact px_iret (v := 1) S hr rfl hlk hAe hw (Nat.le_of_ble_eq_true rfl) (Nat.le_of_ble_eq_true rfl) (⟨ma, cf, rfl, (show KpE cf cf from hke), (show WrV cf (tf 6).toInt from hwr), (show (cf 33).toInt = (cf 33).toInt from rfl), (show (cf 38).toInt = (cf 38).toInt from rfl), (show (cf 48).toInt = (cf 48).toInt from rfl), (show (cf 46).toInt = (cf 46).toInt from rfl), (show (cf 47).toInt = (cf 47).toInt from rfl), (show (cf 57).toInt = (cf 57).toInt from rfl), (show Ann na ma0 ma from han), (show FrC lo hi ma ma from hfc), (show 0 ≤ (1 : Int) from by first | decide | omega), (show (1 : Int) ≤ 4 from by first | decide | omega), (show NmJ ta ca na ma kn p0 (1 : Int) from (fun h => absurd h (by first | with_reducible rfl | with_reducible assumption | omega))), (show ZTy cf (Gk ta ca na ma0 ns ys nf) na ma lo hi p0 (1 : Int) from (fun zz => Or.inr ⟨by first | with_reducible rfl | with_reducible assumption | omega, ty_1 hrg (by first | with_reducible rfl | with_reducible assumption | omega)⟩)), (show ZNm cf p1.toInt (1 : Int) from (zty_num (G := (Gk ta ca na ma0 ns ys nf)) (na := na) (ma := ma) (lo := lo) (hi := hi) (n := p0) (fun zz => Or.inr ⟨by first | with_reducible rfl | with_reducible assumption | omega, ty_1 hrg (by first | with_reducible rfl | with_reducible assumption | omega)⟩) (by first | with_reducible rfl | with_reducible assumption | omega)))⟩) d_Mpg_check_349
              · exact absurd c207 (by decide)
          · exact absurd c205 (by decide)
    · simp only [List.mem_cons, List.not_mem_nil, or_false] at c200
      refine lv_aload_n S.x S.b d_Mpg_check_59 rfl (lv_at hl 1 rfl) ?_
      refine lv_iload_n S.x S.b d_Mpg_check_60 rfl (lv_at hl 2 rfl) ?_
      refine px_calli (pr := []) (px_runV (As := [.int p0]) (rest := []) S (c_mp_checkName l D cs ma0 ys ns nf kn (d + 1) lo hi h r g tf ta pf na wa ca ef ea xf xa ma cf p0  (show 0 ≤ lo from by first | exact g0 | omega) (show hi ≤ (pf 13).toInt from by first | exact g1 | omega) (show (pf 13).toInt ≤ 2100 from by first | exact g2 | omega) (show (tf 6).toInt ≤ 2049 from by first | exact g3 | omega) (show (cf 33).toInt = kn from by first | exact g4 | omega) (show 0 ≤ kn from by first | exact g5 | omega) (show (cf 48).toInt = ns from by first | exact g6 | omega) (show (cf 38).toInt = nf from by first | exact g7 | omega) (show 0 ≤ nf from by first | exact g8 | omega) (show (na 14 p0.toNatClampNeg).toInt = 2 from by first | with_reducible rfl | with_reducible assumption | omega) htk (FsI.le (N' := (pf 13).toInt) hfs (by first | with_reducible rfl | with_reducible assumption | omega)) hwr (KnT.eq hkt (by first | with_reducible rfl | with_reducible assumption | omega)) (FnT.eq hft (by first | with_reducible rfl | with_reducible assumption | omega)) hks han hec_p0 _) hT (pr := []) (pcs := [wdP cs h r g tf ta pf na ma wa cf ca ef ea xf xa]) hw (oX_call (P := (fun A U H => (oP A g U H))) (pr := []) oG_P hw hA hP) (px_recv hT hw 0 0 rfl rfl rfl) m12_221 m12_218 m12_220 ms_12_8 m1_21 q_Mpg_checkName ⟨show 3 + 1 ≤ (4 * (d + 1) + 12) from by first | with_reducible rfl | with_reducible assumption | omega, show 8 + (4 + 11) + 120 ≤ (200 * (d + 1) + 420) from by first | with_reducible rfl | with_reducible assumption | omega⟩ hl.1 rfl (Nat.le_of_ble_eq_true rfl) d_Mpg_check_61 ⟨Nat.le_of_ble_eq_true rfl, Nat.le_of_ble_eq_true rfl⟩) hw hA (fun v213 p212 H locs hp212 hw => ?_)
      obtain ⟨ma210, cf211, rfl, e214, e215, e216, e217, e218, e219, e220, e221, e222, e223, e224, e225, e226, e227⟩ := hp212
      have e214 : KpE cf cf211 := e214
      have hke := (hke).tr e214
      have hkz_e214 := e214.2
      have e215 : WrV cf211 (tf 6).toInt := e215
      have hwr := e215
      have hw0_e215 := hwr.1
      have e216 : (cf211 33).toInt = (cf 33).toInt := e216
      have e217 : (cf211 38).toInt = (cf 38).toInt := e217
      have e218 : (cf211 48).toInt = (cf 48).toInt := e218
      have e219 : (cf211 46).toInt = (cf 46).toInt := e219
      have e220 : (cf211 47).toInt = (cf 47).toInt := e220
      have e221 : (cf211 57).toInt = (cf 57).toInt := e221
      have e222 : Ann na ma0 ma210 := e222
      have han := e222
      have e223 : FrC lo hi ma ma210 := e223
      have hfc := hfc.tr e223 (by first | with_reducible rfl | with_reducible assumption | omega) (by first | with_reducible rfl | with_reducible assumption | omega)
      have e224 : 0 ≤ v213.toInt := e224
      have e225 : v213.toInt ≤ 3 := e225
      have e226 : NmO ta ca na ma210 kn p0 v213.toInt := e226
      have hnmo := e226
      have e227 : ZTy cf211 (Gk ta ca na ma0 ns ys nf) na ma210 lo hi p0 v213.toInt := e227
      have hzt_p0 := e227
      have hw : pw D A s.heap H locs [wdP cs h r g tf ta pf na ma210 wa cf211 ca ef ea xf xa] := hw
      have lv213 := Int32.le_toInt v213
      have uv213 := Int32.toInt_lt v213
      refine lv_istore_n (lv' := [(3, .int v213), (0, .ref h), (1, .int p0), (2, .int p1)]) S.x S.b d_Mpg_check_64 rfl hl (by decide) rfl (fun ls hl => ?_)
      refine lv_goto (tgt := 301) S.x S.b d_Mpg_check_65 (by decide) ?_
      refine lv_iload_n S.x S.b d_Mpg_check_301 rfl (lv_at hl 3 rfl) ?_
      refine lv_if_eq (tgt := 328) S.x S.b d_Mpg_check_302 (by decide) (fun c228 => ?_) (fun c228 => ?_)
      · have nc228 : p1.toInt = (0 : Int) := (i_eq (x := p1) (y := 0)).mp c228
        refine lv_iload_n S.x S.b d_Mpg_check_328 rfl (lv_at hl 3 rfl) ?_
        refine lv_if_eq (tgt := 348) S.x S.b d_Mpg_check_329 (by decide) (fun c229 => ?_) (fun c229 => ?_)
        · have nc229 : p1.toInt = (0 : Int) := (i_eq (x := p1) (y := 0)).mp c229
          refine lv_iload_n S.x S.b d_Mpg_check_348 rfl (lv_at hl 0 rfl) ?_
          exact px_iret (v := v213) S hr rfl hlk hAe hw (Nat.le_of_ble_eq_true rfl) (Nat.le_of_ble_eq_true rfl) (⟨ma210, cf211, rfl, (show KpE cf cf211 from hke), (show WrV cf211 (tf 6).toInt from hwr), (show (cf211 33).toInt = (cf 33).toInt from by first | exact e216 | omega), (show (cf211 38).toInt = (cf 38).toInt from by first | exact e217 | omega), (show (cf211 48).toInt = (cf 48).toInt from by first | exact e218 | omega), (show (cf211 46).toInt = (cf 46).toInt from by first | exact e219 | omega), (show (cf211 47).toInt = (cf 47).toInt from by first | exact e220 | omega), (show (cf211 57).toInt = (cf 57).toInt from by first | exact e221 | omega), (show Ann na ma0 ma210 from han), (show FrC lo hi ma ma210 from hfc), (show 0 ≤ v213.toInt from by first | exact e224 | omega), (show v213.toInt ≤ 4 from by first | exact oz_05bb820b9b e225 | omega), (show NmJ ta ca na ma210 kn p0 v213.toInt from (fun _ => hnmo)), (show ZTy cf211 (Gk ta ca na ma0 ns ys nf) na ma210 lo hi p0 v213.toInt from hzt_p0), (show ZNm cf211 p1.toInt v213.toInt from (zty_num (G := (Gk ta ca na ma0 ns ys nf)) (na := na) (ma := ma210) (lo := lo) (hi := hi) (n := p0) hzt_p0 (by first | with_reducible rfl | with_reducible assumption | omega)))⟩) d_Mpg_check_349
        · have nc229 : ¬ p1.toInt = (0 : Int) := mt (i_eq (x := p1) (y := 0)).mpr c229
          refine lv_iload_n S.x S.b d_Mpg_check_332 rfl (lv_at hl 0 rfl) ?_
          refine lv_iconst (v := 4) S.x S.b d_Mpg_check_333 (by decide) ?_
          refine lv_icmp_ne (tgt := 348) S.x S.b d_Mpg_check_334 (by decide) (fun c230 => ?_) (fun c230 => ?_)
          · have nc230 : ¬ v213.toInt = (4 : Int) := mt (i_eq (x := v213) (y := 4)).mpr c230
            refine lv_iload_n S.x S.b d_Mpg_check_348 rfl (lv_at hl 0 rfl) ?_
            exact px_iret (v := v213) S hr rfl hlk hAe hw (Nat.le_of_ble_eq_true rfl) (Nat.le_of_ble_eq_true rfl) (⟨ma210, cf211, rfl, (show KpE cf cf211 from hke), (show WrV cf211 (tf 6).toInt from hwr), (show (cf211 33).toInt = (cf 33).toInt from by first | exact e216 | omega), (show (cf211 38).toInt = (cf 38).toInt from by first | exact e217 | omega), (show (cf211 48).toInt = (cf 48).toInt from by first | exact e218 | omega), (show (cf211 46).toInt = (cf 46).toInt from by first | exact e219 | omega), (show (cf211 47).toInt = (cf 47).toInt from by first | exact e220 | omega), (show (cf211 57).toInt = (cf 57).toInt from by first | exact e221 | omega), (show Ann na ma0 ma210 from han), (show FrC lo hi ma ma210 from hfc), (show 0 ≤ v213.toInt from by first | exact e224 | omega), (show v213.toInt ≤ 4 from by first | exact oz_05bb820b9b e225 | omega), (show NmJ ta ca na ma210 kn p0 v213.toInt from (fun _ => hnmo)), (show ZTy cf211 (Gk ta ca na ma0 ns ys nf) na ma210 lo hi p0 v213.toInt from hzt_p0), (show ZNm cf211 p1.toInt v213.toInt from (zty_num (G := (Gk ta ca na ma0 ns ys nf)) (na := na) (ma := ma210) (lo := lo) (hi := hi) (n := p0) hzt_p0 (by first | with_reducible rfl | with_reducible assumption | omega)))⟩) d_Mpg_check_349
          · have nc230 : v213.toInt = (4 : Int) := (i_eq (x := v213) (y := 4)).mp c230
            refine lv_aload_n S.x S.b d_Mpg_check_337 rfl (lv_at hl 1 rfl) ?_
            refine lv_iconst (v := 5) S.x S.b d_Mpg_check_338 (by decide) ?_
            refine lv_aload_n S.x S.b d_Mpg_check_339 rfl (lv_at hl 1 rfl) ?_
            refine px_get S k_Mpg hT hw 0 0 15 (v := .ref (r 15)) rfl rfl rfl (by decide) m9_239 d_Mpg_check_340 ?_
            refine lv_iload_n S.x S.b d_Mpg_check_343 rfl (lv_at hl 2 rfl) ?_
            refine px_iald S hT hw 0 11 (n := 2100) (f := (na 15)) rfl gp_15 (x := p0) (vp_in_iff.mpr (by first | exact oz_a7e05de1cd hrg.2.2 hrg.2.1 g1 g2 | (constructor <;> omega))) d_Mpg_check_344 ?_
            refine lv_topi (fun z231 ez231 => ?_)
            have lz231 := Int32.le_toInt z231
            have uz231 := Int32.toInt_lt z231
            have rz231 := EcV.tok hec_p0 ez231
            refine px_callv (pr := []) (px_runV (As := [.int 5, .int z231]) (rest := []) S (c_mp_bad l D cs h r g tf ta pf na ma210 wa ca ef ea xf xa cf211 5 z231  (show 1 ≤ (5 : Int) from by first | decide | omega) (show 0 ≤ z231.toInt from by first | exact rz231.1 | omega) (show z231.toInt < (tf 6).toInt from by first | exact oz_7fe81129bf rz231.2 | omega) htk hwr _) hT (pr := []) (pcs := [wdP cs h r g tf ta pf na ma210 wa cf211 ca ef ea xf xa]) hw px_X.tt (px_recv hT hw 0 0 rfl rfl rfl) m12_173 m12_170 m12_172 ms_11_12 m1_21 q_Mpg_bad ⟨show 0 + 1 ≤ (4 * (d + 1) + 12) from by first | with_reducible rfl | with_reducible assumption | omega, show 8 + (3 + 11) + 0 ≤ (200 * (d + 1) + 420) from by first | with_reducible rfl | with_reducible assumption | omega⟩ hl.1 rfl (Nat.le_of_ble_eq_true rfl) d_Mpg_check_345 ⟨Nat.le_of_ble_eq_true rfl, Nat.le_of_ble_eq_true rfl⟩) hw hA (fun p234 H locs hp234 hw => ?_)
            obtain ⟨cf233, rfl, e236, e237, e238, e239, e240, e241, e242, e243, e244, e245, e246, e247, e248, e249, e250, e251, e252, e253, e254⟩ := hp234
            have e236 : KpE cf211 cf233 := e236
            have hke := (hke).tr e236
            have hkz_e236 := e236.2
            have hzt_p0 := Zr.kp hzt_p0 e236 id
            have e237 : WrV cf233 (tf 6).toInt := e237
            have hwr := e237
            have hw0_e237 := hwr.1
            have e238 : 1 ≤ (cf233 30).toInt := e238
            have e239 : (cf233 33).toInt = (cf211 33).toInt := e239
            have e240 : (cf233 38).toInt = (cf211 38).toInt := e240
            have e241 : (cf233 48).toInt = (cf211 48).toInt := e241
            have e242 : (cf233 46).toInt = (cf211 46).toInt := e242
            have e243 : (cf233 47).toInt = (cf211 47).toInt := e243
            have e244 : (cf233 57).toInt = (cf211 57).toInt := e244
            have e245 : (cf233 37).toInt = (cf211 37).toInt := e245
            have e246 : (cf233 42).toInt = (cf211 42).toInt := e246
            have e247 : (cf233 43).toInt = (cf211 43).toInt := e247
            have e248 : (cf233 44).toInt = (cf211 44).toInt := e248
            have e249 : (cf233 45).toInt = (cf211 45).toInt := e249
            have e250 : (cf233 54).toInt = (cf211 54).toInt := e250
            have e251 : (cf233 55).toInt = (cf211 55).toInt := e251
            have e252 : (cf233 58).toInt = (cf211 58).toInt := e252
            have e253 : (cf233 59).toInt = (cf211 59).toInt := e253
            have e254 : (cf233 41).toInt = (cf211 41).toInt := e254
            have hw : pw D A s.heap H locs [wdP cs h r g tf ta pf na ma210 wa cf233 ca ef ea xf xa] := hw
            refine lv_iload_n S.x S.b d_Mpg_check_348 rfl (lv_at hl 0 rfl) ?_
            exact px_iret (v := v213) S hr rfl hlk hAe hw (Nat.le_of_ble_eq_true rfl) (Nat.le_of_ble_eq_true rfl) (⟨ma210, cf233, rfl, (show KpE cf cf233 from hke), (show WrV cf233 (tf 6).toInt from hwr), (show (cf233 33).toInt = (cf 33).toInt from by first | exact oz_1687f4cc65 e216 e239 | omega), (show (cf233 38).toInt = (cf 38).toInt from by first | exact oz_1687f4cc65 e217 e240 | omega), (show (cf233 48).toInt = (cf 48).toInt from by first | exact oz_1687f4cc65 e218 e241 | omega), (show (cf233 46).toInt = (cf 46).toInt from by first | exact oz_1687f4cc65 e219 e242 | omega), (show (cf233 47).toInt = (cf 47).toInt from by first | exact oz_1687f4cc65 e220 e243 | omega), (show (cf233 57).toInt = (cf 57).toInt from by first | exact oz_1687f4cc65 e221 e244 | omega), (show Ann na ma0 ma210 from han), (show FrC lo hi ma ma210 from hfc), (show 0 ≤ v213.toInt from by first | exact e224 | omega), (show v213.toInt ≤ 4 from by first | exact oz_05bb820b9b e225 | omega), (show NmJ ta ca na ma210 kn p0 v213.toInt from (fun _ => hnmo)), (show ZTy cf233 (Gk ta ca na ma0 ns ys nf) na ma210 lo hi p0 v213.toInt from (zr_no (by first | with_reducible rfl | with_reducible assumption | omega))), (show ZNm cf233 p1.toInt v213.toInt from (zr_no (by first | with_reducible rfl | with_reducible assumption | omega)))⟩) d_Mpg_check_349
      · have nc228 : ¬ p1.toInt = (0 : Int) := mt (i_eq (x := p1) (y := 0)).mpr c228
        refine lv_iload_n S.x S.b d_Mpg_check_305 rfl (lv_at hl 0 rfl) ?_
        refine lv_iconst (v := 2) S.x S.b d_Mpg_check_306 (by decide) ?_
        refine lv_icmp_eq (tgt := 315) S.x S.b d_Mpg_check_307 (by decide) (fun c255 => ?_) (fun c255 => ?_)
        · have nc255 : v213.toInt = (2 : Int) := (i_eq (x := v213) (y := 2)).mp c255
          refine lv_aload_n S.x S.b d_Mpg_check_315 rfl (lv_at hl 1 rfl) ?_
          refine lv_iconst (v := 3) S.x S.b d_Mpg_check_316 (by decide) ?_
          refine lv_aload_n S.x S.b d_Mpg_check_317 rfl (lv_at hl 1 rfl) ?_
          refine lv_iload_n S.x S.b d_Mpg_check_318 rfl (lv_at hl 2 rfl) ?_
          refine px_calli (pr := []) (px_runV (As := [.int p0]) (rest := [.int 3, .ref h]) S (c_mp_first l D cs h r g tf ta pf na ma210 wa cf211 ca ef ea xf xa p0  (show 0 ≤ p0.toInt from by first | exact hrg.2.2 | omega) (show p0.toInt < (pf 13).toInt from by first | exact oz_7319c2f99d g1 hrg.2.1 | omega) (show (pf 13).toInt ≤ 2100 from by first | exact g2 | omega) htk (FsI.le (N' := (pf 13).toInt) hfs (by first | with_reducible rfl | with_reducible assumption | omega)) _) hT (pr := []) (pcs := [wdP cs h r g tf ta pf na ma210 wa cf211 ca ef ea xf xa]) hw px_X.tt (px_recv hT hw 0 0 rfl rfl rfl) m13_9 m13_6 m13_8 ms_12_15 m1_21 q_Mpg_first ⟨show 0 + 1 ≤ (4 * (d + 1) + 12) from by first | with_reducible rfl | with_reducible assumption | omega, show 8 + (2 + 11) + 0 ≤ (200 * (d + 1) + 420) from by first | with_reducible rfl | with_reducible assumption | omega⟩ hl.1 rfl (Nat.le_of_ble_eq_true rfl) d_Mpg_check_319 ⟨Nat.le_of_ble_eq_true rfl, Nat.le_of_ble_eq_true rfl⟩) hw hA (fun v257 p256 H locs hp256 hw => ?_)
          obtain ⟨rfl, e258, e259⟩ := hp256
          have e258 : 0 ≤ v257.toInt := e258
          have e259 : v257.toInt < (tf 6).toInt := e259
          have hw : pw D A s.heap H locs [wdP cs h r g tf ta pf na ma210 wa cf211 ca ef ea xf xa] := hw
          have lv257 := Int32.le_toInt v257
          have uv257 := Int32.toInt_lt v257
          refine px_callv (pr := []) (px_runV (As := [.int 3, .int v257]) (rest := []) S (c_mp_bad l D cs h r g tf ta pf na ma210 wa ca ef ea xf xa cf211 3 v257  (show 1 ≤ (3 : Int) from by first | decide | omega) (show 0 ≤ v257.toInt from by first | exact e258 | omega) (show v257.toInt < (tf 6).toInt from by first | exact e259 | omega) htk hwr _) hT (pr := []) (pcs := [wdP cs h r g tf ta pf na ma210 wa cf211 ca ef ea xf xa]) hw px_X.tt (px_recv hT hw 0 0 rfl rfl rfl) m12_173 m12_170 m12_172 ms_11_12 m1_21 q_Mpg_bad ⟨show 0 + 1 ≤ (4 * (d + 1) + 12) from by first | with_reducible rfl | with_reducible assumption | omega, show 8 + (3 + 11) + 0 ≤ (200 * (d + 1) + 420) from by first | with_reducible rfl | with_reducible assumption | omega⟩ hl.1 rfl (Nat.le_of_ble_eq_true rfl) d_Mpg_check_322 ⟨Nat.le_of_ble_eq_true rfl, Nat.le_of_ble_eq_true rfl⟩) hw hA (fun p262 H locs hp262 hw => ?_)
          obtain ⟨cf261, rfl, e264, e265, e266, e267, e268, e269, e270, e271, e272, e273, e274, e275, e276, e277, e278, e279, e280, e281, e282⟩ := hp262
          have e264 : KpE cf211 cf261 := e264
          have hke := (hke).tr e264
          have hkz_e264 := e264.2
          have hzt_p0 := Zr.kp hzt_p0 e264 id
          have e265 : WrV cf261 (tf 6).toInt := e265
          have hwr := e265
          have hw0_e265 := hwr.1
          have e266 : 1 ≤ (cf261 30).toInt := e266
          have e267 : (cf261 33).toInt = (cf211 33).toInt := e267
          have e268 : (cf261 38).toInt = (cf211 38).toInt := e268
          have e269 : (cf261 48).toInt = (cf211 48).toInt := e269
          have e270 : (cf261 46).toInt = (cf211 46).toInt := e270
          have e271 : (cf261 47).toInt = (cf211 47).toInt := e271
          have e272 : (cf261 57).toInt = (cf211 57).toInt := e272
          have e273 : (cf261 37).toInt = (cf211 37).toInt := e273
          have e274 : (cf261 42).toInt = (cf211 42).toInt := e274
          have e275 : (cf261 43).toInt = (cf211 43).toInt := e275
          have e276 : (cf261 44).toInt = (cf211 44).toInt := e276
          have e277 : (cf261 45).toInt = (cf211 45).toInt := e277
          have e278 : (cf261 54).toInt = (cf211 54).toInt := e278
          have e279 : (cf261 55).toInt = (cf211 55).toInt := e279
          have e280 : (cf261 58).toInt = (cf211 58).toInt := e280
          have e281 : (cf261 59).toInt = (cf211 59).toInt := e281
          have e282 : (cf261 41).toInt = (cf211 41).toInt := e282
          have hw : pw D A s.heap H locs [wdP cs h r g tf ta pf na ma210 wa cf261 ca ef ea xf xa] := hw
          refine lv_goto (tgt := 348) S.x S.b d_Mpg_check_325 (by decide) ?_
          refine lv_iload_n S.x S.b d_Mpg_check_348 rfl (lv_at hl 0 rfl) ?_
          exact px_iret (v := v213) S hr rfl hlk hAe hw (Nat.le_of_ble_eq_true rfl) (Nat.le_of_ble_eq_true rfl) (⟨ma210, cf261, rfl, (show KpE cf cf261 from hke), (show WrV cf261 (tf 6).toInt from hwr), (show (cf261 33).toInt = (cf 33).toInt from by first | exact oz_1687f4cc65 e216 e267 | omega), (show (cf261 38).toInt = (cf 38).toInt from by first | exact oz_1687f4cc65 e217 e268 | omega), (show (cf261 48).toInt = (cf 48).toInt from by first | exact oz_1687f4cc65 e218 e269 | omega), (show (cf261 46).toInt = (cf 46).toInt from by first | exact oz_1687f4cc65 e219 e270 | omega), (show (cf261 47).toInt = (cf 47).toInt from by first | exact oz_1687f4cc65 e220 e271 | omega), (show (cf261 57).toInt = (cf 57).toInt from by first | exact oz_1687f4cc65 e221 e272 | omega), (show Ann na ma0 ma210 from han), (show FrC lo hi ma ma210 from hfc), (show 0 ≤ v213.toInt from by first | exact e224 | omega), (show v213.toInt ≤ 4 from by first | exact oz_39eeb43c3f nc255 | omega), (show NmJ ta ca na ma210 kn p0 v213.toInt from (fun _ => hnmo)), (show ZTy cf261 (Gk ta ca na ma0 ns ys nf) na ma210 lo hi p0 v213.toInt from (zr_no (by first | with_reducible rfl | with_reducible assumption | omega))), (show ZNm cf261 p1.toInt v213.toInt from (zr_no (by first | with_reducible rfl | with_reducible assumption | omega)))⟩) d_Mpg_check_349
        · have nc255 : ¬ v213.toInt = (2 : Int) := mt (i_eq (x := v213) (y := 2)).mpr c255
          refine lv_iload_n S.x S.b d_Mpg_check_310 rfl (lv_at hl 0 rfl) ?_
          refine lv_iconst (v := 3) S.x S.b d_Mpg_check_311 (by decide) ?_
          refine lv_icmp_ne (tgt := 328) S.x S.b d_Mpg_check_312 (by decide) (fun c283 => ?_) (fun c283 => ?_)
          · have nc283 : ¬ v213.toInt = (3 : Int) := mt (i_eq (x := v213) (y := 3)).mpr c283
            refine lv_iload_n S.x S.b d_Mpg_check_328 rfl (lv_at hl 3 rfl) ?_
            refine lv_if_eq (tgt := 348) S.x S.b d_Mpg_check_329 (by decide) (fun c284 => ?_) (fun c284 => ?_)
            · have nc284 : p1.toInt = (0 : Int) := (i_eq (x := p1) (y := 0)).mp c284
              refine lv_iload_n S.x S.b d_Mpg_check_348 rfl (lv_at hl 0 rfl) ?_
              exact px_iret (v := v213) S hr rfl hlk hAe hw (Nat.le_of_ble_eq_true rfl) (Nat.le_of_ble_eq_true rfl) (⟨ma210, cf211, rfl, (show KpE cf cf211 from hke), (show WrV cf211 (tf 6).toInt from hwr), (show (cf211 33).toInt = (cf 33).toInt from by first | exact e216 | omega), (show (cf211 38).toInt = (cf 38).toInt from by first | exact e217 | omega), (show (cf211 48).toInt = (cf 48).toInt from by first | exact e218 | omega), (show (cf211 46).toInt = (cf 46).toInt from by first | exact e219 | omega), (show (cf211 47).toInt = (cf 47).toInt from by first | exact e220 | omega), (show (cf211 57).toInt = (cf 57).toInt from by first | exact e221 | omega), (show Ann na ma0 ma210 from han), (show FrC lo hi ma ma210 from hfc), (show 0 ≤ v213.toInt from by first | exact e224 | omega), (show v213.toInt ≤ 4 from by first | exact oz_05bb820b9b e225 | omega), (show NmJ ta ca na ma210 kn p0 v213.toInt from (fun _ => hnmo)), (show ZTy cf211 (Gk ta ca na ma0 ns ys nf) na ma210 lo hi p0 v213.toInt from hzt_p0), (show ZNm cf211 p1.toInt v213.toInt from (zty_num (G := (Gk ta ca na ma0 ns ys nf)) (na := na) (ma := ma210) (lo := lo) (hi := hi) (n := p0) hzt_p0 (by first | with_reducible rfl | with_reducible assumption | omega)))⟩) d_Mpg_check_349
            · have nc284 : ¬ p1.toInt = (0 : Int) := mt (i_eq (x := p1) (y := 0)).mpr c284
              refine lv_iload_n S.x S.b d_Mpg_check_332 rfl (lv_at hl 0 rfl) ?_
              refine lv_iconst (v := 4) S.x S.b d_Mpg_check_333 (by decide) ?_
              refine lv_icmp_ne (tgt := 348) S.x S.b d_Mpg_check_334 (by decide) (fun c285 => ?_) (fun c285 => ?_)
              · have nc285 : ¬ v213.toInt = (4 : Int) := mt (i_eq (x := v213) (y := 4)).mpr c285
                refine lv_iload_n S.x S.b d_Mpg_check_348 rfl (lv_at hl 0 rfl) ?_
                exact px_iret (v := v213) S hr rfl hlk hAe hw (Nat.le_of_ble_eq_true rfl) (Nat.le_of_ble_eq_true rfl) (⟨ma210, cf211, rfl, (show KpE cf cf211 from hke), (show WrV cf211 (tf 6).toInt from hwr), (show (cf211 33).toInt = (cf 33).toInt from by first | exact e216 | omega), (show (cf211 38).toInt = (cf 38).toInt from by first | exact e217 | omega), (show (cf211 48).toInt = (cf 48).toInt from by first | exact e218 | omega), (show (cf211 46).toInt = (cf 46).toInt from by first | exact e219 | omega), (show (cf211 47).toInt = (cf 47).toInt from by first | exact e220 | omega), (show (cf211 57).toInt = (cf 57).toInt from by first | exact e221 | omega), (show Ann na ma0 ma210 from han), (show FrC lo hi ma ma210 from hfc), (show 0 ≤ v213.toInt from by first | exact e224 | omega), (show v213.toInt ≤ 4 from by first | exact oz_05bb820b9b e225 | omega), (show NmJ ta ca na ma210 kn p0 v213.toInt from (fun _ => hnmo)), (show ZTy cf211 (Gk ta ca na ma0 ns ys nf) na ma210 lo hi p0 v213.toInt from hzt_p0), (show ZNm cf211 p1.toInt v213.toInt from (zty_num (G := (Gk ta ca na ma0 ns ys nf)) (na := na) (ma := ma210) (lo := lo) (hi := hi) (n := p0) hzt_p0 (by first | with_reducible rfl | with_reducible assumption | omega)))⟩) d_Mpg_check_349
              · have nc285 : v213.toInt = (4 : Int) := (i_eq (x := v213) (y := 4)).mp c285
                refine lv_aload_n S.x S.b d_Mpg_check_337 rfl (lv_at hl 1 rfl) ?_
                refine lv_iconst (v := 5) S.x S.b d_Mpg_check_338 (by decide) ?_
                refine lv_aload_n S.x S.b d_Mpg_check_339 rfl (lv_at hl 1 rfl) ?_
                refine px_get S k_Mpg hT hw 0 0 15 (v := .ref (r 15)) rfl rfl rfl (by decide) m9_239 d_Mpg_check_340 ?_
                refine lv_iload_n S.x S.b d_Mpg_check_343 rfl (lv_at hl 2 rfl) ?_
                refine px_iald S hT hw 0 11 (n := 2100) (f := (na 15)) rfl gp_15 (x := p0) (vp_in_iff.mpr (by first | exact oz_a7e05de1cd hrg.2.2 hrg.2.1 g1 g2 | (constructor <;> omega))) d_Mpg_check_344 ?_
                refine lv_topi (fun z286 ez286 => ?_)
                have lz286 := Int32.le_toInt z286
                have uz286 := Int32.toInt_lt z286
                have rz286 := EcV.tok hec_p0 ez286
                refine px_callv (pr := []) (px_runV (As := [.int 5, .int z286]) (rest := []) S (c_mp_bad l D cs h r g tf ta pf na ma210 wa ca ef ea xf xa cf211 5 z286  (show 1 ≤ (5 : Int) from by first | decide | omega) (show 0 ≤ z286.toInt from by first | exact rz286.1 | omega) (show z286.toInt < (tf 6).toInt from by first | exact oz_7fe81129bf rz286.2 | omega) htk hwr _) hT (pr := []) (pcs := [wdP cs h r g tf ta pf na ma210 wa cf211 ca ef ea xf xa]) hw px_X.tt (px_recv hT hw 0 0 rfl rfl rfl) m12_173 m12_170 m12_172 ms_11_12 m1_21 q_Mpg_bad ⟨show 0 + 1 ≤ (4 * (d + 1) + 12) from by first | with_reducible rfl | with_reducible assumption | omega, show 8 + (3 + 11) + 0 ≤ (200 * (d + 1) + 420) from by first | with_reducible rfl | with_reducible assumption | omega⟩ hl.1 rfl (Nat.le_of_ble_eq_true rfl) d_Mpg_check_345 ⟨Nat.le_of_ble_eq_true rfl, Nat.le_of_ble_eq_true rfl⟩) hw hA (fun p289 H locs hp289 hw => ?_)
                obtain ⟨cf288, rfl, e291, e292, e293, e294, e295, e296, e297, e298, e299, e300, e301, e302, e303, e304, e305, e306, e307, e308, e309⟩ := hp289
                have e291 : KpE cf211 cf288 := e291
                have hke := (hke).tr e291
                have hkz_e291 := e291.2
                have hzt_p0 := Zr.kp hzt_p0 e291 id
                have e292 : WrV cf288 (tf 6).toInt := e292
                have hwr := e292
                have hw0_e292 := hwr.1
                have e293 : 1 ≤ (cf288 30).toInt := e293
                have e294 : (cf288 33).toInt = (cf211 33).toInt := e294
                have e295 : (cf288 38).toInt = (cf211 38).toInt := e295
                have e296 : (cf288 48).toInt = (cf211 48).toInt := e296
                have e297 : (cf288 46).toInt = (cf211 46).toInt := e297
                have e298 : (cf288 47).toInt = (cf211 47).toInt := e298
                have e299 : (cf288 57).toInt = (cf211 57).toInt := e299
                have e300 : (cf288 37).toInt = (cf211 37).toInt := e300
                have e301 : (cf288 42).toInt = (cf211 42).toInt := e301
                have e302 : (cf288 43).toInt = (cf211 43).toInt := e302
                have e303 : (cf288 44).toInt = (cf211 44).toInt := e303
                have e304 : (cf288 45).toInt = (cf211 45).toInt := e304
                have e305 : (cf288 54).toInt = (cf211 54).toInt := e305
                have e306 : (cf288 55).toInt = (cf211 55).toInt := e306
                have e307 : (cf288 58).toInt = (cf211 58).toInt := e307
                have e308 : (cf288 59).toInt = (cf211 59).toInt := e308
                have e309 : (cf288 41).toInt = (cf211 41).toInt := e309
                have hw : pw D A s.heap H locs [wdP cs h r g tf ta pf na ma210 wa cf288 ca ef ea xf xa] := hw
                refine lv_iload_n S.x S.b d_Mpg_check_348 rfl (lv_at hl 0 rfl) ?_
                exact px_iret (v := v213) S hr rfl hlk hAe hw (Nat.le_of_ble_eq_true rfl) (Nat.le_of_ble_eq_true rfl) (⟨ma210, cf288, rfl, (show KpE cf cf288 from hke), (show WrV cf288 (tf 6).toInt from hwr), (show (cf288 33).toInt = (cf 33).toInt from by first | exact oz_1687f4cc65 e216 e294 | omega), (show (cf288 38).toInt = (cf 38).toInt from by first | exact oz_1687f4cc65 e217 e295 | omega), (show (cf288 48).toInt = (cf 48).toInt from by first | exact oz_1687f4cc65 e218 e296 | omega), (show (cf288 46).toInt = (cf 46).toInt from by first | exact oz_1687f4cc65 e219 e297 | omega), (show (cf288 47).toInt = (cf 47).toInt from by first | exact oz_1687f4cc65 e220 e298 | omega), (show (cf288 57).toInt = (cf 57).toInt from by first | exact oz_1687f4cc65 e221 e299 | omega), (show Ann na ma0 ma210 from han), (show FrC lo hi ma ma210 from hfc), (show 0 ≤ v213.toInt from by first | exact e224 | omega), (show v213.toInt ≤ 4 from by first | exact oz_05bb820b9b e225 | omega), (show NmJ ta ca na ma210 kn p0 v213.toInt from (fun _ => hnmo)), (show ZTy cf288 (Gk ta ca na ma0 ns ys nf) na ma210 lo hi p0 v213.toInt from (zr_no (by first | with_reducible rfl | with_reducible assumption | omega))), (show ZNm cf288 p1.toInt v213.toInt from (zr_no (by first | with_reducible rfl | with_reducible assumption | omega)))⟩) d_Mpg_check_349
          · have nc283 : v213.toInt = (3 : Int) := (i_eq (x := v213) (y := 3)).mp c283
            refine lv_aload_n S.x S.b d_Mpg_check_315 rfl (lv_at hl 1 rfl) ?_
            refine lv_iconst (v := 3) S.x S.b d_Mpg_check_316 (by decide) ?_
            refine lv_aload_n S.x S.b d_Mpg_check_317 rfl (lv_at hl 1 rfl) ?_
            refine lv_iload_n S.x S.b d_Mpg_check_318 rfl (lv_at hl 2 rfl) ?_
            refine px_calli (pr := []) (px_runV (As := [.int p0]) (rest := [.int 3, .ref h]) S (c_mp_first l D cs h r g tf ta pf na ma210 wa cf211 ca ef ea xf xa p0  (show 0 ≤ p0.toInt from by first | exact hrg.2.2 | omega) (show p0.toInt < (pf 13).toInt from by first | exact oz_7319c2f99d g1 hrg.2.1 | omega) (show (pf 13).toInt ≤ 2100 from by first | exact g2 | omega) htk (FsI.le (N' := (pf 13).toInt) hfs (by first | with_reducible rfl | with_reducible assumption | omega)) _) hT (pr := []) (pcs := [wdP cs h r g tf ta pf na ma210 wa cf211 ca ef ea xf xa]) hw px_X.tt (px_recv hT hw 0 0 rfl rfl rfl) m13_9 m13_6 m13_8 ms_12_15 m1_21 q_Mpg_first ⟨show 0 + 1 ≤ (4 * (d + 1) + 12) from by first | with_reducible rfl | with_reducible assumption | omega, show 8 + (2 + 11) + 0 ≤ (200 * (d + 1) + 420) from by first | with_reducible rfl | with_reducible assumption | omega⟩ hl.1 rfl (Nat.le_of_ble_eq_true rfl) d_Mpg_check_319 ⟨Nat.le_of_ble_eq_true rfl, Nat.le_of_ble_eq_true rfl⟩) hw hA (fun v311 p310 H locs hp310 hw => ?_)
            obtain ⟨rfl, e312, e313⟩ := hp310
            have e312 : 0 ≤ v311.toInt := e312
            have e313 : v311.toInt < (tf 6).toInt := e313
            have hw : pw D A s.heap H locs [wdP cs h r g tf ta pf na ma210 wa cf211 ca ef ea xf xa] := hw
            have lv311 := Int32.le_toInt v311
            have uv311 := Int32.toInt_lt v311
            refine px_callv (pr := []) (px_runV (As := [.int 3, .int v311]) (rest := []) S (c_mp_bad l D cs h r g tf ta pf na ma210 wa ca ef ea xf xa cf211 3 v311  (show 1 ≤ (3 : Int) from by first | decide | omega) (show 0 ≤ v311.toInt from by first | exact e312 | omega) (show v311.toInt < (tf 6).toInt from by first | exact e313 | omega) htk hwr _) hT (pr := []) (pcs := [wdP cs h r g tf ta pf na ma210 wa cf211 ca ef ea xf xa]) hw px_X.tt (px_recv hT hw 0 0 rfl rfl rfl) m12_173 m12_170 m12_172 ms_11_12 m1_21 q_Mpg_bad ⟨show 0 + 1 ≤ (4 * (d + 1) + 12) from by first | with_reducible rfl | with_reducible assumption | omega, show 8 + (3 + 11) + 0 ≤ (200 * (d + 1) + 420) from by first | with_reducible rfl | with_reducible assumption | omega⟩ hl.1 rfl (Nat.le_of_ble_eq_true rfl) d_Mpg_check_322 ⟨Nat.le_of_ble_eq_true rfl, Nat.le_of_ble_eq_true rfl⟩) hw hA (fun p316 H locs hp316 hw => ?_)
            obtain ⟨cf315, rfl, e318, e319, e320, e321, e322, e323, e324, e325, e326, e327, e328, e329, e330, e331, e332, e333, e334, e335, e336⟩ := hp316
            have e318 : KpE cf211 cf315 := e318
            have hke := (hke).tr e318
            have hkz_e318 := e318.2
            have hzt_p0 := Zr.kp hzt_p0 e318 id
            have e319 : WrV cf315 (tf 6).toInt := e319
            have hwr := e319
            have hw0_e319 := hwr.1
            have e320 : 1 ≤ (cf315 30).toInt := e320
            have e321 : (cf315 33).toInt = (cf211 33).toInt := e321
            have e322 : (cf315 38).toInt = (cf211 38).toInt := e322
            have e323 : (cf315 48).toInt = (cf211 48).toInt := e323
            have e324 : (cf315 46).toInt = (cf211 46).toInt := e324
            have e325 : (cf315 47).toInt = (cf211 47).toInt := e325
            have e326 : (cf315 57).toInt = (cf211 57).toInt := e326
            have e327 : (cf315 37).toInt = (cf211 37).toInt := e327
            have e328 : (cf315 42).toInt = (cf211 42).toInt := e328
            have e329 : (cf315 43).toInt = (cf211 43).toInt := e329
            have e330 : (cf315 44).toInt = (cf211 44).toInt := e330
            have e331 : (cf315 45).toInt = (cf211 45).toInt := e331
            have e332 : (cf315 54).toInt = (cf211 54).toInt := e332
            have e333 : (cf315 55).toInt = (cf211 55).toInt := e333
            have e334 : (cf315 58).toInt = (cf211 58).toInt := e334
            have e335 : (cf315 59).toInt = (cf211 59).toInt := e335
            have e336 : (cf315 41).toInt = (cf211 41).toInt := e336
            have hw : pw D A s.heap H locs [wdP cs h r g tf ta pf na ma210 wa cf315 ca ef ea xf xa] := hw
            refine lv_goto (tgt := 348) S.x S.b d_Mpg_check_325 (by decide) ?_
            refine lv_iload_n S.x S.b d_Mpg_check_348 rfl (lv_at hl 0 rfl) ?_
            exact px_iret (v := v213) S hr rfl hlk hAe hw (Nat.le_of_ble_eq_true rfl) (Nat.le_of_ble_eq_true rfl) (⟨ma210, cf315, rfl, (show KpE cf cf315 from hke), (show WrV cf315 (tf 6).toInt from hwr), (show (cf315 33).toInt = (cf 33).toInt from by first | exact oz_1687f4cc65 e216 e321 | omega), (show (cf315 38).toInt = (cf 38).toInt from by first | exact oz_1687f4cc65 e217 e322 | omega), (show (cf315 48).toInt = (cf 48).toInt from by first | exact oz_1687f4cc65 e218 e323 | omega), (show (cf315 46).toInt = (cf 46).toInt from by first | exact oz_1687f4cc65 e219 e324 | omega), (show (cf315 47).toInt = (cf 47).toInt from by first | exact oz_1687f4cc65 e220 e325 | omega), (show (cf315 57).toInt = (cf 57).toInt from by first | exact oz_1687f4cc65 e221 e326 | omega), (show Ann na ma0 ma210 from han), (show FrC lo hi ma ma210 from hfc), (show 0 ≤ v213.toInt from by first | exact e224 | omega), (show v213.toInt ≤ 4 from by first | exact oz_05bb820b9b e225 | omega), (show NmJ ta ca na ma210 kn p0 v213.toInt from (fun _ => hnmo)), (show ZTy cf315 (Gk ta ca na ma0 ns ys nf) na ma210 lo hi p0 v213.toInt from (zr_no (by first | with_reducible rfl | with_reducible assumption | omega))), (show ZNm cf315 p1.toInt v213.toInt from (zr_no (by first | with_reducible rfl | with_reducible assumption | omega)))⟩) d_Mpg_check_349
    · simp only [List.mem_cons, List.not_mem_nil, or_false] at c200
      refine lv_aload_n S.x S.b d_Mpg_check_68 rfl (lv_at hl 1 rfl) ?_
      refine lv_iload_n S.x S.b d_Mpg_check_69 rfl (lv_at hl 2 rfl) ?_
      refine px_calli (pr := []) (px_runV (As := [.int p0]) (rest := []) S (c_mp_checkCall l D cs ma0 ys ns nf kn d lo hi h r g tf ta pf na wa ca ef ea xf xa ma cf p0  (show 0 ≤ lo from by first | exact g0 | omega) (show hi ≤ (pf 13).toInt from by first | exact g1 | omega) (show (pf 13).toInt ≤ 2100 from by first | exact g2 | omega) (show (tf 6).toInt ≤ 2049 from by first | exact g3 | omega) (show (cf 33).toInt = kn from by first | exact g4 | omega) (show 0 ≤ kn from by first | exact g5 | omega) (show (cf 48).toInt = ns from by first | exact g6 | omega) (show (cf 38).toInt = nf from by first | exact g7 | omega) (show 0 ≤ nf from by first | exact g8 | omega) (show (na 14 p0.toNatClampNeg).toInt = 3 from by first | with_reducible rfl | with_reducible assumption | omega) htk (FsI.le (N' := (pf 13).toInt) hfs (by first | with_reducible rfl | with_reducible assumption | omega)) hwr (KnT.eq hkt (by first | with_reducible rfl | with_reducible assumption | omega)) (FnT.eq hft (by first | with_reducible rfl | with_reducible assumption | omega)) hks hfp han hec_p0 hLC _) hT (pr := []) (pcs := [wdP cs h r g tf ta pf na ma wa cf ca ef ea xf xa]) hw (oX_call (P := (fun A U H => (oP A g U H))) (pr := []) oG_P hw hA hP) (px_recv hT hw 0 0 rfl rfl rfl) m12_225 m12_222 m12_224 ms_12_9 m1_21 q_Mpg_checkCall ⟨show (4 * d + 14) + 1 ≤ (4 * (d + 1) + 12) from by first | with_reducible rfl | with_reducible assumption | omega, show 8 + (9 + 11) + (200 * d + 540) ≤ (200 * (d + 1) + 420) from by first | with_reducible rfl | with_reducible assumption | omega⟩ hl.1 rfl (Nat.le_of_ble_eq_true rfl) d_Mpg_check_70 ⟨Nat.le_of_ble_eq_true rfl, Nat.le_of_ble_eq_true rfl⟩) hw hA (fun v342 p341 H locs hp341 hw => ?_)
      obtain ⟨ma339, cf340, rfl, e343, e344, e345, e346, e347, e348, e349, e350, e351, e352, e353, e354, e355⟩ := hp341
      have e343 : KpE cf cf340 := e343
      have hke := (hke).tr e343
      have hkz_e343 := e343.2
      have e344 : WrV cf340 (tf 6).toInt := e344
      have hwr := e344
      have hw0_e344 := hwr.1
      have e345 : (cf340 33).toInt = (cf 33).toInt := e345
      have e346 : (cf340 38).toInt = (cf 38).toInt := e346
      have e347 : (cf340 48).toInt = (cf 48).toInt := e347
      have e348 : (cf340 46).toInt = (cf 46).toInt := e348
      have e349 : (cf340 47).toInt = (cf 47).toInt := e349
      have e350 : (cf340 57).toInt = (cf 57).toInt := e350
      have e351 : Ann na ma0 ma339 := e351
      have han := e351
      have e352 : FrC lo hi ma ma339 := e352
      have hfc := hfc.tr e352 (by first | with_reducible rfl | with_reducible assumption | omega) (by first | with_reducible rfl | with_reducible assumption | omega)
      have e353 : 0 ≤ v342.toInt := e353
      have e354 : v342.toInt ≤ 4 := e354
      have e355 : ZTy cf340 (Gk ta ca na ma0 ns ys nf) na ma339 lo hi p0 v342.toInt := e355
      have hzt_p0 := e355
      have hw : pw D A s.heap H locs [wdP cs h r g tf ta pf na ma339 wa cf340 ca ef ea xf xa] := hw
      have lv342 := Int32.le_toInt v342
      have uv342 := Int32.toInt_lt v342
      refine lv_istore_n (lv' := [(3, .int v342), (0, .ref h), (1, .int p0), (2, .int p1)]) S.x S.b d_Mpg_check_73 rfl hl (by decide) rfl (fun ls hl => ?_)
      refine lv_goto (tgt := 301) S.x S.b d_Mpg_check_74 (by decide) ?_
      refine lv_iload_n S.x S.b d_Mpg_check_301 rfl (lv_at hl 3 rfl) ?_
      refine lv_if_eq (tgt := 328) S.x S.b d_Mpg_check_302 (by decide) (fun c356 => ?_) (fun c356 => ?_)
      · have nc356 : p1.toInt = (0 : Int) := (i_eq (x := p1) (y := 0)).mp c356
        refine lv_iload_n S.x S.b d_Mpg_check_328 rfl (lv_at hl 3 rfl) ?_
        refine lv_if_eq (tgt := 348) S.x S.b d_Mpg_check_329 (by decide) (fun c357 => ?_) (fun c357 => ?_)
        · have nc357 : p1.toInt = (0 : Int) := (i_eq (x := p1) (y := 0)).mp c357
          refine lv_iload_n S.x S.b d_Mpg_check_348 rfl (lv_at hl 0 rfl) ?_
          exact px_iret (v := v342) S hr rfl hlk hAe hw (Nat.le_of_ble_eq_true rfl) (Nat.le_of_ble_eq_true rfl) (⟨ma339, cf340, rfl, (show KpE cf cf340 from hke), (show WrV cf340 (tf 6).toInt from hwr), (show (cf340 33).toInt = (cf 33).toInt from by first | exact e345 | omega), (show (cf340 38).toInt = (cf 38).toInt from by first | exact e346 | omega), (show (cf340 48).toInt = (cf 48).toInt from by first | exact e347 | omega), (show (cf340 46).toInt = (cf 46).toInt from by first | exact e348 | omega), (show (cf340 47).toInt = (cf 47).toInt from by first | exact e349 | omega), (show (cf340 57).toInt = (cf 57).toInt from by first | exact e350 | omega), (show Ann na ma0 ma339 from han), (show FrC lo hi ma ma339 from hfc), (show 0 ≤ v342.toInt from by first | exact e353 | omega), (show v342.toInt ≤ 4 from by first | exact e354 | omega), (show NmJ ta ca na ma339 kn p0 v342.toInt from (fun h => absurd h (by first | with_reducible rfl | with_reducible assumption | omega))), (show ZTy cf340 (Gk ta ca na ma0 ns ys nf) na ma339 lo hi p0 v342.toInt from hzt_p0), (show ZNm cf340 p1.toInt v342.toInt from (zty_num (G := (Gk ta ca na ma0 ns ys nf)) (na := na) (ma := ma339) (lo := lo) (hi := hi) (n := p0) hzt_p0 (by first | with_reducible rfl | with_reducible assumption | omega)))⟩) d_Mpg_check_349
        · have nc357 : ¬ p1.toInt = (0 : Int) := mt (i_eq (x := p1) (y := 0)).mpr c357
          refine lv_iload_n S.x S.b d_Mpg_check_332 rfl (lv_at hl 0 rfl) ?_
          refine lv_iconst (v := 4) S.x S.b d_Mpg_check_333 (by decide) ?_
          refine lv_icmp_ne (tgt := 348) S.x S.b d_Mpg_check_334 (by decide) (fun c358 => ?_) (fun c358 => ?_)
          · have nc358 : ¬ v342.toInt = (4 : Int) := mt (i_eq (x := v342) (y := 4)).mpr c358
            refine lv_iload_n S.x S.b d_Mpg_check_348 rfl (lv_at hl 0 rfl) ?_
            exact px_iret (v := v342) S hr rfl hlk hAe hw (Nat.le_of_ble_eq_true rfl) (Nat.le_of_ble_eq_true rfl) (⟨ma339, cf340, rfl, (show KpE cf cf340 from hke), (show WrV cf340 (tf 6).toInt from hwr), (show (cf340 33).toInt = (cf 33).toInt from by first | exact e345 | omega), (show (cf340 38).toInt = (cf 38).toInt from by first | exact e346 | omega), (show (cf340 48).toInt = (cf 48).toInt from by first | exact e347 | omega), (show (cf340 46).toInt = (cf 46).toInt from by first | exact e348 | omega), (show (cf340 47).toInt = (cf 47).toInt from by first | exact e349 | omega), (show (cf340 57).toInt = (cf 57).toInt from by first | exact e350 | omega), (show Ann na ma0 ma339 from han), (show FrC lo hi ma ma339 from hfc), (show 0 ≤ v342.toInt from by first | exact e353 | omega), (show v342.toInt ≤ 4 from by first | exact e354 | omega), (show NmJ ta ca na ma339 kn p0 v342.toInt from (fun h => absurd h (by first | with_reducible rfl | with_reducible assumption | omega))), (show ZTy cf340 (Gk ta ca na ma0 ns ys nf) na ma339 lo hi p0 v342.toInt from hzt_p0), (show ZNm cf340 p1.toInt v342.toInt from (zty_num (G := (Gk ta ca na ma0 ns ys nf)) (na := na) (ma := ma339) (lo := lo) (hi := hi) (n := p0) hzt_p0 (by first | with_reducible rfl | with_reducible assumption | omega)))⟩) d_Mpg_check_349
          · have nc358 : v342.toInt = (4 : Int) := (i_eq (x := v342) (y := 4)).mp c358
            refine lv_aload_n S.x S.b d_Mpg_check_337 rfl (lv_at hl 1 rfl) ?_
            refine lv_iconst (v := 5) S.x S.b d_Mpg_check_338 (by decide) ?_
            refine lv_aload_n S.x S.b d_Mpg_check_339 rfl (lv_at hl 1 rfl) ?_
            refine px_get S k_Mpg hT hw 0 0 15 (v := .ref (r 15)) rfl rfl rfl (by decide) m9_239 d_Mpg_check_340 ?_
            refine lv_iload_n S.x S.b d_Mpg_check_343 rfl (lv_at hl 2 rfl) ?_
            refine px_iald S hT hw 0 11 (n := 2100) (f := (na 15)) rfl gp_15 (x := p0) (vp_in_iff.mpr (by first | exact oz_a7e05de1cd hrg.2.2 hrg.2.1 g1 g2 | (constructor <;> omega))) d_Mpg_check_344 ?_
            refine lv_topi (fun z359 ez359 => ?_)
            have lz359 := Int32.le_toInt z359
            have uz359 := Int32.toInt_lt z359
            have rz359 := EcV.tok hec_p0 ez359
            refine px_callv (pr := []) (px_runV (As := [.int 5, .int z359]) (rest := []) S (c_mp_bad l D cs h r g tf ta pf na ma339 wa ca ef ea xf xa cf340 5 z359  (show 1 ≤ (5 : Int) from by first | decide | omega) (show 0 ≤ z359.toInt from by first | exact rz359.1 | omega) (show z359.toInt < (tf 6).toInt from by first | exact oz_7fe81129bf rz359.2 | omega) htk hwr _) hT (pr := []) (pcs := [wdP cs h r g tf ta pf na ma339 wa cf340 ca ef ea xf xa]) hw px_X.tt (px_recv hT hw 0 0 rfl rfl rfl) m12_173 m12_170 m12_172 ms_11_12 m1_21 q_Mpg_bad ⟨show 0 + 1 ≤ (4 * (d + 1) + 12) from by first | with_reducible rfl | with_reducible assumption | omega, show 8 + (3 + 11) + 0 ≤ (200 * (d + 1) + 420) from by first | with_reducible rfl | with_reducible assumption | omega⟩ hl.1 rfl (Nat.le_of_ble_eq_true rfl) d_Mpg_check_345 ⟨Nat.le_of_ble_eq_true rfl, Nat.le_of_ble_eq_true rfl⟩) hw hA (fun p362 H locs hp362 hw => ?_)
            obtain ⟨cf361, rfl, e364, e365, e366, e367, e368, e369, e370, e371, e372, e373, e374, e375, e376, e377, e378, e379, e380, e381, e382⟩ := hp362
            have e364 : KpE cf340 cf361 := e364
            have hke := (hke).tr e364
            have hkz_e364 := e364.2
            have hzt_p0 := Zr.kp hzt_p0 e364 id
            have e365 : WrV cf361 (tf 6).toInt := e365
            have hwr := e365
            have hw0_e365 := hwr.1
            have e366 : 1 ≤ (cf361 30).toInt := e366
            have e367 : (cf361 33).toInt = (cf340 33).toInt := e367
            have e368 : (cf361 38).toInt = (cf340 38).toInt := e368
            have e369 : (cf361 48).toInt = (cf340 48).toInt := e369
            have e370 : (cf361 46).toInt = (cf340 46).toInt := e370
            have e371 : (cf361 47).toInt = (cf340 47).toInt := e371
            have e372 : (cf361 57).toInt = (cf340 57).toInt := e372
            have e373 : (cf361 37).toInt = (cf340 37).toInt := e373
            have e374 : (cf361 42).toInt = (cf340 42).toInt := e374
            have e375 : (cf361 43).toInt = (cf340 43).toInt := e375
            have e376 : (cf361 44).toInt = (cf340 44).toInt := e376
            have e377 : (cf361 45).toInt = (cf340 45).toInt := e377
            have e378 : (cf361 54).toInt = (cf340 54).toInt := e378
            have e379 : (cf361 55).toInt = (cf340 55).toInt := e379
            have e380 : (cf361 58).toInt = (cf340 58).toInt := e380
            have e381 : (cf361 59).toInt = (cf340 59).toInt := e381
            have e382 : (cf361 41).toInt = (cf340 41).toInt := e382
            have hw : pw D A s.heap H locs [wdP cs h r g tf ta pf na ma339 wa cf361 ca ef ea xf xa] := hw
            refine lv_iload_n S.x S.b d_Mpg_check_348 rfl (lv_at hl 0 rfl) ?_
            exact px_iret (v := v342) S hr rfl hlk hAe hw (Nat.le_of_ble_eq_true rfl) (Nat.le_of_ble_eq_true rfl) (⟨ma339, cf361, rfl, (show KpE cf cf361 from hke), (show WrV cf361 (tf 6).toInt from hwr), (show (cf361 33).toInt = (cf 33).toInt from by first | exact oz_1687f4cc65 e345 e367 | omega), (show (cf361 38).toInt = (cf 38).toInt from by first | exact oz_1687f4cc65 e346 e368 | omega), (show (cf361 48).toInt = (cf 48).toInt from by first | exact oz_1687f4cc65 e347 e369 | omega), (show (cf361 46).toInt = (cf 46).toInt from by first | exact oz_1687f4cc65 e348 e370 | omega), (show (cf361 47).toInt = (cf 47).toInt from by first | exact oz_1687f4cc65 e349 e371 | omega), (show (cf361 57).toInt = (cf 57).toInt from by first | exact oz_1687f4cc65 e350 e372 | omega), (show Ann na ma0 ma339 from han), (show FrC lo hi ma ma339 from hfc), (show 0 ≤ v342.toInt from by first | exact e353 | omega), (show v342.toInt ≤ 4 from by first | exact e354 | omega), (show NmJ ta ca na ma339 kn p0 v342.toInt from (fun h => absurd h (by first | with_reducible rfl | with_reducible assumption | omega))), (show ZTy cf361 (Gk ta ca na ma0 ns ys nf) na ma339 lo hi p0 v342.toInt from (zr_no (by first | with_reducible rfl | with_reducible assumption | omega))), (show ZNm cf361 p1.toInt v342.toInt from (zr_no (by first | with_reducible rfl | with_reducible assumption | omega)))⟩) d_Mpg_check_349
      · have nc356 : ¬ p1.toInt = (0 : Int) := mt (i_eq (x := p1) (y := 0)).mpr c356
        refine lv_iload_n S.x S.b d_Mpg_check_305 rfl (lv_at hl 0 rfl) ?_
        refine lv_iconst (v := 2) S.x S.b d_Mpg_check_306 (by decide) ?_
        refine lv_icmp_eq (tgt := 315) S.x S.b d_Mpg_check_307 (by decide) (fun c383 => ?_) (fun c383 => ?_)
        · have nc383 : v342.toInt = (2 : Int) := (i_eq (x := v342) (y := 2)).mp c383
          refine lv_aload_n S.x S.b d_Mpg_check_315 rfl (lv_at hl 1 rfl) ?_
          refine lv_iconst (v := 3) S.x S.b d_Mpg_check_316 (by decide) ?_
          refine lv_aload_n S.x S.b d_Mpg_check_317 rfl (lv_at hl 1 rfl) ?_
          refine lv_iload_n S.x S.b d_Mpg_check_318 rfl (lv_at hl 2 rfl) ?_
          refine px_calli (pr := []) (px_runV (As := [.int p0]) (rest := [.int 3, .ref h]) S (c_mp_first l D cs h r g tf ta pf na ma339 wa cf340 ca ef ea xf xa p0  (show 0 ≤ p0.toInt from by first | exact hrg.2.2 | omega) (show p0.toInt < (pf 13).toInt from by first | exact oz_7319c2f99d g1 hrg.2.1 | omega) (show (pf 13).toInt ≤ 2100 from by first | exact g2 | omega) htk (FsI.le (N' := (pf 13).toInt) hfs (by first | with_reducible rfl | with_reducible assumption | omega)) _) hT (pr := []) (pcs := [wdP cs h r g tf ta pf na ma339 wa cf340 ca ef ea xf xa]) hw px_X.tt (px_recv hT hw 0 0 rfl rfl rfl) m13_9 m13_6 m13_8 ms_12_15 m1_21 q_Mpg_first ⟨show 0 + 1 ≤ (4 * (d + 1) + 12) from by first | with_reducible rfl | with_reducible assumption | omega, show 8 + (2 + 11) + 0 ≤ (200 * (d + 1) + 420) from by first | with_reducible rfl | with_reducible assumption | omega⟩ hl.1 rfl (Nat.le_of_ble_eq_true rfl) d_Mpg_check_319 ⟨Nat.le_of_ble_eq_true rfl, Nat.le_of_ble_eq_true rfl⟩) hw hA (fun v385 p384 H locs hp384 hw => ?_)
          obtain ⟨rfl, e386, e387⟩ := hp384
          have e386 : 0 ≤ v385.toInt := e386
          have e387 : v385.toInt < (tf 6).toInt := e387
          have hw : pw D A s.heap H locs [wdP cs h r g tf ta pf na ma339 wa cf340 ca ef ea xf xa] := hw
          have lv385 := Int32.le_toInt v385
          have uv385 := Int32.toInt_lt v385
          refine px_callv (pr := []) (px_runV (As := [.int 3, .int v385]) (rest := []) S (c_mp_bad l D cs h r g tf ta pf na ma339 wa ca ef ea xf xa cf340 3 v385  (show 1 ≤ (3 : Int) from by first | decide | omega) (show 0 ≤ v385.toInt from by first | exact e386 | omega) (show v385.toInt < (tf 6).toInt from by first | exact e387 | omega) htk hwr _) hT (pr := []) (pcs := [wdP cs h r g tf ta pf na ma339 wa cf340 ca ef ea xf xa]) hw px_X.tt (px_recv hT hw 0 0 rfl rfl rfl) m12_173 m12_170 m12_172 ms_11_12 m1_21 q_Mpg_bad ⟨show 0 + 1 ≤ (4 * (d + 1) + 12) from by first | with_reducible rfl | with_reducible assumption | omega, show 8 + (3 + 11) + 0 ≤ (200 * (d + 1) + 420) from by first | with_reducible rfl | with_reducible assumption | omega⟩ hl.1 rfl (Nat.le_of_ble_eq_true rfl) d_Mpg_check_322 ⟨Nat.le_of_ble_eq_true rfl, Nat.le_of_ble_eq_true rfl⟩) hw hA (fun p390 H locs hp390 hw => ?_)
          obtain ⟨cf389, rfl, e392, e393, e394, e395, e396, e397, e398, e399, e400, e401, e402, e403, e404, e405, e406, e407, e408, e409, e410⟩ := hp390
          have e392 : KpE cf340 cf389 := e392
          have hke := (hke).tr e392
          have hkz_e392 := e392.2
          have hzt_p0 := Zr.kp hzt_p0 e392 id
          have e393 : WrV cf389 (tf 6).toInt := e393
          have hwr := e393
          have hw0_e393 := hwr.1
          have e394 : 1 ≤ (cf389 30).toInt := e394
          have e395 : (cf389 33).toInt = (cf340 33).toInt := e395
          have e396 : (cf389 38).toInt = (cf340 38).toInt := e396
          have e397 : (cf389 48).toInt = (cf340 48).toInt := e397
          have e398 : (cf389 46).toInt = (cf340 46).toInt := e398
          have e399 : (cf389 47).toInt = (cf340 47).toInt := e399
          have e400 : (cf389 57).toInt = (cf340 57).toInt := e400
          have e401 : (cf389 37).toInt = (cf340 37).toInt := e401
          have e402 : (cf389 42).toInt = (cf340 42).toInt := e402
          have e403 : (cf389 43).toInt = (cf340 43).toInt := e403
          have e404 : (cf389 44).toInt = (cf340 44).toInt := e404
          have e405 : (cf389 45).toInt = (cf340 45).toInt := e405
          have e406 : (cf389 54).toInt = (cf340 54).toInt := e406
          have e407 : (cf389 55).toInt = (cf340 55).toInt := e407
          have e408 : (cf389 58).toInt = (cf340 58).toInt := e408
          have e409 : (cf389 59).toInt = (cf340 59).toInt := e409
          have e410 : (cf389 41).toInt = (cf340 41).toInt := e410
          have hw : pw D A s.heap H locs [wdP cs h r g tf ta pf na ma339 wa cf389 ca ef ea xf xa] := hw
          refine lv_goto (tgt := 348) S.x S.b d_Mpg_check_325 (by decide) ?_
          refine lv_iload_n S.x S.b d_Mpg_check_348 rfl (lv_at hl 0 rfl) ?_
          exact px_iret (v := v342) S hr rfl hlk hAe hw (Nat.le_of_ble_eq_true rfl) (Nat.le_of_ble_eq_true rfl) (⟨ma339, cf389, rfl, (show KpE cf cf389 from hke), (show WrV cf389 (tf 6).toInt from hwr), (show (cf389 33).toInt = (cf 33).toInt from by first | exact oz_1687f4cc65 e345 e395 | omega), (show (cf389 38).toInt = (cf 38).toInt from by first | exact oz_1687f4cc65 e346 e396 | omega), (show (cf389 48).toInt = (cf 48).toInt from by first | exact oz_1687f4cc65 e347 e397 | omega), (show (cf389 46).toInt = (cf 46).toInt from by first | exact oz_1687f4cc65 e348 e398 | omega), (show (cf389 47).toInt = (cf 47).toInt from by first | exact oz_1687f4cc65 e349 e399 | omega), (show (cf389 57).toInt = (cf 57).toInt from by first | exact oz_1687f4cc65 e350 e400 | omega), (show Ann na ma0 ma339 from han), (show FrC lo hi ma ma339 from hfc), (show 0 ≤ v342.toInt from by first | exact e353 | omega), (show v342.toInt ≤ 4 from by first | exact e354 | omega), (show NmJ ta ca na ma339 kn p0 v342.toInt from (fun h => absurd h (by first | with_reducible rfl | with_reducible assumption | omega))), (show ZTy cf389 (Gk ta ca na ma0 ns ys nf) na ma339 lo hi p0 v342.toInt from (zr_no (by first | with_reducible rfl | with_reducible assumption | omega))), (show ZNm cf389 p1.toInt v342.toInt from (zr_no (by first | with_reducible rfl | with_reducible assumption | omega)))⟩) d_Mpg_check_349
        · have nc383 : ¬ v342.toInt = (2 : Int) := mt (i_eq (x := v342) (y := 2)).mpr c383
          refine lv_iload_n S.x S.b d_Mpg_check_310 rfl (lv_at hl 0 rfl) ?_
          refine lv_iconst (v := 3) S.x S.b d_Mpg_check_311 (by decide) ?_
          refine lv_icmp_ne (tgt := 328) S.x S.b d_Mpg_check_312 (by decide) (fun c411 => ?_) (fun c411 => ?_)
          · have nc411 : ¬ v342.toInt = (3 : Int) := mt (i_eq (x := v342) (y := 3)).mpr c411
            refine lv_iload_n S.x S.b d_Mpg_check_328 rfl (lv_at hl 3 rfl) ?_
            refine lv_if_eq (tgt := 348) S.x S.b d_Mpg_check_329 (by decide) (fun c412 => ?_) (fun c412 => ?_)
            · have nc412 : p1.toInt = (0 : Int) := (i_eq (x := p1) (y := 0)).mp c412
              refine lv_iload_n S.x S.b d_Mpg_check_348 rfl (lv_at hl 0 rfl) ?_
              exact px_iret (v := v342) S hr rfl hlk hAe hw (Nat.le_of_ble_eq_true rfl) (Nat.le_of_ble_eq_true rfl) (⟨ma339, cf340, rfl, (show KpE cf cf340 from hke), (show WrV cf340 (tf 6).toInt from hwr), (show (cf340 33).toInt = (cf 33).toInt from by first | exact e345 | omega), (show (cf340 38).toInt = (cf 38).toInt from by first | exact e346 | omega), (show (cf340 48).toInt = (cf 48).toInt from by first | exact e347 | omega), (show (cf340 46).toInt = (cf 46).toInt from by first | exact e348 | omega), (show (cf340 47).toInt = (cf 47).toInt from by first | exact e349 | omega), (show (cf340 57).toInt = (cf 57).toInt from by first | exact e350 | omega), (show Ann na ma0 ma339 from han), (show FrC lo hi ma ma339 from hfc), (show 0 ≤ v342.toInt from by first | exact e353 | omega), (show v342.toInt ≤ 4 from by first | exact e354 | omega), (show NmJ ta ca na ma339 kn p0 v342.toInt from (fun h => absurd h (by first | with_reducible rfl | with_reducible assumption | omega))), (show ZTy cf340 (Gk ta ca na ma0 ns ys nf) na ma339 lo hi p0 v342.toInt from hzt_p0), (show ZNm cf340 p1.toInt v342.toInt from (zty_num (G := (Gk ta ca na ma0 ns ys nf)) (na := na) (ma := ma339) (lo := lo) (hi := hi) (n := p0) hzt_p0 (by first | with_reducible rfl | with_reducible assumption | omega)))⟩) d_Mpg_check_349
            · have nc412 : ¬ p1.toInt = (0 : Int) := mt (i_eq (x := p1) (y := 0)).mpr c412
              refine lv_iload_n S.x S.b d_Mpg_check_332 rfl (lv_at hl 0 rfl) ?_
              refine lv_iconst (v := 4) S.x S.b d_Mpg_check_333 (by decide) ?_
              refine lv_icmp_ne (tgt := 348) S.x S.b d_Mpg_check_334 (by decide) (fun c413 => ?_) (fun c413 => ?_)
              · have nc413 : ¬ v342.toInt = (4 : Int) := mt (i_eq (x := v342) (y := 4)).mpr c413
                refine lv_iload_n S.x S.b d_Mpg_check_348 rfl (lv_at hl 0 rfl) ?_
                exact px_iret (v := v342) S hr rfl hlk hAe hw (Nat.le_of_ble_eq_true rfl) (Nat.le_of_ble_eq_true rfl) (⟨ma339, cf340, rfl, (show KpE cf cf340 from hke), (show WrV cf340 (tf 6).toInt from hwr), (show (cf340 33).toInt = (cf 33).toInt from by first | exact e345 | omega), (show (cf340 38).toInt = (cf 38).toInt from by first | exact e346 | omega), (show (cf340 48).toInt = (cf 48).toInt from by first | exact e347 | omega), (show (cf340 46).toInt = (cf 46).toInt from by first | exact e348 | omega), (show (cf340 47).toInt = (cf 47).toInt from by first | exact e349 | omega), (show (cf340 57).toInt = (cf 57).toInt from by first | exact e350 | omega), (show Ann na ma0 ma339 from han), (show FrC lo hi ma ma339 from hfc), (show 0 ≤ v342.toInt from by first | exact e353 | omega), (show v342.toInt ≤ 4 from by first | exact e354 | omega), (show NmJ ta ca na ma339 kn p0 v342.toInt from (fun h => absurd h (by first | with_reducible rfl | with_reducible assumption | omega))), (show ZTy cf340 (Gk ta ca na ma0 ns ys nf) na ma339 lo hi p0 v342.toInt from hzt_p0), (show ZNm cf340 p1.toInt v342.toInt from (zty_num (G := (Gk ta ca na ma0 ns ys nf)) (na := na) (ma := ma339) (lo := lo) (hi := hi) (n := p0) hzt_p0 (by first | with_reducible rfl | with_reducible assumption | omega)))⟩) d_Mpg_check_349
              · have nc413 : v342.toInt = (4 : Int) := (i_eq (x := v342) (y := 4)).mp c413
                refine lv_aload_n S.x S.b d_Mpg_check_337 rfl (lv_at hl 1 rfl) ?_
                refine lv_iconst (v := 5) S.x S.b d_Mpg_check_338 (by decide) ?_
                refine lv_aload_n S.x S.b d_Mpg_check_339 rfl (lv_at hl 1 rfl) ?_
                refine px_get S k_Mpg hT hw 0 0 15 (v := .ref (r 15)) rfl rfl rfl (by decide) m9_239 d_Mpg_check_340 ?_
                refine lv_iload_n S.x S.b d_Mpg_check_343 rfl (lv_at hl 2 rfl) ?_
                refine px_iald S hT hw 0 11 (n := 2100) (f := (na 15)) rfl gp_15 (x := p0) (vp_in_iff.mpr (by first | exact oz_a7e05de1cd hrg.2.2 hrg.2.1 g1 g2 | (constructor <;> omega))) d_Mpg_check_344 ?_
                refine lv_topi (fun z414 ez414 => ?_)
                have lz414 := Int32.le_toInt z414
                have uz414 := Int32.toInt_lt z414
                have rz414 := EcV.tok hec_p0 ez414
                refine px_callv (pr := []) (px_runV (As := [.int 5, .int z414]) (rest := []) S (c_mp_bad l D cs h r g tf ta pf na ma339 wa ca ef ea xf xa cf340 5 z414  (show 1 ≤ (5 : Int) from by first | decide | omega) (show 0 ≤ z414.toInt from by first | exact rz414.1 | omega) (show z414.toInt < (tf 6).toInt from by first | exact oz_7fe81129bf rz414.2 | omega) htk hwr _) hT (pr := []) (pcs := [wdP cs h r g tf ta pf na ma339 wa cf340 ca ef ea xf xa]) hw px_X.tt (px_recv hT hw 0 0 rfl rfl rfl) m12_173 m12_170 m12_172 ms_11_12 m1_21 q_Mpg_bad ⟨show 0 + 1 ≤ (4 * (d + 1) + 12) from by first | with_reducible rfl | with_reducible assumption | omega, show 8 + (3 + 11) + 0 ≤ (200 * (d + 1) + 420) from by first | with_reducible rfl | with_reducible assumption | omega⟩ hl.1 rfl (Nat.le_of_ble_eq_true rfl) d_Mpg_check_345 ⟨Nat.le_of_ble_eq_true rfl, Nat.le_of_ble_eq_true rfl⟩) hw hA (fun p417 H locs hp417 hw => ?_)
                obtain ⟨cf416, rfl, e419, e420, e421, e422, e423, e424, e425, e426, e427, e428, e429, e430, e431, e432, e433, e434, e435, e436, e437⟩ := hp417
                have e419 : KpE cf340 cf416 := e419
                have hke := (hke).tr e419
                have hkz_e419 := e419.2
                have hzt_p0 := Zr.kp hzt_p0 e419 id
                have e420 : WrV cf416 (tf 6).toInt := e420
                have hwr := e420
                have hw0_e420 := hwr.1
                have e421 : 1 ≤ (cf416 30).toInt := e421
                have e422 : (cf416 33).toInt = (cf340 33).toInt := e422
                have e423 : (cf416 38).toInt = (cf340 38).toInt := e423
                have e424 : (cf416 48).toInt = (cf340 48).toInt := e424
                have e425 : (cf416 46).toInt = (cf340 46).toInt := e425
                have e426 : (cf416 47).toInt = (cf340 47).toInt := e426
                have e427 : (cf416 57).toInt = (cf340 57).toInt := e427
                have e428 : (cf416 37).toInt = (cf340 37).toInt := e428
                have e429 : (cf416 42).toInt = (cf340 42).toInt := e429
                have e430 : (cf416 43).toInt = (cf340 43).toInt := e430
                have e431 : (cf416 44).toInt = (cf340 44).toInt := e431
                have e432 : (cf416 45).toInt = (cf340 45).toInt := e432
                have e433 : (cf416 54).toInt = (cf340 54).toInt := e433
                have e434 : (cf416 55).toInt = (cf340 55).toInt := e434
                have e435 : (cf416 58).toInt = (cf340 58).toInt := e435
                have e436 : (cf416 59).toInt = (cf340 59).toInt := e436
                have e437 : (cf416 41).toInt = (cf340 41).toInt := e437
                have hw : pw D A s.heap H locs [wdP cs h r g tf ta pf na ma339 wa cf416 ca ef ea xf xa] := hw
                refine lv_iload_n S.x S.b d_Mpg_check_348 rfl (lv_at hl 0 rfl) ?_
                exact px_iret (v := v342) S hr rfl hlk hAe hw (Nat.le_of_ble_eq_true rfl) (Nat.le_of_ble_eq_true rfl) (⟨ma339, cf416, rfl, (show KpE cf cf416 from hke), (show WrV cf416 (tf 6).toInt from hwr), (show (cf416 33).toInt = (cf 33).toInt from by first | exact oz_1687f4cc65 e345 e422 | omega), (show (cf416 38).toInt = (cf 38).toInt from by first | exact oz_1687f4cc65 e346 e423 | omega), (show (cf416 48).toInt = (cf 48).toInt from by first | exact oz_1687f4cc65 e347 e424 | omega), (show (cf416 46).toInt = (cf 46).toInt from by first | exact oz_1687f4cc65 e348 e425 | omega), (show (cf416 47).toInt = (cf 47).toInt from by first | exact oz_1687f4cc65 e349 e426 | omega), (show (cf416 57).toInt = (cf 57).toInt from by first | exact oz_1687f4cc65 e350 e427 | omega), (show Ann na ma0 ma339 from han), (show FrC lo hi ma ma339 from hfc), (show 0 ≤ v342.toInt from by first | exact e353 | omega), (show v342.toInt ≤ 4 from by first | exact e354 | omega), (show NmJ ta ca na ma339 kn p0 v342.toInt from (fun h => absurd h (by first | with_reducible rfl | with_reducible assumption | omega))), (show ZTy cf416 (Gk ta ca na ma0 ns ys nf) na ma339 lo hi p0 v342.toInt from (zr_no (by first | with_reducible rfl | with_reducible assumption | omega))), (show ZNm cf416 p1.toInt v342.toInt from (zr_no (by first | with_reducible rfl | with_reducible assumption | omega)))⟩) d_Mpg_check_349
          · have nc411 : v342.toInt = (3 : Int) := (i_eq (x := v342) (y := 3)).mp c411
            refine lv_aload_n S.x S.b d_Mpg_check_315 rfl (lv_at hl 1 rfl) ?_
            refine lv_iconst (v := 3) S.x S.b d_Mpg_check_316 (by decide) ?_
            refine lv_aload_n S.x S.b d_Mpg_check_317 rfl (lv_at hl 1 rfl) ?_
            refine lv_iload_n S.x S.b d_Mpg_check_318 rfl (lv_at hl 2 rfl) ?_
            refine px_calli (pr := []) (px_runV (As := [.int p0]) (rest := [.int 3, .ref h]) S (c_mp_first l D cs h r g tf ta pf na ma339 wa cf340 ca ef ea xf xa p0  (show 0 ≤ p0.toInt from by first | exact hrg.2.2 | omega) (show p0.toInt < (pf 13).toInt from by first | exact oz_7319c2f99d g1 hrg.2.1 | omega) (show (pf 13).toInt ≤ 2100 from by first | exact g2 | omega) htk (FsI.le (N' := (pf 13).toInt) hfs (by first | with_reducible rfl | with_reducible assumption | omega)) _) hT (pr := []) (pcs := [wdP cs h r g tf ta pf na ma339 wa cf340 ca ef ea xf xa]) hw px_X.tt (px_recv hT hw 0 0 rfl rfl rfl) m13_9 m13_6 m13_8 ms_12_15 m1_21 q_Mpg_first ⟨show 0 + 1 ≤ (4 * (d + 1) + 12) from by first | with_reducible rfl | with_reducible assumption | omega, show 8 + (2 + 11) + 0 ≤ (200 * (d + 1) + 420) from by first | with_reducible rfl | with_reducible assumption | omega⟩ hl.1 rfl (Nat.le_of_ble_eq_true rfl) d_Mpg_check_319 ⟨Nat.le_of_ble_eq_true rfl, Nat.le_of_ble_eq_true rfl⟩) hw hA (fun v439 p438 H locs hp438 hw => ?_)
            obtain ⟨rfl, e440, e441⟩ := hp438
            have e440 : 0 ≤ v439.toInt := e440
            have e441 : v439.toInt < (tf 6).toInt := e441
            have hw : pw D A s.heap H locs [wdP cs h r g tf ta pf na ma339 wa cf340 ca ef ea xf xa] := hw
            have lv439 := Int32.le_toInt v439
            have uv439 := Int32.toInt_lt v439
            refine px_callv (pr := []) (px_runV (As := [.int 3, .int v439]) (rest := []) S (c_mp_bad l D cs h r g tf ta pf na ma339 wa ca ef ea xf xa cf340 3 v439  (show 1 ≤ (3 : Int) from by first | decide | omega) (show 0 ≤ v439.toInt from by first | exact e440 | omega) (show v439.toInt < (tf 6).toInt from by first | exact e441 | omega) htk hwr _) hT (pr := []) (pcs := [wdP cs h r g tf ta pf na ma339 wa cf340 ca ef ea xf xa]) hw px_X.tt (px_recv hT hw 0 0 rfl rfl rfl) m12_173 m12_170 m12_172 ms_11_12 m1_21 q_Mpg_bad ⟨show 0 + 1 ≤ (4 * (d + 1) + 12) from by first | with_reducible rfl | with_reducible assumption | omega, show 8 + (3 + 11) + 0 ≤ (200 * (d + 1) + 420) from by first | with_reducible rfl | with_reducible assumption | omega⟩ hl.1 rfl (Nat.le_of_ble_eq_true rfl) d_Mpg_check_322 ⟨Nat.le_of_ble_eq_true rfl, Nat.le_of_ble_eq_true rfl⟩) hw hA (fun p444 H locs hp444 hw => ?_)
            obtain ⟨cf443, rfl, e446, e447, e448, e449, e450, e451, e452, e453, e454, e455, e456, e457, e458, e459, e460, e461, e462, e463, e464⟩ := hp444
            have e446 : KpE cf340 cf443 := e446
            have hke := (hke).tr e446
            have hkz_e446 := e446.2
            have hzt_p0 := Zr.kp hzt_p0 e446 id
            have e447 : WrV cf443 (tf 6).toInt := e447
            have hwr := e447
            have hw0_e447 := hwr.1
            have e448 : 1 ≤ (cf443 30).toInt := e448
            have e449 : (cf443 33).toInt = (cf340 33).toInt := e449
            have e450 : (cf443 38).toInt = (cf340 38).toInt := e450
            have e451 : (cf443 48).toInt = (cf340 48).toInt := e451
            have e452 : (cf443 46).toInt = (cf340 46).toInt := e452
            have e453 : (cf443 47).toInt = (cf340 47).toInt := e453
            have e454 : (cf443 57).toInt = (cf340 57).toInt := e454
            have e455 : (cf443 37).toInt = (cf340 37).toInt := e455
            have e456 : (cf443 42).toInt = (cf340 42).toInt := e456
            have e457 : (cf443 43).toInt = (cf340 43).toInt := e457
            have e458 : (cf443 44).toInt = (cf340 44).toInt := e458
            have e459 : (cf443 45).toInt = (cf340 45).toInt := e459
            have e460 : (cf443 54).toInt = (cf340 54).toInt := e460
            have e461 : (cf443 55).toInt = (cf340 55).toInt := e461
            have e462 : (cf443 58).toInt = (cf340 58).toInt := e462
            have e463 : (cf443 59).toInt = (cf340 59).toInt := e463
            have e464 : (cf443 41).toInt = (cf340 41).toInt := e464
            have hw : pw D A s.heap H locs [wdP cs h r g tf ta pf na ma339 wa cf443 ca ef ea xf xa] := hw
            refine lv_goto (tgt := 348) S.x S.b d_Mpg_check_325 (by decide) ?_
            refine lv_iload_n S.x S.b d_Mpg_check_348 rfl (lv_at hl 0 rfl) ?_
            exact px_iret (v := v342) S hr rfl hlk hAe hw (Nat.le_of_ble_eq_true rfl) (Nat.le_of_ble_eq_true rfl) (⟨ma339, cf443, rfl, (show KpE cf cf443 from hke), (show WrV cf443 (tf 6).toInt from hwr), (show (cf443 33).toInt = (cf 33).toInt from by first | exact oz_1687f4cc65 e345 e449 | omega), (show (cf443 38).toInt = (cf 38).toInt from by first | exact oz_1687f4cc65 e346 e450 | omega), (show (cf443 48).toInt = (cf 48).toInt from by first | exact oz_1687f4cc65 e347 e451 | omega), (show (cf443 46).toInt = (cf 46).toInt from by first | exact oz_1687f4cc65 e348 e452 | omega), (show (cf443 47).toInt = (cf 47).toInt from by first | exact oz_1687f4cc65 e349 e453 | omega), (show (cf443 57).toInt = (cf 57).toInt from by first | exact oz_1687f4cc65 e350 e454 | omega), (show Ann na ma0 ma339 from han), (show FrC lo hi ma ma339 from hfc), (show 0 ≤ v342.toInt from by first | exact e353 | omega), (show v342.toInt ≤ 4 from by first | exact e354 | omega), (show NmJ ta ca na ma339 kn p0 v342.toInt from (fun h => absurd h (by first | with_reducible rfl | with_reducible assumption | omega))), (show ZTy cf443 (Gk ta ca na ma0 ns ys nf) na ma339 lo hi p0 v342.toInt from (zr_no (by first | with_reducible rfl | with_reducible assumption | omega))), (show ZNm cf443 p1.toInt v342.toInt from (zr_no (by first | with_reducible rfl | with_reducible assumption | omega)))⟩) d_Mpg_check_349
    · simp only [List.mem_cons, List.not_mem_nil, or_false] at c200
      refine lv_aload_n S.x S.b d_Mpg_check_77 rfl (lv_at hl 1 rfl) ?_
      refine lv_iload_n S.x S.b d_Mpg_check_78 rfl (lv_at hl 2 rfl) ?_
      refine px_callv (pr := []) (px_runV (As := [.int p0]) (rest := []) S (c_mp_checkIndex l D cs ma0 ys ns nf kn (d + 1) lo hi h r g tf ta pf na wa ca ef ea xf xa ma cf p0  (show 0 ≤ lo from by first | exact g0 | omega) (show hi ≤ (pf 13).toInt from by first | exact g1 | omega) (show (pf 13).toInt ≤ 2100 from by first | exact g2 | omega) (show (tf 6).toInt ≤ 2049 from by first | exact g3 | omega) (show (cf 33).toInt = kn from by first | exact g4 | omega) (show 0 ≤ kn from by first | exact g5 | omega) (show (cf 48).toInt = ns from by first | exact g6 | omega) (show (cf 38).toInt = nf from by first | exact g7 | omega) (show 0 ≤ nf from by first | exact g8 | omega) (show (na 14 p0.toNatClampNeg).toInt = 4 from by first | with_reducible rfl | with_reducible assumption | omega) htk (FsI.le (N' := (pf 13).toInt) hfs (by first | with_reducible rfl | with_reducible assumption | omega)) hwr (KnT.eq hkt (by first | with_reducible rfl | with_reducible assumption | omega)) (FnT.eq hft (by first | with_reducible rfl | with_reducible assumption | omega)) hks han hec_p0 _) hT (pr := []) (pcs := [wdP cs h r g tf ta pf na ma wa cf ca ef ea xf xa]) hw (oX_call (P := (fun A U H => (oP A g U H))) (pr := []) oG_P hw hA hP) (px_recv hT hw 0 0 rfl rfl rfl) m13_21 m13_18 m13_20 ms_13_2 m1_21 q_Mpg_checkIndex ⟨show 8 + 1 ≤ (4 * (d + 1) + 12) from by first | with_reducible rfl | with_reducible assumption | omega, show 8 + (4 + 11) + 330 ≤ (200 * (d + 1) + 420) from by first | with_reducible rfl | with_reducible assumption | omega⟩ hl.1 rfl (Nat.le_of_ble_eq_true rfl) d_Mpg_check_79 ⟨Nat.le_of_ble_eq_true rfl, Nat.le_of_ble_eq_true rfl⟩) hw hA (fun p469 H locs hp469 hw => ?_)
      obtain ⟨ma467, cf468, rfl, e471, e472, e473, e474, e475, e476, e477, e478, e479, e480, e481⟩ := hp469
      have e471 : KpE cf cf468 := e471
      have hke := (hke).tr e471
      have hkz_e471 := e471.2
      have e472 : WrV cf468 (tf 6).toInt := e472
      have hwr := e472
      have hw0_e472 := hwr.1
      have e473 : (cf468 33).toInt = (cf 33).toInt := e473
      have e474 : (cf468 38).toInt = (cf 38).toInt := e474
      have e475 : (cf468 48).toInt = (cf 48).toInt := e475
      have e476 : (cf468 46).toInt = (cf 46).toInt := e476
      have e477 : (cf468 47).toInt = (cf 47).toInt := e477
      have e478 : (cf468 57).toInt = (cf 57).toInt := e478
      have e479 : Ann na ma0 ma467 := e479
      have han := e479
      have e480 : FrC lo hi ma ma467 := e480
      have hfc := hfc.tr e480 (by first | with_reducible rfl | with_reducible assumption | omega) (by first | with_reducible rfl | with_reducible assumption | omega)
      have e481 : ZSA cf468 ca ns ys ma467 p0 := e481
      have hzsa_p0 := e481
      have hw : pw D A s.heap H locs [wdP cs h r g tf ta pf na ma467 wa cf468 ca ef ea xf xa] := hw
      refine lv_aload_n S.x S.b d_Mpg_check_82 rfl (lv_at hl 1 rfl) ?_
      refine lv_aload_n S.x S.b d_Mpg_check_83 rfl (lv_at hl 1 rfl) ?_
      refine px_get S k_Mpg hT hw 0 0 17 (v := .ref (r 17)) rfl rfl rfl (by decide) m10_1 d_Mpg_check_84 ?_
      refine lv_iload_n S.x S.b d_Mpg_check_87 rfl (lv_at hl 2 rfl) ?_
      refine px_iald S hT hw 0 13 (n := 2100) (f := (na 17)) rfl gp_17 (x := p0) (vp_in_iff.mpr (by first | exact oz_a7e05de1cd hrg.2.2 hrg.2.1 g1 g2 | (constructor <;> omega))) d_Mpg_check_88 ?_
      refine lv_topi (fun z482 ez482 => ?_)
      have lz482 := Int32.le_toInt z482
      have uz482 := Int32.toInt_lt z482
      have hec_z482 := EcV.k4 hec_p0 (by first | with_reducible rfl | with_reducible assumption | omega) ez482; have hrg_z482 := EcV.rng hec_z482
      refine lv_iconst (v := 1) S.x S.b d_Mpg_check_89 (by decide) ?_
      refine px_calli (pr := []) (px_runV (As := [.int z482, .int 1]) (rest := []) S (hLC ma0 ys ns nf kn (p0.toInt + 1) hi h r g tf ta pf na wa ca ef ea xf xa ma467 cf468 z482 1 (show 0 ≤ (p0.toInt + 1) from by first | exact oz_c12c169b81 hrg.2.2 | omega) (show hi ≤ (pf 13).toInt from by first | exact g1 | omega) (show (pf 13).toInt ≤ 2100 from by first | exact g2 | omega) (show (tf 6).toInt ≤ 2049 from by first | exact g3 | omega) (show (cf468 33).toInt = kn from by first | exact oz_1687f4cc65 g4 e473 | omega) (show 0 ≤ kn from by first | exact g5 | omega) (show (cf468 48).toInt = ns from by first | exact oz_1687f4cc65 g6 e475 | omega) (show (cf468 38).toInt = nf from by first | exact oz_1687f4cc65 g7 e474 | omega) (show 0 ≤ nf from by first | exact g8 | omega) (show 0 ≤ (1 : Int) from by first | decide | omega) (show (1 : Int) ≤ 1 from by first | decide | omega) htk (FsI.le (N' := (pf 13).toInt) hfs (by first | with_reducible rfl | with_reducible assumption | omega)) hwr (KnT.eq hkt (by first | with_reducible rfl | with_reducible assumption | omega)) (FnT.eq hft (by first | with_reducible rfl | with_reducible assumption | omega)) hks hfp han hec_z482 _) hT (pr := []) (pcs := [wdP cs h r g tf ta pf na ma467 wa cf468 ca ef ea xf xa]) hw (oX_call (P := (fun A U H => (oP A g U H))) (pr := []) oG_P hw hA hP) (px_recv hT hw 0 0 rfl rfl rfl) m12_217 m12_214 m12_216 ms_12_7 m1_21 q_Mpg_check ⟨show (4 * d + 12) + 1 ≤ (4 * (d + 1) + 12) from by first | with_reducible rfl | with_reducible assumption | omega, show 8 + (8 + 11) + (200 * d + 420) ≤ (200 * (d + 1) + 420) from by first | with_reducible rfl | with_reducible assumption | omega⟩ hl.1 rfl (Nat.le_of_ble_eq_true rfl) d_Mpg_check_90 ⟨Nat.le_of_ble_eq_true rfl, Nat.le_of_ble_eq_true rfl⟩) hw hA (fun v488 p487 H locs hp487 hw => ?_)
      obtain ⟨ma485, cf486, rfl, e489, e490, e491, e492, e493, e494, e495, e496, e497, e498, e499, e500, e501, e502, e503⟩ := hp487
      have e489 : KpE cf468 cf486 := e489
      have hke := (hke).tr e489
      have hkz_e489 := e489.2
      have e490 : WrV cf486 (tf 6).toInt := e490
      have hwr := e490
      have hw0_e490 := hwr.1
      have e491 : (cf486 33).toInt = (cf468 33).toInt := e491
      have e492 : (cf486 38).toInt = (cf468 38).toInt := e492
      have e493 : (cf486 48).toInt = (cf468 48).toInt := e493
      have e494 : (cf486 46).toInt = (cf468 46).toInt := e494
      have e495 : (cf486 47).toInt = (cf468 47).toInt := e495
      have e496 : (cf486 57).toInt = (cf468 57).toInt := e496
      have e497 : Ann na ma0 ma485 := e497
      have han := e497
      have e498 : FrC (p0.toInt + 1) hi ma467 ma485 := e498
      have hfc := hfc.tr e498 (by first | with_reducible rfl | with_reducible assumption | omega) (by first | with_reducible rfl | with_reducible assumption | omega)
      have hzsa_p0 := ZSA.tr hzsa_p0 e489 e498 (by first | with_reducible rfl | with_reducible assumption | omega) (by first | with_reducible rfl | with_reducible assumption | omega)
      have e499 : 0 ≤ v488.toInt := e499
      have e500 : v488.toInt ≤ 4 := e500
      have e501 : NmJ ta ca na ma485 kn z482 v488.toInt := e501
      have hnm_z482 := e501
      have e502 : ZTy cf486 (Gk ta ca na ma0 ns ys nf) na ma485 (p0.toInt + 1) hi z482 v488.toInt := e502
      have hzt_z482 := e502
      have e503 : ZNm cf486 (1 : Int) v488.toInt := e503
      have hty_z482 := ZTy.num hzt_z482 e503
      have hw : pw D A s.heap H locs [wdP cs h r g tf ta pf na ma485 wa cf486 ca ef ea xf xa] := hw
      have lv488 := Int32.le_toInt v488
      have uv488 := Int32.toInt_lt v488
      refine lv_pop S.x S.b d_Mpg_check_93 rfl ?_
      refine lv_goto (tgt := 301) S.x S.b d_Mpg_check_94 (by decide) ?_
      refine lv_iload_n S.x S.b d_Mpg_check_301 rfl (lv_at hl 3 rfl) ?_
      refine lv_if_eq (tgt := 328) S.x S.b d_Mpg_check_302 (by decide) (fun c504 => ?_) (fun c504 => ?_)
      · have nc504 : p1.toInt = (0 : Int) := (i_eq (x := p1) (y := 0)).mp c504
        refine lv_iload_n S.x S.b d_Mpg_check_328 rfl (lv_at hl 3 rfl) ?_
        refine lv_if_eq (tgt := 348) S.x S.b d_Mpg_check_329 (by decide) (fun c505 => ?_) (fun c505 => ?_)
        · have nc505 : p1.toInt = (0 : Int) := (i_eq (x := p1) (y := 0)).mp c505
          refine lv_iload_n S.x S.b d_Mpg_check_348 rfl (lv_at hl 0 rfl) ?_
          exact px_iret (v := 1) S hr rfl hlk hAe hw (Nat.le_of_ble_eq_true rfl) (Nat.le_of_ble_eq_true rfl) (⟨ma485, cf486, rfl, (show KpE cf cf486 from hke), (show WrV cf486 (tf 6).toInt from hwr), (show (cf486 33).toInt = (cf 33).toInt from by first | exact oz_1687f4cc65 e473 e491 | omega), (show (cf486 38).toInt = (cf 38).toInt from by first | exact oz_1687f4cc65 e474 e492 | omega), (show (cf486 48).toInt = (cf 48).toInt from by first | exact oz_1687f4cc65 e475 e493 | omega), (show (cf486 46).toInt = (cf 46).toInt from by first | exact oz_1687f4cc65 e476 e494 | omega), (show (cf486 47).toInt = (cf 47).toInt from by first | exact oz_1687f4cc65 e477 e495 | omega), (show (cf486 57).toInt = (cf 57).toInt from by first | exact oz_1687f4cc65 e478 e496 | omega), (show Ann na ma0 ma485 from han), (show FrC lo hi ma ma485 from hfc), (show 0 ≤ (1 : Int) from by first | decide | omega), (show (1 : Int) ≤ 4 from by first | decide | omega), (show NmJ ta ca na ma485 kn p0 (1 : Int) from (fun h => absurd h (by first | with_reducible rfl | with_reducible assumption | omega))), (show ZTy cf486 (Gk ta ca na ma0 ns ys nf) na ma485 lo hi p0 (1 : Int) from (fun zz => Or.inr ⟨by first | with_reducible rfl | with_reducible assumption | omega, ty_4 hrg (by first | with_reducible rfl | with_reducible assumption | omega) (hzsa_p0 zz) ez482 ((hty_z482 zz).le (by first | with_reducible rfl | with_reducible assumption | omega) (by first | with_reducible rfl | with_reducible assumption | omega))⟩)), (show ZNm cf486 p1.toInt (1 : Int) from (zty_num (G := (Gk ta ca na ma0 ns ys nf)) (na := na) (ma := ma485) (lo := lo) (hi := hi) (n := p0) (fun zz => Or.inr ⟨by first | with_reducible rfl | with_reducible assumption | omega, ty_4 hrg (by first | with_reducible rfl | with_reducible assumption | omega) (hzsa_p0 zz) ez482 ((hty_z482 zz).le (by first | with_reducible rfl | with_reducible assumption | omega) (by first | with_reducible rfl | with_reducible assumption | omega))⟩) (by first | with_reducible rfl | with_reducible assumption | omega)))⟩) d_Mpg_check_349
        · have nc505 : ¬ p1.toInt = (0 : Int) := mt (i_eq (x := p1) (y := 0)).mpr c505
          refine lv_iload_n S.x S.b d_Mpg_check_332 rfl (lv_at hl 0 rfl) ?_
          refine lv_iconst (v := 4) S.x S.b d_Mpg_check_333 (by decide) ?_
          refine lv_icmp_ne (tgt := 348) S.x S.b d_Mpg_check_334 (by decide) (fun c506 => ?_) (fun c506 => ?_)
          ·
            refine lv_iload_n S.x S.b d_Mpg_check_348 rfl (lv_at hl 0 rfl) ?_
            exact px_iret (v := 1) S hr rfl hlk hAe hw (Nat.le_of_ble_eq_true rfl) (Nat.le_of_ble_eq_true rfl) (⟨ma485, cf486, rfl, (show KpE cf cf486 from hke), (show WrV cf486 (tf 6).toInt from hwr), (show (cf486 33).toInt = (cf 33).toInt from by first | exact oz_1687f4cc65 e473 e491 | omega), (show (cf486 38).toInt = (cf 38).toInt from by first | exact oz_1687f4cc65 e474 e492 | omega), (show (cf486 48).toInt = (cf 48).toInt from by first | exact oz_1687f4cc65 e475 e493 | omega), (show (cf486 46).toInt = (cf 46).toInt from by first | exact oz_1687f4cc65 e476 e494 | omega), (show (cf486 47).toInt = (cf 47).toInt from by first | exact oz_1687f4cc65 e477 e495 | omega), (show (cf486 57).toInt = (cf 57).toInt from by first | exact oz_1687f4cc65 e478 e496 | omega), (show Ann na ma0 ma485 from han), (show FrC lo hi ma ma485 from hfc), (show 0 ≤ (1 : Int) from by first | decide | omega), (show (1 : Int) ≤ 4 from by first | decide | omega), (show NmJ ta ca na ma485 kn p0 (1 : Int) from (fun h => absurd h (by first | with_reducible rfl | with_reducible assumption | omega))), (show ZTy cf486 (Gk ta ca na ma0 ns ys nf) na ma485 lo hi p0 (1 : Int) from (fun zz => Or.inr ⟨by first | with_reducible rfl | with_reducible assumption | omega, ty_4 hrg (by first | with_reducible rfl | with_reducible assumption | omega) (hzsa_p0 zz) ez482 ((hty_z482 zz).le (by first | with_reducible rfl | with_reducible assumption | omega) (by first | with_reducible rfl | with_reducible assumption | omega))⟩)), (show ZNm cf486 p1.toInt (1 : Int) from (zty_num (G := (Gk ta ca na ma0 ns ys nf)) (na := na) (ma := ma485) (lo := lo) (hi := hi) (n := p0) (fun zz => Or.inr ⟨by first | with_reducible rfl | with_reducible assumption | omega, ty_4 hrg (by first | with_reducible rfl | with_reducible assumption | omega) (hzsa_p0 zz) ez482 ((hty_z482 zz).le (by first | with_reducible rfl | with_reducible assumption | omega) (by first | with_reducible rfl | with_reducible assumption | omega))⟩) (by first | with_reducible rfl | with_reducible assumption | omega)))⟩) d_Mpg_check_349
          · exact absurd c506 (by decide)
      · have nc504 : ¬ p1.toInt = (0 : Int) := mt (i_eq (x := p1) (y := 0)).mpr c504
        refine lv_iload_n S.x S.b d_Mpg_check_305 rfl (lv_at hl 0 rfl) ?_
        refine lv_iconst (v := 2) S.x S.b d_Mpg_check_306 (by decide) ?_
        refine lv_icmp_eq (tgt := 315) S.x S.b d_Mpg_check_307 (by decide) (fun c507 => ?_) (fun c507 => ?_)
        · exact absurd c507 (by decide)
        ·
          refine lv_iload_n S.x S.b d_Mpg_check_310 rfl (lv_at hl 0 rfl) ?_
          refine lv_iconst (v := 3) S.x S.b d_Mpg_check_311 (by decide) ?_
          refine lv_icmp_ne (tgt := 328) S.x S.b d_Mpg_check_312 (by decide) (fun c508 => ?_) (fun c508 => ?_)
          ·
            refine lv_iload_n S.x S.b d_Mpg_check_328 rfl (lv_at hl 3 rfl) ?_
            refine lv_if_eq (tgt := 348) S.x S.b d_Mpg_check_329 (by decide) (fun c509 => ?_) (fun c509 => ?_)
            · have nc509 : p1.toInt = (0 : Int) := (i_eq (x := p1) (y := 0)).mp c509
              refine lv_iload_n S.x S.b d_Mpg_check_348 rfl (lv_at hl 0 rfl) ?_
              exact px_iret (v := 1) S hr rfl hlk hAe hw (Nat.le_of_ble_eq_true rfl) (Nat.le_of_ble_eq_true rfl) (⟨ma485, cf486, rfl, (show KpE cf cf486 from hke), (show WrV cf486 (tf 6).toInt from hwr), (show (cf486 33).toInt = (cf 33).toInt from by first | exact oz_1687f4cc65 e473 e491 | omega), (show (cf486 38).toInt = (cf 38).toInt from by first | exact oz_1687f4cc65 e474 e492 | omega), (show (cf486 48).toInt = (cf 48).toInt from by first | exact oz_1687f4cc65 e475 e493 | omega), (show (cf486 46).toInt = (cf 46).toInt from by first | exact oz_1687f4cc65 e476 e494 | omega), (show (cf486 47).toInt = (cf 47).toInt from by first | exact oz_1687f4cc65 e477 e495 | omega), (show (cf486 57).toInt = (cf 57).toInt from by first | exact oz_1687f4cc65 e478 e496 | omega), (show Ann na ma0 ma485 from han), (show FrC lo hi ma ma485 from hfc), (show 0 ≤ (1 : Int) from by first | decide | omega), (show (1 : Int) ≤ 4 from by first | decide | omega), (show NmJ ta ca na ma485 kn p0 (1 : Int) from (fun h => absurd h (by first | with_reducible rfl | with_reducible assumption | omega))), (show ZTy cf486 (Gk ta ca na ma0 ns ys nf) na ma485 lo hi p0 (1 : Int) from (fun zz => Or.inr ⟨by first | with_reducible rfl | with_reducible assumption | omega, ty_4 hrg (by first | with_reducible rfl | with_reducible assumption | omega) (hzsa_p0 zz) ez482 ((hty_z482 zz).le (by first | with_reducible rfl | with_reducible assumption | omega) (by first | with_reducible rfl | with_reducible assumption | omega))⟩)), (show ZNm cf486 p1.toInt (1 : Int) from (zty_num (G := (Gk ta ca na ma0 ns ys nf)) (na := na) (ma := ma485) (lo := lo) (hi := hi) (n := p0) (fun zz => Or.inr ⟨by first | with_reducible rfl | with_reducible assumption | omega, ty_4 hrg (by first | with_reducible rfl | with_reducible assumption | omega) (hzsa_p0 zz) ez482 ((hty_z482 zz).le (by first | with_reducible rfl | with_reducible assumption | omega) (by first | with_reducible rfl | with_reducible assumption | omega))⟩) (by first | with_reducible rfl | with_reducible assumption | omega)))⟩) d_Mpg_check_349
            · have nc509 : ¬ p1.toInt = (0 : Int) := mt (i_eq (x := p1) (y := 0)).mpr c509
              refine lv_iload_n S.x S.b d_Mpg_check_332 rfl (lv_at hl 0 rfl) ?_
              refine lv_iconst (v := 4) S.x S.b d_Mpg_check_333 (by decide) ?_
              refine lv_icmp_ne (tgt := 348) S.x S.b d_Mpg_check_334 (by decide) (fun c510 => ?_) (fun c510 => ?_)
              ·
                refine lv_iload_n S.x S.b d_Mpg_check_348 rfl (lv_at hl 0 rfl) ?_
                exact px_iret (v := 1) S hr rfl hlk hAe hw (Nat.le_of_ble_eq_true rfl) (Nat.le_of_ble_eq_true rfl) (⟨ma485, cf486, rfl, (show KpE cf cf486 from hke), (show WrV cf486 (tf 6).toInt from hwr), (show (cf486 33).toInt = (cf 33).toInt from by first | exact oz_1687f4cc65 e473 e491 | omega), (show (cf486 38).toInt = (cf 38).toInt from by first | exact oz_1687f4cc65 e474 e492 | omega), (show (cf486 48).toInt = (cf 48).toInt from by first | exact oz_1687f4cc65 e475 e493 | omega), (show (cf486 46).toInt = (cf 46).toInt from by first | exact oz_1687f4cc65 e476 e494 | omega), (show (cf486 47).toInt = (cf 47).toInt from by first | exact oz_1687f4cc65 e477 e495 | omega), (show (cf486 57).toInt = (cf 57).toInt from by first | exact oz_1687f4cc65 e478 e496 | omega), (show Ann na ma0 ma485 from han), (show FrC lo hi ma ma485 from hfc), (show 0 ≤ (1 : Int) from by first | decide | omega), (show (1 : Int) ≤ 4 from by first | decide | omega), (show NmJ ta ca na ma485 kn p0 (1 : Int) from (fun h => absurd h (by first | with_reducible rfl | with_reducible assumption | omega))), (show ZTy cf486 (Gk ta ca na ma0 ns ys nf) na ma485 lo hi p0 (1 : Int) from (fun zz => Or.inr ⟨by first | with_reducible rfl | with_reducible assumption | omega, ty_4 hrg (by first | with_reducible rfl | with_reducible assumption | omega) (hzsa_p0 zz) ez482 ((hty_z482 zz).le (by first | with_reducible rfl | with_reducible assumption | omega) (by first | with_reducible rfl | with_reducible assumption | omega))⟩)), (show ZNm cf486 p1.toInt (1 : Int) from (zty_num (G := (Gk ta ca na ma0 ns ys nf)) (na := na) (ma := ma485) (lo := lo) (hi := hi) (n := p0) (fun zz => Or.inr ⟨by first | with_reducible rfl | with_reducible assumption | omega, ty_4 hrg (by first | with_reducible rfl | with_reducible assumption | omega) (hzsa_p0 zz) ez482 ((hty_z482 zz).le (by first | with_reducible rfl | with_reducible assumption | omega) (by first | with_reducible rfl | with_reducible assumption | omega))⟩) (by first | with_reducible rfl | with_reducible assumption | omega)))⟩) d_Mpg_check_349
              · exact absurd c510 (by decide)
          · exact absurd c508 (by decide)
    · simp only [List.mem_cons, List.not_mem_nil, or_false] at c200
      refine lv_aload_n S.x S.b d_Mpg_check_97 rfl (lv_at hl 1 rfl) ?_
      refine px_get S k_Mpg hT hw 0 0 8 (v := .ref (r 8)) rfl rfl rfl (by decide) m9_232 d_Mpg_check_98 ?_
      refine lv_aload_n S.x S.b d_Mpg_check_101 rfl (lv_at hl 1 rfl) ?_
      refine px_get S k_Mpg hT hw 0 0 15 (v := .ref (r 15)) rfl rfl rfl (by decide) m9_239 d_Mpg_check_102 ?_
      refine lv_iload_n S.x S.b d_Mpg_check_105 rfl (lv_at hl 2 rfl) ?_
      refine px_iald S hT hw 0 11 (n := 2100) (f := (na 15)) rfl gp_15 (x := p0) (vp_in_iff.mpr (by first | exact oz_a7e05de1cd hrg.2.2 hrg.2.1 g1 g2 | (constructor <;> omega))) d_Mpg_check_106 ?_
      refine lv_topi (fun z511 ez511 => ?_)
      have lz511 := Int32.le_toInt z511
      have uz511 := Int32.toInt_lt z511
      have rz511 := EcV.tok hec_p0 ez511
      refine px_iald S hT hw 0 7 (n := 2060) (f := (ta 8)) rfl gp_8 (x := z511) (vp_in_iff.mpr (by first | exact oz_b607b04d7a rz511.1 rz511.2 g3 | (constructor <;> omega))) d_Mpg_check_107 ?_
      refine lv_topi (fun z512 ez512 => ?_)
      have lz512 := Int32.le_toInt z512
      have uz512 := Int32.toInt_lt z512
      have rz512 : z512.toInt = sz ta z511 := by rw [ez512]; rfl
      refine lv_iconst (v := 2) S.x S.b d_Mpg_check_108 (by decide) ?_
      refine lv_icmp_ne (tgt := 116) S.x S.b d_Mpg_check_109 (by decide) (fun c513 => ?_) (fun c513 => ?_)
      · have nc513 : ¬ z512.toInt = (2 : Int) := mt (i_eq (x := z512) (y := 2)).mpr c513
        refine lv_iconst (v := 0) S.x S.b d_Mpg_check_116 (by decide) ?_
        refine lv_istore (lv' := [(4, .int 0), (3, .int 1), (0, .ref h), (1, .int p0), (2, .int p1)]) S.x S.b d_Mpg_check_117 hl (by decide) rfl (fun ls hl => ?_)
        refine lv_aload_n S.x S.b d_Mpg_check_119 rfl (lv_at hl 2 rfl) ?_
        refine lv_aload_n S.x S.b d_Mpg_check_120 rfl (lv_at hl 2 rfl) ?_
        refine px_get S k_Mpg hT hw 0 0 17 (v := .ref (r 17)) rfl rfl rfl (by decide) m10_1 d_Mpg_check_121 ?_
        refine lv_iload_n S.x S.b d_Mpg_check_124 rfl (lv_at hl 3 rfl) ?_
        refine px_iald S hT hw 0 13 (n := 2100) (f := (na 17)) rfl gp_17 (x := p0) (vp_in_iff.mpr (by first | exact oz_a7e05de1cd hrg.2.2 hrg.2.1 g1 g2 | (constructor <;> omega))) d_Mpg_check_125 ?_
        refine lv_topi (fun z514 ez514 => ?_)
        have lz514 := Int32.le_toInt z514
        have uz514 := Int32.toInt_lt z514
        have hec_z514 := EcV.k56 hec_p0 (by first | with_reducible rfl | with_reducible assumption | omega) ez514; have hrg_z514 := EcV.rng hec_z514
        refine lv_iload S.x S.b d_Mpg_check_126 (lv_at hl 0 rfl) ?_
        refine lv_if_ne (tgt := 135) S.x S.b d_Mpg_check_128 (by decide) (fun c515 => ?_) (fun c515 => ?_)
        · exact absurd c515 (by decide)
        ·
          refine lv_iconst (v := 1) S.x S.b d_Mpg_check_131 (by decide) ?_
          refine lv_goto (tgt := 136) S.x S.b d_Mpg_check_132 (by decide) ?_
          refine px_calli (pr := []) (px_runV (As := [.int z514, .int 1]) (rest := []) S (hLC ma0 ys ns nf kn lo p0.toInt h r g tf ta pf na wa ca ef ea xf xa ma cf z514 1 (show 0 ≤ lo from by first | exact g0 | omega) (show p0.toInt ≤ (pf 13).toInt from by first | exact oz_6996e0781a g1 hrg.2.1 | omega) (show (pf 13).toInt ≤ 2100 from by first | exact g2 | omega) (show (tf 6).toInt ≤ 2049 from by first | exact g3 | omega) (show (cf 33).toInt = kn from by first | exact g4 | omega) (show 0 ≤ kn from by first | exact g5 | omega) (show (cf 48).toInt = ns from by first | exact g6 | omega) (show (cf 38).toInt = nf from by first | exact g7 | omega) (show 0 ≤ nf from by first | exact g8 | omega) (show 0 ≤ (1 : Int) from by first | decide | omega) (show (1 : Int) ≤ 1 from by first | decide | omega) htk (FsI.le (N' := (pf 13).toInt) hfs (by first | with_reducible rfl | with_reducible assumption | omega)) hwr (KnT.eq hkt (by first | with_reducible rfl | with_reducible assumption | omega)) (FnT.eq hft (by first | with_reducible rfl | with_reducible assumption | omega)) hks hfp han hec_z514 _) hT (pr := []) (pcs := [wdP cs h r g tf ta pf na ma wa cf ca ef ea xf xa]) hw (oX_call (P := (fun A U H => (oP A g U H))) (pr := []) oG_P hw hA hP) (px_recv hT hw 0 0 rfl rfl rfl) m12_217 m12_214 m12_216 ms_12_7 m1_21 q_Mpg_check ⟨show (4 * d + 12) + 1 ≤ (4 * (d + 1) + 12) from by first | with_reducible rfl | with_reducible assumption | omega, show 8 + (8 + 11) + (200 * d + 420) ≤ (200 * (d + 1) + 420) from by first | with_reducible rfl | with_reducible assumption | omega⟩ hl.1 rfl (Nat.le_of_ble_eq_true rfl) d_Mpg_check_136 ⟨Nat.le_of_ble_eq_true rfl, Nat.le_of_ble_eq_true rfl⟩) hw hA (fun v521 p520 H locs hp520 hw => ?_)
          obtain ⟨ma518, cf519, rfl, e522, e523, e524, e525, e526, e527, e528, e529, e530, e531, e532, e533, e534, e535, e536⟩ := hp520
          have e522 : KpE cf cf519 := e522
          have hke := (hke).tr e522
          have hkz_e522 := e522.2
          have e523 : WrV cf519 (tf 6).toInt := e523
          have hwr := e523
          have hw0_e523 := hwr.1
          have e524 : (cf519 33).toInt = (cf 33).toInt := e524
          have e525 : (cf519 38).toInt = (cf 38).toInt := e525
          have e526 : (cf519 48).toInt = (cf 48).toInt := e526
          have e527 : (cf519 46).toInt = (cf 46).toInt := e527
          have e528 : (cf519 47).toInt = (cf 47).toInt := e528
          have e529 : (cf519 57).toInt = (cf 57).toInt := e529
          have e530 : Ann na ma0 ma518 := e530
          have han := e530
          have e531 : FrC lo p0.toInt ma ma518 := e531
          have hfc := hfc.tr e531 (by first | with_reducible rfl | with_reducible assumption | omega) (by first | with_reducible rfl | with_reducible assumption | omega)
          have e532 : 0 ≤ v521.toInt := e532
          have e533 : v521.toInt ≤ 4 := e533
          have e534 : NmJ ta ca na ma518 kn z514 v521.toInt := e534
          have hnm_z514 := e534
          have e535 : ZTy cf519 (Gk ta ca na ma0 ns ys nf) na ma518 lo p0.toInt z514 v521.toInt := e535
          have hzt_z514 := e535
          have e536 : ZNm cf519 (1 : Int) v521.toInt := e536
          have hty_z514 := ZTy.num hzt_z514 e536
          have hw : pw D A s.heap H locs [wdP cs h r g tf ta pf na ma518 wa cf519 ca ef ea xf xa] := hw
          have lv521 := Int32.le_toInt v521
          have uv521 := Int32.toInt_lt v521
          refine lv_istore (lv' := [(5, .int v521), (4, .int 0), (3, .int 1), (0, .ref h), (1, .int p0), (2, .int p1)]) S.x S.b d_Mpg_check_139 hl (by decide) rfl (fun ls hl => ?_)
          refine lv_iload S.x S.b d_Mpg_check_141 (lv_at hl 1 rfl) ?_
          refine lv_if_eq (tgt := 301) S.x S.b d_Mpg_check_143 (by decide) (fun c537 => ?_) (fun c537 => ?_)
          ·
            refine lv_iload_n S.x S.b d_Mpg_check_301 rfl (lv_at hl 5 rfl) ?_
            refine lv_if_eq (tgt := 328) S.x S.b d_Mpg_check_302 (by decide) (fun c538 => ?_) (fun c538 => ?_)
            · have nc538 : p1.toInt = (0 : Int) := (i_eq (x := p1) (y := 0)).mp c538
              refine lv_iload_n S.x S.b d_Mpg_check_328 rfl (lv_at hl 5 rfl) ?_
              refine lv_if_eq (tgt := 348) S.x S.b d_Mpg_check_329 (by decide) (fun c539 => ?_) (fun c539 => ?_)
              · have nc539 : p1.toInt = (0 : Int) := (i_eq (x := p1) (y := 0)).mp c539
                refine lv_iload_n S.x S.b d_Mpg_check_348 rfl (lv_at hl 2 rfl) ?_
                exact px_iret (v := 1) S hr rfl hlk hAe hw (Nat.le_of_ble_eq_true rfl) (Nat.le_of_ble_eq_true rfl) (⟨ma518, cf519, rfl, (show KpE cf cf519 from hke), (show WrV cf519 (tf 6).toInt from hwr), (show (cf519 33).toInt = (cf 33).toInt from by first | exact e524 | omega), (show (cf519 38).toInt = (cf 38).toInt from by first | exact e525 | omega), (show (cf519 48).toInt = (cf 48).toInt from by first | exact e526 | omega), (show (cf519 46).toInt = (cf 46).toInt from by first | exact e527 | omega), (show (cf519 47).toInt = (cf 47).toInt from by first | exact e528 | omega), (show (cf519 57).toInt = (cf 57).toInt from by first | exact e529 | omega), (show Ann na ma0 ma518 from han), (show FrC lo hi ma ma518 from hfc), (show 0 ≤ (1 : Int) from by first | decide | omega), (show (1 : Int) ≤ 4 from by first | decide | omega), (show NmJ ta ca na ma518 kn p0 (1 : Int) from (fun h => absurd h (by first | with_reducible rfl | with_reducible assumption | omega))), (show ZTy cf519 (Gk ta ca na ma0 ns ys nf) na ma518 lo hi p0 (1 : Int) from (fun zz => Or.inr ⟨by first | with_reducible rfl | with_reducible assumption | omega, ty_5 hrg (by first | with_reducible rfl | with_reducible assumption | omega) (by show sz ta (na 15 p0.toNatClampNeg) ≠ 2; rw [← ez511]; omega) ez514 ((hty_z514 zz).le (by first | with_reducible rfl | with_reducible assumption | omega) (by first | with_reducible rfl | with_reducible assumption | omega))⟩)), (show ZNm cf519 p1.toInt (1 : Int) from (zty_num (G := (Gk ta ca na ma0 ns ys nf)) (na := na) (ma := ma518) (lo := lo) (hi := hi) (n := p0) (fun zz => Or.inr ⟨by first | with_reducible rfl | with_reducible assumption | omega, ty_5 hrg (by first | with_reducible rfl | with_reducible assumption | omega) (by show sz ta (na 15 p0.toNatClampNeg) ≠ 2; rw [← ez511]; omega) ez514 ((hty_z514 zz).le (by first | with_reducible rfl | with_reducible assumption | omega) (by first | with_reducible rfl | with_reducible assumption | omega))⟩) (by first | with_reducible rfl | with_reducible assumption | omega)))⟩) d_Mpg_check_349
              · have nc539 : ¬ p1.toInt = (0 : Int) := mt (i_eq (x := p1) (y := 0)).mpr c539
                refine lv_iload_n S.x S.b d_Mpg_check_332 rfl (lv_at hl 2 rfl) ?_
                refine lv_iconst (v := 4) S.x S.b d_Mpg_check_333 (by decide) ?_
                refine lv_icmp_ne (tgt := 348) S.x S.b d_Mpg_check_334 (by decide) (fun c540 => ?_) (fun c540 => ?_)
                ·
                  refine lv_iload_n S.x S.b d_Mpg_check_348 rfl (lv_at hl 2 rfl) ?_
                  exact px_iret (v := 1) S hr rfl hlk hAe hw (Nat.le_of_ble_eq_true rfl) (Nat.le_of_ble_eq_true rfl) (⟨ma518, cf519, rfl, (show KpE cf cf519 from hke), (show WrV cf519 (tf 6).toInt from hwr), (show (cf519 33).toInt = (cf 33).toInt from by first | exact e524 | omega), (show (cf519 38).toInt = (cf 38).toInt from by first | exact e525 | omega), (show (cf519 48).toInt = (cf 48).toInt from by first | exact e526 | omega), (show (cf519 46).toInt = (cf 46).toInt from by first | exact e527 | omega), (show (cf519 47).toInt = (cf 47).toInt from by first | exact e528 | omega), (show (cf519 57).toInt = (cf 57).toInt from by first | exact e529 | omega), (show Ann na ma0 ma518 from han), (show FrC lo hi ma ma518 from hfc), (show 0 ≤ (1 : Int) from by first | decide | omega), (show (1 : Int) ≤ 4 from by first | decide | omega), (show NmJ ta ca na ma518 kn p0 (1 : Int) from (fun h => absurd h (by first | with_reducible rfl | with_reducible assumption | omega))), (show ZTy cf519 (Gk ta ca na ma0 ns ys nf) na ma518 lo hi p0 (1 : Int) from (fun zz => Or.inr ⟨by first | with_reducible rfl | with_reducible assumption | omega, ty_5 hrg (by first | with_reducible rfl | with_reducible assumption | omega) (by show sz ta (na 15 p0.toNatClampNeg) ≠ 2; rw [← ez511]; omega) ez514 ((hty_z514 zz).le (by first | with_reducible rfl | with_reducible assumption | omega) (by first | with_reducible rfl | with_reducible assumption | omega))⟩)), (show ZNm cf519 p1.toInt (1 : Int) from (zty_num (G := (Gk ta ca na ma0 ns ys nf)) (na := na) (ma := ma518) (lo := lo) (hi := hi) (n := p0) (fun zz => Or.inr ⟨by first | with_reducible rfl | with_reducible assumption | omega, ty_5 hrg (by first | with_reducible rfl | with_reducible assumption | omega) (by show sz ta (na 15 p0.toNatClampNeg) ≠ 2; rw [← ez511]; omega) ez514 ((hty_z514 zz).le (by first | with_reducible rfl | with_reducible assumption | omega) (by first | with_reducible rfl | with_reducible assumption | omega))⟩) (by first | with_reducible rfl | with_reducible assumption | omega)))⟩) d_Mpg_check_349
                · exact absurd c540 (by decide)
            · have nc538 : ¬ p1.toInt = (0 : Int) := mt (i_eq (x := p1) (y := 0)).mpr c538
              refine lv_iload_n S.x S.b d_Mpg_check_305 rfl (lv_at hl 2 rfl) ?_
              refine lv_iconst (v := 2) S.x S.b d_Mpg_check_306 (by decide) ?_
              refine lv_icmp_eq (tgt := 315) S.x S.b d_Mpg_check_307 (by decide) (fun c541 => ?_) (fun c541 => ?_)
              · exact absurd c541 (by decide)
              ·
                refine lv_iload_n S.x S.b d_Mpg_check_310 rfl (lv_at hl 2 rfl) ?_
                refine lv_iconst (v := 3) S.x S.b d_Mpg_check_311 (by decide) ?_
                refine lv_icmp_ne (tgt := 328) S.x S.b d_Mpg_check_312 (by decide) (fun c542 => ?_) (fun c542 => ?_)
                ·
                  refine lv_iload_n S.x S.b d_Mpg_check_328 rfl (lv_at hl 5 rfl) ?_
                  refine lv_if_eq (tgt := 348) S.x S.b d_Mpg_check_329 (by decide) (fun c543 => ?_) (fun c543 => ?_)
                  · have nc543 : p1.toInt = (0 : Int) := (i_eq (x := p1) (y := 0)).mp c543
                    refine lv_iload_n S.x S.b d_Mpg_check_348 rfl (lv_at hl 2 rfl) ?_
                    exact px_iret (v := 1) S hr rfl hlk hAe hw (Nat.le_of_ble_eq_true rfl) (Nat.le_of_ble_eq_true rfl) (⟨ma518, cf519, rfl, (show KpE cf cf519 from hke), (show WrV cf519 (tf 6).toInt from hwr), (show (cf519 33).toInt = (cf 33).toInt from by first | exact e524 | omega), (show (cf519 38).toInt = (cf 38).toInt from by first | exact e525 | omega), (show (cf519 48).toInt = (cf 48).toInt from by first | exact e526 | omega), (show (cf519 46).toInt = (cf 46).toInt from by first | exact e527 | omega), (show (cf519 47).toInt = (cf 47).toInt from by first | exact e528 | omega), (show (cf519 57).toInt = (cf 57).toInt from by first | exact e529 | omega), (show Ann na ma0 ma518 from han), (show FrC lo hi ma ma518 from hfc), (show 0 ≤ (1 : Int) from by first | decide | omega), (show (1 : Int) ≤ 4 from by first | decide | omega), (show NmJ ta ca na ma518 kn p0 (1 : Int) from (fun h => absurd h (by first | with_reducible rfl | with_reducible assumption | omega))), (show ZTy cf519 (Gk ta ca na ma0 ns ys nf) na ma518 lo hi p0 (1 : Int) from (fun zz => Or.inr ⟨by first | with_reducible rfl | with_reducible assumption | omega, ty_5 hrg (by first | with_reducible rfl | with_reducible assumption | omega) (by show sz ta (na 15 p0.toNatClampNeg) ≠ 2; rw [← ez511]; omega) ez514 ((hty_z514 zz).le (by first | with_reducible rfl | with_reducible assumption | omega) (by first | with_reducible rfl | with_reducible assumption | omega))⟩)), (show ZNm cf519 p1.toInt (1 : Int) from (zty_num (G := (Gk ta ca na ma0 ns ys nf)) (na := na) (ma := ma518) (lo := lo) (hi := hi) (n := p0) (fun zz => Or.inr ⟨by first | with_reducible rfl | with_reducible assumption | omega, ty_5 hrg (by first | with_reducible rfl | with_reducible assumption | omega) (by show sz ta (na 15 p0.toNatClampNeg) ≠ 2; rw [← ez511]; omega) ez514 ((hty_z514 zz).le (by first | with_reducible rfl | with_reducible assumption | omega) (by first | with_reducible rfl | with_reducible assumption | omega))⟩) (by first | with_reducible rfl | with_reducible assumption | omega)))⟩) d_Mpg_check_349
                  · have nc543 : ¬ p1.toInt = (0 : Int) := mt (i_eq (x := p1) (y := 0)).mpr c543
                    refine lv_iload_n S.x S.b d_Mpg_check_332 rfl (lv_at hl 2 rfl) ?_
                    refine lv_iconst (v := 4) S.x S.b d_Mpg_check_333 (by decide) ?_
                    refine lv_icmp_ne (tgt := 348) S.x S.b d_Mpg_check_334 (by decide) (fun c544 => ?_) (fun c544 => ?_)
                    ·
                      refine lv_iload_n S.x S.b d_Mpg_check_348 rfl (lv_at hl 2 rfl) ?_
                      exact px_iret (v := 1) S hr rfl hlk hAe hw (Nat.le_of_ble_eq_true rfl) (Nat.le_of_ble_eq_true rfl) (⟨ma518, cf519, rfl, (show KpE cf cf519 from hke), (show WrV cf519 (tf 6).toInt from hwr), (show (cf519 33).toInt = (cf 33).toInt from by first | exact e524 | omega), (show (cf519 38).toInt = (cf 38).toInt from by first | exact e525 | omega), (show (cf519 48).toInt = (cf 48).toInt from by first | exact e526 | omega), (show (cf519 46).toInt = (cf 46).toInt from by first | exact e527 | omega), (show (cf519 47).toInt = (cf 47).toInt from by first | exact e528 | omega), (show (cf519 57).toInt = (cf 57).toInt from by first | exact e529 | omega), (show Ann na ma0 ma518 from han), (show FrC lo hi ma ma518 from hfc), (show 0 ≤ (1 : Int) from by first | decide | omega), (show (1 : Int) ≤ 4 from by first | decide | omega), (show NmJ ta ca na ma518 kn p0 (1 : Int) from (fun h => absurd h (by first | with_reducible rfl | with_reducible assumption | omega))), (show ZTy cf519 (Gk ta ca na ma0 ns ys nf) na ma518 lo hi p0 (1 : Int) from (fun zz => Or.inr ⟨by first | with_reducible rfl | with_reducible assumption | omega, ty_5 hrg (by first | with_reducible rfl | with_reducible assumption | omega) (by show sz ta (na 15 p0.toNatClampNeg) ≠ 2; rw [← ez511]; omega) ez514 ((hty_z514 zz).le (by first | with_reducible rfl | with_reducible assumption | omega) (by first | with_reducible rfl | with_reducible assumption | omega))⟩)), (show ZNm cf519 p1.toInt (1 : Int) from (zty_num (G := (Gk ta ca na ma0 ns ys nf)) (na := na) (ma := ma518) (lo := lo) (hi := hi) (n := p0) (fun zz => Or.inr ⟨by first | with_reducible rfl | with_reducible assumption | omega, ty_5 hrg (by first | with_reducible rfl | with_reducible assumption | omega) (by show sz ta (na 15 p0.toNatClampNeg) ≠ 2; rw [← ez511]; omega) ez514 ((hty_z514 zz).le (by first | with_reducible rfl | with_reducible assumption | omega) (by first | with_reducible rfl | with_reducible assumption | omega))⟩) (by first | with_reducible rfl | with_reducible assumption | omega)))⟩) d_Mpg_check_349
                    · exact absurd c544 (by decide)
                · exact absurd c542 (by decide)
          · exact absurd c537 (by decide)
      · have nc513 : z512.toInt = (2 : Int) := (i_eq (x := z512) (y := 2)).mp c513
        refine lv_iconst (v := 1) S.x S.b d_Mpg_check_112 (by decide) ?_
        refine lv_goto (tgt := 117) S.x S.b d_Mpg_check_113 (by decide) ?_
        refine lv_istore (lv' := [(4, .int 1), (3, .int 1), (0, .ref h), (1, .int p0), (2, .int p1)]) S.x S.b d_Mpg_check_117 hl (by decide) rfl (fun ls hl => ?_)
        refine lv_aload_n S.x S.b d_Mpg_check_119 rfl (lv_at hl 2 rfl) ?_
        refine lv_aload_n S.x S.b d_Mpg_check_120 rfl (lv_at hl 2 rfl) ?_
        refine px_get S k_Mpg hT hw 0 0 17 (v := .ref (r 17)) rfl rfl rfl (by decide) m10_1 d_Mpg_check_121 ?_
        refine lv_iload_n S.x S.b d_Mpg_check_124 rfl (lv_at hl 3 rfl) ?_
        refine px_iald S hT hw 0 13 (n := 2100) (f := (na 17)) rfl gp_17 (x := p0) (vp_in_iff.mpr (by first | exact oz_a7e05de1cd hrg.2.2 hrg.2.1 g1 g2 | (constructor <;> omega))) d_Mpg_check_125 ?_
        refine lv_topi (fun z545 ez545 => ?_)
        have lz545 := Int32.le_toInt z545
        have uz545 := Int32.toInt_lt z545
        have hec_z545 := EcV.k56 hec_p0 (by first | with_reducible rfl | with_reducible assumption | omega) ez545; have hrg_z545 := EcV.rng hec_z545
        refine lv_iload S.x S.b d_Mpg_check_126 (lv_at hl 0 rfl) ?_
        refine lv_if_ne (tgt := 135) S.x S.b d_Mpg_check_128 (by decide) (fun c546 => ?_) (fun c546 => ?_)
        ·
          refine lv_iconst (v := 0) S.x S.b d_Mpg_check_135 (by decide) ?_
          refine px_calli (pr := []) (px_runV (As := [.int z545, .int 0]) (rest := []) S (hLC ma0 ys ns nf kn lo p0.toInt h r g tf ta pf na wa ca ef ea xf xa ma cf z545 0 (show 0 ≤ lo from by first | exact g0 | omega) (show p0.toInt ≤ (pf 13).toInt from by first | exact oz_6996e0781a g1 hrg.2.1 | omega) (show (pf 13).toInt ≤ 2100 from by first | exact g2 | omega) (show (tf 6).toInt ≤ 2049 from by first | exact g3 | omega) (show (cf 33).toInt = kn from by first | exact g4 | omega) (show 0 ≤ kn from by first | exact g5 | omega) (show (cf 48).toInt = ns from by first | exact g6 | omega) (show (cf 38).toInt = nf from by first | exact g7 | omega) (show 0 ≤ nf from by first | exact g8 | omega) (show 0 ≤ (0 : Int) from by first | decide | omega) (show (0 : Int) ≤ 1 from by first | decide | omega) htk (FsI.le (N' := (pf 13).toInt) hfs (by first | with_reducible rfl | with_reducible assumption | omega)) hwr (KnT.eq hkt (by first | with_reducible rfl | with_reducible assumption | omega)) (FnT.eq hft (by first | with_reducible rfl | with_reducible assumption | omega)) hks hfp han hec_z545 _) hT (pr := []) (pcs := [wdP cs h r g tf ta pf na ma wa cf ca ef ea xf xa]) hw (oX_call (P := (fun A U H => (oP A g U H))) (pr := []) oG_P hw hA hP) (px_recv hT hw 0 0 rfl rfl rfl) m12_217 m12_214 m12_216 ms_12_7 m1_21 q_Mpg_check ⟨show (4 * d + 12) + 1 ≤ (4 * (d + 1) + 12) from by first | with_reducible rfl | with_reducible assumption | omega, show 8 + (8 + 11) + (200 * d + 420) ≤ (200 * (d + 1) + 420) from by first | with_reducible rfl | with_reducible assumption | omega⟩ hl.1 rfl (Nat.le_of_ble_eq_true rfl) d_Mpg_check_136 ⟨Nat.le_of_ble_eq_true rfl, Nat.le_of_ble_eq_true rfl⟩) hw hA (fun v552 p551 H locs hp551 hw => ?_)
          obtain ⟨ma549, cf550, rfl, e553, e554, e555, e556, e557, e558, e559, e560, e561, e562, e563, e564, e565, e566, e567⟩ := hp551
          have e553 : KpE cf cf550 := e553
          have hke := (hke).tr e553
          have hkz_e553 := e553.2
          have e554 : WrV cf550 (tf 6).toInt := e554
          have hwr := e554
          have hw0_e554 := hwr.1
          have e555 : (cf550 33).toInt = (cf 33).toInt := e555
          have e556 : (cf550 38).toInt = (cf 38).toInt := e556
          have e557 : (cf550 48).toInt = (cf 48).toInt := e557
          have e558 : (cf550 46).toInt = (cf 46).toInt := e558
          have e559 : (cf550 47).toInt = (cf 47).toInt := e559
          have e560 : (cf550 57).toInt = (cf 57).toInt := e560
          have e561 : Ann na ma0 ma549 := e561
          have han := e561
          have e562 : FrC lo p0.toInt ma ma549 := e562
          have hfc := hfc.tr e562 (by first | with_reducible rfl | with_reducible assumption | omega) (by first | with_reducible rfl | with_reducible assumption | omega)
          have e563 : 0 ≤ v552.toInt := e563
          have e564 : v552.toInt ≤ 4 := e564
          have e565 : NmJ ta ca na ma549 kn z545 v552.toInt := e565
          have hnm_z545 := e565
          have e566 : ZTy cf550 (Gk ta ca na ma0 ns ys nf) na ma549 lo p0.toInt z545 v552.toInt := e566
          have hzt_z545 := e566
          have e567 : ZNm cf550 (0 : Int) v552.toInt := e567
          have hw : pw D A s.heap H locs [wdP cs h r g tf ta pf na ma549 wa cf550 ca ef ea xf xa] := hw
          have lv552 := Int32.le_toInt v552
          have uv552 := Int32.toInt_lt v552
          refine lv_istore (lv' := [(5, .int v552), (4, .int 1), (3, .int 1), (0, .ref h), (1, .int p0), (2, .int p1)]) S.x S.b d_Mpg_check_139 hl (by decide) rfl (fun ls hl => ?_)
          refine lv_iload S.x S.b d_Mpg_check_141 (lv_at hl 1 rfl) ?_
          refine lv_if_eq (tgt := 301) S.x S.b d_Mpg_check_143 (by decide) (fun c568 => ?_) (fun c568 => ?_)
          · exact absurd c568 (by decide)
          ·
            refine lv_aload_n S.x S.b d_Mpg_check_146 rfl (lv_at hl 3 rfl) ?_
            refine lv_aload_n S.x S.b d_Mpg_check_147 rfl (lv_at hl 3 rfl) ?_
            refine px_get S k_Mpg hT hw 0 0 17 (v := .ref (r 17)) rfl rfl rfl (by decide) m10_1 d_Mpg_check_148 ?_
            refine lv_iload_n S.x S.b d_Mpg_check_151 rfl (lv_at hl 4 rfl) ?_
            refine px_iald S hT hw 0 13 (n := 2100) (f := (na 17)) rfl gp_17 (x := p0) (vp_in_iff.mpr (by first | exact oz_a7e05de1cd hrg.2.2 hrg.2.1 g1 g2 | (constructor <;> omega))) d_Mpg_check_152 ?_
            refine lv_topi (fun z569 ez569 => ?_)
            have lz569 := Int32.le_toInt z569
            have uz569 := Int32.toInt_lt z569
            have hsz569 : z545 = z569 := ez545.trans ez569.symm; subst hsz569
            refine lv_iload S.x S.b d_Mpg_check_153 (lv_at hl 0 rfl) ?_
            refine px_callv (pr := []) (px_runV (As := [.int z545, .int v552]) (rest := []) S (c_mp_checkPlace l D cs ma0 ys ns nf kn d lo p0.toInt h r g tf ta pf na ma549 wa ca ef ea xf xa cf550 z545 v552  (show 0 ≤ lo from by first | exact g0 | omega) (show p0.toInt ≤ (pf 13).toInt from by first | exact oz_6996e0781a g1 hrg.2.1 | omega) (show (pf 13).toInt ≤ 2100 from by first | exact g2 | omega) (show (tf 6).toInt ≤ 2049 from by first | exact g3 | omega) (show (cf550 33).toInt = kn from by first | exact oz_1687f4cc65 g4 e555 | omega) (show 0 ≤ kn from by first | exact g5 | omega) (show (cf550 48).toInt = ns from by first | exact oz_1687f4cc65 g6 e557 | omega) (show (cf550 38).toInt = nf from by first | exact oz_1687f4cc65 g7 e556 | omega) (show 0 ≤ nf from by first | exact g8 | omega) (show 0 ≤ v552.toInt from by first | exact e563 | omega) (show v552.toInt ≤ 4 from by first | exact e564 | omega) htk (FsI.le (N' := (pf 13).toInt) hfs (by first | with_reducible rfl | with_reducible assumption | omega)) hwr (KnT.eq hkt (by first | with_reducible rfl | with_reducible assumption | omega)) (FnT.eq hft (by first | with_reducible rfl | with_reducible assumption | omega)) hks hec_z545 hnm_z545 _) hT (pr := []) (pcs := [wdP cs h r g tf ta pf na ma549 wa cf550 ca ef ea xf xa]) hw (oX_call (P := (fun A U H => (oP A g U H))) (pr := []) oG_P hw hA hP) (px_recv hT hw 0 0 rfl rfl rfl) m13_25 m13_22 m13_24 ms_13_3 m1_21 q_Mpg_checkPlace ⟨show 3 + 1 ≤ (4 * (d + 1) + 12) from by first | with_reducible rfl | with_reducible assumption | omega, show 8 + (4 + 11) + 120 ≤ (200 * (d + 1) + 420) from by first | with_reducible rfl | with_reducible assumption | omega⟩ hl.1 rfl (Nat.le_of_ble_eq_true rfl) d_Mpg_check_155 ⟨Nat.le_of_ble_eq_true rfl, Nat.le_of_ble_eq_true rfl⟩) hw hA (fun p572 H locs hp572 hw => ?_)
            obtain ⟨cf571, rfl, e574, e575, e576, e577, e578, e579, e580, e581, e582⟩ := hp572
            have e574 : KpE cf550 cf571 := e574
            have hke := (hke).tr e574
            have hkz_e574 := e574.2
            have hzt_z545 := Zr.kp hzt_z545 e574 id
            have e575 : WrV cf571 (tf 6).toInt := e575
            have hwr := e575
            have hw0_e575 := hwr.1
            have e576 : (cf571 33).toInt = (cf550 33).toInt := e576
            have e577 : (cf571 38).toInt = (cf550 38).toInt := e577
            have e578 : (cf571 48).toInt = (cf550 48).toInt := e578
            have e579 : (cf571 46).toInt = (cf550 46).toInt := e579
            have e580 : (cf571 47).toInt = (cf550 47).toInt := e580
            have e581 : (cf571 57).toInt = (cf550 57).toInt := e581
            have e582 : ZPl cf571 na ma549 z545 v552.toInt := e582
            have hzpl_z545 := e582
            have hw : pw D A s.heap H locs [wdP cs h r g tf ta pf na ma549 wa cf571 ca ef ea xf xa] := hw
            refine lv_goto (tgt := 301) S.x S.b d_Mpg_check_158 (by decide) ?_
            refine lv_iload_n S.x S.b d_Mpg_check_301 rfl (lv_at hl 5 rfl) ?_
            refine lv_if_eq (tgt := 328) S.x S.b d_Mpg_check_302 (by decide) (fun c583 => ?_) (fun c583 => ?_)
            · have nc583 : p1.toInt = (0 : Int) := (i_eq (x := p1) (y := 0)).mp c583
              refine lv_iload_n S.x S.b d_Mpg_check_328 rfl (lv_at hl 5 rfl) ?_
              refine lv_if_eq (tgt := 348) S.x S.b d_Mpg_check_329 (by decide) (fun c584 => ?_) (fun c584 => ?_)
              · have nc584 : p1.toInt = (0 : Int) := (i_eq (x := p1) (y := 0)).mp c584
                refine lv_iload_n S.x S.b d_Mpg_check_348 rfl (lv_at hl 2 rfl) ?_
                exact px_iret (v := 1) S hr rfl hlk hAe hw (Nat.le_of_ble_eq_true rfl) (Nat.le_of_ble_eq_true rfl) (⟨ma549, cf571, rfl, (show KpE cf cf571 from hke), (show WrV cf571 (tf 6).toInt from hwr), (show (cf571 33).toInt = (cf 33).toInt from by first | exact oz_1687f4cc65 e555 e576 | omega), (show (cf571 38).toInt = (cf 38).toInt from by first | exact oz_1687f4cc65 e556 e577 | omega), (show (cf571 48).toInt = (cf 48).toInt from by first | exact oz_1687f4cc65 e557 e578 | omega), (show (cf571 46).toInt = (cf 46).toInt from by first | exact oz_1687f4cc65 e558 e579 | omega), (show (cf571 47).toInt = (cf 47).toInt from by first | exact oz_1687f4cc65 e559 e580 | omega), (show (cf571 57).toInt = (cf 57).toInt from by first | exact oz_1687f4cc65 e560 e581 | omega), (show Ann na ma0 ma549 from han), (show FrC lo hi ma ma549 from hfc), (show 0 ≤ (1 : Int) from by first | decide | omega), (show (1 : Int) ≤ 4 from by first | decide | omega), (show NmJ ta ca na ma549 kn p0 (1 : Int) from (fun h => absurd h (by first | with_reducible rfl | with_reducible assumption | omega))), (show ZTy cf571 (Gk ta ca na ma0 ns ys nf) na ma549 lo hi p0 (1 : Int) from (fun zz => Or.inr ⟨by first | with_reducible rfl | with_reducible assumption | omega, ty_5p hrg (by first | with_reducible rfl | with_reducible assumption | omega) (by show sz ta (na 15 p0.toNatClampNeg) = 2; rw [← ez511]; omega) ez545 ((ZTy.pl hzt_z545 hzpl_z545 zz).le (by first | with_reducible rfl | with_reducible assumption | omega) (by first | with_reducible rfl | with_reducible assumption | omega)) (hzpl_z545 zz) (ZTy.n0 hzt_z545 zz)⟩)), (show ZNm cf571 p1.toInt (1 : Int) from (zty_num (G := (Gk ta ca na ma0 ns ys nf)) (na := na) (ma := ma549) (lo := lo) (hi := hi) (n := p0) (fun zz => Or.inr ⟨by first | with_reducible rfl | with_reducible assumption | omega, ty_5p hrg (by first | with_reducible rfl | with_reducible assumption | omega) (by show sz ta (na 15 p0.toNatClampNeg) = 2; rw [← ez511]; omega) ez545 ((ZTy.pl hzt_z545 hzpl_z545 zz).le (by first | with_reducible rfl | with_reducible assumption | omega) (by first | with_reducible rfl | with_reducible assumption | omega)) (hzpl_z545 zz) (ZTy.n0 hzt_z545 zz)⟩) (by first | with_reducible rfl | with_reducible assumption | omega)))⟩) d_Mpg_check_349
              · have nc584 : ¬ p1.toInt = (0 : Int) := mt (i_eq (x := p1) (y := 0)).mpr c584
                refine lv_iload_n S.x S.b d_Mpg_check_332 rfl (lv_at hl 2 rfl) ?_
                refine lv_iconst (v := 4) S.x S.b d_Mpg_check_333 (by decide) ?_
                refine lv_icmp_ne (tgt := 348) S.x S.b d_Mpg_check_334 (by decide) (fun c585 => ?_) (fun c585 => ?_)
                ·
                  refine lv_iload_n S.x S.b d_Mpg_check_348 rfl (lv_at hl 2 rfl) ?_
                  exact px_iret (v := 1) S hr rfl hlk hAe hw (Nat.le_of_ble_eq_true rfl) (Nat.le_of_ble_eq_true rfl) (⟨ma549, cf571, rfl, (show KpE cf cf571 from hke), (show WrV cf571 (tf 6).toInt from hwr), (show (cf571 33).toInt = (cf 33).toInt from by first | exact oz_1687f4cc65 e555 e576 | omega), (show (cf571 38).toInt = (cf 38).toInt from by first | exact oz_1687f4cc65 e556 e577 | omega), (show (cf571 48).toInt = (cf 48).toInt from by first | exact oz_1687f4cc65 e557 e578 | omega), (show (cf571 46).toInt = (cf 46).toInt from by first | exact oz_1687f4cc65 e558 e579 | omega), (show (cf571 47).toInt = (cf 47).toInt from by first | exact oz_1687f4cc65 e559 e580 | omega), (show (cf571 57).toInt = (cf 57).toInt from by first | exact oz_1687f4cc65 e560 e581 | omega), (show Ann na ma0 ma549 from han), (show FrC lo hi ma ma549 from hfc), (show 0 ≤ (1 : Int) from by first | decide | omega), (show (1 : Int) ≤ 4 from by first | decide | omega), (show NmJ ta ca na ma549 kn p0 (1 : Int) from (fun h => absurd h (by first | with_reducible rfl | with_reducible assumption | omega))), (show ZTy cf571 (Gk ta ca na ma0 ns ys nf) na ma549 lo hi p0 (1 : Int) from (fun zz => Or.inr ⟨by first | with_reducible rfl | with_reducible assumption | omega, ty_5p hrg (by first | with_reducible rfl | with_reducible assumption | omega) (by show sz ta (na 15 p0.toNatClampNeg) = 2; rw [← ez511]; omega) ez545 ((ZTy.pl hzt_z545 hzpl_z545 zz).le (by first | with_reducible rfl | with_reducible assumption | omega) (by first | with_reducible rfl | with_reducible assumption | omega)) (hzpl_z545 zz) (ZTy.n0 hzt_z545 zz)⟩)), (show ZNm cf571 p1.toInt (1 : Int) from (zty_num (G := (Gk ta ca na ma0 ns ys nf)) (na := na) (ma := ma549) (lo := lo) (hi := hi) (n := p0) (fun zz => Or.inr ⟨by first | with_reducible rfl | with_reducible assumption | omega, ty_5p hrg (by first | with_reducible rfl | with_reducible assumption | omega) (by show sz ta (na 15 p0.toNatClampNeg) = 2; rw [← ez511]; omega) ez545 ((ZTy.pl hzt_z545 hzpl_z545 zz).le (by first | with_reducible rfl | with_reducible assumption | omega) (by first | with_reducible rfl | with_reducible assumption | omega)) (hzpl_z545 zz) (ZTy.n0 hzt_z545 zz)⟩) (by first | with_reducible rfl | with_reducible assumption | omega)))⟩) d_Mpg_check_349
                · exact absurd c585 (by decide)
            · have nc583 : ¬ p1.toInt = (0 : Int) := mt (i_eq (x := p1) (y := 0)).mpr c583
              refine lv_iload_n S.x S.b d_Mpg_check_305 rfl (lv_at hl 2 rfl) ?_
              refine lv_iconst (v := 2) S.x S.b d_Mpg_check_306 (by decide) ?_
              refine lv_icmp_eq (tgt := 315) S.x S.b d_Mpg_check_307 (by decide) (fun c586 => ?_) (fun c586 => ?_)
              · exact absurd c586 (by decide)
              ·
                refine lv_iload_n S.x S.b d_Mpg_check_310 rfl (lv_at hl 2 rfl) ?_
                refine lv_iconst (v := 3) S.x S.b d_Mpg_check_311 (by decide) ?_
                refine lv_icmp_ne (tgt := 328) S.x S.b d_Mpg_check_312 (by decide) (fun c587 => ?_) (fun c587 => ?_)
                ·
                  refine lv_iload_n S.x S.b d_Mpg_check_328 rfl (lv_at hl 5 rfl) ?_
                  refine lv_if_eq (tgt := 348) S.x S.b d_Mpg_check_329 (by decide) (fun c588 => ?_) (fun c588 => ?_)
                  · have nc588 : p1.toInt = (0 : Int) := (i_eq (x := p1) (y := 0)).mp c588
                    refine lv_iload_n S.x S.b d_Mpg_check_348 rfl (lv_at hl 2 rfl) ?_
                    exact px_iret (v := 1) S hr rfl hlk hAe hw (Nat.le_of_ble_eq_true rfl) (Nat.le_of_ble_eq_true rfl) (⟨ma549, cf571, rfl, (show KpE cf cf571 from hke), (show WrV cf571 (tf 6).toInt from hwr), (show (cf571 33).toInt = (cf 33).toInt from by first | exact oz_1687f4cc65 e555 e576 | omega), (show (cf571 38).toInt = (cf 38).toInt from by first | exact oz_1687f4cc65 e556 e577 | omega), (show (cf571 48).toInt = (cf 48).toInt from by first | exact oz_1687f4cc65 e557 e578 | omega), (show (cf571 46).toInt = (cf 46).toInt from by first | exact oz_1687f4cc65 e558 e579 | omega), (show (cf571 47).toInt = (cf 47).toInt from by first | exact oz_1687f4cc65 e559 e580 | omega), (show (cf571 57).toInt = (cf 57).toInt from by first | exact oz_1687f4cc65 e560 e581 | omega), (show Ann na ma0 ma549 from han), (show FrC lo hi ma ma549 from hfc), (show 0 ≤ (1 : Int) from by first | decide | omega), (show (1 : Int) ≤ 4 from by first | decide | omega), (show NmJ ta ca na ma549 kn p0 (1 : Int) from (fun h => absurd h (by first | with_reducible rfl | with_reducible assumption | omega))), (show ZTy cf571 (Gk ta ca na ma0 ns ys nf) na ma549 lo hi p0 (1 : Int) from (fun zz => Or.inr ⟨by first | with_reducible rfl | with_reducible assumption | omega, ty_5p hrg (by first | with_reducible rfl | with_reducible assumption | omega) (by show sz ta (na 15 p0.toNatClampNeg) = 2; rw [← ez511]; omega) ez545 ((ZTy.pl hzt_z545 hzpl_z545 zz).le (by first | with_reducible rfl | with_reducible assumption | omega) (by first | with_reducible rfl | with_reducible assumption | omega)) (hzpl_z545 zz) (ZTy.n0 hzt_z545 zz)⟩)), (show ZNm cf571 p1.toInt (1 : Int) from (zty_num (G := (Gk ta ca na ma0 ns ys nf)) (na := na) (ma := ma549) (lo := lo) (hi := hi) (n := p0) (fun zz => Or.inr ⟨by first | with_reducible rfl | with_reducible assumption | omega, ty_5p hrg (by first | with_reducible rfl | with_reducible assumption | omega) (by show sz ta (na 15 p0.toNatClampNeg) = 2; rw [← ez511]; omega) ez545 ((ZTy.pl hzt_z545 hzpl_z545 zz).le (by first | with_reducible rfl | with_reducible assumption | omega) (by first | with_reducible rfl | with_reducible assumption | omega)) (hzpl_z545 zz) (ZTy.n0 hzt_z545 zz)⟩) (by first | with_reducible rfl | with_reducible assumption | omega)))⟩) d_Mpg_check_349
                  · have nc588 : ¬ p1.toInt = (0 : Int) := mt (i_eq (x := p1) (y := 0)).mpr c588
                    refine lv_iload_n S.x S.b d_Mpg_check_332 rfl (lv_at hl 2 rfl) ?_
                    refine lv_iconst (v := 4) S.x S.b d_Mpg_check_333 (by decide) ?_
                    refine lv_icmp_ne (tgt := 348) S.x S.b d_Mpg_check_334 (by decide) (fun c589 => ?_) (fun c589 => ?_)
                    ·
                      refine lv_iload_n S.x S.b d_Mpg_check_348 rfl (lv_at hl 2 rfl) ?_
                      exact px_iret (v := 1) S hr rfl hlk hAe hw (Nat.le_of_ble_eq_true rfl) (Nat.le_of_ble_eq_true rfl) (⟨ma549, cf571, rfl, (show KpE cf cf571 from hke), (show WrV cf571 (tf 6).toInt from hwr), (show (cf571 33).toInt = (cf 33).toInt from by first | exact oz_1687f4cc65 e555 e576 | omega), (show (cf571 38).toInt = (cf 38).toInt from by first | exact oz_1687f4cc65 e556 e577 | omega), (show (cf571 48).toInt = (cf 48).toInt from by first | exact oz_1687f4cc65 e557 e578 | omega), (show (cf571 46).toInt = (cf 46).toInt from by first | exact oz_1687f4cc65 e558 e579 | omega), (show (cf571 47).toInt = (cf 47).toInt from by first | exact oz_1687f4cc65 e559 e580 | omega), (show (cf571 57).toInt = (cf 57).toInt from by first | exact oz_1687f4cc65 e560 e581 | omega), (show Ann na ma0 ma549 from han), (show FrC lo hi ma ma549 from hfc), (show 0 ≤ (1 : Int) from by first | decide | omega), (show (1 : Int) ≤ 4 from by first | decide | omega), (show NmJ ta ca na ma549 kn p0 (1 : Int) from (fun h => absurd h (by first | with_reducible rfl | with_reducible assumption | omega))), (show ZTy cf571 (Gk ta ca na ma0 ns ys nf) na ma549 lo hi p0 (1 : Int) from (fun zz => Or.inr ⟨by first | with_reducible rfl | with_reducible assumption | omega, ty_5p hrg (by first | with_reducible rfl | with_reducible assumption | omega) (by show sz ta (na 15 p0.toNatClampNeg) = 2; rw [← ez511]; omega) ez545 ((ZTy.pl hzt_z545 hzpl_z545 zz).le (by first | with_reducible rfl | with_reducible assumption | omega) (by first | with_reducible rfl | with_reducible assumption | omega)) (hzpl_z545 zz) (ZTy.n0 hzt_z545 zz)⟩)), (show ZNm cf571 p1.toInt (1 : Int) from (zty_num (G := (Gk ta ca na ma0 ns ys nf)) (na := na) (ma := ma549) (lo := lo) (hi := hi) (n := p0) (fun zz => Or.inr ⟨by first | with_reducible rfl | with_reducible assumption | omega, ty_5p hrg (by first | with_reducible rfl | with_reducible assumption | omega) (by show sz ta (na 15 p0.toNatClampNeg) = 2; rw [← ez511]; omega) ez545 ((ZTy.pl hzt_z545 hzpl_z545 zz).le (by first | with_reducible rfl | with_reducible assumption | omega) (by first | with_reducible rfl | with_reducible assumption | omega)) (hzpl_z545 zz) (ZTy.n0 hzt_z545 zz)⟩) (by first | with_reducible rfl | with_reducible assumption | omega)))⟩) d_Mpg_check_349
                    · exact absurd c589 (by decide)
                · exact absurd c587 (by decide)
        · exact absurd c546 (by decide)
    · simp only [List.mem_cons, List.not_mem_nil, or_false] at c200
      refine lv_aload_n S.x S.b d_Mpg_check_161 rfl (lv_at hl 1 rfl) ?_
      refine lv_aload_n S.x S.b d_Mpg_check_162 rfl (lv_at hl 1 rfl) ?_
      refine px_get S k_Mpg hT hw 0 0 17 (v := .ref (r 17)) rfl rfl rfl (by decide) m10_1 d_Mpg_check_163 ?_
      refine lv_iload_n S.x S.b d_Mpg_check_166 rfl (lv_at hl 2 rfl) ?_
      refine px_iald S hT hw 0 13 (n := 2100) (f := (na 17)) rfl gp_17 (x := p0) (vp_in_iff.mpr (by first | exact oz_a7e05de1cd hrg.2.2 hrg.2.1 g1 g2 | (constructor <;> omega))) d_Mpg_check_167 ?_
      refine lv_topi (fun z590 ez590 => ?_)
      have lz590 := Int32.le_toInt z590
      have uz590 := Int32.toInt_lt z590
      have hec_z590 := EcV.k56 hec_p0 (by first | with_reducible rfl | with_reducible assumption | omega) ez590; have hrg_z590 := EcV.rng hec_z590
      refine lv_iconst (v := 0) S.x S.b d_Mpg_check_168 (by decide) ?_
      refine px_calli (pr := []) (px_runV (As := [.int z590, .int 0]) (rest := []) S (hLC ma0 ys ns nf kn lo p0.toInt h r g tf ta pf na wa ca ef ea xf xa ma cf z590 0 (show 0 ≤ lo from by first | exact g0 | omega) (show p0.toInt ≤ (pf 13).toInt from by first | exact oz_6996e0781a g1 hrg.2.1 | omega) (show (pf 13).toInt ≤ 2100 from by first | exact g2 | omega) (show (tf 6).toInt ≤ 2049 from by first | exact g3 | omega) (show (cf 33).toInt = kn from by first | exact g4 | omega) (show 0 ≤ kn from by first | exact g5 | omega) (show (cf 48).toInt = ns from by first | exact g6 | omega) (show (cf 38).toInt = nf from by first | exact g7 | omega) (show 0 ≤ nf from by first | exact g8 | omega) (show 0 ≤ (0 : Int) from by first | decide | omega) (show (0 : Int) ≤ 1 from by first | decide | omega) htk (FsI.le (N' := (pf 13).toInt) hfs (by first | with_reducible rfl | with_reducible assumption | omega)) hwr (KnT.eq hkt (by first | with_reducible rfl | with_reducible assumption | omega)) (FnT.eq hft (by first | with_reducible rfl | with_reducible assumption | omega)) hks hfp han hec_z590 _) hT (pr := []) (pcs := [wdP cs h r g tf ta pf na ma wa cf ca ef ea xf xa]) hw (oX_call (P := (fun A U H => (oP A g U H))) (pr := []) oG_P hw hA hP) (px_recv hT hw 0 0 rfl rfl rfl) m12_217 m12_214 m12_216 ms_12_7 m1_21 q_Mpg_check ⟨show (4 * d + 12) + 1 ≤ (4 * (d + 1) + 12) from by first | with_reducible rfl | with_reducible assumption | omega, show 8 + (8 + 11) + (200 * d + 420) ≤ (200 * (d + 1) + 420) from by first | with_reducible rfl | with_reducible assumption | omega⟩ hl.1 rfl (Nat.le_of_ble_eq_true rfl) d_Mpg_check_169 ⟨Nat.le_of_ble_eq_true rfl, Nat.le_of_ble_eq_true rfl⟩) hw hA (fun v596 p595 H locs hp595 hw => ?_)
      obtain ⟨ma593, cf594, rfl, e597, e598, e599, e600, e601, e602, e603, e604, e605, e606, e607, e608, e609, e610, e611⟩ := hp595
      have e597 : KpE cf cf594 := e597
      have hke := (hke).tr e597
      have hkz_e597 := e597.2
      have e598 : WrV cf594 (tf 6).toInt := e598
      have hwr := e598
      have hw0_e598 := hwr.1
      have e599 : (cf594 33).toInt = (cf 33).toInt := e599
      have e600 : (cf594 38).toInt = (cf 38).toInt := e600
      have e601 : (cf594 48).toInt = (cf 48).toInt := e601
      have e602 : (cf594 46).toInt = (cf 46).toInt := e602
      have e603 : (cf594 47).toInt = (cf 47).toInt := e603
      have e604 : (cf594 57).toInt = (cf 57).toInt := e604
      have e605 : Ann na ma0 ma593 := e605
      have han := e605
      have e606 : FrC lo p0.toInt ma ma593 := e606
      have hfc := hfc.tr e606 (by first | with_reducible rfl | with_reducible assumption | omega) (by first | with_reducible rfl | with_reducible assumption | omega)
      have e607 : 0 ≤ v596.toInt := e607
      have e608 : v596.toInt ≤ 4 := e608
      have e609 : NmJ ta ca na ma593 kn z590 v596.toInt := e609
      have hnm_z590 := e609
      have e610 : ZTy cf594 (Gk ta ca na ma0 ns ys nf) na ma593 lo p0.toInt z590 v596.toInt := e610
      have hzt_z590 := e610
      have e611 : ZNm cf594 (0 : Int) v596.toInt := e611
      have hw : pw D A s.heap H locs [wdP cs h r g tf ta pf na ma593 wa cf594 ca ef ea xf xa] := hw
      have lv596 := Int32.le_toInt v596
      have uv596 := Int32.toInt_lt v596
      refine lv_istore (lv' := [(6, .int v596), (3, .int 1), (0, .ref h), (1, .int p0), (2, .int p1)]) S.x S.b d_Mpg_check_172 hl (by decide) rfl (fun ls hl => ?_)
      refine lv_aload_n S.x S.b d_Mpg_check_174 rfl (lv_at hl 2 rfl) ?_
      refine lv_aload_n S.x S.b d_Mpg_check_175 rfl (lv_at hl 2 rfl) ?_
      refine px_get S k_Mpg hT hw 0 0 17 (v := .ref (r 17)) rfl rfl rfl (by decide) m10_1 d_Mpg_check_176 ?_
      refine lv_iload_n S.x S.b d_Mpg_check_179 rfl (lv_at hl 3 rfl) ?_
      refine px_iald S hT hw 0 13 (n := 2100) (f := (na 17)) rfl gp_17 (x := p0) (vp_in_iff.mpr (by first | exact oz_a7e05de1cd hrg.2.2 hrg.2.1 g1 g2 | (constructor <;> omega))) d_Mpg_check_180 ?_
      refine lv_topi (fun z612 ez612 => ?_)
      have lz612 := Int32.le_toInt z612
      have uz612 := Int32.toInt_lt z612
      have hsz612 : z590 = z612 := ez590.trans ez612.symm; subst hsz612
      refine lv_iload S.x S.b d_Mpg_check_181 (lv_at hl 0 rfl) ?_
      refine px_callv (pr := []) (px_runV (As := [.int z590, .int v596]) (rest := []) S (c_mp_checkPlace l D cs ma0 ys ns nf kn d lo p0.toInt h r g tf ta pf na ma593 wa ca ef ea xf xa cf594 z590 v596  (show 0 ≤ lo from by first | exact g0 | omega) (show p0.toInt ≤ (pf 13).toInt from by first | exact oz_6996e0781a g1 hrg.2.1 | omega) (show (pf 13).toInt ≤ 2100 from by first | exact g2 | omega) (show (tf 6).toInt ≤ 2049 from by first | exact g3 | omega) (show (cf594 33).toInt = kn from by first | exact oz_1687f4cc65 g4 e599 | omega) (show 0 ≤ kn from by first | exact g5 | omega) (show (cf594 48).toInt = ns from by first | exact oz_1687f4cc65 g6 e601 | omega) (show (cf594 38).toInt = nf from by first | exact oz_1687f4cc65 g7 e600 | omega) (show 0 ≤ nf from by first | exact g8 | omega) (show 0 ≤ v596.toInt from by first | exact e607 | omega) (show v596.toInt ≤ 4 from by first | exact e608 | omega) htk (FsI.le (N' := (pf 13).toInt) hfs (by first | with_reducible rfl | with_reducible assumption | omega)) hwr (KnT.eq hkt (by first | with_reducible rfl | with_reducible assumption | omega)) (FnT.eq hft (by first | with_reducible rfl | with_reducible assumption | omega)) hks hec_z590 hnm_z590 _) hT (pr := []) (pcs := [wdP cs h r g tf ta pf na ma593 wa cf594 ca ef ea xf xa]) hw (oX_call (P := (fun A U H => (oP A g U H))) (pr := []) oG_P hw hA hP) (px_recv hT hw 0 0 rfl rfl rfl) m13_25 m13_22 m13_24 ms_13_3 m1_21 q_Mpg_checkPlace ⟨show 3 + 1 ≤ (4 * (d + 1) + 12) from by first | with_reducible rfl | with_reducible assumption | omega, show 8 + (4 + 11) + 120 ≤ (200 * (d + 1) + 420) from by first | with_reducible rfl | with_reducible assumption | omega⟩ hl.1 rfl (Nat.le_of_ble_eq_true rfl) d_Mpg_check_183 ⟨Nat.le_of_ble_eq_true rfl, Nat.le_of_ble_eq_true rfl⟩) hw hA (fun p615 H locs hp615 hw => ?_)
      obtain ⟨cf614, rfl, e617, e618, e619, e620, e621, e622, e623, e624, e625⟩ := hp615
      have e617 : KpE cf594 cf614 := e617
      have hke := (hke).tr e617
      have hkz_e617 := e617.2
      have hzt_z590 := Zr.kp hzt_z590 e617 id
      have e618 : WrV cf614 (tf 6).toInt := e618
      have hwr := e618
      have hw0_e618 := hwr.1
      have e619 : (cf614 33).toInt = (cf594 33).toInt := e619
      have e620 : (cf614 38).toInt = (cf594 38).toInt := e620
      have e621 : (cf614 48).toInt = (cf594 48).toInt := e621
      have e622 : (cf614 46).toInt = (cf594 46).toInt := e622
      have e623 : (cf614 47).toInt = (cf594 47).toInt := e623
      have e624 : (cf614 57).toInt = (cf594 57).toInt := e624
      have e625 : ZPl cf614 na ma593 z590 v596.toInt := e625
      have hzpl_z590 := e625
      have hw : pw D A s.heap H locs [wdP cs h r g tf ta pf na ma593 wa cf614 ca ef ea xf xa] := hw
      refine lv_goto (tgt := 301) S.x S.b d_Mpg_check_186 (by decide) ?_
      refine lv_iload_n S.x S.b d_Mpg_check_301 rfl (lv_at hl 4 rfl) ?_
      refine lv_if_eq (tgt := 328) S.x S.b d_Mpg_check_302 (by decide) (fun c626 => ?_) (fun c626 => ?_)
      · have nc626 : p1.toInt = (0 : Int) := (i_eq (x := p1) (y := 0)).mp c626
        refine lv_iload_n S.x S.b d_Mpg_check_328 rfl (lv_at hl 4 rfl) ?_
        refine lv_if_eq (tgt := 348) S.x S.b d_Mpg_check_329 (by decide) (fun c627 => ?_) (fun c627 => ?_)
        · have nc627 : p1.toInt = (0 : Int) := (i_eq (x := p1) (y := 0)).mp c627
          refine lv_iload_n S.x S.b d_Mpg_check_348 rfl (lv_at hl 1 rfl) ?_
          exact px_iret (v := 1) S hr rfl hlk hAe hw (Nat.le_of_ble_eq_true rfl) (Nat.le_of_ble_eq_true rfl) (⟨ma593, cf614, rfl, (show KpE cf cf614 from hke), (show WrV cf614 (tf 6).toInt from hwr), (show (cf614 33).toInt = (cf 33).toInt from by first | exact oz_1687f4cc65 e599 e619 | omega), (show (cf614 38).toInt = (cf 38).toInt from by first | exact oz_1687f4cc65 e600 e620 | omega), (show (cf614 48).toInt = (cf 48).toInt from by first | exact oz_1687f4cc65 e601 e621 | omega), (show (cf614 46).toInt = (cf 46).toInt from by first | exact oz_1687f4cc65 e602 e622 | omega), (show (cf614 47).toInt = (cf 47).toInt from by first | exact oz_1687f4cc65 e603 e623 | omega), (show (cf614 57).toInt = (cf 57).toInt from by first | exact oz_1687f4cc65 e604 e624 | omega), (show Ann na ma0 ma593 from han), (show FrC lo hi ma ma593 from hfc), (show 0 ≤ (1 : Int) from by first | decide | omega), (show (1 : Int) ≤ 4 from by first | decide | omega), (show NmJ ta ca na ma593 kn p0 (1 : Int) from (fun h => absurd h (by first | with_reducible rfl | with_reducible assumption | omega))), (show ZTy cf614 (Gk ta ca na ma0 ns ys nf) na ma593 lo hi p0 (1 : Int) from (fun zz => Or.inr ⟨by first | with_reducible rfl | with_reducible assumption | omega, ty_6 hrg (by first | with_reducible rfl | with_reducible assumption | omega) ez590 ((ZTy.pl hzt_z590 hzpl_z590 zz).le (by first | with_reducible rfl | with_reducible assumption | omega) (by first | with_reducible rfl | with_reducible assumption | omega)) (hzpl_z590 zz) (ZTy.n0 hzt_z590 zz)⟩)), (show ZNm cf614 p1.toInt (1 : Int) from (zty_num (G := (Gk ta ca na ma0 ns ys nf)) (na := na) (ma := ma593) (lo := lo) (hi := hi) (n := p0) (fun zz => Or.inr ⟨by first | with_reducible rfl | with_reducible assumption | omega, ty_6 hrg (by first | with_reducible rfl | with_reducible assumption | omega) ez590 ((ZTy.pl hzt_z590 hzpl_z590 zz).le (by first | with_reducible rfl | with_reducible assumption | omega) (by first | with_reducible rfl | with_reducible assumption | omega)) (hzpl_z590 zz) (ZTy.n0 hzt_z590 zz)⟩) (by first | with_reducible rfl | with_reducible assumption | omega)))⟩) d_Mpg_check_349
        · have nc627 : ¬ p1.toInt = (0 : Int) := mt (i_eq (x := p1) (y := 0)).mpr c627
          refine lv_iload_n S.x S.b d_Mpg_check_332 rfl (lv_at hl 1 rfl) ?_
          refine lv_iconst (v := 4) S.x S.b d_Mpg_check_333 (by decide) ?_
          refine lv_icmp_ne (tgt := 348) S.x S.b d_Mpg_check_334 (by decide) (fun c628 => ?_) (fun c628 => ?_)
          ·
            refine lv_iload_n S.x S.b d_Mpg_check_348 rfl (lv_at hl 1 rfl) ?_
            exact px_iret (v := 1) S hr rfl hlk hAe hw (Nat.le_of_ble_eq_true rfl) (Nat.le_of_ble_eq_true rfl) (⟨ma593, cf614, rfl, (show KpE cf cf614 from hke), (show WrV cf614 (tf 6).toInt from hwr), (show (cf614 33).toInt = (cf 33).toInt from by first | exact oz_1687f4cc65 e599 e619 | omega), (show (cf614 38).toInt = (cf 38).toInt from by first | exact oz_1687f4cc65 e600 e620 | omega), (show (cf614 48).toInt = (cf 48).toInt from by first | exact oz_1687f4cc65 e601 e621 | omega), (show (cf614 46).toInt = (cf 46).toInt from by first | exact oz_1687f4cc65 e602 e622 | omega), (show (cf614 47).toInt = (cf 47).toInt from by first | exact oz_1687f4cc65 e603 e623 | omega), (show (cf614 57).toInt = (cf 57).toInt from by first | exact oz_1687f4cc65 e604 e624 | omega), (show Ann na ma0 ma593 from han), (show FrC lo hi ma ma593 from hfc), (show 0 ≤ (1 : Int) from by first | decide | omega), (show (1 : Int) ≤ 4 from by first | decide | omega), (show NmJ ta ca na ma593 kn p0 (1 : Int) from (fun h => absurd h (by first | with_reducible rfl | with_reducible assumption | omega))), (show ZTy cf614 (Gk ta ca na ma0 ns ys nf) na ma593 lo hi p0 (1 : Int) from (fun zz => Or.inr ⟨by first | with_reducible rfl | with_reducible assumption | omega, ty_6 hrg (by first | with_reducible rfl | with_reducible assumption | omega) ez590 ((ZTy.pl hzt_z590 hzpl_z590 zz).le (by first | with_reducible rfl | with_reducible assumption | omega) (by first | with_reducible rfl | with_reducible assumption | omega)) (hzpl_z590 zz) (ZTy.n0 hzt_z590 zz)⟩)), (show ZNm cf614 p1.toInt (1 : Int) from (zty_num (G := (Gk ta ca na ma0 ns ys nf)) (na := na) (ma := ma593) (lo := lo) (hi := hi) (n := p0) (fun zz => Or.inr ⟨by first | with_reducible rfl | with_reducible assumption | omega, ty_6 hrg (by first | with_reducible rfl | with_reducible assumption | omega) ez590 ((ZTy.pl hzt_z590 hzpl_z590 zz).le (by first | with_reducible rfl | with_reducible assumption | omega) (by first | with_reducible rfl | with_reducible assumption | omega)) (hzpl_z590 zz) (ZTy.n0 hzt_z590 zz)⟩) (by first | with_reducible rfl | with_reducible assumption | omega)))⟩) d_Mpg_check_349
          · exact absurd c628 (by decide)
      · have nc626 : ¬ p1.toInt = (0 : Int) := mt (i_eq (x := p1) (y := 0)).mpr c626
        refine lv_iload_n S.x S.b d_Mpg_check_305 rfl (lv_at hl 1 rfl) ?_
        refine lv_iconst (v := 2) S.x S.b d_Mpg_check_306 (by decide) ?_
        refine lv_icmp_eq (tgt := 315) S.x S.b d_Mpg_check_307 (by decide) (fun c629 => ?_) (fun c629 => ?_)
        · exact absurd c629 (by decide)
        ·
          refine lv_iload_n S.x S.b d_Mpg_check_310 rfl (lv_at hl 1 rfl) ?_
          refine lv_iconst (v := 3) S.x S.b d_Mpg_check_311 (by decide) ?_
          refine lv_icmp_ne (tgt := 328) S.x S.b d_Mpg_check_312 (by decide) (fun c630 => ?_) (fun c630 => ?_)
          ·
            refine lv_iload_n S.x S.b d_Mpg_check_328 rfl (lv_at hl 4 rfl) ?_
            refine lv_if_eq (tgt := 348) S.x S.b d_Mpg_check_329 (by decide) (fun c631 => ?_) (fun c631 => ?_)
            · have nc631 : p1.toInt = (0 : Int) := (i_eq (x := p1) (y := 0)).mp c631
              refine lv_iload_n S.x S.b d_Mpg_check_348 rfl (lv_at hl 1 rfl) ?_
              exact px_iret (v := 1) S hr rfl hlk hAe hw (Nat.le_of_ble_eq_true rfl) (Nat.le_of_ble_eq_true rfl) (⟨ma593, cf614, rfl, (show KpE cf cf614 from hke), (show WrV cf614 (tf 6).toInt from hwr), (show (cf614 33).toInt = (cf 33).toInt from by first | exact oz_1687f4cc65 e599 e619 | omega), (show (cf614 38).toInt = (cf 38).toInt from by first | exact oz_1687f4cc65 e600 e620 | omega), (show (cf614 48).toInt = (cf 48).toInt from by first | exact oz_1687f4cc65 e601 e621 | omega), (show (cf614 46).toInt = (cf 46).toInt from by first | exact oz_1687f4cc65 e602 e622 | omega), (show (cf614 47).toInt = (cf 47).toInt from by first | exact oz_1687f4cc65 e603 e623 | omega), (show (cf614 57).toInt = (cf 57).toInt from by first | exact oz_1687f4cc65 e604 e624 | omega), (show Ann na ma0 ma593 from han), (show FrC lo hi ma ma593 from hfc), (show 0 ≤ (1 : Int) from by first | decide | omega), (show (1 : Int) ≤ 4 from by first | decide | omega), (show NmJ ta ca na ma593 kn p0 (1 : Int) from (fun h => absurd h (by first | with_reducible rfl | with_reducible assumption | omega))), (show ZTy cf614 (Gk ta ca na ma0 ns ys nf) na ma593 lo hi p0 (1 : Int) from (fun zz => Or.inr ⟨by first | with_reducible rfl | with_reducible assumption | omega, ty_6 hrg (by first | with_reducible rfl | with_reducible assumption | omega) ez590 ((ZTy.pl hzt_z590 hzpl_z590 zz).le (by first | with_reducible rfl | with_reducible assumption | omega) (by first | with_reducible rfl | with_reducible assumption | omega)) (hzpl_z590 zz) (ZTy.n0 hzt_z590 zz)⟩)), (show ZNm cf614 p1.toInt (1 : Int) from (zty_num (G := (Gk ta ca na ma0 ns ys nf)) (na := na) (ma := ma593) (lo := lo) (hi := hi) (n := p0) (fun zz => Or.inr ⟨by first | with_reducible rfl | with_reducible assumption | omega, ty_6 hrg (by first | with_reducible rfl | with_reducible assumption | omega) ez590 ((ZTy.pl hzt_z590 hzpl_z590 zz).le (by first | with_reducible rfl | with_reducible assumption | omega) (by first | with_reducible rfl | with_reducible assumption | omega)) (hzpl_z590 zz) (ZTy.n0 hzt_z590 zz)⟩) (by first | with_reducible rfl | with_reducible assumption | omega)))⟩) d_Mpg_check_349
            · have nc631 : ¬ p1.toInt = (0 : Int) := mt (i_eq (x := p1) (y := 0)).mpr c631
              refine lv_iload_n S.x S.b d_Mpg_check_332 rfl (lv_at hl 1 rfl) ?_
              refine lv_iconst (v := 4) S.x S.b d_Mpg_check_333 (by decide) ?_
              refine lv_icmp_ne (tgt := 348) S.x S.b d_Mpg_check_334 (by decide) (fun c632 => ?_) (fun c632 => ?_)
              ·
                refine lv_iload_n S.x S.b d_Mpg_check_348 rfl (lv_at hl 1 rfl) ?_
                exact px_iret (v := 1) S hr rfl hlk hAe hw (Nat.le_of_ble_eq_true rfl) (Nat.le_of_ble_eq_true rfl) (⟨ma593, cf614, rfl, (show KpE cf cf614 from hke), (show WrV cf614 (tf 6).toInt from hwr), (show (cf614 33).toInt = (cf 33).toInt from by first | exact oz_1687f4cc65 e599 e619 | omega), (show (cf614 38).toInt = (cf 38).toInt from by first | exact oz_1687f4cc65 e600 e620 | omega), (show (cf614 48).toInt = (cf 48).toInt from by first | exact oz_1687f4cc65 e601 e621 | omega), (show (cf614 46).toInt = (cf 46).toInt from by first | exact oz_1687f4cc65 e602 e622 | omega), (show (cf614 47).toInt = (cf 47).toInt from by first | exact oz_1687f4cc65 e603 e623 | omega), (show (cf614 57).toInt = (cf 57).toInt from by first | exact oz_1687f4cc65 e604 e624 | omega), (show Ann na ma0 ma593 from han), (show FrC lo hi ma ma593 from hfc), (show 0 ≤ (1 : Int) from by first | decide | omega), (show (1 : Int) ≤ 4 from by first | decide | omega), (show NmJ ta ca na ma593 kn p0 (1 : Int) from (fun h => absurd h (by first | with_reducible rfl | with_reducible assumption | omega))), (show ZTy cf614 (Gk ta ca na ma0 ns ys nf) na ma593 lo hi p0 (1 : Int) from (fun zz => Or.inr ⟨by first | with_reducible rfl | with_reducible assumption | omega, ty_6 hrg (by first | with_reducible rfl | with_reducible assumption | omega) ez590 ((ZTy.pl hzt_z590 hzpl_z590 zz).le (by first | with_reducible rfl | with_reducible assumption | omega) (by first | with_reducible rfl | with_reducible assumption | omega)) (hzpl_z590 zz) (ZTy.n0 hzt_z590 zz)⟩)), (show ZNm cf614 p1.toInt (1 : Int) from (zty_num (G := (Gk ta ca na ma0 ns ys nf)) (na := na) (ma := ma593) (lo := lo) (hi := hi) (n := p0) (fun zz => Or.inr ⟨by first | with_reducible rfl | with_reducible assumption | omega, ty_6 hrg (by first | with_reducible rfl | with_reducible assumption | omega) ez590 ((ZTy.pl hzt_z590 hzpl_z590 zz).le (by first | with_reducible rfl | with_reducible assumption | omega) (by first | with_reducible rfl | with_reducible assumption | omega)) (hzpl_z590 zz) (ZTy.n0 hzt_z590 zz)⟩) (by first | with_reducible rfl | with_reducible assumption | omega)))⟩) d_Mpg_check_349
              · exact absurd c632 (by decide)
          · exact absurd c630 (by decide)
    · simp only [List.mem_cons, List.not_mem_nil, or_false] at c200
      refine lv_aload_n S.x S.b d_Mpg_check_189 rfl (lv_at hl 1 rfl) ?_
      refine px_get S k_Mpg hT hw 0 0 17 (v := .ref (r 17)) rfl rfl rfl (by decide) m10_1 d_Mpg_check_190 ?_
      refine lv_iload_n S.x S.b d_Mpg_check_193 rfl (lv_at hl 2 rfl) ?_
      refine px_iald S hT hw 0 13 (n := 2100) (f := (na 17)) rfl gp_17 (x := p0) (vp_in_iff.mpr (by first | exact oz_a7e05de1cd hrg.2.2 hrg.2.1 g1 g2 | (constructor <;> omega))) d_Mpg_check_194 ?_
      refine lv_topi (fun z633 ez633 => ?_)
      have lz633 := Int32.le_toInt z633
      have uz633 := Int32.toInt_lt z633
      have hrr := EcV.k7 hec_p0 (by first | with_reducible rfl | with_reducible assumption | omega) ez633
      refine lv_istore (lv' := [(7, .int z633), (3, .int 1), (0, .ref h), (1, .int p0), (2, .int p1)]) S.x S.b d_Mpg_check_195 hl (by decide) rfl (fun ls hl => ?_)
      exact J197 ((hi - lo).toNat + 1) ma cf lo (1 : Int32) z633 _ _ ls (show KpE cf cf from hke) (show WrV cf (tf 6).toInt from hwr) (show (cf 33).toInt = (cf 33).toInt from rfl) (show (cf 38).toInt = (cf 38).toInt from rfl) (show (cf 48).toInt = (cf 48).toInt from rfl) (show (cf 46).toInt = (cf 46).toInt from rfl) (show (cf 47).toInt = (cf 47).toInt from rfl) (show (cf 57).toInt = (cf 57).toInt from rfl) (show Ann na ma0 ma from han) (show FrC lo hi ma ma from hfc) (show (1 : Int) = 1 from by first | decide | omega) (show lo ≤ lo from by first | exact oz_1cb5f934a5 | omega) (show lo ≤ hi from by first | exact oz_dec8fc8b31 hrg.1 hrg.2.1 | omega) (show (na 14 p0.toNatClampNeg).toInt = 7 from by first | with_reducible rfl | with_reducible assumption | omega) (show RcN ta (tf 6).toInt na ma0 d p0 lo hi z633 from hrr) (show ZTr cf (Gk ta ca na ma0 ns ys nf) na ma lo lo (na 17 p0.toNatClampNeg) z633 from (fun _ => by rw [← ez633]; exact tyr_0)) (show hi - lo < ((((hi - lo).toNat + 1 : Nat) : Int) : Int) from by first | exact oz_natlt | omega) hw (lv_sub hl [2, 3, 4, 1, 0] rfl)
    · simp only [List.mem_cons, List.not_mem_nil, or_false] at c200
      refine lv_aload_n S.x S.b d_Mpg_check_225 rfl (lv_at hl 1 rfl) ?_
      refine lv_aload_n S.x S.b d_Mpg_check_226 rfl (lv_at hl 1 rfl) ?_
      refine px_get S k_Mpg hT hw 0 0 17 (v := .ref (r 17)) rfl rfl rfl (by decide) m10_1 d_Mpg_check_227 ?_
      refine lv_iload_n S.x S.b d_Mpg_check_230 rfl (lv_at hl 2 rfl) ?_
      refine px_iald S hT hw 0 13 (n := 2100) (f := (na 17)) rfl gp_17 (x := p0) (vp_in_iff.mpr (by first | exact oz_a7e05de1cd hrg.2.2 hrg.2.1 g1 g2 | (constructor <;> omega))) d_Mpg_check_231 ?_
      refine lv_topi (fun z634 ez634 => ?_)
      have lz634 := Int32.le_toInt z634
      have uz634 := Int32.toInt_lt z634
      obtain ⟨m1, m2, hm1, hm2, hec_z634, hec_y8, hec_x8⟩ := EcV.k8 hec_p0 (by first | with_reducible rfl | with_reducible assumption | omega) ez634 rfl rfl; have hrg_z634 := EcV.rng hec_z634; have hrg_y8 := EcV.rng hec_y8; have hrg_x8 := EcV.rng hec_x8
      refine lv_iconst (v := 1) S.x S.b d_Mpg_check_232 (by decide) ?_
      refine px_calli (pr := []) (px_runV (As := [.int z634, .int 1]) (rest := []) S (hLC ma0 ys ns nf kn lo m1 h r g tf ta pf na wa ca ef ea xf xa ma cf z634 1 (show 0 ≤ lo from by first | exact g0 | omega) (show m1 ≤ (pf 13).toInt from by first | exact oz_0ba3c94183 g1 hrg_y8.1 hrg.2.1 hm2 hrg_y8.2.1 | omega) (show (pf 13).toInt ≤ 2100 from by first | exact g2 | omega) (show (tf 6).toInt ≤ 2049 from by first | exact g3 | omega) (show (cf 33).toInt = kn from by first | exact g4 | omega) (show 0 ≤ kn from by first | exact g5 | omega) (show (cf 48).toInt = ns from by first | exact g6 | omega) (show (cf 38).toInt = nf from by first | exact g7 | omega) (show 0 ≤ nf from by first | exact g8 | omega) (show 0 ≤ (1 : Int) from by first | decide | omega) (show (1 : Int) ≤ 1 from by first | decide | omega) htk (FsI.le (N' := (pf 13).toInt) hfs (by first | with_reducible rfl | with_reducible assumption | omega)) hwr (KnT.eq hkt (by first | with_reducible rfl | with_reducible assumption | omega)) (FnT.eq hft (by first | with_reducible rfl | with_reducible assumption | omega)) hks hfp han hec_z634 _) hT (pr := []) (pcs := [wdP cs h r g tf ta pf na ma wa cf ca ef ea xf xa]) hw (oX_call (P := (fun A U H => (oP A g U H))) (pr := []) oG_P hw hA hP) (px_recv hT hw 0 0 rfl rfl rfl) m12_217 m12_214 m12_216 ms_12_7 m1_21 q_Mpg_check ⟨show (4 * d + 12) + 1 ≤ (4 * (d + 1) + 12) from by first | with_reducible rfl | with_reducible assumption | omega, show 8 + (8 + 11) + (200 * d + 420) ≤ (200 * (d + 1) + 420) from by first | with_reducible rfl | with_reducible assumption | omega⟩ hl.1 rfl (Nat.le_of_ble_eq_true rfl) d_Mpg_check_233 ⟨Nat.le_of_ble_eq_true rfl, Nat.le_of_ble_eq_true rfl⟩) hw hA (fun v640 p639 H locs hp639 hw => ?_)
      obtain ⟨ma637, cf638, rfl, e641, e642, e643, e644, e645, e646, e647, e648, e649, e650, e651, e652, e653, e654, e655⟩ := hp639
      have e641 : KpE cf cf638 := e641
      have hke := (hke).tr e641
      have hkz_e641 := e641.2
      have e642 : WrV cf638 (tf 6).toInt := e642
      have hwr := e642
      have hw0_e642 := hwr.1
      have e643 : (cf638 33).toInt = (cf 33).toInt := e643
      have e644 : (cf638 38).toInt = (cf 38).toInt := e644
      have e645 : (cf638 48).toInt = (cf 48).toInt := e645
      have e646 : (cf638 46).toInt = (cf 46).toInt := e646
      have e647 : (cf638 47).toInt = (cf 47).toInt := e647
      have e648 : (cf638 57).toInt = (cf 57).toInt := e648
      have e649 : Ann na ma0 ma637 := e649
      have han := e649
      have e650 : FrC lo m1 ma ma637 := e650
      have hfc := hfc.tr e650 (by first | with_reducible rfl | with_reducible assumption | omega) (by first | with_reducible rfl | with_reducible assumption | omega)
      have e651 : 0 ≤ v640.toInt := e651
      have e652 : v640.toInt ≤ 4 := e652
      have e653 : NmJ ta ca na ma637 kn z634 v640.toInt := e653
      have hnm_z634 := e653
      have e654 : ZTy cf638 (Gk ta ca na ma0 ns ys nf) na ma637 lo m1 z634 v640.toInt := e654
      have hzt_z634 := e654
      have e655 : ZNm cf638 (1 : Int) v640.toInt := e655
      have hty_z634 := ZTy.num hzt_z634 e655
      have hw : pw D A s.heap H locs [wdP cs h r g tf ta pf na ma637 wa cf638 ca ef ea xf xa] := hw
      have lv640 := Int32.le_toInt v640
      have uv640 := Int32.toInt_lt v640
      refine lv_pop S.x S.b d_Mpg_check_236 rfl ?_
      refine lv_aload_n S.x S.b d_Mpg_check_237 rfl (lv_at hl 1 rfl) ?_
      refine lv_aload_n S.x S.b d_Mpg_check_238 rfl (lv_at hl 1 rfl) ?_
      refine px_get S k_Mpg hT hw 0 0 18 (v := .ref (r 18)) rfl rfl rfl (by decide) m10_3 d_Mpg_check_239 ?_
      refine lv_iload_n S.x S.b d_Mpg_check_242 rfl (lv_at hl 2 rfl) ?_
      refine px_iald S hT hw 0 14 (n := 2100) (f := (ma637 18)) rfl gp_18 (x := p0) (vp_in_iff.mpr (by first | exact oz_18f227bc52 hrg_x8.2.1 hrg_x8.2.2 hrg.2.1 g1 g2 | (constructor <;> omega))) d_Mpg_check_243 ?_
      refine lv_topi (fun z656 ez656 => ?_)
      have lz656 := Int32.le_toInt z656
      have uz656 := Int32.toInt_lt z656
      have ha_z656 : z656 = ma0 18 p0.toNatClampNeg := ez656.trans (Ann.b18 han (by first | with_reducible rfl | with_reducible assumption | omega)); have hec_z656 : EcV ta (tf 6).toInt na ma0 d m1 m2 z656 := (by rw [ha_z656]; exact hec_y8)
      refine lv_iconst (v := 1) S.x S.b d_Mpg_check_244 (by decide) ?_
      refine px_calli (pr := []) (px_runV (As := [.int z656, .int 1]) (rest := []) S (hLC ma0 ys ns nf kn m1 m2 h r g tf ta pf na wa ca ef ea xf xa ma637 cf638 z656 1 (show 0 ≤ m1 from by first | exact oz_0a7da9c4d6 hrg_z634.2.1 hrg_z634.2.2 | omega) (show m2 ≤ (pf 13).toInt from by first | exact oz_dc2da80b19 g1 hrg_x8.1 hrg.2.1 hrg_x8.2.1 | omega) (show (pf 13).toInt ≤ 2100 from by first | exact g2 | omega) (show (tf 6).toInt ≤ 2049 from by first | exact g3 | omega) (show (cf638 33).toInt = kn from by first | exact oz_1687f4cc65 g4 e643 | omega) (show 0 ≤ kn from by first | exact g5 | omega) (show (cf638 48).toInt = ns from by first | exact oz_1687f4cc65 g6 e645 | omega) (show (cf638 38).toInt = nf from by first | exact oz_1687f4cc65 g7 e644 | omega) (show 0 ≤ nf from by first | exact g8 | omega) (show 0 ≤ (1 : Int) from by first | decide | omega) (show (1 : Int) ≤ 1 from by first | decide | omega) htk (FsI.le (N' := (pf 13).toInt) hfs (by first | with_reducible rfl | with_reducible assumption | omega)) hwr (KnT.eq hkt (by first | with_reducible rfl | with_reducible assumption | omega)) (FnT.eq hft (by first | with_reducible rfl | with_reducible assumption | omega)) hks hfp han hec_z656 _) hT (pr := []) (pcs := [wdP cs h r g tf ta pf na ma637 wa cf638 ca ef ea xf xa]) hw (oX_call (P := (fun A U H => (oP A g U H))) (pr := []) oG_P hw hA hP) (px_recv hT hw 0 0 rfl rfl rfl) m12_217 m12_214 m12_216 ms_12_7 m1_21 q_Mpg_check ⟨show (4 * d + 12) + 1 ≤ (4 * (d + 1) + 12) from by first | with_reducible rfl | with_reducible assumption | omega, show 8 + (8 + 11) + (200 * d + 420) ≤ (200 * (d + 1) + 420) from by first | with_reducible rfl | with_reducible assumption | omega⟩ hl.1 rfl (Nat.le_of_ble_eq_true rfl) d_Mpg_check_245 ⟨Nat.le_of_ble_eq_true rfl, Nat.le_of_ble_eq_true rfl⟩) hw hA (fun v662 p661 H locs hp661 hw => ?_)
      obtain ⟨ma659, cf660, rfl, e663, e664, e665, e666, e667, e668, e669, e670, e671, e672, e673, e674, e675, e676, e677⟩ := hp661
      have e663 : KpE cf638 cf660 := e663
      have hke := (hke).tr e663
      have hkz_e663 := e663.2
      have e664 : WrV cf660 (tf 6).toInt := e664
      have hwr := e664
      have hw0_e664 := hwr.1
      have e665 : (cf660 33).toInt = (cf638 33).toInt := e665
      have e666 : (cf660 38).toInt = (cf638 38).toInt := e666
      have e667 : (cf660 48).toInt = (cf638 48).toInt := e667
      have e668 : (cf660 46).toInt = (cf638 46).toInt := e668
      have e669 : (cf660 47).toInt = (cf638 47).toInt := e669
      have e670 : (cf660 57).toInt = (cf638 57).toInt := e670
      have e671 : Ann na ma0 ma659 := e671
      have han := e671
      have e672 : FrC m1 m2 ma637 ma659 := e672
      have hfc := hfc.tr e672 (by first | with_reducible rfl | with_reducible assumption | omega) (by first | with_reducible rfl | with_reducible assumption | omega)
      have hty_z634 := zte_tr hty_z634 e663 e672 (by first | with_reducible rfl | with_reducible assumption | omega)
      have e673 : 0 ≤ v662.toInt := e673
      have e674 : v662.toInt ≤ 4 := e674
      have e675 : NmJ ta ca na ma659 kn z656 v662.toInt := e675
      have hnm_z656 := e675
      have e676 : ZTy cf660 (Gk ta ca na ma0 ns ys nf) na ma659 m1 m2 z656 v662.toInt := e676
      have hzt_z656 := e676
      have e677 : ZNm cf660 (1 : Int) v662.toInt := e677
      have hty_z656 := ZTy.num hzt_z656 e677
      have hw : pw D A s.heap H locs [wdP cs h r g tf ta pf na ma659 wa cf660 ca ef ea xf xa] := hw
      have lv662 := Int32.le_toInt v662
      have uv662 := Int32.toInt_lt v662
      refine lv_pop S.x S.b d_Mpg_check_248 rfl ?_
      refine lv_aload_n S.x S.b d_Mpg_check_249 rfl (lv_at hl 1 rfl) ?_
      refine lv_aload_n S.x S.b d_Mpg_check_250 rfl (lv_at hl 1 rfl) ?_
      refine px_get S k_Mpg hT hw 0 0 19 (v := .ref (r 19)) rfl rfl rfl (by decide) m10_5 d_Mpg_check_251 ?_
      refine lv_iload_n S.x S.b d_Mpg_check_254 rfl (lv_at hl 2 rfl) ?_
      refine px_iald S hT hw 0 15 (n := 2100) (f := (ma659 19)) rfl gp_19 (x := p0) (vp_in_iff.mpr (by first | exact oz_18f227bc52 hrg_x8.2.1 hrg_x8.2.2 hrg.2.1 g1 g2 | (constructor <;> omega))) d_Mpg_check_255 ?_
      refine lv_topi (fun z678 ez678 => ?_)
      have lz678 := Int32.le_toInt z678
      have uz678 := Int32.toInt_lt z678
      have ha_z678 : z678 = ma0 19 p0.toNatClampNeg := ez678.trans (Ann.b19 han (by first | with_reducible rfl | with_reducible assumption | omega)); have hec_z678 : EcV ta (tf 6).toInt na ma0 d m2 p0.toInt z678 := (by rw [ha_z678]; exact hec_x8)
      refine lv_iconst (v := 1) S.x S.b d_Mpg_check_256 (by decide) ?_
      refine px_calli (pr := []) (px_runV (As := [.int z678, .int 1]) (rest := []) S (hLC ma0 ys ns nf kn m2 p0.toInt h r g tf ta pf na wa ca ef ea xf xa ma659 cf660 z678 1 (show 0 ≤ m2 from by first | exact oz_0a7da9c4d6 hrg_y8.2.1 hrg_y8.2.2 | omega) (show p0.toInt ≤ (pf 13).toInt from by first | exact oz_6996e0781a g1 hrg.2.1 | omega) (show (pf 13).toInt ≤ 2100 from by first | exact g2 | omega) (show (tf 6).toInt ≤ 2049 from by first | exact g3 | omega) (show (cf660 33).toInt = kn from by first | exact oz_e13fc83238 g4 e665 e643 | omega) (show 0 ≤ kn from by first | exact g5 | omega) (show (cf660 48).toInt = ns from by first | exact oz_e13fc83238 g6 e667 e645 | omega) (show (cf660 38).toInt = nf from by first | exact oz_e13fc83238 g7 e666 e644 | omega) (show 0 ≤ nf from by first | exact g8 | omega) (show 0 ≤ (1 : Int) from by first | decide | omega) (show (1 : Int) ≤ 1 from by first | decide | omega) htk (FsI.le (N' := (pf 13).toInt) hfs (by first | with_reducible rfl | with_reducible assumption | omega)) hwr (KnT.eq hkt (by first | with_reducible rfl | with_reducible assumption | omega)) (FnT.eq hft (by first | with_reducible rfl | with_reducible assumption | omega)) hks hfp han hec_z678 _) hT (pr := []) (pcs := [wdP cs h r g tf ta pf na ma659 wa cf660 ca ef ea xf xa]) hw (oX_call (P := (fun A U H => (oP A g U H))) (pr := []) oG_P hw hA hP) (px_recv hT hw 0 0 rfl rfl rfl) m12_217 m12_214 m12_216 ms_12_7 m1_21 q_Mpg_check ⟨show (4 * d + 12) + 1 ≤ (4 * (d + 1) + 12) from by first | with_reducible rfl | with_reducible assumption | omega, show 8 + (8 + 11) + (200 * d + 420) ≤ (200 * (d + 1) + 420) from by first | with_reducible rfl | with_reducible assumption | omega⟩ hl.1 rfl (Nat.le_of_ble_eq_true rfl) d_Mpg_check_257 ⟨Nat.le_of_ble_eq_true rfl, Nat.le_of_ble_eq_true rfl⟩) hw hA (fun v684 p683 H locs hp683 hw => ?_)
      obtain ⟨ma681, cf682, rfl, e685, e686, e687, e688, e689, e690, e691, e692, e693, e694, e695, e696, e697, e698, e699⟩ := hp683
      have e685 : KpE cf660 cf682 := e685
      have hke := (hke).tr e685
      have hkz_e685 := e685.2
      have e686 : WrV cf682 (tf 6).toInt := e686
      have hwr := e686
      have hw0_e686 := hwr.1
      have e687 : (cf682 33).toInt = (cf660 33).toInt := e687
      have e688 : (cf682 38).toInt = (cf660 38).toInt := e688
      have e689 : (cf682 48).toInt = (cf660 48).toInt := e689
      have e690 : (cf682 46).toInt = (cf660 46).toInt := e690
      have e691 : (cf682 47).toInt = (cf660 47).toInt := e691
      have e692 : (cf682 57).toInt = (cf660 57).toInt := e692
      have e693 : Ann na ma0 ma681 := e693
      have han := e693
      have e694 : FrC m2 p0.toInt ma659 ma681 := e694
      have hfc := hfc.tr e694 (by first | with_reducible rfl | with_reducible assumption | omega) (by first | with_reducible rfl | with_reducible assumption | omega)
      have hty_z634 := zte_tr hty_z634 e685 e694 (by first | with_reducible rfl | with_reducible assumption | omega)
      have hty_z656 := zte_tr hty_z656 e685 e694 (by first | with_reducible rfl | with_reducible assumption | omega)
      have e695 : 0 ≤ v684.toInt := e695
      have e696 : v684.toInt ≤ 4 := e696
      have e697 : NmJ ta ca na ma681 kn z678 v684.toInt := e697
      have hnm_z678 := e697
      have e698 : ZTy cf682 (Gk ta ca na ma0 ns ys nf) na ma681 m2 p0.toInt z678 v684.toInt := e698
      have hzt_z678 := e698
      have e699 : ZNm cf682 (1 : Int) v684.toInt := e699
      have hty_z678 := ZTy.num hzt_z678 e699
      have hw : pw D A s.heap H locs [wdP cs h r g tf ta pf na ma681 wa cf682 ca ef ea xf xa] := hw
      have lv684 := Int32.le_toInt v684
      have uv684 := Int32.toInt_lt v684
      refine lv_pop S.x S.b d_Mpg_check_260 rfl ?_
      refine lv_goto (tgt := 301) S.x S.b d_Mpg_check_261 (by decide) ?_
      refine lv_iload_n S.x S.b d_Mpg_check_301 rfl (lv_at hl 3 rfl) ?_
      refine lv_if_eq (tgt := 328) S.x S.b d_Mpg_check_302 (by decide) (fun c700 => ?_) (fun c700 => ?_)
      · have nc700 : p1.toInt = (0 : Int) := (i_eq (x := p1) (y := 0)).mp c700
        refine lv_iload_n S.x S.b d_Mpg_check_328 rfl (lv_at hl 3 rfl) ?_
        refine lv_if_eq (tgt := 348) S.x S.b d_Mpg_check_329 (by decide) (fun c701 => ?_) (fun c701 => ?_)
        · have nc701 : p1.toInt = (0 : Int) := (i_eq (x := p1) (y := 0)).mp c701
          refine lv_iload_n S.x S.b d_Mpg_check_348 rfl (lv_at hl 0 rfl) ?_
          exact px_iret (v := 1) S hr rfl hlk hAe hw (Nat.le_of_ble_eq_true rfl) (Nat.le_of_ble_eq_true rfl) (⟨ma681, cf682, rfl, (show KpE cf cf682 from hke), (show WrV cf682 (tf 6).toInt from hwr), (show (cf682 33).toInt = (cf 33).toInt from by first | exact oz_e13fc83238 e643 e687 e665 | omega), (show (cf682 38).toInt = (cf 38).toInt from by first | exact oz_e13fc83238 e644 e688 e666 | omega), (show (cf682 48).toInt = (cf 48).toInt from by first | exact oz_e13fc83238 e645 e689 e667 | omega), (show (cf682 46).toInt = (cf 46).toInt from by first | exact oz_e13fc83238 e646 e690 e668 | omega), (show (cf682 47).toInt = (cf 47).toInt from by first | exact oz_e13fc83238 e647 e691 e669 | omega), (show (cf682 57).toInt = (cf 57).toInt from by first | exact oz_e13fc83238 e648 e692 e670 | omega), (show Ann na ma0 ma681 from han), (show FrC lo hi ma ma681 from hfc), (show 0 ≤ (1 : Int) from by first | decide | omega), (show (1 : Int) ≤ 4 from by first | decide | omega), (show NmJ ta ca na ma681 kn p0 (1 : Int) from (fun h => absurd h (by first | with_reducible rfl | with_reducible assumption | omega))), (show ZTy cf682 (Gk ta ca na ma0 ns ys nf) na ma681 lo hi p0 (1 : Int) from (fun zz => Or.inr ⟨by first | with_reducible rfl | with_reducible assumption | omega, ty_8 hrg (by first | with_reducible rfl | with_reducible assumption | omega) ez634 (ha_z656.trans (Ann.b18 han (by first | with_reducible rfl | with_reducible assumption | omega)).symm) (ha_z678.trans (Ann.b19 han (by first | with_reducible rfl | with_reducible assumption | omega)).symm) ((hty_z634 zz).le (by first | with_reducible rfl | with_reducible assumption | omega) (by first | with_reducible rfl | with_reducible assumption | omega)) ((hty_z656 zz).le (by first | with_reducible rfl | with_reducible assumption | omega) (by first | with_reducible rfl | with_reducible assumption | omega)) ((hty_z678 zz).le (by first | with_reducible rfl | with_reducible assumption | omega) (by first | with_reducible rfl | with_reducible assumption | omega))⟩)), (show ZNm cf682 p1.toInt (1 : Int) from (zty_num (G := (Gk ta ca na ma0 ns ys nf)) (na := na) (ma := ma681) (lo := lo) (hi := hi) (n := p0) (fun zz => Or.inr ⟨by first | with_reducible rfl | with_reducible assumption | omega, ty_8 hrg (by first | with_reducible rfl | with_reducible assumption | omega) ez634 (ha_z656.trans (Ann.b18 han (by first | with_reducible rfl | with_reducible assumption | omega)).symm) (ha_z678.trans (Ann.b19 han (by first | with_reducible rfl | with_reducible assumption | omega)).symm) ((hty_z634 zz).le (by first | with_reducible rfl | with_reducible assumption | omega) (by first | with_reducible rfl | with_reducible assumption | omega)) ((hty_z656 zz).le (by first | with_reducible rfl | with_reducible assumption | omega) (by first | with_reducible rfl | with_reducible assumption | omega)) ((hty_z678 zz).le (by first | with_reducible rfl | with_reducible assumption | omega) (by first | with_reducible rfl | with_reducible assumption | omega))⟩) (by first | with_reducible rfl | with_reducible assumption | omega)))⟩) d_Mpg_check_349
        · have nc701 : ¬ p1.toInt = (0 : Int) := mt (i_eq (x := p1) (y := 0)).mpr c701
          refine lv_iload_n S.x S.b d_Mpg_check_332 rfl (lv_at hl 0 rfl) ?_
          refine lv_iconst (v := 4) S.x S.b d_Mpg_check_333 (by decide) ?_
          refine lv_icmp_ne (tgt := 348) S.x S.b d_Mpg_check_334 (by decide) (fun c702 => ?_) (fun c702 => ?_)
          ·
            refine lv_iload_n S.x S.b d_Mpg_check_348 rfl (lv_at hl 0 rfl) ?_
            exact px_iret (v := 1) S hr rfl hlk hAe hw (Nat.le_of_ble_eq_true rfl) (Nat.le_of_ble_eq_true rfl) (⟨ma681, cf682, rfl, (show KpE cf cf682 from hke), (show WrV cf682 (tf 6).toInt from hwr), (show (cf682 33).toInt = (cf 33).toInt from by first | exact oz_e13fc83238 e643 e687 e665 | omega), (show (cf682 38).toInt = (cf 38).toInt from by first | exact oz_e13fc83238 e644 e688 e666 | omega), (show (cf682 48).toInt = (cf 48).toInt from by first | exact oz_e13fc83238 e645 e689 e667 | omega), (show (cf682 46).toInt = (cf 46).toInt from by first | exact oz_e13fc83238 e646 e690 e668 | omega), (show (cf682 47).toInt = (cf 47).toInt from by first | exact oz_e13fc83238 e647 e691 e669 | omega), (show (cf682 57).toInt = (cf 57).toInt from by first | exact oz_e13fc83238 e648 e692 e670 | omega), (show Ann na ma0 ma681 from han), (show FrC lo hi ma ma681 from hfc), (show 0 ≤ (1 : Int) from by first | decide | omega), (show (1 : Int) ≤ 4 from by first | decide | omega), (show NmJ ta ca na ma681 kn p0 (1 : Int) from (fun h => absurd h (by first | with_reducible rfl | with_reducible assumption | omega))), (show ZTy cf682 (Gk ta ca na ma0 ns ys nf) na ma681 lo hi p0 (1 : Int) from (fun zz => Or.inr ⟨by first | with_reducible rfl | with_reducible assumption | omega, ty_8 hrg (by first | with_reducible rfl | with_reducible assumption | omega) ez634 (ha_z656.trans (Ann.b18 han (by first | with_reducible rfl | with_reducible assumption | omega)).symm) (ha_z678.trans (Ann.b19 han (by first | with_reducible rfl | with_reducible assumption | omega)).symm) ((hty_z634 zz).le (by first | with_reducible rfl | with_reducible assumption | omega) (by first | with_reducible rfl | with_reducible assumption | omega)) ((hty_z656 zz).le (by first | with_reducible rfl | with_reducible assumption | omega) (by first | with_reducible rfl | with_reducible assumption | omega)) ((hty_z678 zz).le (by first | with_reducible rfl | with_reducible assumption | omega) (by first | with_reducible rfl | with_reducible assumption | omega))⟩)), (show ZNm cf682 p1.toInt (1 : Int) from (zty_num (G := (Gk ta ca na ma0 ns ys nf)) (na := na) (ma := ma681) (lo := lo) (hi := hi) (n := p0) (fun zz => Or.inr ⟨by first | with_reducible rfl | with_reducible assumption | omega, ty_8 hrg (by first | with_reducible rfl | with_reducible assumption | omega) ez634 (ha_z656.trans (Ann.b18 han (by first | with_reducible rfl | with_reducible assumption | omega)).symm) (ha_z678.trans (Ann.b19 han (by first | with_reducible rfl | with_reducible assumption | omega)).symm) ((hty_z634 zz).le (by first | with_reducible rfl | with_reducible assumption | omega) (by first | with_reducible rfl | with_reducible assumption | omega)) ((hty_z656 zz).le (by first | with_reducible rfl | with_reducible assumption | omega) (by first | with_reducible rfl | with_reducible assumption | omega)) ((hty_z678 zz).le (by first | with_reducible rfl | with_reducible assumption | omega) (by first | with_reducible rfl | with_reducible assumption | omega))⟩) (by first | with_reducible rfl | with_reducible assumption | omega)))⟩) d_Mpg_check_349
          · exact absurd c702 (by decide)
      · have nc700 : ¬ p1.toInt = (0 : Int) := mt (i_eq (x := p1) (y := 0)).mpr c700
        refine lv_iload_n S.x S.b d_Mpg_check_305 rfl (lv_at hl 0 rfl) ?_
        refine lv_iconst (v := 2) S.x S.b d_Mpg_check_306 (by decide) ?_
        refine lv_icmp_eq (tgt := 315) S.x S.b d_Mpg_check_307 (by decide) (fun c703 => ?_) (fun c703 => ?_)
        · exact absurd c703 (by decide)
        ·
          refine lv_iload_n S.x S.b d_Mpg_check_310 rfl (lv_at hl 0 rfl) ?_
          refine lv_iconst (v := 3) S.x S.b d_Mpg_check_311 (by decide) ?_
          refine lv_icmp_ne (tgt := 328) S.x S.b d_Mpg_check_312 (by decide) (fun c704 => ?_) (fun c704 => ?_)
          ·
            refine lv_iload_n S.x S.b d_Mpg_check_328 rfl (lv_at hl 3 rfl) ?_
            refine lv_if_eq (tgt := 348) S.x S.b d_Mpg_check_329 (by decide) (fun c705 => ?_) (fun c705 => ?_)
            · have nc705 : p1.toInt = (0 : Int) := (i_eq (x := p1) (y := 0)).mp c705
              refine lv_iload_n S.x S.b d_Mpg_check_348 rfl (lv_at hl 0 rfl) ?_
              exact px_iret (v := 1) S hr rfl hlk hAe hw (Nat.le_of_ble_eq_true rfl) (Nat.le_of_ble_eq_true rfl) (⟨ma681, cf682, rfl, (show KpE cf cf682 from hke), (show WrV cf682 (tf 6).toInt from hwr), (show (cf682 33).toInt = (cf 33).toInt from by first | exact oz_e13fc83238 e643 e687 e665 | omega), (show (cf682 38).toInt = (cf 38).toInt from by first | exact oz_e13fc83238 e644 e688 e666 | omega), (show (cf682 48).toInt = (cf 48).toInt from by first | exact oz_e13fc83238 e645 e689 e667 | omega), (show (cf682 46).toInt = (cf 46).toInt from by first | exact oz_e13fc83238 e646 e690 e668 | omega), (show (cf682 47).toInt = (cf 47).toInt from by first | exact oz_e13fc83238 e647 e691 e669 | omega), (show (cf682 57).toInt = (cf 57).toInt from by first | exact oz_e13fc83238 e648 e692 e670 | omega), (show Ann na ma0 ma681 from han), (show FrC lo hi ma ma681 from hfc), (show 0 ≤ (1 : Int) from by first | decide | omega), (show (1 : Int) ≤ 4 from by first | decide | omega), (show NmJ ta ca na ma681 kn p0 (1 : Int) from (fun h => absurd h (by first | with_reducible rfl | with_reducible assumption | omega))), (show ZTy cf682 (Gk ta ca na ma0 ns ys nf) na ma681 lo hi p0 (1 : Int) from (fun zz => Or.inr ⟨by first | with_reducible rfl | with_reducible assumption | omega, ty_8 hrg (by first | with_reducible rfl | with_reducible assumption | omega) ez634 (ha_z656.trans (Ann.b18 han (by first | with_reducible rfl | with_reducible assumption | omega)).symm) (ha_z678.trans (Ann.b19 han (by first | with_reducible rfl | with_reducible assumption | omega)).symm) ((hty_z634 zz).le (by first | with_reducible rfl | with_reducible assumption | omega) (by first | with_reducible rfl | with_reducible assumption | omega)) ((hty_z656 zz).le (by first | with_reducible rfl | with_reducible assumption | omega) (by first | with_reducible rfl | with_reducible assumption | omega)) ((hty_z678 zz).le (by first | with_reducible rfl | with_reducible assumption | omega) (by first | with_reducible rfl | with_reducible assumption | omega))⟩)), (show ZNm cf682 p1.toInt (1 : Int) from (zty_num (G := (Gk ta ca na ma0 ns ys nf)) (na := na) (ma := ma681) (lo := lo) (hi := hi) (n := p0) (fun zz => Or.inr ⟨by first | with_reducible rfl | with_reducible assumption | omega, ty_8 hrg (by first | with_reducible rfl | with_reducible assumption | omega) ez634 (ha_z656.trans (Ann.b18 han (by first | with_reducible rfl | with_reducible assumption | omega)).symm) (ha_z678.trans (Ann.b19 han (by first | with_reducible rfl | with_reducible assumption | omega)).symm) ((hty_z634 zz).le (by first | with_reducible rfl | with_reducible assumption | omega) (by first | with_reducible rfl | with_reducible assumption | omega)) ((hty_z656 zz).le (by first | with_reducible rfl | with_reducible assumption | omega) (by first | with_reducible rfl | with_reducible assumption | omega)) ((hty_z678 zz).le (by first | with_reducible rfl | with_reducible assumption | omega) (by first | with_reducible rfl | with_reducible assumption | omega))⟩) (by first | with_reducible rfl | with_reducible assumption | omega)))⟩) d_Mpg_check_349
            · have nc705 : ¬ p1.toInt = (0 : Int) := mt (i_eq (x := p1) (y := 0)).mpr c705
              refine lv_iload_n S.x S.b d_Mpg_check_332 rfl (lv_at hl 0 rfl) ?_
              refine lv_iconst (v := 4) S.x S.b d_Mpg_check_333 (by decide) ?_
              refine lv_icmp_ne (tgt := 348) S.x S.b d_Mpg_check_334 (by decide) (fun c706 => ?_) (fun c706 => ?_)
              ·
                refine lv_iload_n S.x S.b d_Mpg_check_348 rfl (lv_at hl 0 rfl) ?_
                exact px_iret (v := 1) S hr rfl hlk hAe hw (Nat.le_of_ble_eq_true rfl) (Nat.le_of_ble_eq_true rfl) (⟨ma681, cf682, rfl, (show KpE cf cf682 from hke), (show WrV cf682 (tf 6).toInt from hwr), (show (cf682 33).toInt = (cf 33).toInt from by first | exact oz_e13fc83238 e643 e687 e665 | omega), (show (cf682 38).toInt = (cf 38).toInt from by first | exact oz_e13fc83238 e644 e688 e666 | omega), (show (cf682 48).toInt = (cf 48).toInt from by first | exact oz_e13fc83238 e645 e689 e667 | omega), (show (cf682 46).toInt = (cf 46).toInt from by first | exact oz_e13fc83238 e646 e690 e668 | omega), (show (cf682 47).toInt = (cf 47).toInt from by first | exact oz_e13fc83238 e647 e691 e669 | omega), (show (cf682 57).toInt = (cf 57).toInt from by first | exact oz_e13fc83238 e648 e692 e670 | omega), (show Ann na ma0 ma681 from han), (show FrC lo hi ma ma681 from hfc), (show 0 ≤ (1 : Int) from by first | decide | omega), (show (1 : Int) ≤ 4 from by first | decide | omega), (show NmJ ta ca na ma681 kn p0 (1 : Int) from (fun h => absurd h (by first | with_reducible rfl | with_reducible assumption | omega))), (show ZTy cf682 (Gk ta ca na ma0 ns ys nf) na ma681 lo hi p0 (1 : Int) from (fun zz => Or.inr ⟨by first | with_reducible rfl | with_reducible assumption | omega, ty_8 hrg (by first | with_reducible rfl | with_reducible assumption | omega) ez634 (ha_z656.trans (Ann.b18 han (by first | with_reducible rfl | with_reducible assumption | omega)).symm) (ha_z678.trans (Ann.b19 han (by first | with_reducible rfl | with_reducible assumption | omega)).symm) ((hty_z634 zz).le (by first | with_reducible rfl | with_reducible assumption | omega) (by first | with_reducible rfl | with_reducible assumption | omega)) ((hty_z656 zz).le (by first | with_reducible rfl | with_reducible assumption | omega) (by first | with_reducible rfl | with_reducible assumption | omega)) ((hty_z678 zz).le (by first | with_reducible rfl | with_reducible assumption | omega) (by first | with_reducible rfl | with_reducible assumption | omega))⟩)), (show ZNm cf682 p1.toInt (1 : Int) from (zty_num (G := (Gk ta ca na ma0 ns ys nf)) (na := na) (ma := ma681) (lo := lo) (hi := hi) (n := p0) (fun zz => Or.inr ⟨by first | with_reducible rfl | with_reducible assumption | omega, ty_8 hrg (by first | with_reducible rfl | with_reducible assumption | omega) ez634 (ha_z656.trans (Ann.b18 han (by first | with_reducible rfl | with_reducible assumption | omega)).symm) (ha_z678.trans (Ann.b19 han (by first | with_reducible rfl | with_reducible assumption | omega)).symm) ((hty_z634 zz).le (by first | with_reducible rfl | with_reducible assumption | omega) (by first | with_reducible rfl | with_reducible assumption | omega)) ((hty_z656 zz).le (by first | with_reducible rfl | with_reducible assumption | omega) (by first | with_reducible rfl | with_reducible assumption | omega)) ((hty_z678 zz).le (by first | with_reducible rfl | with_reducible assumption | omega) (by first | with_reducible rfl | with_reducible assumption | omega))⟩) (by first | with_reducible rfl | with_reducible assumption | omega)))⟩) d_Mpg_check_349
              · exact absurd c706 (by decide)
          · exact absurd c704 (by decide)
theorem chkc_all (l : Launch) (D : va_G) (cs : Nat → ClassId) : ∀ d : Nat, ChkC l D cs d := by
  intro d
  induction d with
  | zero => intro ma0 ys ns nf kn lo hi h r g tf ta pf na wa ca ef ea xf xa ma cf p0 p1 g0 g1 g2 g3 g4 g5 g6 g7 g8 g9 g10 htk hfs hwr hkt hft hks hfp han hec; exact (ec_0 hec).elim
  | succ d ih => intro ma0 ys ns nf kn lo hi h r g tf ta pf na wa ca ef ea xf xa ma cf p0 p1 g0 g1 g2 g3 g4 g5 g6 g7 g8 g9 g10 htk hfs hwr hkt hft hks hfp han hec; exact c_mp_check l D cs ma0 ys ns nf kn d lo hi h r g tf ta pf na wa ca ef ea xf xa ma cf p0 p1 g0 g1 g2 g3 g4 g5 g6 g7 g8 g9 g10 htk hfs hwr hkt hft hks hfp han hec ih
set_option maxHeartbeats 4000000 in
set_option maxRecDepth 100000 in
theorem c_S_check (l : Launch) (D : va_G) (cs : Nat → ClassId) (ma0 : Nat → Nat → Int32) (ys : Int) (ns : Int) (nf : Int) (kn : Int) (d : Nat) (lo : Int) (hi : Int) (h : Nat) (r : Nat → Nat) (g : Nat → Nat → Option Nat) (tf : Nat → Int32) (ta : Nat → Nat → Int32) (pf : Nat → Int32) (na : Nat → Nat → Int32) (wa : Nat → Nat → Int32) (ca : Nat → Nat → Int32) (ef : Nat → Int32) (ea : Nat → Nat → Int32) (xf : Nat → Int32) (xa : Nat → Nat → Int32) (ma : Nat → Nat → Int32) (cf : Nat → Int32) (p0 p1 : Int32)  (g0 : 0 ≤ lo) (g1 : hi ≤ (pf 13).toInt) (g2 : (pf 13).toInt ≤ 2100) (g3 : (tf 6).toInt ≤ 2049) (g4 : (cf 33).toInt = kn) (g5 : 0 ≤ kn) (g6 : (cf 48).toInt = ns) (g7 : (cf 38).toInt = nf) (g8 : 0 ≤ nf) (g9 : 0 ≤ p1.toInt) (g10 : p1.toInt ≤ 1) (htk : TkI tf ta) (hfs : FsI (tf 6).toInt (pf 13).toInt na) (hwr : WrV cf (tf 6).toInt) (hkt : KnT (tf 6).toInt ca (cf 33).toInt) (hft : FnT (tf 6).toInt na ca (cf 38).toInt) (hks : KnS ca kn ns ys) (hfp : FnP na ca nf) (han : Ann na ma0 ma) (hec : EcV ta (tf 6).toInt na ma0 d lo hi p0) : MetI l y_Mpg_check b_Mpg_check 8 (.int) D cs (4 * d + 12) (200 * d + 420) (0) (0) [.ref h, .int p0, .int p1] [wdP cs h r g tf ta pf na ma wa cf ca ef ea xf xa] (oX (fun A U H => (oP A g U H)) [wdP cs h r g tf ta pf na ma wa cf ca ef ea xf xa]) (fun v ps => ∃ (ma' : Nat → Nat → Int32) (cf' : Nat → Int32), (ps = [wdP cs h r g tf ta pf na ma' wa cf' ca ef ea xf xa]) ∧ (KpE cf cf') ∧ (WrV cf' (tf 6).toInt) ∧ ((cf' 33).toInt = (cf 33).toInt) ∧ ((cf' 38).toInt = (cf 38).toInt) ∧ ((cf' 48).toInt = (cf 48).toInt) ∧ ((cf' 46).toInt = (cf 46).toInt) ∧ ((cf' 47).toInt = (cf 47).toInt) ∧ ((cf' 57).toInt = (cf 57).toInt) ∧ (Ann na ma0 ma') ∧ (FrC lo hi ma ma') ∧ (0 ≤ v.toInt) ∧ (v.toInt ≤ 4) ∧ (NmJ ta ca na ma' kn p0 v.toInt) ∧ (ZTy cf' (Gk ta ca na ma0 ns ys nf) na ma' lo hi p0 v.toInt) ∧ (ZNm cf' p1.toInt v.toInt)) := by
  exact chkc_all l D cs d ma0 ys ns nf kn lo hi h r g tf ta pf na wa ca ef ea xf xa ma cf p0 p1 g0 g1 g2 g3 g4 g5 g6 g7 g8 g9 g10 htk hfs hwr hkt hft hks hfp han hec
