theorem oz_3da49dea81 {a0 : Int} (h0 : a0 = 1) : a0 ≤ 4 := by omega
theorem oz_aeef88fdd7  : 1 ≤ (5 : Int) := by omega
theorem oz_a5f81825e1 {n0 : Nat}  : 0 + 1 ≤ (4 * (n0 + 1) + 12) := by omega
theorem oz_8c380b9a8a {n0 : Nat}  : 8 + (3 + 11) + 0 ≤ (200 * (n0 + 1) + 420) := by omega
theorem oz_13e7b4d4c1 {a0 : Int} (h0 : a0 = (4 : Int)) : 0 ≤ a0 := by omega
theorem oz_c2ae504e3b {n0 : Nat}  : 8 + (2 + 11) + 0 ≤ (200 * (n0 + 1) + 420) := by omega
theorem oz_e2e3ee21d3 {a0 : Int} (h0 : a0 = (3 : Int)) : 0 ≤ a0 := by omega
theorem oz_6ef785d99b {n0 : Nat}  : (4 * n0 + 12) + 1 ≤ (4 * (n0 + 1) + 12) := by omega
theorem oz_3a4e9491aa {n0 : Nat}  : 8 + (8 + 11) + (200 * n0 + 420) ≤ (200 * (n0 + 1) + 420) := by omega
theorem oz_dc2da80b19 {a0 a1 a2 a3 a4 : Int} (h0 : a2 ≤ a1) (h1 : a0 ≤ a3) (h2 : a4 < a2) (h3 : a3 < (a4)) : a0 ≤ a1 := by omega
theorem oz_18f227bc52 {a0 a1 a2 a3 : Int} (h0 : a1 < (a0)) (h1 : 0 ≤ a1) (h2 : a0 < a2) (h3 : a2 ≤ a3) (h4 : a3 ≤ 2100) : 0 ≤ a0 ∧ a0 < ((2100 : Nat) : Int) := by omega
theorem oz_a751a4894f {n0 : Nat}  : 3 + 1 ≤ (4 * (n0 + 1) + 12) := by omega
theorem oz_c781ee8ab2 {n0 : Nat}  : 8 + (4 + 11) + 120 ≤ (200 * (n0 + 1) + 420) := by omega
theorem oz_0a7da9c4d6 {a0 a1 : Int} (h0 : a1 < a0) (h1 : 0 ≤ a1) : 0 ≤ a0 := by omega
theorem oz_6996e0781a {a0 a1 a2 : Int} (h0 : a2 ≤ a1) (h1 : a0 < a2) : a0 ≤ a1 := by omega
theorem oz_05bb820b9b {a0 : Int} (h0 : a0 ≤ 3) : a0 ≤ 4 := by omega
theorem oz_39eeb43c3f {a0 : Int} (h0 : a0 = (2 : Int)) : a0 ≤ 4 := by omega
theorem oz_07b5f6f6d8 {n0 : Nat}  : (4 * n0 + 14) + 1 ≤ (4 * (n0 + 1) + 12) := by omega
theorem oz_39425c8970 {n0 : Nat}  : 8 + (9 + 11) + (200 * n0 + 540) ≤ (200 * (n0 + 1) + 420) := by omega
theorem oz_934d8ccd5f {n0 : Nat}  : 8 + 1 ≤ (4 * (n0 + 1) + 12) := by omega
theorem oz_ab79997fe6 {n0 : Nat}  : 8 + (4 + 11) + 330 ≤ (200 * (n0 + 1) + 420) := by omega
theorem oz_c12c169b81 {a0 : Int} (h0 : 0 ≤ a0) : 0 ≤ (a0 + 1) := by omega
theorem oz_b607b04d7a {a0 a1 : Int} (h0 : 0 ≤ a0) (h1 : a0 < (a1)) (h2 : a1 ≤ 2049) : 0 ≤ a0 ∧ a0 < ((2060 : Nat) : Int) := by omega
theorem oz_dec8fc8b31 {a0 a1 a2 : Int} (h0 : a0 ≤ a2) (h1 : a2 < a1) : a0 ≤ a1 := by omega
theorem oz_0ba3c94183 {a0 a1 a2 a3 a4 a5 : Int} (h0 : a2 ≤ a1) (h1 : a0 ≤ a3) (h2 : a4 < a2) (h3 : a5 ≤ a4) (h4 : a3 < a5) : a0 ≤ a1 := by omega
theorem m13_22 : Cond.methodLink "HomeSystemModel$Program" 581 ⟨"HomeSystemModel$Program", "checkPlace", "(II)V"⟩ ∈ AL := AL_13 (List.mem_of_getElem? (i := 22) rfl) rfl
theorem m13_25 : Cond.code ⟨"HomeSystemModel$Program", "checkPlace", "(II)V"⟩ prog_16_method_76_code 4 (Option.none : Option Jvm.ClassFile.FieldType) ∈ AL := AL_13 (List.mem_of_getElem? (i := 25) rfl) rfl
theorem ms_13_3 : Cond.selects "HomeSystemModel$Program" ⟨"HomeSystemModel$Program", "checkPlace", "(II)V"⟩ ⟨"HomeSystemModel$Program", "checkPlace", "(II)V"⟩ ∈ AL := AL_p (q := (⟨"HomeSystemModel$Program", "checkPlace", "(II)V"⟩, 69)) (by unfold lw_privs; exact List.mem_append_right _ (List.mem_append_right _ (List.mem_append_right _ (List.mem_append_right _ (List.mem_append_right _ (List.mem_append_right _ (List.mem_append_right _ (List.mem_append_right _ (List.mem_append_right _ (List.mem_append_right _ (List.mem_append_right _ (List.mem_append_right _ (List.mem_append_left _ (List.mem_of_getElem? (i := 3) rfl))))))))))))))
theorem m13_24 : Cond.instanceMethod ⟨"HomeSystemModel$Program", "checkPlace", "(II)V"⟩ ∈ AL := AL_13 (List.mem_of_getElem? (i := 24) rfl) rfl
theorem m12_218 : Cond.methodLink "HomeSystemModel$Program" 568 ⟨"HomeSystemModel$Program", "checkName", "(I)I"⟩ ∈ AL := AL_12 (List.mem_of_getElem? (i := 218) rfl) rfl
theorem m12_221 : Cond.code ⟨"HomeSystemModel$Program", "checkName", "(I)I"⟩ prog_16_method_75_code 4 (Option.some FieldType.int) ∈ AL := AL_12 (List.mem_of_getElem? (i := 221) rfl) rfl
theorem ms_12_8 : Cond.selects "HomeSystemModel$Program" ⟨"HomeSystemModel$Program", "checkName", "(I)I"⟩ ⟨"HomeSystemModel$Program", "checkName", "(I)I"⟩ ∈ AL := AL_p (q := (⟨"HomeSystemModel$Program", "checkName", "(I)I"⟩, 69)) (by unfold lw_privs; exact List.mem_append_right _ (List.mem_append_right _ (List.mem_append_right _ (List.mem_append_right _ (List.mem_append_right _ (List.mem_append_right _ (List.mem_append_right _ (List.mem_append_right _ (List.mem_append_right _ (List.mem_append_right _ (List.mem_append_right _ (List.mem_append_left _ (List.mem_of_getElem? (i := 8) rfl)))))))))))))
theorem m12_220 : Cond.instanceMethod ⟨"HomeSystemModel$Program", "checkName", "(I)I"⟩ ∈ AL := AL_12 (List.mem_of_getElem? (i := 220) rfl) rfl
theorem m12_222 : Cond.methodLink "HomeSystemModel$Program" 571 ⟨"HomeSystemModel$Program", "checkCall", "(I)I"⟩ ∈ AL := AL_12 (List.mem_of_getElem? (i := 222) rfl) rfl
theorem m12_225 : Cond.code ⟨"HomeSystemModel$Program", "checkCall", "(I)I"⟩ prog_16_method_79_code 9 (Option.some FieldType.int) ∈ AL := AL_12 (List.mem_of_getElem? (i := 225) rfl) rfl
theorem ms_12_9 : Cond.selects "HomeSystemModel$Program" ⟨"HomeSystemModel$Program", "checkCall", "(I)I"⟩ ⟨"HomeSystemModel$Program", "checkCall", "(I)I"⟩ ∈ AL := AL_p (q := (⟨"HomeSystemModel$Program", "checkCall", "(I)I"⟩, 69)) (by unfold lw_privs; exact List.mem_append_right _ (List.mem_append_right _ (List.mem_append_right _ (List.mem_append_right _ (List.mem_append_right _ (List.mem_append_right _ (List.mem_append_right _ (List.mem_append_right _ (List.mem_append_right _ (List.mem_append_right _ (List.mem_append_right _ (List.mem_append_left _ (List.mem_of_getElem? (i := 9) rfl)))))))))))))
theorem m12_224 : Cond.instanceMethod ⟨"HomeSystemModel$Program", "checkCall", "(I)I"⟩ ∈ AL := AL_12 (List.mem_of_getElem? (i := 224) rfl) rfl
theorem m13_18 : Cond.methodLink "HomeSystemModel$Program" 574 ⟨"HomeSystemModel$Program", "checkIndex", "(I)V"⟩ ∈ AL := AL_13 (List.mem_of_getElem? (i := 18) rfl) rfl
theorem m13_21 : Cond.code ⟨"HomeSystemModel$Program", "checkIndex", "(I)V"⟩ prog_16_method_77_code 4 (Option.none : Option Jvm.ClassFile.FieldType) ∈ AL := AL_13 (List.mem_of_getElem? (i := 21) rfl) rfl
theorem ms_13_2 : Cond.selects "HomeSystemModel$Program" ⟨"HomeSystemModel$Program", "checkIndex", "(I)V"⟩ ⟨"HomeSystemModel$Program", "checkIndex", "(I)V"⟩ ∈ AL := AL_p (q := (⟨"HomeSystemModel$Program", "checkIndex", "(I)V"⟩, 69)) (by unfold lw_privs; exact List.mem_append_right _ (List.mem_append_right _ (List.mem_append_right _ (List.mem_append_right _ (List.mem_append_right _ (List.mem_append_right _ (List.mem_append_right _ (List.mem_append_right _ (List.mem_append_right _ (List.mem_append_right _ (List.mem_append_right _ (List.mem_append_right _ (List.mem_append_left _ (List.mem_of_getElem? (i := 2) rfl))))))))))))))
theorem m13_20 : Cond.instanceMethod ⟨"HomeSystemModel$Program", "checkIndex", "(I)V"⟩ ∈ AL := AL_13 (List.mem_of_getElem? (i := 20) rfl) rfl
set_option maxHeartbeats 4000000 in
set_option maxRecDepth 100000 in
theorem c_mp_check (l : Launch) (D : va_G) (cs : Nat → ClassId) (ma0 : Nat → Nat → Int32) (ys : Int) (ns : Int) (nf : Int) (kn : Int) (d : Nat) (lo : Int) (hi : Int) (h : Nat) (r : Nat → Nat) (g : Nat → Nat → Option Nat) (tf : Nat → Int32) (ta : Nat → Nat → Int32) (pf : Nat → Int32) (na : Nat → Nat → Int32) (wa : Nat → Nat → Int32) (ca : Nat → Nat → Int32) (ef : Nat → Int32) (ea : Nat → Nat → Int32) (xf : Nat → Int32) (xa : Nat → Nat → Int32) (ma : Nat → Nat → Int32) (cf : Nat → Int32) (p0 p1 : Int32)  (g0 : 0 ≤ lo) (g1 : hi ≤ (pf 13).toInt) (g2 : (pf 13).toInt ≤ 2100) (g3 : (tf 6).toInt ≤ 2049) (g4 : (cf 33).toInt = kn) (g5 : 0 ≤ kn) (g6 : (cf 48).toInt = ns) (g7 : (cf 38).toInt = nf) (g8 : 0 ≤ nf) (g9 : 0 ≤ p1.toInt) (g10 : p1.toInt ≤ 1) (htk : TkI tf ta) (hfs : FsI (tf 6).toInt (pf 13).toInt na) (hwr : WrV cf (tf 6).toInt) (hkt : KnT (tf 6).toInt ca (cf 33).toInt) (hft : FnT (tf 6).toInt na ca (cf 38).toInt) (hks : KnS ca kn ns ys) (hfp : FnP na ca nf) (han : Ann na ma0 ma) (hec : EcV ta (tf 6).toInt na ma0 (d + 1) lo hi p0) (hLC : ChkC l D cs d) : MetI l y_Mpg_check b_Mpg_check 8 (.int) D cs (4 * (d + 1) + 12) (200 * (d + 1) + 420) (0) (0) [.ref h, .int p0, .int p1] [wdP cs h r g tf ta pf na ma wa cf ca ef ea xf xa] (oX (fun A U H => (oP A g U H)) [wdP cs h r g tf ta pf na ma wa cf ca ef ea xf xa]) (fun v ps => ∃ (ma' : Nat → Nat → Int32) (cf' : Nat → Int32), (ps = [wdP cs h r g tf ta pf na ma' wa cf' ca ef ea xf xa]) ∧ (KpE cf cf') ∧ (WrV cf' (tf 6).toInt) ∧ ((cf' 33).toInt = (cf 33).toInt) ∧ ((cf' 38).toInt = (cf 38).toInt) ∧ ((cf' 48).toInt = (cf 48).toInt) ∧ ((cf' 46).toInt = (cf 46).toInt) ∧ ((cf' 47).toInt = (cf 47).toInt) ∧ ((cf' 57).toInt = (cf 57).toInt) ∧ (Ann na ma0 ma') ∧ (FrC lo hi ma ma') ∧ (0 ≤ v.toInt) ∧ (v.toInt ≤ 4) ∧ (NmJ ta ca na ma' kn p0 v.toInt) ∧ (ZTy cf' (Gk ta ca na ma0 ns ys nf) na ma' lo hi p0 v.toInt) ∧ (ZNm cf' p1.toInt v.toInt) ∧ (R_mp_check (RL_mp_check d) tf ta na ca p0 p1 ma cf ma' cf' v)) := by
  refine px_enter (by decide) (Nat.le_of_ble_eq_true rfl) ?_
  intro p e s m below meth c A ls hAe S hr hlk hnm hA hT hX hw hl
  have hl : lv_has ls 8 [(0, .ref h), (1, .int p0), (2, .int p1)] := hl
  have lp0 := Int32.le_toInt p0
  have up0 := Int32.toInt_lt p0
  have lp1 := Int32.le_toInt p1
  have up1 := Int32.toInt_lt p1
  have cst0 : (0 : Int32).toInt = 0 := rfl
  have cst1 : (1 : Int32).toInt = 1 := rfl
  have cst2 : (2 : Int32).toInt = 2 := rfl
  have cst3 : (3 : Int32).toInt = 3 := rfl
  have cst4 : (4 : Int32).toInt = 4 := rfl
  have cst5 : (5 : Int32).toInt = 5 := rfl
  have hX : (fun A U H => (oP A g U H)) A s s.heap := by rw [hAe]; exact hX
  have hP := hX
  have hZ := hP.1
  have hF0 := hP.2.1
  have hke : KpE cf cf := KpE.rf
  have hfc : FrC lo hi ma ma := FrC.rf
  have hwr0 := hwr.1
  have hk11 := hkt.1
  have hf11 := hft.1
  have hec_p0 := hec
  have hrg := EcV.rng hec
  have J197 : ∀ (n_197 : Nat) (ma_197 : Nat → Nat → Int32) (cf_197 : Nat → Int32) (mid_197 : Int) (x197_3 x197_7 : Int32) (H : Heap) (locs : List Loc) (ls : Array Slot), (KpE cf cf_197) → (WrV cf_197 (tf 6).toInt) → ((cf_197 33).toInt = (cf 33).toInt) → ((cf_197 38).toInt = (cf 38).toInt) → ((cf_197 48).toInt = (cf 48).toInt) → ((cf_197 46).toInt = (cf 46).toInt) → ((cf_197 47).toInt = (cf 47).toInt) → ((cf_197 57).toInt = (cf 57).toInt) → (Ann na ma0 ma_197) → (FrC lo hi ma ma_197) → (x197_3.toInt = 1) → (lo ≤ mid_197) → (mid_197 ≤ hi) → ((na 14 p0.toNatClampNeg).toInt = 7) → (RcN ta (tf 6).toInt na ma0 d p0 mid_197 hi x197_7) → (ZTr cf_197 (Gk ta ca na ma0 ns ys nf) na ma_197 lo mid_197 (na 17 p0.toNatClampNeg) x197_7) → (K_mp_check_197 (RL_mp_check d) tf ta na ca p0 p1 ma cf ma_197 cf_197 x197_3 x197_7) → hi - mid_197 < (n_197 : Int) → pw D A s.heap H locs [wdP cs h r g tf ta pf na ma_197 wa cf_197 ca ef ea xf xa] → lv_has ls 8 [(0, .ref h), (1, .int p0), (2, .int p1), (3, .int x197_3), (7, .int x197_7)] → W p l e { frames := (4 * (d + 1) + 12), cells := 0, slots := 0, locals := (200 * (d + 1) + 420) } s m [.ref h, .int p0, .int p1].toArray below meth c H locs 0 0 (MQ below (va_Qi (fun v ps => ∃ (ma' : Nat → Nat → Int32) (cf' : Nat → Int32), (ps = [wdP cs h r g tf ta pf na ma' wa cf' ca ef ea xf xa]) ∧ (KpE cf cf') ∧ (WrV cf' (tf 6).toInt) ∧ ((cf' 33).toInt = (cf 33).toInt) ∧ ((cf' 38).toInt = (cf 38).toInt) ∧ ((cf' 48).toInt = (cf 48).toInt) ∧ ((cf' 46).toInt = (cf 46).toInt) ∧ ((cf' 47).toInt = (cf 47).toInt) ∧ ((cf' 57).toInt = (cf 57).toInt) ∧ (Ann na ma0 ma') ∧ (FrC lo hi ma ma') ∧ (0 ≤ v.toInt) ∧ (v.toInt ≤ 4) ∧ (NmJ ta ca na ma' kn p0 v.toInt) ∧ (ZTy cf' (Gk ta ca na ma0 ns ys nf) na ma' lo hi p0 v.toInt) ∧ (ZNm cf' p1.toInt v.toInt) ∧ (R_mp_check (RL_mp_check d) tf ta na ca p0 p1 ma cf ma' cf' v)) (pc_B D (va_A ([wdP cs h r g tf ta pf na ma wa cf ca ef ea xf xa] : List va_W).flatten s.heap.size)) (va_A ([wdP cs h r g tf ta pf na ma wa cf ca ef ea xf xa] : List va_W).flatten s.heap.size)) [.ref h, .int p0, .int p1].toArray s 0 0 A) (F0 m 197 ls []) := by
    intro  n_197
    induction n_197 with
    | zero =>
      intro ma_197 cf_197 mid_197 x197_3 x197_7 H locs ls k197_0 k197_1 k197_2 k197_3 k197_4 k197_5 k197_6 k197_7 k197_8 k197_9 k197_10 k197_11 k197_12 k197_13 k197_14 k197_15 k197_16 hm hw hl
      have lx197_3 := Int32.le_toInt x197_3
      have ux197_3 := Int32.toInt_lt x197_3
      have lx197_7 := Int32.le_toInt x197_7
      have ux197_7 := Int32.toInt_lt x197_7
      have hke := k197_0
      have hwr := k197_1
      have hw0_k197_1 := hwr.1
      have han := k197_8
      have hfc := k197_9
      have hrr := k197_14
      have hztr := k197_15
      exact absurd hm (by omega)
    | succ n_197 ih197 =>
      intro ma_197 cf_197 mid_197 x197_3 x197_7 H locs ls k197_0 k197_1 k197_2 k197_3 k197_4 k197_5 k197_6 k197_7 k197_8 k197_9 k197_10 k197_11 k197_12 k197_13 k197_14 k197_15 k197_16 hm hw hl
      have lx197_3 := Int32.le_toInt x197_3
      have ux197_3 := Int32.toInt_lt x197_3
      have lx197_7 := Int32.le_toInt x197_7
      have ux197_7 := Int32.toInt_lt x197_7
      have hke := k197_0
      have hwr := k197_1
      have hw0_k197_1 := hwr.1
      have han := k197_8
      have hfc := k197_9
      have hrr := k197_14
      have hztr := k197_15
      refine lv_iload S.x S.b d_Mpg_check_197 (lv_at hl 4 rfl) ?_
      refine lv_if_lt (tgt := 222) S.x S.b d_Mpg_check_199 (by decide) (fun c1 => ?_) (fun c1 => ?_)
      · have nc1 : x197_7.toInt < (0 : Int) := (i_lt (x := x197_7) (y := 0)).mp c1
        refine lv_goto (tgt := 301) S.x S.b d_Mpg_check_222 (by decide) ?_
        refine lv_iload_n S.x S.b d_Mpg_check_301 rfl (lv_at hl 2 rfl) ?_
        refine lv_if_eq (tgt := 328) S.x S.b d_Mpg_check_302 (by decide) (fun c3 => ?_) (fun c3 => ?_)
        · have nc3 : p1.toInt = (0 : Int) := (i_eq (x := p1) (y := 0)).mp c3
          refine lv_iload_n S.x S.b d_Mpg_check_328 rfl (lv_at hl 2 rfl) ?_
          refine lv_if_eq (tgt := 348) S.x S.b d_Mpg_check_329 (by decide) (fun c5 => ?_) (fun c5 => ?_)
          · have nc5 : p1.toInt = (0 : Int) := (i_eq (x := p1) (y := 0)).mp c5
            refine lv_iload_n S.x S.b d_Mpg_check_348 rfl (lv_at hl 3 rfl) ?_
            exact px_iret (v := x197_3) S hr rfl hlk hAe hw (Nat.le_of_ble_eq_true rfl) (Nat.le_of_ble_eq_true rfl) (⟨ma_197, cf_197, rfl, (show KpE cf cf_197 from hke), (show WrV cf_197 (tf 6).toInt from hwr), (show (cf_197 33).toInt = (cf 33).toInt from by first | exact k197_2 | omega), (show (cf_197 38).toInt = (cf 38).toInt from by first | exact k197_3 | omega), (show (cf_197 48).toInt = (cf 48).toInt from by first | exact k197_4 | omega), (show (cf_197 46).toInt = (cf 46).toInt from by first | exact k197_5 | omega), (show (cf_197 47).toInt = (cf 47).toInt from by first | exact k197_6 | omega), (show (cf_197 57).toInt = (cf 57).toInt from by first | exact k197_7 | omega), (show Ann na ma0 ma_197 from han), (show FrC lo hi ma ma_197 from hfc), (show 0 ≤ x197_3.toInt from by first | exact oz_1b364b1c5f k197_10 | omega), (show x197_3.toInt ≤ 4 from by first | exact oz_3da49dea81 k197_10 | omega), (show NmJ ta ca na ma_197 kn p0 x197_3.toInt from (fun h => absurd h (by omega))), (show ZTy cf_197 (Gk ta ca na ma0 ns ys nf) na ma_197 lo hi p0 x197_3.toInt from (fun zz => Or.inr ⟨by omega, ty_7 hrg (by omega) rfl ((hztr zz).le (by omega) (by omega)) (by omega)⟩)), (show ZNm cf_197 p1.toInt x197_3.toInt from (zty_num (G := (Gk ta ca na ma0 ns ys nf)) (na := na) (ma := ma_197) (lo := lo) (hi := hi) (n := p0) (fun zz => Or.inr ⟨by omega, ty_7 hrg (by omega) rfl ((hztr zz).le (by omega) (by omega)) (by omega)⟩) (by omega))), (show R_mp_check (RL_mp_check d) tf ta na ca p0 p1 ma cf ma_197 cf_197 x197_3 from (k197_16 _ _ _ 1 (Or.inr (Or.inl ⟨rfl, x197_3, x197_7, rfl, rfl, rfl, rfl, rfl, Or.inl ⟨nc1, Or.inl ⟨nc3, Or.inl ⟨nc5, rfl, rfl, rfl⟩⟩⟩⟩))))⟩) d_Mpg_check_349
          · have nc5 : ¬ p1.toInt = (0 : Int) := mt (i_eq (x := p1) (y := 0)).mpr c5
            refine lv_iload_n S.x S.b d_Mpg_check_332 rfl (lv_at hl 3 rfl) ?_
            refine lv_iconst (v := 4) S.x S.b d_Mpg_check_333 (by decide) ?_
            refine lv_icmp_ne (tgt := 348) S.x S.b d_Mpg_check_334 (by decide) (fun c7 => ?_) (fun c7 => ?_)
            · have nc7 : ¬ x197_3.toInt = (4 : Int) := mt (i_eq (x := x197_3) (y := 4)).mpr c7
              refine lv_iload_n S.x S.b d_Mpg_check_348 rfl (lv_at hl 3 rfl) ?_
              exact px_iret (v := x197_3) S hr rfl hlk hAe hw (Nat.le_of_ble_eq_true rfl) (Nat.le_of_ble_eq_true rfl) (⟨ma_197, cf_197, rfl, (show KpE cf cf_197 from hke), (show WrV cf_197 (tf 6).toInt from hwr), (show (cf_197 33).toInt = (cf 33).toInt from by first | exact k197_2 | omega), (show (cf_197 38).toInt = (cf 38).toInt from by first | exact k197_3 | omega), (show (cf_197 48).toInt = (cf 48).toInt from by first | exact k197_4 | omega), (show (cf_197 46).toInt = (cf 46).toInt from by first | exact k197_5 | omega), (show (cf_197 47).toInt = (cf 47).toInt from by first | exact k197_6 | omega), (show (cf_197 57).toInt = (cf 57).toInt from by first | exact k197_7 | omega), (show Ann na ma0 ma_197 from han), (show FrC lo hi ma ma_197 from hfc), (show 0 ≤ x197_3.toInt from by first | exact oz_1b364b1c5f k197_10 | omega), (show x197_3.toInt ≤ 4 from by first | exact oz_3da49dea81 k197_10 | omega), (show NmJ ta ca na ma_197 kn p0 x197_3.toInt from (fun h => absurd h (by omega))), (show ZTy cf_197 (Gk ta ca na ma0 ns ys nf) na ma_197 lo hi p0 x197_3.toInt from (fun zz => Or.inr ⟨by omega, ty_7 hrg (by omega) rfl ((hztr zz).le (by omega) (by omega)) (by omega)⟩)), (show ZNm cf_197 p1.toInt x197_3.toInt from (zty_num (G := (Gk ta ca na ma0 ns ys nf)) (na := na) (ma := ma_197) (lo := lo) (hi := hi) (n := p0) (fun zz => Or.inr ⟨by omega, ty_7 hrg (by omega) rfl ((hztr zz).le (by omega) (by omega)) (by omega)⟩) (by omega))), (show R_mp_check (RL_mp_check d) tf ta na ca p0 p1 ma cf ma_197 cf_197 x197_3 from (k197_16 _ _ _ 1 (Or.inr (Or.inl ⟨rfl, x197_3, x197_7, rfl, rfl, rfl, rfl, rfl, Or.inl ⟨nc1, Or.inl ⟨nc3, Or.inr ⟨nc5, Or.inl ⟨nc7, rfl, rfl, rfl⟩⟩⟩⟩⟩))))⟩) d_Mpg_check_349
            · have nc7 : x197_3.toInt = (4 : Int) := (i_eq (x := x197_3) (y := 4)).mp c7
              refine lv_aload_n S.x S.b d_Mpg_check_337 rfl (lv_at hl 0 rfl) ?_
              refine lv_iconst (v := 5) S.x S.b d_Mpg_check_338 (by decide) ?_
              refine lv_aload_n S.x S.b d_Mpg_check_339 rfl (lv_at hl 0 rfl) ?_
              refine px_get S k_Mpg hT hw 0 0 15 (v := .ref (r 15)) rfl rfl rfl (by decide) m9_239 d_Mpg_check_340 ?_
              refine lv_iload_n S.x S.b d_Mpg_check_343 rfl (lv_at hl 1 rfl) ?_
              refine px_iald S hT hw 0 11 (n := 2100) (f := (na 15)) rfl gp_15 (x := p0) (vp_in_iff.mpr (by first | exact oz_a7e05de1cd hrg.2.2 hrg.2.1 g1 g2 | (constructor <;> omega))) d_Mpg_check_344 ?_
              refine lv_topi (fun z9 ez9 => ?_)
              have lz9 := Int32.le_toInt z9
              have uz9 := Int32.toInt_lt z9
              have rz9 := EcV.tok hec_p0 ez9
              refine px_callv (pr := []) (px_runV (As := [.int 5, .int z9]) (rest := []) S (c_mp_bad l D cs h r g tf ta pf na ma_197 wa ca ef ea xf xa cf_197 5 z9  (show 1 ≤ (5 : Int) from by first | exact oz_aeef88fdd7 | omega) (show 0 ≤ z9.toInt from by first | exact rz9.1 | omega) (show z9.toInt < (tf 6).toInt from by first | exact oz_7fe81129bf rz9.2 | omega) htk hwr _) hT (pr := []) (pcs := [wdP cs h r g tf ta pf na ma_197 wa cf_197 ca ef ea xf xa]) hw px_X.tt (px_recv hT hw 0 0 rfl rfl rfl) m12_173 m12_170 m12_172 ms_11_12 m1_21 q_Mpg_bad ⟨show 0 + 1 ≤ (4 * (d + 1) + 12) from (by first | exact oz_a5f81825e1 | omega), show 8 + (3 + 11) + 0 ≤ (200 * (d + 1) + 420) from (by first | exact oz_8c380b9a8a | omega)⟩ hl.1 rfl (Nat.le_of_ble_eq_true rfl) d_Mpg_check_345 ⟨Nat.le_of_ble_eq_true rfl, Nat.le_of_ble_eq_true rfl⟩) hw hA (fun p12 H locs hp12 hw => ?_)
              obtain ⟨cf11, rfl, e14, e15, e16, e17, e18, e19, e20, e21, e22, e23, e24, e25, e26, e27, e28, e29, e30, e31, e32, e33⟩ := hp12
              have e14 : KpE cf_197 cf11 := e14
              have hke := (hke).tr e14
              have hkz_e14 := e14.2
              have hztr := Zr.kp hztr e14 id
              have e15 : WrV cf11 (tf 6).toInt := e15
              have hwr := e15
              have hw0_e15 := hwr.1
              have e16 : 1 ≤ (cf11 30).toInt := e16
              have e17 : (cf11 33).toInt = (cf_197 33).toInt := e17
              have e18 : (cf11 38).toInt = (cf_197 38).toInt := e18
              have e19 : (cf11 48).toInt = (cf_197 48).toInt := e19
              have e20 : (cf11 46).toInt = (cf_197 46).toInt := e20
              have e21 : (cf11 47).toInt = (cf_197 47).toInt := e21
              have e22 : (cf11 57).toInt = (cf_197 57).toInt := e22
              have e23 : (cf11 37).toInt = (cf_197 37).toInt := e23
              have e24 : (cf11 42).toInt = (cf_197 42).toInt := e24
              have e25 : (cf11 43).toInt = (cf_197 43).toInt := e25
              have e26 : (cf11 44).toInt = (cf_197 44).toInt := e26
              have e27 : (cf11 45).toInt = (cf_197 45).toInt := e27
              have e28 : (cf11 54).toInt = (cf_197 54).toInt := e28
              have e29 : (cf11 55).toInt = (cf_197 55).toInt := e29
              have e30 : (cf11 58).toInt = (cf_197 58).toInt := e30
              have e31 : (cf11 59).toInt = (cf_197 59).toInt := e31
              have e32 : (cf11 41).toInt = (cf_197 41).toInt := e32
              have e33 : R_mp_bad (5 : Int32) z9 cf_197 cf11 := e33
              have hw : pw D A s.heap H locs [wdP cs h r g tf ta pf na ma_197 wa cf11 ca ef ea xf xa] := hw
              refine lv_iload_n S.x S.b d_Mpg_check_348 rfl (lv_at hl 3 rfl) ?_
              exact px_iret (v := x197_3) S hr rfl hlk hAe hw (Nat.le_of_ble_eq_true rfl) (Nat.le_of_ble_eq_true rfl) (⟨ma_197, cf11, rfl, (show KpE cf cf11 from hke), (show WrV cf11 (tf 6).toInt from hwr), (show (cf11 33).toInt = (cf 33).toInt from by first | exact oz_1687f4cc65 k197_2 e17 | omega), (show (cf11 38).toInt = (cf 38).toInt from by first | exact oz_1687f4cc65 k197_3 e18 | omega), (show (cf11 48).toInt = (cf 48).toInt from by first | exact oz_1687f4cc65 k197_4 e19 | omega), (show (cf11 46).toInt = (cf 46).toInt from by first | exact oz_1687f4cc65 k197_5 e20 | omega), (show (cf11 47).toInt = (cf 47).toInt from by first | exact oz_1687f4cc65 k197_6 e21 | omega), (show (cf11 57).toInt = (cf 57).toInt from by first | exact oz_1687f4cc65 k197_7 e22 | omega), (show Ann na ma0 ma_197 from han), (show FrC lo hi ma ma_197 from hfc), (show 0 ≤ x197_3.toInt from by first | exact oz_13e7b4d4c1 nc7 | omega), (show x197_3.toInt ≤ 4 from by first | exact oz_3da49dea81 k197_10 | omega), (show NmJ ta ca na ma_197 kn p0 x197_3.toInt from (fun h => absurd h (by omega))), (show ZTy cf11 (Gk ta ca na ma0 ns ys nf) na ma_197 lo hi p0 x197_3.toInt from (zr_no (by omega))), (show ZNm cf11 p1.toInt x197_3.toInt from (zr_no (by omega))), (show R_mp_check (RL_mp_check d) tf ta na ca p0 p1 ma cf ma_197 cf11 x197_3 from (k197_16 _ _ _ 1 (Or.inr (Or.inl ⟨rfl, x197_3, x197_7, rfl, rfl, rfl, rfl, rfl, Or.inl ⟨nc1, Or.inl ⟨nc3, Or.inr ⟨nc5, Or.inr ⟨nc7, z9, ez9, cf11, e33, rfl, rfl, rfl⟩⟩⟩⟩⟩))))⟩) d_Mpg_check_349
        · have nc3 : ¬ p1.toInt = (0 : Int) := mt (i_eq (x := p1) (y := 0)).mpr c3
          refine lv_iload_n S.x S.b d_Mpg_check_305 rfl (lv_at hl 3 rfl) ?_
          refine lv_iconst (v := 2) S.x S.b d_Mpg_check_306 (by decide) ?_
          refine lv_icmp_eq (tgt := 315) S.x S.b d_Mpg_check_307 (by decide) (fun c34 => ?_) (fun c34 => ?_)
          · have nc34 : x197_3.toInt = (2 : Int) := (i_eq (x := x197_3) (y := 2)).mp c34
            refine lv_aload_n S.x S.b d_Mpg_check_315 rfl (lv_at hl 0 rfl) ?_
            refine lv_iconst (v := 3) S.x S.b d_Mpg_check_316 (by decide) ?_
            refine lv_aload_n S.x S.b d_Mpg_check_317 rfl (lv_at hl 0 rfl) ?_
            refine lv_iload_n S.x S.b d_Mpg_check_318 rfl (lv_at hl 1 rfl) ?_
            refine px_calli (pr := []) (px_runV (As := [.int p0]) (rest := [.int 3, .ref h]) S (c_mp_first l D cs h r g tf ta pf na ma_197 wa cf_197 ca ef ea xf xa p0  (show 0 ≤ p0.toInt from by first | exact hrg.2.2 | omega) (show p0.toInt < (pf 13).toInt from by first | exact oz_7319c2f99d g1 hrg.2.1 | omega) (show (pf 13).toInt ≤ 2100 from by first | exact g2 | omega) htk (FsI.le (N' := (pf 13).toInt) hfs (by omega)) _) hT (pr := []) (pcs := [wdP cs h r g tf ta pf na ma_197 wa cf_197 ca ef ea xf xa]) hw px_X.tt (px_recv hT hw 0 0 rfl rfl rfl) m13_9 m13_6 m13_8 ms_12_15 m1_21 q_Mpg_first ⟨show 0 + 1 ≤ (4 * (d + 1) + 12) from (by first | exact oz_a5f81825e1 | omega), show 8 + (2 + 11) + 0 ≤ (200 * (d + 1) + 420) from (by first | exact oz_c2ae504e3b | omega)⟩ hl.1 rfl (Nat.le_of_ble_eq_true rfl) d_Mpg_check_319 ⟨Nat.le_of_ble_eq_true rfl, Nat.le_of_ble_eq_true rfl⟩) hw hA (fun v37 p36 H locs hp36 hw => ?_)
            obtain ⟨rfl, e38, e39, e40⟩ := hp36
            have e38 : 0 ≤ v37.toInt := e38
            have e39 : v37.toInt < (tf 6).toInt := e39
            have e40 : R_mp_first na p0 v37 := e40
            have hw : pw D A s.heap H locs [wdP cs h r g tf ta pf na ma_197 wa cf_197 ca ef ea xf xa] := hw
            have lv37 := Int32.le_toInt v37
            have uv37 := Int32.toInt_lt v37
            refine px_callv (pr := []) (px_runV (As := [.int 3, .int v37]) (rest := []) S (c_mp_bad l D cs h r g tf ta pf na ma_197 wa ca ef ea xf xa cf_197 3 v37  (show 1 ≤ (3 : Int) from by first | exact oz_00a6fa0b0d | omega) (show 0 ≤ v37.toInt from by first | exact e38 | omega) (show v37.toInt < (tf 6).toInt from by first | exact e39 | omega) htk hwr _) hT (pr := []) (pcs := [wdP cs h r g tf ta pf na ma_197 wa cf_197 ca ef ea xf xa]) hw px_X.tt (px_recv hT hw 0 0 rfl rfl rfl) m12_173 m12_170 m12_172 ms_11_12 m1_21 q_Mpg_bad ⟨show 0 + 1 ≤ (4 * (d + 1) + 12) from (by first | exact oz_a5f81825e1 | omega), show 8 + (3 + 11) + 0 ≤ (200 * (d + 1) + 420) from (by first | exact oz_8c380b9a8a | omega)⟩ hl.1 rfl (Nat.le_of_ble_eq_true rfl) d_Mpg_check_322 ⟨Nat.le_of_ble_eq_true rfl, Nat.le_of_ble_eq_true rfl⟩) hw hA (fun p43 H locs hp43 hw => ?_)
            obtain ⟨cf42, rfl, e45, e46, e47, e48, e49, e50, e51, e52, e53, e54, e55, e56, e57, e58, e59, e60, e61, e62, e63, e64⟩ := hp43
            have e45 : KpE cf_197 cf42 := e45
            have hke := (hke).tr e45
            have hkz_e45 := e45.2
            have hztr := Zr.kp hztr e45 id
            have e46 : WrV cf42 (tf 6).toInt := e46
            have hwr := e46
            have hw0_e46 := hwr.1
            have e47 : 1 ≤ (cf42 30).toInt := e47
            have e48 : (cf42 33).toInt = (cf_197 33).toInt := e48
            have e49 : (cf42 38).toInt = (cf_197 38).toInt := e49
            have e50 : (cf42 48).toInt = (cf_197 48).toInt := e50
            have e51 : (cf42 46).toInt = (cf_197 46).toInt := e51
            have e52 : (cf42 47).toInt = (cf_197 47).toInt := e52
            have e53 : (cf42 57).toInt = (cf_197 57).toInt := e53
            have e54 : (cf42 37).toInt = (cf_197 37).toInt := e54
            have e55 : (cf42 42).toInt = (cf_197 42).toInt := e55
            have e56 : (cf42 43).toInt = (cf_197 43).toInt := e56
            have e57 : (cf42 44).toInt = (cf_197 44).toInt := e57
            have e58 : (cf42 45).toInt = (cf_197 45).toInt := e58
            have e59 : (cf42 54).toInt = (cf_197 54).toInt := e59
            have e60 : (cf42 55).toInt = (cf_197 55).toInt := e60
            have e61 : (cf42 58).toInt = (cf_197 58).toInt := e61
            have e62 : (cf42 59).toInt = (cf_197 59).toInt := e62
            have e63 : (cf42 41).toInt = (cf_197 41).toInt := e63
            have e64 : R_mp_bad (3 : Int32) v37 cf_197 cf42 := e64
            have hw : pw D A s.heap H locs [wdP cs h r g tf ta pf na ma_197 wa cf42 ca ef ea xf xa] := hw
            refine lv_goto (tgt := 348) S.x S.b d_Mpg_check_325 (by decide) ?_
            refine lv_iload_n S.x S.b d_Mpg_check_348 rfl (lv_at hl 3 rfl) ?_
            exact px_iret (v := x197_3) S hr rfl hlk hAe hw (Nat.le_of_ble_eq_true rfl) (Nat.le_of_ble_eq_true rfl) (⟨ma_197, cf42, rfl, (show KpE cf cf42 from hke), (show WrV cf42 (tf 6).toInt from hwr), (show (cf42 33).toInt = (cf 33).toInt from by first | exact oz_1687f4cc65 k197_2 e48 | omega), (show (cf42 38).toInt = (cf 38).toInt from by first | exact oz_1687f4cc65 k197_3 e49 | omega), (show (cf42 48).toInt = (cf 48).toInt from by first | exact oz_1687f4cc65 k197_4 e50 | omega), (show (cf42 46).toInt = (cf 46).toInt from by first | exact oz_1687f4cc65 k197_5 e51 | omega), (show (cf42 47).toInt = (cf 47).toInt from by first | exact oz_1687f4cc65 k197_6 e52 | omega), (show (cf42 57).toInt = (cf 57).toInt from by first | exact oz_1687f4cc65 k197_7 e53 | omega), (show Ann na ma0 ma_197 from han), (show FrC lo hi ma ma_197 from hfc), (show 0 ≤ x197_3.toInt from by first | exact oz_9175d0c236 nc34 | omega), (show x197_3.toInt ≤ 4 from by first | exact oz_3da49dea81 k197_10 | omega), (show NmJ ta ca na ma_197 kn p0 x197_3.toInt from (fun h => absurd h (by omega))), (show ZTy cf42 (Gk ta ca na ma0 ns ys nf) na ma_197 lo hi p0 x197_3.toInt from (zr_no (by omega))), (show ZNm cf42 p1.toInt x197_3.toInt from (zr_no (by omega))), (show R_mp_check (RL_mp_check d) tf ta na ca p0 p1 ma cf ma_197 cf42 x197_3 from (k197_16 _ _ _ 1 (Or.inr (Or.inl ⟨rfl, x197_3, x197_7, rfl, rfl, rfl, rfl, rfl, Or.inl ⟨nc1, Or.inr ⟨nc3, Or.inl ⟨nc34, v37, e40, cf42, e64, rfl, rfl, rfl⟩⟩⟩⟩))))⟩) d_Mpg_check_349
          · have nc34 : ¬ x197_3.toInt = (2 : Int) := mt (i_eq (x := x197_3) (y := 2)).mpr c34
            refine lv_iload_n S.x S.b d_Mpg_check_310 rfl (lv_at hl 3 rfl) ?_
            refine lv_iconst (v := 3) S.x S.b d_Mpg_check_311 (by decide) ?_
            refine lv_icmp_ne (tgt := 328) S.x S.b d_Mpg_check_312 (by decide) (fun c65 => ?_) (fun c65 => ?_)
            · have nc65 : ¬ x197_3.toInt = (3 : Int) := mt (i_eq (x := x197_3) (y := 3)).mpr c65
              refine lv_iload_n S.x S.b d_Mpg_check_328 rfl (lv_at hl 2 rfl) ?_
              refine lv_if_eq (tgt := 348) S.x S.b d_Mpg_check_329 (by decide) (fun c67 => ?_) (fun c67 => ?_)
              · have nc67 : p1.toInt = (0 : Int) := (i_eq (x := p1) (y := 0)).mp c67
                refine lv_iload_n S.x S.b d_Mpg_check_348 rfl (lv_at hl 3 rfl) ?_
                exact px_iret (v := x197_3) S hr rfl hlk hAe hw (Nat.le_of_ble_eq_true rfl) (Nat.le_of_ble_eq_true rfl) (⟨ma_197, cf_197, rfl, (show KpE cf cf_197 from hke), (show WrV cf_197 (tf 6).toInt from hwr), (show (cf_197 33).toInt = (cf 33).toInt from by first | exact k197_2 | omega), (show (cf_197 38).toInt = (cf 38).toInt from by first | exact k197_3 | omega), (show (cf_197 48).toInt = (cf 48).toInt from by first | exact k197_4 | omega), (show (cf_197 46).toInt = (cf 46).toInt from by first | exact k197_5 | omega), (show (cf_197 47).toInt = (cf 47).toInt from by first | exact k197_6 | omega), (show (cf_197 57).toInt = (cf 57).toInt from by first | exact k197_7 | omega), (show Ann na ma0 ma_197 from han), (show FrC lo hi ma ma_197 from hfc), (show 0 ≤ x197_3.toInt from by first | exact oz_1b364b1c5f k197_10 | omega), (show x197_3.toInt ≤ 4 from by first | exact oz_3da49dea81 k197_10 | omega), (show NmJ ta ca na ma_197 kn p0 x197_3.toInt from (fun h => absurd h (by omega))), (show ZTy cf_197 (Gk ta ca na ma0 ns ys nf) na ma_197 lo hi p0 x197_3.toInt from (fun zz => Or.inr ⟨by omega, ty_7 hrg (by omega) rfl ((hztr zz).le (by omega) (by omega)) (by omega)⟩)), (show ZNm cf_197 p1.toInt x197_3.toInt from (zty_num (G := (Gk ta ca na ma0 ns ys nf)) (na := na) (ma := ma_197) (lo := lo) (hi := hi) (n := p0) (fun zz => Or.inr ⟨by omega, ty_7 hrg (by omega) rfl ((hztr zz).le (by omega) (by omega)) (by omega)⟩) (by omega))), (show R_mp_check (RL_mp_check d) tf ta na ca p0 p1 ma cf ma_197 cf_197 x197_3 from (k197_16 _ _ _ 1 (Or.inr (Or.inl ⟨rfl, x197_3, x197_7, rfl, rfl, rfl, rfl, rfl, Or.inl ⟨nc1, Or.inr ⟨nc3, Or.inr ⟨nc34, Or.inl ⟨nc65, Or.inl ⟨nc67, rfl, rfl, rfl⟩⟩⟩⟩⟩⟩))))⟩) d_Mpg_check_349
              · have nc67 : ¬ p1.toInt = (0 : Int) := mt (i_eq (x := p1) (y := 0)).mpr c67
                refine lv_iload_n S.x S.b d_Mpg_check_332 rfl (lv_at hl 3 rfl) ?_
                refine lv_iconst (v := 4) S.x S.b d_Mpg_check_333 (by decide) ?_
                refine lv_icmp_ne (tgt := 348) S.x S.b d_Mpg_check_334 (by decide) (fun c69 => ?_) (fun c69 => ?_)
                · have nc69 : ¬ x197_3.toInt = (4 : Int) := mt (i_eq (x := x197_3) (y := 4)).mpr c69
                  refine lv_iload_n S.x S.b d_Mpg_check_348 rfl (lv_at hl 3 rfl) ?_
                  exact px_iret (v := x197_3) S hr rfl hlk hAe hw (Nat.le_of_ble_eq_true rfl) (Nat.le_of_ble_eq_true rfl) (⟨ma_197, cf_197, rfl, (show KpE cf cf_197 from hke), (show WrV cf_197 (tf 6).toInt from hwr), (show (cf_197 33).toInt = (cf 33).toInt from by first | exact k197_2 | omega), (show (cf_197 38).toInt = (cf 38).toInt from by first | exact k197_3 | omega), (show (cf_197 48).toInt = (cf 48).toInt from by first | exact k197_4 | omega), (show (cf_197 46).toInt = (cf 46).toInt from by first | exact k197_5 | omega), (show (cf_197 47).toInt = (cf 47).toInt from by first | exact k197_6 | omega), (show (cf_197 57).toInt = (cf 57).toInt from by first | exact k197_7 | omega), (show Ann na ma0 ma_197 from han), (show FrC lo hi ma ma_197 from hfc), (show 0 ≤ x197_3.toInt from by first | exact oz_1b364b1c5f k197_10 | omega), (show x197_3.toInt ≤ 4 from by first | exact oz_3da49dea81 k197_10 | omega), (show NmJ ta ca na ma_197 kn p0 x197_3.toInt from (fun h => absurd h (by omega))), (show ZTy cf_197 (Gk ta ca na ma0 ns ys nf) na ma_197 lo hi p0 x197_3.toInt from (fun zz => Or.inr ⟨by omega, ty_7 hrg (by omega) rfl ((hztr zz).le (by omega) (by omega)) (by omega)⟩)), (show ZNm cf_197 p1.toInt x197_3.toInt from (zty_num (G := (Gk ta ca na ma0 ns ys nf)) (na := na) (ma := ma_197) (lo := lo) (hi := hi) (n := p0) (fun zz => Or.inr ⟨by omega, ty_7 hrg (by omega) rfl ((hztr zz).le (by omega) (by omega)) (by omega)⟩) (by omega))), (show R_mp_check (RL_mp_check d) tf ta na ca p0 p1 ma cf ma_197 cf_197 x197_3 from (k197_16 _ _ _ 1 (Or.inr (Or.inl ⟨rfl, x197_3, x197_7, rfl, rfl, rfl, rfl, rfl, Or.inl ⟨nc1, Or.inr ⟨nc3, Or.inr ⟨nc34, Or.inl ⟨nc65, Or.inr ⟨nc67, Or.inl ⟨nc69, rfl, rfl, rfl⟩⟩⟩⟩⟩⟩⟩))))⟩) d_Mpg_check_349
                · have nc69 : x197_3.toInt = (4 : Int) := (i_eq (x := x197_3) (y := 4)).mp c69
                  refine lv_aload_n S.x S.b d_Mpg_check_337 rfl (lv_at hl 0 rfl) ?_
                  refine lv_iconst (v := 5) S.x S.b d_Mpg_check_338 (by decide) ?_
                  refine lv_aload_n S.x S.b d_Mpg_check_339 rfl (lv_at hl 0 rfl) ?_
                  refine px_get S k_Mpg hT hw 0 0 15 (v := .ref (r 15)) rfl rfl rfl (by decide) m9_239 d_Mpg_check_340 ?_
                  refine lv_iload_n S.x S.b d_Mpg_check_343 rfl (lv_at hl 1 rfl) ?_
                  refine px_iald S hT hw 0 11 (n := 2100) (f := (na 15)) rfl gp_15 (x := p0) (vp_in_iff.mpr (by first | exact oz_a7e05de1cd hrg.2.2 hrg.2.1 g1 g2 | (constructor <;> omega))) d_Mpg_check_344 ?_
                  refine lv_topi (fun z71 ez71 => ?_)
                  have lz71 := Int32.le_toInt z71
                  have uz71 := Int32.toInt_lt z71
                  have rz71 := EcV.tok hec_p0 ez71
                  refine px_callv (pr := []) (px_runV (As := [.int 5, .int z71]) (rest := []) S (c_mp_bad l D cs h r g tf ta pf na ma_197 wa ca ef ea xf xa cf_197 5 z71  (show 1 ≤ (5 : Int) from by first | exact oz_aeef88fdd7 | omega) (show 0 ≤ z71.toInt from by first | exact rz71.1 | omega) (show z71.toInt < (tf 6).toInt from by first | exact oz_7fe81129bf rz71.2 | omega) htk hwr _) hT (pr := []) (pcs := [wdP cs h r g tf ta pf na ma_197 wa cf_197 ca ef ea xf xa]) hw px_X.tt (px_recv hT hw 0 0 rfl rfl rfl) m12_173 m12_170 m12_172 ms_11_12 m1_21 q_Mpg_bad ⟨show 0 + 1 ≤ (4 * (d + 1) + 12) from (by first | exact oz_a5f81825e1 | omega), show 8 + (3 + 11) + 0 ≤ (200 * (d + 1) + 420) from (by first | exact oz_8c380b9a8a | omega)⟩ hl.1 rfl (Nat.le_of_ble_eq_true rfl) d_Mpg_check_345 ⟨Nat.le_of_ble_eq_true rfl, Nat.le_of_ble_eq_true rfl⟩) hw hA (fun p74 H locs hp74 hw => ?_)
                  obtain ⟨cf73, rfl, e76, e77, e78, e79, e80, e81, e82, e83, e84, e85, e86, e87, e88, e89, e90, e91, e92, e93, e94, e95⟩ := hp74
                  have e76 : KpE cf_197 cf73 := e76
                  have hke := (hke).tr e76
                  have hkz_e76 := e76.2
                  have hztr := Zr.kp hztr e76 id
                  have e77 : WrV cf73 (tf 6).toInt := e77
                  have hwr := e77
                  have hw0_e77 := hwr.1
                  have e78 : 1 ≤ (cf73 30).toInt := e78
                  have e79 : (cf73 33).toInt = (cf_197 33).toInt := e79
                  have e80 : (cf73 38).toInt = (cf_197 38).toInt := e80
                  have e81 : (cf73 48).toInt = (cf_197 48).toInt := e81
                  have e82 : (cf73 46).toInt = (cf_197 46).toInt := e82
                  have e83 : (cf73 47).toInt = (cf_197 47).toInt := e83
                  have e84 : (cf73 57).toInt = (cf_197 57).toInt := e84
                  have e85 : (cf73 37).toInt = (cf_197 37).toInt := e85
                  have e86 : (cf73 42).toInt = (cf_197 42).toInt := e86
                  have e87 : (cf73 43).toInt = (cf_197 43).toInt := e87
                  have e88 : (cf73 44).toInt = (cf_197 44).toInt := e88
                  have e89 : (cf73 45).toInt = (cf_197 45).toInt := e89
                  have e90 : (cf73 54).toInt = (cf_197 54).toInt := e90
                  have e91 : (cf73 55).toInt = (cf_197 55).toInt := e91
                  have e92 : (cf73 58).toInt = (cf_197 58).toInt := e92
                  have e93 : (cf73 59).toInt = (cf_197 59).toInt := e93
                  have e94 : (cf73 41).toInt = (cf_197 41).toInt := e94
                  have e95 : R_mp_bad (5 : Int32) z71 cf_197 cf73 := e95
                  have hw : pw D A s.heap H locs [wdP cs h r g tf ta pf na ma_197 wa cf73 ca ef ea xf xa] := hw
                  refine lv_iload_n S.x S.b d_Mpg_check_348 rfl (lv_at hl 3 rfl) ?_
                  exact px_iret (v := x197_3) S hr rfl hlk hAe hw (Nat.le_of_ble_eq_true rfl) (Nat.le_of_ble_eq_true rfl) (⟨ma_197, cf73, rfl, (show KpE cf cf73 from hke), (show WrV cf73 (tf 6).toInt from hwr), (show (cf73 33).toInt = (cf 33).toInt from by first | exact oz_1687f4cc65 k197_2 e79 | omega), (show (cf73 38).toInt = (cf 38).toInt from by first | exact oz_1687f4cc65 k197_3 e80 | omega), (show (cf73 48).toInt = (cf 48).toInt from by first | exact oz_1687f4cc65 k197_4 e81 | omega), (show (cf73 46).toInt = (cf 46).toInt from by first | exact oz_1687f4cc65 k197_5 e82 | omega), (show (cf73 47).toInt = (cf 47).toInt from by first | exact oz_1687f4cc65 k197_6 e83 | omega), (show (cf73 57).toInt = (cf 57).toInt from by first | exact oz_1687f4cc65 k197_7 e84 | omega), (show Ann na ma0 ma_197 from han), (show FrC lo hi ma ma_197 from hfc), (show 0 ≤ x197_3.toInt from by first | exact oz_13e7b4d4c1 nc69 | omega), (show x197_3.toInt ≤ 4 from by first | exact oz_3da49dea81 k197_10 | omega), (show NmJ ta ca na ma_197 kn p0 x197_3.toInt from (fun h => absurd h (by omega))), (show ZTy cf73 (Gk ta ca na ma0 ns ys nf) na ma_197 lo hi p0 x197_3.toInt from (zr_no (by omega))), (show ZNm cf73 p1.toInt x197_3.toInt from (zr_no (by omega))), (show R_mp_check (RL_mp_check d) tf ta na ca p0 p1 ma cf ma_197 cf73 x197_3 from (k197_16 _ _ _ 1 (Or.inr (Or.inl ⟨rfl, x197_3, x197_7, rfl, rfl, rfl, rfl, rfl, Or.inl ⟨nc1, Or.inr ⟨nc3, Or.inr ⟨nc34, Or.inl ⟨nc65, Or.inr ⟨nc67, Or.inr ⟨nc69, z71, ez71, cf73, e95, rfl, rfl, rfl⟩⟩⟩⟩⟩⟩⟩))))⟩) d_Mpg_check_349
            · have nc65 : x197_3.toInt = (3 : Int) := (i_eq (x := x197_3) (y := 3)).mp c65
              refine lv_aload_n S.x S.b d_Mpg_check_315 rfl (lv_at hl 0 rfl) ?_
              refine lv_iconst (v := 3) S.x S.b d_Mpg_check_316 (by decide) ?_
              refine lv_aload_n S.x S.b d_Mpg_check_317 rfl (lv_at hl 0 rfl) ?_
              refine lv_iload_n S.x S.b d_Mpg_check_318 rfl (lv_at hl 1 rfl) ?_
              refine px_calli (pr := []) (px_runV (As := [.int p0]) (rest := [.int 3, .ref h]) S (c_mp_first l D cs h r g tf ta pf na ma_197 wa cf_197 ca ef ea xf xa p0  (show 0 ≤ p0.toInt from by first | exact hrg.2.2 | omega) (show p0.toInt < (pf 13).toInt from by first | exact oz_7319c2f99d g1 hrg.2.1 | omega) (show (pf 13).toInt ≤ 2100 from by first | exact g2 | omega) htk (FsI.le (N' := (pf 13).toInt) hfs (by omega)) _) hT (pr := []) (pcs := [wdP cs h r g tf ta pf na ma_197 wa cf_197 ca ef ea xf xa]) hw px_X.tt (px_recv hT hw 0 0 rfl rfl rfl) m13_9 m13_6 m13_8 ms_12_15 m1_21 q_Mpg_first ⟨show 0 + 1 ≤ (4 * (d + 1) + 12) from (by first | exact oz_a5f81825e1 | omega), show 8 + (2 + 11) + 0 ≤ (200 * (d + 1) + 420) from (by first | exact oz_c2ae504e3b | omega)⟩ hl.1 rfl (Nat.le_of_ble_eq_true rfl) d_Mpg_check_319 ⟨Nat.le_of_ble_eq_true rfl, Nat.le_of_ble_eq_true rfl⟩) hw hA (fun v97 p96 H locs hp96 hw => ?_)
              obtain ⟨rfl, e98, e99, e100⟩ := hp96
              have e98 : 0 ≤ v97.toInt := e98
              have e99 : v97.toInt < (tf 6).toInt := e99
              have e100 : R_mp_first na p0 v97 := e100
              have hw : pw D A s.heap H locs [wdP cs h r g tf ta pf na ma_197 wa cf_197 ca ef ea xf xa] := hw
              have lv97 := Int32.le_toInt v97
              have uv97 := Int32.toInt_lt v97
              refine px_callv (pr := []) (px_runV (As := [.int 3, .int v97]) (rest := []) S (c_mp_bad l D cs h r g tf ta pf na ma_197 wa ca ef ea xf xa cf_197 3 v97  (show 1 ≤ (3 : Int) from by first | exact oz_00a6fa0b0d | omega) (show 0 ≤ v97.toInt from by first | exact e98 | omega) (show v97.toInt < (tf 6).toInt from by first | exact e99 | omega) htk hwr _) hT (pr := []) (pcs := [wdP cs h r g tf ta pf na ma_197 wa cf_197 ca ef ea xf xa]) hw px_X.tt (px_recv hT hw 0 0 rfl rfl rfl) m12_173 m12_170 m12_172 ms_11_12 m1_21 q_Mpg_bad ⟨show 0 + 1 ≤ (4 * (d + 1) + 12) from (by first | exact oz_a5f81825e1 | omega), show 8 + (3 + 11) + 0 ≤ (200 * (d + 1) + 420) from (by first | exact oz_8c380b9a8a | omega)⟩ hl.1 rfl (Nat.le_of_ble_eq_true rfl) d_Mpg_check_322 ⟨Nat.le_of_ble_eq_true rfl, Nat.le_of_ble_eq_true rfl⟩) hw hA (fun p103 H locs hp103 hw => ?_)
              obtain ⟨cf102, rfl, e105, e106, e107, e108, e109, e110, e111, e112, e113, e114, e115, e116, e117, e118, e119, e120, e121, e122, e123, e124⟩ := hp103
              have e105 : KpE cf_197 cf102 := e105
              have hke := (hke).tr e105
              have hkz_e105 := e105.2
              have hztr := Zr.kp hztr e105 id
              have e106 : WrV cf102 (tf 6).toInt := e106
              have hwr := e106
              have hw0_e106 := hwr.1
              have e107 : 1 ≤ (cf102 30).toInt := e107
              have e108 : (cf102 33).toInt = (cf_197 33).toInt := e108
              have e109 : (cf102 38).toInt = (cf_197 38).toInt := e109
              have e110 : (cf102 48).toInt = (cf_197 48).toInt := e110
              have e111 : (cf102 46).toInt = (cf_197 46).toInt := e111
              have e112 : (cf102 47).toInt = (cf_197 47).toInt := e112
              have e113 : (cf102 57).toInt = (cf_197 57).toInt := e113
              have e114 : (cf102 37).toInt = (cf_197 37).toInt := e114
              have e115 : (cf102 42).toInt = (cf_197 42).toInt := e115
              have e116 : (cf102 43).toInt = (cf_197 43).toInt := e116
              have e117 : (cf102 44).toInt = (cf_197 44).toInt := e117
              have e118 : (cf102 45).toInt = (cf_197 45).toInt := e118
              have e119 : (cf102 54).toInt = (cf_197 54).toInt := e119
              have e120 : (cf102 55).toInt = (cf_197 55).toInt := e120
              have e121 : (cf102 58).toInt = (cf_197 58).toInt := e121
              have e122 : (cf102 59).toInt = (cf_197 59).toInt := e122
              have e123 : (cf102 41).toInt = (cf_197 41).toInt := e123
              have e124 : R_mp_bad (3 : Int32) v97 cf_197 cf102 := e124
              have hw : pw D A s.heap H locs [wdP cs h r g tf ta pf na ma_197 wa cf102 ca ef ea xf xa] := hw
              refine lv_goto (tgt := 348) S.x S.b d_Mpg_check_325 (by decide) ?_
              refine lv_iload_n S.x S.b d_Mpg_check_348 rfl (lv_at hl 3 rfl) ?_
              exact px_iret (v := x197_3) S hr rfl hlk hAe hw (Nat.le_of_ble_eq_true rfl) (Nat.le_of_ble_eq_true rfl) (⟨ma_197, cf102, rfl, (show KpE cf cf102 from hke), (show WrV cf102 (tf 6).toInt from hwr), (show (cf102 33).toInt = (cf 33).toInt from by first | exact oz_1687f4cc65 k197_2 e108 | omega), (show (cf102 38).toInt = (cf 38).toInt from by first | exact oz_1687f4cc65 k197_3 e109 | omega), (show (cf102 48).toInt = (cf 48).toInt from by first | exact oz_1687f4cc65 k197_4 e110 | omega), (show (cf102 46).toInt = (cf 46).toInt from by first | exact oz_1687f4cc65 k197_5 e111 | omega), (show (cf102 47).toInt = (cf 47).toInt from by first | exact oz_1687f4cc65 k197_6 e112 | omega), (show (cf102 57).toInt = (cf 57).toInt from by first | exact oz_1687f4cc65 k197_7 e113 | omega), (show Ann na ma0 ma_197 from han), (show FrC lo hi ma ma_197 from hfc), (show 0 ≤ x197_3.toInt from by first | exact oz_e2e3ee21d3 nc65 | omega), (show x197_3.toInt ≤ 4 from by first | exact oz_3da49dea81 k197_10 | omega), (show NmJ ta ca na ma_197 kn p0 x197_3.toInt from (fun h => absurd h (by omega))), (show ZTy cf102 (Gk ta ca na ma0 ns ys nf) na ma_197 lo hi p0 x197_3.toInt from (zr_no (by omega))), (show ZNm cf102 p1.toInt x197_3.toInt from (zr_no (by omega))), (show R_mp_check (RL_mp_check d) tf ta na ca p0 p1 ma cf ma_197 cf102 x197_3 from (k197_16 _ _ _ 1 (Or.inr (Or.inl ⟨rfl, x197_3, x197_7, rfl, rfl, rfl, rfl, rfl, Or.inl ⟨nc1, Or.inr ⟨nc3, Or.inr ⟨nc34, Or.inr ⟨nc65, v97, e100, cf102, e124, rfl, rfl, rfl⟩⟩⟩⟩⟩))))⟩) d_Mpg_check_349
      · have nc1 : ¬ x197_7.toInt < (0 : Int) := mt (i_lt (x := x197_7) (y := 0)).mpr c1
        refine lv_aload_n S.x S.b d_Mpg_check_202 rfl (lv_at hl 0 rfl) ?_
        obtain ⟨md125, hm1_md125, hm2_md125, ⟨hec_x197_7, hne_md125⟩, hx3_md125, hrr2⟩ := RcE.step hrr (by omega)
        refine lv_iload S.x S.b d_Mpg_check_203 (lv_at hl 4 rfl) ?_
        refine lv_iconst (v := 1) S.x S.b d_Mpg_check_205 (by decide) ?_
        refine px_calli (pr := []) (px_runV (As := [.int x197_7, .int 1]) (rest := []) S (hLC ma0 ys ns nf kn mid_197 md125 h r g tf ta pf na wa ca ef ea xf xa ma_197 cf_197 x197_7 1 (show 0 ≤ mid_197 from by first | exact oz_16d7fa9f32 k197_11 g0 | omega) (show md125 ≤ (pf 13).toInt from by first | exact oz_bbb5b20c1a g1 hm2_md125 | omega) (show (pf 13).toInt ≤ 2100 from by first | exact g2 | omega) (show (tf 6).toInt ≤ 2049 from by first | exact g3 | omega) (show (cf_197 33).toInt = kn from by first | exact oz_1687f4cc65 g4 k197_2 | omega) (show 0 ≤ kn from by first | exact g5 | omega) (show (cf_197 48).toInt = ns from by first | exact oz_1687f4cc65 g6 k197_4 | omega) (show (cf_197 38).toInt = nf from by first | exact oz_1687f4cc65 g7 k197_3 | omega) (show 0 ≤ nf from by first | exact g8 | omega) (show 0 ≤ (1 : Int) from by first | exact oz_19c3a41681 | omega) (show (1 : Int) ≤ 1 from by first | exact oz_f9181dc4bb | omega) htk (FsI.le (N' := (pf 13).toInt) hfs (by omega)) hwr (KnT.eq hkt (by omega)) (FnT.eq hft (by omega)) hks hfp han hec_x197_7 _) hT (pr := []) (pcs := [wdP cs h r g tf ta pf na ma_197 wa cf_197 ca ef ea xf xa]) hw (oX_call (P := (fun A U H => (oP A g U H))) (pr := []) oG_P hw hA hP) (px_recv hT hw 0 0 rfl rfl rfl) m12_217 m12_214 m12_216 ms_12_7 m1_21 q_Mpg_check ⟨show (4 * d + 12) + 1 ≤ (4 * (d + 1) + 12) from (by first | exact oz_6ef785d99b | omega), show 8 + (8 + 11) + (200 * d + 420) ≤ (200 * (d + 1) + 420) from (by first | exact oz_3a4e9491aa | omega)⟩ hl.1 rfl (Nat.le_of_ble_eq_true rfl) d_Mpg_check_206 ⟨Nat.le_of_ble_eq_true rfl, Nat.le_of_ble_eq_true rfl⟩) hw hA (fun v131 p130 H locs hp130 hw => ?_)
        obtain ⟨ma128, cf129, rfl, e132, e133, e134, e135, e136, e137, e138, e139, e140, e141, e142, e143, e144, e145, e146, e147⟩ := hp130
        have e132 : KpE cf_197 cf129 := e132
        have hke := (hke).tr e132
        have hkz_e132 := e132.2
        have e133 : WrV cf129 (tf 6).toInt := e133
        have hwr := e133
        have hw0_e133 := hwr.1
        have e134 : (cf129 33).toInt = (cf_197 33).toInt := e134
        have e135 : (cf129 38).toInt = (cf_197 38).toInt := e135
        have e136 : (cf129 48).toInt = (cf_197 48).toInt := e136
        have e137 : (cf129 46).toInt = (cf_197 46).toInt := e137
        have e138 : (cf129 47).toInt = (cf_197 47).toInt := e138
        have e139 : (cf129 57).toInt = (cf_197 57).toInt := e139
        have e140 : Ann na ma0 ma128 := e140
        have han := e140
        have e141 : FrC mid_197 md125 ma_197 ma128 := e141
        have hfc := hfc.tr e141 (by omega) (by omega)
        have hztr := ZTr.tr hztr e132 e141 (by omega)
        have e142 : 0 ≤ v131.toInt := e142
        have e143 : v131.toInt ≤ 4 := e143
        have e144 : NmJ ta ca na ma128 kn x197_7 v131.toInt := e144
        have hnm_x197_7 := e144
        have e145 : ZTy cf129 (Gk ta ca na ma0 ns ys nf) na ma128 mid_197 md125 x197_7 v131.toInt := e145
        have hzt_x197_7 := e145
        have e146 : ZNm cf129 (1 : Int) v131.toInt := e146
        have hty_x197_7 := ZTy.num hzt_x197_7 e146
        have e147 : RL_mp_check d tf ta na ca x197_7 (1 : Int32) ma_197 cf_197 ma128 cf129 v131 := e147
        have hw : pw D A s.heap H locs [wdP cs h r g tf ta pf na ma128 wa cf129 ca ef ea xf xa] := hw
        have lv131 := Int32.le_toInt v131
        have uv131 := Int32.toInt_lt v131
        refine lv_pop S.x S.b d_Mpg_check_209 rfl ?_
        refine lv_aload_n S.x S.b d_Mpg_check_210 rfl (lv_at hl 0 rfl) ?_
        refine px_get S k_Mpg hT hw 0 0 21 (v := .ref (r 21)) rfl rfl rfl (by decide) m10_7 d_Mpg_check_211 ?_
        refine lv_iload S.x S.b d_Mpg_check_214 (lv_at hl 4 rfl) ?_
        refine px_iald S hT hw 0 17 (n := 2100) (f := (na 21)) rfl gp_21 (x := x197_7) (vp_in_iff.mpr (by constructor <;> omega)) d_Mpg_check_216 ?_
        refine lv_topi (fun z148 ez148 => ?_)
        have lz148 := Int32.le_toInt z148
        have uz148 := Int32.toInt_lt z148
        refine lv_istore (lv' := [(7, .int z148), (0, .ref h), (1, .int p0), (2, .int p1), (3, .int x197_3)]) S.x S.b d_Mpg_check_217 hl (by decide) rfl (fun ls hl => ?_)
        refine lv_goto (tgt := 197) S.x S.b d_Mpg_check_219 (by decide) ?_
        exact ih197 ma128 cf129 md125 x197_3 z148 _ _ ls (show KpE cf cf129 from hke) (show WrV cf129 (tf 6).toInt from hwr) (show (cf129 33).toInt = (cf 33).toInt from by first | exact oz_1687f4cc65 k197_2 e134 | omega) (show (cf129 38).toInt = (cf 38).toInt from by first | exact oz_1687f4cc65 k197_3 e135 | omega) (show (cf129 48).toInt = (cf 48).toInt from by first | exact oz_1687f4cc65 k197_4 e136 | omega) (show (cf129 46).toInt = (cf 46).toInt from by first | exact oz_1687f4cc65 k197_5 e137 | omega) (show (cf129 47).toInt = (cf 47).toInt from by first | exact oz_1687f4cc65 k197_6 e138 | omega) (show (cf129 57).toInt = (cf 57).toInt from by first | exact oz_1687f4cc65 k197_7 e139 | omega) (show Ann na ma0 ma128 from han) (show FrC lo hi ma ma128 from hfc) (show x197_3.toInt = 1 from by first | exact k197_10 | omega) (show lo ≤ md125 from by first | exact hm1_md125 | omega) (show md125 ≤ hi from by first | exact hm2_md125 | omega) (show (na 14 p0.toNatClampNeg).toInt = 7 from by first | exact k197_13 | omega) (show RcN ta (tf 6).toInt na ma0 d p0 md125 hi z148 from (by rw [ez148]; exact hrr2)) (show ZTr cf129 (Gk ta ca na ma0 ns ys nf) na ma128 lo md125 (na 17 p0.toNatClampNeg) z148 from (ZTr.s (hi' := hi) hztr hty_x197_7 (by omega) (by omega) (by omega) ez148)) (show K_mp_check_197 (RL_mp_check d) tf ta na ca p0 p1 ma cf ma128 cf129 x197_3 z148 from (fun y_f0 y_f1 y_v k hE => k197_16 y_f0 y_f1 y_v (k + 1) (Or.inr (Or.inl ⟨rfl, x197_3, x197_7, rfl, rfl, rfl, rfl, rfl, Or.inr ⟨nc1, ma128, cf129, v131, e147, z148, ez148, hE⟩⟩)))) (show hi - md125 < (n_197 : Int) from by omega) hw (lv_sub hl [1, 2, 3, 4, 0] rfl)
  refine lv_iconst (v := 1) S.x S.b d_Mpg_check_0 (by decide) ?_
  refine lv_istore_n (lv' := [(3, .int 1), (0, .ref h), (1, .int p0), (2, .int p1)]) S.x S.b d_Mpg_check_1 rfl hl (by decide) rfl (fun ls hl => ?_)
  refine lv_aload_n S.x S.b d_Mpg_check_2 rfl (lv_at hl 1 rfl) ?_
  refine px_get S k_Mpg hT hw 0 0 14 (v := .ref (r 14)) rfl rfl rfl (by decide) m9_238 d_Mpg_check_3 ?_
  refine lv_iload_n S.x S.b d_Mpg_check_6 rfl (lv_at hl 2 rfl) ?_
  refine px_bald S hT hw 0 10 (n := 2100) (f := (na 14)) rfl gp_14 (x := p0) (vp_in_iff.mpr (by first | exact oz_a7e05de1cd hrg.2.2 hrg.2.1 g1 g2 | (constructor <;> omega))) d_Mpg_check_7 ?_
  refine lv_topi (fun z149 ez149 => ?_)
  have lz149 := Int32.le_toInt z149
  have uz149 := Int32.toInt_lt z149
  have rz149 := EcV.kd hec_p0 ez149
  refine px_tabD S (dt := 264) [(56, [1]), (59, [2]), (68, [3]), (77, [4]), (97, [5]), (161, [6]), (189, [7]), (225, [8])] d_Mpg_check_8 (by decide +kernel) (by decide) (by decide +kernel) ?_ ?_
  · intro hdf_8
    refine lv_aload_n S.x S.b d_Mpg_check_264 rfl (lv_at hl 1 rfl) ?_
    refine lv_aload_n S.x S.b d_Mpg_check_265 rfl (lv_at hl 1 rfl) ?_
    refine px_get S k_Mpg hT hw 0 0 17 (v := .ref (r 17)) rfl rfl rfl (by decide) m10_1 d_Mpg_check_266 ?_
    refine lv_iload_n S.x S.b d_Mpg_check_269 rfl (lv_at hl 2 rfl) ?_
    refine px_iald S hT hw 0 13 (n := 2100) (f := (na 17)) rfl gp_17 (x := p0) (vp_in_iff.mpr (by first | exact oz_a7e05de1cd hrg.2.2 hrg.2.1 g1 g2 | (constructor <;> omega))) d_Mpg_check_270 ?_
    refine lv_topi (fun z151 ez151 => ?_)
    have lz151 := Int32.le_toInt z151
    have uz151 := Int32.toInt_lt z151
    obtain ⟨m1, hm1, hec_z151, hec_y8⟩ := EcV.k9 hec_p0 (by omega) ez151 rfl; have hrg_z151 := EcV.rng hec_z151; have hrg_y8 := EcV.rng hec_y8
    refine lv_iconst (v := 0) S.x S.b d_Mpg_check_271 (by decide) ?_
    refine px_calli (pr := []) (px_runV (As := [.int z151, .int 0]) (rest := []) S (hLC ma0 ys ns nf kn lo m1 h r g tf ta pf na wa ca ef ea xf xa ma cf z151 0 (show 0 ≤ lo from by first | exact g0 | omega) (show m1 ≤ (pf 13).toInt from by first | exact oz_dc2da80b19 g1 hrg_y8.1 hrg.2.1 hrg_y8.2.1 | omega) (show (pf 13).toInt ≤ 2100 from by first | exact g2 | omega) (show (tf 6).toInt ≤ 2049 from by first | exact g3 | omega) (show (cf 33).toInt = kn from by first | exact g4 | omega) (show 0 ≤ kn from by first | exact g5 | omega) (show (cf 48).toInt = ns from by first | exact g6 | omega) (show (cf 38).toInt = nf from by first | exact g7 | omega) (show 0 ≤ nf from by first | exact g8 | omega) (show 0 ≤ (0 : Int) from by first | exact oz_5a341f00aa | omega) (show (0 : Int) ≤ 1 from by first | exact oz_6e68cd0f48 | omega) htk (FsI.le (N' := (pf 13).toInt) hfs (by omega)) hwr (KnT.eq hkt (by omega)) (FnT.eq hft (by omega)) hks hfp han hec_z151 _) hT (pr := []) (pcs := [wdP cs h r g tf ta pf na ma wa cf ca ef ea xf xa]) hw (oX_call (P := (fun A U H => (oP A g U H))) (pr := []) oG_P hw hA hP) (px_recv hT hw 0 0 rfl rfl rfl) m12_217 m12_214 m12_216 ms_12_7 m1_21 q_Mpg_check ⟨show (4 * d + 12) + 1 ≤ (4 * (d + 1) + 12) from (by first | exact oz_6ef785d99b | omega), show 8 + (8 + 11) + (200 * d + 420) ≤ (200 * (d + 1) + 420) from (by first | exact oz_3a4e9491aa | omega)⟩ hl.1 rfl (Nat.le_of_ble_eq_true rfl) d_Mpg_check_272 ⟨Nat.le_of_ble_eq_true rfl, Nat.le_of_ble_eq_true rfl⟩) hw hA (fun v157 p156 H locs hp156 hw => ?_)
    obtain ⟨ma154, cf155, rfl, e158, e159, e160, e161, e162, e163, e164, e165, e166, e167, e168, e169, e170, e171, e172, e173⟩ := hp156
    have e158 : KpE cf cf155 := e158
    have hke := (hke).tr e158
    have hkz_e158 := e158.2
    have e159 : WrV cf155 (tf 6).toInt := e159
    have hwr := e159
    have hw0_e159 := hwr.1
    have e160 : (cf155 33).toInt = (cf 33).toInt := e160
    have e161 : (cf155 38).toInt = (cf 38).toInt := e161
    have e162 : (cf155 48).toInt = (cf 48).toInt := e162
    have e163 : (cf155 46).toInt = (cf 46).toInt := e163
    have e164 : (cf155 47).toInt = (cf 47).toInt := e164
    have e165 : (cf155 57).toInt = (cf 57).toInt := e165
    have e166 : Ann na ma0 ma154 := e166
    have han := e166
    have e167 : FrC lo m1 ma ma154 := e167
    have hfc := hfc.tr e167 (by omega) (by omega)
    have e168 : 0 ≤ v157.toInt := e168
    have e169 : v157.toInt ≤ 4 := e169
    have e170 : NmJ ta ca na ma154 kn z151 v157.toInt := e170
    have hnm_z151 := e170
    have e171 : ZTy cf155 (Gk ta ca na ma0 ns ys nf) na ma154 lo m1 z151 v157.toInt := e171
    have hzt_z151 := e171
    have e172 : ZNm cf155 (0 : Int) v157.toInt := e172
    have e173 : RL_mp_check d tf ta na ca z151 (0 : Int32) ma cf ma154 cf155 v157 := e173
    have hw : pw D A s.heap H locs [wdP cs h r g tf ta pf na ma154 wa cf155 ca ef ea xf xa] := hw
    have lv157 := Int32.le_toInt v157
    have uv157 := Int32.toInt_lt v157
    refine lv_istore (lv' := [(7, .int v157), (3, .int 1), (0, .ref h), (1, .int p0), (2, .int p1)]) S.x S.b d_Mpg_check_275 hl (by decide) rfl (fun ls hl => ?_)
    refine lv_aload_n S.x S.b d_Mpg_check_277 rfl (lv_at hl 2 rfl) ?_
    refine lv_aload_n S.x S.b d_Mpg_check_278 rfl (lv_at hl 2 rfl) ?_
    refine px_get S k_Mpg hT hw 0 0 17 (v := .ref (r 17)) rfl rfl rfl (by decide) m10_1 d_Mpg_check_279 ?_
    refine lv_iload_n S.x S.b d_Mpg_check_282 rfl (lv_at hl 3 rfl) ?_
    refine px_iald S hT hw 0 13 (n := 2100) (f := (na 17)) rfl gp_17 (x := p0) (vp_in_iff.mpr (by first | exact oz_18f227bc52 hrg_y8.2.1 hrg_y8.2.2 hrg.2.1 g1 g2 | (constructor <;> omega))) d_Mpg_check_283 ?_
    refine lv_topi (fun z174 ez174 => ?_)
    have lz174 := Int32.le_toInt z174
    have uz174 := Int32.toInt_lt z174
    have hsz174 : z151 = z174 := ez151.trans ez174.symm; subst hsz174
    refine lv_iload S.x S.b d_Mpg_check_284 (lv_at hl 0 rfl) ?_
    refine px_callv (pr := []) (px_runV (As := [.int z151, .int v157]) (rest := []) S (c_mp_checkPlace l D cs ma0 ys ns nf kn d lo m1 h r g tf ta pf na ma154 wa ca ef ea xf xa cf155 z151 v157  (show 0 ≤ lo from by first | exact g0 | omega) (show m1 ≤ (pf 13).toInt from by first | exact oz_dc2da80b19 g1 hrg_y8.1 hrg.2.1 hrg_y8.2.1 | omega) (show (pf 13).toInt ≤ 2100 from by first | exact g2 | omega) (show (tf 6).toInt ≤ 2049 from by first | exact g3 | omega) (show (cf155 33).toInt = kn from by first | exact oz_1687f4cc65 g4 e160 | omega) (show 0 ≤ kn from by first | exact g5 | omega) (show (cf155 48).toInt = ns from by first | exact oz_1687f4cc65 g6 e162 | omega) (show (cf155 38).toInt = nf from by first | exact oz_1687f4cc65 g7 e161 | omega) (show 0 ≤ nf from by first | exact g8 | omega) (show 0 ≤ v157.toInt from by first | exact e168 | omega) (show v157.toInt ≤ 4 from by first | exact e169 | omega) htk (FsI.le (N' := (pf 13).toInt) hfs (by omega)) hwr (KnT.eq hkt (by omega)) (FnT.eq hft (by omega)) hks hec_z151 hnm_z151 _) hT (pr := []) (pcs := [wdP cs h r g tf ta pf na ma154 wa cf155 ca ef ea xf xa]) hw (oX_call (P := (fun A U H => (oP A g U H))) (pr := []) oG_P hw hA hP) (px_recv hT hw 0 0 rfl rfl rfl) m13_25 m13_22 m13_24 ms_13_3 m1_21 q_Mpg_checkPlace ⟨show 3 + 1 ≤ (4 * (d + 1) + 12) from (by first | exact oz_a751a4894f | omega), show 8 + (4 + 11) + 120 ≤ (200 * (d + 1) + 420) from (by first | exact oz_c781ee8ab2 | omega)⟩ hl.1 rfl (Nat.le_of_ble_eq_true rfl) d_Mpg_check_286 ⟨Nat.le_of_ble_eq_true rfl, Nat.le_of_ble_eq_true rfl⟩) hw hA (fun p177 H locs hp177 hw => ?_)
    obtain ⟨cf176, rfl, e179, e180, e181, e182, e183, e184, e185, e186, e187, e188⟩ := hp177
    have e179 : KpE cf155 cf176 := e179
    have hke := (hke).tr e179
    have hkz_e179 := e179.2
    have hzt_z151 := Zr.kp hzt_z151 e179 id
    have e180 : WrV cf176 (tf 6).toInt := e180
    have hwr := e180
    have hw0_e180 := hwr.1
    have e181 : (cf176 33).toInt = (cf155 33).toInt := e181
    have e182 : (cf176 38).toInt = (cf155 38).toInt := e182
    have e183 : (cf176 48).toInt = (cf155 48).toInt := e183
    have e184 : (cf176 46).toInt = (cf155 46).toInt := e184
    have e185 : (cf176 47).toInt = (cf155 47).toInt := e185
    have e186 : (cf176 57).toInt = (cf155 57).toInt := e186
    have e187 : ZPl cf176 na ma154 z151 v157.toInt := e187
    have hzpl_z151 := e187
    have e188 : R_mp_checkPlace ta na ca z151 v157 cf155 cf176 := e188
    have hw : pw D A s.heap H locs [wdP cs h r g tf ta pf na ma154 wa cf176 ca ef ea xf xa] := hw
    refine lv_aload_n S.x S.b d_Mpg_check_289 rfl (lv_at hl 2 rfl) ?_
    refine lv_aload_n S.x S.b d_Mpg_check_290 rfl (lv_at hl 2 rfl) ?_
    refine px_get S k_Mpg hT hw 0 0 18 (v := .ref (r 18)) rfl rfl rfl (by decide) m10_3 d_Mpg_check_291 ?_
    refine lv_iload_n S.x S.b d_Mpg_check_294 rfl (lv_at hl 3 rfl) ?_
    refine px_iald S hT hw 0 14 (n := 2100) (f := (ma154 18)) rfl gp_18 (x := p0) (vp_in_iff.mpr (by first | exact oz_18f227bc52 hrg_y8.2.1 hrg_y8.2.2 hrg.2.1 g1 g2 | (constructor <;> omega))) d_Mpg_check_295 ?_
    refine lv_topi (fun z189 ez189 => ?_)
    have lz189 := Int32.le_toInt z189
    have uz189 := Int32.toInt_lt z189
    have ha_z189 : z189 = ma0 18 p0.toNatClampNeg := ez189.trans (Ann.b18 han (by omega)); have hec_z189 : EcV ta (tf 6).toInt na ma0 d m1 p0.toInt z189 := (by rw [ha_z189]; exact hec_y8)
    refine lv_iconst (v := 1) S.x S.b d_Mpg_check_296 (by decide) ?_
    refine px_calli (pr := []) (px_runV (As := [.int z189, .int 1]) (rest := []) S (hLC ma0 ys ns nf kn m1 p0.toInt h r g tf ta pf na wa ca ef ea xf xa ma154 cf176 z189 1 (show 0 ≤ m1 from by first | exact oz_0a7da9c4d6 hrg_z151.2.1 hrg_z151.2.2 | omega) (show p0.toInt ≤ (pf 13).toInt from by first | exact oz_6996e0781a g1 hrg.2.1 | omega) (show (pf 13).toInt ≤ 2100 from by first | exact g2 | omega) (show (tf 6).toInt ≤ 2049 from by first | exact g3 | omega) (show (cf176 33).toInt = kn from by first | exact oz_e13fc83238 g4 e181 e160 | omega) (show 0 ≤ kn from by first | exact g5 | omega) (show (cf176 48).toInt = ns from by first | exact oz_e13fc83238 g6 e183 e162 | omega) (show (cf176 38).toInt = nf from by first | exact oz_e13fc83238 g7 e182 e161 | omega) (show 0 ≤ nf from by first | exact g8 | omega) (show 0 ≤ (1 : Int) from by first | exact oz_19c3a41681 | omega) (show (1 : Int) ≤ 1 from by first | exact oz_f9181dc4bb | omega) htk (FsI.le (N' := (pf 13).toInt) hfs (by omega)) hwr (KnT.eq hkt (by omega)) (FnT.eq hft (by omega)) hks hfp han hec_z189 _) hT (pr := []) (pcs := [wdP cs h r g tf ta pf na ma154 wa cf176 ca ef ea xf xa]) hw (oX_call (P := (fun A U H => (oP A g U H))) (pr := []) oG_P hw hA hP) (px_recv hT hw 0 0 rfl rfl rfl) m12_217 m12_214 m12_216 ms_12_7 m1_21 q_Mpg_check ⟨show (4 * d + 12) + 1 ≤ (4 * (d + 1) + 12) from (by first | exact oz_6ef785d99b | omega), show 8 + (8 + 11) + (200 * d + 420) ≤ (200 * (d + 1) + 420) from (by first | exact oz_3a4e9491aa | omega)⟩ hl.1 rfl (Nat.le_of_ble_eq_true rfl) d_Mpg_check_297 ⟨Nat.le_of_ble_eq_true rfl, Nat.le_of_ble_eq_true rfl⟩) hw hA (fun v195 p194 H locs hp194 hw => ?_)
    obtain ⟨ma192, cf193, rfl, e196, e197, e198, e199, e200, e201, e202, e203, e204, e205, e206, e207, e208, e209, e210, e211⟩ := hp194
    have e196 : KpE cf176 cf193 := e196
    have hke := (hke).tr e196
    have hkz_e196 := e196.2
    have e197 : WrV cf193 (tf 6).toInt := e197
    have hwr := e197
    have hw0_e197 := hwr.1
    have e198 : (cf193 33).toInt = (cf176 33).toInt := e198
    have e199 : (cf193 38).toInt = (cf176 38).toInt := e199
    have e200 : (cf193 48).toInt = (cf176 48).toInt := e200
    have e201 : (cf193 46).toInt = (cf176 46).toInt := e201
    have e202 : (cf193 47).toInt = (cf176 47).toInt := e202
    have e203 : (cf193 57).toInt = (cf176 57).toInt := e203
    have e204 : Ann na ma0 ma192 := e204
    have han := e204
    have e205 : FrC m1 p0.toInt ma154 ma192 := e205
    have hfc := hfc.tr e205 (by omega) (by omega)
    have hzt_z151 := ZTy.tr hzt_z151 e196 e205 (by omega)
    have hzpl_z151 := ZPl.tr hzpl_z151 e196 e205 (by omega) (by omega)
    have e206 : 0 ≤ v195.toInt := e206
    have e207 : v195.toInt ≤ 4 := e207
    have e208 : NmJ ta ca na ma192 kn z189 v195.toInt := e208
    have hnm_z189 := e208
    have e209 : ZTy cf193 (Gk ta ca na ma0 ns ys nf) na ma192 m1 p0.toInt z189 v195.toInt := e209
    have hzt_z189 := e209
    have e210 : ZNm cf193 (1 : Int) v195.toInt := e210
    have hty_z189 := ZTy.num hzt_z189 e210
    have e211 : RL_mp_check d tf ta na ca z189 (1 : Int32) ma154 cf176 ma192 cf193 v195 := e211
    have hw : pw D A s.heap H locs [wdP cs h r g tf ta pf na ma192 wa cf193 ca ef ea xf xa] := hw
    have lv195 := Int32.le_toInt v195
    have uv195 := Int32.toInt_lt v195
    refine lv_pop S.x S.b d_Mpg_check_300 rfl ?_
    refine lv_iload_n S.x S.b d_Mpg_check_301 rfl (lv_at hl 4 rfl) ?_
    refine lv_if_eq (tgt := 328) S.x S.b d_Mpg_check_302 (by decide) (fun c212 => ?_) (fun c212 => ?_)
    · have nc212 : p1.toInt = (0 : Int) := (i_eq (x := p1) (y := 0)).mp c212
      refine lv_iload_n S.x S.b d_Mpg_check_328 rfl (lv_at hl 4 rfl) ?_
      refine lv_if_eq (tgt := 348) S.x S.b d_Mpg_check_329 (by decide) (fun c214 => ?_) (fun c214 => ?_)
      · have nc214 : p1.toInt = (0 : Int) := (i_eq (x := p1) (y := 0)).mp c214
        refine lv_iload_n S.x S.b d_Mpg_check_348 rfl (lv_at hl 1 rfl) ?_
        exact px_iret (v := 1) S hr rfl hlk hAe hw (Nat.le_of_ble_eq_true rfl) (Nat.le_of_ble_eq_true rfl) (⟨ma192, cf193, rfl, (show KpE cf cf193 from hke), (show WrV cf193 (tf 6).toInt from hwr), (show (cf193 33).toInt = (cf 33).toInt from by first | exact oz_e13fc83238 e160 e198 e181 | omega), (show (cf193 38).toInt = (cf 38).toInt from by first | exact oz_e13fc83238 e161 e199 e182 | omega), (show (cf193 48).toInt = (cf 48).toInt from by first | exact oz_e13fc83238 e162 e200 e183 | omega), (show (cf193 46).toInt = (cf 46).toInt from by first | exact oz_e13fc83238 e163 e201 e184 | omega), (show (cf193 47).toInt = (cf 47).toInt from by first | exact oz_e13fc83238 e164 e202 e185 | omega), (show (cf193 57).toInt = (cf 57).toInt from by first | exact oz_e13fc83238 e165 e203 e186 | omega), (show Ann na ma0 ma192 from han), (show FrC lo hi ma ma192 from hfc), (show 0 ≤ (1 : Int) from by first | exact oz_19c3a41681 | omega), (show (1 : Int) ≤ 4 from by first | exact oz_39f46dc397 | omega), (show NmJ ta ca na ma192 kn p0 (1 : Int) from (fun h => absurd h (by omega))), (show ZTy cf193 (Gk ta ca na ma0 ns ys nf) na ma192 lo hi p0 (1 : Int) from (fun zz => Or.inr ⟨by omega, ty_9 hrg (by omega) ez151 (ha_z189.trans (Ann.b18 han (by omega)).symm) ((ZTy.pl hzt_z151 hzpl_z151 zz).le (by omega) (by omega)) (hzpl_z151 zz) (ZTy.n0 hzt_z151 zz) ((hty_z189 zz).le (by omega) (by omega))⟩)), (show ZNm cf193 p1.toInt (1 : Int) from (zty_num (G := (Gk ta ca na ma0 ns ys nf)) (na := na) (ma := ma192) (lo := lo) (hi := hi) (n := p0) (fun zz => Or.inr ⟨by omega, ty_9 hrg (by omega) ez151 (ha_z189.trans (Ann.b18 han (by omega)).symm) ((ZTy.pl hzt_z151 hzpl_z151 zz).le (by omega) (by omega)) (hzpl_z151 zz) (ZTy.n0 hzt_z151 zz) ((hty_z189 zz).le (by omega) (by omega))⟩) (by omega))), (show R_mp_check (RL_mp_check d) tf ta na ca p0 p1 ma cf ma192 cf193 (1 : Int32) from (Exists.intro 1 (Or.inl ⟨rfl, z149, ez149, Or.inl ⟨hdf_8, z151, ez151, ma154, cf155, v157, e173, z151, ez174, cf176, e188, z189, ez189, ma192, cf193, v195, e211, Or.inl ⟨nc212, Or.inl ⟨nc214, rfl, rfl, rfl⟩⟩⟩⟩)))⟩) d_Mpg_check_349
      · have nc214 : ¬ p1.toInt = (0 : Int) := mt (i_eq (x := p1) (y := 0)).mpr c214
        refine lv_iload_n S.x S.b d_Mpg_check_332 rfl (lv_at hl 1 rfl) ?_
        refine lv_iconst (v := 4) S.x S.b d_Mpg_check_333 (by decide) ?_
        refine lv_icmp_ne (tgt := 348) S.x S.b d_Mpg_check_334 (by decide) (fun c216 => ?_) (fun c216 => ?_)
        ·
          refine lv_iload_n S.x S.b d_Mpg_check_348 rfl (lv_at hl 1 rfl) ?_
          exact px_iret (v := 1) S hr rfl hlk hAe hw (Nat.le_of_ble_eq_true rfl) (Nat.le_of_ble_eq_true rfl) (⟨ma192, cf193, rfl, (show KpE cf cf193 from hke), (show WrV cf193 (tf 6).toInt from hwr), (show (cf193 33).toInt = (cf 33).toInt from by first | exact oz_e13fc83238 e160 e198 e181 | omega), (show (cf193 38).toInt = (cf 38).toInt from by first | exact oz_e13fc83238 e161 e199 e182 | omega), (show (cf193 48).toInt = (cf 48).toInt from by first | exact oz_e13fc83238 e162 e200 e183 | omega), (show (cf193 46).toInt = (cf 46).toInt from by first | exact oz_e13fc83238 e163 e201 e184 | omega), (show (cf193 47).toInt = (cf 47).toInt from by first | exact oz_e13fc83238 e164 e202 e185 | omega), (show (cf193 57).toInt = (cf 57).toInt from by first | exact oz_e13fc83238 e165 e203 e186 | omega), (show Ann na ma0 ma192 from han), (show FrC lo hi ma ma192 from hfc), (show 0 ≤ (1 : Int) from by first | exact oz_19c3a41681 | omega), (show (1 : Int) ≤ 4 from by first | exact oz_39f46dc397 | omega), (show NmJ ta ca na ma192 kn p0 (1 : Int) from (fun h => absurd h (by omega))), (show ZTy cf193 (Gk ta ca na ma0 ns ys nf) na ma192 lo hi p0 (1 : Int) from (fun zz => Or.inr ⟨by omega, ty_9 hrg (by omega) ez151 (ha_z189.trans (Ann.b18 han (by omega)).symm) ((ZTy.pl hzt_z151 hzpl_z151 zz).le (by omega) (by omega)) (hzpl_z151 zz) (ZTy.n0 hzt_z151 zz) ((hty_z189 zz).le (by omega) (by omega))⟩)), (show ZNm cf193 p1.toInt (1 : Int) from (zty_num (G := (Gk ta ca na ma0 ns ys nf)) (na := na) (ma := ma192) (lo := lo) (hi := hi) (n := p0) (fun zz => Or.inr ⟨by omega, ty_9 hrg (by omega) ez151 (ha_z189.trans (Ann.b18 han (by omega)).symm) ((ZTy.pl hzt_z151 hzpl_z151 zz).le (by omega) (by omega)) (hzpl_z151 zz) (ZTy.n0 hzt_z151 zz) ((hty_z189 zz).le (by omega) (by omega))⟩) (by omega))), (show R_mp_check (RL_mp_check d) tf ta na ca p0 p1 ma cf ma192 cf193 (1 : Int32) from (Exists.intro 1 (Or.inl ⟨rfl, z149, ez149, Or.inl ⟨hdf_8, z151, ez151, ma154, cf155, v157, e173, z151, ez174, cf176, e188, z189, ez189, ma192, cf193, v195, e211, Or.inl ⟨nc212, Or.inr ⟨nc214, rfl, rfl, rfl⟩⟩⟩⟩)))⟩) d_Mpg_check_349
        · exact absurd c216 (by decide)
    · have nc212 : ¬ p1.toInt = (0 : Int) := mt (i_eq (x := p1) (y := 0)).mpr c212
      refine lv_iload_n S.x S.b d_Mpg_check_305 rfl (lv_at hl 1 rfl) ?_
      refine lv_iconst (v := 2) S.x S.b d_Mpg_check_306 (by decide) ?_
      refine lv_icmp_eq (tgt := 315) S.x S.b d_Mpg_check_307 (by decide) (fun c217 => ?_) (fun c217 => ?_)
      · exact absurd c217 (by decide)
      ·
        refine lv_iload_n S.x S.b d_Mpg_check_310 rfl (lv_at hl 1 rfl) ?_
        refine lv_iconst (v := 3) S.x S.b d_Mpg_check_311 (by decide) ?_
        refine lv_icmp_ne (tgt := 328) S.x S.b d_Mpg_check_312 (by decide) (fun c218 => ?_) (fun c218 => ?_)
        ·
          refine lv_iload_n S.x S.b d_Mpg_check_328 rfl (lv_at hl 4 rfl) ?_
          refine lv_if_eq (tgt := 348) S.x S.b d_Mpg_check_329 (by decide) (fun c219 => ?_) (fun c219 => ?_)
          · have nc219 : p1.toInt = (0 : Int) := (i_eq (x := p1) (y := 0)).mp c219
            refine lv_iload_n S.x S.b d_Mpg_check_348 rfl (lv_at hl 1 rfl) ?_
            exact px_iret (v := 1) S hr rfl hlk hAe hw (Nat.le_of_ble_eq_true rfl) (Nat.le_of_ble_eq_true rfl) (⟨ma192, cf193, rfl, (show KpE cf cf193 from hke), (show WrV cf193 (tf 6).toInt from hwr), (show (cf193 33).toInt = (cf 33).toInt from by first | exact oz_e13fc83238 e160 e198 e181 | omega), (show (cf193 38).toInt = (cf 38).toInt from by first | exact oz_e13fc83238 e161 e199 e182 | omega), (show (cf193 48).toInt = (cf 48).toInt from by first | exact oz_e13fc83238 e162 e200 e183 | omega), (show (cf193 46).toInt = (cf 46).toInt from by first | exact oz_e13fc83238 e163 e201 e184 | omega), (show (cf193 47).toInt = (cf 47).toInt from by first | exact oz_e13fc83238 e164 e202 e185 | omega), (show (cf193 57).toInt = (cf 57).toInt from by first | exact oz_e13fc83238 e165 e203 e186 | omega), (show Ann na ma0 ma192 from han), (show FrC lo hi ma ma192 from hfc), (show 0 ≤ (1 : Int) from by first | exact oz_19c3a41681 | omega), (show (1 : Int) ≤ 4 from by first | exact oz_39f46dc397 | omega), (show NmJ ta ca na ma192 kn p0 (1 : Int) from (fun h => absurd h (by omega))), (show ZTy cf193 (Gk ta ca na ma0 ns ys nf) na ma192 lo hi p0 (1 : Int) from (fun zz => Or.inr ⟨by omega, ty_9 hrg (by omega) ez151 (ha_z189.trans (Ann.b18 han (by omega)).symm) ((ZTy.pl hzt_z151 hzpl_z151 zz).le (by omega) (by omega)) (hzpl_z151 zz) (ZTy.n0 hzt_z151 zz) ((hty_z189 zz).le (by omega) (by omega))⟩)), (show ZNm cf193 p1.toInt (1 : Int) from (zty_num (G := (Gk ta ca na ma0 ns ys nf)) (na := na) (ma := ma192) (lo := lo) (hi := hi) (n := p0) (fun zz => Or.inr ⟨by omega, ty_9 hrg (by omega) ez151 (ha_z189.trans (Ann.b18 han (by omega)).symm) ((ZTy.pl hzt_z151 hzpl_z151 zz).le (by omega) (by omega)) (hzpl_z151 zz) (ZTy.n0 hzt_z151 zz) ((hty_z189 zz).le (by omega) (by omega))⟩) (by omega))), (show R_mp_check (RL_mp_check d) tf ta na ca p0 p1 ma cf ma192 cf193 (1 : Int32) from (Exists.intro 1 (Or.inl ⟨rfl, z149, ez149, Or.inl ⟨hdf_8, z151, ez151, ma154, cf155, v157, e173, z151, ez174, cf176, e188, z189, ez189, ma192, cf193, v195, e211, Or.inr ⟨nc212, Or.inl ⟨nc219, rfl, rfl, rfl⟩⟩⟩⟩)))⟩) d_Mpg_check_349
          · have nc219 : ¬ p1.toInt = (0 : Int) := mt (i_eq (x := p1) (y := 0)).mpr c219
            refine lv_iload_n S.x S.b d_Mpg_check_332 rfl (lv_at hl 1 rfl) ?_
            refine lv_iconst (v := 4) S.x S.b d_Mpg_check_333 (by decide) ?_
            refine lv_icmp_ne (tgt := 348) S.x S.b d_Mpg_check_334 (by decide) (fun c221 => ?_) (fun c221 => ?_)
            ·
              refine lv_iload_n S.x S.b d_Mpg_check_348 rfl (lv_at hl 1 rfl) ?_
              exact px_iret (v := 1) S hr rfl hlk hAe hw (Nat.le_of_ble_eq_true rfl) (Nat.le_of_ble_eq_true rfl) (⟨ma192, cf193, rfl, (show KpE cf cf193 from hke), (show WrV cf193 (tf 6).toInt from hwr), (show (cf193 33).toInt = (cf 33).toInt from by first | exact oz_e13fc83238 e160 e198 e181 | omega), (show (cf193 38).toInt = (cf 38).toInt from by first | exact oz_e13fc83238 e161 e199 e182 | omega), (show (cf193 48).toInt = (cf 48).toInt from by first | exact oz_e13fc83238 e162 e200 e183 | omega), (show (cf193 46).toInt = (cf 46).toInt from by first | exact oz_e13fc83238 e163 e201 e184 | omega), (show (cf193 47).toInt = (cf 47).toInt from by first | exact oz_e13fc83238 e164 e202 e185 | omega), (show (cf193 57).toInt = (cf 57).toInt from by first | exact oz_e13fc83238 e165 e203 e186 | omega), (show Ann na ma0 ma192 from han), (show FrC lo hi ma ma192 from hfc), (show 0 ≤ (1 : Int) from by first | exact oz_19c3a41681 | omega), (show (1 : Int) ≤ 4 from by first | exact oz_39f46dc397 | omega), (show NmJ ta ca na ma192 kn p0 (1 : Int) from (fun h => absurd h (by omega))), (show ZTy cf193 (Gk ta ca na ma0 ns ys nf) na ma192 lo hi p0 (1 : Int) from (fun zz => Or.inr ⟨by omega, ty_9 hrg (by omega) ez151 (ha_z189.trans (Ann.b18 han (by omega)).symm) ((ZTy.pl hzt_z151 hzpl_z151 zz).le (by omega) (by omega)) (hzpl_z151 zz) (ZTy.n0 hzt_z151 zz) ((hty_z189 zz).le (by omega) (by omega))⟩)), (show ZNm cf193 p1.toInt (1 : Int) from (zty_num (G := (Gk ta ca na ma0 ns ys nf)) (na := na) (ma := ma192) (lo := lo) (hi := hi) (n := p0) (fun zz => Or.inr ⟨by omega, ty_9 hrg (by omega) ez151 (ha_z189.trans (Ann.b18 han (by omega)).symm) ((ZTy.pl hzt_z151 hzpl_z151 zz).le (by omega) (by omega)) (hzpl_z151 zz) (ZTy.n0 hzt_z151 zz) ((hty_z189 zz).le (by omega) (by omega))⟩) (by omega))), (show R_mp_check (RL_mp_check d) tf ta na ca p0 p1 ma cf ma192 cf193 (1 : Int32) from (Exists.intro 1 (Or.inl ⟨rfl, z149, ez149, Or.inl ⟨hdf_8, z151, ez151, ma154, cf155, v157, e173, z151, ez174, cf176, e188, z189, ez189, ma192, cf193, v195, e211, Or.inr ⟨nc212, Or.inr ⟨nc219, rfl, rfl, rfl⟩⟩⟩⟩)))⟩) d_Mpg_check_349
            · exact absurd c221 (by decide)
        · exact absurd c218 (by decide)
  · refine List.forall_mem_cons.mpr ⟨fun c222 => ?_, List.forall_mem_cons.mpr ⟨fun c222 => ?_, List.forall_mem_cons.mpr ⟨fun c222 => ?_, List.forall_mem_cons.mpr ⟨fun c222 => ?_, List.forall_mem_cons.mpr ⟨fun c222 => ?_, List.forall_mem_cons.mpr ⟨fun c222 => ?_, List.forall_mem_cons.mpr ⟨fun c222 => ?_, List.forall_mem_cons.mpr ⟨fun c222 => ?_, fun _ h => absurd h List.not_mem_nil⟩⟩⟩⟩⟩⟩⟩⟩
    · simp only [List.mem_cons, List.not_mem_nil, or_false] at c222
      refine lv_goto (tgt := 301) S.x S.b d_Mpg_check_56 (by decide) ?_
      refine lv_iload_n S.x S.b d_Mpg_check_301 rfl (lv_at hl 3 rfl) ?_
      refine lv_if_eq (tgt := 328) S.x S.b d_Mpg_check_302 (by decide) (fun c223 => ?_) (fun c223 => ?_)
      · have nc223 : p1.toInt = (0 : Int) := (i_eq (x := p1) (y := 0)).mp c223
        refine lv_iload_n S.x S.b d_Mpg_check_328 rfl (lv_at hl 3 rfl) ?_
        refine lv_if_eq (tgt := 348) S.x S.b d_Mpg_check_329 (by decide) (fun c225 => ?_) (fun c225 => ?_)
        · have nc225 : p1.toInt = (0 : Int) := (i_eq (x := p1) (y := 0)).mp c225
          refine lv_iload_n S.x S.b d_Mpg_check_348 rfl (lv_at hl 0 rfl) ?_
          exact px_iret (v := 1) S hr rfl hlk hAe hw (Nat.le_of_ble_eq_true rfl) (Nat.le_of_ble_eq_true rfl) (⟨ma, cf, rfl, (show KpE cf cf from hke), (show WrV cf (tf 6).toInt from hwr), (show (cf 33).toInt = (cf 33).toInt from rfl), (show (cf 38).toInt = (cf 38).toInt from rfl), (show (cf 48).toInt = (cf 48).toInt from rfl), (show (cf 46).toInt = (cf 46).toInt from rfl), (show (cf 47).toInt = (cf 47).toInt from rfl), (show (cf 57).toInt = (cf 57).toInt from rfl), (show Ann na ma0 ma from han), (show FrC lo hi ma ma from hfc), (show 0 ≤ (1 : Int) from by first | exact oz_19c3a41681 | omega), (show (1 : Int) ≤ 4 from by first | exact oz_39f46dc397 | omega), (show NmJ ta ca na ma kn p0 (1 : Int) from (fun h => absurd h (by omega))), (show ZTy cf (Gk ta ca na ma0 ns ys nf) na ma lo hi p0 (1 : Int) from (fun zz => Or.inr ⟨by omega, ty_1 hrg (by omega)⟩)), (show ZNm cf p1.toInt (1 : Int) from (zty_num (G := (Gk ta ca na ma0 ns ys nf)) (na := na) (ma := ma) (lo := lo) (hi := hi) (n := p0) (fun zz => Or.inr ⟨by omega, ty_1 hrg (by omega)⟩) (by omega))), (show R_mp_check (RL_mp_check d) tf ta na ca p0 p1 ma cf ma cf (1 : Int32) from (Exists.intro 1 (Or.inl ⟨rfl, z149, ez149, Or.inr (Or.inl ⟨c222, Or.inl ⟨nc223, Or.inl ⟨nc225, rfl, rfl, rfl⟩⟩⟩)⟩)))⟩) d_Mpg_check_349
        · have nc225 : ¬ p1.toInt = (0 : Int) := mt (i_eq (x := p1) (y := 0)).mpr c225
          refine lv_iload_n S.x S.b d_Mpg_check_332 rfl (lv_at hl 0 rfl) ?_
          refine lv_iconst (v := 4) S.x S.b d_Mpg_check_333 (by decide) ?_
          refine lv_icmp_ne (tgt := 348) S.x S.b d_Mpg_check_334 (by decide) (fun c227 => ?_) (fun c227 => ?_)
          ·
            refine lv_iload_n S.x S.b d_Mpg_check_348 rfl (lv_at hl 0 rfl) ?_
            exact px_iret (v := 1) S hr rfl hlk hAe hw (Nat.le_of_ble_eq_true rfl) (Nat.le_of_ble_eq_true rfl) (⟨ma, cf, rfl, (show KpE cf cf from hke), (show WrV cf (tf 6).toInt from hwr), (show (cf 33).toInt = (cf 33).toInt from rfl), (show (cf 38).toInt = (cf 38).toInt from rfl), (show (cf 48).toInt = (cf 48).toInt from rfl), (show (cf 46).toInt = (cf 46).toInt from rfl), (show (cf 47).toInt = (cf 47).toInt from rfl), (show (cf 57).toInt = (cf 57).toInt from rfl), (show Ann na ma0 ma from han), (show FrC lo hi ma ma from hfc), (show 0 ≤ (1 : Int) from by first | exact oz_19c3a41681 | omega), (show (1 : Int) ≤ 4 from by first | exact oz_39f46dc397 | omega), (show NmJ ta ca na ma kn p0 (1 : Int) from (fun h => absurd h (by omega))), (show ZTy cf (Gk ta ca na ma0 ns ys nf) na ma lo hi p0 (1 : Int) from (fun zz => Or.inr ⟨by omega, ty_1 hrg (by omega)⟩)), (show ZNm cf p1.toInt (1 : Int) from (zty_num (G := (Gk ta ca na ma0 ns ys nf)) (na := na) (ma := ma) (lo := lo) (hi := hi) (n := p0) (fun zz => Or.inr ⟨by omega, ty_1 hrg (by omega)⟩) (by omega))), (show R_mp_check (RL_mp_check d) tf ta na ca p0 p1 ma cf ma cf (1 : Int32) from (Exists.intro 1 (Or.inl ⟨rfl, z149, ez149, Or.inr (Or.inl ⟨c222, Or.inl ⟨nc223, Or.inr ⟨nc225, rfl, rfl, rfl⟩⟩⟩)⟩)))⟩) d_Mpg_check_349
          · exact absurd c227 (by decide)
      · have nc223 : ¬ p1.toInt = (0 : Int) := mt (i_eq (x := p1) (y := 0)).mpr c223
        refine lv_iload_n S.x S.b d_Mpg_check_305 rfl (lv_at hl 0 rfl) ?_
        refine lv_iconst (v := 2) S.x S.b d_Mpg_check_306 (by decide) ?_
        refine lv_icmp_eq (tgt := 315) S.x S.b d_Mpg_check_307 (by decide) (fun c228 => ?_) (fun c228 => ?_)
        · exact absurd c228 (by decide)
        ·
          refine lv_iload_n S.x S.b d_Mpg_check_310 rfl (lv_at hl 0 rfl) ?_
          refine lv_iconst (v := 3) S.x S.b d_Mpg_check_311 (by decide) ?_
          refine lv_icmp_ne (tgt := 328) S.x S.b d_Mpg_check_312 (by decide) (fun c229 => ?_) (fun c229 => ?_)
          ·
            refine lv_iload_n S.x S.b d_Mpg_check_328 rfl (lv_at hl 3 rfl) ?_
            refine lv_if_eq (tgt := 348) S.x S.b d_Mpg_check_329 (by decide) (fun c230 => ?_) (fun c230 => ?_)
            · have nc230 : p1.toInt = (0 : Int) := (i_eq (x := p1) (y := 0)).mp c230
              refine lv_iload_n S.x S.b d_Mpg_check_348 rfl (lv_at hl 0 rfl) ?_
              exact px_iret (v := 1) S hr rfl hlk hAe hw (Nat.le_of_ble_eq_true rfl) (Nat.le_of_ble_eq_true rfl) (⟨ma, cf, rfl, (show KpE cf cf from hke), (show WrV cf (tf 6).toInt from hwr), (show (cf 33).toInt = (cf 33).toInt from rfl), (show (cf 38).toInt = (cf 38).toInt from rfl), (show (cf 48).toInt = (cf 48).toInt from rfl), (show (cf 46).toInt = (cf 46).toInt from rfl), (show (cf 47).toInt = (cf 47).toInt from rfl), (show (cf 57).toInt = (cf 57).toInt from rfl), (show Ann na ma0 ma from han), (show FrC lo hi ma ma from hfc), (show 0 ≤ (1 : Int) from by first | exact oz_19c3a41681 | omega), (show (1 : Int) ≤ 4 from by first | exact oz_39f46dc397 | omega), (show NmJ ta ca na ma kn p0 (1 : Int) from (fun h => absurd h (by omega))), (show ZTy cf (Gk ta ca na ma0 ns ys nf) na ma lo hi p0 (1 : Int) from (fun zz => Or.inr ⟨by omega, ty_1 hrg (by omega)⟩)), (show ZNm cf p1.toInt (1 : Int) from (zty_num (G := (Gk ta ca na ma0 ns ys nf)) (na := na) (ma := ma) (lo := lo) (hi := hi) (n := p0) (fun zz => Or.inr ⟨by omega, ty_1 hrg (by omega)⟩) (by omega))), (show R_mp_check (RL_mp_check d) tf ta na ca p0 p1 ma cf ma cf (1 : Int32) from (Exists.intro 1 (Or.inl ⟨rfl, z149, ez149, Or.inr (Or.inl ⟨c222, Or.inr ⟨nc223, Or.inl ⟨nc230, rfl, rfl, rfl⟩⟩⟩)⟩)))⟩) d_Mpg_check_349
            · have nc230 : ¬ p1.toInt = (0 : Int) := mt (i_eq (x := p1) (y := 0)).mpr c230
              refine lv_iload_n S.x S.b d_Mpg_check_332 rfl (lv_at hl 0 rfl) ?_
              refine lv_iconst (v := 4) S.x S.b d_Mpg_check_333 (by decide) ?_
              refine lv_icmp_ne (tgt := 348) S.x S.b d_Mpg_check_334 (by decide) (fun c232 => ?_) (fun c232 => ?_)
              ·
                refine lv_iload_n S.x S.b d_Mpg_check_348 rfl (lv_at hl 0 rfl) ?_
                exact px_iret (v := 1) S hr rfl hlk hAe hw (Nat.le_of_ble_eq_true rfl) (Nat.le_of_ble_eq_true rfl) (⟨ma, cf, rfl, (show KpE cf cf from hke), (show WrV cf (tf 6).toInt from hwr), (show (cf 33).toInt = (cf 33).toInt from rfl), (show (cf 38).toInt = (cf 38).toInt from rfl), (show (cf 48).toInt = (cf 48).toInt from rfl), (show (cf 46).toInt = (cf 46).toInt from rfl), (show (cf 47).toInt = (cf 47).toInt from rfl), (show (cf 57).toInt = (cf 57).toInt from rfl), (show Ann na ma0 ma from han), (show FrC lo hi ma ma from hfc), (show 0 ≤ (1 : Int) from by first | exact oz_19c3a41681 | omega), (show (1 : Int) ≤ 4 from by first | exact oz_39f46dc397 | omega), (show NmJ ta ca na ma kn p0 (1 : Int) from (fun h => absurd h (by omega))), (show ZTy cf (Gk ta ca na ma0 ns ys nf) na ma lo hi p0 (1 : Int) from (fun zz => Or.inr ⟨by omega, ty_1 hrg (by omega)⟩)), (show ZNm cf p1.toInt (1 : Int) from (zty_num (G := (Gk ta ca na ma0 ns ys nf)) (na := na) (ma := ma) (lo := lo) (hi := hi) (n := p0) (fun zz => Or.inr ⟨by omega, ty_1 hrg (by omega)⟩) (by omega))), (show R_mp_check (RL_mp_check d) tf ta na ca p0 p1 ma cf ma cf (1 : Int32) from (Exists.intro 1 (Or.inl ⟨rfl, z149, ez149, Or.inr (Or.inl ⟨c222, Or.inr ⟨nc223, Or.inr ⟨nc230, rfl, rfl, rfl⟩⟩⟩)⟩)))⟩) d_Mpg_check_349
              · exact absurd c232 (by decide)
          · exact absurd c229 (by decide)
    · simp only [List.mem_cons, List.not_mem_nil, or_false] at c222
      refine lv_aload_n S.x S.b d_Mpg_check_59 rfl (lv_at hl 1 rfl) ?_
      refine lv_iload_n S.x S.b d_Mpg_check_60 rfl (lv_at hl 2 rfl) ?_
      refine px_calli (pr := []) (px_runV (As := [.int p0]) (rest := []) S (c_mp_checkName l D cs ma0 ys ns nf kn (d + 1) lo hi h r g tf ta pf na wa ca ef ea xf xa ma cf p0  (show 0 ≤ lo from by first | exact g0 | omega) (show hi ≤ (pf 13).toInt from by first | exact g1 | omega) (show (pf 13).toInt ≤ 2100 from by first | exact g2 | omega) (show (tf 6).toInt ≤ 2049 from by first | exact g3 | omega) (show (cf 33).toInt = kn from by first | exact g4 | omega) (show 0 ≤ kn from by first | exact g5 | omega) (show (cf 48).toInt = ns from by first | exact g6 | omega) (show (cf 38).toInt = nf from by first | exact g7 | omega) (show 0 ≤ nf from by first | exact g8 | omega) (show (na 14 p0.toNatClampNeg).toInt = 2 from by omega) htk (FsI.le (N' := (pf 13).toInt) hfs (by omega)) hwr (KnT.eq hkt (by omega)) (FnT.eq hft (by omega)) hks han hec_p0 _) hT (pr := []) (pcs := [wdP cs h r g tf ta pf na ma wa cf ca ef ea xf xa]) hw (oX_call (P := (fun A U H => (oP A g U H))) (pr := []) oG_P hw hA hP) (px_recv hT hw 0 0 rfl rfl rfl) m12_221 m12_218 m12_220 ms_12_8 m1_21 q_Mpg_checkName ⟨show 3 + 1 ≤ (4 * (d + 1) + 12) from (by first | exact oz_a751a4894f | omega), show 8 + (4 + 11) + 120 ≤ (200 * (d + 1) + 420) from (by first | exact oz_c781ee8ab2 | omega)⟩ hl.1 rfl (Nat.le_of_ble_eq_true rfl) d_Mpg_check_61 ⟨Nat.le_of_ble_eq_true rfl, Nat.le_of_ble_eq_true rfl⟩) hw hA (fun v238 p237 H locs hp237 hw => ?_)
      obtain ⟨ma235, cf236, rfl, e239, e240, e241, e242, e243, e244, e245, e246, e247, e248, e249, e250, e251, e252, e253⟩ := hp237
      have e239 : KpE cf cf236 := e239
      have hke := (hke).tr e239
      have hkz_e239 := e239.2
      have e240 : WrV cf236 (tf 6).toInt := e240
      have hwr := e240
      have hw0_e240 := hwr.1
      have e241 : (cf236 33).toInt = (cf 33).toInt := e241
      have e242 : (cf236 38).toInt = (cf 38).toInt := e242
      have e243 : (cf236 48).toInt = (cf 48).toInt := e243
      have e244 : (cf236 46).toInt = (cf 46).toInt := e244
      have e245 : (cf236 47).toInt = (cf 47).toInt := e245
      have e246 : (cf236 57).toInt = (cf 57).toInt := e246
      have e247 : Ann na ma0 ma235 := e247
      have han := e247
      have e248 : FrC lo hi ma ma235 := e248
      have hfc := hfc.tr e248 (by omega) (by omega)
      have e249 : 0 ≤ v238.toInt := e249
      have e250 : v238.toInt ≤ 3 := e250
      have e251 : NmO ta ca na ma235 kn p0 v238.toInt := e251
      have hnmo := e251
      have e252 : ZTy cf236 (Gk ta ca na ma0 ns ys nf) na ma235 lo hi p0 v238.toInt := e252
      have hzt_p0 := e252
      have e253 : R_mp_checkName ta na ca p0 ma cf ma235 cf236 v238 := e253
      have hw : pw D A s.heap H locs [wdP cs h r g tf ta pf na ma235 wa cf236 ca ef ea xf xa] := hw
      have lv238 := Int32.le_toInt v238
      have uv238 := Int32.toInt_lt v238
      refine lv_istore_n (lv' := [(3, .int v238), (0, .ref h), (1, .int p0), (2, .int p1)]) S.x S.b d_Mpg_check_64 rfl hl (by decide) rfl (fun ls hl => ?_)
      refine lv_goto (tgt := 301) S.x S.b d_Mpg_check_65 (by decide) ?_
      refine lv_iload_n S.x S.b d_Mpg_check_301 rfl (lv_at hl 3 rfl) ?_
      refine lv_if_eq (tgt := 328) S.x S.b d_Mpg_check_302 (by decide) (fun c254 => ?_) (fun c254 => ?_)
      · have nc254 : p1.toInt = (0 : Int) := (i_eq (x := p1) (y := 0)).mp c254
        refine lv_iload_n S.x S.b d_Mpg_check_328 rfl (lv_at hl 3 rfl) ?_
        refine lv_if_eq (tgt := 348) S.x S.b d_Mpg_check_329 (by decide) (fun c256 => ?_) (fun c256 => ?_)
        · have nc256 : p1.toInt = (0 : Int) := (i_eq (x := p1) (y := 0)).mp c256
          refine lv_iload_n S.x S.b d_Mpg_check_348 rfl (lv_at hl 0 rfl) ?_
          exact px_iret (v := v238) S hr rfl hlk hAe hw (Nat.le_of_ble_eq_true rfl) (Nat.le_of_ble_eq_true rfl) (⟨ma235, cf236, rfl, (show KpE cf cf236 from hke), (show WrV cf236 (tf 6).toInt from hwr), (show (cf236 33).toInt = (cf 33).toInt from by first | exact e241 | omega), (show (cf236 38).toInt = (cf 38).toInt from by first | exact e242 | omega), (show (cf236 48).toInt = (cf 48).toInt from by first | exact e243 | omega), (show (cf236 46).toInt = (cf 46).toInt from by first | exact e244 | omega), (show (cf236 47).toInt = (cf 47).toInt from by first | exact e245 | omega), (show (cf236 57).toInt = (cf 57).toInt from by first | exact e246 | omega), (show Ann na ma0 ma235 from han), (show FrC lo hi ma ma235 from hfc), (show 0 ≤ v238.toInt from by first | exact e249 | omega), (show v238.toInt ≤ 4 from by first | exact oz_05bb820b9b e250 | omega), (show NmJ ta ca na ma235 kn p0 v238.toInt from (fun _ => hnmo)), (show ZTy cf236 (Gk ta ca na ma0 ns ys nf) na ma235 lo hi p0 v238.toInt from hzt_p0), (show ZNm cf236 p1.toInt v238.toInt from (zty_num (G := (Gk ta ca na ma0 ns ys nf)) (na := na) (ma := ma235) (lo := lo) (hi := hi) (n := p0) hzt_p0 (by omega))), (show R_mp_check (RL_mp_check d) tf ta na ca p0 p1 ma cf ma235 cf236 v238 from (Exists.intro 1 (Or.inl ⟨rfl, z149, ez149, Or.inr (Or.inr (Or.inl ⟨c222, ma235, cf236, v238, e253, Or.inl ⟨nc254, Or.inl ⟨nc256, rfl, rfl, rfl⟩⟩⟩))⟩)))⟩) d_Mpg_check_349
        · have nc256 : ¬ p1.toInt = (0 : Int) := mt (i_eq (x := p1) (y := 0)).mpr c256
          refine lv_iload_n S.x S.b d_Mpg_check_332 rfl (lv_at hl 0 rfl) ?_
          refine lv_iconst (v := 4) S.x S.b d_Mpg_check_333 (by decide) ?_
          refine lv_icmp_ne (tgt := 348) S.x S.b d_Mpg_check_334 (by decide) (fun c258 => ?_) (fun c258 => ?_)
          · have nc258 : ¬ v238.toInt = (4 : Int) := mt (i_eq (x := v238) (y := 4)).mpr c258
            refine lv_iload_n S.x S.b d_Mpg_check_348 rfl (lv_at hl 0 rfl) ?_
            exact px_iret (v := v238) S hr rfl hlk hAe hw (Nat.le_of_ble_eq_true rfl) (Nat.le_of_ble_eq_true rfl) (⟨ma235, cf236, rfl, (show KpE cf cf236 from hke), (show WrV cf236 (tf 6).toInt from hwr), (show (cf236 33).toInt = (cf 33).toInt from by first | exact e241 | omega), (show (cf236 38).toInt = (cf 38).toInt from by first | exact e242 | omega), (show (cf236 48).toInt = (cf 48).toInt from by first | exact e243 | omega), (show (cf236 46).toInt = (cf 46).toInt from by first | exact e244 | omega), (show (cf236 47).toInt = (cf 47).toInt from by first | exact e245 | omega), (show (cf236 57).toInt = (cf 57).toInt from by first | exact e246 | omega), (show Ann na ma0 ma235 from han), (show FrC lo hi ma ma235 from hfc), (show 0 ≤ v238.toInt from by first | exact e249 | omega), (show v238.toInt ≤ 4 from by first | exact oz_05bb820b9b e250 | omega), (show NmJ ta ca na ma235 kn p0 v238.toInt from (fun _ => hnmo)), (show ZTy cf236 (Gk ta ca na ma0 ns ys nf) na ma235 lo hi p0 v238.toInt from hzt_p0), (show ZNm cf236 p1.toInt v238.toInt from (zty_num (G := (Gk ta ca na ma0 ns ys nf)) (na := na) (ma := ma235) (lo := lo) (hi := hi) (n := p0) hzt_p0 (by omega))), (show R_mp_check (RL_mp_check d) tf ta na ca p0 p1 ma cf ma235 cf236 v238 from (Exists.intro 1 (Or.inl ⟨rfl, z149, ez149, Or.inr (Or.inr (Or.inl ⟨c222, ma235, cf236, v238, e253, Or.inl ⟨nc254, Or.inr ⟨nc256, Or.inl ⟨nc258, rfl, rfl, rfl⟩⟩⟩⟩))⟩)))⟩) d_Mpg_check_349
          · have nc258 : v238.toInt = (4 : Int) := (i_eq (x := v238) (y := 4)).mp c258
            refine lv_aload_n S.x S.b d_Mpg_check_337 rfl (lv_at hl 1 rfl) ?_
            refine lv_iconst (v := 5) S.x S.b d_Mpg_check_338 (by decide) ?_
            refine lv_aload_n S.x S.b d_Mpg_check_339 rfl (lv_at hl 1 rfl) ?_
            refine px_get S k_Mpg hT hw 0 0 15 (v := .ref (r 15)) rfl rfl rfl (by decide) m9_239 d_Mpg_check_340 ?_
            refine lv_iload_n S.x S.b d_Mpg_check_343 rfl (lv_at hl 2 rfl) ?_
            refine px_iald S hT hw 0 11 (n := 2100) (f := (na 15)) rfl gp_15 (x := p0) (vp_in_iff.mpr (by first | exact oz_a7e05de1cd hrg.2.2 hrg.2.1 g1 g2 | (constructor <;> omega))) d_Mpg_check_344 ?_
            refine lv_topi (fun z260 ez260 => ?_)
            have lz260 := Int32.le_toInt z260
            have uz260 := Int32.toInt_lt z260
            have rz260 := EcV.tok hec_p0 ez260
            refine px_callv (pr := []) (px_runV (As := [.int 5, .int z260]) (rest := []) S (c_mp_bad l D cs h r g tf ta pf na ma235 wa ca ef ea xf xa cf236 5 z260  (show 1 ≤ (5 : Int) from by first | exact oz_aeef88fdd7 | omega) (show 0 ≤ z260.toInt from by first | exact rz260.1 | omega) (show z260.toInt < (tf 6).toInt from by first | exact oz_7fe81129bf rz260.2 | omega) htk hwr _) hT (pr := []) (pcs := [wdP cs h r g tf ta pf na ma235 wa cf236 ca ef ea xf xa]) hw px_X.tt (px_recv hT hw 0 0 rfl rfl rfl) m12_173 m12_170 m12_172 ms_11_12 m1_21 q_Mpg_bad ⟨show 0 + 1 ≤ (4 * (d + 1) + 12) from (by first | exact oz_a5f81825e1 | omega), show 8 + (3 + 11) + 0 ≤ (200 * (d + 1) + 420) from (by first | exact oz_8c380b9a8a | omega)⟩ hl.1 rfl (Nat.le_of_ble_eq_true rfl) d_Mpg_check_345 ⟨Nat.le_of_ble_eq_true rfl, Nat.le_of_ble_eq_true rfl⟩) hw hA (fun p263 H locs hp263 hw => ?_)
            obtain ⟨cf262, rfl, e265, e266, e267, e268, e269, e270, e271, e272, e273, e274, e275, e276, e277, e278, e279, e280, e281, e282, e283, e284⟩ := hp263
            have e265 : KpE cf236 cf262 := e265
            have hke := (hke).tr e265
            have hkz_e265 := e265.2
            have hzt_p0 := Zr.kp hzt_p0 e265 id
            have e266 : WrV cf262 (tf 6).toInt := e266
            have hwr := e266
            have hw0_e266 := hwr.1
            have e267 : 1 ≤ (cf262 30).toInt := e267
            have e268 : (cf262 33).toInt = (cf236 33).toInt := e268
            have e269 : (cf262 38).toInt = (cf236 38).toInt := e269
            have e270 : (cf262 48).toInt = (cf236 48).toInt := e270
            have e271 : (cf262 46).toInt = (cf236 46).toInt := e271
            have e272 : (cf262 47).toInt = (cf236 47).toInt := e272
            have e273 : (cf262 57).toInt = (cf236 57).toInt := e273
            have e274 : (cf262 37).toInt = (cf236 37).toInt := e274
            have e275 : (cf262 42).toInt = (cf236 42).toInt := e275
            have e276 : (cf262 43).toInt = (cf236 43).toInt := e276
            have e277 : (cf262 44).toInt = (cf236 44).toInt := e277
            have e278 : (cf262 45).toInt = (cf236 45).toInt := e278
            have e279 : (cf262 54).toInt = (cf236 54).toInt := e279
            have e280 : (cf262 55).toInt = (cf236 55).toInt := e280
            have e281 : (cf262 58).toInt = (cf236 58).toInt := e281
            have e282 : (cf262 59).toInt = (cf236 59).toInt := e282
            have e283 : (cf262 41).toInt = (cf236 41).toInt := e283
            have e284 : R_mp_bad (5 : Int32) z260 cf236 cf262 := e284
            have hw : pw D A s.heap H locs [wdP cs h r g tf ta pf na ma235 wa cf262 ca ef ea xf xa] := hw
            refine lv_iload_n S.x S.b d_Mpg_check_348 rfl (lv_at hl 0 rfl) ?_
            exact px_iret (v := v238) S hr rfl hlk hAe hw (Nat.le_of_ble_eq_true rfl) (Nat.le_of_ble_eq_true rfl) (⟨ma235, cf262, rfl, (show KpE cf cf262 from hke), (show WrV cf262 (tf 6).toInt from hwr), (show (cf262 33).toInt = (cf 33).toInt from by first | exact oz_1687f4cc65 e241 e268 | omega), (show (cf262 38).toInt = (cf 38).toInt from by first | exact oz_1687f4cc65 e242 e269 | omega), (show (cf262 48).toInt = (cf 48).toInt from by first | exact oz_1687f4cc65 e243 e270 | omega), (show (cf262 46).toInt = (cf 46).toInt from by first | exact oz_1687f4cc65 e244 e271 | omega), (show (cf262 47).toInt = (cf 47).toInt from by first | exact oz_1687f4cc65 e245 e272 | omega), (show (cf262 57).toInt = (cf 57).toInt from by first | exact oz_1687f4cc65 e246 e273 | omega), (show Ann na ma0 ma235 from han), (show FrC lo hi ma ma235 from hfc), (show 0 ≤ v238.toInt from by first | exact e249 | omega), (show v238.toInt ≤ 4 from by first | exact oz_05bb820b9b e250 | omega), (show NmJ ta ca na ma235 kn p0 v238.toInt from (fun _ => hnmo)), (show ZTy cf262 (Gk ta ca na ma0 ns ys nf) na ma235 lo hi p0 v238.toInt from (zr_no (by omega))), (show ZNm cf262 p1.toInt v238.toInt from (zr_no (by omega))), (show R_mp_check (RL_mp_check d) tf ta na ca p0 p1 ma cf ma235 cf262 v238 from (Exists.intro 1 (Or.inl ⟨rfl, z149, ez149, Or.inr (Or.inr (Or.inl ⟨c222, ma235, cf236, v238, e253, Or.inl ⟨nc254, Or.inr ⟨nc256, Or.inr ⟨nc258, z260, ez260, cf262, e284, rfl, rfl, rfl⟩⟩⟩⟩))⟩)))⟩) d_Mpg_check_349
      · have nc254 : ¬ p1.toInt = (0 : Int) := mt (i_eq (x := p1) (y := 0)).mpr c254
        refine lv_iload_n S.x S.b d_Mpg_check_305 rfl (lv_at hl 0 rfl) ?_
        refine lv_iconst (v := 2) S.x S.b d_Mpg_check_306 (by decide) ?_
        refine lv_icmp_eq (tgt := 315) S.x S.b d_Mpg_check_307 (by decide) (fun c285 => ?_) (fun c285 => ?_)
        · have nc285 : v238.toInt = (2 : Int) := (i_eq (x := v238) (y := 2)).mp c285
          refine lv_aload_n S.x S.b d_Mpg_check_315 rfl (lv_at hl 1 rfl) ?_
          refine lv_iconst (v := 3) S.x S.b d_Mpg_check_316 (by decide) ?_
          refine lv_aload_n S.x S.b d_Mpg_check_317 rfl (lv_at hl 1 rfl) ?_
          refine lv_iload_n S.x S.b d_Mpg_check_318 rfl (lv_at hl 2 rfl) ?_
          refine px_calli (pr := []) (px_runV (As := [.int p0]) (rest := [.int 3, .ref h]) S (c_mp_first l D cs h r g tf ta pf na ma235 wa cf236 ca ef ea xf xa p0  (show 0 ≤ p0.toInt from by first | exact hrg.2.2 | omega) (show p0.toInt < (pf 13).toInt from by first | exact oz_7319c2f99d g1 hrg.2.1 | omega) (show (pf 13).toInt ≤ 2100 from by first | exact g2 | omega) htk (FsI.le (N' := (pf 13).toInt) hfs (by omega)) _) hT (pr := []) (pcs := [wdP cs h r g tf ta pf na ma235 wa cf236 ca ef ea xf xa]) hw px_X.tt (px_recv hT hw 0 0 rfl rfl rfl) m13_9 m13_6 m13_8 ms_12_15 m1_21 q_Mpg_first ⟨show 0 + 1 ≤ (4 * (d + 1) + 12) from (by first | exact oz_a5f81825e1 | omega), show 8 + (2 + 11) + 0 ≤ (200 * (d + 1) + 420) from (by first | exact oz_c2ae504e3b | omega)⟩ hl.1 rfl (Nat.le_of_ble_eq_true rfl) d_Mpg_check_319 ⟨Nat.le_of_ble_eq_true rfl, Nat.le_of_ble_eq_true rfl⟩) hw hA (fun v288 p287 H locs hp287 hw => ?_)
          obtain ⟨rfl, e289, e290, e291⟩ := hp287
          have e289 : 0 ≤ v288.toInt := e289
          have e290 : v288.toInt < (tf 6).toInt := e290
          have e291 : R_mp_first na p0 v288 := e291
          have hw : pw D A s.heap H locs [wdP cs h r g tf ta pf na ma235 wa cf236 ca ef ea xf xa] := hw
          have lv288 := Int32.le_toInt v288
          have uv288 := Int32.toInt_lt v288
          refine px_callv (pr := []) (px_runV (As := [.int 3, .int v288]) (rest := []) S (c_mp_bad l D cs h r g tf ta pf na ma235 wa ca ef ea xf xa cf236 3 v288  (show 1 ≤ (3 : Int) from by first | exact oz_00a6fa0b0d | omega) (show 0 ≤ v288.toInt from by first | exact e289 | omega) (show v288.toInt < (tf 6).toInt from by first | exact e290 | omega) htk hwr _) hT (pr := []) (pcs := [wdP cs h r g tf ta pf na ma235 wa cf236 ca ef ea xf xa]) hw px_X.tt (px_recv hT hw 0 0 rfl rfl rfl) m12_173 m12_170 m12_172 ms_11_12 m1_21 q_Mpg_bad ⟨show 0 + 1 ≤ (4 * (d + 1) + 12) from (by first | exact oz_a5f81825e1 | omega), show 8 + (3 + 11) + 0 ≤ (200 * (d + 1) + 420) from (by first | exact oz_8c380b9a8a | omega)⟩ hl.1 rfl (Nat.le_of_ble_eq_true rfl) d_Mpg_check_322 ⟨Nat.le_of_ble_eq_true rfl, Nat.le_of_ble_eq_true rfl⟩) hw hA (fun p294 H locs hp294 hw => ?_)
          obtain ⟨cf293, rfl, e296, e297, e298, e299, e300, e301, e302, e303, e304, e305, e306, e307, e308, e309, e310, e311, e312, e313, e314, e315⟩ := hp294
          have e296 : KpE cf236 cf293 := e296
          have hke := (hke).tr e296
          have hkz_e296 := e296.2
          have hzt_p0 := Zr.kp hzt_p0 e296 id
          have e297 : WrV cf293 (tf 6).toInt := e297
          have hwr := e297
          have hw0_e297 := hwr.1
          have e298 : 1 ≤ (cf293 30).toInt := e298
          have e299 : (cf293 33).toInt = (cf236 33).toInt := e299
          have e300 : (cf293 38).toInt = (cf236 38).toInt := e300
          have e301 : (cf293 48).toInt = (cf236 48).toInt := e301
          have e302 : (cf293 46).toInt = (cf236 46).toInt := e302
          have e303 : (cf293 47).toInt = (cf236 47).toInt := e303
          have e304 : (cf293 57).toInt = (cf236 57).toInt := e304
          have e305 : (cf293 37).toInt = (cf236 37).toInt := e305
          have e306 : (cf293 42).toInt = (cf236 42).toInt := e306
          have e307 : (cf293 43).toInt = (cf236 43).toInt := e307
          have e308 : (cf293 44).toInt = (cf236 44).toInt := e308
          have e309 : (cf293 45).toInt = (cf236 45).toInt := e309
          have e310 : (cf293 54).toInt = (cf236 54).toInt := e310
          have e311 : (cf293 55).toInt = (cf236 55).toInt := e311
          have e312 : (cf293 58).toInt = (cf236 58).toInt := e312
          have e313 : (cf293 59).toInt = (cf236 59).toInt := e313
          have e314 : (cf293 41).toInt = (cf236 41).toInt := e314
          have e315 : R_mp_bad (3 : Int32) v288 cf236 cf293 := e315
          have hw : pw D A s.heap H locs [wdP cs h r g tf ta pf na ma235 wa cf293 ca ef ea xf xa] := hw
          refine lv_goto (tgt := 348) S.x S.b d_Mpg_check_325 (by decide) ?_
          refine lv_iload_n S.x S.b d_Mpg_check_348 rfl (lv_at hl 0 rfl) ?_
          exact px_iret (v := v238) S hr rfl hlk hAe hw (Nat.le_of_ble_eq_true rfl) (Nat.le_of_ble_eq_true rfl) (⟨ma235, cf293, rfl, (show KpE cf cf293 from hke), (show WrV cf293 (tf 6).toInt from hwr), (show (cf293 33).toInt = (cf 33).toInt from by first | exact oz_1687f4cc65 e241 e299 | omega), (show (cf293 38).toInt = (cf 38).toInt from by first | exact oz_1687f4cc65 e242 e300 | omega), (show (cf293 48).toInt = (cf 48).toInt from by first | exact oz_1687f4cc65 e243 e301 | omega), (show (cf293 46).toInt = (cf 46).toInt from by first | exact oz_1687f4cc65 e244 e302 | omega), (show (cf293 47).toInt = (cf 47).toInt from by first | exact oz_1687f4cc65 e245 e303 | omega), (show (cf293 57).toInt = (cf 57).toInt from by first | exact oz_1687f4cc65 e246 e304 | omega), (show Ann na ma0 ma235 from han), (show FrC lo hi ma ma235 from hfc), (show 0 ≤ v238.toInt from by first | exact e249 | omega), (show v238.toInt ≤ 4 from by first | exact oz_39eeb43c3f nc285 | omega), (show NmJ ta ca na ma235 kn p0 v238.toInt from (fun _ => hnmo)), (show ZTy cf293 (Gk ta ca na ma0 ns ys nf) na ma235 lo hi p0 v238.toInt from (zr_no (by omega))), (show ZNm cf293 p1.toInt v238.toInt from (zr_no (by omega))), (show R_mp_check (RL_mp_check d) tf ta na ca p0 p1 ma cf ma235 cf293 v238 from (Exists.intro 1 (Or.inl ⟨rfl, z149, ez149, Or.inr (Or.inr (Or.inl ⟨c222, ma235, cf236, v238, e253, Or.inr ⟨nc254, Or.inl ⟨nc285, v288, e291, cf293, e315, rfl, rfl, rfl⟩⟩⟩))⟩)))⟩) d_Mpg_check_349
        · have nc285 : ¬ v238.toInt = (2 : Int) := mt (i_eq (x := v238) (y := 2)).mpr c285
          refine lv_iload_n S.x S.b d_Mpg_check_310 rfl (lv_at hl 0 rfl) ?_
          refine lv_iconst (v := 3) S.x S.b d_Mpg_check_311 (by decide) ?_
          refine lv_icmp_ne (tgt := 328) S.x S.b d_Mpg_check_312 (by decide) (fun c316 => ?_) (fun c316 => ?_)
          · have nc316 : ¬ v238.toInt = (3 : Int) := mt (i_eq (x := v238) (y := 3)).mpr c316
            refine lv_iload_n S.x S.b d_Mpg_check_328 rfl (lv_at hl 3 rfl) ?_
            refine lv_if_eq (tgt := 348) S.x S.b d_Mpg_check_329 (by decide) (fun c318 => ?_) (fun c318 => ?_)
            · have nc318 : p1.toInt = (0 : Int) := (i_eq (x := p1) (y := 0)).mp c318
              refine lv_iload_n S.x S.b d_Mpg_check_348 rfl (lv_at hl 0 rfl) ?_
              exact px_iret (v := v238) S hr rfl hlk hAe hw (Nat.le_of_ble_eq_true rfl) (Nat.le_of_ble_eq_true rfl) (⟨ma235, cf236, rfl, (show KpE cf cf236 from hke), (show WrV cf236 (tf 6).toInt from hwr), (show (cf236 33).toInt = (cf 33).toInt from by first | exact e241 | omega), (show (cf236 38).toInt = (cf 38).toInt from by first | exact e242 | omega), (show (cf236 48).toInt = (cf 48).toInt from by first | exact e243 | omega), (show (cf236 46).toInt = (cf 46).toInt from by first | exact e244 | omega), (show (cf236 47).toInt = (cf 47).toInt from by first | exact e245 | omega), (show (cf236 57).toInt = (cf 57).toInt from by first | exact e246 | omega), (show Ann na ma0 ma235 from han), (show FrC lo hi ma ma235 from hfc), (show 0 ≤ v238.toInt from by first | exact e249 | omega), (show v238.toInt ≤ 4 from by first | exact oz_05bb820b9b e250 | omega), (show NmJ ta ca na ma235 kn p0 v238.toInt from (fun _ => hnmo)), (show ZTy cf236 (Gk ta ca na ma0 ns ys nf) na ma235 lo hi p0 v238.toInt from hzt_p0), (show ZNm cf236 p1.toInt v238.toInt from (zty_num (G := (Gk ta ca na ma0 ns ys nf)) (na := na) (ma := ma235) (lo := lo) (hi := hi) (n := p0) hzt_p0 (by omega))), (show R_mp_check (RL_mp_check d) tf ta na ca p0 p1 ma cf ma235 cf236 v238 from (Exists.intro 1 (Or.inl ⟨rfl, z149, ez149, Or.inr (Or.inr (Or.inl ⟨c222, ma235, cf236, v238, e253, Or.inr ⟨nc254, Or.inr ⟨nc285, Or.inl ⟨nc316, Or.inl ⟨nc318, rfl, rfl, rfl⟩⟩⟩⟩⟩))⟩)))⟩) d_Mpg_check_349
            · have nc318 : ¬ p1.toInt = (0 : Int) := mt (i_eq (x := p1) (y := 0)).mpr c318
              refine lv_iload_n S.x S.b d_Mpg_check_332 rfl (lv_at hl 0 rfl) ?_
              refine lv_iconst (v := 4) S.x S.b d_Mpg_check_333 (by decide) ?_
              refine lv_icmp_ne (tgt := 348) S.x S.b d_Mpg_check_334 (by decide) (fun c320 => ?_) (fun c320 => ?_)
              · have nc320 : ¬ v238.toInt = (4 : Int) := mt (i_eq (x := v238) (y := 4)).mpr c320
                refine lv_iload_n S.x S.b d_Mpg_check_348 rfl (lv_at hl 0 rfl) ?_
                exact px_iret (v := v238) S hr rfl hlk hAe hw (Nat.le_of_ble_eq_true rfl) (Nat.le_of_ble_eq_true rfl) (⟨ma235, cf236, rfl, (show KpE cf cf236 from hke), (show WrV cf236 (tf 6).toInt from hwr), (show (cf236 33).toInt = (cf 33).toInt from by first | exact e241 | omega), (show (cf236 38).toInt = (cf 38).toInt from by first | exact e242 | omega), (show (cf236 48).toInt = (cf 48).toInt from by first | exact e243 | omega), (show (cf236 46).toInt = (cf 46).toInt from by first | exact e244 | omega), (show (cf236 47).toInt = (cf 47).toInt from by first | exact e245 | omega), (show (cf236 57).toInt = (cf 57).toInt from by first | exact e246 | omega), (show Ann na ma0 ma235 from han), (show FrC lo hi ma ma235 from hfc), (show 0 ≤ v238.toInt from by first | exact e249 | omega), (show v238.toInt ≤ 4 from by first | exact oz_05bb820b9b e250 | omega), (show NmJ ta ca na ma235 kn p0 v238.toInt from (fun _ => hnmo)), (show ZTy cf236 (Gk ta ca na ma0 ns ys nf) na ma235 lo hi p0 v238.toInt from hzt_p0), (show ZNm cf236 p1.toInt v238.toInt from (zty_num (G := (Gk ta ca na ma0 ns ys nf)) (na := na) (ma := ma235) (lo := lo) (hi := hi) (n := p0) hzt_p0 (by omega))), (show R_mp_check (RL_mp_check d) tf ta na ca p0 p1 ma cf ma235 cf236 v238 from (Exists.intro 1 (Or.inl ⟨rfl, z149, ez149, Or.inr (Or.inr (Or.inl ⟨c222, ma235, cf236, v238, e253, Or.inr ⟨nc254, Or.inr ⟨nc285, Or.inl ⟨nc316, Or.inr ⟨nc318, Or.inl ⟨nc320, rfl, rfl, rfl⟩⟩⟩⟩⟩⟩))⟩)))⟩) d_Mpg_check_349
              · have nc320 : v238.toInt = (4 : Int) := (i_eq (x := v238) (y := 4)).mp c320
                refine lv_aload_n S.x S.b d_Mpg_check_337 rfl (lv_at hl 1 rfl) ?_
                refine lv_iconst (v := 5) S.x S.b d_Mpg_check_338 (by decide) ?_
                refine lv_aload_n S.x S.b d_Mpg_check_339 rfl (lv_at hl 1 rfl) ?_
                refine px_get S k_Mpg hT hw 0 0 15 (v := .ref (r 15)) rfl rfl rfl (by decide) m9_239 d_Mpg_check_340 ?_
                refine lv_iload_n S.x S.b d_Mpg_check_343 rfl (lv_at hl 2 rfl) ?_
                refine px_iald S hT hw 0 11 (n := 2100) (f := (na 15)) rfl gp_15 (x := p0) (vp_in_iff.mpr (by first | exact oz_a7e05de1cd hrg.2.2 hrg.2.1 g1 g2 | (constructor <;> omega))) d_Mpg_check_344 ?_
                refine lv_topi (fun z322 ez322 => ?_)
                have lz322 := Int32.le_toInt z322
                have uz322 := Int32.toInt_lt z322
                have rz322 := EcV.tok hec_p0 ez322
                refine px_callv (pr := []) (px_runV (As := [.int 5, .int z322]) (rest := []) S (c_mp_bad l D cs h r g tf ta pf na ma235 wa ca ef ea xf xa cf236 5 z322  (show 1 ≤ (5 : Int) from by first | exact oz_aeef88fdd7 | omega) (show 0 ≤ z322.toInt from by first | exact rz322.1 | omega) (show z322.toInt < (tf 6).toInt from by first | exact oz_7fe81129bf rz322.2 | omega) htk hwr _) hT (pr := []) (pcs := [wdP cs h r g tf ta pf na ma235 wa cf236 ca ef ea xf xa]) hw px_X.tt (px_recv hT hw 0 0 rfl rfl rfl) m12_173 m12_170 m12_172 ms_11_12 m1_21 q_Mpg_bad ⟨show 0 + 1 ≤ (4 * (d + 1) + 12) from (by first | exact oz_a5f81825e1 | omega), show 8 + (3 + 11) + 0 ≤ (200 * (d + 1) + 420) from (by first | exact oz_8c380b9a8a | omega)⟩ hl.1 rfl (Nat.le_of_ble_eq_true rfl) d_Mpg_check_345 ⟨Nat.le_of_ble_eq_true rfl, Nat.le_of_ble_eq_true rfl⟩) hw hA (fun p325 H locs hp325 hw => ?_)
                obtain ⟨cf324, rfl, e327, e328, e329, e330, e331, e332, e333, e334, e335, e336, e337, e338, e339, e340, e341, e342, e343, e344, e345, e346⟩ := hp325
                have e327 : KpE cf236 cf324 := e327
                have hke := (hke).tr e327
                have hkz_e327 := e327.2
                have hzt_p0 := Zr.kp hzt_p0 e327 id
                have e328 : WrV cf324 (tf 6).toInt := e328
                have hwr := e328
                have hw0_e328 := hwr.1
                have e329 : 1 ≤ (cf324 30).toInt := e329
                have e330 : (cf324 33).toInt = (cf236 33).toInt := e330
                have e331 : (cf324 38).toInt = (cf236 38).toInt := e331
                have e332 : (cf324 48).toInt = (cf236 48).toInt := e332
                have e333 : (cf324 46).toInt = (cf236 46).toInt := e333
                have e334 : (cf324 47).toInt = (cf236 47).toInt := e334
                have e335 : (cf324 57).toInt = (cf236 57).toInt := e335
                have e336 : (cf324 37).toInt = (cf236 37).toInt := e336
                have e337 : (cf324 42).toInt = (cf236 42).toInt := e337
                have e338 : (cf324 43).toInt = (cf236 43).toInt := e338
                have e339 : (cf324 44).toInt = (cf236 44).toInt := e339
                have e340 : (cf324 45).toInt = (cf236 45).toInt := e340
                have e341 : (cf324 54).toInt = (cf236 54).toInt := e341
                have e342 : (cf324 55).toInt = (cf236 55).toInt := e342
                have e343 : (cf324 58).toInt = (cf236 58).toInt := e343
                have e344 : (cf324 59).toInt = (cf236 59).toInt := e344
                have e345 : (cf324 41).toInt = (cf236 41).toInt := e345
                have e346 : R_mp_bad (5 : Int32) z322 cf236 cf324 := e346
                have hw : pw D A s.heap H locs [wdP cs h r g tf ta pf na ma235 wa cf324 ca ef ea xf xa] := hw
                refine lv_iload_n S.x S.b d_Mpg_check_348 rfl (lv_at hl 0 rfl) ?_
                exact px_iret (v := v238) S hr rfl hlk hAe hw (Nat.le_of_ble_eq_true rfl) (Nat.le_of_ble_eq_true rfl) (⟨ma235, cf324, rfl, (show KpE cf cf324 from hke), (show WrV cf324 (tf 6).toInt from hwr), (show (cf324 33).toInt = (cf 33).toInt from by first | exact oz_1687f4cc65 e241 e330 | omega), (show (cf324 38).toInt = (cf 38).toInt from by first | exact oz_1687f4cc65 e242 e331 | omega), (show (cf324 48).toInt = (cf 48).toInt from by first | exact oz_1687f4cc65 e243 e332 | omega), (show (cf324 46).toInt = (cf 46).toInt from by first | exact oz_1687f4cc65 e244 e333 | omega), (show (cf324 47).toInt = (cf 47).toInt from by first | exact oz_1687f4cc65 e245 e334 | omega), (show (cf324 57).toInt = (cf 57).toInt from by first | exact oz_1687f4cc65 e246 e335 | omega), (show Ann na ma0 ma235 from han), (show FrC lo hi ma ma235 from hfc), (show 0 ≤ v238.toInt from by first | exact e249 | omega), (show v238.toInt ≤ 4 from by first | exact oz_05bb820b9b e250 | omega), (show NmJ ta ca na ma235 kn p0 v238.toInt from (fun _ => hnmo)), (show ZTy cf324 (Gk ta ca na ma0 ns ys nf) na ma235 lo hi p0 v238.toInt from (zr_no (by omega))), (show ZNm cf324 p1.toInt v238.toInt from (zr_no (by omega))), (show R_mp_check (RL_mp_check d) tf ta na ca p0 p1 ma cf ma235 cf324 v238 from (Exists.intro 1 (Or.inl ⟨rfl, z149, ez149, Or.inr (Or.inr (Or.inl ⟨c222, ma235, cf236, v238, e253, Or.inr ⟨nc254, Or.inr ⟨nc285, Or.inl ⟨nc316, Or.inr ⟨nc318, Or.inr ⟨nc320, z322, ez322, cf324, e346, rfl, rfl, rfl⟩⟩⟩⟩⟩⟩))⟩)))⟩) d_Mpg_check_349
          · have nc316 : v238.toInt = (3 : Int) := (i_eq (x := v238) (y := 3)).mp c316
            refine lv_aload_n S.x S.b d_Mpg_check_315 rfl (lv_at hl 1 rfl) ?_
            refine lv_iconst (v := 3) S.x S.b d_Mpg_check_316 (by decide) ?_
            refine lv_aload_n S.x S.b d_Mpg_check_317 rfl (lv_at hl 1 rfl) ?_
            refine lv_iload_n S.x S.b d_Mpg_check_318 rfl (lv_at hl 2 rfl) ?_
            refine px_calli (pr := []) (px_runV (As := [.int p0]) (rest := [.int 3, .ref h]) S (c_mp_first l D cs h r g tf ta pf na ma235 wa cf236 ca ef ea xf xa p0  (show 0 ≤ p0.toInt from by first | exact hrg.2.2 | omega) (show p0.toInt < (pf 13).toInt from by first | exact oz_7319c2f99d g1 hrg.2.1 | omega) (show (pf 13).toInt ≤ 2100 from by first | exact g2 | omega) htk (FsI.le (N' := (pf 13).toInt) hfs (by omega)) _) hT (pr := []) (pcs := [wdP cs h r g tf ta pf na ma235 wa cf236 ca ef ea xf xa]) hw px_X.tt (px_recv hT hw 0 0 rfl rfl rfl) m13_9 m13_6 m13_8 ms_12_15 m1_21 q_Mpg_first ⟨show 0 + 1 ≤ (4 * (d + 1) + 12) from (by first | exact oz_a5f81825e1 | omega), show 8 + (2 + 11) + 0 ≤ (200 * (d + 1) + 420) from (by first | exact oz_c2ae504e3b | omega)⟩ hl.1 rfl (Nat.le_of_ble_eq_true rfl) d_Mpg_check_319 ⟨Nat.le_of_ble_eq_true rfl, Nat.le_of_ble_eq_true rfl⟩) hw hA (fun v348 p347 H locs hp347 hw => ?_)
            obtain ⟨rfl, e349, e350, e351⟩ := hp347
            have e349 : 0 ≤ v348.toInt := e349
            have e350 : v348.toInt < (tf 6).toInt := e350
            have e351 : R_mp_first na p0 v348 := e351
            have hw : pw D A s.heap H locs [wdP cs h r g tf ta pf na ma235 wa cf236 ca ef ea xf xa] := hw
            have lv348 := Int32.le_toInt v348
            have uv348 := Int32.toInt_lt v348
            refine px_callv (pr := []) (px_runV (As := [.int 3, .int v348]) (rest := []) S (c_mp_bad l D cs h r g tf ta pf na ma235 wa ca ef ea xf xa cf236 3 v348  (show 1 ≤ (3 : Int) from by first | exact oz_00a6fa0b0d | omega) (show 0 ≤ v348.toInt from by first | exact e349 | omega) (show v348.toInt < (tf 6).toInt from by first | exact e350 | omega) htk hwr _) hT (pr := []) (pcs := [wdP cs h r g tf ta pf na ma235 wa cf236 ca ef ea xf xa]) hw px_X.tt (px_recv hT hw 0 0 rfl rfl rfl) m12_173 m12_170 m12_172 ms_11_12 m1_21 q_Mpg_bad ⟨show 0 + 1 ≤ (4 * (d + 1) + 12) from (by first | exact oz_a5f81825e1 | omega), show 8 + (3 + 11) + 0 ≤ (200 * (d + 1) + 420) from (by first | exact oz_8c380b9a8a | omega)⟩ hl.1 rfl (Nat.le_of_ble_eq_true rfl) d_Mpg_check_322 ⟨Nat.le_of_ble_eq_true rfl, Nat.le_of_ble_eq_true rfl⟩) hw hA (fun p354 H locs hp354 hw => ?_)
            obtain ⟨cf353, rfl, e356, e357, e358, e359, e360, e361, e362, e363, e364, e365, e366, e367, e368, e369, e370, e371, e372, e373, e374, e375⟩ := hp354
            have e356 : KpE cf236 cf353 := e356
            have hke := (hke).tr e356
            have hkz_e356 := e356.2
            have hzt_p0 := Zr.kp hzt_p0 e356 id
            have e357 : WrV cf353 (tf 6).toInt := e357
            have hwr := e357
            have hw0_e357 := hwr.1
            have e358 : 1 ≤ (cf353 30).toInt := e358
            have e359 : (cf353 33).toInt = (cf236 33).toInt := e359
            have e360 : (cf353 38).toInt = (cf236 38).toInt := e360
            have e361 : (cf353 48).toInt = (cf236 48).toInt := e361
            have e362 : (cf353 46).toInt = (cf236 46).toInt := e362
            have e363 : (cf353 47).toInt = (cf236 47).toInt := e363
            have e364 : (cf353 57).toInt = (cf236 57).toInt := e364
            have e365 : (cf353 37).toInt = (cf236 37).toInt := e365
            have e366 : (cf353 42).toInt = (cf236 42).toInt := e366
            have e367 : (cf353 43).toInt = (cf236 43).toInt := e367
            have e368 : (cf353 44).toInt = (cf236 44).toInt := e368
            have e369 : (cf353 45).toInt = (cf236 45).toInt := e369
            have e370 : (cf353 54).toInt = (cf236 54).toInt := e370
            have e371 : (cf353 55).toInt = (cf236 55).toInt := e371
            have e372 : (cf353 58).toInt = (cf236 58).toInt := e372
            have e373 : (cf353 59).toInt = (cf236 59).toInt := e373
            have e374 : (cf353 41).toInt = (cf236 41).toInt := e374
            have e375 : R_mp_bad (3 : Int32) v348 cf236 cf353 := e375
            have hw : pw D A s.heap H locs [wdP cs h r g tf ta pf na ma235 wa cf353 ca ef ea xf xa] := hw
            refine lv_goto (tgt := 348) S.x S.b d_Mpg_check_325 (by decide) ?_
            refine lv_iload_n S.x S.b d_Mpg_check_348 rfl (lv_at hl 0 rfl) ?_
            exact px_iret (v := v238) S hr rfl hlk hAe hw (Nat.le_of_ble_eq_true rfl) (Nat.le_of_ble_eq_true rfl) (⟨ma235, cf353, rfl, (show KpE cf cf353 from hke), (show WrV cf353 (tf 6).toInt from hwr), (show (cf353 33).toInt = (cf 33).toInt from by first | exact oz_1687f4cc65 e241 e359 | omega), (show (cf353 38).toInt = (cf 38).toInt from by first | exact oz_1687f4cc65 e242 e360 | omega), (show (cf353 48).toInt = (cf 48).toInt from by first | exact oz_1687f4cc65 e243 e361 | omega), (show (cf353 46).toInt = (cf 46).toInt from by first | exact oz_1687f4cc65 e244 e362 | omega), (show (cf353 47).toInt = (cf 47).toInt from by first | exact oz_1687f4cc65 e245 e363 | omega), (show (cf353 57).toInt = (cf 57).toInt from by first | exact oz_1687f4cc65 e246 e364 | omega), (show Ann na ma0 ma235 from han), (show FrC lo hi ma ma235 from hfc), (show 0 ≤ v238.toInt from by first | exact e249 | omega), (show v238.toInt ≤ 4 from by first | exact oz_05bb820b9b e250 | omega), (show NmJ ta ca na ma235 kn p0 v238.toInt from (fun _ => hnmo)), (show ZTy cf353 (Gk ta ca na ma0 ns ys nf) na ma235 lo hi p0 v238.toInt from (zr_no (by omega))), (show ZNm cf353 p1.toInt v238.toInt from (zr_no (by omega))), (show R_mp_check (RL_mp_check d) tf ta na ca p0 p1 ma cf ma235 cf353 v238 from (Exists.intro 1 (Or.inl ⟨rfl, z149, ez149, Or.inr (Or.inr (Or.inl ⟨c222, ma235, cf236, v238, e253, Or.inr ⟨nc254, Or.inr ⟨nc285, Or.inr ⟨nc316, v348, e351, cf353, e375, rfl, rfl, rfl⟩⟩⟩⟩))⟩)))⟩) d_Mpg_check_349
    · simp only [List.mem_cons, List.not_mem_nil, or_false] at c222
      refine lv_aload_n S.x S.b d_Mpg_check_68 rfl (lv_at hl 1 rfl) ?_
      refine lv_iload_n S.x S.b d_Mpg_check_69 rfl (lv_at hl 2 rfl) ?_
      refine px_calli (pr := []) (px_runV (As := [.int p0]) (rest := []) S (c_mp_checkCall l D cs ma0 ys ns nf kn d lo hi h r g tf ta pf na wa ca ef ea xf xa ma cf p0  (show 0 ≤ lo from by first | exact g0 | omega) (show hi ≤ (pf 13).toInt from by first | exact g1 | omega) (show (pf 13).toInt ≤ 2100 from by first | exact g2 | omega) (show (tf 6).toInt ≤ 2049 from by first | exact g3 | omega) (show (cf 33).toInt = kn from by first | exact g4 | omega) (show 0 ≤ kn from by first | exact g5 | omega) (show (cf 48).toInt = ns from by first | exact g6 | omega) (show (cf 38).toInt = nf from by first | exact g7 | omega) (show 0 ≤ nf from by first | exact g8 | omega) (show (na 14 p0.toNatClampNeg).toInt = 3 from by omega) htk (FsI.le (N' := (pf 13).toInt) hfs (by omega)) hwr (KnT.eq hkt (by omega)) (FnT.eq hft (by omega)) hks hfp han hec_p0 hLC _) hT (pr := []) (pcs := [wdP cs h r g tf ta pf na ma wa cf ca ef ea xf xa]) hw (oX_call (P := (fun A U H => (oP A g U H))) (pr := []) oG_P hw hA hP) (px_recv hT hw 0 0 rfl rfl rfl) m12_225 m12_222 m12_224 ms_12_9 m1_21 q_Mpg_checkCall ⟨show (4 * d + 14) + 1 ≤ (4 * (d + 1) + 12) from (by first | exact oz_07b5f6f6d8 | omega), show 8 + (9 + 11) + (200 * d + 540) ≤ (200 * (d + 1) + 420) from (by first | exact oz_39425c8970 | omega)⟩ hl.1 rfl (Nat.le_of_ble_eq_true rfl) d_Mpg_check_70 ⟨Nat.le_of_ble_eq_true rfl, Nat.le_of_ble_eq_true rfl⟩) hw hA (fun v381 p380 H locs hp380 hw => ?_)
      obtain ⟨ma378, cf379, rfl, e382, e383, e384, e385, e386, e387, e388, e389, e390, e391, e392, e393, e394, e395⟩ := hp380
      have e382 : KpE cf cf379 := e382
      have hke := (hke).tr e382
      have hkz_e382 := e382.2
      have e383 : WrV cf379 (tf 6).toInt := e383
      have hwr := e383
      have hw0_e383 := hwr.1
      have e384 : (cf379 33).toInt = (cf 33).toInt := e384
      have e385 : (cf379 38).toInt = (cf 38).toInt := e385
      have e386 : (cf379 48).toInt = (cf 48).toInt := e386
      have e387 : (cf379 46).toInt = (cf 46).toInt := e387
      have e388 : (cf379 47).toInt = (cf 47).toInt := e388
      have e389 : (cf379 57).toInt = (cf 57).toInt := e389
      have e390 : Ann na ma0 ma378 := e390
      have han := e390
      have e391 : FrC lo hi ma ma378 := e391
      have hfc := hfc.tr e391 (by omega) (by omega)
      have e392 : 0 ≤ v381.toInt := e392
      have e393 : v381.toInt ≤ 4 := e393
      have e394 : ZTy cf379 (Gk ta ca na ma0 ns ys nf) na ma378 lo hi p0 v381.toInt := e394
      have hzt_p0 := e394
      have e395 : R_mp_checkCall (RL_mp_check d) tf ta na ca p0 ma cf ma378 cf379 v381 := e395
      have hw : pw D A s.heap H locs [wdP cs h r g tf ta pf na ma378 wa cf379 ca ef ea xf xa] := hw
      have lv381 := Int32.le_toInt v381
      have uv381 := Int32.toInt_lt v381
      refine lv_istore_n (lv' := [(3, .int v381), (0, .ref h), (1, .int p0), (2, .int p1)]) S.x S.b d_Mpg_check_73 rfl hl (by decide) rfl (fun ls hl => ?_)
      refine lv_goto (tgt := 301) S.x S.b d_Mpg_check_74 (by decide) ?_
      refine lv_iload_n S.x S.b d_Mpg_check_301 rfl (lv_at hl 3 rfl) ?_
      refine lv_if_eq (tgt := 328) S.x S.b d_Mpg_check_302 (by decide) (fun c396 => ?_) (fun c396 => ?_)
      · have nc396 : p1.toInt = (0 : Int) := (i_eq (x := p1) (y := 0)).mp c396
        refine lv_iload_n S.x S.b d_Mpg_check_328 rfl (lv_at hl 3 rfl) ?_
        refine lv_if_eq (tgt := 348) S.x S.b d_Mpg_check_329 (by decide) (fun c398 => ?_) (fun c398 => ?_)
        · have nc398 : p1.toInt = (0 : Int) := (i_eq (x := p1) (y := 0)).mp c398
          refine lv_iload_n S.x S.b d_Mpg_check_348 rfl (lv_at hl 0 rfl) ?_
          exact px_iret (v := v381) S hr rfl hlk hAe hw (Nat.le_of_ble_eq_true rfl) (Nat.le_of_ble_eq_true rfl) (⟨ma378, cf379, rfl, (show KpE cf cf379 from hke), (show WrV cf379 (tf 6).toInt from hwr), (show (cf379 33).toInt = (cf 33).toInt from by first | exact e384 | omega), (show (cf379 38).toInt = (cf 38).toInt from by first | exact e385 | omega), (show (cf379 48).toInt = (cf 48).toInt from by first | exact e386 | omega), (show (cf379 46).toInt = (cf 46).toInt from by first | exact e387 | omega), (show (cf379 47).toInt = (cf 47).toInt from by first | exact e388 | omega), (show (cf379 57).toInt = (cf 57).toInt from by first | exact e389 | omega), (show Ann na ma0 ma378 from han), (show FrC lo hi ma ma378 from hfc), (show 0 ≤ v381.toInt from by first | exact e392 | omega), (show v381.toInt ≤ 4 from by first | exact e393 | omega), (show NmJ ta ca na ma378 kn p0 v381.toInt from (fun h => absurd h (by omega))), (show ZTy cf379 (Gk ta ca na ma0 ns ys nf) na ma378 lo hi p0 v381.toInt from hzt_p0), (show ZNm cf379 p1.toInt v381.toInt from (zty_num (G := (Gk ta ca na ma0 ns ys nf)) (na := na) (ma := ma378) (lo := lo) (hi := hi) (n := p0) hzt_p0 (by omega))), (show R_mp_check (RL_mp_check d) tf ta na ca p0 p1 ma cf ma378 cf379 v381 from (Exists.intro 1 (Or.inl ⟨rfl, z149, ez149, Or.inr (Or.inr (Or.inr (Or.inl ⟨c222, ma378, cf379, v381, e395, Or.inl ⟨nc396, Or.inl ⟨nc398, rfl, rfl, rfl⟩⟩⟩)))⟩)))⟩) d_Mpg_check_349
        · have nc398 : ¬ p1.toInt = (0 : Int) := mt (i_eq (x := p1) (y := 0)).mpr c398
          refine lv_iload_n S.x S.b d_Mpg_check_332 rfl (lv_at hl 0 rfl) ?_
          refine lv_iconst (v := 4) S.x S.b d_Mpg_check_333 (by decide) ?_
          refine lv_icmp_ne (tgt := 348) S.x S.b d_Mpg_check_334 (by decide) (fun c400 => ?_) (fun c400 => ?_)
          · have nc400 : ¬ v381.toInt = (4 : Int) := mt (i_eq (x := v381) (y := 4)).mpr c400
            refine lv_iload_n S.x S.b d_Mpg_check_348 rfl (lv_at hl 0 rfl) ?_
            exact px_iret (v := v381) S hr rfl hlk hAe hw (Nat.le_of_ble_eq_true rfl) (Nat.le_of_ble_eq_true rfl) (⟨ma378, cf379, rfl, (show KpE cf cf379 from hke), (show WrV cf379 (tf 6).toInt from hwr), (show (cf379 33).toInt = (cf 33).toInt from by first | exact e384 | omega), (show (cf379 38).toInt = (cf 38).toInt from by first | exact e385 | omega), (show (cf379 48).toInt = (cf 48).toInt from by first | exact e386 | omega), (show (cf379 46).toInt = (cf 46).toInt from by first | exact e387 | omega), (show (cf379 47).toInt = (cf 47).toInt from by first | exact e388 | omega), (show (cf379 57).toInt = (cf 57).toInt from by first | exact e389 | omega), (show Ann na ma0 ma378 from han), (show FrC lo hi ma ma378 from hfc), (show 0 ≤ v381.toInt from by first | exact e392 | omega), (show v381.toInt ≤ 4 from by first | exact e393 | omega), (show NmJ ta ca na ma378 kn p0 v381.toInt from (fun h => absurd h (by omega))), (show ZTy cf379 (Gk ta ca na ma0 ns ys nf) na ma378 lo hi p0 v381.toInt from hzt_p0), (show ZNm cf379 p1.toInt v381.toInt from (zty_num (G := (Gk ta ca na ma0 ns ys nf)) (na := na) (ma := ma378) (lo := lo) (hi := hi) (n := p0) hzt_p0 (by omega))), (show R_mp_check (RL_mp_check d) tf ta na ca p0 p1 ma cf ma378 cf379 v381 from (Exists.intro 1 (Or.inl ⟨rfl, z149, ez149, Or.inr (Or.inr (Or.inr (Or.inl ⟨c222, ma378, cf379, v381, e395, Or.inl ⟨nc396, Or.inr ⟨nc398, Or.inl ⟨nc400, rfl, rfl, rfl⟩⟩⟩⟩)))⟩)))⟩) d_Mpg_check_349
          · have nc400 : v381.toInt = (4 : Int) := (i_eq (x := v381) (y := 4)).mp c400
            refine lv_aload_n S.x S.b d_Mpg_check_337 rfl (lv_at hl 1 rfl) ?_
            refine lv_iconst (v := 5) S.x S.b d_Mpg_check_338 (by decide) ?_
            refine lv_aload_n S.x S.b d_Mpg_check_339 rfl (lv_at hl 1 rfl) ?_
            refine px_get S k_Mpg hT hw 0 0 15 (v := .ref (r 15)) rfl rfl rfl (by decide) m9_239 d_Mpg_check_340 ?_
            refine lv_iload_n S.x S.b d_Mpg_check_343 rfl (lv_at hl 2 rfl) ?_
            refine px_iald S hT hw 0 11 (n := 2100) (f := (na 15)) rfl gp_15 (x := p0) (vp_in_iff.mpr (by first | exact oz_a7e05de1cd hrg.2.2 hrg.2.1 g1 g2 | (constructor <;> omega))) d_Mpg_check_344 ?_
            refine lv_topi (fun z402 ez402 => ?_)
            have lz402 := Int32.le_toInt z402
            have uz402 := Int32.toInt_lt z402
            have rz402 := EcV.tok hec_p0 ez402
            refine px_callv (pr := []) (px_runV (As := [.int 5, .int z402]) (rest := []) S (c_mp_bad l D cs h r g tf ta pf na ma378 wa ca ef ea xf xa cf379 5 z402  (show 1 ≤ (5 : Int) from by first | exact oz_aeef88fdd7 | omega) (show 0 ≤ z402.toInt from by first | exact rz402.1 | omega) (show z402.toInt < (tf 6).toInt from by first | exact oz_7fe81129bf rz402.2 | omega) htk hwr _) hT (pr := []) (pcs := [wdP cs h r g tf ta pf na ma378 wa cf379 ca ef ea xf xa]) hw px_X.tt (px_recv hT hw 0 0 rfl rfl rfl) m12_173 m12_170 m12_172 ms_11_12 m1_21 q_Mpg_bad ⟨show 0 + 1 ≤ (4 * (d + 1) + 12) from (by first | exact oz_a5f81825e1 | omega), show 8 + (3 + 11) + 0 ≤ (200 * (d + 1) + 420) from (by first | exact oz_8c380b9a8a | omega)⟩ hl.1 rfl (Nat.le_of_ble_eq_true rfl) d_Mpg_check_345 ⟨Nat.le_of_ble_eq_true rfl, Nat.le_of_ble_eq_true rfl⟩) hw hA (fun p405 H locs hp405 hw => ?_)
            obtain ⟨cf404, rfl, e407, e408, e409, e410, e411, e412, e413, e414, e415, e416, e417, e418, e419, e420, e421, e422, e423, e424, e425, e426⟩ := hp405
            have e407 : KpE cf379 cf404 := e407
            have hke := (hke).tr e407
            have hkz_e407 := e407.2
            have hzt_p0 := Zr.kp hzt_p0 e407 id
            have e408 : WrV cf404 (tf 6).toInt := e408
            have hwr := e408
            have hw0_e408 := hwr.1
            have e409 : 1 ≤ (cf404 30).toInt := e409
            have e410 : (cf404 33).toInt = (cf379 33).toInt := e410
            have e411 : (cf404 38).toInt = (cf379 38).toInt := e411
            have e412 : (cf404 48).toInt = (cf379 48).toInt := e412
            have e413 : (cf404 46).toInt = (cf379 46).toInt := e413
            have e414 : (cf404 47).toInt = (cf379 47).toInt := e414
            have e415 : (cf404 57).toInt = (cf379 57).toInt := e415
            have e416 : (cf404 37).toInt = (cf379 37).toInt := e416
            have e417 : (cf404 42).toInt = (cf379 42).toInt := e417
            have e418 : (cf404 43).toInt = (cf379 43).toInt := e418
            have e419 : (cf404 44).toInt = (cf379 44).toInt := e419
            have e420 : (cf404 45).toInt = (cf379 45).toInt := e420
            have e421 : (cf404 54).toInt = (cf379 54).toInt := e421
            have e422 : (cf404 55).toInt = (cf379 55).toInt := e422
            have e423 : (cf404 58).toInt = (cf379 58).toInt := e423
            have e424 : (cf404 59).toInt = (cf379 59).toInt := e424
            have e425 : (cf404 41).toInt = (cf379 41).toInt := e425
            have e426 : R_mp_bad (5 : Int32) z402 cf379 cf404 := e426
            have hw : pw D A s.heap H locs [wdP cs h r g tf ta pf na ma378 wa cf404 ca ef ea xf xa] := hw
            refine lv_iload_n S.x S.b d_Mpg_check_348 rfl (lv_at hl 0 rfl) ?_
            exact px_iret (v := v381) S hr rfl hlk hAe hw (Nat.le_of_ble_eq_true rfl) (Nat.le_of_ble_eq_true rfl) (⟨ma378, cf404, rfl, (show KpE cf cf404 from hke), (show WrV cf404 (tf 6).toInt from hwr), (show (cf404 33).toInt = (cf 33).toInt from by first | exact oz_1687f4cc65 e384 e410 | omega), (show (cf404 38).toInt = (cf 38).toInt from by first | exact oz_1687f4cc65 e385 e411 | omega), (show (cf404 48).toInt = (cf 48).toInt from by first | exact oz_1687f4cc65 e386 e412 | omega), (show (cf404 46).toInt = (cf 46).toInt from by first | exact oz_1687f4cc65 e387 e413 | omega), (show (cf404 47).toInt = (cf 47).toInt from by first | exact oz_1687f4cc65 e388 e414 | omega), (show (cf404 57).toInt = (cf 57).toInt from by first | exact oz_1687f4cc65 e389 e415 | omega), (show Ann na ma0 ma378 from han), (show FrC lo hi ma ma378 from hfc), (show 0 ≤ v381.toInt from by first | exact e392 | omega), (show v381.toInt ≤ 4 from by first | exact e393 | omega), (show NmJ ta ca na ma378 kn p0 v381.toInt from (fun h => absurd h (by omega))), (show ZTy cf404 (Gk ta ca na ma0 ns ys nf) na ma378 lo hi p0 v381.toInt from (zr_no (by omega))), (show ZNm cf404 p1.toInt v381.toInt from (zr_no (by omega))), (show R_mp_check (RL_mp_check d) tf ta na ca p0 p1 ma cf ma378 cf404 v381 from (Exists.intro 1 (Or.inl ⟨rfl, z149, ez149, Or.inr (Or.inr (Or.inr (Or.inl ⟨c222, ma378, cf379, v381, e395, Or.inl ⟨nc396, Or.inr ⟨nc398, Or.inr ⟨nc400, z402, ez402, cf404, e426, rfl, rfl, rfl⟩⟩⟩⟩)))⟩)))⟩) d_Mpg_check_349
      · have nc396 : ¬ p1.toInt = (0 : Int) := mt (i_eq (x := p1) (y := 0)).mpr c396
        refine lv_iload_n S.x S.b d_Mpg_check_305 rfl (lv_at hl 0 rfl) ?_
        refine lv_iconst (v := 2) S.x S.b d_Mpg_check_306 (by decide) ?_
        refine lv_icmp_eq (tgt := 315) S.x S.b d_Mpg_check_307 (by decide) (fun c427 => ?_) (fun c427 => ?_)
        · have nc427 : v381.toInt = (2 : Int) := (i_eq (x := v381) (y := 2)).mp c427
          refine lv_aload_n S.x S.b d_Mpg_check_315 rfl (lv_at hl 1 rfl) ?_
          refine lv_iconst (v := 3) S.x S.b d_Mpg_check_316 (by decide) ?_
          refine lv_aload_n S.x S.b d_Mpg_check_317 rfl (lv_at hl 1 rfl) ?_
          refine lv_iload_n S.x S.b d_Mpg_check_318 rfl (lv_at hl 2 rfl) ?_
          refine px_calli (pr := []) (px_runV (As := [.int p0]) (rest := [.int 3, .ref h]) S (c_mp_first l D cs h r g tf ta pf na ma378 wa cf379 ca ef ea xf xa p0  (show 0 ≤ p0.toInt from by first | exact hrg.2.2 | omega) (show p0.toInt < (pf 13).toInt from by first | exact oz_7319c2f99d g1 hrg.2.1 | omega) (show (pf 13).toInt ≤ 2100 from by first | exact g2 | omega) htk (FsI.le (N' := (pf 13).toInt) hfs (by omega)) _) hT (pr := []) (pcs := [wdP cs h r g tf ta pf na ma378 wa cf379 ca ef ea xf xa]) hw px_X.tt (px_recv hT hw 0 0 rfl rfl rfl) m13_9 m13_6 m13_8 ms_12_15 m1_21 q_Mpg_first ⟨show 0 + 1 ≤ (4 * (d + 1) + 12) from (by first | exact oz_a5f81825e1 | omega), show 8 + (2 + 11) + 0 ≤ (200 * (d + 1) + 420) from (by first | exact oz_c2ae504e3b | omega)⟩ hl.1 rfl (Nat.le_of_ble_eq_true rfl) d_Mpg_check_319 ⟨Nat.le_of_ble_eq_true rfl, Nat.le_of_ble_eq_true rfl⟩) hw hA (fun v430 p429 H locs hp429 hw => ?_)
          obtain ⟨rfl, e431, e432, e433⟩ := hp429
          have e431 : 0 ≤ v430.toInt := e431
          have e432 : v430.toInt < (tf 6).toInt := e432
          have e433 : R_mp_first na p0 v430 := e433
          have hw : pw D A s.heap H locs [wdP cs h r g tf ta pf na ma378 wa cf379 ca ef ea xf xa] := hw
          have lv430 := Int32.le_toInt v430
          have uv430 := Int32.toInt_lt v430
          refine px_callv (pr := []) (px_runV (As := [.int 3, .int v430]) (rest := []) S (c_mp_bad l D cs h r g tf ta pf na ma378 wa ca ef ea xf xa cf379 3 v430  (show 1 ≤ (3 : Int) from by first | exact oz_00a6fa0b0d | omega) (show 0 ≤ v430.toInt from by first | exact e431 | omega) (show v430.toInt < (tf 6).toInt from by first | exact e432 | omega) htk hwr _) hT (pr := []) (pcs := [wdP cs h r g tf ta pf na ma378 wa cf379 ca ef ea xf xa]) hw px_X.tt (px_recv hT hw 0 0 rfl rfl rfl) m12_173 m12_170 m12_172 ms_11_12 m1_21 q_Mpg_bad ⟨show 0 + 1 ≤ (4 * (d + 1) + 12) from (by first | exact oz_a5f81825e1 | omega), show 8 + (3 + 11) + 0 ≤ (200 * (d + 1) + 420) from (by first | exact oz_8c380b9a8a | omega)⟩ hl.1 rfl (Nat.le_of_ble_eq_true rfl) d_Mpg_check_322 ⟨Nat.le_of_ble_eq_true rfl, Nat.le_of_ble_eq_true rfl⟩) hw hA (fun p436 H locs hp436 hw => ?_)
          obtain ⟨cf435, rfl, e438, e439, e440, e441, e442, e443, e444, e445, e446, e447, e448, e449, e450, e451, e452, e453, e454, e455, e456, e457⟩ := hp436
          have e438 : KpE cf379 cf435 := e438
          have hke := (hke).tr e438
          have hkz_e438 := e438.2
          have hzt_p0 := Zr.kp hzt_p0 e438 id
          have e439 : WrV cf435 (tf 6).toInt := e439
          have hwr := e439
          have hw0_e439 := hwr.1
          have e440 : 1 ≤ (cf435 30).toInt := e440
          have e441 : (cf435 33).toInt = (cf379 33).toInt := e441
          have e442 : (cf435 38).toInt = (cf379 38).toInt := e442
          have e443 : (cf435 48).toInt = (cf379 48).toInt := e443
          have e444 : (cf435 46).toInt = (cf379 46).toInt := e444
          have e445 : (cf435 47).toInt = (cf379 47).toInt := e445
          have e446 : (cf435 57).toInt = (cf379 57).toInt := e446
          have e447 : (cf435 37).toInt = (cf379 37).toInt := e447
          have e448 : (cf435 42).toInt = (cf379 42).toInt := e448
          have e449 : (cf435 43).toInt = (cf379 43).toInt := e449
          have e450 : (cf435 44).toInt = (cf379 44).toInt := e450
          have e451 : (cf435 45).toInt = (cf379 45).toInt := e451
          have e452 : (cf435 54).toInt = (cf379 54).toInt := e452
          have e453 : (cf435 55).toInt = (cf379 55).toInt := e453
          have e454 : (cf435 58).toInt = (cf379 58).toInt := e454
          have e455 : (cf435 59).toInt = (cf379 59).toInt := e455
          have e456 : (cf435 41).toInt = (cf379 41).toInt := e456
          have e457 : R_mp_bad (3 : Int32) v430 cf379 cf435 := e457
          have hw : pw D A s.heap H locs [wdP cs h r g tf ta pf na ma378 wa cf435 ca ef ea xf xa] := hw
          refine lv_goto (tgt := 348) S.x S.b d_Mpg_check_325 (by decide) ?_
          refine lv_iload_n S.x S.b d_Mpg_check_348 rfl (lv_at hl 0 rfl) ?_
          exact px_iret (v := v381) S hr rfl hlk hAe hw (Nat.le_of_ble_eq_true rfl) (Nat.le_of_ble_eq_true rfl) (⟨ma378, cf435, rfl, (show KpE cf cf435 from hke), (show WrV cf435 (tf 6).toInt from hwr), (show (cf435 33).toInt = (cf 33).toInt from by first | exact oz_1687f4cc65 e384 e441 | omega), (show (cf435 38).toInt = (cf 38).toInt from by first | exact oz_1687f4cc65 e385 e442 | omega), (show (cf435 48).toInt = (cf 48).toInt from by first | exact oz_1687f4cc65 e386 e443 | omega), (show (cf435 46).toInt = (cf 46).toInt from by first | exact oz_1687f4cc65 e387 e444 | omega), (show (cf435 47).toInt = (cf 47).toInt from by first | exact oz_1687f4cc65 e388 e445 | omega), (show (cf435 57).toInt = (cf 57).toInt from by first | exact oz_1687f4cc65 e389 e446 | omega), (show Ann na ma0 ma378 from han), (show FrC lo hi ma ma378 from hfc), (show 0 ≤ v381.toInt from by first | exact e392 | omega), (show v381.toInt ≤ 4 from by first | exact e393 | omega), (show NmJ ta ca na ma378 kn p0 v381.toInt from (fun h => absurd h (by omega))), (show ZTy cf435 (Gk ta ca na ma0 ns ys nf) na ma378 lo hi p0 v381.toInt from (zr_no (by omega))), (show ZNm cf435 p1.toInt v381.toInt from (zr_no (by omega))), (show R_mp_check (RL_mp_check d) tf ta na ca p0 p1 ma cf ma378 cf435 v381 from (Exists.intro 1 (Or.inl ⟨rfl, z149, ez149, Or.inr (Or.inr (Or.inr (Or.inl ⟨c222, ma378, cf379, v381, e395, Or.inr ⟨nc396, Or.inl ⟨nc427, v430, e433, cf435, e457, rfl, rfl, rfl⟩⟩⟩)))⟩)))⟩) d_Mpg_check_349
        · have nc427 : ¬ v381.toInt = (2 : Int) := mt (i_eq (x := v381) (y := 2)).mpr c427
          refine lv_iload_n S.x S.b d_Mpg_check_310 rfl (lv_at hl 0 rfl) ?_
          refine lv_iconst (v := 3) S.x S.b d_Mpg_check_311 (by decide) ?_
          refine lv_icmp_ne (tgt := 328) S.x S.b d_Mpg_check_312 (by decide) (fun c458 => ?_) (fun c458 => ?_)
          · have nc458 : ¬ v381.toInt = (3 : Int) := mt (i_eq (x := v381) (y := 3)).mpr c458
            refine lv_iload_n S.x S.b d_Mpg_check_328 rfl (lv_at hl 3 rfl) ?_
            refine lv_if_eq (tgt := 348) S.x S.b d_Mpg_check_329 (by decide) (fun c460 => ?_) (fun c460 => ?_)
            · have nc460 : p1.toInt = (0 : Int) := (i_eq (x := p1) (y := 0)).mp c460
              refine lv_iload_n S.x S.b d_Mpg_check_348 rfl (lv_at hl 0 rfl) ?_
              exact px_iret (v := v381) S hr rfl hlk hAe hw (Nat.le_of_ble_eq_true rfl) (Nat.le_of_ble_eq_true rfl) (⟨ma378, cf379, rfl, (show KpE cf cf379 from hke), (show WrV cf379 (tf 6).toInt from hwr), (show (cf379 33).toInt = (cf 33).toInt from by first | exact e384 | omega), (show (cf379 38).toInt = (cf 38).toInt from by first | exact e385 | omega), (show (cf379 48).toInt = (cf 48).toInt from by first | exact e386 | omega), (show (cf379 46).toInt = (cf 46).toInt from by first | exact e387 | omega), (show (cf379 47).toInt = (cf 47).toInt from by first | exact e388 | omega), (show (cf379 57).toInt = (cf 57).toInt from by first | exact e389 | omega), (show Ann na ma0 ma378 from han), (show FrC lo hi ma ma378 from hfc), (show 0 ≤ v381.toInt from by first | exact e392 | omega), (show v381.toInt ≤ 4 from by first | exact e393 | omega), (show NmJ ta ca na ma378 kn p0 v381.toInt from (fun h => absurd h (by omega))), (show ZTy cf379 (Gk ta ca na ma0 ns ys nf) na ma378 lo hi p0 v381.toInt from hzt_p0), (show ZNm cf379 p1.toInt v381.toInt from (zty_num (G := (Gk ta ca na ma0 ns ys nf)) (na := na) (ma := ma378) (lo := lo) (hi := hi) (n := p0) hzt_p0 (by omega))), (show R_mp_check (RL_mp_check d) tf ta na ca p0 p1 ma cf ma378 cf379 v381 from (Exists.intro 1 (Or.inl ⟨rfl, z149, ez149, Or.inr (Or.inr (Or.inr (Or.inl ⟨c222, ma378, cf379, v381, e395, Or.inr ⟨nc396, Or.inr ⟨nc427, Or.inl ⟨nc458, Or.inl ⟨nc460, rfl, rfl, rfl⟩⟩⟩⟩⟩)))⟩)))⟩) d_Mpg_check_349
            · have nc460 : ¬ p1.toInt = (0 : Int) := mt (i_eq (x := p1) (y := 0)).mpr c460
              refine lv_iload_n S.x S.b d_Mpg_check_332 rfl (lv_at hl 0 rfl) ?_
              refine lv_iconst (v := 4) S.x S.b d_Mpg_check_333 (by decide) ?_
              refine lv_icmp_ne (tgt := 348) S.x S.b d_Mpg_check_334 (by decide) (fun c462 => ?_) (fun c462 => ?_)
              · have nc462 : ¬ v381.toInt = (4 : Int) := mt (i_eq (x := v381) (y := 4)).mpr c462
                refine lv_iload_n S.x S.b d_Mpg_check_348 rfl (lv_at hl 0 rfl) ?_
                exact px_iret (v := v381) S hr rfl hlk hAe hw (Nat.le_of_ble_eq_true rfl) (Nat.le_of_ble_eq_true rfl) (⟨ma378, cf379, rfl, (show KpE cf cf379 from hke), (show WrV cf379 (tf 6).toInt from hwr), (show (cf379 33).toInt = (cf 33).toInt from by first | exact e384 | omega), (show (cf379 38).toInt = (cf 38).toInt from by first | exact e385 | omega), (show (cf379 48).toInt = (cf 48).toInt from by first | exact e386 | omega), (show (cf379 46).toInt = (cf 46).toInt from by first | exact e387 | omega), (show (cf379 47).toInt = (cf 47).toInt from by first | exact e388 | omega), (show (cf379 57).toInt = (cf 57).toInt from by first | exact e389 | omega), (show Ann na ma0 ma378 from han), (show FrC lo hi ma ma378 from hfc), (show 0 ≤ v381.toInt from by first | exact e392 | omega), (show v381.toInt ≤ 4 from by first | exact e393 | omega), (show NmJ ta ca na ma378 kn p0 v381.toInt from (fun h => absurd h (by omega))), (show ZTy cf379 (Gk ta ca na ma0 ns ys nf) na ma378 lo hi p0 v381.toInt from hzt_p0), (show ZNm cf379 p1.toInt v381.toInt from (zty_num (G := (Gk ta ca na ma0 ns ys nf)) (na := na) (ma := ma378) (lo := lo) (hi := hi) (n := p0) hzt_p0 (by omega))), (show R_mp_check (RL_mp_check d) tf ta na ca p0 p1 ma cf ma378 cf379 v381 from (Exists.intro 1 (Or.inl ⟨rfl, z149, ez149, Or.inr (Or.inr (Or.inr (Or.inl ⟨c222, ma378, cf379, v381, e395, Or.inr ⟨nc396, Or.inr ⟨nc427, Or.inl ⟨nc458, Or.inr ⟨nc460, Or.inl ⟨nc462, rfl, rfl, rfl⟩⟩⟩⟩⟩⟩)))⟩)))⟩) d_Mpg_check_349
              · have nc462 : v381.toInt = (4 : Int) := (i_eq (x := v381) (y := 4)).mp c462
                refine lv_aload_n S.x S.b d_Mpg_check_337 rfl (lv_at hl 1 rfl) ?_
                refine lv_iconst (v := 5) S.x S.b d_Mpg_check_338 (by decide) ?_
                refine lv_aload_n S.x S.b d_Mpg_check_339 rfl (lv_at hl 1 rfl) ?_
                refine px_get S k_Mpg hT hw 0 0 15 (v := .ref (r 15)) rfl rfl rfl (by decide) m9_239 d_Mpg_check_340 ?_
                refine lv_iload_n S.x S.b d_Mpg_check_343 rfl (lv_at hl 2 rfl) ?_
                refine px_iald S hT hw 0 11 (n := 2100) (f := (na 15)) rfl gp_15 (x := p0) (vp_in_iff.mpr (by first | exact oz_a7e05de1cd hrg.2.2 hrg.2.1 g1 g2 | (constructor <;> omega))) d_Mpg_check_344 ?_
                refine lv_topi (fun z464 ez464 => ?_)
                have lz464 := Int32.le_toInt z464
                have uz464 := Int32.toInt_lt z464
                have rz464 := EcV.tok hec_p0 ez464
                refine px_callv (pr := []) (px_runV (As := [.int 5, .int z464]) (rest := []) S (c_mp_bad l D cs h r g tf ta pf na ma378 wa ca ef ea xf xa cf379 5 z464  (show 1 ≤ (5 : Int) from by first | exact oz_aeef88fdd7 | omega) (show 0 ≤ z464.toInt from by first | exact rz464.1 | omega) (show z464.toInt < (tf 6).toInt from by first | exact oz_7fe81129bf rz464.2 | omega) htk hwr _) hT (pr := []) (pcs := [wdP cs h r g tf ta pf na ma378 wa cf379 ca ef ea xf xa]) hw px_X.tt (px_recv hT hw 0 0 rfl rfl rfl) m12_173 m12_170 m12_172 ms_11_12 m1_21 q_Mpg_bad ⟨show 0 + 1 ≤ (4 * (d + 1) + 12) from (by first | exact oz_a5f81825e1 | omega), show 8 + (3 + 11) + 0 ≤ (200 * (d + 1) + 420) from (by first | exact oz_8c380b9a8a | omega)⟩ hl.1 rfl (Nat.le_of_ble_eq_true rfl) d_Mpg_check_345 ⟨Nat.le_of_ble_eq_true rfl, Nat.le_of_ble_eq_true rfl⟩) hw hA (fun p467 H locs hp467 hw => ?_)
                obtain ⟨cf466, rfl, e469, e470, e471, e472, e473, e474, e475, e476, e477, e478, e479, e480, e481, e482, e483, e484, e485, e486, e487, e488⟩ := hp467
                have e469 : KpE cf379 cf466 := e469
                have hke := (hke).tr e469
                have hkz_e469 := e469.2
                have hzt_p0 := Zr.kp hzt_p0 e469 id
                have e470 : WrV cf466 (tf 6).toInt := e470
                have hwr := e470
                have hw0_e470 := hwr.1
                have e471 : 1 ≤ (cf466 30).toInt := e471
                have e472 : (cf466 33).toInt = (cf379 33).toInt := e472
                have e473 : (cf466 38).toInt = (cf379 38).toInt := e473
                have e474 : (cf466 48).toInt = (cf379 48).toInt := e474
                have e475 : (cf466 46).toInt = (cf379 46).toInt := e475
                have e476 : (cf466 47).toInt = (cf379 47).toInt := e476
                have e477 : (cf466 57).toInt = (cf379 57).toInt := e477
                have e478 : (cf466 37).toInt = (cf379 37).toInt := e478
                have e479 : (cf466 42).toInt = (cf379 42).toInt := e479
                have e480 : (cf466 43).toInt = (cf379 43).toInt := e480
                have e481 : (cf466 44).toInt = (cf379 44).toInt := e481
                have e482 : (cf466 45).toInt = (cf379 45).toInt := e482
                have e483 : (cf466 54).toInt = (cf379 54).toInt := e483
                have e484 : (cf466 55).toInt = (cf379 55).toInt := e484
                have e485 : (cf466 58).toInt = (cf379 58).toInt := e485
                have e486 : (cf466 59).toInt = (cf379 59).toInt := e486
                have e487 : (cf466 41).toInt = (cf379 41).toInt := e487
                have e488 : R_mp_bad (5 : Int32) z464 cf379 cf466 := e488
                have hw : pw D A s.heap H locs [wdP cs h r g tf ta pf na ma378 wa cf466 ca ef ea xf xa] := hw
                refine lv_iload_n S.x S.b d_Mpg_check_348 rfl (lv_at hl 0 rfl) ?_
                exact px_iret (v := v381) S hr rfl hlk hAe hw (Nat.le_of_ble_eq_true rfl) (Nat.le_of_ble_eq_true rfl) (⟨ma378, cf466, rfl, (show KpE cf cf466 from hke), (show WrV cf466 (tf 6).toInt from hwr), (show (cf466 33).toInt = (cf 33).toInt from by first | exact oz_1687f4cc65 e384 e472 | omega), (show (cf466 38).toInt = (cf 38).toInt from by first | exact oz_1687f4cc65 e385 e473 | omega), (show (cf466 48).toInt = (cf 48).toInt from by first | exact oz_1687f4cc65 e386 e474 | omega), (show (cf466 46).toInt = (cf 46).toInt from by first | exact oz_1687f4cc65 e387 e475 | omega), (show (cf466 47).toInt = (cf 47).toInt from by first | exact oz_1687f4cc65 e388 e476 | omega), (show (cf466 57).toInt = (cf 57).toInt from by first | exact oz_1687f4cc65 e389 e477 | omega), (show Ann na ma0 ma378 from han), (show FrC lo hi ma ma378 from hfc), (show 0 ≤ v381.toInt from by first | exact e392 | omega), (show v381.toInt ≤ 4 from by first | exact e393 | omega), (show NmJ ta ca na ma378 kn p0 v381.toInt from (fun h => absurd h (by omega))), (show ZTy cf466 (Gk ta ca na ma0 ns ys nf) na ma378 lo hi p0 v381.toInt from (zr_no (by omega))), (show ZNm cf466 p1.toInt v381.toInt from (zr_no (by omega))), (show R_mp_check (RL_mp_check d) tf ta na ca p0 p1 ma cf ma378 cf466 v381 from (Exists.intro 1 (Or.inl ⟨rfl, z149, ez149, Or.inr (Or.inr (Or.inr (Or.inl ⟨c222, ma378, cf379, v381, e395, Or.inr ⟨nc396, Or.inr ⟨nc427, Or.inl ⟨nc458, Or.inr ⟨nc460, Or.inr ⟨nc462, z464, ez464, cf466, e488, rfl, rfl, rfl⟩⟩⟩⟩⟩⟩)))⟩)))⟩) d_Mpg_check_349
          · have nc458 : v381.toInt = (3 : Int) := (i_eq (x := v381) (y := 3)).mp c458
            refine lv_aload_n S.x S.b d_Mpg_check_315 rfl (lv_at hl 1 rfl) ?_
            refine lv_iconst (v := 3) S.x S.b d_Mpg_check_316 (by decide) ?_
            refine lv_aload_n S.x S.b d_Mpg_check_317 rfl (lv_at hl 1 rfl) ?_
            refine lv_iload_n S.x S.b d_Mpg_check_318 rfl (lv_at hl 2 rfl) ?_
            refine px_calli (pr := []) (px_runV (As := [.int p0]) (rest := [.int 3, .ref h]) S (c_mp_first l D cs h r g tf ta pf na ma378 wa cf379 ca ef ea xf xa p0  (show 0 ≤ p0.toInt from by first | exact hrg.2.2 | omega) (show p0.toInt < (pf 13).toInt from by first | exact oz_7319c2f99d g1 hrg.2.1 | omega) (show (pf 13).toInt ≤ 2100 from by first | exact g2 | omega) htk (FsI.le (N' := (pf 13).toInt) hfs (by omega)) _) hT (pr := []) (pcs := [wdP cs h r g tf ta pf na ma378 wa cf379 ca ef ea xf xa]) hw px_X.tt (px_recv hT hw 0 0 rfl rfl rfl) m13_9 m13_6 m13_8 ms_12_15 m1_21 q_Mpg_first ⟨show 0 + 1 ≤ (4 * (d + 1) + 12) from (by first | exact oz_a5f81825e1 | omega), show 8 + (2 + 11) + 0 ≤ (200 * (d + 1) + 420) from (by first | exact oz_c2ae504e3b | omega)⟩ hl.1 rfl (Nat.le_of_ble_eq_true rfl) d_Mpg_check_319 ⟨Nat.le_of_ble_eq_true rfl, Nat.le_of_ble_eq_true rfl⟩) hw hA (fun v490 p489 H locs hp489 hw => ?_)
            obtain ⟨rfl, e491, e492, e493⟩ := hp489
            have e491 : 0 ≤ v490.toInt := e491
            have e492 : v490.toInt < (tf 6).toInt := e492
            have e493 : R_mp_first na p0 v490 := e493
            have hw : pw D A s.heap H locs [wdP cs h r g tf ta pf na ma378 wa cf379 ca ef ea xf xa] := hw
            have lv490 := Int32.le_toInt v490
            have uv490 := Int32.toInt_lt v490
            refine px_callv (pr := []) (px_runV (As := [.int 3, .int v490]) (rest := []) S (c_mp_bad l D cs h r g tf ta pf na ma378 wa ca ef ea xf xa cf379 3 v490  (show 1 ≤ (3 : Int) from by first | exact oz_00a6fa0b0d | omega) (show 0 ≤ v490.toInt from by first | exact e491 | omega) (show v490.toInt < (tf 6).toInt from by first | exact e492 | omega) htk hwr _) hT (pr := []) (pcs := [wdP cs h r g tf ta pf na ma378 wa cf379 ca ef ea xf xa]) hw px_X.tt (px_recv hT hw 0 0 rfl rfl rfl) m12_173 m12_170 m12_172 ms_11_12 m1_21 q_Mpg_bad ⟨show 0 + 1 ≤ (4 * (d + 1) + 12) from (by first | exact oz_a5f81825e1 | omega), show 8 + (3 + 11) + 0 ≤ (200 * (d + 1) + 420) from (by first | exact oz_8c380b9a8a | omega)⟩ hl.1 rfl (Nat.le_of_ble_eq_true rfl) d_Mpg_check_322 ⟨Nat.le_of_ble_eq_true rfl, Nat.le_of_ble_eq_true rfl⟩) hw hA (fun p496 H locs hp496 hw => ?_)
            obtain ⟨cf495, rfl, e498, e499, e500, e501, e502, e503, e504, e505, e506, e507, e508, e509, e510, e511, e512, e513, e514, e515, e516, e517⟩ := hp496
            have e498 : KpE cf379 cf495 := e498
            have hke := (hke).tr e498
            have hkz_e498 := e498.2
            have hzt_p0 := Zr.kp hzt_p0 e498 id
            have e499 : WrV cf495 (tf 6).toInt := e499
            have hwr := e499
            have hw0_e499 := hwr.1
            have e500 : 1 ≤ (cf495 30).toInt := e500
            have e501 : (cf495 33).toInt = (cf379 33).toInt := e501
            have e502 : (cf495 38).toInt = (cf379 38).toInt := e502
            have e503 : (cf495 48).toInt = (cf379 48).toInt := e503
            have e504 : (cf495 46).toInt = (cf379 46).toInt := e504
            have e505 : (cf495 47).toInt = (cf379 47).toInt := e505
            have e506 : (cf495 57).toInt = (cf379 57).toInt := e506
            have e507 : (cf495 37).toInt = (cf379 37).toInt := e507
            have e508 : (cf495 42).toInt = (cf379 42).toInt := e508
            have e509 : (cf495 43).toInt = (cf379 43).toInt := e509
            have e510 : (cf495 44).toInt = (cf379 44).toInt := e510
            have e511 : (cf495 45).toInt = (cf379 45).toInt := e511
            have e512 : (cf495 54).toInt = (cf379 54).toInt := e512
            have e513 : (cf495 55).toInt = (cf379 55).toInt := e513
            have e514 : (cf495 58).toInt = (cf379 58).toInt := e514
            have e515 : (cf495 59).toInt = (cf379 59).toInt := e515
            have e516 : (cf495 41).toInt = (cf379 41).toInt := e516
            have e517 : R_mp_bad (3 : Int32) v490 cf379 cf495 := e517
            have hw : pw D A s.heap H locs [wdP cs h r g tf ta pf na ma378 wa cf495 ca ef ea xf xa] := hw
            refine lv_goto (tgt := 348) S.x S.b d_Mpg_check_325 (by decide) ?_
            refine lv_iload_n S.x S.b d_Mpg_check_348 rfl (lv_at hl 0 rfl) ?_
            exact px_iret (v := v381) S hr rfl hlk hAe hw (Nat.le_of_ble_eq_true rfl) (Nat.le_of_ble_eq_true rfl) (⟨ma378, cf495, rfl, (show KpE cf cf495 from hke), (show WrV cf495 (tf 6).toInt from hwr), (show (cf495 33).toInt = (cf 33).toInt from by first | exact oz_1687f4cc65 e384 e501 | omega), (show (cf495 38).toInt = (cf 38).toInt from by first | exact oz_1687f4cc65 e385 e502 | omega), (show (cf495 48).toInt = (cf 48).toInt from by first | exact oz_1687f4cc65 e386 e503 | omega), (show (cf495 46).toInt = (cf 46).toInt from by first | exact oz_1687f4cc65 e387 e504 | omega), (show (cf495 47).toInt = (cf 47).toInt from by first | exact oz_1687f4cc65 e388 e505 | omega), (show (cf495 57).toInt = (cf 57).toInt from by first | exact oz_1687f4cc65 e389 e506 | omega), (show Ann na ma0 ma378 from han), (show FrC lo hi ma ma378 from hfc), (show 0 ≤ v381.toInt from by first | exact e392 | omega), (show v381.toInt ≤ 4 from by first | exact e393 | omega), (show NmJ ta ca na ma378 kn p0 v381.toInt from (fun h => absurd h (by omega))), (show ZTy cf495 (Gk ta ca na ma0 ns ys nf) na ma378 lo hi p0 v381.toInt from (zr_no (by omega))), (show ZNm cf495 p1.toInt v381.toInt from (zr_no (by omega))), (show R_mp_check (RL_mp_check d) tf ta na ca p0 p1 ma cf ma378 cf495 v381 from (Exists.intro 1 (Or.inl ⟨rfl, z149, ez149, Or.inr (Or.inr (Or.inr (Or.inl ⟨c222, ma378, cf379, v381, e395, Or.inr ⟨nc396, Or.inr ⟨nc427, Or.inr ⟨nc458, v490, e493, cf495, e517, rfl, rfl, rfl⟩⟩⟩⟩)))⟩)))⟩) d_Mpg_check_349
    · simp only [List.mem_cons, List.not_mem_nil, or_false] at c222
      refine lv_aload_n S.x S.b d_Mpg_check_77 rfl (lv_at hl 1 rfl) ?_
      refine lv_iload_n S.x S.b d_Mpg_check_78 rfl (lv_at hl 2 rfl) ?_
      refine px_callv (pr := []) (px_runV (As := [.int p0]) (rest := []) S (c_mp_checkIndex l D cs ma0 ys ns nf kn (d + 1) lo hi h r g tf ta pf na wa ca ef ea xf xa ma cf p0  (show 0 ≤ lo from by first | exact g0 | omega) (show hi ≤ (pf 13).toInt from by first | exact g1 | omega) (show (pf 13).toInt ≤ 2100 from by first | exact g2 | omega) (show (tf 6).toInt ≤ 2049 from by first | exact g3 | omega) (show (cf 33).toInt = kn from by first | exact g4 | omega) (show 0 ≤ kn from by first | exact g5 | omega) (show (cf 48).toInt = ns from by first | exact g6 | omega) (show (cf 38).toInt = nf from by first | exact g7 | omega) (show 0 ≤ nf from by first | exact g8 | omega) (show (na 14 p0.toNatClampNeg).toInt = 4 from by omega) htk (FsI.le (N' := (pf 13).toInt) hfs (by omega)) hwr (KnT.eq hkt (by omega)) (FnT.eq hft (by omega)) hks han hec_p0 _) hT (pr := []) (pcs := [wdP cs h r g tf ta pf na ma wa cf ca ef ea xf xa]) hw (oX_call (P := (fun A U H => (oP A g U H))) (pr := []) oG_P hw hA hP) (px_recv hT hw 0 0 rfl rfl rfl) m13_21 m13_18 m13_20 ms_13_2 m1_21 q_Mpg_checkIndex ⟨show 8 + 1 ≤ (4 * (d + 1) + 12) from (by first | exact oz_934d8ccd5f | omega), show 8 + (4 + 11) + 330 ≤ (200 * (d + 1) + 420) from (by first | exact oz_ab79997fe6 | omega)⟩ hl.1 rfl (Nat.le_of_ble_eq_true rfl) d_Mpg_check_79 ⟨Nat.le_of_ble_eq_true rfl, Nat.le_of_ble_eq_true rfl⟩) hw hA (fun p522 H locs hp522 hw => ?_)
      obtain ⟨ma520, cf521, rfl, e524, e525, e526, e527, e528, e529, e530, e531, e532, e533, e534, e535⟩ := hp522
      have e524 : KpE cf cf521 := e524
      have hke := (hke).tr e524
      have hkz_e524 := e524.2
      have e525 : WrV cf521 (tf 6).toInt := e525
      have hwr := e525
      have hw0_e525 := hwr.1
      have e526 : (cf521 33).toInt = (cf 33).toInt := e526
      have e527 : (cf521 38).toInt = (cf 38).toInt := e527
      have e528 : (cf521 48).toInt = (cf 48).toInt := e528
      have e529 : (cf521 46).toInt = (cf 46).toInt := e529
      have e530 : (cf521 47).toInt = (cf 47).toInt := e530
      have e531 : (cf521 57).toInt = (cf 57).toInt := e531
      have e532 : Ann na ma0 ma520 := e532
      have han := e532
      have e533 : FrC lo hi ma ma520 := e533
      have hfc := hfc.tr e533 (by omega) (by omega)
      have e534 : ZSA cf521 ca ns ys ma520 p0 := e534
      have hzsa_p0 := e534
      have e535 : R_mp_checkIndex tf ta na ca p0 ma cf ma520 cf521 := e535
      have hw : pw D A s.heap H locs [wdP cs h r g tf ta pf na ma520 wa cf521 ca ef ea xf xa] := hw
      refine lv_aload_n S.x S.b d_Mpg_check_82 rfl (lv_at hl 1 rfl) ?_
      refine lv_aload_n S.x S.b d_Mpg_check_83 rfl (lv_at hl 1 rfl) ?_
      refine px_get S k_Mpg hT hw 0 0 17 (v := .ref (r 17)) rfl rfl rfl (by decide) m10_1 d_Mpg_check_84 ?_
      refine lv_iload_n S.x S.b d_Mpg_check_87 rfl (lv_at hl 2 rfl) ?_
      refine px_iald S hT hw 0 13 (n := 2100) (f := (na 17)) rfl gp_17 (x := p0) (vp_in_iff.mpr (by first | exact oz_a7e05de1cd hrg.2.2 hrg.2.1 g1 g2 | (constructor <;> omega))) d_Mpg_check_88 ?_
      refine lv_topi (fun z536 ez536 => ?_)
      have lz536 := Int32.le_toInt z536
      have uz536 := Int32.toInt_lt z536
      have hec_z536 := EcV.k4 hec_p0 (by omega) ez536; have hrg_z536 := EcV.rng hec_z536
      refine lv_iconst (v := 1) S.x S.b d_Mpg_check_89 (by decide) ?_
      refine px_calli (pr := []) (px_runV (As := [.int z536, .int 1]) (rest := []) S (hLC ma0 ys ns nf kn (p0.toInt + 1) hi h r g tf ta pf na wa ca ef ea xf xa ma520 cf521 z536 1 (show 0 ≤ (p0.toInt + 1) from by first | exact oz_c12c169b81 hrg.2.2 | omega) (show hi ≤ (pf 13).toInt from by first | exact g1 | omega) (show (pf 13).toInt ≤ 2100 from by first | exact g2 | omega) (show (tf 6).toInt ≤ 2049 from by first | exact g3 | omega) (show (cf521 33).toInt = kn from by first | exact oz_1687f4cc65 g4 e526 | omega) (show 0 ≤ kn from by first | exact g5 | omega) (show (cf521 48).toInt = ns from by first | exact oz_1687f4cc65 g6 e528 | omega) (show (cf521 38).toInt = nf from by first | exact oz_1687f4cc65 g7 e527 | omega) (show 0 ≤ nf from by first | exact g8 | omega) (show 0 ≤ (1 : Int) from by first | exact oz_19c3a41681 | omega) (show (1 : Int) ≤ 1 from by first | exact oz_f9181dc4bb | omega) htk (FsI.le (N' := (pf 13).toInt) hfs (by omega)) hwr (KnT.eq hkt (by omega)) (FnT.eq hft (by omega)) hks hfp han hec_z536 _) hT (pr := []) (pcs := [wdP cs h r g tf ta pf na ma520 wa cf521 ca ef ea xf xa]) hw (oX_call (P := (fun A U H => (oP A g U H))) (pr := []) oG_P hw hA hP) (px_recv hT hw 0 0 rfl rfl rfl) m12_217 m12_214 m12_216 ms_12_7 m1_21 q_Mpg_check ⟨show (4 * d + 12) + 1 ≤ (4 * (d + 1) + 12) from (by first | exact oz_6ef785d99b | omega), show 8 + (8 + 11) + (200 * d + 420) ≤ (200 * (d + 1) + 420) from (by first | exact oz_3a4e9491aa | omega)⟩ hl.1 rfl (Nat.le_of_ble_eq_true rfl) d_Mpg_check_90 ⟨Nat.le_of_ble_eq_true rfl, Nat.le_of_ble_eq_true rfl⟩) hw hA (fun v542 p541 H locs hp541 hw => ?_)
      obtain ⟨ma539, cf540, rfl, e543, e544, e545, e546, e547, e548, e549, e550, e551, e552, e553, e554, e555, e556, e557, e558⟩ := hp541
      have e543 : KpE cf521 cf540 := e543
      have hke := (hke).tr e543
      have hkz_e543 := e543.2
      have e544 : WrV cf540 (tf 6).toInt := e544
      have hwr := e544
      have hw0_e544 := hwr.1
      have e545 : (cf540 33).toInt = (cf521 33).toInt := e545
      have e546 : (cf540 38).toInt = (cf521 38).toInt := e546
      have e547 : (cf540 48).toInt = (cf521 48).toInt := e547
      have e548 : (cf540 46).toInt = (cf521 46).toInt := e548
      have e549 : (cf540 47).toInt = (cf521 47).toInt := e549
      have e550 : (cf540 57).toInt = (cf521 57).toInt := e550
      have e551 : Ann na ma0 ma539 := e551
      have han := e551
      have e552 : FrC (p0.toInt + 1) hi ma520 ma539 := e552
      have hfc := hfc.tr e552 (by omega) (by omega)
      have hzsa_p0 := ZSA.tr hzsa_p0 e543 e552 (by omega) (by omega)
      have e553 : 0 ≤ v542.toInt := e553
      have e554 : v542.toInt ≤ 4 := e554
      have e555 : NmJ ta ca na ma539 kn z536 v542.toInt := e555
      have hnm_z536 := e555
      have e556 : ZTy cf540 (Gk ta ca na ma0 ns ys nf) na ma539 (p0.toInt + 1) hi z536 v542.toInt := e556
      have hzt_z536 := e556
      have e557 : ZNm cf540 (1 : Int) v542.toInt := e557
      have hty_z536 := ZTy.num hzt_z536 e557
      have e558 : RL_mp_check d tf ta na ca z536 (1 : Int32) ma520 cf521 ma539 cf540 v542 := e558
      have hw : pw D A s.heap H locs [wdP cs h r g tf ta pf na ma539 wa cf540 ca ef ea xf xa] := hw
      have lv542 := Int32.le_toInt v542
      have uv542 := Int32.toInt_lt v542
      refine lv_pop S.x S.b d_Mpg_check_93 rfl ?_
      refine lv_goto (tgt := 301) S.x S.b d_Mpg_check_94 (by decide) ?_
      refine lv_iload_n S.x S.b d_Mpg_check_301 rfl (lv_at hl 3 rfl) ?_
      refine lv_if_eq (tgt := 328) S.x S.b d_Mpg_check_302 (by decide) (fun c559 => ?_) (fun c559 => ?_)
      · have nc559 : p1.toInt = (0 : Int) := (i_eq (x := p1) (y := 0)).mp c559
        refine lv_iload_n S.x S.b d_Mpg_check_328 rfl (lv_at hl 3 rfl) ?_
        refine lv_if_eq (tgt := 348) S.x S.b d_Mpg_check_329 (by decide) (fun c561 => ?_) (fun c561 => ?_)
        · have nc561 : p1.toInt = (0 : Int) := (i_eq (x := p1) (y := 0)).mp c561
          refine lv_iload_n S.x S.b d_Mpg_check_348 rfl (lv_at hl 0 rfl) ?_
          exact px_iret (v := 1) S hr rfl hlk hAe hw (Nat.le_of_ble_eq_true rfl) (Nat.le_of_ble_eq_true rfl) (⟨ma539, cf540, rfl, (show KpE cf cf540 from hke), (show WrV cf540 (tf 6).toInt from hwr), (show (cf540 33).toInt = (cf 33).toInt from by first | exact oz_1687f4cc65 e526 e545 | omega), (show (cf540 38).toInt = (cf 38).toInt from by first | exact oz_1687f4cc65 e527 e546 | omega), (show (cf540 48).toInt = (cf 48).toInt from by first | exact oz_1687f4cc65 e528 e547 | omega), (show (cf540 46).toInt = (cf 46).toInt from by first | exact oz_1687f4cc65 e529 e548 | omega), (show (cf540 47).toInt = (cf 47).toInt from by first | exact oz_1687f4cc65 e530 e549 | omega), (show (cf540 57).toInt = (cf 57).toInt from by first | exact oz_1687f4cc65 e531 e550 | omega), (show Ann na ma0 ma539 from han), (show FrC lo hi ma ma539 from hfc), (show 0 ≤ (1 : Int) from by first | exact oz_19c3a41681 | omega), (show (1 : Int) ≤ 4 from by first | exact oz_39f46dc397 | omega), (show NmJ ta ca na ma539 kn p0 (1 : Int) from (fun h => absurd h (by omega))), (show ZTy cf540 (Gk ta ca na ma0 ns ys nf) na ma539 lo hi p0 (1 : Int) from (fun zz => Or.inr ⟨by omega, ty_4 hrg (by omega) (hzsa_p0 zz) ez536 ((hty_z536 zz).le (by omega) (by omega))⟩)), (show ZNm cf540 p1.toInt (1 : Int) from (zty_num (G := (Gk ta ca na ma0 ns ys nf)) (na := na) (ma := ma539) (lo := lo) (hi := hi) (n := p0) (fun zz => Or.inr ⟨by omega, ty_4 hrg (by omega) (hzsa_p0 zz) ez536 ((hty_z536 zz).le (by omega) (by omega))⟩) (by omega))), (show R_mp_check (RL_mp_check d) tf ta na ca p0 p1 ma cf ma539 cf540 (1 : Int32) from (Exists.intro 1 (Or.inl ⟨rfl, z149, ez149, Or.inr (Or.inr (Or.inr (Or.inr (Or.inl ⟨c222, ma520, cf521, e535, z536, ez536, ma539, cf540, v542, e558, Or.inl ⟨nc559, Or.inl ⟨nc561, rfl, rfl, rfl⟩⟩⟩))))⟩)))⟩) d_Mpg_check_349
        · have nc561 : ¬ p1.toInt = (0 : Int) := mt (i_eq (x := p1) (y := 0)).mpr c561
          refine lv_iload_n S.x S.b d_Mpg_check_332 rfl (lv_at hl 0 rfl) ?_
          refine lv_iconst (v := 4) S.x S.b d_Mpg_check_333 (by decide) ?_
          refine lv_icmp_ne (tgt := 348) S.x S.b d_Mpg_check_334 (by decide) (fun c563 => ?_) (fun c563 => ?_)
          ·
            refine lv_iload_n S.x S.b d_Mpg_check_348 rfl (lv_at hl 0 rfl) ?_
            exact px_iret (v := 1) S hr rfl hlk hAe hw (Nat.le_of_ble_eq_true rfl) (Nat.le_of_ble_eq_true rfl) (⟨ma539, cf540, rfl, (show KpE cf cf540 from hke), (show WrV cf540 (tf 6).toInt from hwr), (show (cf540 33).toInt = (cf 33).toInt from by first | exact oz_1687f4cc65 e526 e545 | omega), (show (cf540 38).toInt = (cf 38).toInt from by first | exact oz_1687f4cc65 e527 e546 | omega), (show (cf540 48).toInt = (cf 48).toInt from by first | exact oz_1687f4cc65 e528 e547 | omega), (show (cf540 46).toInt = (cf 46).toInt from by first | exact oz_1687f4cc65 e529 e548 | omega), (show (cf540 47).toInt = (cf 47).toInt from by first | exact oz_1687f4cc65 e530 e549 | omega), (show (cf540 57).toInt = (cf 57).toInt from by first | exact oz_1687f4cc65 e531 e550 | omega), (show Ann na ma0 ma539 from han), (show FrC lo hi ma ma539 from hfc), (show 0 ≤ (1 : Int) from by first | exact oz_19c3a41681 | omega), (show (1 : Int) ≤ 4 from by first | exact oz_39f46dc397 | omega), (show NmJ ta ca na ma539 kn p0 (1 : Int) from (fun h => absurd h (by omega))), (show ZTy cf540 (Gk ta ca na ma0 ns ys nf) na ma539 lo hi p0 (1 : Int) from (fun zz => Or.inr ⟨by omega, ty_4 hrg (by omega) (hzsa_p0 zz) ez536 ((hty_z536 zz).le (by omega) (by omega))⟩)), (show ZNm cf540 p1.toInt (1 : Int) from (zty_num (G := (Gk ta ca na ma0 ns ys nf)) (na := na) (ma := ma539) (lo := lo) (hi := hi) (n := p0) (fun zz => Or.inr ⟨by omega, ty_4 hrg (by omega) (hzsa_p0 zz) ez536 ((hty_z536 zz).le (by omega) (by omega))⟩) (by omega))), (show R_mp_check (RL_mp_check d) tf ta na ca p0 p1 ma cf ma539 cf540 (1 : Int32) from (Exists.intro 1 (Or.inl ⟨rfl, z149, ez149, Or.inr (Or.inr (Or.inr (Or.inr (Or.inl ⟨c222, ma520, cf521, e535, z536, ez536, ma539, cf540, v542, e558, Or.inl ⟨nc559, Or.inr ⟨nc561, rfl, rfl, rfl⟩⟩⟩))))⟩)))⟩) d_Mpg_check_349
          · exact absurd c563 (by decide)
      · have nc559 : ¬ p1.toInt = (0 : Int) := mt (i_eq (x := p1) (y := 0)).mpr c559
        refine lv_iload_n S.x S.b d_Mpg_check_305 rfl (lv_at hl 0 rfl) ?_
        refine lv_iconst (v := 2) S.x S.b d_Mpg_check_306 (by decide) ?_
        refine lv_icmp_eq (tgt := 315) S.x S.b d_Mpg_check_307 (by decide) (fun c564 => ?_) (fun c564 => ?_)
        · exact absurd c564 (by decide)
        ·
          refine lv_iload_n S.x S.b d_Mpg_check_310 rfl (lv_at hl 0 rfl) ?_
          refine lv_iconst (v := 3) S.x S.b d_Mpg_check_311 (by decide) ?_
          refine lv_icmp_ne (tgt := 328) S.x S.b d_Mpg_check_312 (by decide) (fun c565 => ?_) (fun c565 => ?_)
          ·
            refine lv_iload_n S.x S.b d_Mpg_check_328 rfl (lv_at hl 3 rfl) ?_
            refine lv_if_eq (tgt := 348) S.x S.b d_Mpg_check_329 (by decide) (fun c566 => ?_) (fun c566 => ?_)
            · have nc566 : p1.toInt = (0 : Int) := (i_eq (x := p1) (y := 0)).mp c566
              refine lv_iload_n S.x S.b d_Mpg_check_348 rfl (lv_at hl 0 rfl) ?_
              exact px_iret (v := 1) S hr rfl hlk hAe hw (Nat.le_of_ble_eq_true rfl) (Nat.le_of_ble_eq_true rfl) (⟨ma539, cf540, rfl, (show KpE cf cf540 from hke), (show WrV cf540 (tf 6).toInt from hwr), (show (cf540 33).toInt = (cf 33).toInt from by first | exact oz_1687f4cc65 e526 e545 | omega), (show (cf540 38).toInt = (cf 38).toInt from by first | exact oz_1687f4cc65 e527 e546 | omega), (show (cf540 48).toInt = (cf 48).toInt from by first | exact oz_1687f4cc65 e528 e547 | omega), (show (cf540 46).toInt = (cf 46).toInt from by first | exact oz_1687f4cc65 e529 e548 | omega), (show (cf540 47).toInt = (cf 47).toInt from by first | exact oz_1687f4cc65 e530 e549 | omega), (show (cf540 57).toInt = (cf 57).toInt from by first | exact oz_1687f4cc65 e531 e550 | omega), (show Ann na ma0 ma539 from han), (show FrC lo hi ma ma539 from hfc), (show 0 ≤ (1 : Int) from by first | exact oz_19c3a41681 | omega), (show (1 : Int) ≤ 4 from by first | exact oz_39f46dc397 | omega), (show NmJ ta ca na ma539 kn p0 (1 : Int) from (fun h => absurd h (by omega))), (show ZTy cf540 (Gk ta ca na ma0 ns ys nf) na ma539 lo hi p0 (1 : Int) from (fun zz => Or.inr ⟨by omega, ty_4 hrg (by omega) (hzsa_p0 zz) ez536 ((hty_z536 zz).le (by omega) (by omega))⟩)), (show ZNm cf540 p1.toInt (1 : Int) from (zty_num (G := (Gk ta ca na ma0 ns ys nf)) (na := na) (ma := ma539) (lo := lo) (hi := hi) (n := p0) (fun zz => Or.inr ⟨by omega, ty_4 hrg (by omega) (hzsa_p0 zz) ez536 ((hty_z536 zz).le (by omega) (by omega))⟩) (by omega))), (show R_mp_check (RL_mp_check d) tf ta na ca p0 p1 ma cf ma539 cf540 (1 : Int32) from (Exists.intro 1 (Or.inl ⟨rfl, z149, ez149, Or.inr (Or.inr (Or.inr (Or.inr (Or.inl ⟨c222, ma520, cf521, e535, z536, ez536, ma539, cf540, v542, e558, Or.inr ⟨nc559, Or.inl ⟨nc566, rfl, rfl, rfl⟩⟩⟩))))⟩)))⟩) d_Mpg_check_349
            · have nc566 : ¬ p1.toInt = (0 : Int) := mt (i_eq (x := p1) (y := 0)).mpr c566
              refine lv_iload_n S.x S.b d_Mpg_check_332 rfl (lv_at hl 0 rfl) ?_
              refine lv_iconst (v := 4) S.x S.b d_Mpg_check_333 (by decide) ?_
              refine lv_icmp_ne (tgt := 348) S.x S.b d_Mpg_check_334 (by decide) (fun c568 => ?_) (fun c568 => ?_)
              ·
                refine lv_iload_n S.x S.b d_Mpg_check_348 rfl (lv_at hl 0 rfl) ?_
                exact px_iret (v := 1) S hr rfl hlk hAe hw (Nat.le_of_ble_eq_true rfl) (Nat.le_of_ble_eq_true rfl) (⟨ma539, cf540, rfl, (show KpE cf cf540 from hke), (show WrV cf540 (tf 6).toInt from hwr), (show (cf540 33).toInt = (cf 33).toInt from by first | exact oz_1687f4cc65 e526 e545 | omega), (show (cf540 38).toInt = (cf 38).toInt from by first | exact oz_1687f4cc65 e527 e546 | omega), (show (cf540 48).toInt = (cf 48).toInt from by first | exact oz_1687f4cc65 e528 e547 | omega), (show (cf540 46).toInt = (cf 46).toInt from by first | exact oz_1687f4cc65 e529 e548 | omega), (show (cf540 47).toInt = (cf 47).toInt from by first | exact oz_1687f4cc65 e530 e549 | omega), (show (cf540 57).toInt = (cf 57).toInt from by first | exact oz_1687f4cc65 e531 e550 | omega), (show Ann na ma0 ma539 from han), (show FrC lo hi ma ma539 from hfc), (show 0 ≤ (1 : Int) from by first | exact oz_19c3a41681 | omega), (show (1 : Int) ≤ 4 from by first | exact oz_39f46dc397 | omega), (show NmJ ta ca na ma539 kn p0 (1 : Int) from (fun h => absurd h (by omega))), (show ZTy cf540 (Gk ta ca na ma0 ns ys nf) na ma539 lo hi p0 (1 : Int) from (fun zz => Or.inr ⟨by omega, ty_4 hrg (by omega) (hzsa_p0 zz) ez536 ((hty_z536 zz).le (by omega) (by omega))⟩)), (show ZNm cf540 p1.toInt (1 : Int) from (zty_num (G := (Gk ta ca na ma0 ns ys nf)) (na := na) (ma := ma539) (lo := lo) (hi := hi) (n := p0) (fun zz => Or.inr ⟨by omega, ty_4 hrg (by omega) (hzsa_p0 zz) ez536 ((hty_z536 zz).le (by omega) (by omega))⟩) (by omega))), (show R_mp_check (RL_mp_check d) tf ta na ca p0 p1 ma cf ma539 cf540 (1 : Int32) from (Exists.intro 1 (Or.inl ⟨rfl, z149, ez149, Or.inr (Or.inr (Or.inr (Or.inr (Or.inl ⟨c222, ma520, cf521, e535, z536, ez536, ma539, cf540, v542, e558, Or.inr ⟨nc559, Or.inr ⟨nc566, rfl, rfl, rfl⟩⟩⟩))))⟩)))⟩) d_Mpg_check_349
              · exact absurd c568 (by decide)
          · exact absurd c565 (by decide)
    · simp only [List.mem_cons, List.not_mem_nil, or_false] at c222
      refine lv_aload_n S.x S.b d_Mpg_check_97 rfl (lv_at hl 1 rfl) ?_
      refine px_get S k_Mpg hT hw 0 0 8 (v := .ref (r 8)) rfl rfl rfl (by decide) m9_232 d_Mpg_check_98 ?_
      refine lv_aload_n S.x S.b d_Mpg_check_101 rfl (lv_at hl 1 rfl) ?_
      refine px_get S k_Mpg hT hw 0 0 15 (v := .ref (r 15)) rfl rfl rfl (by decide) m9_239 d_Mpg_check_102 ?_
      refine lv_iload_n S.x S.b d_Mpg_check_105 rfl (lv_at hl 2 rfl) ?_
      refine px_iald S hT hw 0 11 (n := 2100) (f := (na 15)) rfl gp_15 (x := p0) (vp_in_iff.mpr (by first | exact oz_a7e05de1cd hrg.2.2 hrg.2.1 g1 g2 | (constructor <;> omega))) d_Mpg_check_106 ?_
      refine lv_topi (fun z569 ez569 => ?_)
      have lz569 := Int32.le_toInt z569
      have uz569 := Int32.toInt_lt z569
      have rz569 := EcV.tok hec_p0 ez569
      refine px_iald S hT hw 0 7 (n := 2060) (f := (ta 8)) rfl gp_8 (x := z569) (vp_in_iff.mpr (by first | exact oz_b607b04d7a rz569.1 rz569.2 g3 | (constructor <;> omega))) d_Mpg_check_107 ?_
      refine lv_topi (fun z570 ez570 => ?_)
      have lz570 := Int32.le_toInt z570
      have uz570 := Int32.toInt_lt z570
      have rz570 : z570.toInt = sz ta z569 := by rw [ez570]; rfl
      refine lv_iconst (v := 2) S.x S.b d_Mpg_check_108 (by decide) ?_
      refine lv_icmp_ne (tgt := 116) S.x S.b d_Mpg_check_109 (by decide) (fun c571 => ?_) (fun c571 => ?_)
      · have nc571 : ¬ z570.toInt = (2 : Int) := mt (i_eq (x := z570) (y := 2)).mpr c571
        refine lv_iconst (v := 0) S.x S.b d_Mpg_check_116 (by decide) ?_
        refine lv_istore (lv' := [(4, .int 0), (3, .int 1), (0, .ref h), (1, .int p0), (2, .int p1)]) S.x S.b d_Mpg_check_117 hl (by decide) rfl (fun ls hl => ?_)
        refine lv_aload_n S.x S.b d_Mpg_check_119 rfl (lv_at hl 2 rfl) ?_
        refine lv_aload_n S.x S.b d_Mpg_check_120 rfl (lv_at hl 2 rfl) ?_
        refine px_get S k_Mpg hT hw 0 0 17 (v := .ref (r 17)) rfl rfl rfl (by decide) m10_1 d_Mpg_check_121 ?_
        refine lv_iload_n S.x S.b d_Mpg_check_124 rfl (lv_at hl 3 rfl) ?_
        refine px_iald S hT hw 0 13 (n := 2100) (f := (na 17)) rfl gp_17 (x := p0) (vp_in_iff.mpr (by first | exact oz_a7e05de1cd hrg.2.2 hrg.2.1 g1 g2 | (constructor <;> omega))) d_Mpg_check_125 ?_
        refine lv_topi (fun z573 ez573 => ?_)
        have lz573 := Int32.le_toInt z573
        have uz573 := Int32.toInt_lt z573
        have hec_z573 := EcV.k56 hec_p0 (by omega) ez573; have hrg_z573 := EcV.rng hec_z573
        refine lv_iload S.x S.b d_Mpg_check_126 (lv_at hl 0 rfl) ?_
        refine lv_if_ne (tgt := 135) S.x S.b d_Mpg_check_128 (by decide) (fun c574 => ?_) (fun c574 => ?_)
        · exact absurd c574 (by decide)
        ·
          refine lv_iconst (v := 1) S.x S.b d_Mpg_check_131 (by decide) ?_
          refine lv_goto (tgt := 136) S.x S.b d_Mpg_check_132 (by decide) ?_
          refine px_calli (pr := []) (px_runV (As := [.int z573, .int 1]) (rest := []) S (hLC ma0 ys ns nf kn lo p0.toInt h r g tf ta pf na wa ca ef ea xf xa ma cf z573 1 (show 0 ≤ lo from by first | exact g0 | omega) (show p0.toInt ≤ (pf 13).toInt from by first | exact oz_6996e0781a g1 hrg.2.1 | omega) (show (pf 13).toInt ≤ 2100 from by first | exact g2 | omega) (show (tf 6).toInt ≤ 2049 from by first | exact g3 | omega) (show (cf 33).toInt = kn from by first | exact g4 | omega) (show 0 ≤ kn from by first | exact g5 | omega) (show (cf 48).toInt = ns from by first | exact g6 | omega) (show (cf 38).toInt = nf from by first | exact g7 | omega) (show 0 ≤ nf from by first | exact g8 | omega) (show 0 ≤ (1 : Int) from by first | exact oz_19c3a41681 | omega) (show (1 : Int) ≤ 1 from by first | exact oz_f9181dc4bb | omega) htk (FsI.le (N' := (pf 13).toInt) hfs (by omega)) hwr (KnT.eq hkt (by omega)) (FnT.eq hft (by omega)) hks hfp han hec_z573 _) hT (pr := []) (pcs := [wdP cs h r g tf ta pf na ma wa cf ca ef ea xf xa]) hw (oX_call (P := (fun A U H => (oP A g U H))) (pr := []) oG_P hw hA hP) (px_recv hT hw 0 0 rfl rfl rfl) m12_217 m12_214 m12_216 ms_12_7 m1_21 q_Mpg_check ⟨show (4 * d + 12) + 1 ≤ (4 * (d + 1) + 12) from (by first | exact oz_6ef785d99b | omega), show 8 + (8 + 11) + (200 * d + 420) ≤ (200 * (d + 1) + 420) from (by first | exact oz_3a4e9491aa | omega)⟩ hl.1 rfl (Nat.le_of_ble_eq_true rfl) d_Mpg_check_136 ⟨Nat.le_of_ble_eq_true rfl, Nat.le_of_ble_eq_true rfl⟩) hw hA (fun v580 p579 H locs hp579 hw => ?_)
          obtain ⟨ma577, cf578, rfl, e581, e582, e583, e584, e585, e586, e587, e588, e589, e590, e591, e592, e593, e594, e595, e596⟩ := hp579
          have e581 : KpE cf cf578 := e581
          have hke := (hke).tr e581
          have hkz_e581 := e581.2
          have e582 : WrV cf578 (tf 6).toInt := e582
          have hwr := e582
          have hw0_e582 := hwr.1
          have e583 : (cf578 33).toInt = (cf 33).toInt := e583
          have e584 : (cf578 38).toInt = (cf 38).toInt := e584
          have e585 : (cf578 48).toInt = (cf 48).toInt := e585
          have e586 : (cf578 46).toInt = (cf 46).toInt := e586
          have e587 : (cf578 47).toInt = (cf 47).toInt := e587
          have e588 : (cf578 57).toInt = (cf 57).toInt := e588
          have e589 : Ann na ma0 ma577 := e589
          have han := e589
          have e590 : FrC lo p0.toInt ma ma577 := e590
          have hfc := hfc.tr e590 (by omega) (by omega)
          have e591 : 0 ≤ v580.toInt := e591
          have e592 : v580.toInt ≤ 4 := e592
          have e593 : NmJ ta ca na ma577 kn z573 v580.toInt := e593
          have hnm_z573 := e593
          have e594 : ZTy cf578 (Gk ta ca na ma0 ns ys nf) na ma577 lo p0.toInt z573 v580.toInt := e594
          have hzt_z573 := e594
          have e595 : ZNm cf578 (1 : Int) v580.toInt := e595
          have hty_z573 := ZTy.num hzt_z573 e595
          have e596 : RL_mp_check d tf ta na ca z573 (1 : Int32) ma cf ma577 cf578 v580 := e596
          have hw : pw D A s.heap H locs [wdP cs h r g tf ta pf na ma577 wa cf578 ca ef ea xf xa] := hw
          have lv580 := Int32.le_toInt v580
          have uv580 := Int32.toInt_lt v580
          refine lv_istore (lv' := [(5, .int v580), (4, .int 0), (3, .int 1), (0, .ref h), (1, .int p0), (2, .int p1)]) S.x S.b d_Mpg_check_139 hl (by decide) rfl (fun ls hl => ?_)
          refine lv_iload S.x S.b d_Mpg_check_141 (lv_at hl 1 rfl) ?_
          refine lv_if_eq (tgt := 301) S.x S.b d_Mpg_check_143 (by decide) (fun c597 => ?_) (fun c597 => ?_)
          ·
            refine lv_iload_n S.x S.b d_Mpg_check_301 rfl (lv_at hl 5 rfl) ?_
            refine lv_if_eq (tgt := 328) S.x S.b d_Mpg_check_302 (by decide) (fun c598 => ?_) (fun c598 => ?_)
            · have nc598 : p1.toInt = (0 : Int) := (i_eq (x := p1) (y := 0)).mp c598
              refine lv_iload_n S.x S.b d_Mpg_check_328 rfl (lv_at hl 5 rfl) ?_
              refine lv_if_eq (tgt := 348) S.x S.b d_Mpg_check_329 (by decide) (fun c600 => ?_) (fun c600 => ?_)
              · have nc600 : p1.toInt = (0 : Int) := (i_eq (x := p1) (y := 0)).mp c600
                refine lv_iload_n S.x S.b d_Mpg_check_348 rfl (lv_at hl 2 rfl) ?_
                exact px_iret (v := 1) S hr rfl hlk hAe hw (Nat.le_of_ble_eq_true rfl) (Nat.le_of_ble_eq_true rfl) (⟨ma577, cf578, rfl, (show KpE cf cf578 from hke), (show WrV cf578 (tf 6).toInt from hwr), (show (cf578 33).toInt = (cf 33).toInt from by first | exact e583 | omega), (show (cf578 38).toInt = (cf 38).toInt from by first | exact e584 | omega), (show (cf578 48).toInt = (cf 48).toInt from by first | exact e585 | omega), (show (cf578 46).toInt = (cf 46).toInt from by first | exact e586 | omega), (show (cf578 47).toInt = (cf 47).toInt from by first | exact e587 | omega), (show (cf578 57).toInt = (cf 57).toInt from by first | exact e588 | omega), (show Ann na ma0 ma577 from han), (show FrC lo hi ma ma577 from hfc), (show 0 ≤ (1 : Int) from by first | exact oz_19c3a41681 | omega), (show (1 : Int) ≤ 4 from by first | exact oz_39f46dc397 | omega), (show NmJ ta ca na ma577 kn p0 (1 : Int) from (fun h => absurd h (by omega))), (show ZTy cf578 (Gk ta ca na ma0 ns ys nf) na ma577 lo hi p0 (1 : Int) from (fun zz => Or.inr ⟨by omega, ty_5 hrg (by omega) (by show sz ta (na 15 p0.toNatClampNeg) ≠ 2; rw [← ez569]; omega) ez573 ((hty_z573 zz).le (by omega) (by omega))⟩)), (show ZNm cf578 p1.toInt (1 : Int) from (zty_num (G := (Gk ta ca na ma0 ns ys nf)) (na := na) (ma := ma577) (lo := lo) (hi := hi) (n := p0) (fun zz => Or.inr ⟨by omega, ty_5 hrg (by omega) (by show sz ta (na 15 p0.toNatClampNeg) ≠ 2; rw [← ez569]; omega) ez573 ((hty_z573 zz).le (by omega) (by omega))⟩) (by omega))), (show R_mp_check (RL_mp_check d) tf ta na ca p0 p1 ma cf ma577 cf578 (1 : Int32) from (Exists.intro 1 (Or.inl ⟨rfl, z149, ez149, Or.inr (Or.inr (Or.inr (Or.inr (Or.inr (Or.inl ⟨c222, z569, ez569, z570, ez570, Or.inl ⟨nc571, z573, ez573, ma577, cf578, v580, e596, Or.inl ⟨nc598, Or.inl ⟨nc600, rfl, rfl, rfl⟩⟩⟩⟩)))))⟩)))⟩) d_Mpg_check_349
              · have nc600 : ¬ p1.toInt = (0 : Int) := mt (i_eq (x := p1) (y := 0)).mpr c600
                refine lv_iload_n S.x S.b d_Mpg_check_332 rfl (lv_at hl 2 rfl) ?_
                refine lv_iconst (v := 4) S.x S.b d_Mpg_check_333 (by decide) ?_
                refine lv_icmp_ne (tgt := 348) S.x S.b d_Mpg_check_334 (by decide) (fun c602 => ?_) (fun c602 => ?_)
                ·
                  refine lv_iload_n S.x S.b d_Mpg_check_348 rfl (lv_at hl 2 rfl) ?_
                  exact px_iret (v := 1) S hr rfl hlk hAe hw (Nat.le_of_ble_eq_true rfl) (Nat.le_of_ble_eq_true rfl) (⟨ma577, cf578, rfl, (show KpE cf cf578 from hke), (show WrV cf578 (tf 6).toInt from hwr), (show (cf578 33).toInt = (cf 33).toInt from by first | exact e583 | omega), (show (cf578 38).toInt = (cf 38).toInt from by first | exact e584 | omega), (show (cf578 48).toInt = (cf 48).toInt from by first | exact e585 | omega), (show (cf578 46).toInt = (cf 46).toInt from by first | exact e586 | omega), (show (cf578 47).toInt = (cf 47).toInt from by first | exact e587 | omega), (show (cf578 57).toInt = (cf 57).toInt from by first | exact e588 | omega), (show Ann na ma0 ma577 from han), (show FrC lo hi ma ma577 from hfc), (show 0 ≤ (1 : Int) from by first | exact oz_19c3a41681 | omega), (show (1 : Int) ≤ 4 from by first | exact oz_39f46dc397 | omega), (show NmJ ta ca na ma577 kn p0 (1 : Int) from (fun h => absurd h (by omega))), (show ZTy cf578 (Gk ta ca na ma0 ns ys nf) na ma577 lo hi p0 (1 : Int) from (fun zz => Or.inr ⟨by omega, ty_5 hrg (by omega) (by show sz ta (na 15 p0.toNatClampNeg) ≠ 2; rw [← ez569]; omega) ez573 ((hty_z573 zz).le (by omega) (by omega))⟩)), (show ZNm cf578 p1.toInt (1 : Int) from (zty_num (G := (Gk ta ca na ma0 ns ys nf)) (na := na) (ma := ma577) (lo := lo) (hi := hi) (n := p0) (fun zz => Or.inr ⟨by omega, ty_5 hrg (by omega) (by show sz ta (na 15 p0.toNatClampNeg) ≠ 2; rw [← ez569]; omega) ez573 ((hty_z573 zz).le (by omega) (by omega))⟩) (by omega))), (show R_mp_check (RL_mp_check d) tf ta na ca p0 p1 ma cf ma577 cf578 (1 : Int32) from (Exists.intro 1 (Or.inl ⟨rfl, z149, ez149, Or.inr (Or.inr (Or.inr (Or.inr (Or.inr (Or.inl ⟨c222, z569, ez569, z570, ez570, Or.inl ⟨nc571, z573, ez573, ma577, cf578, v580, e596, Or.inl ⟨nc598, Or.inr ⟨nc600, rfl, rfl, rfl⟩⟩⟩⟩)))))⟩)))⟩) d_Mpg_check_349
                · exact absurd c602 (by decide)
            · have nc598 : ¬ p1.toInt = (0 : Int) := mt (i_eq (x := p1) (y := 0)).mpr c598
              refine lv_iload_n S.x S.b d_Mpg_check_305 rfl (lv_at hl 2 rfl) ?_
              refine lv_iconst (v := 2) S.x S.b d_Mpg_check_306 (by decide) ?_
              refine lv_icmp_eq (tgt := 315) S.x S.b d_Mpg_check_307 (by decide) (fun c603 => ?_) (fun c603 => ?_)
              · exact absurd c603 (by decide)
              ·
                refine lv_iload_n S.x S.b d_Mpg_check_310 rfl (lv_at hl 2 rfl) ?_
                refine lv_iconst (v := 3) S.x S.b d_Mpg_check_311 (by decide) ?_
                refine lv_icmp_ne (tgt := 328) S.x S.b d_Mpg_check_312 (by decide) (fun c604 => ?_) (fun c604 => ?_)
                ·
                  refine lv_iload_n S.x S.b d_Mpg_check_328 rfl (lv_at hl 5 rfl) ?_
                  refine lv_if_eq (tgt := 348) S.x S.b d_Mpg_check_329 (by decide) (fun c605 => ?_) (fun c605 => ?_)
                  · have nc605 : p1.toInt = (0 : Int) := (i_eq (x := p1) (y := 0)).mp c605
                    refine lv_iload_n S.x S.b d_Mpg_check_348 rfl (lv_at hl 2 rfl) ?_
                    exact px_iret (v := 1) S hr rfl hlk hAe hw (Nat.le_of_ble_eq_true rfl) (Nat.le_of_ble_eq_true rfl) (⟨ma577, cf578, rfl, (show KpE cf cf578 from hke), (show WrV cf578 (tf 6).toInt from hwr), (show (cf578 33).toInt = (cf 33).toInt from by first | exact e583 | omega), (show (cf578 38).toInt = (cf 38).toInt from by first | exact e584 | omega), (show (cf578 48).toInt = (cf 48).toInt from by first | exact e585 | omega), (show (cf578 46).toInt = (cf 46).toInt from by first | exact e586 | omega), (show (cf578 47).toInt = (cf 47).toInt from by first | exact e587 | omega), (show (cf578 57).toInt = (cf 57).toInt from by first | exact e588 | omega), (show Ann na ma0 ma577 from han), (show FrC lo hi ma ma577 from hfc), (show 0 ≤ (1 : Int) from by first | exact oz_19c3a41681 | omega), (show (1 : Int) ≤ 4 from by first | exact oz_39f46dc397 | omega), (show NmJ ta ca na ma577 kn p0 (1 : Int) from (fun h => absurd h (by omega))), (show ZTy cf578 (Gk ta ca na ma0 ns ys nf) na ma577 lo hi p0 (1 : Int) from (fun zz => Or.inr ⟨by omega, ty_5 hrg (by omega) (by show sz ta (na 15 p0.toNatClampNeg) ≠ 2; rw [← ez569]; omega) ez573 ((hty_z573 zz).le (by omega) (by omega))⟩)), (show ZNm cf578 p1.toInt (1 : Int) from (zty_num (G := (Gk ta ca na ma0 ns ys nf)) (na := na) (ma := ma577) (lo := lo) (hi := hi) (n := p0) (fun zz => Or.inr ⟨by omega, ty_5 hrg (by omega) (by show sz ta (na 15 p0.toNatClampNeg) ≠ 2; rw [← ez569]; omega) ez573 ((hty_z573 zz).le (by omega) (by omega))⟩) (by omega))), (show R_mp_check (RL_mp_check d) tf ta na ca p0 p1 ma cf ma577 cf578 (1 : Int32) from (Exists.intro 1 (Or.inl ⟨rfl, z149, ez149, Or.inr (Or.inr (Or.inr (Or.inr (Or.inr (Or.inl ⟨c222, z569, ez569, z570, ez570, Or.inl ⟨nc571, z573, ez573, ma577, cf578, v580, e596, Or.inr ⟨nc598, Or.inl ⟨nc605, rfl, rfl, rfl⟩⟩⟩⟩)))))⟩)))⟩) d_Mpg_check_349
                  · have nc605 : ¬ p1.toInt = (0 : Int) := mt (i_eq (x := p1) (y := 0)).mpr c605
                    refine lv_iload_n S.x S.b d_Mpg_check_332 rfl (lv_at hl 2 rfl) ?_
                    refine lv_iconst (v := 4) S.x S.b d_Mpg_check_333 (by decide) ?_
                    refine lv_icmp_ne (tgt := 348) S.x S.b d_Mpg_check_334 (by decide) (fun c607 => ?_) (fun c607 => ?_)
                    ·
                      refine lv_iload_n S.x S.b d_Mpg_check_348 rfl (lv_at hl 2 rfl) ?_
                      exact px_iret (v := 1) S hr rfl hlk hAe hw (Nat.le_of_ble_eq_true rfl) (Nat.le_of_ble_eq_true rfl) (⟨ma577, cf578, rfl, (show KpE cf cf578 from hke), (show WrV cf578 (tf 6).toInt from hwr), (show (cf578 33).toInt = (cf 33).toInt from by first | exact e583 | omega), (show (cf578 38).toInt = (cf 38).toInt from by first | exact e584 | omega), (show (cf578 48).toInt = (cf 48).toInt from by first | exact e585 | omega), (show (cf578 46).toInt = (cf 46).toInt from by first | exact e586 | omega), (show (cf578 47).toInt = (cf 47).toInt from by first | exact e587 | omega), (show (cf578 57).toInt = (cf 57).toInt from by first | exact e588 | omega), (show Ann na ma0 ma577 from han), (show FrC lo hi ma ma577 from hfc), (show 0 ≤ (1 : Int) from by first | exact oz_19c3a41681 | omega), (show (1 : Int) ≤ 4 from by first | exact oz_39f46dc397 | omega), (show NmJ ta ca na ma577 kn p0 (1 : Int) from (fun h => absurd h (by omega))), (show ZTy cf578 (Gk ta ca na ma0 ns ys nf) na ma577 lo hi p0 (1 : Int) from (fun zz => Or.inr ⟨by omega, ty_5 hrg (by omega) (by show sz ta (na 15 p0.toNatClampNeg) ≠ 2; rw [← ez569]; omega) ez573 ((hty_z573 zz).le (by omega) (by omega))⟩)), (show ZNm cf578 p1.toInt (1 : Int) from (zty_num (G := (Gk ta ca na ma0 ns ys nf)) (na := na) (ma := ma577) (lo := lo) (hi := hi) (n := p0) (fun zz => Or.inr ⟨by omega, ty_5 hrg (by omega) (by show sz ta (na 15 p0.toNatClampNeg) ≠ 2; rw [← ez569]; omega) ez573 ((hty_z573 zz).le (by omega) (by omega))⟩) (by omega))), (show R_mp_check (RL_mp_check d) tf ta na ca p0 p1 ma cf ma577 cf578 (1 : Int32) from (Exists.intro 1 (Or.inl ⟨rfl, z149, ez149, Or.inr (Or.inr (Or.inr (Or.inr (Or.inr (Or.inl ⟨c222, z569, ez569, z570, ez570, Or.inl ⟨nc571, z573, ez573, ma577, cf578, v580, e596, Or.inr ⟨nc598, Or.inr ⟨nc605, rfl, rfl, rfl⟩⟩⟩⟩)))))⟩)))⟩) d_Mpg_check_349
                    · exact absurd c607 (by decide)
                · exact absurd c604 (by decide)
          · exact absurd c597 (by decide)
      · have nc571 : z570.toInt = (2 : Int) := (i_eq (x := z570) (y := 2)).mp c571
        refine lv_iconst (v := 1) S.x S.b d_Mpg_check_112 (by decide) ?_
        refine lv_goto (tgt := 117) S.x S.b d_Mpg_check_113 (by decide) ?_
        refine lv_istore (lv' := [(4, .int 1), (3, .int 1), (0, .ref h), (1, .int p0), (2, .int p1)]) S.x S.b d_Mpg_check_117 hl (by decide) rfl (fun ls hl => ?_)
        refine lv_aload_n S.x S.b d_Mpg_check_119 rfl (lv_at hl 2 rfl) ?_
        refine lv_aload_n S.x S.b d_Mpg_check_120 rfl (lv_at hl 2 rfl) ?_
        refine px_get S k_Mpg hT hw 0 0 17 (v := .ref (r 17)) rfl rfl rfl (by decide) m10_1 d_Mpg_check_121 ?_
        refine lv_iload_n S.x S.b d_Mpg_check_124 rfl (lv_at hl 3 rfl) ?_
        refine px_iald S hT hw 0 13 (n := 2100) (f := (na 17)) rfl gp_17 (x := p0) (vp_in_iff.mpr (by first | exact oz_a7e05de1cd hrg.2.2 hrg.2.1 g1 g2 | (constructor <;> omega))) d_Mpg_check_125 ?_
        refine lv_topi (fun z608 ez608 => ?_)
        have lz608 := Int32.le_toInt z608
        have uz608 := Int32.toInt_lt z608
        have hec_z608 := EcV.k56 hec_p0 (by omega) ez608; have hrg_z608 := EcV.rng hec_z608
        refine lv_iload S.x S.b d_Mpg_check_126 (lv_at hl 0 rfl) ?_
        refine lv_if_ne (tgt := 135) S.x S.b d_Mpg_check_128 (by decide) (fun c609 => ?_) (fun c609 => ?_)
        ·
          refine lv_iconst (v := 0) S.x S.b d_Mpg_check_135 (by decide) ?_
          refine px_calli (pr := []) (px_runV (As := [.int z608, .int 0]) (rest := []) S (hLC ma0 ys ns nf kn lo p0.toInt h r g tf ta pf na wa ca ef ea xf xa ma cf z608 0 (show 0 ≤ lo from by first | exact g0 | omega) (show p0.toInt ≤ (pf 13).toInt from by first | exact oz_6996e0781a g1 hrg.2.1 | omega) (show (pf 13).toInt ≤ 2100 from by first | exact g2 | omega) (show (tf 6).toInt ≤ 2049 from by first | exact g3 | omega) (show (cf 33).toInt = kn from by first | exact g4 | omega) (show 0 ≤ kn from by first | exact g5 | omega) (show (cf 48).toInt = ns from by first | exact g6 | omega) (show (cf 38).toInt = nf from by first | exact g7 | omega) (show 0 ≤ nf from by first | exact g8 | omega) (show 0 ≤ (0 : Int) from by first | exact oz_5a341f00aa | omega) (show (0 : Int) ≤ 1 from by first | exact oz_6e68cd0f48 | omega) htk (FsI.le (N' := (pf 13).toInt) hfs (by omega)) hwr (KnT.eq hkt (by omega)) (FnT.eq hft (by omega)) hks hfp han hec_z608 _) hT (pr := []) (pcs := [wdP cs h r g tf ta pf na ma wa cf ca ef ea xf xa]) hw (oX_call (P := (fun A U H => (oP A g U H))) (pr := []) oG_P hw hA hP) (px_recv hT hw 0 0 rfl rfl rfl) m12_217 m12_214 m12_216 ms_12_7 m1_21 q_Mpg_check ⟨show (4 * d + 12) + 1 ≤ (4 * (d + 1) + 12) from (by first | exact oz_6ef785d99b | omega), show 8 + (8 + 11) + (200 * d + 420) ≤ (200 * (d + 1) + 420) from (by first | exact oz_3a4e9491aa | omega)⟩ hl.1 rfl (Nat.le_of_ble_eq_true rfl) d_Mpg_check_136 ⟨Nat.le_of_ble_eq_true rfl, Nat.le_of_ble_eq_true rfl⟩) hw hA (fun v615 p614 H locs hp614 hw => ?_)
          obtain ⟨ma612, cf613, rfl, e616, e617, e618, e619, e620, e621, e622, e623, e624, e625, e626, e627, e628, e629, e630, e631⟩ := hp614
          have e616 : KpE cf cf613 := e616
          have hke := (hke).tr e616
          have hkz_e616 := e616.2
          have e617 : WrV cf613 (tf 6).toInt := e617
          have hwr := e617
          have hw0_e617 := hwr.1
          have e618 : (cf613 33).toInt = (cf 33).toInt := e618
          have e619 : (cf613 38).toInt = (cf 38).toInt := e619
          have e620 : (cf613 48).toInt = (cf 48).toInt := e620
          have e621 : (cf613 46).toInt = (cf 46).toInt := e621
          have e622 : (cf613 47).toInt = (cf 47).toInt := e622
          have e623 : (cf613 57).toInt = (cf 57).toInt := e623
          have e624 : Ann na ma0 ma612 := e624
          have han := e624
          have e625 : FrC lo p0.toInt ma ma612 := e625
          have hfc := hfc.tr e625 (by omega) (by omega)
          have e626 : 0 ≤ v615.toInt := e626
          have e627 : v615.toInt ≤ 4 := e627
          have e628 : NmJ ta ca na ma612 kn z608 v615.toInt := e628
          have hnm_z608 := e628
          have e629 : ZTy cf613 (Gk ta ca na ma0 ns ys nf) na ma612 lo p0.toInt z608 v615.toInt := e629
          have hzt_z608 := e629
          have e630 : ZNm cf613 (0 : Int) v615.toInt := e630
          have e631 : RL_mp_check d tf ta na ca z608 (0 : Int32) ma cf ma612 cf613 v615 := e631
          have hw : pw D A s.heap H locs [wdP cs h r g tf ta pf na ma612 wa cf613 ca ef ea xf xa] := hw
          have lv615 := Int32.le_toInt v615
          have uv615 := Int32.toInt_lt v615
          refine lv_istore (lv' := [(5, .int v615), (4, .int 1), (3, .int 1), (0, .ref h), (1, .int p0), (2, .int p1)]) S.x S.b d_Mpg_check_139 hl (by decide) rfl (fun ls hl => ?_)
          refine lv_iload S.x S.b d_Mpg_check_141 (lv_at hl 1 rfl) ?_
          refine lv_if_eq (tgt := 301) S.x S.b d_Mpg_check_143 (by decide) (fun c632 => ?_) (fun c632 => ?_)
          · exact absurd c632 (by decide)
          ·
            refine lv_aload_n S.x S.b d_Mpg_check_146 rfl (lv_at hl 3 rfl) ?_
            refine lv_aload_n S.x S.b d_Mpg_check_147 rfl (lv_at hl 3 rfl) ?_
            refine px_get S k_Mpg hT hw 0 0 17 (v := .ref (r 17)) rfl rfl rfl (by decide) m10_1 d_Mpg_check_148 ?_
            refine lv_iload_n S.x S.b d_Mpg_check_151 rfl (lv_at hl 4 rfl) ?_
            refine px_iald S hT hw 0 13 (n := 2100) (f := (na 17)) rfl gp_17 (x := p0) (vp_in_iff.mpr (by first | exact oz_a7e05de1cd hrg.2.2 hrg.2.1 g1 g2 | (constructor <;> omega))) d_Mpg_check_152 ?_
            refine lv_topi (fun z633 ez633 => ?_)
            have lz633 := Int32.le_toInt z633
            have uz633 := Int32.toInt_lt z633
            have hsz633 : z608 = z633 := ez608.trans ez633.symm; subst hsz633
            refine lv_iload S.x S.b d_Mpg_check_153 (lv_at hl 0 rfl) ?_
            refine px_callv (pr := []) (px_runV (As := [.int z608, .int v615]) (rest := []) S (c_mp_checkPlace l D cs ma0 ys ns nf kn d lo p0.toInt h r g tf ta pf na ma612 wa ca ef ea xf xa cf613 z608 v615  (show 0 ≤ lo from by first | exact g0 | omega) (show p0.toInt ≤ (pf 13).toInt from by first | exact oz_6996e0781a g1 hrg.2.1 | omega) (show (pf 13).toInt ≤ 2100 from by first | exact g2 | omega) (show (tf 6).toInt ≤ 2049 from by first | exact g3 | omega) (show (cf613 33).toInt = kn from by first | exact oz_1687f4cc65 g4 e618 | omega) (show 0 ≤ kn from by first | exact g5 | omega) (show (cf613 48).toInt = ns from by first | exact oz_1687f4cc65 g6 e620 | omega) (show (cf613 38).toInt = nf from by first | exact oz_1687f4cc65 g7 e619 | omega) (show 0 ≤ nf from by first | exact g8 | omega) (show 0 ≤ v615.toInt from by first | exact e626 | omega) (show v615.toInt ≤ 4 from by first | exact e627 | omega) htk (FsI.le (N' := (pf 13).toInt) hfs (by omega)) hwr (KnT.eq hkt (by omega)) (FnT.eq hft (by omega)) hks hec_z608 hnm_z608 _) hT (pr := []) (pcs := [wdP cs h r g tf ta pf na ma612 wa cf613 ca ef ea xf xa]) hw (oX_call (P := (fun A U H => (oP A g U H))) (pr := []) oG_P hw hA hP) (px_recv hT hw 0 0 rfl rfl rfl) m13_25 m13_22 m13_24 ms_13_3 m1_21 q_Mpg_checkPlace ⟨show 3 + 1 ≤ (4 * (d + 1) + 12) from (by first | exact oz_a751a4894f | omega), show 8 + (4 + 11) + 120 ≤ (200 * (d + 1) + 420) from (by first | exact oz_c781ee8ab2 | omega)⟩ hl.1 rfl (Nat.le_of_ble_eq_true rfl) d_Mpg_check_155 ⟨Nat.le_of_ble_eq_true rfl, Nat.le_of_ble_eq_true rfl⟩) hw hA (fun p636 H locs hp636 hw => ?_)
            obtain ⟨cf635, rfl, e638, e639, e640, e641, e642, e643, e644, e645, e646, e647⟩ := hp636
            have e638 : KpE cf613 cf635 := e638
            have hke := (hke).tr e638
            have hkz_e638 := e638.2
            have hzt_z608 := Zr.kp hzt_z608 e638 id
            have e639 : WrV cf635 (tf 6).toInt := e639
            have hwr := e639
            have hw0_e639 := hwr.1
            have e640 : (cf635 33).toInt = (cf613 33).toInt := e640
            have e641 : (cf635 38).toInt = (cf613 38).toInt := e641
            have e642 : (cf635 48).toInt = (cf613 48).toInt := e642
            have e643 : (cf635 46).toInt = (cf613 46).toInt := e643
            have e644 : (cf635 47).toInt = (cf613 47).toInt := e644
            have e645 : (cf635 57).toInt = (cf613 57).toInt := e645
            have e646 : ZPl cf635 na ma612 z608 v615.toInt := e646
            have hzpl_z608 := e646
            have e647 : R_mp_checkPlace ta na ca z608 v615 cf613 cf635 := e647
            have hw : pw D A s.heap H locs [wdP cs h r g tf ta pf na ma612 wa cf635 ca ef ea xf xa] := hw
            refine lv_goto (tgt := 301) S.x S.b d_Mpg_check_158 (by decide) ?_
            refine lv_iload_n S.x S.b d_Mpg_check_301 rfl (lv_at hl 5 rfl) ?_
            refine lv_if_eq (tgt := 328) S.x S.b d_Mpg_check_302 (by decide) (fun c648 => ?_) (fun c648 => ?_)
            · have nc648 : p1.toInt = (0 : Int) := (i_eq (x := p1) (y := 0)).mp c648
              refine lv_iload_n S.x S.b d_Mpg_check_328 rfl (lv_at hl 5 rfl) ?_
              refine lv_if_eq (tgt := 348) S.x S.b d_Mpg_check_329 (by decide) (fun c650 => ?_) (fun c650 => ?_)
              · have nc650 : p1.toInt = (0 : Int) := (i_eq (x := p1) (y := 0)).mp c650
                refine lv_iload_n S.x S.b d_Mpg_check_348 rfl (lv_at hl 2 rfl) ?_
                exact px_iret (v := 1) S hr rfl hlk hAe hw (Nat.le_of_ble_eq_true rfl) (Nat.le_of_ble_eq_true rfl) (⟨ma612, cf635, rfl, (show KpE cf cf635 from hke), (show WrV cf635 (tf 6).toInt from hwr), (show (cf635 33).toInt = (cf 33).toInt from by first | exact oz_1687f4cc65 e618 e640 | omega), (show (cf635 38).toInt = (cf 38).toInt from by first | exact oz_1687f4cc65 e619 e641 | omega), (show (cf635 48).toInt = (cf 48).toInt from by first | exact oz_1687f4cc65 e620 e642 | omega), (show (cf635 46).toInt = (cf 46).toInt from by first | exact oz_1687f4cc65 e621 e643 | omega), (show (cf635 47).toInt = (cf 47).toInt from by first | exact oz_1687f4cc65 e622 e644 | omega), (show (cf635 57).toInt = (cf 57).toInt from by first | exact oz_1687f4cc65 e623 e645 | omega), (show Ann na ma0 ma612 from han), (show FrC lo hi ma ma612 from hfc), (show 0 ≤ (1 : Int) from by first | exact oz_19c3a41681 | omega), (show (1 : Int) ≤ 4 from by first | exact oz_39f46dc397 | omega), (show NmJ ta ca na ma612 kn p0 (1 : Int) from (fun h => absurd h (by omega))), (show ZTy cf635 (Gk ta ca na ma0 ns ys nf) na ma612 lo hi p0 (1 : Int) from (fun zz => Or.inr ⟨by omega, ty_5p hrg (by omega) (by show sz ta (na 15 p0.toNatClampNeg) = 2; rw [← ez569]; omega) ez608 ((ZTy.pl hzt_z608 hzpl_z608 zz).le (by omega) (by omega)) (hzpl_z608 zz) (ZTy.n0 hzt_z608 zz)⟩)), (show ZNm cf635 p1.toInt (1 : Int) from (zty_num (G := (Gk ta ca na ma0 ns ys nf)) (na := na) (ma := ma612) (lo := lo) (hi := hi) (n := p0) (fun zz => Or.inr ⟨by omega, ty_5p hrg (by omega) (by show sz ta (na 15 p0.toNatClampNeg) = 2; rw [← ez569]; omega) ez608 ((ZTy.pl hzt_z608 hzpl_z608 zz).le (by omega) (by omega)) (hzpl_z608 zz) (ZTy.n0 hzt_z608 zz)⟩) (by omega))), (show R_mp_check (RL_mp_check d) tf ta na ca p0 p1 ma cf ma612 cf635 (1 : Int32) from (Exists.intro 1 (Or.inl ⟨rfl, z149, ez149, Or.inr (Or.inr (Or.inr (Or.inr (Or.inr (Or.inl ⟨c222, z569, ez569, z570, ez570, Or.inr ⟨nc571, z608, ez608, ma612, cf613, v615, e631, z608, ez633, cf635, e647, Or.inl ⟨nc648, Or.inl ⟨nc650, rfl, rfl, rfl⟩⟩⟩⟩)))))⟩)))⟩) d_Mpg_check_349
              · have nc650 : ¬ p1.toInt = (0 : Int) := mt (i_eq (x := p1) (y := 0)).mpr c650
                refine lv_iload_n S.x S.b d_Mpg_check_332 rfl (lv_at hl 2 rfl) ?_
                refine lv_iconst (v := 4) S.x S.b d_Mpg_check_333 (by decide) ?_
                refine lv_icmp_ne (tgt := 348) S.x S.b d_Mpg_check_334 (by decide) (fun c652 => ?_) (fun c652 => ?_)
                ·
                  refine lv_iload_n S.x S.b d_Mpg_check_348 rfl (lv_at hl 2 rfl) ?_
                  exact px_iret (v := 1) S hr rfl hlk hAe hw (Nat.le_of_ble_eq_true rfl) (Nat.le_of_ble_eq_true rfl) (⟨ma612, cf635, rfl, (show KpE cf cf635 from hke), (show WrV cf635 (tf 6).toInt from hwr), (show (cf635 33).toInt = (cf 33).toInt from by first | exact oz_1687f4cc65 e618 e640 | omega), (show (cf635 38).toInt = (cf 38).toInt from by first | exact oz_1687f4cc65 e619 e641 | omega), (show (cf635 48).toInt = (cf 48).toInt from by first | exact oz_1687f4cc65 e620 e642 | omega), (show (cf635 46).toInt = (cf 46).toInt from by first | exact oz_1687f4cc65 e621 e643 | omega), (show (cf635 47).toInt = (cf 47).toInt from by first | exact oz_1687f4cc65 e622 e644 | omega), (show (cf635 57).toInt = (cf 57).toInt from by first | exact oz_1687f4cc65 e623 e645 | omega), (show Ann na ma0 ma612 from han), (show FrC lo hi ma ma612 from hfc), (show 0 ≤ (1 : Int) from by first | exact oz_19c3a41681 | omega), (show (1 : Int) ≤ 4 from by first | exact oz_39f46dc397 | omega), (show NmJ ta ca na ma612 kn p0 (1 : Int) from (fun h => absurd h (by omega))), (show ZTy cf635 (Gk ta ca na ma0 ns ys nf) na ma612 lo hi p0 (1 : Int) from (fun zz => Or.inr ⟨by omega, ty_5p hrg (by omega) (by show sz ta (na 15 p0.toNatClampNeg) = 2; rw [← ez569]; omega) ez608 ((ZTy.pl hzt_z608 hzpl_z608 zz).le (by omega) (by omega)) (hzpl_z608 zz) (ZTy.n0 hzt_z608 zz)⟩)), (show ZNm cf635 p1.toInt (1 : Int) from (zty_num (G := (Gk ta ca na ma0 ns ys nf)) (na := na) (ma := ma612) (lo := lo) (hi := hi) (n := p0) (fun zz => Or.inr ⟨by omega, ty_5p hrg (by omega) (by show sz ta (na 15 p0.toNatClampNeg) = 2; rw [← ez569]; omega) ez608 ((ZTy.pl hzt_z608 hzpl_z608 zz).le (by omega) (by omega)) (hzpl_z608 zz) (ZTy.n0 hzt_z608 zz)⟩) (by omega))), (show R_mp_check (RL_mp_check d) tf ta na ca p0 p1 ma cf ma612 cf635 (1 : Int32) from (Exists.intro 1 (Or.inl ⟨rfl, z149, ez149, Or.inr (Or.inr (Or.inr (Or.inr (Or.inr (Or.inl ⟨c222, z569, ez569, z570, ez570, Or.inr ⟨nc571, z608, ez608, ma612, cf613, v615, e631, z608, ez633, cf635, e647, Or.inl ⟨nc648, Or.inr ⟨nc650, rfl, rfl, rfl⟩⟩⟩⟩)))))⟩)))⟩) d_Mpg_check_349
                · exact absurd c652 (by decide)
            · have nc648 : ¬ p1.toInt = (0 : Int) := mt (i_eq (x := p1) (y := 0)).mpr c648
              refine lv_iload_n S.x S.b d_Mpg_check_305 rfl (lv_at hl 2 rfl) ?_
              refine lv_iconst (v := 2) S.x S.b d_Mpg_check_306 (by decide) ?_
              refine lv_icmp_eq (tgt := 315) S.x S.b d_Mpg_check_307 (by decide) (fun c653 => ?_) (fun c653 => ?_)
              · exact absurd c653 (by decide)
              ·
                refine lv_iload_n S.x S.b d_Mpg_check_310 rfl (lv_at hl 2 rfl) ?_
                refine lv_iconst (v := 3) S.x S.b d_Mpg_check_311 (by decide) ?_
                refine lv_icmp_ne (tgt := 328) S.x S.b d_Mpg_check_312 (by decide) (fun c654 => ?_) (fun c654 => ?_)
                ·
                  refine lv_iload_n S.x S.b d_Mpg_check_328 rfl (lv_at hl 5 rfl) ?_
                  refine lv_if_eq (tgt := 348) S.x S.b d_Mpg_check_329 (by decide) (fun c655 => ?_) (fun c655 => ?_)
                  · have nc655 : p1.toInt = (0 : Int) := (i_eq (x := p1) (y := 0)).mp c655
                    refine lv_iload_n S.x S.b d_Mpg_check_348 rfl (lv_at hl 2 rfl) ?_
                    exact px_iret (v := 1) S hr rfl hlk hAe hw (Nat.le_of_ble_eq_true rfl) (Nat.le_of_ble_eq_true rfl) (⟨ma612, cf635, rfl, (show KpE cf cf635 from hke), (show WrV cf635 (tf 6).toInt from hwr), (show (cf635 33).toInt = (cf 33).toInt from by first | exact oz_1687f4cc65 e618 e640 | omega), (show (cf635 38).toInt = (cf 38).toInt from by first | exact oz_1687f4cc65 e619 e641 | omega), (show (cf635 48).toInt = (cf 48).toInt from by first | exact oz_1687f4cc65 e620 e642 | omega), (show (cf635 46).toInt = (cf 46).toInt from by first | exact oz_1687f4cc65 e621 e643 | omega), (show (cf635 47).toInt = (cf 47).toInt from by first | exact oz_1687f4cc65 e622 e644 | omega), (show (cf635 57).toInt = (cf 57).toInt from by first | exact oz_1687f4cc65 e623 e645 | omega), (show Ann na ma0 ma612 from han), (show FrC lo hi ma ma612 from hfc), (show 0 ≤ (1 : Int) from by first | exact oz_19c3a41681 | omega), (show (1 : Int) ≤ 4 from by first | exact oz_39f46dc397 | omega), (show NmJ ta ca na ma612 kn p0 (1 : Int) from (fun h => absurd h (by omega))), (show ZTy cf635 (Gk ta ca na ma0 ns ys nf) na ma612 lo hi p0 (1 : Int) from (fun zz => Or.inr ⟨by omega, ty_5p hrg (by omega) (by show sz ta (na 15 p0.toNatClampNeg) = 2; rw [← ez569]; omega) ez608 ((ZTy.pl hzt_z608 hzpl_z608 zz).le (by omega) (by omega)) (hzpl_z608 zz) (ZTy.n0 hzt_z608 zz)⟩)), (show ZNm cf635 p1.toInt (1 : Int) from (zty_num (G := (Gk ta ca na ma0 ns ys nf)) (na := na) (ma := ma612) (lo := lo) (hi := hi) (n := p0) (fun zz => Or.inr ⟨by omega, ty_5p hrg (by omega) (by show sz ta (na 15 p0.toNatClampNeg) = 2; rw [← ez569]; omega) ez608 ((ZTy.pl hzt_z608 hzpl_z608 zz).le (by omega) (by omega)) (hzpl_z608 zz) (ZTy.n0 hzt_z608 zz)⟩) (by omega))), (show R_mp_check (RL_mp_check d) tf ta na ca p0 p1 ma cf ma612 cf635 (1 : Int32) from (Exists.intro 1 (Or.inl ⟨rfl, z149, ez149, Or.inr (Or.inr (Or.inr (Or.inr (Or.inr (Or.inl ⟨c222, z569, ez569, z570, ez570, Or.inr ⟨nc571, z608, ez608, ma612, cf613, v615, e631, z608, ez633, cf635, e647, Or.inr ⟨nc648, Or.inl ⟨nc655, rfl, rfl, rfl⟩⟩⟩⟩)))))⟩)))⟩) d_Mpg_check_349
                  · have nc655 : ¬ p1.toInt = (0 : Int) := mt (i_eq (x := p1) (y := 0)).mpr c655
                    refine lv_iload_n S.x S.b d_Mpg_check_332 rfl (lv_at hl 2 rfl) ?_
                    refine lv_iconst (v := 4) S.x S.b d_Mpg_check_333 (by decide) ?_
                    refine lv_icmp_ne (tgt := 348) S.x S.b d_Mpg_check_334 (by decide) (fun c657 => ?_) (fun c657 => ?_)
                    ·
                      refine lv_iload_n S.x S.b d_Mpg_check_348 rfl (lv_at hl 2 rfl) ?_
                      exact px_iret (v := 1) S hr rfl hlk hAe hw (Nat.le_of_ble_eq_true rfl) (Nat.le_of_ble_eq_true rfl) (⟨ma612, cf635, rfl, (show KpE cf cf635 from hke), (show WrV cf635 (tf 6).toInt from hwr), (show (cf635 33).toInt = (cf 33).toInt from by first | exact oz_1687f4cc65 e618 e640 | omega), (show (cf635 38).toInt = (cf 38).toInt from by first | exact oz_1687f4cc65 e619 e641 | omega), (show (cf635 48).toInt = (cf 48).toInt from by first | exact oz_1687f4cc65 e620 e642 | omega), (show (cf635 46).toInt = (cf 46).toInt from by first | exact oz_1687f4cc65 e621 e643 | omega), (show (cf635 47).toInt = (cf 47).toInt from by first | exact oz_1687f4cc65 e622 e644 | omega), (show (cf635 57).toInt = (cf 57).toInt from by first | exact oz_1687f4cc65 e623 e645 | omega), (show Ann na ma0 ma612 from han), (show FrC lo hi ma ma612 from hfc), (show 0 ≤ (1 : Int) from by first | exact oz_19c3a41681 | omega), (show (1 : Int) ≤ 4 from by first | exact oz_39f46dc397 | omega), (show NmJ ta ca na ma612 kn p0 (1 : Int) from (fun h => absurd h (by omega))), (show ZTy cf635 (Gk ta ca na ma0 ns ys nf) na ma612 lo hi p0 (1 : Int) from (fun zz => Or.inr ⟨by omega, ty_5p hrg (by omega) (by show sz ta (na 15 p0.toNatClampNeg) = 2; rw [← ez569]; omega) ez608 ((ZTy.pl hzt_z608 hzpl_z608 zz).le (by omega) (by omega)) (hzpl_z608 zz) (ZTy.n0 hzt_z608 zz)⟩)), (show ZNm cf635 p1.toInt (1 : Int) from (zty_num (G := (Gk ta ca na ma0 ns ys nf)) (na := na) (ma := ma612) (lo := lo) (hi := hi) (n := p0) (fun zz => Or.inr ⟨by omega, ty_5p hrg (by omega) (by show sz ta (na 15 p0.toNatClampNeg) = 2; rw [← ez569]; omega) ez608 ((ZTy.pl hzt_z608 hzpl_z608 zz).le (by omega) (by omega)) (hzpl_z608 zz) (ZTy.n0 hzt_z608 zz)⟩) (by omega))), (show R_mp_check (RL_mp_check d) tf ta na ca p0 p1 ma cf ma612 cf635 (1 : Int32) from (Exists.intro 1 (Or.inl ⟨rfl, z149, ez149, Or.inr (Or.inr (Or.inr (Or.inr (Or.inr (Or.inl ⟨c222, z569, ez569, z570, ez570, Or.inr ⟨nc571, z608, ez608, ma612, cf613, v615, e631, z608, ez633, cf635, e647, Or.inr ⟨nc648, Or.inr ⟨nc655, rfl, rfl, rfl⟩⟩⟩⟩)))))⟩)))⟩) d_Mpg_check_349
                    · exact absurd c657 (by decide)
                · exact absurd c654 (by decide)
        · exact absurd c609 (by decide)
    · simp only [List.mem_cons, List.not_mem_nil, or_false] at c222
      refine lv_aload_n S.x S.b d_Mpg_check_161 rfl (lv_at hl 1 rfl) ?_
      refine lv_aload_n S.x S.b d_Mpg_check_162 rfl (lv_at hl 1 rfl) ?_
      refine px_get S k_Mpg hT hw 0 0 17 (v := .ref (r 17)) rfl rfl rfl (by decide) m10_1 d_Mpg_check_163 ?_
      refine lv_iload_n S.x S.b d_Mpg_check_166 rfl (lv_at hl 2 rfl) ?_
      refine px_iald S hT hw 0 13 (n := 2100) (f := (na 17)) rfl gp_17 (x := p0) (vp_in_iff.mpr (by first | exact oz_a7e05de1cd hrg.2.2 hrg.2.1 g1 g2 | (constructor <;> omega))) d_Mpg_check_167 ?_
      refine lv_topi (fun z658 ez658 => ?_)
      have lz658 := Int32.le_toInt z658
      have uz658 := Int32.toInt_lt z658
      have hec_z658 := EcV.k56 hec_p0 (by omega) ez658; have hrg_z658 := EcV.rng hec_z658
      refine lv_iconst (v := 0) S.x S.b d_Mpg_check_168 (by decide) ?_
      refine px_calli (pr := []) (px_runV (As := [.int z658, .int 0]) (rest := []) S (hLC ma0 ys ns nf kn lo p0.toInt h r g tf ta pf na wa ca ef ea xf xa ma cf z658 0 (show 0 ≤ lo from by first | exact g0 | omega) (show p0.toInt ≤ (pf 13).toInt from by first | exact oz_6996e0781a g1 hrg.2.1 | omega) (show (pf 13).toInt ≤ 2100 from by first | exact g2 | omega) (show (tf 6).toInt ≤ 2049 from by first | exact g3 | omega) (show (cf 33).toInt = kn from by first | exact g4 | omega) (show 0 ≤ kn from by first | exact g5 | omega) (show (cf 48).toInt = ns from by first | exact g6 | omega) (show (cf 38).toInt = nf from by first | exact g7 | omega) (show 0 ≤ nf from by first | exact g8 | omega) (show 0 ≤ (0 : Int) from by first | exact oz_5a341f00aa | omega) (show (0 : Int) ≤ 1 from by first | exact oz_6e68cd0f48 | omega) htk (FsI.le (N' := (pf 13).toInt) hfs (by omega)) hwr (KnT.eq hkt (by omega)) (FnT.eq hft (by omega)) hks hfp han hec_z658 _) hT (pr := []) (pcs := [wdP cs h r g tf ta pf na ma wa cf ca ef ea xf xa]) hw (oX_call (P := (fun A U H => (oP A g U H))) (pr := []) oG_P hw hA hP) (px_recv hT hw 0 0 rfl rfl rfl) m12_217 m12_214 m12_216 ms_12_7 m1_21 q_Mpg_check ⟨show (4 * d + 12) + 1 ≤ (4 * (d + 1) + 12) from (by first | exact oz_6ef785d99b | omega), show 8 + (8 + 11) + (200 * d + 420) ≤ (200 * (d + 1) + 420) from (by first | exact oz_3a4e9491aa | omega)⟩ hl.1 rfl (Nat.le_of_ble_eq_true rfl) d_Mpg_check_169 ⟨Nat.le_of_ble_eq_true rfl, Nat.le_of_ble_eq_true rfl⟩) hw hA (fun v664 p663 H locs hp663 hw => ?_)
      obtain ⟨ma661, cf662, rfl, e665, e666, e667, e668, e669, e670, e671, e672, e673, e674, e675, e676, e677, e678, e679, e680⟩ := hp663
      have e665 : KpE cf cf662 := e665
      have hke := (hke).tr e665
      have hkz_e665 := e665.2
      have e666 : WrV cf662 (tf 6).toInt := e666
      have hwr := e666
      have hw0_e666 := hwr.1
      have e667 : (cf662 33).toInt = (cf 33).toInt := e667
      have e668 : (cf662 38).toInt = (cf 38).toInt := e668
      have e669 : (cf662 48).toInt = (cf 48).toInt := e669
      have e670 : (cf662 46).toInt = (cf 46).toInt := e670
      have e671 : (cf662 47).toInt = (cf 47).toInt := e671
      have e672 : (cf662 57).toInt = (cf 57).toInt := e672
      have e673 : Ann na ma0 ma661 := e673
      have han := e673
      have e674 : FrC lo p0.toInt ma ma661 := e674
      have hfc := hfc.tr e674 (by omega) (by omega)
      have e675 : 0 ≤ v664.toInt := e675
      have e676 : v664.toInt ≤ 4 := e676
      have e677 : NmJ ta ca na ma661 kn z658 v664.toInt := e677
      have hnm_z658 := e677
      have e678 : ZTy cf662 (Gk ta ca na ma0 ns ys nf) na ma661 lo p0.toInt z658 v664.toInt := e678
      have hzt_z658 := e678
      have e679 : ZNm cf662 (0 : Int) v664.toInt := e679
      have e680 : RL_mp_check d tf ta na ca z658 (0 : Int32) ma cf ma661 cf662 v664 := e680
      have hw : pw D A s.heap H locs [wdP cs h r g tf ta pf na ma661 wa cf662 ca ef ea xf xa] := hw
      have lv664 := Int32.le_toInt v664
      have uv664 := Int32.toInt_lt v664
      refine lv_istore (lv' := [(6, .int v664), (3, .int 1), (0, .ref h), (1, .int p0), (2, .int p1)]) S.x S.b d_Mpg_check_172 hl (by decide) rfl (fun ls hl => ?_)
      refine lv_aload_n S.x S.b d_Mpg_check_174 rfl (lv_at hl 2 rfl) ?_
      refine lv_aload_n S.x S.b d_Mpg_check_175 rfl (lv_at hl 2 rfl) ?_
      refine px_get S k_Mpg hT hw 0 0 17 (v := .ref (r 17)) rfl rfl rfl (by decide) m10_1 d_Mpg_check_176 ?_
      refine lv_iload_n S.x S.b d_Mpg_check_179 rfl (lv_at hl 3 rfl) ?_
      refine px_iald S hT hw 0 13 (n := 2100) (f := (na 17)) rfl gp_17 (x := p0) (vp_in_iff.mpr (by first | exact oz_a7e05de1cd hrg.2.2 hrg.2.1 g1 g2 | (constructor <;> omega))) d_Mpg_check_180 ?_
      refine lv_topi (fun z681 ez681 => ?_)
      have lz681 := Int32.le_toInt z681
      have uz681 := Int32.toInt_lt z681
      have hsz681 : z658 = z681 := ez658.trans ez681.symm; subst hsz681
      refine lv_iload S.x S.b d_Mpg_check_181 (lv_at hl 0 rfl) ?_
      refine px_callv (pr := []) (px_runV (As := [.int z658, .int v664]) (rest := []) S (c_mp_checkPlace l D cs ma0 ys ns nf kn d lo p0.toInt h r g tf ta pf na ma661 wa ca ef ea xf xa cf662 z658 v664  (show 0 ≤ lo from by first | exact g0 | omega) (show p0.toInt ≤ (pf 13).toInt from by first | exact oz_6996e0781a g1 hrg.2.1 | omega) (show (pf 13).toInt ≤ 2100 from by first | exact g2 | omega) (show (tf 6).toInt ≤ 2049 from by first | exact g3 | omega) (show (cf662 33).toInt = kn from by first | exact oz_1687f4cc65 g4 e667 | omega) (show 0 ≤ kn from by first | exact g5 | omega) (show (cf662 48).toInt = ns from by first | exact oz_1687f4cc65 g6 e669 | omega) (show (cf662 38).toInt = nf from by first | exact oz_1687f4cc65 g7 e668 | omega) (show 0 ≤ nf from by first | exact g8 | omega) (show 0 ≤ v664.toInt from by first | exact e675 | omega) (show v664.toInt ≤ 4 from by first | exact e676 | omega) htk (FsI.le (N' := (pf 13).toInt) hfs (by omega)) hwr (KnT.eq hkt (by omega)) (FnT.eq hft (by omega)) hks hec_z658 hnm_z658 _) hT (pr := []) (pcs := [wdP cs h r g tf ta pf na ma661 wa cf662 ca ef ea xf xa]) hw (oX_call (P := (fun A U H => (oP A g U H))) (pr := []) oG_P hw hA hP) (px_recv hT hw 0 0 rfl rfl rfl) m13_25 m13_22 m13_24 ms_13_3 m1_21 q_Mpg_checkPlace ⟨show 3 + 1 ≤ (4 * (d + 1) + 12) from (by first | exact oz_a751a4894f | omega), show 8 + (4 + 11) + 120 ≤ (200 * (d + 1) + 420) from (by first | exact oz_c781ee8ab2 | omega)⟩ hl.1 rfl (Nat.le_of_ble_eq_true rfl) d_Mpg_check_183 ⟨Nat.le_of_ble_eq_true rfl, Nat.le_of_ble_eq_true rfl⟩) hw hA (fun p684 H locs hp684 hw => ?_)
      obtain ⟨cf683, rfl, e686, e687, e688, e689, e690, e691, e692, e693, e694, e695⟩ := hp684
      have e686 : KpE cf662 cf683 := e686
      have hke := (hke).tr e686
      have hkz_e686 := e686.2
      have hzt_z658 := Zr.kp hzt_z658 e686 id
      have e687 : WrV cf683 (tf 6).toInt := e687
      have hwr := e687
      have hw0_e687 := hwr.1
      have e688 : (cf683 33).toInt = (cf662 33).toInt := e688
      have e689 : (cf683 38).toInt = (cf662 38).toInt := e689
      have e690 : (cf683 48).toInt = (cf662 48).toInt := e690
      have e691 : (cf683 46).toInt = (cf662 46).toInt := e691
      have e692 : (cf683 47).toInt = (cf662 47).toInt := e692
      have e693 : (cf683 57).toInt = (cf662 57).toInt := e693
      have e694 : ZPl cf683 na ma661 z658 v664.toInt := e694
      have hzpl_z658 := e694
      have e695 : R_mp_checkPlace ta na ca z658 v664 cf662 cf683 := e695
      have hw : pw D A s.heap H locs [wdP cs h r g tf ta pf na ma661 wa cf683 ca ef ea xf xa] := hw
      refine lv_goto (tgt := 301) S.x S.b d_Mpg_check_186 (by decide) ?_
      refine lv_iload_n S.x S.b d_Mpg_check_301 rfl (lv_at hl 4 rfl) ?_
      refine lv_if_eq (tgt := 328) S.x S.b d_Mpg_check_302 (by decide) (fun c696 => ?_) (fun c696 => ?_)
      · have nc696 : p1.toInt = (0 : Int) := (i_eq (x := p1) (y := 0)).mp c696
        refine lv_iload_n S.x S.b d_Mpg_check_328 rfl (lv_at hl 4 rfl) ?_
        refine lv_if_eq (tgt := 348) S.x S.b d_Mpg_check_329 (by decide) (fun c698 => ?_) (fun c698 => ?_)
        · have nc698 : p1.toInt = (0 : Int) := (i_eq (x := p1) (y := 0)).mp c698
          refine lv_iload_n S.x S.b d_Mpg_check_348 rfl (lv_at hl 1 rfl) ?_
          exact px_iret (v := 1) S hr rfl hlk hAe hw (Nat.le_of_ble_eq_true rfl) (Nat.le_of_ble_eq_true rfl) (⟨ma661, cf683, rfl, (show KpE cf cf683 from hke), (show WrV cf683 (tf 6).toInt from hwr), (show (cf683 33).toInt = (cf 33).toInt from by first | exact oz_1687f4cc65 e667 e688 | omega), (show (cf683 38).toInt = (cf 38).toInt from by first | exact oz_1687f4cc65 e668 e689 | omega), (show (cf683 48).toInt = (cf 48).toInt from by first | exact oz_1687f4cc65 e669 e690 | omega), (show (cf683 46).toInt = (cf 46).toInt from by first | exact oz_1687f4cc65 e670 e691 | omega), (show (cf683 47).toInt = (cf 47).toInt from by first | exact oz_1687f4cc65 e671 e692 | omega), (show (cf683 57).toInt = (cf 57).toInt from by first | exact oz_1687f4cc65 e672 e693 | omega), (show Ann na ma0 ma661 from han), (show FrC lo hi ma ma661 from hfc), (show 0 ≤ (1 : Int) from by first | exact oz_19c3a41681 | omega), (show (1 : Int) ≤ 4 from by first | exact oz_39f46dc397 | omega), (show NmJ ta ca na ma661 kn p0 (1 : Int) from (fun h => absurd h (by omega))), (show ZTy cf683 (Gk ta ca na ma0 ns ys nf) na ma661 lo hi p0 (1 : Int) from (fun zz => Or.inr ⟨by omega, ty_6 hrg (by omega) ez658 ((ZTy.pl hzt_z658 hzpl_z658 zz).le (by omega) (by omega)) (hzpl_z658 zz) (ZTy.n0 hzt_z658 zz)⟩)), (show ZNm cf683 p1.toInt (1 : Int) from (zty_num (G := (Gk ta ca na ma0 ns ys nf)) (na := na) (ma := ma661) (lo := lo) (hi := hi) (n := p0) (fun zz => Or.inr ⟨by omega, ty_6 hrg (by omega) ez658 ((ZTy.pl hzt_z658 hzpl_z658 zz).le (by omega) (by omega)) (hzpl_z658 zz) (ZTy.n0 hzt_z658 zz)⟩) (by omega))), (show R_mp_check (RL_mp_check d) tf ta na ca p0 p1 ma cf ma661 cf683 (1 : Int32) from (Exists.intro 1 (Or.inl ⟨rfl, z149, ez149, Or.inr (Or.inr (Or.inr (Or.inr (Or.inr (Or.inr (Or.inl ⟨c222, z658, ez658, ma661, cf662, v664, e680, z658, ez681, cf683, e695, Or.inl ⟨nc696, Or.inl ⟨nc698, rfl, rfl, rfl⟩⟩⟩))))))⟩)))⟩) d_Mpg_check_349
        · have nc698 : ¬ p1.toInt = (0 : Int) := mt (i_eq (x := p1) (y := 0)).mpr c698
          refine lv_iload_n S.x S.b d_Mpg_check_332 rfl (lv_at hl 1 rfl) ?_
          refine lv_iconst (v := 4) S.x S.b d_Mpg_check_333 (by decide) ?_
          refine lv_icmp_ne (tgt := 348) S.x S.b d_Mpg_check_334 (by decide) (fun c700 => ?_) (fun c700 => ?_)
          ·
            refine lv_iload_n S.x S.b d_Mpg_check_348 rfl (lv_at hl 1 rfl) ?_
            exact px_iret (v := 1) S hr rfl hlk hAe hw (Nat.le_of_ble_eq_true rfl) (Nat.le_of_ble_eq_true rfl) (⟨ma661, cf683, rfl, (show KpE cf cf683 from hke), (show WrV cf683 (tf 6).toInt from hwr), (show (cf683 33).toInt = (cf 33).toInt from by first | exact oz_1687f4cc65 e667 e688 | omega), (show (cf683 38).toInt = (cf 38).toInt from by first | exact oz_1687f4cc65 e668 e689 | omega), (show (cf683 48).toInt = (cf 48).toInt from by first | exact oz_1687f4cc65 e669 e690 | omega), (show (cf683 46).toInt = (cf 46).toInt from by first | exact oz_1687f4cc65 e670 e691 | omega), (show (cf683 47).toInt = (cf 47).toInt from by first | exact oz_1687f4cc65 e671 e692 | omega), (show (cf683 57).toInt = (cf 57).toInt from by first | exact oz_1687f4cc65 e672 e693 | omega), (show Ann na ma0 ma661 from han), (show FrC lo hi ma ma661 from hfc), (show 0 ≤ (1 : Int) from by first | exact oz_19c3a41681 | omega), (show (1 : Int) ≤ 4 from by first | exact oz_39f46dc397 | omega), (show NmJ ta ca na ma661 kn p0 (1 : Int) from (fun h => absurd h (by omega))), (show ZTy cf683 (Gk ta ca na ma0 ns ys nf) na ma661 lo hi p0 (1 : Int) from (fun zz => Or.inr ⟨by omega, ty_6 hrg (by omega) ez658 ((ZTy.pl hzt_z658 hzpl_z658 zz).le (by omega) (by omega)) (hzpl_z658 zz) (ZTy.n0 hzt_z658 zz)⟩)), (show ZNm cf683 p1.toInt (1 : Int) from (zty_num (G := (Gk ta ca na ma0 ns ys nf)) (na := na) (ma := ma661) (lo := lo) (hi := hi) (n := p0) (fun zz => Or.inr ⟨by omega, ty_6 hrg (by omega) ez658 ((ZTy.pl hzt_z658 hzpl_z658 zz).le (by omega) (by omega)) (hzpl_z658 zz) (ZTy.n0 hzt_z658 zz)⟩) (by omega))), (show R_mp_check (RL_mp_check d) tf ta na ca p0 p1 ma cf ma661 cf683 (1 : Int32) from (Exists.intro 1 (Or.inl ⟨rfl, z149, ez149, Or.inr (Or.inr (Or.inr (Or.inr (Or.inr (Or.inr (Or.inl ⟨c222, z658, ez658, ma661, cf662, v664, e680, z658, ez681, cf683, e695, Or.inl ⟨nc696, Or.inr ⟨nc698, rfl, rfl, rfl⟩⟩⟩))))))⟩)))⟩) d_Mpg_check_349
          · exact absurd c700 (by decide)
      · have nc696 : ¬ p1.toInt = (0 : Int) := mt (i_eq (x := p1) (y := 0)).mpr c696
        refine lv_iload_n S.x S.b d_Mpg_check_305 rfl (lv_at hl 1 rfl) ?_
        refine lv_iconst (v := 2) S.x S.b d_Mpg_check_306 (by decide) ?_
        refine lv_icmp_eq (tgt := 315) S.x S.b d_Mpg_check_307 (by decide) (fun c701 => ?_) (fun c701 => ?_)
        · exact absurd c701 (by decide)
        ·
          refine lv_iload_n S.x S.b d_Mpg_check_310 rfl (lv_at hl 1 rfl) ?_
          refine lv_iconst (v := 3) S.x S.b d_Mpg_check_311 (by decide) ?_
          refine lv_icmp_ne (tgt := 328) S.x S.b d_Mpg_check_312 (by decide) (fun c702 => ?_) (fun c702 => ?_)
          ·
            refine lv_iload_n S.x S.b d_Mpg_check_328 rfl (lv_at hl 4 rfl) ?_
            refine lv_if_eq (tgt := 348) S.x S.b d_Mpg_check_329 (by decide) (fun c703 => ?_) (fun c703 => ?_)
            · have nc703 : p1.toInt = (0 : Int) := (i_eq (x := p1) (y := 0)).mp c703
              refine lv_iload_n S.x S.b d_Mpg_check_348 rfl (lv_at hl 1 rfl) ?_
              exact px_iret (v := 1) S hr rfl hlk hAe hw (Nat.le_of_ble_eq_true rfl) (Nat.le_of_ble_eq_true rfl) (⟨ma661, cf683, rfl, (show KpE cf cf683 from hke), (show WrV cf683 (tf 6).toInt from hwr), (show (cf683 33).toInt = (cf 33).toInt from by first | exact oz_1687f4cc65 e667 e688 | omega), (show (cf683 38).toInt = (cf 38).toInt from by first | exact oz_1687f4cc65 e668 e689 | omega), (show (cf683 48).toInt = (cf 48).toInt from by first | exact oz_1687f4cc65 e669 e690 | omega), (show (cf683 46).toInt = (cf 46).toInt from by first | exact oz_1687f4cc65 e670 e691 | omega), (show (cf683 47).toInt = (cf 47).toInt from by first | exact oz_1687f4cc65 e671 e692 | omega), (show (cf683 57).toInt = (cf 57).toInt from by first | exact oz_1687f4cc65 e672 e693 | omega), (show Ann na ma0 ma661 from han), (show FrC lo hi ma ma661 from hfc), (show 0 ≤ (1 : Int) from by first | exact oz_19c3a41681 | omega), (show (1 : Int) ≤ 4 from by first | exact oz_39f46dc397 | omega), (show NmJ ta ca na ma661 kn p0 (1 : Int) from (fun h => absurd h (by omega))), (show ZTy cf683 (Gk ta ca na ma0 ns ys nf) na ma661 lo hi p0 (1 : Int) from (fun zz => Or.inr ⟨by omega, ty_6 hrg (by omega) ez658 ((ZTy.pl hzt_z658 hzpl_z658 zz).le (by omega) (by omega)) (hzpl_z658 zz) (ZTy.n0 hzt_z658 zz)⟩)), (show ZNm cf683 p1.toInt (1 : Int) from (zty_num (G := (Gk ta ca na ma0 ns ys nf)) (na := na) (ma := ma661) (lo := lo) (hi := hi) (n := p0) (fun zz => Or.inr ⟨by omega, ty_6 hrg (by omega) ez658 ((ZTy.pl hzt_z658 hzpl_z658 zz).le (by omega) (by omega)) (hzpl_z658 zz) (ZTy.n0 hzt_z658 zz)⟩) (by omega))), (show R_mp_check (RL_mp_check d) tf ta na ca p0 p1 ma cf ma661 cf683 (1 : Int32) from (Exists.intro 1 (Or.inl ⟨rfl, z149, ez149, Or.inr (Or.inr (Or.inr (Or.inr (Or.inr (Or.inr (Or.inl ⟨c222, z658, ez658, ma661, cf662, v664, e680, z658, ez681, cf683, e695, Or.inr ⟨nc696, Or.inl ⟨nc703, rfl, rfl, rfl⟩⟩⟩))))))⟩)))⟩) d_Mpg_check_349
            · have nc703 : ¬ p1.toInt = (0 : Int) := mt (i_eq (x := p1) (y := 0)).mpr c703
              refine lv_iload_n S.x S.b d_Mpg_check_332 rfl (lv_at hl 1 rfl) ?_
              refine lv_iconst (v := 4) S.x S.b d_Mpg_check_333 (by decide) ?_
              refine lv_icmp_ne (tgt := 348) S.x S.b d_Mpg_check_334 (by decide) (fun c705 => ?_) (fun c705 => ?_)
              ·
                refine lv_iload_n S.x S.b d_Mpg_check_348 rfl (lv_at hl 1 rfl) ?_
                exact px_iret (v := 1) S hr rfl hlk hAe hw (Nat.le_of_ble_eq_true rfl) (Nat.le_of_ble_eq_true rfl) (⟨ma661, cf683, rfl, (show KpE cf cf683 from hke), (show WrV cf683 (tf 6).toInt from hwr), (show (cf683 33).toInt = (cf 33).toInt from by first | exact oz_1687f4cc65 e667 e688 | omega), (show (cf683 38).toInt = (cf 38).toInt from by first | exact oz_1687f4cc65 e668 e689 | omega), (show (cf683 48).toInt = (cf 48).toInt from by first | exact oz_1687f4cc65 e669 e690 | omega), (show (cf683 46).toInt = (cf 46).toInt from by first | exact oz_1687f4cc65 e670 e691 | omega), (show (cf683 47).toInt = (cf 47).toInt from by first | exact oz_1687f4cc65 e671 e692 | omega), (show (cf683 57).toInt = (cf 57).toInt from by first | exact oz_1687f4cc65 e672 e693 | omega), (show Ann na ma0 ma661 from han), (show FrC lo hi ma ma661 from hfc), (show 0 ≤ (1 : Int) from by first | exact oz_19c3a41681 | omega), (show (1 : Int) ≤ 4 from by first | exact oz_39f46dc397 | omega), (show NmJ ta ca na ma661 kn p0 (1 : Int) from (fun h => absurd h (by omega))), (show ZTy cf683 (Gk ta ca na ma0 ns ys nf) na ma661 lo hi p0 (1 : Int) from (fun zz => Or.inr ⟨by omega, ty_6 hrg (by omega) ez658 ((ZTy.pl hzt_z658 hzpl_z658 zz).le (by omega) (by omega)) (hzpl_z658 zz) (ZTy.n0 hzt_z658 zz)⟩)), (show ZNm cf683 p1.toInt (1 : Int) from (zty_num (G := (Gk ta ca na ma0 ns ys nf)) (na := na) (ma := ma661) (lo := lo) (hi := hi) (n := p0) (fun zz => Or.inr ⟨by omega, ty_6 hrg (by omega) ez658 ((ZTy.pl hzt_z658 hzpl_z658 zz).le (by omega) (by omega)) (hzpl_z658 zz) (ZTy.n0 hzt_z658 zz)⟩) (by omega))), (show R_mp_check (RL_mp_check d) tf ta na ca p0 p1 ma cf ma661 cf683 (1 : Int32) from (Exists.intro 1 (Or.inl ⟨rfl, z149, ez149, Or.inr (Or.inr (Or.inr (Or.inr (Or.inr (Or.inr (Or.inl ⟨c222, z658, ez658, ma661, cf662, v664, e680, z658, ez681, cf683, e695, Or.inr ⟨nc696, Or.inr ⟨nc703, rfl, rfl, rfl⟩⟩⟩))))))⟩)))⟩) d_Mpg_check_349
              · exact absurd c705 (by decide)
          · exact absurd c702 (by decide)
    · simp only [List.mem_cons, List.not_mem_nil, or_false] at c222
      refine lv_aload_n S.x S.b d_Mpg_check_189 rfl (lv_at hl 1 rfl) ?_
      refine px_get S k_Mpg hT hw 0 0 17 (v := .ref (r 17)) rfl rfl rfl (by decide) m10_1 d_Mpg_check_190 ?_
      refine lv_iload_n S.x S.b d_Mpg_check_193 rfl (lv_at hl 2 rfl) ?_
      refine px_iald S hT hw 0 13 (n := 2100) (f := (na 17)) rfl gp_17 (x := p0) (vp_in_iff.mpr (by first | exact oz_a7e05de1cd hrg.2.2 hrg.2.1 g1 g2 | (constructor <;> omega))) d_Mpg_check_194 ?_
      refine lv_topi (fun z706 ez706 => ?_)
      have lz706 := Int32.le_toInt z706
      have uz706 := Int32.toInt_lt z706
      have hrr := EcV.k7 hec_p0 (by omega) ez706
      refine lv_istore (lv' := [(7, .int z706), (3, .int 1), (0, .ref h), (1, .int p0), (2, .int p1)]) S.x S.b d_Mpg_check_195 hl (by decide) rfl (fun ls hl => ?_)
      exact J197 ((hi - lo).toNat + 1) ma cf lo (1 : Int32) z706 _ _ ls (show KpE cf cf from hke) (show WrV cf (tf 6).toInt from hwr) (show (cf 33).toInt = (cf 33).toInt from rfl) (show (cf 38).toInt = (cf 38).toInt from rfl) (show (cf 48).toInt = (cf 48).toInt from rfl) (show (cf 46).toInt = (cf 46).toInt from rfl) (show (cf 47).toInt = (cf 47).toInt from rfl) (show (cf 57).toInt = (cf 57).toInt from rfl) (show Ann na ma0 ma from han) (show FrC lo hi ma ma from hfc) (show (1 : Int) = 1 from by first | exact oz_1285e5f113 | omega) (show lo ≤ lo from by first | exact oz_1cb5f934a5 | omega) (show lo ≤ hi from by first | exact oz_dec8fc8b31 hrg.1 hrg.2.1 | omega) (show (na 14 p0.toNatClampNeg).toInt = 7 from by omega) (show RcN ta (tf 6).toInt na ma0 d p0 lo hi z706 from hrr) (show ZTr cf (Gk ta ca na ma0 ns ys nf) na ma lo lo (na 17 p0.toNatClampNeg) z706 from (fun _ => by rw [← ez706]; exact tyr_0)) (show K_mp_check_197 (RL_mp_check d) tf ta na ca p0 p1 ma cf ma cf 1 z706 from (fun y_f0 y_f1 y_v k hE => Exists.intro (k + 1) (Or.inl ⟨rfl, z149, ez149, Or.inr (Or.inr (Or.inr (Or.inr (Or.inr (Or.inr (Or.inr (Or.inl ⟨c222, z706, ez706, hE⟩)))))))⟩))) (show hi - lo < ((((hi - lo).toNat + 1 : Nat) : Int) : Int) from by first | exact oz_natlt | omega) hw (lv_sub hl [2, 3, 4, 1, 0] rfl)
    · simp only [List.mem_cons, List.not_mem_nil, or_false] at c222
      refine lv_aload_n S.x S.b d_Mpg_check_225 rfl (lv_at hl 1 rfl) ?_
      refine lv_aload_n S.x S.b d_Mpg_check_226 rfl (lv_at hl 1 rfl) ?_
      refine px_get S k_Mpg hT hw 0 0 17 (v := .ref (r 17)) rfl rfl rfl (by decide) m10_1 d_Mpg_check_227 ?_
      refine lv_iload_n S.x S.b d_Mpg_check_230 rfl (lv_at hl 2 rfl) ?_
      refine px_iald S hT hw 0 13 (n := 2100) (f := (na 17)) rfl gp_17 (x := p0) (vp_in_iff.mpr (by first | exact oz_a7e05de1cd hrg.2.2 hrg.2.1 g1 g2 | (constructor <;> omega))) d_Mpg_check_231 ?_
      refine lv_topi (fun z707 ez707 => ?_)
      have lz707 := Int32.le_toInt z707
      have uz707 := Int32.toInt_lt z707
      obtain ⟨m1, m2, hm1, hm2, hec_z707, hec_y8, hec_x8⟩ := EcV.k8 hec_p0 (by omega) ez707 rfl rfl; have hrg_z707 := EcV.rng hec_z707; have hrg_y8 := EcV.rng hec_y8; have hrg_x8 := EcV.rng hec_x8
      refine lv_iconst (v := 1) S.x S.b d_Mpg_check_232 (by decide) ?_
      refine px_calli (pr := []) (px_runV (As := [.int z707, .int 1]) (rest := []) S (hLC ma0 ys ns nf kn lo m1 h r g tf ta pf na wa ca ef ea xf xa ma cf z707 1 (show 0 ≤ lo from by first | exact g0 | omega) (show m1 ≤ (pf 13).toInt from by first | exact oz_0ba3c94183 g1 hrg_y8.1 hrg.2.1 hm2 hrg_y8.2.1 | omega) (show (pf 13).toInt ≤ 2100 from by first | exact g2 | omega) (show (tf 6).toInt ≤ 2049 from by first | exact g3 | omega) (show (cf 33).toInt = kn from by first | exact g4 | omega) (show 0 ≤ kn from by first | exact g5 | omega) (show (cf 48).toInt = ns from by first | exact g6 | omega) (show (cf 38).toInt = nf from by first | exact g7 | omega) (show 0 ≤ nf from by first | exact g8 | omega) (show 0 ≤ (1 : Int) from by first | exact oz_19c3a41681 | omega) (show (1 : Int) ≤ 1 from by first | exact oz_f9181dc4bb | omega) htk (FsI.le (N' := (pf 13).toInt) hfs (by omega)) hwr (KnT.eq hkt (by omega)) (FnT.eq hft (by omega)) hks hfp han hec_z707 _) hT (pr := []) (pcs := [wdP cs h r g tf ta pf na ma wa cf ca ef ea xf xa]) hw (oX_call (P := (fun A U H => (oP A g U H))) (pr := []) oG_P hw hA hP) (px_recv hT hw 0 0 rfl rfl rfl) m12_217 m12_214 m12_216 ms_12_7 m1_21 q_Mpg_check ⟨show (4 * d + 12) + 1 ≤ (4 * (d + 1) + 12) from (by first | exact oz_6ef785d99b | omega), show 8 + (8 + 11) + (200 * d + 420) ≤ (200 * (d + 1) + 420) from (by first | exact oz_3a4e9491aa | omega)⟩ hl.1 rfl (Nat.le_of_ble_eq_true rfl) d_Mpg_check_233 ⟨Nat.le_of_ble_eq_true rfl, Nat.le_of_ble_eq_true rfl⟩) hw hA (fun v713 p712 H locs hp712 hw => ?_)
      obtain ⟨ma710, cf711, rfl, e714, e715, e716, e717, e718, e719, e720, e721, e722, e723, e724, e725, e726, e727, e728, e729⟩ := hp712
      have e714 : KpE cf cf711 := e714
      have hke := (hke).tr e714
      have hkz_e714 := e714.2
      have e715 : WrV cf711 (tf 6).toInt := e715
      have hwr := e715
      have hw0_e715 := hwr.1
      have e716 : (cf711 33).toInt = (cf 33).toInt := e716
      have e717 : (cf711 38).toInt = (cf 38).toInt := e717
      have e718 : (cf711 48).toInt = (cf 48).toInt := e718
      have e719 : (cf711 46).toInt = (cf 46).toInt := e719
      have e720 : (cf711 47).toInt = (cf 47).toInt := e720
      have e721 : (cf711 57).toInt = (cf 57).toInt := e721
      have e722 : Ann na ma0 ma710 := e722
      have han := e722
      have e723 : FrC lo m1 ma ma710 := e723
      have hfc := hfc.tr e723 (by omega) (by omega)
      have e724 : 0 ≤ v713.toInt := e724
      have e725 : v713.toInt ≤ 4 := e725
      have e726 : NmJ ta ca na ma710 kn z707 v713.toInt := e726
      have hnm_z707 := e726
      have e727 : ZTy cf711 (Gk ta ca na ma0 ns ys nf) na ma710 lo m1 z707 v713.toInt := e727
      have hzt_z707 := e727
      have e728 : ZNm cf711 (1 : Int) v713.toInt := e728
      have hty_z707 := ZTy.num hzt_z707 e728
      have e729 : RL_mp_check d tf ta na ca z707 (1 : Int32) ma cf ma710 cf711 v713 := e729
      have hw : pw D A s.heap H locs [wdP cs h r g tf ta pf na ma710 wa cf711 ca ef ea xf xa] := hw
      have lv713 := Int32.le_toInt v713
      have uv713 := Int32.toInt_lt v713
      refine lv_pop S.x S.b d_Mpg_check_236 rfl ?_
      refine lv_aload_n S.x S.b d_Mpg_check_237 rfl (lv_at hl 1 rfl) ?_
      refine lv_aload_n S.x S.b d_Mpg_check_238 rfl (lv_at hl 1 rfl) ?_
      refine px_get S k_Mpg hT hw 0 0 18 (v := .ref (r 18)) rfl rfl rfl (by decide) m10_3 d_Mpg_check_239 ?_
      refine lv_iload_n S.x S.b d_Mpg_check_242 rfl (lv_at hl 2 rfl) ?_
      refine px_iald S hT hw 0 14 (n := 2100) (f := (ma710 18)) rfl gp_18 (x := p0) (vp_in_iff.mpr (by first | exact oz_18f227bc52 hrg_x8.2.1 hrg_x8.2.2 hrg.2.1 g1 g2 | (constructor <;> omega))) d_Mpg_check_243 ?_
      refine lv_topi (fun z730 ez730 => ?_)
      have lz730 := Int32.le_toInt z730
      have uz730 := Int32.toInt_lt z730
      have ha_z730 : z730 = ma0 18 p0.toNatClampNeg := ez730.trans (Ann.b18 han (by omega)); have hec_z730 : EcV ta (tf 6).toInt na ma0 d m1 m2 z730 := (by rw [ha_z730]; exact hec_y8)
      refine lv_iconst (v := 1) S.x S.b d_Mpg_check_244 (by decide) ?_
      refine px_calli (pr := []) (px_runV (As := [.int z730, .int 1]) (rest := []) S (hLC ma0 ys ns nf kn m1 m2 h r g tf ta pf na wa ca ef ea xf xa ma710 cf711 z730 1 (show 0 ≤ m1 from by first | exact oz_0a7da9c4d6 hrg_z707.2.1 hrg_z707.2.2 | omega) (show m2 ≤ (pf 13).toInt from by first | exact oz_dc2da80b19 g1 hrg_x8.1 hrg.2.1 hrg_x8.2.1 | omega) (show (pf 13).toInt ≤ 2100 from by first | exact g2 | omega) (show (tf 6).toInt ≤ 2049 from by first | exact g3 | omega) (show (cf711 33).toInt = kn from by first | exact oz_1687f4cc65 g4 e716 | omega) (show 0 ≤ kn from by first | exact g5 | omega) (show (cf711 48).toInt = ns from by first | exact oz_1687f4cc65 g6 e718 | omega) (show (cf711 38).toInt = nf from by first | exact oz_1687f4cc65 g7 e717 | omega) (show 0 ≤ nf from by first | exact g8 | omega) (show 0 ≤ (1 : Int) from by first | exact oz_19c3a41681 | omega) (show (1 : Int) ≤ 1 from by first | exact oz_f9181dc4bb | omega) htk (FsI.le (N' := (pf 13).toInt) hfs (by omega)) hwr (KnT.eq hkt (by omega)) (FnT.eq hft (by omega)) hks hfp han hec_z730 _) hT (pr := []) (pcs := [wdP cs h r g tf ta pf na ma710 wa cf711 ca ef ea xf xa]) hw (oX_call (P := (fun A U H => (oP A g U H))) (pr := []) oG_P hw hA hP) (px_recv hT hw 0 0 rfl rfl rfl) m12_217 m12_214 m12_216 ms_12_7 m1_21 q_Mpg_check ⟨show (4 * d + 12) + 1 ≤ (4 * (d + 1) + 12) from (by first | exact oz_6ef785d99b | omega), show 8 + (8 + 11) + (200 * d + 420) ≤ (200 * (d + 1) + 420) from (by first | exact oz_3a4e9491aa | omega)⟩ hl.1 rfl (Nat.le_of_ble_eq_true rfl) d_Mpg_check_245 ⟨Nat.le_of_ble_eq_true rfl, Nat.le_of_ble_eq_true rfl⟩) hw hA (fun v736 p735 H locs hp735 hw => ?_)
      obtain ⟨ma733, cf734, rfl, e737, e738, e739, e740, e741, e742, e743, e744, e745, e746, e747, e748, e749, e750, e751, e752⟩ := hp735
      have e737 : KpE cf711 cf734 := e737
      have hke := (hke).tr e737
      have hkz_e737 := e737.2
      have e738 : WrV cf734 (tf 6).toInt := e738
      have hwr := e738
      have hw0_e738 := hwr.1
      have e739 : (cf734 33).toInt = (cf711 33).toInt := e739
      have e740 : (cf734 38).toInt = (cf711 38).toInt := e740
      have e741 : (cf734 48).toInt = (cf711 48).toInt := e741
      have e742 : (cf734 46).toInt = (cf711 46).toInt := e742
      have e743 : (cf734 47).toInt = (cf711 47).toInt := e743
      have e744 : (cf734 57).toInt = (cf711 57).toInt := e744
      have e745 : Ann na ma0 ma733 := e745
      have han := e745
      have e746 : FrC m1 m2 ma710 ma733 := e746
      have hfc := hfc.tr e746 (by omega) (by omega)
      have hty_z707 := zte_tr hty_z707 e737 e746 (by omega)
      have e747 : 0 ≤ v736.toInt := e747
      have e748 : v736.toInt ≤ 4 := e748
      have e749 : NmJ ta ca na ma733 kn z730 v736.toInt := e749
      have hnm_z730 := e749
      have e750 : ZTy cf734 (Gk ta ca na ma0 ns ys nf) na ma733 m1 m2 z730 v736.toInt := e750
      have hzt_z730 := e750
      have e751 : ZNm cf734 (1 : Int) v736.toInt := e751
      have hty_z730 := ZTy.num hzt_z730 e751
      have e752 : RL_mp_check d tf ta na ca z730 (1 : Int32) ma710 cf711 ma733 cf734 v736 := e752
      have hw : pw D A s.heap H locs [wdP cs h r g tf ta pf na ma733 wa cf734 ca ef ea xf xa] := hw
      have lv736 := Int32.le_toInt v736
      have uv736 := Int32.toInt_lt v736
      refine lv_pop S.x S.b d_Mpg_check_248 rfl ?_
      refine lv_aload_n S.x S.b d_Mpg_check_249 rfl (lv_at hl 1 rfl) ?_
      refine lv_aload_n S.x S.b d_Mpg_check_250 rfl (lv_at hl 1 rfl) ?_
      refine px_get S k_Mpg hT hw 0 0 19 (v := .ref (r 19)) rfl rfl rfl (by decide) m10_5 d_Mpg_check_251 ?_
      refine lv_iload_n S.x S.b d_Mpg_check_254 rfl (lv_at hl 2 rfl) ?_
      refine px_iald S hT hw 0 15 (n := 2100) (f := (ma733 19)) rfl gp_19 (x := p0) (vp_in_iff.mpr (by first | exact oz_18f227bc52 hrg_x8.2.1 hrg_x8.2.2 hrg.2.1 g1 g2 | (constructor <;> omega))) d_Mpg_check_255 ?_
      refine lv_topi (fun z753 ez753 => ?_)
      have lz753 := Int32.le_toInt z753
      have uz753 := Int32.toInt_lt z753
      have ha_z753 : z753 = ma0 19 p0.toNatClampNeg := ez753.trans (Ann.b19 han (by omega)); have hec_z753 : EcV ta (tf 6).toInt na ma0 d m2 p0.toInt z753 := (by rw [ha_z753]; exact hec_x8)
      refine lv_iconst (v := 1) S.x S.b d_Mpg_check_256 (by decide) ?_
      refine px_calli (pr := []) (px_runV (As := [.int z753, .int 1]) (rest := []) S (hLC ma0 ys ns nf kn m2 p0.toInt h r g tf ta pf na wa ca ef ea xf xa ma733 cf734 z753 1 (show 0 ≤ m2 from by first | exact oz_0a7da9c4d6 hrg_y8.2.1 hrg_y8.2.2 | omega) (show p0.toInt ≤ (pf 13).toInt from by first | exact oz_6996e0781a g1 hrg.2.1 | omega) (show (pf 13).toInt ≤ 2100 from by first | exact g2 | omega) (show (tf 6).toInt ≤ 2049 from by first | exact g3 | omega) (show (cf734 33).toInt = kn from by first | exact oz_e13fc83238 g4 e739 e716 | omega) (show 0 ≤ kn from by first | exact g5 | omega) (show (cf734 48).toInt = ns from by first | exact oz_e13fc83238 g6 e741 e718 | omega) (show (cf734 38).toInt = nf from by first | exact oz_e13fc83238 g7 e740 e717 | omega) (show 0 ≤ nf from by first | exact g8 | omega) (show 0 ≤ (1 : Int) from by first | exact oz_19c3a41681 | omega) (show (1 : Int) ≤ 1 from by first | exact oz_f9181dc4bb | omega) htk (FsI.le (N' := (pf 13).toInt) hfs (by omega)) hwr (KnT.eq hkt (by omega)) (FnT.eq hft (by omega)) hks hfp han hec_z753 _) hT (pr := []) (pcs := [wdP cs h r g tf ta pf na ma733 wa cf734 ca ef ea xf xa]) hw (oX_call (P := (fun A U H => (oP A g U H))) (pr := []) oG_P hw hA hP) (px_recv hT hw 0 0 rfl rfl rfl) m12_217 m12_214 m12_216 ms_12_7 m1_21 q_Mpg_check ⟨show (4 * d + 12) + 1 ≤ (4 * (d + 1) + 12) from (by first | exact oz_6ef785d99b | omega), show 8 + (8 + 11) + (200 * d + 420) ≤ (200 * (d + 1) + 420) from (by first | exact oz_3a4e9491aa | omega)⟩ hl.1 rfl (Nat.le_of_ble_eq_true rfl) d_Mpg_check_257 ⟨Nat.le_of_ble_eq_true rfl, Nat.le_of_ble_eq_true rfl⟩) hw hA (fun v759 p758 H locs hp758 hw => ?_)
      obtain ⟨ma756, cf757, rfl, e760, e761, e762, e763, e764, e765, e766, e767, e768, e769, e770, e771, e772, e773, e774, e775⟩ := hp758
      have e760 : KpE cf734 cf757 := e760
      have hke := (hke).tr e760
      have hkz_e760 := e760.2
      have e761 : WrV cf757 (tf 6).toInt := e761
      have hwr := e761
      have hw0_e761 := hwr.1
      have e762 : (cf757 33).toInt = (cf734 33).toInt := e762
      have e763 : (cf757 38).toInt = (cf734 38).toInt := e763
      have e764 : (cf757 48).toInt = (cf734 48).toInt := e764
      have e765 : (cf757 46).toInt = (cf734 46).toInt := e765
      have e766 : (cf757 47).toInt = (cf734 47).toInt := e766
      have e767 : (cf757 57).toInt = (cf734 57).toInt := e767
      have e768 : Ann na ma0 ma756 := e768
      have han := e768
      have e769 : FrC m2 p0.toInt ma733 ma756 := e769
      have hfc := hfc.tr e769 (by omega) (by omega)
      have hty_z707 := zte_tr hty_z707 e760 e769 (by omega)
      have hty_z730 := zte_tr hty_z730 e760 e769 (by omega)
      have e770 : 0 ≤ v759.toInt := e770
      have e771 : v759.toInt ≤ 4 := e771
      have e772 : NmJ ta ca na ma756 kn z753 v759.toInt := e772
      have hnm_z753 := e772
      have e773 : ZTy cf757 (Gk ta ca na ma0 ns ys nf) na ma756 m2 p0.toInt z753 v759.toInt := e773
      have hzt_z753 := e773
      have e774 : ZNm cf757 (1 : Int) v759.toInt := e774
      have hty_z753 := ZTy.num hzt_z753 e774
      have e775 : RL_mp_check d tf ta na ca z753 (1 : Int32) ma733 cf734 ma756 cf757 v759 := e775
      have hw : pw D A s.heap H locs [wdP cs h r g tf ta pf na ma756 wa cf757 ca ef ea xf xa] := hw
      have lv759 := Int32.le_toInt v759
      have uv759 := Int32.toInt_lt v759
      refine lv_pop S.x S.b d_Mpg_check_260 rfl ?_
      refine lv_goto (tgt := 301) S.x S.b d_Mpg_check_261 (by decide) ?_
      refine lv_iload_n S.x S.b d_Mpg_check_301 rfl (lv_at hl 3 rfl) ?_
      refine lv_if_eq (tgt := 328) S.x S.b d_Mpg_check_302 (by decide) (fun c776 => ?_) (fun c776 => ?_)
      · have nc776 : p1.toInt = (0 : Int) := (i_eq (x := p1) (y := 0)).mp c776
        refine lv_iload_n S.x S.b d_Mpg_check_328 rfl (lv_at hl 3 rfl) ?_
        refine lv_if_eq (tgt := 348) S.x S.b d_Mpg_check_329 (by decide) (fun c778 => ?_) (fun c778 => ?_)
        · have nc778 : p1.toInt = (0 : Int) := (i_eq (x := p1) (y := 0)).mp c778
          refine lv_iload_n S.x S.b d_Mpg_check_348 rfl (lv_at hl 0 rfl) ?_
          exact px_iret (v := 1) S hr rfl hlk hAe hw (Nat.le_of_ble_eq_true rfl) (Nat.le_of_ble_eq_true rfl) (⟨ma756, cf757, rfl, (show KpE cf cf757 from hke), (show WrV cf757 (tf 6).toInt from hwr), (show (cf757 33).toInt = (cf 33).toInt from by first | exact oz_e13fc83238 e716 e762 e739 | omega), (show (cf757 38).toInt = (cf 38).toInt from by first | exact oz_e13fc83238 e717 e763 e740 | omega), (show (cf757 48).toInt = (cf 48).toInt from by first | exact oz_e13fc83238 e718 e764 e741 | omega), (show (cf757 46).toInt = (cf 46).toInt from by first | exact oz_e13fc83238 e719 e765 e742 | omega), (show (cf757 47).toInt = (cf 47).toInt from by first | exact oz_e13fc83238 e720 e766 e743 | omega), (show (cf757 57).toInt = (cf 57).toInt from by first | exact oz_e13fc83238 e721 e767 e744 | omega), (show Ann na ma0 ma756 from han), (show FrC lo hi ma ma756 from hfc), (show 0 ≤ (1 : Int) from by first | exact oz_19c3a41681 | omega), (show (1 : Int) ≤ 4 from by first | exact oz_39f46dc397 | omega), (show NmJ ta ca na ma756 kn p0 (1 : Int) from (fun h => absurd h (by omega))), (show ZTy cf757 (Gk ta ca na ma0 ns ys nf) na ma756 lo hi p0 (1 : Int) from (fun zz => Or.inr ⟨by omega, ty_8 hrg (by omega) ez707 (ha_z730.trans (Ann.b18 han (by omega)).symm) (ha_z753.trans (Ann.b19 han (by omega)).symm) ((hty_z707 zz).le (by omega) (by omega)) ((hty_z730 zz).le (by omega) (by omega)) ((hty_z753 zz).le (by omega) (by omega))⟩)), (show ZNm cf757 p1.toInt (1 : Int) from (zty_num (G := (Gk ta ca na ma0 ns ys nf)) (na := na) (ma := ma756) (lo := lo) (hi := hi) (n := p0) (fun zz => Or.inr ⟨by omega, ty_8 hrg (by omega) ez707 (ha_z730.trans (Ann.b18 han (by omega)).symm) (ha_z753.trans (Ann.b19 han (by omega)).symm) ((hty_z707 zz).le (by omega) (by omega)) ((hty_z730 zz).le (by omega) (by omega)) ((hty_z753 zz).le (by omega) (by omega))⟩) (by omega))), (show R_mp_check (RL_mp_check d) tf ta na ca p0 p1 ma cf ma756 cf757 (1 : Int32) from (Exists.intro 1 (Or.inl ⟨rfl, z149, ez149, Or.inr (Or.inr (Or.inr (Or.inr (Or.inr (Or.inr (Or.inr (Or.inr ⟨c222, z707, ez707, ma710, cf711, v713, e729, z730, ez730, ma733, cf734, v736, e752, z753, ez753, ma756, cf757, v759, e775, Or.inl ⟨nc776, Or.inl ⟨nc778, rfl, rfl, rfl⟩⟩⟩)))))))⟩)))⟩) d_Mpg_check_349
        · have nc778 : ¬ p1.toInt = (0 : Int) := mt (i_eq (x := p1) (y := 0)).mpr c778
          refine lv_iload_n S.x S.b d_Mpg_check_332 rfl (lv_at hl 0 rfl) ?_
          refine lv_iconst (v := 4) S.x S.b d_Mpg_check_333 (by decide) ?_
          refine lv_icmp_ne (tgt := 348) S.x S.b d_Mpg_check_334 (by decide) (fun c780 => ?_) (fun c780 => ?_)
          ·
            refine lv_iload_n S.x S.b d_Mpg_check_348 rfl (lv_at hl 0 rfl) ?_
            exact px_iret (v := 1) S hr rfl hlk hAe hw (Nat.le_of_ble_eq_true rfl) (Nat.le_of_ble_eq_true rfl) (⟨ma756, cf757, rfl, (show KpE cf cf757 from hke), (show WrV cf757 (tf 6).toInt from hwr), (show (cf757 33).toInt = (cf 33).toInt from by first | exact oz_e13fc83238 e716 e762 e739 | omega), (show (cf757 38).toInt = (cf 38).toInt from by first | exact oz_e13fc83238 e717 e763 e740 | omega), (show (cf757 48).toInt = (cf 48).toInt from by first | exact oz_e13fc83238 e718 e764 e741 | omega), (show (cf757 46).toInt = (cf 46).toInt from by first | exact oz_e13fc83238 e719 e765 e742 | omega), (show (cf757 47).toInt = (cf 47).toInt from by first | exact oz_e13fc83238 e720 e766 e743 | omega), (show (cf757 57).toInt = (cf 57).toInt from by first | exact oz_e13fc83238 e721 e767 e744 | omega), (show Ann na ma0 ma756 from han), (show FrC lo hi ma ma756 from hfc), (show 0 ≤ (1 : Int) from by first | exact oz_19c3a41681 | omega), (show (1 : Int) ≤ 4 from by first | exact oz_39f46dc397 | omega), (show NmJ ta ca na ma756 kn p0 (1 : Int) from (fun h => absurd h (by omega))), (show ZTy cf757 (Gk ta ca na ma0 ns ys nf) na ma756 lo hi p0 (1 : Int) from (fun zz => Or.inr ⟨by omega, ty_8 hrg (by omega) ez707 (ha_z730.trans (Ann.b18 han (by omega)).symm) (ha_z753.trans (Ann.b19 han (by omega)).symm) ((hty_z707 zz).le (by omega) (by omega)) ((hty_z730 zz).le (by omega) (by omega)) ((hty_z753 zz).le (by omega) (by omega))⟩)), (show ZNm cf757 p1.toInt (1 : Int) from (zty_num (G := (Gk ta ca na ma0 ns ys nf)) (na := na) (ma := ma756) (lo := lo) (hi := hi) (n := p0) (fun zz => Or.inr ⟨by omega, ty_8 hrg (by omega) ez707 (ha_z730.trans (Ann.b18 han (by omega)).symm) (ha_z753.trans (Ann.b19 han (by omega)).symm) ((hty_z707 zz).le (by omega) (by omega)) ((hty_z730 zz).le (by omega) (by omega)) ((hty_z753 zz).le (by omega) (by omega))⟩) (by omega))), (show R_mp_check (RL_mp_check d) tf ta na ca p0 p1 ma cf ma756 cf757 (1 : Int32) from (Exists.intro 1 (Or.inl ⟨rfl, z149, ez149, Or.inr (Or.inr (Or.inr (Or.inr (Or.inr (Or.inr (Or.inr (Or.inr ⟨c222, z707, ez707, ma710, cf711, v713, e729, z730, ez730, ma733, cf734, v736, e752, z753, ez753, ma756, cf757, v759, e775, Or.inl ⟨nc776, Or.inr ⟨nc778, rfl, rfl, rfl⟩⟩⟩)))))))⟩)))⟩) d_Mpg_check_349
          · exact absurd c780 (by decide)
      · have nc776 : ¬ p1.toInt = (0 : Int) := mt (i_eq (x := p1) (y := 0)).mpr c776
        refine lv_iload_n S.x S.b d_Mpg_check_305 rfl (lv_at hl 0 rfl) ?_
        refine lv_iconst (v := 2) S.x S.b d_Mpg_check_306 (by decide) ?_
        refine lv_icmp_eq (tgt := 315) S.x S.b d_Mpg_check_307 (by decide) (fun c781 => ?_) (fun c781 => ?_)
        · exact absurd c781 (by decide)
        ·
          refine lv_iload_n S.x S.b d_Mpg_check_310 rfl (lv_at hl 0 rfl) ?_
          refine lv_iconst (v := 3) S.x S.b d_Mpg_check_311 (by decide) ?_
          refine lv_icmp_ne (tgt := 328) S.x S.b d_Mpg_check_312 (by decide) (fun c782 => ?_) (fun c782 => ?_)
          ·
            refine lv_iload_n S.x S.b d_Mpg_check_328 rfl (lv_at hl 3 rfl) ?_
            refine lv_if_eq (tgt := 348) S.x S.b d_Mpg_check_329 (by decide) (fun c783 => ?_) (fun c783 => ?_)
            · have nc783 : p1.toInt = (0 : Int) := (i_eq (x := p1) (y := 0)).mp c783
              refine lv_iload_n S.x S.b d_Mpg_check_348 rfl (lv_at hl 0 rfl) ?_
              exact px_iret (v := 1) S hr rfl hlk hAe hw (Nat.le_of_ble_eq_true rfl) (Nat.le_of_ble_eq_true rfl) (⟨ma756, cf757, rfl, (show KpE cf cf757 from hke), (show WrV cf757 (tf 6).toInt from hwr), (show (cf757 33).toInt = (cf 33).toInt from by first | exact oz_e13fc83238 e716 e762 e739 | omega), (show (cf757 38).toInt = (cf 38).toInt from by first | exact oz_e13fc83238 e717 e763 e740 | omega), (show (cf757 48).toInt = (cf 48).toInt from by first | exact oz_e13fc83238 e718 e764 e741 | omega), (show (cf757 46).toInt = (cf 46).toInt from by first | exact oz_e13fc83238 e719 e765 e742 | omega), (show (cf757 47).toInt = (cf 47).toInt from by first | exact oz_e13fc83238 e720 e766 e743 | omega), (show (cf757 57).toInt = (cf 57).toInt from by first | exact oz_e13fc83238 e721 e767 e744 | omega), (show Ann na ma0 ma756 from han), (show FrC lo hi ma ma756 from hfc), (show 0 ≤ (1 : Int) from by first | exact oz_19c3a41681 | omega), (show (1 : Int) ≤ 4 from by first | exact oz_39f46dc397 | omega), (show NmJ ta ca na ma756 kn p0 (1 : Int) from (fun h => absurd h (by omega))), (show ZTy cf757 (Gk ta ca na ma0 ns ys nf) na ma756 lo hi p0 (1 : Int) from (fun zz => Or.inr ⟨by omega, ty_8 hrg (by omega) ez707 (ha_z730.trans (Ann.b18 han (by omega)).symm) (ha_z753.trans (Ann.b19 han (by omega)).symm) ((hty_z707 zz).le (by omega) (by omega)) ((hty_z730 zz).le (by omega) (by omega)) ((hty_z753 zz).le (by omega) (by omega))⟩)), (show ZNm cf757 p1.toInt (1 : Int) from (zty_num (G := (Gk ta ca na ma0 ns ys nf)) (na := na) (ma := ma756) (lo := lo) (hi := hi) (n := p0) (fun zz => Or.inr ⟨by omega, ty_8 hrg (by omega) ez707 (ha_z730.trans (Ann.b18 han (by omega)).symm) (ha_z753.trans (Ann.b19 han (by omega)).symm) ((hty_z707 zz).le (by omega) (by omega)) ((hty_z730 zz).le (by omega) (by omega)) ((hty_z753 zz).le (by omega) (by omega))⟩) (by omega))), (show R_mp_check (RL_mp_check d) tf ta na ca p0 p1 ma cf ma756 cf757 (1 : Int32) from (Exists.intro 1 (Or.inl ⟨rfl, z149, ez149, Or.inr (Or.inr (Or.inr (Or.inr (Or.inr (Or.inr (Or.inr (Or.inr ⟨c222, z707, ez707, ma710, cf711, v713, e729, z730, ez730, ma733, cf734, v736, e752, z753, ez753, ma756, cf757, v759, e775, Or.inr ⟨nc776, Or.inl ⟨nc783, rfl, rfl, rfl⟩⟩⟩)))))))⟩)))⟩) d_Mpg_check_349
            · have nc783 : ¬ p1.toInt = (0 : Int) := mt (i_eq (x := p1) (y := 0)).mpr c783
              refine lv_iload_n S.x S.b d_Mpg_check_332 rfl (lv_at hl 0 rfl) ?_
              refine lv_iconst (v := 4) S.x S.b d_Mpg_check_333 (by decide) ?_
              refine lv_icmp_ne (tgt := 348) S.x S.b d_Mpg_check_334 (by decide) (fun c785 => ?_) (fun c785 => ?_)
              ·
                refine lv_iload_n S.x S.b d_Mpg_check_348 rfl (lv_at hl 0 rfl) ?_
                exact px_iret (v := 1) S hr rfl hlk hAe hw (Nat.le_of_ble_eq_true rfl) (Nat.le_of_ble_eq_true rfl) (⟨ma756, cf757, rfl, (show KpE cf cf757 from hke), (show WrV cf757 (tf 6).toInt from hwr), (show (cf757 33).toInt = (cf 33).toInt from by first | exact oz_e13fc83238 e716 e762 e739 | omega), (show (cf757 38).toInt = (cf 38).toInt from by first | exact oz_e13fc83238 e717 e763 e740 | omega), (show (cf757 48).toInt = (cf 48).toInt from by first | exact oz_e13fc83238 e718 e764 e741 | omega), (show (cf757 46).toInt = (cf 46).toInt from by first | exact oz_e13fc83238 e719 e765 e742 | omega), (show (cf757 47).toInt = (cf 47).toInt from by first | exact oz_e13fc83238 e720 e766 e743 | omega), (show (cf757 57).toInt = (cf 57).toInt from by first | exact oz_e13fc83238 e721 e767 e744 | omega), (show Ann na ma0 ma756 from han), (show FrC lo hi ma ma756 from hfc), (show 0 ≤ (1 : Int) from by first | exact oz_19c3a41681 | omega), (show (1 : Int) ≤ 4 from by first | exact oz_39f46dc397 | omega), (show NmJ ta ca na ma756 kn p0 (1 : Int) from (fun h => absurd h (by omega))), (show ZTy cf757 (Gk ta ca na ma0 ns ys nf) na ma756 lo hi p0 (1 : Int) from (fun zz => Or.inr ⟨by omega, ty_8 hrg (by omega) ez707 (ha_z730.trans (Ann.b18 han (by omega)).symm) (ha_z753.trans (Ann.b19 han (by omega)).symm) ((hty_z707 zz).le (by omega) (by omega)) ((hty_z730 zz).le (by omega) (by omega)) ((hty_z753 zz).le (by omega) (by omega))⟩)), (show ZNm cf757 p1.toInt (1 : Int) from (zty_num (G := (Gk ta ca na ma0 ns ys nf)) (na := na) (ma := ma756) (lo := lo) (hi := hi) (n := p0) (fun zz => Or.inr ⟨by omega, ty_8 hrg (by omega) ez707 (ha_z730.trans (Ann.b18 han (by omega)).symm) (ha_z753.trans (Ann.b19 han (by omega)).symm) ((hty_z707 zz).le (by omega) (by omega)) ((hty_z730 zz).le (by omega) (by omega)) ((hty_z753 zz).le (by omega) (by omega))⟩) (by omega))), (show R_mp_check (RL_mp_check d) tf ta na ca p0 p1 ma cf ma756 cf757 (1 : Int32) from (Exists.intro 1 (Or.inl ⟨rfl, z149, ez149, Or.inr (Or.inr (Or.inr (Or.inr (Or.inr (Or.inr (Or.inr (Or.inr ⟨c222, z707, ez707, ma710, cf711, v713, e729, z730, ez730, ma733, cf734, v736, e752, z753, ez753, ma756, cf757, v759, e775, Or.inr ⟨nc776, Or.inr ⟨nc783, rfl, rfl, rfl⟩⟩⟩)))))))⟩)))⟩) d_Mpg_check_349
              · exact absurd c785 (by decide)
          · exact absurd c782 (by decide)
theorem chkc_all (l : Launch) (D : va_G) (cs : Nat → ClassId) : ∀ d : Nat, ChkC l D cs d := by
  intro d
  induction d with
  | zero => intro ma0 ys ns nf kn lo hi h r g tf ta pf na wa ca ef ea xf xa ma cf p0 p1 g0 g1 g2 g3 g4 g5 g6 g7 g8 g9 g10 htk hfs hwr hkt hft hks hfp han hec; exact (ec_0 hec).elim
  | succ d ih => intro ma0 ys ns nf kn lo hi h r g tf ta pf na wa ca ef ea xf xa ma cf p0 p1 g0 g1 g2 g3 g4 g5 g6 g7 g8 g9 g10 htk hfs hwr hkt hft hks hfp han hec; exact c_mp_check l D cs ma0 ys ns nf kn d lo hi h r g tf ta pf na wa ca ef ea xf xa ma cf p0 p1 g0 g1 g2 g3 g4 g5 g6 g7 g8 g9 g10 htk hfs hwr hkt hft hks hfp han hec ih
set_option maxHeartbeats 4000000 in
set_option maxRecDepth 100000 in
theorem c_S_check (l : Launch) (D : va_G) (cs : Nat → ClassId) (ma0 : Nat → Nat → Int32) (ys : Int) (ns : Int) (nf : Int) (kn : Int) (d : Nat) (lo : Int) (hi : Int) (h : Nat) (r : Nat → Nat) (g : Nat → Nat → Option Nat) (tf : Nat → Int32) (ta : Nat → Nat → Int32) (pf : Nat → Int32) (na : Nat → Nat → Int32) (wa : Nat → Nat → Int32) (ca : Nat → Nat → Int32) (ef : Nat → Int32) (ea : Nat → Nat → Int32) (xf : Nat → Int32) (xa : Nat → Nat → Int32) (ma : Nat → Nat → Int32) (cf : Nat → Int32) (p0 p1 : Int32)  (g0 : 0 ≤ lo) (g1 : hi ≤ (pf 13).toInt) (g2 : (pf 13).toInt ≤ 2100) (g3 : (tf 6).toInt ≤ 2049) (g4 : (cf 33).toInt = kn) (g5 : 0 ≤ kn) (g6 : (cf 48).toInt = ns) (g7 : (cf 38).toInt = nf) (g8 : 0 ≤ nf) (g9 : 0 ≤ p1.toInt) (g10 : p1.toInt ≤ 1) (htk : TkI tf ta) (hfs : FsI (tf 6).toInt (pf 13).toInt na) (hwr : WrV cf (tf 6).toInt) (hkt : KnT (tf 6).toInt ca (cf 33).toInt) (hft : FnT (tf 6).toInt na ca (cf 38).toInt) (hks : KnS ca kn ns ys) (hfp : FnP na ca nf) (han : Ann na ma0 ma) (hec : EcV ta (tf 6).toInt na ma0 d lo hi p0) : MetI l y_Mpg_check b_Mpg_check 8 (.int) D cs (4 * d + 12) (200 * d + 420) (0) (0) [.ref h, .int p0, .int p1] [wdP cs h r g tf ta pf na ma wa cf ca ef ea xf xa] (oX (fun A U H => (oP A g U H)) [wdP cs h r g tf ta pf na ma wa cf ca ef ea xf xa]) (fun v ps => ∃ (ma' : Nat → Nat → Int32) (cf' : Nat → Int32), (ps = [wdP cs h r g tf ta pf na ma' wa cf' ca ef ea xf xa]) ∧ (KpE cf cf') ∧ (WrV cf' (tf 6).toInt) ∧ ((cf' 33).toInt = (cf 33).toInt) ∧ ((cf' 38).toInt = (cf 38).toInt) ∧ ((cf' 48).toInt = (cf 48).toInt) ∧ ((cf' 46).toInt = (cf 46).toInt) ∧ ((cf' 47).toInt = (cf 47).toInt) ∧ ((cf' 57).toInt = (cf 57).toInt) ∧ (Ann na ma0 ma') ∧ (FrC lo hi ma ma') ∧ (0 ≤ v.toInt) ∧ (v.toInt ≤ 4) ∧ (NmJ ta ca na ma' kn p0 v.toInt) ∧ (ZTy cf' (Gk ta ca na ma0 ns ys nf) na ma' lo hi p0 v.toInt) ∧ (ZNm cf' p1.toInt v.toInt) ∧ (RL_mp_check d tf ta na ca p0 p1 ma cf ma' cf' v)) := by
  exact chkc_all l D cs d ma0 ys ns nf kn lo hi h r g tf ta pf na wa ca ef ea xf xa ma cf p0 p1 g0 g1 g2 g3 g4 g5 g6 g7 g8 g9 g10 htk hfs hwr hkt hft hks hfp han hec
