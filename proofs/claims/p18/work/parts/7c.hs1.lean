theorem oz_c06794d5d0 {a0 a1 a2 : Int} (h0 : 8 * (a0 - a1) = 24 - a2) (h1 : -8 ≤ a2) (h2 : a2 < (0 : Int)) : a0 = a1 + 4 := by omega
theorem oz_e69c1124de {a0 a1 a2 : Int} (h0 : 8 * (a0 - a1) = 24 - a2) (h1 : ¬ a2 < (0 : Int)) (h2 : a1 + 4 ≤ 2048) (h3 : (2048 : Int) ≤ a0) : a0 = a1 + 4 := by omega
theorem oz_eb13a6172b {a0 a1 : Int} (h0 : a0 = a1 + (-8)) (h1 : ¬ a1 < (0 : Int)) : -8 ≤ a0 := by omega
theorem oz_8901410f93 {a0 a1 : Int} (h0 : a0 = a1 + (-8)) (h1 : a1 ≤ 24) : a0 ≤ 24 := by omega
theorem oz_d4a576db84 {a0 a1 a2 a3 a4 : Int} (h0 : 8 * (a3 - a1) = 24 - a4) (h1 : a0 = a3 + (1 : Int)) (h2 : a2 = a4 + (-8)) : 8 * (a0 - a1) = 24 - a2 := by omega
theorem oz_f783b563e8 {a0 a2 : Int} {n1 : Nat} (h0 : a2 + 9 < ((n1 + 1 : Nat) : Int)) (h1 : a0 = a2 + (-8)) : a0 + 9 < (n1 : Int) := by omega
theorem oz_859e4a017e  : -8 ≤ (24 : Int) := by omega
theorem oz_32abef5af1  : (24 : Int) ≤ 24 := by omega
theorem oz_02c2255338 {a0 : Int}  : 8 * (a0 - a0) = 24 - (24 : Int) := by omega
theorem m3_15 : Cond.fieldLink "HomeSystem" 49 "HomeSystem" "fed" "I" ∈ AL := AL_3 (List.mem_of_getElem? (i := 15) rfl) rfl
theorem m3_12 : Cond.fieldLink "HomeSystem" 9 "HomeSystem" "tape" "[B" ∈ AL := AL_3 (List.mem_of_getElem? (i := 12) rfl) rfl
abbrev b_Hs_append : ByteArray := prog_1_method_3_code
def y_Hs_append : MethodName := ⟨"HomeSystem", "append", "(I)V"⟩
theorem d_Hs_append_0 : decode b_Hs_append 0 = .ok (.bipush 24, 2) := by decide +kernel
theorem d_Hs_append_2 : decode b_Hs_append 2 = .ok (.istore_n 2, 1) := by decide +kernel
theorem d_Hs_append_3 : decode b_Hs_append 3 = .ok (.iload_n 2, 1) := by decide +kernel
theorem d_Hs_append_4 : decode b_Hs_append 4 = .ok (.ifCond .lt 42, 3) := by decide +kernel
theorem d_Hs_append_7 : decode b_Hs_append 7 = .ok (.aload_n 0, 1) := by decide +kernel
theorem d_Hs_append_8 : decode b_Hs_append 8 = .ok (.getfield 49, 3) := by decide +kernel
theorem d_Hs_append_11 : decode b_Hs_append 11 = .ok (.sipush 2048, 3) := by decide +kernel
theorem d_Hs_append_14 : decode b_Hs_append 14 = .ok (.if_icmp .ge 32, 3) := by decide +kernel
theorem d_Hs_append_17 : decode b_Hs_append 17 = .ok (.aload_n 0, 1) := by decide +kernel
theorem d_Hs_append_18 : decode b_Hs_append 18 = .ok (.getfield 9, 3) := by decide +kernel
theorem d_Hs_append_21 : decode b_Hs_append 21 = .ok (.aload_n 0, 1) := by decide +kernel
theorem d_Hs_append_22 : decode b_Hs_append 22 = .ok (.getfield 49, 3) := by decide +kernel
theorem d_Hs_append_25 : decode b_Hs_append 25 = .ok (.iload_n 1, 1) := by decide +kernel
theorem d_Hs_append_26 : decode b_Hs_append 26 = .ok (.iload_n 2, 1) := by decide +kernel
theorem d_Hs_append_27 : decode b_Hs_append 27 = .ok (.iushr, 1) := by decide +kernel
theorem d_Hs_append_28 : decode b_Hs_append 28 = .ok (.i2b, 1) := by decide +kernel
theorem d_Hs_append_29 : decode b_Hs_append 29 = .ok (.bastore, 1) := by decide +kernel
theorem d_Hs_append_30 : decode b_Hs_append 30 = .ok (.aload_n 0, 1) := by decide +kernel
theorem d_Hs_append_31 : decode b_Hs_append 31 = .ok (.dup, 1) := by decide +kernel
theorem d_Hs_append_32 : decode b_Hs_append 32 = .ok (.getfield 49, 3) := by decide +kernel
theorem d_Hs_append_35 : decode b_Hs_append 35 = .ok (.iconst 1, 1) := by decide +kernel
theorem d_Hs_append_36 : decode b_Hs_append 36 = .ok (.iadd, 1) := by decide +kernel
theorem d_Hs_append_37 : decode b_Hs_append 37 = .ok (.putfield 49, 3) := by decide +kernel
theorem d_Hs_append_40 : decode b_Hs_append 40 = .ok (.iinc 2 (-8), 3) := by decide +kernel
theorem d_Hs_append_43 : decode b_Hs_append 43 = .ok (.goto (-40), 3) := by decide +kernel
theorem d_Hs_append_46 : decode b_Hs_append 46 = .ok (.return_, 1) := by decide +kernel
theorem q_Hs_append : px_y y_Hs_append 1 := by unfold px_y; decide +kernel
set_option maxHeartbeats 4000000 in
set_option maxRecDepth 100000 in
theorem c_hs_append (l : Launch) (D : va_G) (cs : Nat → ClassId) (xh : Nat) (xr : Nat → Nat) (xo : Nat → Option Nat) (xg : Nat → Nat → Option Nat) (xf : Nat → Int32) (xa : Nat → Nat → Int32) (p0 : Int32)  (g0 : 0 ≤ (xf 3).toInt) (g1 : (xf 3).toInt + 4 ≤ 2048) : MetV l y_Hs_append b_Hs_append 3 D cs 0 0 (0) (0) [.ref xh, .int p0] [wd_Hs cs xh xr xo xf xa xg] (fun _ => True) (fun ps => ∃ (xf' : Nat → Int32) (xa' : Nat → Nat → Int32), (ps = [wd_Hs cs xh xr xo xf' xa' xg]) ∧ ((xf' 3).toInt = (xf 3).toInt + 4) ∧ ((xf' 4).toInt = (xf 4).toInt) ∧ ((xf' 5).toInt = (xf 5).toInt) ∧ (R_hs_append p0 xf xa xf' xa')) := by
  refine px_enter (by decide) (Nat.le_of_ble_eq_true rfl) ?_
  intro p e s m below meth c A ls hAe S hr hlk hnm hA hT hX hw hl
  have hl : lv_has ls 3 [(0, .ref xh), (1, .int p0)] := hl
  have lp0 := Int32.le_toInt p0
  have up0 := Int32.toInt_lt p0
  have cst1 : (1 : Int32).toInt = 1 := rfl
  have cst24 : (24 : Int32).toInt = 24 := rfl
  have cst2048 : (2048 : Int32).toInt = 2048 := rfl
  have J3 : ∀ (n_3 : Nat) (xf_3 : Nat → Int32) (xa_3 : Nat → Nat → Int32) (x3_2 : Int32) (H : Heap) (locs : List Loc) (ls : Array Slot), (-8 ≤ x3_2.toInt) → (x3_2.toInt ≤ 24) → (x3_2.toInt % 8 = 0) → (8 * ((xf_3 3).toInt - (xf 3).toInt) = 24 - x3_2.toInt) → ((xf_3 4).toInt = (xf 4).toInt) → ((xf_3 5).toInt = (xf 5).toInt) → (K_hs_append_3 p0 xf xa xf_3 xa_3 x3_2) → x3_2.toInt + 9 < (n_3 : Int) → pw D A s.heap H locs [wd_Hs cs xh xr xo xf_3 xa_3 xg] → lv_has ls 3 [(0, .ref xh), (1, .int p0), (2, .int x3_2)] → W p l e { frames := 0, cells := 0, slots := 0, locals := 0 } s m [.ref xh, .int p0].toArray below meth c H locs 0 0 (MQ below (va_Qv (fun ps => ∃ (xf' : Nat → Int32) (xa' : Nat → Nat → Int32), (ps = [wd_Hs cs xh xr xo xf' xa' xg]) ∧ ((xf' 3).toInt = (xf 3).toInt + 4) ∧ ((xf' 4).toInt = (xf 4).toInt) ∧ ((xf' 5).toInt = (xf 5).toInt) ∧ (R_hs_append p0 xf xa xf' xa')) (pc_B D (va_A ([wd_Hs cs xh xr xo xf xa xg] : List va_W).flatten s.heap.size)) (va_A ([wd_Hs cs xh xr xo xf xa xg] : List va_W).flatten s.heap.size)) [.ref xh, .int p0].toArray s 0 0 A) (F0 m 3 ls []) := by
    intro n_3
    induction n_3 with
    | zero =>
      intro xf_3 xa_3 x3_2 H locs ls k3_0 k3_1 k3_2 k3_3 k3_4 k3_5 k3_6 hm hw hl
      have lx3_2 := Int32.le_toInt x3_2
      have ux3_2 := Int32.toInt_lt x3_2
      exact absurd hm (by omega)
    | succ n_3 ih3 =>
      intro xf_3 xa_3 x3_2 H locs ls k3_0 k3_1 k3_2 k3_3 k3_4 k3_5 k3_6 hm hw hl
      have lx3_2 := Int32.le_toInt x3_2
      have ux3_2 := Int32.toInt_lt x3_2
      refine lv_iload_n S.x S.b d_Hs_append_3 rfl (lv_at hl 2 rfl) ?_
      refine lv_if_lt (tgt := 46) S.x S.b d_Hs_append_4 (by decide) (fun c1 => ?_) (fun c1 => ?_)
      · have nc1 : x3_2.toInt < (0 : Int) := (i_lt (x := x3_2) (y := 0)).mp c1
        exact px_vret S hr hlk hAe hw (Nat.le_of_ble_eq_true rfl) (Nat.le_of_ble_eq_true rfl) (⟨xf_3, xa_3, rfl, (show (xf_3 3).toInt = (xf 3).toInt + 4 from by first | exact oz_c06794d5d0 k3_3 k3_0 nc1 | omega), (show (xf_3 4).toInt = (xf 4).toInt from by first | exact k3_4 | omega), (show (xf_3 5).toInt = (xf 5).toInt from by first | exact k3_5 | omega), (show R_hs_append p0 xf xa xf_3 xa_3 from (k3_6 _ _ 1 (Or.inr (Or.inl ⟨rfl, x3_2, rfl, rfl, rfl, rfl, rfl, Or.inl ⟨nc1, rfl, rfl⟩⟩))))⟩) d_Hs_append_46
      · have nc1 : ¬ x3_2.toInt < (0 : Int) := mt (i_lt (x := x3_2) (y := 0)).mpr c1
        refine lv_aload_n S.x S.b d_Hs_append_7 rfl (lv_at hl 0 rfl) ?_
        refine px_get S k_Hs hT hw 0 0 3 (v := .int (xf_3 3)) rfl rfl rfl (by decide) m3_15 d_Hs_append_8 ?_
        refine lv_sipush (v := 2048) S.x S.b d_Hs_append_11 (by decide) ?_
        refine lv_icmp_ge (tgt := 46) S.x S.b d_Hs_append_14 (by decide) (fun c3 => ?_) (fun c3 => ?_)
        · have nc3 : (2048 : Int) ≤ (xf_3 3).toInt := (i_le (x := 2048) (y := (xf_3 3))).mp c3
          exact px_vret S hr hlk hAe hw (Nat.le_of_ble_eq_true rfl) (Nat.le_of_ble_eq_true rfl) (⟨xf_3, xa_3, rfl, (show (xf_3 3).toInt = (xf 3).toInt + 4 from by first | exact oz_e69c1124de k3_3 nc1 g1 nc3 | omega), (show (xf_3 4).toInt = (xf 4).toInt from by first | exact k3_4 | omega), (show (xf_3 5).toInt = (xf 5).toInt from by first | exact k3_5 | omega), (show R_hs_append p0 xf xa xf_3 xa_3 from (k3_6 _ _ 1 (Or.inr (Or.inl ⟨rfl, x3_2, rfl, rfl, rfl, rfl, rfl, Or.inr ⟨nc1, Or.inl ⟨nc3, rfl, rfl⟩⟩⟩))))⟩) d_Hs_append_46
        · have nc3 : ¬ (2048 : Int) ≤ (xf_3 3).toInt := mt (i_le (x := 2048) (y := (xf_3 3))).mpr c3
          refine lv_aload_n S.x S.b d_Hs_append_17 rfl (lv_at hl 0 rfl) ?_
          refine px_get S k_Hs hT hw 0 0 0 (v := .ref (xr 0)) rfl rfl rfl (by decide) m3_12 d_Hs_append_18 ?_
          refine lv_aload_n S.x S.b d_Hs_append_21 rfl (lv_at hl 0 rfl) ?_
          refine px_get S k_Hs hT hw 0 0 3 (v := .int (xf_3 3)) rfl rfl rfl (by decide) m3_15 d_Hs_append_22 ?_
          refine lv_iload_n S.x S.b d_Hs_append_25 rfl (lv_at hl 1 rfl) ?_
          refine lv_iload_n S.x S.b d_Hs_append_26 rfl (lv_at hl 2 rfl) ?_
          refine lv_iushr S.x S.b d_Hs_append_27 rfl ?_
          refine lv_topi (fun z5 ez5 => ?_)
          have lz5 := Int32.le_toInt z5
          have uz5 := Int32.toInt_lt z5
          refine lv_i2b S.x S.b d_Hs_append_28 rfl ?_
          refine lv_topi (fun z6 ez6 => ?_)
          have lz6 := Int32.le_toInt z6
          have uz6 := Int32.toInt_lt z6
          refine px_bast S hT hw 0 1 (n := 2048) (f := (xa_3 0)) (x := (xf_3 3)) (y := z6) rfl (ga_Hs_0 _ _ _ _ _ _ _) (vp_in_iff.mpr (by constructor <;> omega)) d_Hs_append_29 (w' := wd_Hs cs xh xr xo xf_3 (va_up xa_3 0 (upd (xa_3 0) (xf_3 3).toNatClampNeg (vp_nar .byte z6))) xg) (ps' := [wd_Hs cs xh xr xo xf_3 (va_up xa_3 0 (upd (xa_3 0) (xf_3 3).toNatClampNeg (vp_nar .byte z6))) xg]) (sa_Hs_0 _ _ _ _ _ _ _ _) rfl (fun H locs hw => ?_)
          refine lv_aload_n S.x S.b d_Hs_append_30 rfl (lv_at hl 0 rfl) ?_
          refine lv_dup S.x S.b d_Hs_append_31 rfl ?_
          refine px_get S k_Hs hT hw 0 0 3 (v := .int (xf_3 3)) rfl rfl rfl (by decide) m3_15 d_Hs_append_32 ?_
          refine lv_iconst (v := 1) S.x S.b d_Hs_append_35 (by decide) ?_
          refine lv_iadd S.x S.b d_Hs_append_36 ?_
          have lr7 := Int32.le_toInt (xf_3 3)
          have ur7 := Int32.toInt_lt (xf_3 3)
          refine lv_topi (fun z8 ez8 => ?_)
          have tz8 : z8.toInt = ((xf_3 3).toInt + (1 : Int) + 2147483648) % 4294967296 - 2147483648 := by rw [ez8]; exact i_add (xf_3 3) 1
          have lz8 := Int32.le_toInt z8
          have uz8 := Int32.toInt_lt z8
          try replace tz8 : z8.toInt = (xf_3 3).toInt + (1 : Int) := by omega
          refine px_put S k_Hs hT hw 0 0 3 rfl rfl (by decide) m3_15 rfl rfl rfl (Nat.le_of_ble_eq_true rfl) d_Hs_append_37 (w' := wd_Hs cs xh xr xo (upd xf_3 3 z8) (va_up xa_3 0 (upd (xa_3 0) (xf_3 3).toNatClampNeg (vp_nar .byte z6))) xg) (ps' := [wd_Hs cs xh xr xo (upd xf_3 3 z8) (va_up xa_3 0 (upd (xa_3 0) (xf_3 3).toNatClampNeg (vp_nar .byte z6))) xg]) rfl rfl (fun H locs hw => ?_)
          obtain ⟨z9, ez9⟩ : ∃ y : Int32, y = x3_2 + (-8) := ⟨_, rfl⟩
          have tz9 : z9.toInt = (x3_2.toInt + (-8) + 2147483648) % 4294967296 - 2147483648 := by rw [ez9]; exact i_add x3_2 (-8)
          have lz9 := Int32.le_toInt z9
          have uz9 := Int32.toInt_lt z9
          try replace tz9 : z9.toInt = x3_2.toInt + (-8) := by omega
          refine lv_iinc (v := z9) (lv' := [(2, .int z9), (0, .ref xh), (1, .int p0)]) S.x S.b d_Hs_append_40 hl (k := 2) rfl (by rw [ez9]; rfl) (by decide) rfl (fun ls hl => ?_)
          refine lv_goto (tgt := 3) S.x S.b d_Hs_append_43 (by decide) ?_
          exact ih3 (upd xf_3 3 z8) (va_up xa_3 0 (upd (xa_3 0) (xf_3 3).toNatClampNeg (vp_nar .byte z6))) z9 _ _ ls (show -8 ≤ z9.toInt from by first | exact oz_eb13a6172b tz9 nc1 | omega) (show z9.toInt ≤ 24 from by first | exact oz_8901410f93 tz9 k3_1 | omega) (show z9.toInt % 8 = 0 from by omega) (show 8 * (z8.toInt - (xf 3).toInt) = 24 - z9.toInt from by first | exact oz_d4a576db84 k3_3 tz8 tz9 | omega) (show (xf_3 4).toInt = (xf 4).toInt from by first | exact k3_4 | omega) (show (xf_3 5).toInt = (xf 5).toInt from by first | exact k3_5 | omega) (show K_hs_append_3 p0 xf xa (upd xf_3 3 z8) (va_up xa_3 0 (upd (xa_3 0) (xf_3 3).toNatClampNeg (vp_nar .byte z6))) z9 from (fun y_f0 y_f1 k hE => k3_6 y_f0 y_f1 (k + 1) (Or.inr (Or.inl ⟨rfl, x3_2, rfl, rfl, rfl, rfl, rfl, Or.inr ⟨nc1, Or.inr ⟨nc3, z5, ez5, z6, ez6, z8, ez8, z9, ez9, hE⟩⟩⟩)))) (show z9.toInt + 9 < (n_3 : Int) from by first | exact oz_f783b563e8 hm tz9 | omega) hw (lv_sub hl [1, 2, 0] rfl)
  refine lv_bipush (v := 24) S.x S.b d_Hs_append_0 (by decide) ?_
  refine lv_istore_n (lv' := [(2, .int 24), (0, .ref xh), (1, .int p0)]) S.x S.b d_Hs_append_2 rfl hl (by decide) rfl (fun ls hl => ?_)
  exact J3 (((24 : Int) + 9).toNat + 1) xf xa (24 : Int32) _ _ ls (show -8 ≤ (24 : Int) from by first | exact oz_859e4a017e | omega) (show (24 : Int) ≤ 24 from by first | exact oz_32abef5af1 | omega) (show (24 : Int) % 8 = 0 from by omega) (show 8 * ((xf 3).toInt - (xf 3).toInt) = 24 - (24 : Int) from by first | exact oz_02c2255338 | omega) (show (xf 4).toInt = (xf 4).toInt from rfl) (show (xf 5).toInt = (xf 5).toInt from rfl) (show K_hs_append_3 p0 xf xa xf xa 24 from (fun y_f0 y_f1 k hE => Exists.intro (k + 1) (Or.inl ⟨rfl, hE⟩))) (show (24 : Int) + 9 < (((((24 : Int) + 9).toNat + 1 : Nat) : Int) : Int) from by first | exact oz_natlt | omega) hw (lv_sub hl [1, 2, 0] rfl)
