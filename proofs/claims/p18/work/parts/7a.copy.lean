theorem oz_de50adbfe2 {a1 a2 : Int} {n0 : Nat} (h0 : a2 = (n0 : Int)) (h1 : a1 = a2) : (n0 : Int) = a1 := by omega
theorem oz_0f06169ee5 {a1 a2 : Int} {n0 : Nat} (h0 : a2 = (n0 : Int)) (h1 : a1 = a2) : ((0 + n0) : Int) = a1 := by omega
theorem m6_59 : Cond.methodLink "java/util/Arrays" 316 ⟨"[I", "clone", "()Ljava/lang/Object;"⟩ ∈ AL := AL_6 (List.mem_of_getElem? (i := 59) rfl) rfl
theorem m6_60 : Cond.sameMethod "[I" "java/lang/Object" "clone" "()Ljava/lang/Object;" ∈ AL := AL_6 (List.mem_of_getElem? (i := 60) rfl) rfl
theorem m6_61 : Cond.native ⟨"java/lang/Object", "clone", "()Ljava/lang/Object;"⟩ ∈ AL := AL_6 (List.mem_of_getElem? (i := 61) rfl) rfl
theorem m6_62 : Cond.instanceMethod ⟨"java/lang/Object", "clone", "()Ljava/lang/Object;"⟩ ∈ AL := AL_6 (List.mem_of_getElem? (i := 62) rfl) rfl
theorem m6_63 : Cond.selects "[I" ⟨"[I", "clone", "()Ljava/lang/Object;"⟩ ⟨"java/lang/Object", "clone", "()Ljava/lang/Object;"⟩ ∈ AL := AL_6 (List.mem_of_getElem? (i := 63) rfl) rfl
theorem m6_64n : Cond.castable "[I" "java/lang/Cloneable" ∈ tables_1 := by unfold tables_1; exact List.mem_append_right _ (List.mem_append_right _ (List.mem_append_right _ (List.mem_append_right _ (List.mem_append_right _ (List.mem_append_left _ (List.mem_of_getElem? (i := 64) rfl))))))
theorem m6_65 : Cond.classLink "java/util/Arrays" 317 "[I" ∈ AL := AL_6 (List.mem_of_getElem? (i := 65) rfl) rfl
/-! NUMBERS are copied -/
def CpI (n0 : Nat) (f : Nat → Int32) (n : Int) (g : Nat → Int32) : Prop := (∀ i : Nat, (i : Int) < n → (i : Int) < (n0 : Int) → g i = f i) ∧ ((∀ i : Nat, ¬ ((i : Int) < n ∧ (i : Int) < (n0 : Int)) → g i = 0) ∨ g = f)
section CPI
variable {p : Program} {l : Launch} {e : Env} {R : Room} {s : State} {m : MethodId} {args : Array Value} {below : List Frame} {meth : Method} {c : Code} {H H0 : Heap} {locs : List Loc} {cells slots : Nat} {Q : State → Prop}
variable {cc : ByteArray} {nL : Nat} {own : String} {pc a : Nat} {ls : Array Slot} {rest : List Value} {A : Nat → Prop} {D : va_G} {cs : Nat → ClassId} {ps ps' : List va_W} {w w' : va_W}
theorem px_copyI (S : px_S p m c cc nL s args own) (hT : Tb D cs s) (hw : pw D A H0 H locs ps) (i0 j0 i1 j1 : Nat) {w0 : va_W} {a0 n0 n1 : Nat} {f g : Nat → Int32} (hi0 : ps[i0]? = some w0) (he0 : w0[j0]? = some (a0, .inl (cs 0, n0, .inl f))) (hi : ps[i1]? = some w) (he : w[j1]? = some (a, .inl (cs 0, n1, .inl g))) {sp dp n : Int32} (h1 : 0 ≤ sp.toInt) (h2 : 0 ≤ dp.toInt) (h3 : 0 ≤ n.toInt) (h4 : sp.toInt + n.toInt ≤ (n0 : Int)) (h5 : dp.toInt + n.toInt ≤ (n1 : Int))
    {index : Nat} (hlink : Cond.methodLink own index arraycopyName ∈ AL) (hnat : Cond.native arraycopyName ∈ AL) (hstat : Cond.static arraycopyName ∈ AL) (hini : Cond.initialized "java/lang/System" ∈ AL) (hls : ls.size = nL) (hframes : 1 ≤ R.frames) (hlocals : (rest.map fun v => v.category).sum + 40 ≤ R.locals) (hdg : decode cc pc = .ok (.invokestatic index, 3))
    (hww : w.set j1 (a, .inl (cs 0, n1, .inl (va_cpy f g sp.toNatClampNeg dp.toNatClampNeg n.toNatClampNeg))) = w') (hps : ps.set i1 w' = ps')
    (kk : ∀ (H1 : Heap) (locs1 : List Loc), pw D A H0 H1 locs1 ps' → W p l e R s m args below meth c H1 locs1 cells slots Q (F0 m (pc + 3) ls rest)) : W p l e R s m args below meth c H locs cells slots Q (F0 m pc ls (.int n :: .int dp :: .ref a :: .int sp :: .ref a0 :: rest)) := by
  have hj : j1 < w.length := (List.getElem?_eq_some_iff.mp he).1
  have k1 := cl_nat (x := sp) h1
  have k2 := cl_nat (x := dp) h2
  have k3 := cl_nat (x := n) h3
  have nn : ∀ z : Int32, 0 ≤ z.toInt → ¬ z < 0 := fun z hz q => by
    have q1 := Int32.lt_iff_toInt_lt.mp q
    have q2 : (0 : Int32).toInt = 0 := rfl
    omega
  have hnw : nativeFrameWords "java/lang/System" "arraycopy" 5 + 11 ≤ 40 := by decide
  refine va_copyi (n0 := n0) (n1 := n1) (f := f) (g := g) (sp := sp) (dp := dp) (n := n) (ty := .int) S.x S.b (by rw [S.ml]; exact hls.symm) S.own (S.w hlink) (S.w hnat) (S.w hstat) (S.w hini) hT.1 hw.1 hw.2.1 hw.2.2 (pp_off ps i0 + j0) (pp_off ps i1 + j1) 0 0 (pp_get he0 ps i0 hi0) (pp_get he ps i1 hi) rfl rfl rfl (nn _ h1) (nn _ h2) (nn _ h3) (by omega) (by omega) (fun i _ => rfl) hframes (by omega) hdg (fun H1 locs1 x1 x2 x3 => kk H1 locs1 ⟨?_, ?_, x3⟩)
  · rw [← hps, ← hww, ← pp_set hj ps i1 hi]; exact x1
  · rw [← hps, ← hww, ← pp_set hj ps i1 hi]; exact x2
theorem px_cloneI (S : px_S p m c cc nL s args own) (hT : Tb D cs s) (hw : pw D A H0 H locs ps) (hA : ∀ q, H0.size ≤ q → A q) (i j : Nat) {n : Nat} {f : Nat → Int32} (hi : ps[i]? = some w) (he : w[j]? = some (a, .inl (cs 0, n, .inl f))) {index : Nat} (hlink : Cond.methodLink own index ⟨"[I", "clone", "()Ljava/lang/Object;"⟩ ∈ AL) (hsame : Cond.sameMethod "[I" "java/lang/Object" "clone" "()Ljava/lang/Object;" ∈ AL) (hnat : Cond.native ⟨"java/lang/Object", "clone", "()Ljava/lang/Object;"⟩ ∈ AL) (hinst : Cond.instanceMethod ⟨"java/lang/Object", "clone", "()Ljava/lang/Object;"⟩ ∈ AL) (hsel : Cond.selects "[I" ⟨"[I", "clone", "()Ljava/lang/Object;"⟩ ⟨"java/lang/Object", "clone", "()Ljava/lang/Object;"⟩ ∈ AL) (hcl : Cond.castable "[I" "java/lang/Cloneable" ∈ tables_1) (hls : ls.size = nL) (hframes : 1 ≤ R.frames) (hlocals : (rest.map fun v => v.category).sum + 14 ≤ R.locals) (hcells : cells + 1 ≤ R.cells) (hslots : slots + n ≤ R.slots) (hdg : decode cc pc = .ok (.invokevirtual index, 3))
    (kk : ∀ (q : Nat) (H1 : Heap), pw D A H0 H1 locs (ps ++ [[(q, .inl (cs 0, n, .inl f))]]) → W p l e R s m args below meth c H1 locs (cells + 1) (slots + n) Q (F0 m (pc + 3) ls (.ref q :: rest))) : W p l e R s m args below meth c H locs cells slots Q (F0 m pc ls (.ref a :: rest)) := by
  refine va_clone (ad := "[I") S.x S.b (by rw [S.ml]; exact hls.symm) S.own (S.w hlink) (S.w hsame) (S.w hnat) (S.w hinst) (S.w hsel) (hT.2.2 _ hcl rfl) hT.1 hw.1 hw.2.1 hw.2.2 hA (pp_off ps i + j) 0 (pp_get he ps i hi) rfl (va_nm_int (hT.1.2 0 _ rfl).2) (va_fit (fun i _ => rfl)) hframes hlocals hcells hslots hdg (fun q H1 k1 k2 k3 k4 => kk q H1 ⟨?_, ?_, k4⟩)
  · rw [← pp_push]; exact k2
  · rw [← pp_push]; exact k3
theorem px_castI (S : px_S p m c cc nL s args own) (hT : Tb D cs s) (hw : pw D A H0 H locs ps) (i j : Nat) {n : Nat} {f : Nat → Int32} (hi : ps[i]? = some w) (he : w[j]? = some (a, .inl (cs 0, n, .inl f))) {index : Nat} (hlink : Cond.classLink own index "[I" ∈ AL) (hdg : decode cc pc = .ok (.checkcast index, 3)) (kk : W p l e R s m args below meth c H locs cells slots Q (F0 m (pc + 3) ls (.ref a :: rest))) : W p l e R s m args below meth c H locs cells slots Q (F0 m pc ls (.ref a :: rest)) :=
  va_castA S.x S.b S.own (S.w hlink) hw.1 (pp_off ps i + j) (pp_get he ps i hi) (va_nm_int (hT.1.2 0 _ rfl).2) hdg kk
end CPI
theorem cpi_id {n0 : Nat} {f : Nat → Int32} {n : Int} : CpI n0 f n f := ⟨fun _ _ _ => rfl, Or.inr rfl⟩
theorem cpi_mk {n0 : Nat} {f : Nat → Int32} {n : Int} {k : Int32} (hk : 0 ≤ k.toInt) (e : (k.toInt = (n0 : Int) ∧ (n0 : Int) ≤ n) ∨ (k.toInt = n ∧ n ≤ (n0 : Int))) : CpI n0 f n (va_cpy f (fun _ => 0) (0 : Int32).toNatClampNeg (0 : Int32).toNatClampNeg k.toNatClampNeg) := by
  have c := cl_nat hk
  have z : (0 : Int32).toNatClampNeg = 0 := rfl
  rw [z]
  refine ⟨fun i h1 h2 => ?_, Or.inl (fun i h => ?_)⟩
  · unfold va_cpy; rw [if_pos (by omega)]; congr 1; omega
  · unfold va_cpy; rw [if_neg (by omega)]
abbrev b_Arrays_copyOf3 : ByteArray := prog_40_method_123_code
def y_Arrays_copyOf3 : MethodName := ⟨"java/util/Arrays", "copyOf", "([II)[I"⟩
theorem d_Arrays_copyOf3_0 : decode b_Arrays_copyOf3 0 = .ok (.iload_n 1, 1) := by decide +kernel
theorem d_Arrays_copyOf3_1 : decode b_Arrays_copyOf3 1 = .ok (.aload_n 0, 1) := by decide +kernel
theorem d_Arrays_copyOf3_2 : decode b_Arrays_copyOf3 2 = .ok (.arraylength, 1) := by decide +kernel
theorem d_Arrays_copyOf3_3 : decode b_Arrays_copyOf3 3 = .ok (.if_icmp .ne 11, 3) := by decide +kernel
theorem d_Arrays_copyOf3_6 : decode b_Arrays_copyOf3 6 = .ok (.aload_n 0, 1) := by decide +kernel
theorem d_Arrays_copyOf3_7 : decode b_Arrays_copyOf3 7 = .ok (.invokevirtual 316, 3) := by decide +kernel
theorem d_Arrays_copyOf3_10 : decode b_Arrays_copyOf3 10 = .ok (.checkcast 317, 3) := by decide +kernel
theorem d_Arrays_copyOf3_13 : decode b_Arrays_copyOf3 13 = .ok (.areturn, 1) := by decide +kernel
theorem d_Arrays_copyOf3_14 : decode b_Arrays_copyOf3 14 = .ok (.iload_n 1, 1) := by decide +kernel
theorem d_Arrays_copyOf3_15 : decode b_Arrays_copyOf3 15 = .ok (.newarray .int, 2) := by decide +kernel
theorem d_Arrays_copyOf3_17 : decode b_Arrays_copyOf3 17 = .ok (.astore_n 2, 1) := by decide +kernel
theorem d_Arrays_copyOf3_18 : decode b_Arrays_copyOf3 18 = .ok (.aload_n 0, 1) := by decide +kernel
theorem d_Arrays_copyOf3_19 : decode b_Arrays_copyOf3 19 = .ok (.iconst 0, 1) := by decide +kernel
theorem d_Arrays_copyOf3_20 : decode b_Arrays_copyOf3 20 = .ok (.aload_n 2, 1) := by decide +kernel
theorem d_Arrays_copyOf3_21 : decode b_Arrays_copyOf3 21 = .ok (.iconst 0, 1) := by decide +kernel
theorem d_Arrays_copyOf3_22 : decode b_Arrays_copyOf3 22 = .ok (.aload_n 0, 1) := by decide +kernel
theorem d_Arrays_copyOf3_23 : decode b_Arrays_copyOf3 23 = .ok (.arraylength, 1) := by decide +kernel
theorem d_Arrays_copyOf3_24 : decode b_Arrays_copyOf3 24 = .ok (.iload_n 1, 1) := by decide +kernel
theorem d_Arrays_copyOf3_25 : decode b_Arrays_copyOf3 25 = .ok (.invokestatic 304, 3) := by decide +kernel
theorem d_Arrays_copyOf3_28 : decode b_Arrays_copyOf3 28 = .ok (.invokestatic 150, 3) := by decide +kernel
theorem d_Arrays_copyOf3_31 : decode b_Arrays_copyOf3 31 = .ok (.aload_n 2, 1) := by decide +kernel
theorem d_Arrays_copyOf3_32 : decode b_Arrays_copyOf3 32 = .ok (.areturn, 1) := by decide +kernel
theorem q_Arrays_copyOf3 : px_y y_Arrays_copyOf3 2 := by unfold px_y; decide +kernel
set_option maxHeartbeats 4000000 in
set_option maxRecDepth 100000 in
theorem c_ar_copyI (l : Launch) (D : va_G) (cs : Nat → ClassId) (iq : Nat) (ic : Nat) (ig : Nat → Int32) (p0 : Int32)  (g0 : ic ≤ 1000000) (g1 : 0 ≤ p0.toInt) (g2 : p0.toInt ≤ 1000000) : MgR l y_Arrays_copyOf3 b_Arrays_copyOf3 3 (.array (.int)) D cs 1 60 (1) ((p0.toInt.toNat)) [.ref iq, .int p0] [[(iq, .inl (cs 0, ic, .inl ig))]] (fun _ => True) (fun v ps => ∃ (qn' : Nat) (nn' : Nat) (gn' : Nat → Int32), (ps.1 = [[(iq, .inl (cs 0, ic, .inl ig))], [(qn', .inl (cs 0, nn', .inl gn'))]]) ∧ (v = some qn') ∧ ((nn' : Int) = p0.toInt) ∧ (CpI ic ig p0.toInt gn') ∧ (R_ar_copyI ic ig p0 gn') ∧ (ps.2.1 = 1) ∧ ((ps.2.2 : Int) = p0.toInt)) := by
  refine pg_enter (by decide) (Nat.le_of_ble_eq_true rfl) ?_
  intro p e s m below meth c A ls hAe S hr hlk hnm hA hT hX hw hl
  have hl : lv_has ls 3 [(0, .ref iq), (1, .int p0)] := hl
  have lp0 := Int32.le_toInt p0
  have up0 := Int32.toInt_lt p0
  have cst0 : (0 : Int32).toInt = 0 := rfl
  have hcn : (nI ic).toInt = (ic : Int) := nI_toInt (by omega)
  refine lv_iload_n S.x S.b d_Arrays_copyOf3_0 rfl (lv_at hl 1 rfl) ?_
  refine lv_aload_n S.x S.b d_Arrays_copyOf3_1 rfl (lv_at hl 0 rfl) ?_
  refine px_len S hT hw 0 0 0 rfl rfl rfl (v := (nI ic)) rfl d_Arrays_copyOf3_2 ?_
  refine lv_icmp_ne (tgt := 14) S.x S.b d_Arrays_copyOf3_3 (by decide) (fun c1 => ?_) (fun c1 => ?_)
  · have nc1 : ¬ p0.toInt = (nI ic).toInt := mt (i_eq (x := p0) (y := (nI ic))).mpr c1
    refine lv_iload_n S.x S.b d_Arrays_copyOf3_14 rfl (lv_at hl 1 rfl) ?_
    have hcl_q3 := cl_nat (x := p0) (by first | exact g1 | omega)
    refine px_newa S hT hw hA (atype := .int) m1_166 0 rfl rfl (n := p0) (N' := p0.toNatClampNeg) (a0 := (p0.toNatClampNeg, .inl (fun _ => 0))) (fun _ => rfl) (fun hq => by have := i_lt.mp hq; have : (0 : Int32).toInt = 0 := rfl; omega) rfl (show p0.toNatClampNeg * 4 ≤ 536870912 by omega) (show 0 + 1 ≤ 1 from by omega) (show 0 + p0.toNatClampNeg ≤ (p0.toInt.toNat) from by omega) d_Arrays_copyOf3_15 (fun q3 H hw => ?_)
    have hw : pw D A s.heap H _ [[(iq, .inl (cs 0, ic, .inl ig))], [(q3, .inl (cs 0, p0.toNatClampNeg, .inl (fun _ => 0)))]] := hw
    refine lv_astore_n (lv' := [(2, .ref q3), (0, .ref iq), (1, .int p0)]) S.x S.b d_Arrays_copyOf3_17 rfl hl (by decide) rfl (fun ls hl => ?_)
    refine lv_aload_n S.x S.b d_Arrays_copyOf3_18 rfl (lv_at hl 1 rfl) ?_
    refine lv_iconst (v := 0) S.x S.b d_Arrays_copyOf3_19 (by decide) ?_
    refine lv_aload_n S.x S.b d_Arrays_copyOf3_20 rfl (lv_at hl 0 rfl) ?_
    refine lv_iconst (v := 0) S.x S.b d_Arrays_copyOf3_21 (by decide) ?_
    refine lv_aload_n S.x S.b d_Arrays_copyOf3_22 rfl (lv_at hl 1 rfl) ?_
    refine px_len S hT hw 0 0 0 rfl rfl rfl (v := (nI ic)) rfl d_Arrays_copyOf3_23 ?_
    refine lv_iload_n S.x S.b d_Arrays_copyOf3_24 rfl (lv_at hl 2 rfl) ?_
    refine va_mmin S.x S.b (by rw [S.ml]; exact hl.1.symm) S.own (S.w m2_67) (S.w m2_68) (S.w m1_13) (S.w m2_69) (Nat.le_of_ble_eq_true rfl) (Nat.le_of_ble_eq_true rfl) (show (0 + 1) ≤ 1 from by omega) (show (0 + p0.toNatClampNeg) ≤ (p0.toInt.toNat) from by omega) d_Arrays_copyOf3_25 ?_
    refine lv_topi (fun z4 ez4 => ?_)
    have tz4 := i_min (nI ic) p0 ez4
    have lz4 := Int32.le_toInt z4
    have uz4 := Int32.toInt_lt z4
    refine px_copyI S hT hw 0 0 1 0 (f := ig) (g := (fun _ => 0)) rfl rfl rfl rfl (sp := 0) (dp := 0) (n := z4) (by omega) (by omega) (by omega) (by omega) (by omega) m2_70 m2_72 m2_71 m1_15 hl.1 (Nat.le_of_ble_eq_true rfl) (Nat.le_of_ble_eq_true rfl) d_Arrays_copyOf3_28 (w' := [(q3, .inl (cs 0, p0.toNatClampNeg, .inl (va_cpy ig (fun _ => 0) (0 : Int32).toNatClampNeg (0 : Int32).toNatClampNeg z4.toNatClampNeg)))]) (ps' := [[(iq, .inl (cs 0, ic, .inl ig))], [(q3, .inl (cs 0, p0.toNatClampNeg, .inl (va_cpy ig (fun _ => 0) (0 : Int32).toNatClampNeg (0 : Int32).toNatClampNeg z4.toNatClampNeg)))]]) rfl rfl (fun H locs hw => ?_)
    refine lv_aload_n S.x S.b d_Arrays_copyOf3_31 rfl (lv_at hl 0 rfl) ?_
    exact pg_aret (v := (some q3)) S hr (Or.inr ⟨_, rfl⟩) hlk hAe hw (show (0 + 1) ≤ 1 from by omega) (show (0 + p0.toNatClampNeg) ≤ (p0.toInt.toNat) from by omega) (⟨q3, p0.toNatClampNeg, (va_cpy ig (fun _ => 0) (0 : Int32).toNatClampNeg (0 : Int32).toNatClampNeg z4.toNatClampNeg), rfl, rfl, (show (p0.toNatClampNeg : Int) = p0.toInt from by first | exact hcl_q3 | omega), (show CpI ic ig p0.toInt (va_cpy ig (fun _ => 0) (0 : Int32).toNatClampNeg (0 : Int32).toNatClampNeg z4.toNatClampNeg) from (cpi_mk (by omega) (by omega))), (show R_ar_copyI ic ig p0 (va_cpy ig (fun _ => 0) (0 : Int32).toNatClampNeg (0 : Int32).toNatClampNeg z4.toNatClampNeg) from (Or.inl (Or.inl ⟨nc1, z4, ez4, rfl⟩))), (show (0 + 1) = 1 from by omega), (show ((0 + p0.toNatClampNeg) : Int) = p0.toInt from by first | exact oz_fe6a99f05c hcl_q3 | omega)⟩) d_Arrays_copyOf3_32
  · have nc1 : p0.toInt = (nI ic).toInt := (i_eq (x := p0) (y := (nI ic))).mp c1
    refine lv_aload_n S.x S.b d_Arrays_copyOf3_6 rfl (lv_at hl 0 rfl) ?_
    refine px_cloneI S hT hw hA 0 0 (n := ic) (f := ig) rfl rfl m6_59 m6_60 m6_61 m6_62 m6_63 m6_64n hl.1 (Nat.le_of_ble_eq_true rfl) (Nat.le_of_ble_eq_true rfl) (show 0 + 1 ≤ 1 from by omega) (show 0 + ic ≤ (p0.toInt.toNat) from by omega) d_Arrays_copyOf3_7 (fun q5 H hw => ?_)
    have hw : pw D A s.heap H _ [[(iq, .inl (cs 0, ic, .inl ig))], [(q5, .inl (cs 0, ic, .inl ig))]] := hw
    refine px_castI S hT hw 1 0 rfl rfl m6_65 d_Arrays_copyOf3_10 ?_
    exact pg_aret (v := (some q5)) S hr (Or.inr ⟨_, rfl⟩) hlk hAe hw (show (0 + 1) ≤ 1 from by omega) (show (0 + ic) ≤ (p0.toInt.toNat) from by omega) (⟨q5, ic, ig, rfl, rfl, (show (ic : Int) = p0.toInt from by first | exact oz_de50adbfe2 hcn nc1 | omega), (show CpI ic ig p0.toInt ig from cpi_id), (show R_ar_copyI ic ig p0 ig from (Or.inl (Or.inr ⟨nc1, rfl⟩))), (show (0 + 1) = 1 from by omega), (show ((0 + ic) : Int) = p0.toInt from by first | exact oz_0f06169ee5 hcn nc1 | omega)⟩) d_Arrays_copyOf3_13
