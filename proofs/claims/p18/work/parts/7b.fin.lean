theorem oz_3093cb7d1b {n0 : Nat} (h0 : n0 ≤ 100000) : n0 ≤ 1000000 := by omega
theorem oz_58f944d8b2 {a0 a1 a2 : Int} (h0 : a0 = a1 + a2) (h1 : 0 ≤ a1) (h2 : 0 ≤ a2) : 0 ≤ a0 := by omega
theorem oz_635573460b {a0 a1 a2 : Int} {n3 n4 : Nat} (h0 : a0 = a1 + a2) (h1 : a1 ≤ (n3 : Int)) (h2 : a2 ≤ (n4 : Int)) (h3 : n3 ≤ 100000) (h4 : n4 ≤ 100000) : a0 ≤ 1000000 := by omega
theorem oz_726b894bb8 {n0 : Nat} (h0 : n0 = 1) : (0 + n0) + 1 ≤ 3 := by omega
theorem oz_8819cd6dbb {a0 a1 : Int} (h0 : a0 = 3 * a1) (h1 : 0 ≤ a1) : 0 ≤ a0 := by omega
theorem oz_8844fd171d {a0 a1 : Int} (h0 : a0 = 3 * a1) (h1 : a1 ≤ 100000) : a0 ≤ 1000000 := by omega
theorem oz_3bfd5a5a66 {n0 : Nat} (h0 : n0 = 1) : ((0 + n0) + 1) + 1 ≤ 3 := by omega
theorem oz_a6c915f06a {n0 n1 : Nat} (h0 : n0 = 1) (h1 : n1 = 1) : (((0 + n0) + 1) + n1) + 0 ≤ 3 := by omega
theorem oz_28f81d9ab5 {n0 n1 : Nat} (h0 : n0 = 1) (h1 : n1 = 1) : (((0 + n0) + 1) + n1) ≤ 3 := by omega
theorem oz_52de0214f7 {n0 n1 : Nat} (h0 : n0 = 1) (h1 : n1 = 1) : (((0 + n0) + 1) + n1) = 3 := by omega
theorem oz_37f4016f63 {a4 a5 : Int} {n0 n1 n2 n3 : Nat} (h0 : (n2 : Int) = a4) (h1 : (n0 : Int) = a4) (h2 : (n3 : Int) = a5) (h3 : (n1 : Int) = a5) : (((0 + n0) + 6) + n1) = n2 + n3 + 6 := by omega
theorem m2_101 : Cond.fieldLink "HomeSystem$TextCompiler" 101 "HomeSystem$Program" "code" "[I" ∈ AL := AL_2 (List.mem_of_getElem? (i := 101) rfl) rfl
theorem m6_56 : Cond.methodLink "HomeSystem$TextCompiler" 104 ⟨"java/util/Arrays", "copyOf", "([II)[I"⟩ ∈ AL := AL_6 (List.mem_of_getElem? (i := 56) rfl) rfl
theorem m6_58 : Cond.code ⟨"java/util/Arrays", "copyOf", "([II)[I"⟩ prog_40_method_123_code 3 (Option.some (FieldType.array FieldType.int)) ∈ AL := AL_6 (List.mem_of_getElem? (i := 58) rfl) rfl
theorem m6_57 : Cond.static ⟨"java/util/Arrays", "copyOf", "([II)[I"⟩ ∈ AL := AL_6 (List.mem_of_getElem? (i := 57) rfl) rfl
theorem m6_66 : Cond.methodLink "HomeSystem$TextCompiler" 110 ⟨"java/lang/System", "arraycopy", "(Ljava/lang/Object;ILjava/lang/Object;II)V"⟩ ∈ AL := AL_6 (List.mem_of_getElem? (i := 66) rfl) rfl
theorem m2_104 : Cond.fieldLink "HomeSystem$TextCompiler" 116 "HomeSystem$Program" "functions" "[I" ∈ AL := AL_2 (List.mem_of_getElem? (i := 104) rfl) rfl
theorem m2_109 : Cond.fieldLink "HomeSystem$TextCompiler" 122 "HomeSystem$Program" "start" "I" ∈ AL := AL_2 (List.mem_of_getElem? (i := 109) rfl) rfl
theorem m2_111 : Cond.fieldLink "HomeSystem$TextCompiler" 128 "HomeSystem$Program" "globals" "I" ∈ AL := AL_2 (List.mem_of_getElem? (i := 111) rfl) rfl
/-! A PROGRAM is put together -/
theorem lk_z : Lk 0 := Or.inr (by decide)
theorem rt_cp {n0 : Nat} {f g : Nat → Int32} {n : Int} (h : RtOk f) (c : CpI n0 f n g) : RtOk g := by
  rcases c with ⟨c1, c2 | c2⟩
  · intro j
    by_cases q : ((3 * j : Nat) : Int) < n ∧ ((3 * j : Nat) : Int) < (n0 : Int)
    · rw [c1 _ q.1 q.2]; exact h j
    · rw [c2 _ q]; exact lk_z
  · rw [c2]; exact h
theorem code_cp {n0 : Nat} {f g : Nat → Int32} {n : Int} (h : CodeOk f) (c : CpI n0 f n g) (h4 : n % 4 = 0) (h5 : (n0 : Int) % 4 = 0) : CodeOk g := by
  rcases c with ⟨c1, c2 | c2⟩
  · intro j
    by_cases q : ((4 * j : Nat) : Int) < n ∧ ((4 * j : Nat) : Int) < (n0 : Int)
    · rw [c1 _ q.1 q.2, c1 (4 * j + 1) (by omega) (by omega)]; exact h j
    · rw [c2 _ q, c2 (4 * j + 1) (by omega)]
      exact ⟨fun a => absurd a (by decide), fun a => absurd a (by decide)⟩
  · rw [c2]; exact h
theorem code_ap {f g : Nat → Int32} {k n : Nat} (h : CodeOk f) (h2 : CodeOk g) (h4 : k % 4 = 0) (h5 : n % 4 = 0) : CodeOk (va_cpy f g 0 k n) := fun j => by
  unfold va_cpy
  by_cases q : k ≤ 4 * j ∧ 4 * j < k + n
  · rw [if_pos q, if_pos (by omega), show 0 + (4 * j - k) = 4 * (j - k / 4) by omega, show 0 + (4 * j + 1 - k) = 4 * (j - k / 4) + 1 by omega]; exact h _
  · rw [if_neg q, if_neg (by omega)]; exact h2 j
abbrev b_Cmp_finished : ByteArray := prog_10_method_4_code
def y_Cmp_finished : MethodName := ⟨"HomeSystem$TextCompiler", "finished", "()LHomeSystem$Program;"⟩
theorem d_Cmp_finished_0 : decode b_Cmp_finished 0 = .ok (.aload_n 0, 1) := by decide +kernel
theorem d_Cmp_finished_1 : decode b_Cmp_finished 1 = .ok (.getfield 26, 3) := by decide +kernel
theorem d_Cmp_finished_4 : decode b_Cmp_finished 4 = .ok (.getfield 101, 3) := by decide +kernel
theorem d_Cmp_finished_7 : decode b_Cmp_finished 7 = .ok (.aload_n 0, 1) := by decide +kernel
theorem d_Cmp_finished_8 : decode b_Cmp_finished 8 = .ok (.getfield 26, 3) := by decide +kernel
theorem d_Cmp_finished_11 : decode b_Cmp_finished 11 = .ok (.getfield 71, 3) := by decide +kernel
theorem d_Cmp_finished_14 : decode b_Cmp_finished 14 = .ok (.aload_n 0, 1) := by decide +kernel
theorem d_Cmp_finished_15 : decode b_Cmp_finished 15 = .ok (.getfield 39, 3) := by decide +kernel
theorem d_Cmp_finished_18 : decode b_Cmp_finished 18 = .ok (.getfield 71, 3) := by decide +kernel
theorem d_Cmp_finished_21 : decode b_Cmp_finished 21 = .ok (.iadd, 1) := by decide +kernel
theorem d_Cmp_finished_22 : decode b_Cmp_finished 22 = .ok (.invokestatic 104, 3) := by decide +kernel
theorem d_Cmp_finished_25 : decode b_Cmp_finished 25 = .ok (.astore_n 1, 1) := by decide +kernel
theorem d_Cmp_finished_26 : decode b_Cmp_finished 26 = .ok (.aload_n 0, 1) := by decide +kernel
theorem d_Cmp_finished_27 : decode b_Cmp_finished 27 = .ok (.getfield 39, 3) := by decide +kernel
theorem d_Cmp_finished_30 : decode b_Cmp_finished 30 = .ok (.getfield 101, 3) := by decide +kernel
theorem d_Cmp_finished_33 : decode b_Cmp_finished 33 = .ok (.iconst 0, 1) := by decide +kernel
theorem d_Cmp_finished_34 : decode b_Cmp_finished 34 = .ok (.aload_n 1, 1) := by decide +kernel
theorem d_Cmp_finished_35 : decode b_Cmp_finished 35 = .ok (.aload_n 0, 1) := by decide +kernel
theorem d_Cmp_finished_36 : decode b_Cmp_finished 36 = .ok (.getfield 26, 3) := by decide +kernel
theorem d_Cmp_finished_39 : decode b_Cmp_finished 39 = .ok (.getfield 71, 3) := by decide +kernel
theorem d_Cmp_finished_42 : decode b_Cmp_finished 42 = .ok (.aload_n 0, 1) := by decide +kernel
theorem d_Cmp_finished_43 : decode b_Cmp_finished 43 = .ok (.getfield 39, 3) := by decide +kernel
theorem d_Cmp_finished_46 : decode b_Cmp_finished 46 = .ok (.getfield 71, 3) := by decide +kernel
theorem d_Cmp_finished_49 : decode b_Cmp_finished 49 = .ok (.invokestatic 110, 3) := by decide +kernel
theorem d_Cmp_finished_52 : decode b_Cmp_finished 52 = .ok (.new 34, 3) := by decide +kernel
theorem d_Cmp_finished_55 : decode b_Cmp_finished 55 = .ok (.dup, 1) := by decide +kernel
theorem d_Cmp_finished_56 : decode b_Cmp_finished 56 = .ok (.aload_n 1, 1) := by decide +kernel
theorem d_Cmp_finished_57 : decode b_Cmp_finished 57 = .ok (.aload_n 0, 1) := by decide +kernel
theorem d_Cmp_finished_58 : decode b_Cmp_finished 58 = .ok (.getfield 26, 3) := by decide +kernel
theorem d_Cmp_finished_61 : decode b_Cmp_finished 61 = .ok (.getfield 116, 3) := by decide +kernel
theorem d_Cmp_finished_64 : decode b_Cmp_finished 64 = .ok (.iconst 3, 1) := by decide +kernel
theorem d_Cmp_finished_65 : decode b_Cmp_finished 65 = .ok (.aload_n 0, 1) := by decide +kernel
theorem d_Cmp_finished_66 : decode b_Cmp_finished 66 = .ok (.getfield 119, 3) := by decide +kernel
theorem d_Cmp_finished_69 : decode b_Cmp_finished 69 = .ok (.imul, 1) := by decide +kernel
theorem d_Cmp_finished_70 : decode b_Cmp_finished 70 = .ok (.invokestatic 104, 3) := by decide +kernel
theorem d_Cmp_finished_73 : decode b_Cmp_finished 73 = .ok (.iconst 0, 1) := by decide +kernel
theorem d_Cmp_finished_74 : decode b_Cmp_finished 74 = .ok (.invokespecial 36, 3) := by decide +kernel
theorem d_Cmp_finished_77 : decode b_Cmp_finished 77 = .ok (.astore_n 2, 1) := by decide +kernel
theorem d_Cmp_finished_78 : decode b_Cmp_finished 78 = .ok (.aload_n 2, 1) := by decide +kernel
theorem d_Cmp_finished_79 : decode b_Cmp_finished 79 = .ok (.aload_n 0, 1) := by decide +kernel
theorem d_Cmp_finished_80 : decode b_Cmp_finished 80 = .ok (.getfield 26, 3) := by decide +kernel
theorem d_Cmp_finished_83 : decode b_Cmp_finished 83 = .ok (.getfield 71, 3) := by decide +kernel
theorem d_Cmp_finished_86 : decode b_Cmp_finished 86 = .ok (.putfield 122, 3) := by decide +kernel
theorem d_Cmp_finished_89 : decode b_Cmp_finished 89 = .ok (.aload_n 2, 1) := by decide +kernel
theorem d_Cmp_finished_90 : decode b_Cmp_finished 90 = .ok (.aload_n 0, 1) := by decide +kernel
theorem d_Cmp_finished_91 : decode b_Cmp_finished 91 = .ok (.getfield 125, 3) := by decide +kernel
theorem d_Cmp_finished_94 : decode b_Cmp_finished 94 = .ok (.putfield 128, 3) := by decide +kernel
theorem d_Cmp_finished_97 : decode b_Cmp_finished 97 = .ok (.aload_n 2, 1) := by decide +kernel
theorem d_Cmp_finished_98 : decode b_Cmp_finished 98 = .ok (.areturn, 1) := by decide +kernel
theorem q_Cmp_finished : px_y y_Cmp_finished 0 := by unfold px_y; decide +kernel
set_option maxHeartbeats 4000000 in
set_option maxRecDepth 100000 in
theorem c_tc_finished (l : Launch) (D : va_G) (cs : Nat → ClassId) (he : Nat) (re : Nat → Nat) (eo : Nat → Option Nat) (ef : Nat → Int32) (ea : Nat → Nat → Int32) (eg : Nat → Nat → Option Nat) (hc : Nat) (hs : Nat) (ra : Nat → Nat) (cf : Nat → Int32) (ca : Nat → Nat → Int32) (fo : Option Nat) (rp : Nat → Nat) (fu : Nat) (cn : Nat) (fn : Nat) (ft : Nat → Int32) (fp : Nat → Int32) (cd : Nat → Int32) (rs : Nat → Nat) (sn : Nat) (fs : Nat → Int32) (sd : Nat → Int32)  (g0 : cn % 4 = 0) (g1 : cn ≤ 100000) (g2 : sn % 4 = 0) (g3 : sn ≤ 100000) (g4 : fn ≤ 1000000) (g5 : 0 ≤ (cf 10).toInt) (g6 : (cf 10).toInt ≤ 100000) (hpk : Pok cn (fp 3) cd) (hpkS : Pok sn (fs 3) sd) (hrt : RtOk ft) : MgR l y_Cmp_finished b_Cmp_finished 3 (.object "HomeSystem$Program") D cs 2 120 (3) ((((fp 3).toInt + (fs 3).toInt + 3 * (cf 10).toInt + 6).toNat)) [.ref hc] [wd_Exp cs he re eo ef ea eg, wd_Cmp cs hc (fun k => if k = 0 then re 0 else if k = 1 then re 1 else if k = 2 then he else if k = 3 then re 2 else if k = 4 then hs else ra k) (fun k => if k = 9 then fo else none) cf ca (fun _ _ => none), wd_Prg cs (re 2) rp (fun k => if k = 2 then (some fu) else none) fp (fun _ _ => 0) (fun _ _ => none), [((rp 1), .inl (cs 0, cn, .inl cd))], [(fu, .inl (cs 0, fn, .inl ft))], wd_Prg cs hs rs (fun k => if k = 2 then none else none) fs (fun _ _ => 0) (fun _ _ => none), [((rs 1), .inl (cs 0, sn, .inl sd))]] (fun _ => True) (fun v ps => ∃ (hx qc qf nc nf : Nat) (c f : Nat → Int32) (st9 gl : Int32), ps.1 = [wd_Exp cs he re eo ef ea eg, wd_Cmp cs hc (fun k => if k = 0 then re 0 else if k = 1 then re 1 else if k = 2 then he else if k = 3 then re 2 else if k = 4 then hs else ra k) (fun k => if k = 9 then fo else none) cf ca (fun _ _ => none), wd_Prg cs (re 2) rp (fun k => if k = 2 then (some fu) else none) fp (fun _ _ => 0) (fun _ _ => none), [((rp 1), .inl (cs 0, cn, .inl cd))], [(fu, .inl (cs 0, fn, .inl ft))], wd_Prg cs hs rs (fun k => if k = 2 then none else none) fs (fun _ _ => 0) (fun _ _ => none), [((rs 1), .inl (cs 0, sn, .inl sd))], [(qc, .inl (cs 0, nc, .inl c))], [(qf, .inl (cs 0, nf, .inl f))], [(hx, .inr (4, [.int 0, .ref qc, .ref qf, .int 0, .int st9, .int gl]))]] ∧ v = some hx ∧ CodeOk c ∧ RtOk f ∧ (nc : Int) = (fp 3).toInt + (fs 3).toInt ∧ (nf : Int) = 3 * (cf 10).toInt ∧ st9.toInt = (fp 3).toInt ∧ gl.toInt = (cf 11).toInt ∧ ps.2.1 = 3 ∧ ps.2.2 = nc + nf + 6 ∧ R_tc_finished cf cn fn ft fp cd fs v) := by
  refine pg_enter (by decide) (Nat.le_of_ble_eq_true rfl) ?_
  intro p e s m below meth c A ls hAe S hr hlk hnm hA hT hX hw hl
  have hl : lv_has ls 3 [(0, .ref hc)] := hl
  have cst0 : (0 : Int32).toInt = 0 := rfl
  have cst3 : (3 : Int32).toInt = 3 := rfl
  have pz0 := hpk.1
  have pzS0 := hpkS.1
  refine lv_aload_n S.x S.b d_Cmp_finished_0 rfl (lv_at hl 0 rfl) ?_
  refine px_get S k_Cmp hT hw 1 0 3 (v := .ref (re 2)) rfl rfl rfl (by decide) m2_152 d_Cmp_finished_1 ?_
  refine px_get S k_Prg hT hw 2 0 1 (v := .ref (rp 1)) rfl rfl rfl (by decide) m2_101 d_Cmp_finished_4 ?_
  refine lv_aload_n S.x S.b d_Cmp_finished_7 rfl (lv_at hl 0 rfl) ?_
  refine px_get S k_Cmp hT hw 1 0 3 (v := .ref (re 2)) rfl rfl rfl (by decide) m2_152 d_Cmp_finished_8 ?_
  refine px_get S k_Prg hT hw 2 0 3 (v := .int (fp 3)) rfl rfl rfl (by decide) m2_106 d_Cmp_finished_11 ?_
  refine lv_aload_n S.x S.b d_Cmp_finished_14 rfl (lv_at hl 0 rfl) ?_
  refine px_get S k_Cmp hT hw 1 0 4 (v := .ref hs) rfl rfl rfl (by decide) m2_153 d_Cmp_finished_15 ?_
  refine px_get S k_Prg hT hw 5 0 3 (v := .int (fs 3)) rfl rfl rfl (by decide) m2_106 d_Cmp_finished_18 ?_
  refine lv_iadd S.x S.b d_Cmp_finished_21 ?_
  have lr1 := Int32.le_toInt (fp 3)
  have ur1 := Int32.toInt_lt (fp 3)
  have lr2 := Int32.le_toInt (fs 3)
  have ur2 := Int32.toInt_lt (fs 3)
  refine lv_topi (fun z3 ez3 => ?_)
  have tz3 : z3.toInt = ((fp 3).toInt + (fs 3).toInt + 2147483648) % 4294967296 - 2147483648 := by rw [ez3]; exact i_add (fp 3) (fs 3)
  have lz3 := Int32.le_toInt z3
  have uz3 := Int32.toInt_lt z3
  try replace tz3 : z3.toInt = (fp 3).toInt + (fs 3).toInt := by omega
  have hw : pw D A s.heap _ _ [wd_Exp cs he re eo ef ea eg, wd_Cmp cs hc (fun k => if k = 0 then re 0 else if k = 1 then re 1 else if k = 2 then he else if k = 3 then re 2 else if k = 4 then hs else ra k) (fun k => if k = 9 then fo else none) cf ca (fun _ _ => none), wd_Prg cs (re 2) rp (fun k => if k = 2 then (some fu) else none) fp (fun _ _ => 0) (fun _ _ => none), [(fu, .inl (cs 0, fn, .inl ft))], wd_Prg cs hs rs (fun k => if k = 2 then none else none) fs (fun _ _ => 0) (fun _ _ => none), [((rs 1), .inl (cs 0, sn, .inl sd))], [((rp 1), .inl (cs 0, cn, .inl cd))]] := hw.sub [0, 1, 2, 4, 5, 6, 3] rfl rfl
  refine pg_callq (pr := [wd_Exp cs he re eo ef ea eg, wd_Cmp cs hc (fun k => if k = 0 then re 0 else if k = 1 then re 1 else if k = 2 then he else if k = 3 then re 2 else if k = 4 then hs else ra k) (fun k => if k = 9 then fo else none) cf ca (fun _ _ => none), wd_Prg cs (re 2) rp (fun k => if k = 2 then (some fu) else none) fp (fun _ _ => 0) (fun _ _ => none), [(fu, .inl (cs 0, fn, .inl ft))], wd_Prg cs hs rs (fun k => if k = 2 then none else none) fs (fun _ _ => 0) (fun _ _ => none), [((rs 1), .inl (cs 0, sn, .inl sd))]]) (px_runS (As := [.ref (rp 1), .int z3]) (rest := []) S (c_ar_copyI l D cs (rp 1) cn cd z3  (show cn ≤ 1000000 from by first | exact oz_3093cb7d1b g1 | omega) (show 0 ≤ z3.toInt from by first | exact oz_58f944d8b2 tz3 pz0.1 pzS0.1 | omega) (show z3.toInt ≤ 1000000 from by first | exact oz_635573460b tz3 pz0.2.2 pzS0.2.2 g1 g3 | omega) _ _) hT (pr := [wd_Exp cs he re eo ef ea eg, wd_Cmp cs hc (fun k => if k = 0 then re 0 else if k = 1 then re 1 else if k = 2 then he else if k = 3 then re 2 else if k = 4 then hs else ra k) (fun k => if k = 9 then fo else none) cf ca (fun _ _ => none), wd_Prg cs (re 2) rp (fun k => if k = 2 then (some fu) else none) fp (fun _ _ => 0) (fun _ _ => none), [(fu, .inl (cs 0, fn, .inl ft))], wd_Prg cs hs rs (fun k => if k = 2 then none else none) fs (fun _ _ => 0) (fun _ _ => none), [((rs 1), .inl (cs 0, sn, .inl sd))]]) (pcs := [[((rp 1), .inl (cs 0, cn, .inl cd))]]) hw (px_X.tot px_X.tt) m6_58 m6_56 m6_57 m1_14 q_Arrays_copyOf3 ⟨Nat.le_of_ble_eq_true rfl, Nat.le_of_ble_eq_true rfl⟩ hl.1 rfl (Nat.le_of_ble_eq_true rfl) d_Cmp_finished_22 ⟨show 0 + 1 ≤ 3 from by omega, show 0 + (z3.toInt.toNat) ≤ (((fp 3).toInt + (fs 3).toInt + 3 * (cf 10).toInt + 6).toNat) from by omega⟩) hw hA (fun v8 p7 k9 n10 H locs hp7 hw => ?_)
  dsimp only at hp7
  obtain ⟨qn4, nn5, gn6, rfl, rfl, e11, e12, e13, e14, e15⟩ := hp7
  have e11 : (nn5 : Int) = z3.toInt := e11
  have e12 : CpI cn cd z3.toInt gn6 := e12
  have hcpI := e12
  have e13 : R_ar_copyI cn cd z3 gn6 := e13
  have e14 : k9 = 1 := e14
  have e15 : (n10 : Int) = z3.toInt := e15
  have hw : pw D A s.heap H locs [wd_Exp cs he re eo ef ea eg, wd_Cmp cs hc (fun k => if k = 0 then re 0 else if k = 1 then re 1 else if k = 2 then he else if k = 3 then re 2 else if k = 4 then hs else ra k) (fun k => if k = 9 then fo else none) cf ca (fun _ _ => none), wd_Prg cs (re 2) rp (fun k => if k = 2 then (some fu) else none) fp (fun _ _ => 0) (fun _ _ => none), [(fu, .inl (cs 0, fn, .inl ft))], wd_Prg cs hs rs (fun k => if k = 2 then none else none) fs (fun _ _ => 0) (fun _ _ => none), [((rs 1), .inl (cs 0, sn, .inl sd))], [((rp 1), .inl (cs 0, cn, .inl cd))], [(qn4, .inl (cs 0, nn5, .inl gn6))]] := hw
  have hcp1 : CpI cn cd _ gn6 := hcpI; have hcd1 := code_cp hpk.2 hcp1 (by omega) (by omega)
  refine lv_astore_n (lv' := [(1, .ref qn4), (0, .ref hc)]) S.x S.b d_Cmp_finished_25 rfl hl (by decide) rfl (fun ls hl => ?_)
  refine lv_aload_n S.x S.b d_Cmp_finished_26 rfl (lv_at hl 1 rfl) ?_
  refine px_get S k_Cmp hT hw 1 0 4 (v := .ref hs) rfl rfl rfl (by decide) m2_153 d_Cmp_finished_27 ?_
  refine px_get S k_Prg hT hw 4 0 1 (v := .ref (rs 1)) rfl rfl rfl (by decide) m2_101 d_Cmp_finished_30 ?_
  refine lv_iconst (v := 0) S.x S.b d_Cmp_finished_33 (by decide) ?_
  refine lv_aload_n S.x S.b d_Cmp_finished_34 rfl (lv_at hl 0 rfl) ?_
  refine lv_aload_n S.x S.b d_Cmp_finished_35 rfl (lv_at hl 1 rfl) ?_
  refine px_get S k_Cmp hT hw 1 0 3 (v := .ref (re 2)) rfl rfl rfl (by decide) m2_152 d_Cmp_finished_36 ?_
  refine px_get S k_Prg hT hw 2 0 3 (v := .int (fp 3)) rfl rfl rfl (by decide) m2_106 d_Cmp_finished_39 ?_
  refine lv_aload_n S.x S.b d_Cmp_finished_42 rfl (lv_at hl 1 rfl) ?_
  refine px_get S k_Cmp hT hw 1 0 4 (v := .ref hs) rfl rfl rfl (by decide) m2_153 d_Cmp_finished_43 ?_
  refine px_get S k_Prg hT hw 4 0 3 (v := .int (fs 3)) rfl rfl rfl (by decide) m2_106 d_Cmp_finished_46 ?_
  refine px_copyI S hT hw 5 0 7 0 (f := sd) (g := gn6) rfl rfl rfl rfl (sp := 0) (dp := (fp 3)) (n := (fs 3)) (by omega) (by omega) (by omega) (by omega) (by omega) m6_66 m2_72 m2_71 m1_15 hl.1 (Nat.le_of_ble_eq_true rfl) (Nat.le_of_ble_eq_true rfl) d_Cmp_finished_49 (w' := [(qn4, .inl (cs 0, nn5, .inl (va_cpy sd gn6 (0 : Int32).toNatClampNeg (fp 3).toNatClampNeg (fs 3).toNatClampNeg)))]) (ps' := [wd_Exp cs he re eo ef ea eg, wd_Cmp cs hc (fun k => if k = 0 then re 0 else if k = 1 then re 1 else if k = 2 then he else if k = 3 then re 2 else if k = 4 then hs else ra k) (fun k => if k = 9 then fo else none) cf ca (fun _ _ => none), wd_Prg cs (re 2) rp (fun k => if k = 2 then (some fu) else none) fp (fun _ _ => 0) (fun _ _ => none), [(fu, .inl (cs 0, fn, .inl ft))], wd_Prg cs hs rs (fun k => if k = 2 then none else none) fs (fun _ _ => 0) (fun _ _ => none), [((rs 1), .inl (cs 0, sn, .inl sd))], [((rp 1), .inl (cs 0, cn, .inl cd))], [(qn4, .inl (cs 0, nn5, .inl (va_cpy sd gn6 (0 : Int32).toNatClampNeg (fp 3).toNatClampNeg (fs 3).toNatClampNeg)))]]) rfl rfl (fun H locs hw => ?_)
  have hcl3 := cl_nat (x := (fp 3)) (by first | exact pz0.1 | omega); have hcl4 := cl_nat (x := (fs 3)) (by first | exact pzS0.1 | omega); have hcdF : CodeOk (va_cpy sd gn6 (0 : Int32).toNatClampNeg (fp 3).toNatClampNeg (fs 3).toNatClampNeg) := code_ap hpkS.2 hcd1 (by omega) (by omega)
  refine px_new S k_Prg hT hw hA m2_147 m2_92 m1_16 (fs := [.int 0, .null, .null, .int 0, .int 0, .int 0]) (by decide +kernel) (show (0 + k9) + 1 ≤ 3 from by first | exact oz_726b894bb8 e14 | omega) (show (0 + n10) + 6 ≤ (((fp 3).toInt + (fs 3).toInt + 3 * (cf 10).toInt + 6).toNat) from by omega) d_Cmp_finished_52 (fun q16 H hw => ?_)
  have hw : pw D A s.heap H _ [wd_Exp cs he re eo ef ea eg, wd_Cmp cs hc (fun k => if k = 0 then re 0 else if k = 1 then re 1 else if k = 2 then he else if k = 3 then re 2 else if k = 4 then hs else ra k) (fun k => if k = 9 then fo else none) cf ca (fun _ _ => none), wd_Prg cs (re 2) rp (fun k => if k = 2 then (some fu) else none) fp (fun _ _ => 0) (fun _ _ => none), [(fu, .inl (cs 0, fn, .inl ft))], wd_Prg cs hs rs (fun k => if k = 2 then none else none) fs (fun _ _ => 0) (fun _ _ => none), [((rs 1), .inl (cs 0, sn, .inl sd))], [((rp 1), .inl (cs 0, cn, .inl cd))], [(qn4, .inl (cs 0, nn5, .inl (va_cpy sd gn6 (0 : Int32).toNatClampNeg (fp 3).toNatClampNeg (fs 3).toNatClampNeg)))], [(q16, .inr (4, [.int 0, .null, .null, .int 0, .int 0, .int 0]))]] := hw
  refine lv_dup S.x S.b d_Cmp_finished_55 rfl ?_
  refine lv_aload_n S.x S.b d_Cmp_finished_56 rfl (lv_at hl 0 rfl) ?_
  refine lv_aload_n S.x S.b d_Cmp_finished_57 rfl (lv_at hl 1 rfl) ?_
  refine px_get S k_Cmp hT hw 1 0 3 (v := .ref (re 2)) rfl rfl rfl (by decide) m2_152 d_Cmp_finished_58 ?_
  refine px_get S k_Prg hT hw 2 0 2 (v := .ref fu) rfl rfl rfl (by decide) m2_104 d_Cmp_finished_61 ?_
  refine lv_iconst (v := 3) S.x S.b d_Cmp_finished_64 (by decide) ?_
  refine lv_aload_n S.x S.b d_Cmp_finished_65 rfl (lv_at hl 1 rfl) ?_
  refine px_get S k_Cmp hT hw 1 0 10 (v := .int (cf 10)) rfl rfl rfl (by decide) m2_159 d_Cmp_finished_66 ?_
  refine lv_imul S.x S.b d_Cmp_finished_69 ?_
  have lr17 := Int32.le_toInt (cf 10)
  have ur17 := Int32.toInt_lt (cf 10)
  refine lv_topi (fun z18 ez18 => ?_)
  have lz18 := Int32.le_toInt z18
  have uz18 := Int32.toInt_lt z18
  have tz18 : -2147483648 ≤ 3 * (cf 10).toInt → 3 * (cf 10).toInt < 2147483648 → z18.toInt = 3 * (cf 10).toInt := by rw [ez18]; exact i_mulc 3 (cf 10) (by decide)
  try replace tz18 : z18.toInt = 3 * (cf 10).toInt := by omega
  have hw : pw D A s.heap _ _ [wd_Exp cs he re eo ef ea eg, wd_Cmp cs hc (fun k => if k = 0 then re 0 else if k = 1 then re 1 else if k = 2 then he else if k = 3 then re 2 else if k = 4 then hs else ra k) (fun k => if k = 9 then fo else none) cf ca (fun _ _ => none), wd_Prg cs (re 2) rp (fun k => if k = 2 then (some fu) else none) fp (fun _ _ => 0) (fun _ _ => none), wd_Prg cs hs rs (fun k => if k = 2 then none else none) fs (fun _ _ => 0) (fun _ _ => none), [((rs 1), .inl (cs 0, sn, .inl sd))], [((rp 1), .inl (cs 0, cn, .inl cd))], [(qn4, .inl (cs 0, nn5, .inl (va_cpy sd gn6 (0 : Int32).toNatClampNeg (fp 3).toNatClampNeg (fs 3).toNatClampNeg)))], [(q16, .inr (4, [.int 0, .null, .null, .int 0, .int 0, .int 0]))], [(fu, .inl (cs 0, fn, .inl ft))]] := hw.sub [0, 1, 2, 4, 5, 6, 7, 8, 3] rfl rfl
  refine pg_callq (pr := [wd_Exp cs he re eo ef ea eg, wd_Cmp cs hc (fun k => if k = 0 then re 0 else if k = 1 then re 1 else if k = 2 then he else if k = 3 then re 2 else if k = 4 then hs else ra k) (fun k => if k = 9 then fo else none) cf ca (fun _ _ => none), wd_Prg cs (re 2) rp (fun k => if k = 2 then (some fu) else none) fp (fun _ _ => 0) (fun _ _ => none), wd_Prg cs hs rs (fun k => if k = 2 then none else none) fs (fun _ _ => 0) (fun _ _ => none), [((rs 1), .inl (cs 0, sn, .inl sd))], [((rp 1), .inl (cs 0, cn, .inl cd))], [(qn4, .inl (cs 0, nn5, .inl (va_cpy sd gn6 (0 : Int32).toNatClampNeg (fp 3).toNatClampNeg (fs 3).toNatClampNeg)))], [(q16, .inr (4, [.int 0, .null, .null, .int 0, .int 0, .int 0]))]]) (px_runS (As := [.ref fu, .int z18]) (rest := [.ref qn4, .ref q16, .ref q16]) S (c_ar_copyI l D cs fu fn ft z18  (show fn ≤ 1000000 from by first | exact g4 | omega) (show 0 ≤ z18.toInt from by first | exact oz_8819cd6dbb tz18 g5 | omega) (show z18.toInt ≤ 1000000 from by first | exact oz_8844fd171d tz18 g6 | omega) _ _) hT (pr := [wd_Exp cs he re eo ef ea eg, wd_Cmp cs hc (fun k => if k = 0 then re 0 else if k = 1 then re 1 else if k = 2 then he else if k = 3 then re 2 else if k = 4 then hs else ra k) (fun k => if k = 9 then fo else none) cf ca (fun _ _ => none), wd_Prg cs (re 2) rp (fun k => if k = 2 then (some fu) else none) fp (fun _ _ => 0) (fun _ _ => none), wd_Prg cs hs rs (fun k => if k = 2 then none else none) fs (fun _ _ => 0) (fun _ _ => none), [((rs 1), .inl (cs 0, sn, .inl sd))], [((rp 1), .inl (cs 0, cn, .inl cd))], [(qn4, .inl (cs 0, nn5, .inl (va_cpy sd gn6 (0 : Int32).toNatClampNeg (fp 3).toNatClampNeg (fs 3).toNatClampNeg)))], [(q16, .inr (4, [.int 0, .null, .null, .int 0, .int 0, .int 0]))]]) (pcs := [[(fu, .inl (cs 0, fn, .inl ft))]]) hw (px_X.tot px_X.tt) m6_58 m6_56 m6_57 m1_14 q_Arrays_copyOf3 ⟨Nat.le_of_ble_eq_true rfl, Nat.le_of_ble_eq_true rfl⟩ hl.1 rfl (Nat.le_of_ble_eq_true rfl) d_Cmp_finished_70 ⟨show ((0 + k9) + 1) + 1 ≤ 3 from (by first | exact oz_3bfd5a5a66 e14 | omega), show ((0 + n10) + 6) + (z18.toInt.toNat) ≤ (((fp 3).toInt + (fs 3).toInt + 3 * (cf 10).toInt + 6).toNat) from by omega⟩) hw hA (fun v23 p22 k24 n25 H locs hp22 hw => ?_)
  dsimp only at hp22
  obtain ⟨qn19, nn20, gn21, rfl, rfl, e26, e27, e28, e29, e30⟩ := hp22
  have e26 : (nn20 : Int) = z18.toInt := e26
  have e27 : CpI fn ft z18.toInt gn21 := e27
  have hcpI := e27
  have e28 : R_ar_copyI fn ft z18 gn21 := e28
  have e29 : k24 = 1 := e29
  have e30 : (n25 : Int) = z18.toInt := e30
  have hw : pw D A s.heap H locs [wd_Exp cs he re eo ef ea eg, wd_Cmp cs hc (fun k => if k = 0 then re 0 else if k = 1 then re 1 else if k = 2 then he else if k = 3 then re 2 else if k = 4 then hs else ra k) (fun k => if k = 9 then fo else none) cf ca (fun _ _ => none), wd_Prg cs (re 2) rp (fun k => if k = 2 then (some fu) else none) fp (fun _ _ => 0) (fun _ _ => none), wd_Prg cs hs rs (fun k => if k = 2 then none else none) fs (fun _ _ => 0) (fun _ _ => none), [((rs 1), .inl (cs 0, sn, .inl sd))], [((rp 1), .inl (cs 0, cn, .inl cd))], [(qn4, .inl (cs 0, nn5, .inl (va_cpy sd gn6 (0 : Int32).toNatClampNeg (fp 3).toNatClampNeg (fs 3).toNatClampNeg)))], [(q16, .inr (4, [.int 0, .null, .null, .int 0, .int 0, .int 0]))], [(fu, .inl (cs 0, fn, .inl ft))], [(qn19, .inl (cs 0, nn20, .inl gn21))]] := hw
  have hcp2 : CpI fn ft _ gn21 := hcpI; have hrtF := rt_cp hrt hcp2
  refine lv_iconst (v := 0) S.x S.b d_Cmp_finished_73 (by decide) ?_
  have hw : pw D A s.heap _ _ [wd_Exp cs he re eo ef ea eg, wd_Cmp cs hc (fun k => if k = 0 then re 0 else if k = 1 then re 1 else if k = 2 then he else if k = 3 then re 2 else if k = 4 then hs else ra k) (fun k => if k = 9 then fo else none) cf ca (fun _ _ => none), wd_Prg cs (re 2) rp (fun k => if k = 2 then (some fu) else none) fp (fun _ _ => 0) (fun _ _ => none), wd_Prg cs hs rs (fun k => if k = 2 then none else none) fs (fun _ _ => 0) (fun _ _ => none), [((rs 1), .inl (cs 0, sn, .inl sd))], [((rp 1), .inl (cs 0, cn, .inl cd))], [(qn4, .inl (cs 0, nn5, .inl (va_cpy sd gn6 (0 : Int32).toNatClampNeg (fp 3).toNatClampNeg (fs 3).toNatClampNeg)))], [(fu, .inl (cs 0, fn, .inl ft))], [(qn19, .inl (cs 0, nn20, .inl gn21))], [(q16, .inr (4, [.int 0, .null, .null, .int 0, .int 0, .int 0]))]] := hw.sub [0, 1, 2, 3, 4, 5, 6, 8, 9, 7] rfl rfl
  refine px_callv (pr := [wd_Exp cs he re eo ef ea eg, wd_Cmp cs hc (fun k => if k = 0 then re 0 else if k = 1 then re 1 else if k = 2 then he else if k = 3 then re 2 else if k = 4 then hs else ra k) (fun k => if k = 9 then fo else none) cf ca (fun _ _ => none), wd_Prg cs (re 2) rp (fun k => if k = 2 then (some fu) else none) fp (fun _ _ => 0) (fun _ _ => none), wd_Prg cs hs rs (fun k => if k = 2 then none else none) fs (fun _ _ => 0) (fun _ _ => none), [((rs 1), .inl (cs 0, sn, .inl sd))], [((rp 1), .inl (cs 0, cn, .inl cd))], [(qn4, .inl (cs 0, nn5, .inl (va_cpy sd gn6 (0 : Int32).toNatClampNeg (fp 3).toNatClampNeg (fs 3).toNatClampNeg)))], [(fu, .inl (cs 0, fn, .inl ft))], [(qn19, .inl (cs 0, nn20, .inl gn21))]]) (px_runI (As := [.ref qn4, .ref qn19, .int 0]) (rest := [.ref q16]) S (c_Prg_init_00 l D cs q16 qn4 qn19 _) hT (pr := [wd_Exp cs he re eo ef ea eg, wd_Cmp cs hc (fun k => if k = 0 then re 0 else if k = 1 then re 1 else if k = 2 then he else if k = 3 then re 2 else if k = 4 then hs else ra k) (fun k => if k = 9 then fo else none) cf ca (fun _ _ => none), wd_Prg cs (re 2) rp (fun k => if k = 2 then (some fu) else none) fp (fun _ _ => 0) (fun _ _ => none), wd_Prg cs hs rs (fun k => if k = 2 then none else none) fs (fun _ _ => 0) (fun _ _ => none), [((rs 1), .inl (cs 0, sn, .inl sd))], [((rp 1), .inl (cs 0, cn, .inl cd))], [(qn4, .inl (cs 0, nn5, .inl (va_cpy sd gn6 (0 : Int32).toNatClampNeg (fp 3).toNatClampNeg (fs 3).toNatClampNeg)))], [(fu, .inl (cs 0, fn, .inl ft))], [(qn19, .inl (cs 0, nn20, .inl gn21))]]) (pcs := [[(q16, .inr (4, [.int 0, .null, .null, .int 0, .int 0, .int 0]))]]) hw px_X.tt m2_95 m2_148 m2_94 m1_16 rfl q_Prg_init ⟨Nat.le_of_ble_eq_true rfl, Nat.le_of_ble_eq_true rfl⟩ hl.1 rfl (Nat.le_of_ble_eq_true rfl) d_Cmp_finished_74 ⟨show (((0 + k9) + 1) + k24) + 0 ≤ 3 from (by first | exact oz_a6c915f06a e14 e29 | omega), show (((0 + n10) + 6) + n25) + 0 ≤ (((fp 3).toInt + (fs 3).toInt + 3 * (cf 10).toInt + 6).toNat) from by omega⟩) hw hA (fun p31 H locs hp31 hw => ?_)
  subst hp31
  have hw : pw D A s.heap H locs [wd_Exp cs he re eo ef ea eg, wd_Cmp cs hc (fun k => if k = 0 then re 0 else if k = 1 then re 1 else if k = 2 then he else if k = 3 then re 2 else if k = 4 then hs else ra k) (fun k => if k = 9 then fo else none) cf ca (fun _ _ => none), wd_Prg cs (re 2) rp (fun k => if k = 2 then (some fu) else none) fp (fun _ _ => 0) (fun _ _ => none), wd_Prg cs hs rs (fun k => if k = 2 then none else none) fs (fun _ _ => 0) (fun _ _ => none), [((rs 1), .inl (cs 0, sn, .inl sd))], [((rp 1), .inl (cs 0, cn, .inl cd))], [(qn4, .inl (cs 0, nn5, .inl (va_cpy sd gn6 (0 : Int32).toNatClampNeg (fp 3).toNatClampNeg (fs 3).toNatClampNeg)))], [(fu, .inl (cs 0, fn, .inl ft))], [(qn19, .inl (cs 0, nn20, .inl gn21))], [(q16, .inr (4, [.int 0, .ref qn4, .ref qn19, .int 0, .int 0, .int 0]))]] := hw
  refine lv_astore_n (lv' := [(2, .ref q16), (1, .ref qn4), (0, .ref hc)]) S.x S.b d_Cmp_finished_77 rfl hl (by decide) rfl (fun ls hl => ?_)
  refine lv_aload_n S.x S.b d_Cmp_finished_78 rfl (lv_at hl 0 rfl) ?_
  refine lv_aload_n S.x S.b d_Cmp_finished_79 rfl (lv_at hl 2 rfl) ?_
  refine px_get S k_Cmp hT hw 1 0 3 (v := .ref (re 2)) rfl rfl rfl (by decide) m2_152 d_Cmp_finished_80 ?_
  refine px_get S k_Prg hT hw 2 0 3 (v := .int (fp 3)) rfl rfl rfl (by decide) m2_106 d_Cmp_finished_83 ?_
  refine px_put S k_Prg hT hw 9 0 4 rfl rfl (by decide) m2_109 rfl rfl rfl (Nat.le_of_ble_eq_true rfl) d_Cmp_finished_86 (w' := [(q16, .inr (4, [.int 0, .ref qn4, .ref qn19, .int 0, .int (fp 3), .int 0]))]) (ps' := [wd_Exp cs he re eo ef ea eg, wd_Cmp cs hc (fun k => if k = 0 then re 0 else if k = 1 then re 1 else if k = 2 then he else if k = 3 then re 2 else if k = 4 then hs else ra k) (fun k => if k = 9 then fo else none) cf ca (fun _ _ => none), wd_Prg cs (re 2) rp (fun k => if k = 2 then (some fu) else none) fp (fun _ _ => 0) (fun _ _ => none), wd_Prg cs hs rs (fun k => if k = 2 then none else none) fs (fun _ _ => 0) (fun _ _ => none), [((rs 1), .inl (cs 0, sn, .inl sd))], [((rp 1), .inl (cs 0, cn, .inl cd))], [(qn4, .inl (cs 0, nn5, .inl (va_cpy sd gn6 (0 : Int32).toNatClampNeg (fp 3).toNatClampNeg (fs 3).toNatClampNeg)))], [(fu, .inl (cs 0, fn, .inl ft))], [(qn19, .inl (cs 0, nn20, .inl gn21))], [(q16, .inr (4, [.int 0, .ref qn4, .ref qn19, .int 0, .int (fp 3), .int 0]))]]) rfl rfl (fun H locs hw => ?_)
  refine lv_aload_n S.x S.b d_Cmp_finished_89 rfl (lv_at hl 0 rfl) ?_
  refine lv_aload_n S.x S.b d_Cmp_finished_90 rfl (lv_at hl 2 rfl) ?_
  refine px_get S k_Cmp hT hw 1 0 11 (v := .int (cf 11)) rfl rfl rfl (by decide) m2_160 d_Cmp_finished_91 ?_
  refine px_put S k_Prg hT hw 9 0 5 rfl rfl (by decide) m2_111 rfl rfl rfl (Nat.le_of_ble_eq_true rfl) d_Cmp_finished_94 (w' := [(q16, .inr (4, [.int 0, .ref qn4, .ref qn19, .int 0, .int (fp 3), .int (cf 11)]))]) (ps' := [wd_Exp cs he re eo ef ea eg, wd_Cmp cs hc (fun k => if k = 0 then re 0 else if k = 1 then re 1 else if k = 2 then he else if k = 3 then re 2 else if k = 4 then hs else ra k) (fun k => if k = 9 then fo else none) cf ca (fun _ _ => none), wd_Prg cs (re 2) rp (fun k => if k = 2 then (some fu) else none) fp (fun _ _ => 0) (fun _ _ => none), wd_Prg cs hs rs (fun k => if k = 2 then none else none) fs (fun _ _ => 0) (fun _ _ => none), [((rs 1), .inl (cs 0, sn, .inl sd))], [((rp 1), .inl (cs 0, cn, .inl cd))], [(qn4, .inl (cs 0, nn5, .inl (va_cpy sd gn6 (0 : Int32).toNatClampNeg (fp 3).toNatClampNeg (fs 3).toNatClampNeg)))], [(fu, .inl (cs 0, fn, .inl ft))], [(qn19, .inl (cs 0, nn20, .inl gn21))], [(q16, .inr (4, [.int 0, .ref qn4, .ref qn19, .int 0, .int (fp 3), .int (cf 11)]))]]) rfl rfl (fun H locs hw => ?_)
  refine lv_aload_n S.x S.b d_Cmp_finished_97 rfl (lv_at hl 0 rfl) ?_
  have hw : pw D A s.heap _ _ [wd_Exp cs he re eo ef ea eg, wd_Cmp cs hc (fun k => if k = 0 then re 0 else if k = 1 then re 1 else if k = 2 then he else if k = 3 then re 2 else if k = 4 then hs else ra k) (fun k => if k = 9 then fo else none) cf ca (fun _ _ => none), wd_Prg cs (re 2) rp (fun k => if k = 2 then (some fu) else none) fp (fun _ _ => 0) (fun _ _ => none), [((rp 1), .inl (cs 0, cn, .inl cd))], [(fu, .inl (cs 0, fn, .inl ft))], wd_Prg cs hs rs (fun k => if k = 2 then none else none) fs (fun _ _ => 0) (fun _ _ => none), [((rs 1), .inl (cs 0, sn, .inl sd))], [(qn4, .inl (cs 0, nn5, .inl (va_cpy sd gn6 (0 : Int32).toNatClampNeg (fp 3).toNatClampNeg (fs 3).toNatClampNeg)))], [(qn19, .inl (cs 0, nn20, .inl gn21))], [(q16, .inr (4, [.int 0, .ref qn4, .ref qn19, .int 0, .int (fp 3), .int (cf 11)]))]] := hw.sub [0, 1, 2, 5, 7, 3, 4, 6, 8, 9] rfl rfl
  exact pg_aret (v := (some q16)) S hr (Or.inl ⟨_, rfl⟩) hlk hAe hw (show (((0 + k9) + 1) + k24) ≤ 3 from by first | exact oz_28f81d9ab5 e14 e29 | omega) (show (((0 + n10) + 6) + n25) ≤ (((fp 3).toInt + (fs 3).toInt + 3 * (cf 10).toInt + 6).toNat) from by omega) (⟨q16, qn4, qn19, nn5, nn20, (va_cpy sd gn6 (0 : Int32).toNatClampNeg (fp 3).toNatClampNeg (fs 3).toNatClampNeg), gn21, (fp 3), (cf 11), rfl, rfl, hcdF, hrtF, (by omega), (by omega), (by omega), (by omega), (show (((0 + k9) + 1) + k24) = 3 from by first | exact oz_52de0214f7 e14 e29 | omega), (show (((0 + n10) + 6) + n25) = nn5 + nn20 + 6 from by first | exact oz_37f4016f63 e11 e15 e26 e30 | omega), (Or.inl ⟨z3, ez3, qn4, nn5, gn6, e13, q16, z18, ez18, qn19, nn20, gn21, e28, rfl⟩)⟩) d_Cmp_finished_98
