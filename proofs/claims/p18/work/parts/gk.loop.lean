/-! THE CLAIM OUT OF ONE WALK OF THE LAW'S BODY. Your part is whole_start (and what it stands on); all else here is the same for every law, but numbers. -/
def R_law : String := "HomeSystemLaw"
def lw_P (b : Addr) (xs : List Int32) (args : Array Value) (s : State) : Prop := args = #[.ref b] ∧ s.IntsAt b xs ∧ xs.length ≤ 3072 ∧ (Jvm.Cond.and given_1 narrow_1).before args s = true
def lw_Q (_ : Array Value) (s : State) (o : Outcome) (t : State) : Prop := o = .returned (some (.int 1)) ∧ Framed s o t [] 601024 7293034
def lw_Z (below : List Frame) (a : Array Value) (s : State) : State → Prop := fun t => ∃ o, t.status = .running ∧ Ended t below o ∧ lw_Q a s o t
/-- the law's own end, with 1 on the stack, nothing written that was there before, its room as the claim has it -/
theorem lw_ret {p : Program} {l : Launch} {e : Env} {s : State} {m : MethodId} {below : List Frame} {meth : Method} {c : Code} {b : Nat} (hx : p.tables.exec = Jvm.exec) (hb : c.code = code) (hr : meth.sig.returnType = ret) (hlocks : meth.locks = false) {pc : Nat} {H : Heap} {ls : Array Slot} (hdg : decode code pc = .ok (.ireturn, 1)) : W p l e room_1 s m #[Value.ref b] below meth c H [] 601024 7293034 (lw_Z below #[Value.ref b] s) (F0 m pc ls [.int 1]) := by
  intro T hT X
  obtain ⟨fs, hret, hrun, hended, hW, hframe⟩ := X.leave (v := some (.int 1)) (hlocks := hlocks) (fun h => by rw [hr] at h; cases h)
  have hmeth' : T.vm.method? m = some meth := X.method'
  refine ⟨T.setFrames fs, ?_, .returned (some (.int 1)), hrun, hended, rfl, ⟨_, rfl⟩, hW, hframe⟩
  jvm_step X.here [X.here.top, hx, hb, hdg, hmeth', hr, ret, narrow_b1]
  (try refine ⟨rfl, ?_⟩); (try refine ⟨rfl, ?_⟩)
  first | (intro acts; rw [hret _ acts rfl rfl rfl]) | rw [hret _ _ rfl rfl rfl]
  exact Steps.refl _
/-- what holds at the law's entry: the machine, the code, the tables' words (any of lw_tbl by 'hts w (by decide +kernel)'), the script of L ints xs at the cell b, what the Statement gives of the start (any of its parts by flat_of_before) -/
def lw_At (p : Program) (s : State) (m : MethodId) (meth : Method) (c : Code) (b L : Nat) (xs : Nat → Int32) : Prop :=
  p.tables.exec = Jvm.exec ∧ c.code = code ∧ meth.sig.returnType = ret ∧ c.maxLocals = 7 ∧ s.vm.findClass R_law = some m.cls ∧ (∀ w ∈ lw_tbl, w.before #[Value.ref b] s = true) ∧ va_X b L xs s s.heap ∧ b < s.heap.size ∧ meth.locks = false ∧ (Jvm.Cond.and given_1 narrow_1).before #[Value.ref b] s = true
-- ===== YOUR PART BEGINS =====
theorem L_toInt {L : Nat} (h : L ≤ 3072) : (Int32.ofNat L).toInt = (L : Int) := by
  rw [Int32.toInt_ofNat_of_lt (by omega)]
theorem off_in {x k : Int32} {L : Nat} (h0 : 0 ≤ x.toInt) (h1 : x.toInt + 6 ≤ (L : Int)) (h2 : L ≤ 3072) (hk : 0 ≤ k.toInt ∧ k.toInt ≤ 5) : vp_in (x + k) L := vp_in_iff.mpr (by rw [i_add]; omega)
section GK
variable {p : Program} {l : Launch} {e : Env} {s : State} {m : MethodId} {args : Array Value} {below : List Frame} {meth : Method} {c : Code} {H : Heap} {locs : List Loc} {cells slots : Nat} {Q : State → Prop}
variable {ls : Array Slot} {D : va_G} {A : Nat → Prop} {cs : Nat → ClassId} {em mi gw sk st sn9 : Nat} {sb : Nat → Int32} {sK : Nat → Nat → Nat} {mk mt : Nat} {mb : Nat → Int32} {bq L xh mo q LL a b j : Nat} {xs : Nat → Int32} {F T : Int} {X Y : KS} {lv : Nat → Int64} {C M : va_W}
set_option maxHeartbeats 4000000 in
theorem law_loop (S : px_S p m c b_HomeSystemLaw_law 7 s #[Value.ref bq] "HomeSystemLaw") (hT : Tb D cs s) (hA : ∀ q, s.heap.size ≤ q → A q) (hAi : ∀ q, A q → s.heap.size ≤ q) (lo : LO A s l em mi gw sk st sn9 sb sK mk mt mb) (hX : va_X bq L xs s s.heap) (hbl : bq < s.heap.size) (hbA : ¬ A bq) (hL : L ≤ 3072) (hr : meth.sig.returnType = ret) (hlk : meth.locks = false) :
    ∀ (n j : Nat) (x4 : Int32) (lv : Nat → Int64) (C M : va_W) (F T : Int) (X Y : KS) (LL a b cells slots : Nat) (H : Heap) (locs : List Loc) (ls : Array Slot), j ≤ 512 → 512 ≤ j + n → x4.toInt = 6 * (j : Int) → CI cs em xh sn9 sb F X LL a b C → MI cs sK mo F T Y M → EqK F X Y → Rm j F LL a b cells slots → pw D A s.heap H locs [wL cs q lv, C, M] → lv_has ls 7 [(4, .int x4), (0, .ref bq), (1, .ref xh), (2, .ref mo), (3, .ref q)] → W p l e room_1 s m #[Value.ref bq] below meth c H locs cells slots (lw_Z below #[Value.ref bq] s) (F0 m 23 ls []) := by
  intro n
  induction n with
  | zero =>
    intro j x4 lv C M F T X Y LL a b cells slots H locs ls hj hn hx hC hM hEq hRm hw hl
    have hv : (Int32.ofNat L - 6).toInt = (L : Int) - 6 := by rw [i_sub, L_toInt hL, show (6 : Int32).toInt = 6 from rfl]; omega
    refine lv_iload S.x S.b d_HomeSystemLaw_law_23 (lv_at hl 0 rfl) ?_
    refine lv_aload_n S.x S.b d_HomeSystemLaw_law_25 rfl (lv_at hl 1 rfl) ?_
    refine va_slen S.x S.b hX hbl hbA hw.2.2 d_HomeSystemLaw_law_26 ?_
    refine lv_bipush (v := 6) S.x S.b d_HomeSystemLaw_law_27 (by decide) ?_
    refine lv_isub S.x S.b d_HomeSystemLaw_law_29 ?_
    refine lv_icmp_gt (tgt := 670) S.x S.b d_HomeSystemLaw_law_30 (by decide) (fun c1 => ?_) (fun c1 => ?_)
    · have hbd := hC.bd
      have hr0 := rm_room hRm hj hbd.2.2
      refine lv_iconst (v := 1) S.x S.b d_HomeSystemLaw_law_670 (by decide) ?_
      have hf : ∀ l ∈ locs, s.heap.size ≤ l.base := fun l h => hAi _ (hw.2.2.2.2 l h)
      refine W.widen (k := 601024) (n := 7293034) (by omega) (by omega) ?_
      exact W.forget (locs := []) (L := locs) hf (lw_ret S.x S.b hr hlk d_HomeSystemLaw_law_671)
    · have c2 : ¬ (Int32.ofNat L - 6).toInt < x4.toInt := fun h => c1 ((i_lt (x := Int32.ofNat L - 6) (y := x4)).mpr h)
      exfalso; omega
  | succ n ih =>
    intro j x4 lv C M F T X Y LL a b cells slots H locs ls hj hn hx hC hM hEq hRm hw hl
    have hv : (Int32.ofNat L - 6).toInt = (L : Int) - 6 := by rw [i_sub, L_toInt hL, show (6 : Int32).toInt = 6 from rfl]; omega
    refine lv_iload S.x S.b d_HomeSystemLaw_law_23 (lv_at hl 0 rfl) ?_
    refine lv_aload_n S.x S.b d_HomeSystemLaw_law_25 rfl (lv_at hl 1 rfl) ?_
    refine va_slen S.x S.b hX hbl hbA hw.2.2 d_HomeSystemLaw_law_26 ?_
    refine lv_bipush (v := 6) S.x S.b d_HomeSystemLaw_law_27 (by decide) ?_
    refine lv_isub S.x S.b d_HomeSystemLaw_law_29 ?_
    refine lv_icmp_gt (tgt := 670) S.x S.b d_HomeSystemLaw_law_30 (by decide) (fun c1 => ?_) (fun c1 => ?_)
    · have hbd := hC.bd
      have hr0 := rm_room hRm hj hbd.2.2
      refine lv_iconst (v := 1) S.x S.b d_HomeSystemLaw_law_670 (by decide) ?_
      have hf : ∀ l ∈ locs, s.heap.size ≤ l.base := fun l h => hAi _ (hw.2.2.2.2 l h)
      refine W.widen (k := 601024) (n := 7293034) (by omega) (by omega) ?_
      exact W.forget (locs := []) (L := locs) hf (lw_ret S.x S.b hr hlk d_HomeSystemLaw_law_671)
    · have c2 : ¬ (Int32.ofNat L - 6).toInt < x4.toInt := fun h => c1 ((i_lt (x := Int32.ofNat L - 6) (y := x4)).mpr h)
      have hj9 : j ≤ 511 := by omega
      have i1 : vp_in (x4 + 1) L := off_in (by omega) (by omega) hL (by decide)
      have i2 : vp_in (x4 + 2) L := off_in (by omega) (by omega) hL (by decide)
      have i3 : vp_in (x4 + 3) L := off_in (by omega) (by omega) hL (by decide)
      have i4 : vp_in (x4 + 4) L := off_in (by omega) (by omega) hL (by decide)
      have i5 : vp_in (x4 + 5) L := off_in (by omega) (by omega) hL (by decide)
      refine lv_aload_n S.x S.b d_HomeSystemLaw_law_33 rfl (lv_at hl 1 rfl) ?_
      refine lv_iload S.x S.b d_HomeSystemLaw_law_34 (lv_at hl 0 rfl) ?_
      refine va_sld S.x S.b hX hbl hbA hw.2.2 (i := x4) (vp_in_iff.mpr ⟨by omega, by omega⟩) d_HomeSystemLaw_law_36 ?_
      refine lv_bipush (v := 31) S.x S.b d_HomeSystemLaw_law_37 (by decide) ?_
      refine lv_iand S.x S.b d_HomeSystemLaw_law_39 ?_
      have K : ∀ (lv9 : Nat → Int64) (C9 M9 : va_W) (F9 T9 : Int) (X9 Y9 : KS) (LL9 a9 b9 cells9 slots9 : Nat) (H9 : Heap) (locs9 : List Loc) (ls9 : Array Slot), CI cs em xh sn9 sb F9 X9 LL9 a9 b9 C9 → MI cs sK mo F9 T9 Y9 M9 → EqK F9 X9 Y9 → Rm (j + 1) F9 LL9 a9 b9 cells9 slots9 → pw D A s.heap H9 locs9 [wL cs q lv9, C9, M9] → lv_has ls9 7 [(4, .int x4), (0, .ref bq), (1, .ref xh), (2, .ref mo), (3, .ref q)] → W p l e room_1 s m #[Value.ref bq] below meth c H9 locs9 cells9 slots9 (lw_Z below #[Value.ref bq] s) (F0 m 664 ls9 []) := by
        intro lv9 C9 M9 F9 T9 X9 Y9 LL9 a9 b9 cells9 slots9 H9 locs9 ls9 k1 k2 kq k3 k4 k5
        refine lv_iinc (v := x4 + 6) (lv' := [(4, .int (x4 + 6)), (0, .ref bq), (1, .ref xh), (2, .ref mo), (3, .ref q)]) S.x S.b d_HomeSystemLaw_law_664 k5 (k := 0) rfl rfl (by decide) rfl (fun ls hl => ?_)
        refine lv_goto (tgt := 23) S.x S.b d_HomeSystemLaw_law_667 (by decide) ?_
        exact ih (j + 1) (x4 + 6) lv9 C9 M9 F9 T9 X9 Y9 LL9 a9 b9 cells9 slots9 H9 locs9 ls (by omega) (by omega) (by rw [i_add, show (6 : Int32).toInt = 6 from rfl]; omega) k1 k2 kq k3 k4 hl
      refine px_table S (tgts := [124, 197, 222, 250, 263, 291, 316, 380, 408, 436, 464, 504, 560, 588, 625, 638, 651, 664]) d_HomeSystemLaw_law_40 rfl (by decide) (fun t ht => ?_)
      simp only [List.mem_cons, List.not_mem_nil, or_false] at ht
      rcases ht with rfl | rfl | rfl | rfl | rfl | rfl | rfl | rfl | rfl | rfl | rfl | rfl | rfl | rfl | rfl | rfl | rfl | rfl
      · exact b_124 S hT hA lo hX hbl hbA x4 hj9 i1 i2 i3 i4 i5 hC hM hEq hRm hw hl K
      · exact b_197 S hT hA lo hX hbl hbA x4 hj9 i1 i2 i3 i4 i5 hC hM hEq hRm hw hl K
      · exact b_222 S hT hA lo hX hbl hbA x4 hj9 i1 i2 i3 i4 i5 hC hM hEq hRm hw hl K
      · exact b_250 S hT hA lo hX hbl hbA x4 hj9 i1 i2 i3 i4 i5 hC hM hEq hRm hw hl K
      · exact b_263 S hT hA lo hX hbl hbA x4 hj9 i1 i2 i3 i4 i5 hC hM hEq hRm hw hl K
      · exact b_291 S hT hA lo hX hbl hbA x4 hj9 i1 i2 i3 i4 i5 hC hM hEq hRm hw hl K
      · exact b_316 S hT hA lo hX hbl hbA x4 hj9 i1 i2 i3 i4 i5 hC hM hEq hRm hw hl K
      · exact b_380 S hT hA lo hX hbl hbA x4 hj9 i1 i2 i3 i4 i5 hC hM hEq hRm hw hl K
      · exact b_408 S hT hA lo hX hbl hbA x4 hj9 i1 i2 i3 i4 i5 hC hM hEq hRm hw hl K
      · exact b_436 S hT hA lo hX hbl hbA x4 hj9 i1 i2 i3 i4 i5 hC hM hEq hRm hw hl K
      · exact b_464 S hT hA lo hX hbl hbA x4 hj9 i1 i2 i3 i4 i5 hC hM hEq hRm hw hl K
      · exact b_504 S hT hA lo hX hbl hbA x4 hj9 i1 i2 i3 i4 i5 hC hM hEq hRm hw hl K
      · exact b_560 S hT hA lo hX hbl hbA x4 hj9 i1 i2 i3 i4 i5 hC hM hEq hRm hw hl K
      · exact b_588 S hT hA lo hX hbl hbA x4 hj9 i1 i2 i3 i4 i5 hC hM hEq hRm hw hl K
      · exact b_625 S hT hA lo hX hbl hbA x4 hj9 i1 i2 i3 i4 i5 hC hM hEq hRm hw hl K
      · exact b_638 S hT hA lo hX hbl hbA x4 hj9 i1 i2 i3 i4 i5 hC hM hEq hRm hw hl K
      · exact b_651 S hT hA lo hX hbl hbA x4 hj9 i1 i2 i3 i4 i5 hC hM hEq hRm hw hl K
      · exact K lv C M F T X Y LL a b _ _ H locs ls hC hM hEq (rm_gr (k := 0) (n := 0) (k2 := 0) (n2 := 0) hRm (show Gr F LL a b F LL a b 0 0 from ⟨by omega, rfl, by omega, by omega⟩) (by omega) (by omega)) hw hl
end GK
