theorem oz_18a5c06a28 {a0 : Int} (h0 : ¬ a0 < (0 : Int)) : 0 ≤ a0 := by omega
theorem oz_e9273f1cf5 {a0 a1 a2 : Int} (h0 : a2 < a1) (h1 : a0 = a2 + (-1)) : a0 < a1 := by omega
theorem oz_d2e73a1b11 {a0 a1 : Int} (h0 : a0 = a1 + (-1)) (h1 : ¬ a1 < (0 : Int)) : -1 ≤ a0 := by omega
theorem oz_ed4f025f7d {a0 a2 : Int} {n1 : Nat} (h0 : a2+2 < ((n1 + 1 : Nat) : Int)) (h1 : a0 = a2 + (-1)) : a0+2 < (n1 : Int) := by omega
theorem oz_c3803f0c4e {a0 a1 a2 : Int} (h0 : a2 = a1) (h1 : a0 = a2 - (1 : Int)) : a0 < a1 := by omega
theorem oz_31ac67e034 {a0 a1 a2 : Int} (h0 : a0 = a1 - (1 : Int)) (h1 : a1 = a2) (h2 : 0 ≤ a2) : -1 ≤ a0 := by omega
theorem oz_843db69ae7 {a0 a1 a2 : Int} (h0 : a2 = a1) (h1 : ¬ a2 ≤ a0) : a0 < a1 := by omega
theorem oz_a6fd07f316 {a0 a1 a2 a3 : Int} (h0 : a2 = a1) (h1 : a0 = a3 + 1) (h2 : ¬ a2 ≤ a3) : a0 ≤ a1 := by omega
theorem oz_ed25187654 {a0 a1 a3 : Int} {n2 : Nat} (h0 : a0-a3+1 < ((n2 + 1 : Nat) : Int)) (h1 : a1 = a3 + 1) : a0-a1+1 < (n2 : Int) := by omega
theorem m2_75 : Cond.fieldLink "HomeSystem$Names" 12 "HomeSystem$Names" "symbols" "Ljava/util/ArrayList;" ∈ AL := AL_2 (List.mem_of_getElem? (i := 75) rfl) rfl
theorem m5_19 : Cond.methodLink "HomeSystem$Names" 72 ⟨"java/util/ArrayList", "get", "(I)Ljava/lang/Object;"⟩ ∈ AL := AL_5 (List.mem_of_getElem? (i := 19) rfl) rfl
theorem m5_22 : Cond.code ⟨"java/util/ArrayList", "get", "(I)Ljava/lang/Object;"⟩ prog_39_method_20_code 2 (Option.some (FieldType.object "java/lang/Object")) ∈ AL := AL_5 (List.mem_of_getElem? (i := 22) rfl) rfl
theorem m5_21 : Cond.selects "java/util/ArrayList" ⟨"java/util/ArrayList", "get", "(I)Ljava/lang/Object;"⟩ ⟨"java/util/ArrayList", "get", "(I)Ljava/lang/Object;"⟩ ∈ AL := AL_5 (List.mem_of_getElem? (i := 21) rfl) rfl
theorem m5_20 : Cond.instanceMethod ⟨"java/util/ArrayList", "get", "(I)Ljava/lang/Object;"⟩ ∈ AL := AL_5 (List.mem_of_getElem? (i := 20) rfl) rfl
theorem m1_202 : Cond.classLink "HomeSystem$Names" 28 "HomeSystem$Symbol" ∈ AL := AL_1 (List.mem_of_getElem? (i := 202) rfl) rfl
theorem m14_232n : Cond.castable "HomeSystem$Symbol" "HomeSystem$Symbol" ∈ tables_1 := by unfold tables_1; exact List.mem_append_right _ (List.mem_append_right _ (List.mem_append_right _ (List.mem_append_right _ (List.mem_append_right _ (List.mem_append_right _ (List.mem_append_right _ (List.mem_append_right _ (List.mem_append_right _ (List.mem_append_right _ (List.mem_append_right _ (List.mem_append_right _ (List.mem_append_right _ (List.mem_append_left _ (List.mem_of_getElem? (i := 232) rfl))))))))))))))
theorem m1_209 : Cond.fieldLink "HomeSystem$Names" 75 "HomeSystem$Symbol" "name" "I" ∈ AL := AL_1 (List.mem_of_getElem? (i := 209) rfl) rfl
theorem m4_72 : Cond.methodLink "HomeSystem$Names" 59 ⟨"java/util/ArrayList", "size", "()I"⟩ ∈ AL := AL_4 (List.mem_of_getElem? (i := 72) rfl) rfl
theorem m4_75 : Cond.code ⟨"java/util/ArrayList", "size", "()I"⟩ prog_39_method_8_code 1 (Option.some FieldType.int) ∈ AL := AL_4 (List.mem_of_getElem? (i := 75) rfl) rfl
theorem m4_74 : Cond.selects "java/util/ArrayList" ⟨"java/util/ArrayList", "size", "()I"⟩ ⟨"java/util/ArrayList", "size", "()I"⟩ ∈ AL := AL_4 (List.mem_of_getElem? (i := 74) rfl) rfl
theorem m4_73 : Cond.instanceMethod ⟨"java/util/ArrayList", "size", "()I"⟩ ∈ AL := AL_4 (List.mem_of_getElem? (i := 73) rfl) rfl
theorem m2_79 : Cond.fieldLink "HomeSystem$Names" 69 "HomeSystem$Names" "scope" "I" ∈ AL := AL_2 (List.mem_of_getElem? (i := 79) rfl) rfl
theorem m2_76 : Cond.fieldLink "HomeSystem$Names" 18 "HomeSystem$Names" "functions" "Ljava/util/ArrayList;" ∈ AL := AL_2 (List.mem_of_getElem? (i := 76) rfl) rfl
theorem m1_218 : Cond.fieldLink "HomeSystem$Names" 49 "HomeSystem$Symbol" "size" "I" ∈ AL := AL_1 (List.mem_of_getElem? (i := 218) rfl) rfl
theorem m1_215 : Cond.fieldLink "HomeSystem$Names" 43 "HomeSystem$Symbol" "base" "I" ∈ AL := AL_1 (List.mem_of_getElem? (i := 215) rfl) rfl
theorem m2_77 : Cond.fieldLink "HomeSystem$Names" 21 "HomeSystem$Names" "wants" "[I" ∈ AL := AL_2 (List.mem_of_getElem? (i := 77) rfl) rfl
/-! SYMBOLS: a pool of them, of which only is known that each is one; the lists of Names hold some of them -/
/-- null, or a symbol of the pool -/
def Sy (P : va_W) (q : Option Nat) : Prop := ∀ a, q = some a → ∃ (j : Nat) (s : Nat → Int32), P[j]? = some (syC a s)
/-- null, or a function of the pool -/
def Fy (P : va_W) (q : Option Nat) : Prop := ∀ a, q = some a → ∃ (j : Nat) (s : Nat → Int32), P[j]? = some (syC a s) ∧ 0 ≤ (s 5).toInt ∧ (s 5).toInt ≤ 1000000
def ElS (P : va_W) (n : Int32) (g : Nat → Option Nat) : Prop := ∀ j : Nat, (j : Int) < n.toInt → ∃ a, g j = some a ∧ Sy P (some a)
def ElF (P : va_W) (n : Int32) (g : Nat → Option Nat) : Prop := ∀ j : Nat, (j : Int) < n.toInt → ∃ a, g j = some a ∧ Fy P (some a)
theorem sy_none {P : va_W} : Sy P none := fun _ h => by cases h
theorem fy_none {P : va_W} : Fy P none := fun _ h => by cases h
theorem Sy.at {P : va_W} {a : Nat} (h : Sy P (some a)) : ∃ (j : Nat) (s : Nat → Int32), P[j]? = some (syC a s) := h a rfl
theorem Fy.at {P : va_W} {a : Nat} (h : Fy P (some a)) : ∃ (j : Nat) (s : Nat → Int32), P[j]? = some (syC a s) ∧ 0 ≤ (s 5).toInt ∧ (s 5).toInt ≤ 1000000 := h a rfl
theorem Fy.sy {P : va_W} {q : Option Nat} (h : Fy P q) : Sy P q := fun a e => by obtain ⟨j, s, h1, -⟩ := h a e; exact ⟨j, s, h1⟩
theorem sy_some {P : va_W} {a j : Nat} {s : Nat → Int32} (h : P[j]? = some (syC a s)) : Sy P (some a) := fun b e => by cases e; exact ⟨j, s, h⟩
theorem fy_some {P : va_W} {a j : Nat} {s : Nat → Int32} (h : P[j]? = some (syC a s)) (h0 : 0 ≤ (s 5).toInt) (h1 : (s 5).toInt ≤ 1000000) : Fy P (some a) := fun b e => by cases e; exact ⟨j, s, h, h0, h1⟩
theorem ElS.at {P : va_W} {n : Int32} {g : Nat → Option Nat} (h : ElS P n g) {x : Int32} (h0 : 0 ≤ x.toInt) (h1 : x.toInt < n.toInt) : ∃ a, g x.toNatClampNeg = some a ∧ Sy P (some a) := h _ (by rw [cl_nat h0]; exact h1)
theorem ElF.at {P : va_W} {n : Int32} {g : Nat → Option Nat} (h : ElF P n g) {x : Int32} (h0 : 0 ≤ x.toInt) (h1 : x.toInt < n.toInt) : ∃ a, g x.toNatClampNeg = some a ∧ Fy P (some a) := h _ (by rw [cl_nat h0]; exact h1)
theorem ElS.less {P : va_W} {n k : Int32} {g : Nat → Option Nat} (h : ElS P n g) (hk : k.toInt ≤ n.toInt) : ElS P k g := fun j hj => h j (by omega)
theorem ElF.less {P : va_W} {n k : Int32} {g : Nat → Option Nat} (h : ElF P n g) (hk : k.toInt ≤ n.toInt) : ElF P k g := fun j hj => h j (by omega)
/-- an array that may be somebody else's -/
def lA (cs : Nat → ClassId) (own : Bool) (q n : Nat) (g : Nat → Option Nat) : va_W := match own with
  | true => [(q, .inl (cs 12, n, .inr (.inr (.inr (.inr g)))))]
  | false => []
/-- the lists of Names: how long they are, and what they hold -/
def NmOk (P : va_W) (own : Bool) (n k : Int32) (lc fc : Nat) (lg fg : Nat → Option Nat) : Prop := (own = false → lc = 0) ∧ (0 ≤ n.toInt ∧ n.toInt ≤ (lc : Int) ∧ lc ≤ 1000000) ∧ ElS P n lg ∧ (0 ≤ k.toInt ∧ k.toInt ≤ (fc : Int) ∧ fc ≤ 1000000) ∧ ElF P k fg
section PL
variable {p : Program} {l : Launch} {e : Env} {R : Room} {s : State} {m : MethodId} {args : Array Value} {below : List Frame} {meth : Method} {c : Code} {H : Heap} {locs : List Loc} {cells slots : Nat} {Q : State → Prop}
variable {cc : ByteArray} {pc nL : Nat} {ls : Array Slot} {rest : List Value} {D : va_G} {A : Nat → Prop} {a : Nat} {cs : Nat → ClassId} {ps : List va_W} {w : va_W} {H0 : Heap} {own : String}
theorem px_castP (S : px_S p m c cc nL s args own) (hT : Tb D cs s) (hw : pw D A H0 H locs ps) (i j : Nat) {ci : Nat} {fs : List Value} {q : vw_C} {nm : String} {index : Nat} (hi : ps[i]? = some w) (he : w[j]? = some (a, .inr (ci, fs))) (hc : classes[ci]? = some q) (hlink : Cond.classLink own index nm ∈ AL) (hcast : Cond.castable q.1 nm ∈ tables_1) (hdg : decode cc pc = .ok (.checkcast index, 3))
    (kk : W p l e R s m args below meth c H locs cells slots Q (F0 m (pc + 3) ls (.ref a :: rest))) : W p l e R s m args below meth c H locs cells slots Q (F0 m pc ls (.ref a :: rest)) :=
  va_castY S.x S.b S.own (S.w hlink) (hT.2.2 _ hcast rfl) (px_recv hT hw i j hi he hc) hdg kk
end PL
set_option maxHeartbeats 4000000 in
set_option maxRecDepth 100000 in
theorem c_ls_size (l : Launch) (D : va_G) (cs : Nat → ClassId) (hl0 : Nat) (lq : Nat) (lf : Nat → Int32)   : MetI l y_Lst_size b_Lst_size 1 (.int) D cs 0 0 (0) (0) [.ref hl0] [wd_Lst cs hl0 (fun _ => 0) (fun k => if k = 0 then (some lq) else none) lf (fun _ _ => 0) (fun _ _ => none)] (fun _ => True) (fun v ps => (ps = [wd_Lst cs hl0 (fun _ => 0) (fun k => if k = 0 then (some lq) else none) lf (fun _ _ => 0) (fun _ _ => none)]) ∧ (v.toInt = (lf 1).toInt) ∧ (R_ls_size lf v)) := by
  refine px_enter (by decide) (Nat.le_of_ble_eq_true rfl) ?_
  intro p e s m below meth c A ls hAe S hr hlk hnm hA hT hX hw hl
  have hl : lv_has ls 1 [(0, .ref hl0)] := hl
  refine lv_aload_n S.x S.b d_Lst_size_0 rfl (lv_at hl 0 rfl) ?_
  refine px_get S k_Lst hT hw 0 0 1 (v := .int (lf 1)) rfl rfl rfl (by decide) m1_189 d_Lst_size_1 ?_
  exact px_iret (v := (lf 1)) S hr rfl hlk hAe hw (Nat.le_of_ble_eq_true rfl) (Nat.le_of_ble_eq_true rfl) (⟨rfl, (show (lf 1).toInt = (lf 1).toInt from rfl), (show R_ls_size lf (lf 1) from (Or.inl rfl))⟩) d_Lst_size_4
set_option maxHeartbeats 4000000 in
set_option maxRecDepth 100000 in
theorem c_ls_clear0 (l : Launch) (D : va_G) (cs : Nat → ClassId) (hl0 : Nat) (lq : Nat) (lf : Nat → Int32)  (g0 : (lf 1).toInt = 0) : MetV l y_Lst_clear b_Lst_clear 4 D cs 0 0 (0) (0) [.ref hl0] [wd_Lst cs hl0 (fun _ => 0) (fun k => if k = 0 then (some lq) else none) lf (fun _ _ => 0) (fun _ _ => none)] (fun _ => True) (fun ps => ∃ (lf' : Nat → Int32), (ps = [wd_Lst cs hl0 (fun _ => 0) (fun k => if k = 0 then (some lq) else none) lf' (fun _ _ => 0) (fun _ _ => none)]) ∧ ((lf' 1).toInt = 0) ∧ (R_ls_clear0 lf lf')) := by
  refine px_enter (by decide) (Nat.le_of_ble_eq_true rfl) ?_
  intro p e s m below meth c A ls hAe S hr hlk hnm hA hT hX hw hl
  have hl : lv_has ls 4 [(0, .ref hl0)] := hl
  have cst0 : (0 : Int32).toInt = 0 := rfl
  have cst1 : (1 : Int32).toInt = 1 := rfl
  have J27 : ∀ (n_27 : Nat) (lf_27 : Nat → Int32) (x27_2 x27_3 : Int32) (H : Heap) (locs : List Loc) (ls : Array Slot), ((lf_27 1).toInt = 0) → (0 ≤ x27_3.toInt) → (x27_2.toInt = 0) → (K_ls_clear0_27 lf lf_27 x27_2 x27_3) → x27_2.toInt-x27_3.toInt+4294967297 < (n_27 : Int) → pw D A s.heap H locs [wd_Lst cs hl0 (fun _ => 0) (fun k => if k = 0 then (some lq) else none) lf_27 (fun _ _ => 0) (fun _ _ => none)] → lv_has ls 4 [(0, .ref hl0), (1, .ref lq), (2, .int x27_2), (3, .int x27_3)] → W p l e { frames := 0, cells := 0, slots := 0, locals := 0 } s m [.ref hl0].toArray below meth c H locs 0 0 (MQ below (va_Qv (fun ps => ∃ (lf' : Nat → Int32), (ps = [wd_Lst cs hl0 (fun _ => 0) (fun k => if k = 0 then (some lq) else none) lf' (fun _ _ => 0) (fun _ _ => none)]) ∧ ((lf' 1).toInt = 0) ∧ (R_ls_clear0 lf lf')) (pc_B D (va_A ([wd_Lst cs hl0 (fun _ => 0) (fun k => if k = 0 then (some lq) else none) lf (fun _ _ => 0) (fun _ _ => none)] : List va_W).flatten s.heap.size)) (va_A ([wd_Lst cs hl0 (fun _ => 0) (fun k => if k = 0 then (some lq) else none) lf (fun _ _ => 0) (fun _ _ => none)] : List va_W).flatten s.heap.size)) [.ref hl0].toArray s 0 0 A) (F0 m 27 ls []) := by
    intro n_27
    induction n_27 with
    | zero =>
      intro lf_27 x27_2 x27_3 H locs ls k27_0 k27_1 k27_2 k27_3 hm hw hl
      have lx27_2 := Int32.le_toInt x27_2
      have ux27_2 := Int32.toInt_lt x27_2
      have lx27_3 := Int32.le_toInt x27_3
      have ux27_3 := Int32.toInt_lt x27_3
      exact absurd hm (by omega)
    | succ n_27 ih27 =>
      intro lf_27 x27_2 x27_3 H locs ls k27_0 k27_1 k27_2 k27_3 hm hw hl
      have lx27_2 := Int32.le_toInt x27_2
      have ux27_2 := Int32.toInt_lt x27_2
      have lx27_3 := Int32.le_toInt x27_3
      have ux27_3 := Int32.toInt_lt x27_3
      refine lv_iload_n S.x S.b d_Lst_clear_27 rfl (lv_at hl 3 rfl) ?_
      refine lv_iload_n S.x S.b d_Lst_clear_28 rfl (lv_at hl 2 rfl) ?_
      refine lv_icmp_ge (tgt := 42) S.x S.b d_Lst_clear_29 (by decide) (fun c1 => ?_) (fun c1 => ?_)
      · have nc1 : x27_2.toInt ≤ x27_3.toInt := (i_le (x := x27_2) (y := x27_3)).mp c1
        exact px_vret S hr hlk hAe hw (Nat.le_of_ble_eq_true rfl) (Nat.le_of_ble_eq_true rfl) (⟨lf_27, rfl, (show (lf_27 1).toInt = 0 from by first | exact k27_0 | omega), (show R_ls_clear0 lf lf_27 from (k27_3 _ 1 (Or.inr (Or.inl ⟨rfl, x27_2, x27_3, rfl, rfl, rfl, rfl, rfl, nc1, rfl⟩))))⟩) d_Lst_clear_42
      · have nc1 : ¬ x27_2.toInt ≤ x27_3.toInt := mt (i_le (x := x27_2) (y := x27_3)).mpr c1
        refine lv_aload_n S.x S.b d_Lst_clear_32 rfl (lv_at hl 1 rfl) ?_
        refine lv_iload_n S.x S.b d_Lst_clear_33 rfl (lv_at hl 3 rfl) ?_
        refine lv_null S.x S.b d_Lst_clear_34 ?_
        exfalso
        omega
  refine lv_aload_n S.x S.b d_Lst_clear_0 rfl (lv_at hl 0 rfl) ?_
  refine lv_dup S.x S.b d_Lst_clear_1 rfl ?_
  refine px_getS S k_Lst hT hw 0 0 2 (v := .int (lf 2)) rfl rfl rfl (by decide) m1_191 m1_192 d_Lst_clear_2 ?_
  refine lv_iconst (v := 1) S.x S.b d_Lst_clear_5 (by decide) ?_
  refine lv_iadd S.x S.b d_Lst_clear_6 ?_
  have lr3 := Int32.le_toInt (lf 2)
  have ur3 := Int32.toInt_lt (lf 2)
  refine lv_topi (fun z4 ez4 => ?_)
  have tz4 : z4.toInt = ((lf 2).toInt + (1 : Int) + 2147483648) % 4294967296 - 2147483648 := by rw [ez4]; exact i_add (lf 2) 1
  have lz4 := Int32.le_toInt z4
  have uz4 := Int32.toInt_lt z4
  try replace tz4 : z4.toInt = (lf 2).toInt + (1 : Int) := by omega
  refine px_putS S k_Lst hT hw 0 0 2 rfl rfl (by decide) m1_191 m1_192 rfl rfl rfl (Nat.le_of_ble_eq_true rfl) d_Lst_clear_7 (w' := wd_Lst cs hl0 (fun _ => 0) (fun k => if k = 0 then (some lq) else none) (upd lf 2 z4) (fun _ _ => 0) (fun _ _ => none)) (ps' := [wd_Lst cs hl0 (fun _ => 0) (fun k => if k = 0 then (some lq) else none) (upd lf 2 z4) (fun _ _ => 0) (fun _ _ => none)]) rfl rfl (fun H locs hw => ?_)
  refine lv_aload_n S.x S.b d_Lst_clear_10 rfl (lv_at hl 0 rfl) ?_
  refine px_get S k_Lst hT hw 0 0 0 (v := .ref lq) rfl rfl rfl (by decide) m1_188 d_Lst_clear_11 ?_
  refine lv_astore_n (lv' := [(1, .ref lq), (0, .ref hl0)]) S.x S.b d_Lst_clear_14 rfl hl (by decide) rfl (fun ls hl => ?_)
  refine lv_aload_n S.x S.b d_Lst_clear_15 rfl (lv_at hl 1 rfl) ?_
  refine px_get S k_Lst hT hw 0 0 1 (v := .int (lf 1)) rfl rfl rfl (by decide) m1_189 d_Lst_clear_16 ?_
  refine lv_istore_n (lv' := [(2, .int (lf 1)), (1, .ref lq), (0, .ref hl0)]) S.x S.b d_Lst_clear_19 rfl hl (by decide) rfl (fun ls hl => ?_)
  refine lv_aload_n S.x S.b d_Lst_clear_20 rfl (lv_at hl 2 rfl) ?_
  refine lv_iconst (v := 0) S.x S.b d_Lst_clear_21 (by decide) ?_
  refine lv_dup_x1 S.x S.b d_Lst_clear_22 rfl rfl ?_
  refine px_put S k_Lst hT hw 0 0 1 rfl rfl (by decide) m1_189 rfl rfl rfl (Nat.le_of_ble_eq_true rfl) d_Lst_clear_23 (w' := wd_Lst cs hl0 (fun _ => 0) (fun k => if k = 0 then (some lq) else none) (upd (upd lf 1 0) 2 z4) (fun _ _ => 0) (fun _ _ => none)) (ps' := [wd_Lst cs hl0 (fun _ => 0) (fun k => if k = 0 then (some lq) else none) (upd (upd lf 1 0) 2 z4) (fun _ _ => 0) (fun _ _ => none)]) rfl rfl (fun H locs hw => ?_)
  refine lv_istore_n (lv' := [(3, .int 0), (2, .int (lf 1)), (1, .ref lq), (0, .ref hl0)]) S.x S.b d_Lst_clear_26 rfl hl (by decide) rfl (fun ls hl => ?_)
  exact J27 (((lf 1).toInt-(0 : Int)+4294967297).toNat + 1) (upd (upd lf 1 0) 2 z4) (lf 1) (0 : Int32) _ _ ls (show (0 : Int) = 0 from by first | exact oz_7d1a308c7e | omega) (show 0 ≤ (0 : Int) from by first | exact oz_5a341f00aa | omega) (show (lf 1).toInt = 0 from by first | exact g0 | omega) (show K_ls_clear0_27 lf (upd (upd lf 1 0) 2 z4) (lf 1) 0 from (fun y_f0 k hE => Exists.intro (k + 1) (Or.inl ⟨rfl, z4, ez4, hE⟩))) (show (lf 1).toInt-(0 : Int)+4294967297 < (((((lf 1).toInt-(0 : Int)+4294967297).toNat + 1 : Nat) : Int) : Int) from by first | exact oz_natlt | omega) hw (lv_sub hl [3, 2, 1, 0] rfl)
abbrev b_Nam_find : ByteArray := prog_5_method_6_code
def y_Nam_find : MethodName := ⟨"HomeSystem$Names", "find", "(I)LHomeSystem$Symbol;"⟩
theorem d_Nam_find_0 : decode b_Nam_find 0 = .ok (.aload_n 0, 1) := by decide +kernel
theorem d_Nam_find_1 : decode b_Nam_find 1 = .ok (.getfield 12, 3) := by decide +kernel
theorem d_Nam_find_4 : decode b_Nam_find 4 = .ok (.invokevirtual 59, 3) := by decide +kernel
theorem d_Nam_find_7 : decode b_Nam_find 7 = .ok (.iconst 1, 1) := by decide +kernel
theorem d_Nam_find_8 : decode b_Nam_find 8 = .ok (.isub, 1) := by decide +kernel
theorem d_Nam_find_9 : decode b_Nam_find 9 = .ok (.istore_n 2, 1) := by decide +kernel
theorem d_Nam_find_10 : decode b_Nam_find 10 = .ok (.iload_n 2, 1) := by decide +kernel
theorem d_Nam_find_11 : decode b_Nam_find 11 = .ok (.ifCond .lt 31, 3) := by decide +kernel
theorem d_Nam_find_14 : decode b_Nam_find 14 = .ok (.aload_n 0, 1) := by decide +kernel
theorem d_Nam_find_15 : decode b_Nam_find 15 = .ok (.getfield 12, 3) := by decide +kernel
theorem d_Nam_find_18 : decode b_Nam_find 18 = .ok (.iload_n 2, 1) := by decide +kernel
theorem d_Nam_find_19 : decode b_Nam_find 19 = .ok (.invokevirtual 72, 3) := by decide +kernel
theorem d_Nam_find_22 : decode b_Nam_find 22 = .ok (.checkcast 28, 3) := by decide +kernel
theorem d_Nam_find_25 : decode b_Nam_find 25 = .ok (.astore_n 3, 1) := by decide +kernel
theorem d_Nam_find_26 : decode b_Nam_find 26 = .ok (.aload_n 3, 1) := by decide +kernel
theorem d_Nam_find_27 : decode b_Nam_find 27 = .ok (.getfield 75, 3) := by decide +kernel
theorem d_Nam_find_30 : decode b_Nam_find 30 = .ok (.iload_n 1, 1) := by decide +kernel
theorem d_Nam_find_31 : decode b_Nam_find 31 = .ok (.if_icmp .ne 5, 3) := by decide +kernel
theorem d_Nam_find_34 : decode b_Nam_find 34 = .ok (.aload_n 3, 1) := by decide +kernel
theorem d_Nam_find_35 : decode b_Nam_find 35 = .ok (.areturn, 1) := by decide +kernel
theorem d_Nam_find_36 : decode b_Nam_find 36 = .ok (.iinc 2 (-1), 3) := by decide +kernel
theorem d_Nam_find_39 : decode b_Nam_find 39 = .ok (.goto (-29), 3) := by decide +kernel
theorem d_Nam_find_42 : decode b_Nam_find 42 = .ok (.aconst_null, 1) := by decide +kernel
theorem d_Nam_find_43 : decode b_Nam_find 43 = .ok (.areturn, 1) := by decide +kernel
theorem q_Nam_find : px_y y_Nam_find 1 := by unfold px_y; decide +kernel
set_option maxHeartbeats 4000000 in
set_option maxRecDepth 100000 in
theorem c_nm_find_T (l : Launch) (D : va_G) (cs : Nat → ClassId) (hn : Nat) (rn : Nat → Nat) (no : Nat → Option Nat) (na : Nat → Nat → Int32) (ng : Nat → Nat → Option Nat) (lq : Nat) (lc : Nat) (fq : Nat) (fc : Nat) (P : va_W) (nf : Nat → Int32) (lf : Nat → Int32) (lg : Nat → Option Nat) (ff : Nat → Int32) (fg : Nat → Option Nat) (p0 : Int32)  (hinv0 : NmOk P true (lf 1) (ff 1) lc fc lg fg) : MetR l y_Nam_find b_Nam_find 4 (.object "HomeSystem$Symbol") D cs 3 90 (0) (0) [.ref hn, .int p0] [wd_Nam cs hn rn no nf na ng, wd_Lst cs (rn 0) (fun _ => 0) (fun k => if k = 0 then (some lq) else none) lf (fun _ _ => 0) (fun _ _ => none), [(lq, .inl (cs 12, lc, .inr (.inr (.inr (.inr lg)))))], wd_Lst cs (rn 1) (fun _ => 0) (fun k => if k = 0 then (some fq) else none) ff (fun _ _ => 0) (fun _ _ => none), [(fq, .inl (cs 12, fc, .inr (.inr (.inr (.inr fg)))))], P] (fun _ => True) (fun v ps => (ps = [wd_Nam cs hn rn no nf na ng, wd_Lst cs (rn 0) (fun _ => 0) (fun k => if k = 0 then (some lq) else none) lf (fun _ _ => 0) (fun _ _ => none), [(lq, .inl (cs 12, lc, .inr (.inr (.inr (.inr lg)))))], wd_Lst cs (rn 1) (fun _ => 0) (fun k => if k = 0 then (some fq) else none) ff (fun _ _ => 0) (fun _ _ => none), [(fq, .inl (cs 12, fc, .inr (.inr (.inr (.inr fg)))))], P]) ∧ (Sy P v) ∧ (R_nm_find_T P lf lg p0 v)) := by
  refine px_enter (by decide) (Nat.le_of_ble_eq_true rfl) ?_
  intro p e s m below meth c A ls hAe S hr hlk hnm hA hT hX hw hl
  have hl : lv_has ls 4 [(0, .ref hn), (1, .int p0)] := hl
  have lp0 := Int32.le_toInt p0
  have up0 := Int32.toInt_lt p0
  have cst1 : (1 : Int32).toInt = 1 := rfl
  obtain ⟨hown, ⟨n1, n2, n3⟩, hEl, ⟨n4, n5, n6⟩, hEf⟩ := hinv0
  have J10 : ∀ (n_10 : Nat)  (x10_2 : Int32) (H : Heap) (locs : List Loc) (ls : Array Slot), (x10_2.toInt < (lf 1).toInt) → (-1 ≤ x10_2.toInt) → (K_nm_find_T_10 P lf lg p0 x10_2) → x10_2.toInt+2 < (n_10 : Int) → pw D A s.heap H locs [wd_Nam cs hn rn no nf na ng, wd_Lst cs (rn 0) (fun _ => 0) (fun k => if k = 0 then (some lq) else none) lf (fun _ _ => 0) (fun _ _ => none), [(lq, .inl (cs 12, lc, .inr (.inr (.inr (.inr lg)))))], wd_Lst cs (rn 1) (fun _ => 0) (fun k => if k = 0 then (some fq) else none) ff (fun _ _ => 0) (fun _ _ => none), [(fq, .inl (cs 12, fc, .inr (.inr (.inr (.inr fg)))))], P] → lv_has ls 4 [(0, .ref hn), (1, .int p0), (2, .int x10_2)] → W p l e { frames := 3, cells := 0, slots := 0, locals := 90 } s m [.ref hn, .int p0].toArray below meth c H locs 0 0 (MQ below (va_Qq (fun v ps => (ps = [wd_Nam cs hn rn no nf na ng, wd_Lst cs (rn 0) (fun _ => 0) (fun k => if k = 0 then (some lq) else none) lf (fun _ _ => 0) (fun _ _ => none), [(lq, .inl (cs 12, lc, .inr (.inr (.inr (.inr lg)))))], wd_Lst cs (rn 1) (fun _ => 0) (fun k => if k = 0 then (some fq) else none) ff (fun _ _ => 0) (fun _ _ => none), [(fq, .inl (cs 12, fc, .inr (.inr (.inr (.inr fg)))))], P]) ∧ (Sy P v) ∧ (R_nm_find_T P lf lg p0 v)) (pc_B D (va_A ([wd_Nam cs hn rn no nf na ng, wd_Lst cs (rn 0) (fun _ => 0) (fun k => if k = 0 then (some lq) else none) lf (fun _ _ => 0) (fun _ _ => none), [(lq, .inl (cs 12, lc, .inr (.inr (.inr (.inr lg)))))], wd_Lst cs (rn 1) (fun _ => 0) (fun k => if k = 0 then (some fq) else none) ff (fun _ _ => 0) (fun _ _ => none), [(fq, .inl (cs 12, fc, .inr (.inr (.inr (.inr fg)))))], P] : List va_W).flatten s.heap.size)) (va_A ([wd_Nam cs hn rn no nf na ng, wd_Lst cs (rn 0) (fun _ => 0) (fun k => if k = 0 then (some lq) else none) lf (fun _ _ => 0) (fun _ _ => none), [(lq, .inl (cs 12, lc, .inr (.inr (.inr (.inr lg)))))], wd_Lst cs (rn 1) (fun _ => 0) (fun k => if k = 0 then (some fq) else none) ff (fun _ _ => 0) (fun _ _ => none), [(fq, .inl (cs 12, fc, .inr (.inr (.inr (.inr fg)))))], P] : List va_W).flatten s.heap.size)) [.ref hn, .int p0].toArray s 0 0 A) (F0 m 10 ls []) := by
    intro n_10
    induction n_10 with
    | zero =>
      intro x10_2 H locs ls k10_0 k10_1 k10_2 hm hw hl
      have lx10_2 := Int32.le_toInt x10_2
      have ux10_2 := Int32.toInt_lt x10_2
      exact absurd hm (by omega)
    | succ n_10 ih10 =>
      intro x10_2 H locs ls k10_0 k10_1 k10_2 hm hw hl
      have lx10_2 := Int32.le_toInt x10_2
      have ux10_2 := Int32.toInt_lt x10_2
      refine lv_iload_n S.x S.b d_Nam_find_10 rfl (lv_at hl 2 rfl) ?_
      refine lv_if_lt (tgt := 42) S.x S.b d_Nam_find_11 (by decide) (fun c1 => ?_) (fun c1 => ?_)
      · have nc1 : x10_2.toInt < (0 : Int) := (i_lt (x := x10_2) (y := 0)).mp c1
        refine lv_null S.x S.b d_Nam_find_42 ?_
        exact px_aret (v := none) S hr (Or.inl ⟨_, rfl⟩) hlk hAe hw (Nat.le_of_ble_eq_true rfl) (Nat.le_of_ble_eq_true rfl) (⟨rfl, (show Sy P none from (by first | assumption | exact sy_none | exact fy_none | exact Fy.sy (by assumption) | exact sy_some (by assumption))), (show R_nm_find_T P lf lg p0 none from (k10_2 _ 1 (Or.inr (Or.inl ⟨rfl, x10_2, rfl, rfl, rfl, rfl, rfl, Or.inl ⟨nc1, rfl⟩⟩))))⟩) d_Nam_find_43
      · have nc1 : ¬ x10_2.toInt < (0 : Int) := mt (i_lt (x := x10_2) (y := 0)).mpr c1
        refine lv_aload_n S.x S.b d_Nam_find_14 rfl (lv_at hl 0 rfl) ?_
        refine px_get S k_Nam hT hw 0 0 0 (v := .ref (rn 0)) rfl rfl rfl (by decide) m2_75 d_Nam_find_15 ?_
        refine lv_iload_n S.x S.b d_Nam_find_18 rfl (lv_at hl 2 rfl) ?_
        have hw : pw D A s.heap _ _ [wd_Nam cs hn rn no nf na ng, wd_Lst cs (rn 1) (fun _ => 0) (fun k => if k = 0 then (some fq) else none) ff (fun _ _ => 0) (fun _ _ => none), [(fq, .inl (cs 12, fc, .inr (.inr (.inr (.inr fg)))))], P, wd_Lst cs (rn 0) (fun _ => 0) (fun k => if k = 0 then (some lq) else none) lf (fun _ _ => 0) (fun _ _ => none), [(lq, .inl (cs 12, lc, .inr (.inr (.inr (.inr lg)))))]] := hw.sub [0, 3, 4, 5, 1, 2] rfl rfl
        refine px_callq (pr := [wd_Nam cs hn rn no nf na ng, wd_Lst cs (rn 1) (fun _ => 0) (fun k => if k = 0 then (some fq) else none) ff (fun _ _ => 0) (fun _ _ => none), [(fq, .inl (cs 12, fc, .inr (.inr (.inr (.inr fg)))))], P]) (px_runV (As := [.int x10_2]) (rest := []) S (c_Lst_get l D cs (rn 0) lq lc lf lg x10_2  (show lc ≤ 1000000 from by first | exact n3 | omega) (show 0 ≤ (lf 1).toInt from by first | exact n1 | omega) (show (lf 1).toInt ≤ (lc : Int) from by first | exact n2 | omega) (show 0 ≤ x10_2.toInt from by first | exact oz_18a5c06a28 nc1 | omega) (show x10_2.toInt < (lf 1).toInt from by first | exact k10_0 | omega) _) hT (pr := [wd_Nam cs hn rn no nf na ng, wd_Lst cs (rn 1) (fun _ => 0) (fun k => if k = 0 then (some fq) else none) ff (fun _ _ => 0) (fun _ _ => none), [(fq, .inl (cs 12, fc, .inr (.inr (.inr (.inr fg)))))], P]) (pcs := [wd_Lst cs (rn 0) (fun _ => 0) (fun k => if k = 0 then (some lq) else none) lf (fun _ _ => 0) (fun _ _ => none), [(lq, .inl (cs 12, lc, .inr (.inr (.inr (.inr lg)))))]]) hw px_X.tt (px_recv hT hw 4 0 rfl rfl rfl) m5_22 m5_19 m5_20 m5_21 m1_10 q_Lst_get ⟨Nat.le_of_ble_eq_true rfl, Nat.le_of_ble_eq_true rfl⟩ hl.1 rfl (Nat.le_of_ble_eq_true rfl) d_Nam_find_19 ⟨Nat.le_of_ble_eq_true rfl, Nat.le_of_ble_eq_true rfl⟩) hw hA (fun v4 p3 H locs hp3 hw => ?_)
        obtain ⟨rfl, e5⟩ := hp3
        subst e5
        have hw : pw D A s.heap H locs [wd_Nam cs hn rn no nf na ng, wd_Lst cs (rn 1) (fun _ => 0) (fun k => if k = 0 then (some fq) else none) ff (fun _ _ => 0) (fun _ _ => none), [(fq, .inl (cs 12, fc, .inr (.inr (.inr (.inr fg)))))], P, wd_Lst cs (rn 0) (fun _ => 0) (fun k => if k = 0 then (some lq) else none) lf (fun _ _ => 0) (fun _ _ => none), [(lq, .inl (cs 12, lc, .inr (.inr (.inr (.inr lg)))))]] := hw
        obtain ⟨q6, eq6, hq6⟩ := hEl.at (x := x10_2) (by omega) (by omega); rw [eq6]
        obtain ⟨j7, s8, hj9⟩ := (show Sy P (some q6) by first | assumption | exact Fy.sy (by assumption)).at
        refine px_castP S hT hw 3 j7 rfl hj9 rfl m1_202 m14_232n d_Nam_find_22 ?_
        refine lv_astore_n (lv' := [(3, .ref q6), (0, .ref hn), (1, .int p0), (2, .int x10_2)]) S.x S.b d_Nam_find_25 rfl hl (by decide) rfl (fun ls hl => ?_)
        refine lv_aload_n S.x S.b d_Nam_find_26 rfl (lv_at hl 0 rfl) ?_
        refine px_get S k_Sym hT hw 3 j7 0 (v := .int (s8 0)) rfl hj9 rfl (by decide) m1_209 d_Nam_find_27 ?_
        refine lv_iload_n S.x S.b d_Nam_find_30 rfl (lv_at hl 2 rfl) ?_
        refine lv_icmp_ne (tgt := 36) S.x S.b d_Nam_find_31 (by decide) (fun c10 => ?_) (fun c10 => ?_)
        · have nc10 : ¬ (s8 0).toInt = p0.toInt := mt (i_eq (x := (s8 0)) (y := p0)).mpr c10
          obtain ⟨z12, ez12⟩ : ∃ y : Int32, y = x10_2 + (-1) := ⟨_, rfl⟩
          have tz12 : z12.toInt = (x10_2.toInt + (-1) + 2147483648) % 4294967296 - 2147483648 := by rw [ez12]; exact i_add x10_2 (-1)
          have lz12 := Int32.le_toInt z12
          have uz12 := Int32.toInt_lt z12
          try replace tz12 : z12.toInt = x10_2.toInt + (-1) := by omega
          refine lv_iinc (v := z12) (lv' := [(2, .int z12), (3, .ref q6), (0, .ref hn), (1, .int p0)]) S.x S.b d_Nam_find_36 hl (k := 3) rfl (by rw [ez12]; rfl) (by decide) rfl (fun ls hl => ?_)
          refine lv_goto (tgt := 10) S.x S.b d_Nam_find_39 (by decide) ?_
          have hw : pw D A s.heap _ _ [wd_Nam cs hn rn no nf na ng, wd_Lst cs (rn 0) (fun _ => 0) (fun k => if k = 0 then (some lq) else none) lf (fun _ _ => 0) (fun _ _ => none), [(lq, .inl (cs 12, lc, .inr (.inr (.inr (.inr lg)))))], wd_Lst cs (rn 1) (fun _ => 0) (fun k => if k = 0 then (some fq) else none) ff (fun _ _ => 0) (fun _ _ => none), [(fq, .inl (cs 12, fc, .inr (.inr (.inr (.inr fg)))))], P] := hw.sub [0, 4, 5, 1, 2, 3] rfl rfl
          exact ih10 z12 _ _ ls (show z12.toInt < (lf 1).toInt from by first | exact oz_e9273f1cf5 k10_0 tz12 | omega) (show -1 ≤ z12.toInt from by first | exact oz_d2e73a1b11 tz12 nc1 | omega) (show K_nm_find_T_10 P lf lg p0 z12 from (fun y_v k hE => k10_2 y_v (k + 1) (Or.inr (Or.inl ⟨rfl, x10_2, rfl, rfl, rfl, rfl, rfl, Or.inr ⟨nc1, q6, eq6, j7, s8, hj9, Or.inl ⟨nc10, z12, ez12, hE⟩⟩⟩)))) (show z12.toInt+2 < (n_10 : Int) from by first | exact oz_ed4f025f7d hm tz12 | omega) hw (lv_sub hl [2, 3, 0] rfl)
        · have nc10 : (s8 0).toInt = p0.toInt := (i_eq (x := (s8 0)) (y := p0)).mp c10
          refine lv_aload_n S.x S.b d_Nam_find_34 rfl (lv_at hl 0 rfl) ?_
          have hw : pw D A s.heap _ _ [wd_Nam cs hn rn no nf na ng, wd_Lst cs (rn 0) (fun _ => 0) (fun k => if k = 0 then (some lq) else none) lf (fun _ _ => 0) (fun _ _ => none), [(lq, .inl (cs 12, lc, .inr (.inr (.inr (.inr lg)))))], wd_Lst cs (rn 1) (fun _ => 0) (fun k => if k = 0 then (some fq) else none) ff (fun _ _ => 0) (fun _ _ => none), [(fq, .inl (cs 12, fc, .inr (.inr (.inr (.inr fg)))))], P] := hw.sub [0, 4, 5, 1, 2, 3] rfl rfl
          exact px_aret (v := (some q6)) S hr (Or.inl ⟨_, rfl⟩) hlk hAe hw (Nat.le_of_ble_eq_true rfl) (Nat.le_of_ble_eq_true rfl) (⟨rfl, (show Sy P (some q6) from (by first | assumption | exact sy_none | exact fy_none | exact Fy.sy (by assumption) | exact sy_some (by assumption))), (show R_nm_find_T P lf lg p0 (some q6) from (k10_2 _ 1 (Or.inr (Or.inl ⟨rfl, x10_2, rfl, rfl, rfl, rfl, rfl, Or.inr ⟨nc1, q6, eq6, j7, s8, hj9, Or.inr ⟨nc10, rfl⟩⟩⟩))))⟩) d_Nam_find_35
  refine lv_aload_n S.x S.b d_Nam_find_0 rfl (lv_at hl 0 rfl) ?_
  refine px_get S k_Nam hT hw 0 0 0 (v := .ref (rn 0)) rfl rfl rfl (by decide) m2_75 d_Nam_find_1 ?_
  have hw : pw D A s.heap _ _ [wd_Nam cs hn rn no nf na ng, [(lq, .inl (cs 12, lc, .inr (.inr (.inr (.inr lg)))))], wd_Lst cs (rn 1) (fun _ => 0) (fun k => if k = 0 then (some fq) else none) ff (fun _ _ => 0) (fun _ _ => none), [(fq, .inl (cs 12, fc, .inr (.inr (.inr (.inr fg)))))], P, wd_Lst cs (rn 0) (fun _ => 0) (fun k => if k = 0 then (some lq) else none) lf (fun _ _ => 0) (fun _ _ => none)] := hw.sub [0, 2, 3, 4, 5, 1] rfl rfl
  refine px_calli (pr := [wd_Nam cs hn rn no nf na ng, [(lq, .inl (cs 12, lc, .inr (.inr (.inr (.inr lg)))))], wd_Lst cs (rn 1) (fun _ => 0) (fun k => if k = 0 then (some fq) else none) ff (fun _ _ => 0) (fun _ _ => none), [(fq, .inl (cs 12, fc, .inr (.inr (.inr (.inr fg)))))], P]) (px_runV (As := []) (rest := []) S (c_ls_size l D cs (rn 0) lq lf    _) hT (pr := [wd_Nam cs hn rn no nf na ng, [(lq, .inl (cs 12, lc, .inr (.inr (.inr (.inr lg)))))], wd_Lst cs (rn 1) (fun _ => 0) (fun k => if k = 0 then (some fq) else none) ff (fun _ _ => 0) (fun _ _ => none), [(fq, .inl (cs 12, fc, .inr (.inr (.inr (.inr fg)))))], P]) (pcs := [wd_Lst cs (rn 0) (fun _ => 0) (fun k => if k = 0 then (some lq) else none) lf (fun _ _ => 0) (fun _ _ => none)]) hw px_X.tt (px_recv hT hw 5 0 rfl rfl rfl) m4_75 m4_72 m4_73 m4_74 m1_10 q_Lst_size ⟨Nat.le_of_ble_eq_true rfl, Nat.le_of_ble_eq_true rfl⟩ hl.1 rfl (Nat.le_of_ble_eq_true rfl) d_Nam_find_4 ⟨Nat.le_of_ble_eq_true rfl, Nat.le_of_ble_eq_true rfl⟩) hw hA (fun v14 p13 H locs hp13 hw => ?_)
  obtain ⟨rfl, e15, e16⟩ := hp13
  have e15 : v14.toInt = (lf 1).toInt := e15
  have e16 : R_ls_size lf v14 := e16
  have hw : pw D A s.heap H locs [wd_Nam cs hn rn no nf na ng, [(lq, .inl (cs 12, lc, .inr (.inr (.inr (.inr lg)))))], wd_Lst cs (rn 1) (fun _ => 0) (fun k => if k = 0 then (some fq) else none) ff (fun _ _ => 0) (fun _ _ => none), [(fq, .inl (cs 12, fc, .inr (.inr (.inr (.inr fg)))))], P, wd_Lst cs (rn 0) (fun _ => 0) (fun k => if k = 0 then (some lq) else none) lf (fun _ _ => 0) (fun _ _ => none)] := hw
  have lv14 := Int32.le_toInt v14
  have uv14 := Int32.toInt_lt v14
  refine lv_iconst (v := 1) S.x S.b d_Nam_find_7 (by decide) ?_
  refine lv_isub S.x S.b d_Nam_find_8 ?_
  refine lv_topi (fun z17 ez17 => ?_)
  have tz17 : z17.toInt = (v14.toInt - (1 : Int) + 2147483648) % 4294967296 - 2147483648 := by rw [ez17]; exact i_sub v14 1
  have lz17 := Int32.le_toInt z17
  have uz17 := Int32.toInt_lt z17
  try replace tz17 : z17.toInt = v14.toInt - (1 : Int) := by omega
  refine lv_istore_n (lv' := [(2, .int z17), (0, .ref hn), (1, .int p0)]) S.x S.b d_Nam_find_9 rfl hl (by decide) rfl (fun ls hl => ?_)
  have hw : pw D A s.heap _ _ [wd_Nam cs hn rn no nf na ng, wd_Lst cs (rn 0) (fun _ => 0) (fun k => if k = 0 then (some lq) else none) lf (fun _ _ => 0) (fun _ _ => none), [(lq, .inl (cs 12, lc, .inr (.inr (.inr (.inr lg)))))], wd_Lst cs (rn 1) (fun _ => 0) (fun k => if k = 0 then (some fq) else none) ff (fun _ _ => 0) (fun _ _ => none), [(fq, .inl (cs 12, fc, .inr (.inr (.inr (.inr fg)))))], P] := hw.sub [0, 5, 1, 2, 3, 4] rfl rfl
  exact J10 ((z17.toInt+2).toNat + 1) z17 _ _ ls (show z17.toInt < (lf 1).toInt from by first | exact oz_c3803f0c4e e15 tz17 | omega) (show -1 ≤ z17.toInt from by first | exact oz_31ac67e034 tz17 e15 n1 | omega) (show K_nm_find_T_10 P lf lg p0 z17 from (fun y_v k hE => Exists.intro (k + 1) (Or.inl ⟨rfl, v14, e16, z17, ez17, hE⟩))) (show z17.toInt+2 < ((((z17.toInt+2).toNat + 1 : Nat) : Int) : Int) from by first | exact oz_natlt | omega) hw (lv_sub hl [1, 2, 0] rfl)
set_option maxHeartbeats 4000000 in
set_option maxRecDepth 100000 in
theorem c_nm_find_F (l : Launch) (D : va_G) (cs : Nat → ClassId) (hn : Nat) (rn : Nat → Nat) (no : Nat → Option Nat) (na : Nat → Nat → Int32) (ng : Nat → Nat → Option Nat) (lq : Nat) (lc : Nat) (fq : Nat) (fc : Nat) (P : va_W) (nf : Nat → Int32) (lf : Nat → Int32) (lg : Nat → Option Nat) (ff : Nat → Int32) (fg : Nat → Option Nat) (p0 : Int32)  (hinv0 : NmOk P false (lf 1) (ff 1) lc fc lg fg) : MetR l y_Nam_find b_Nam_find 4 (.object "HomeSystem$Symbol") D cs 3 90 (0) (0) [.ref hn, .int p0] [wd_Nam cs hn rn no nf na ng, wd_Lst cs (rn 0) (fun _ => 0) (fun k => if k = 0 then (some lq) else none) lf (fun _ _ => 0) (fun _ _ => none), [], wd_Lst cs (rn 1) (fun _ => 0) (fun k => if k = 0 then (some fq) else none) ff (fun _ _ => 0) (fun _ _ => none), [(fq, .inl (cs 12, fc, .inr (.inr (.inr (.inr fg)))))], P] (fun _ => True) (fun v ps => (ps = [wd_Nam cs hn rn no nf na ng, wd_Lst cs (rn 0) (fun _ => 0) (fun k => if k = 0 then (some lq) else none) lf (fun _ _ => 0) (fun _ _ => none), [], wd_Lst cs (rn 1) (fun _ => 0) (fun k => if k = 0 then (some fq) else none) ff (fun _ _ => 0) (fun _ _ => none), [(fq, .inl (cs 12, fc, .inr (.inr (.inr (.inr fg)))))], P]) ∧ (Sy P v) ∧ (R_nm_find_F lf p0 v)) := by
  refine px_enter (by decide) (Nat.le_of_ble_eq_true rfl) ?_
  intro p e s m below meth c A ls hAe S hr hlk hnm hA hT hX hw hl
  have hl : lv_has ls 4 [(0, .ref hn), (1, .int p0)] := hl
  have lp0 := Int32.le_toInt p0
  have up0 := Int32.toInt_lt p0
  have cst1 : (1 : Int32).toInt = 1 := rfl
  obtain ⟨hown, ⟨n1, n2, n3⟩, hEl, ⟨n4, n5, n6⟩, hEf⟩ := hinv0
  have hz0 : lc = 0 := hown rfl
  have J10 : ∀ (n_10 : Nat)  (x10_2 : Int32) (H : Heap) (locs : List Loc) (ls : Array Slot), (x10_2.toInt < (lf 1).toInt) → (-1 ≤ x10_2.toInt) → (K_nm_find_F_10 lf p0 x10_2) → x10_2.toInt+2 < (n_10 : Int) → pw D A s.heap H locs [wd_Nam cs hn rn no nf na ng, wd_Lst cs (rn 0) (fun _ => 0) (fun k => if k = 0 then (some lq) else none) lf (fun _ _ => 0) (fun _ _ => none), [], wd_Lst cs (rn 1) (fun _ => 0) (fun k => if k = 0 then (some fq) else none) ff (fun _ _ => 0) (fun _ _ => none), [(fq, .inl (cs 12, fc, .inr (.inr (.inr (.inr fg)))))], P] → lv_has ls 4 [(0, .ref hn), (1, .int p0), (2, .int x10_2)] → W p l e { frames := 3, cells := 0, slots := 0, locals := 90 } s m [.ref hn, .int p0].toArray below meth c H locs 0 0 (MQ below (va_Qq (fun v ps => (ps = [wd_Nam cs hn rn no nf na ng, wd_Lst cs (rn 0) (fun _ => 0) (fun k => if k = 0 then (some lq) else none) lf (fun _ _ => 0) (fun _ _ => none), [], wd_Lst cs (rn 1) (fun _ => 0) (fun k => if k = 0 then (some fq) else none) ff (fun _ _ => 0) (fun _ _ => none), [(fq, .inl (cs 12, fc, .inr (.inr (.inr (.inr fg)))))], P]) ∧ (Sy P v) ∧ (R_nm_find_F lf p0 v)) (pc_B D (va_A ([wd_Nam cs hn rn no nf na ng, wd_Lst cs (rn 0) (fun _ => 0) (fun k => if k = 0 then (some lq) else none) lf (fun _ _ => 0) (fun _ _ => none), [], wd_Lst cs (rn 1) (fun _ => 0) (fun k => if k = 0 then (some fq) else none) ff (fun _ _ => 0) (fun _ _ => none), [(fq, .inl (cs 12, fc, .inr (.inr (.inr (.inr fg)))))], P] : List va_W).flatten s.heap.size)) (va_A ([wd_Nam cs hn rn no nf na ng, wd_Lst cs (rn 0) (fun _ => 0) (fun k => if k = 0 then (some lq) else none) lf (fun _ _ => 0) (fun _ _ => none), [], wd_Lst cs (rn 1) (fun _ => 0) (fun k => if k = 0 then (some fq) else none) ff (fun _ _ => 0) (fun _ _ => none), [(fq, .inl (cs 12, fc, .inr (.inr (.inr (.inr fg)))))], P] : List va_W).flatten s.heap.size)) [.ref hn, .int p0].toArray s 0 0 A) (F0 m 10 ls []) := by
    intro n_10
    induction n_10 with
    | zero =>
      intro x10_2 H locs ls k10_0 k10_1 k10_2 hm hw hl
      have lx10_2 := Int32.le_toInt x10_2
      have ux10_2 := Int32.toInt_lt x10_2
      exact absurd hm (by omega)
    | succ n_10 ih10 =>
      intro x10_2 H locs ls k10_0 k10_1 k10_2 hm hw hl
      have lx10_2 := Int32.le_toInt x10_2
      have ux10_2 := Int32.toInt_lt x10_2
      refine lv_iload_n S.x S.b d_Nam_find_10 rfl (lv_at hl 2 rfl) ?_
      refine lv_if_lt (tgt := 42) S.x S.b d_Nam_find_11 (by decide) (fun c1 => ?_) (fun c1 => ?_)
      · have nc1 : x10_2.toInt < (0 : Int) := (i_lt (x := x10_2) (y := 0)).mp c1
        refine lv_null S.x S.b d_Nam_find_42 ?_
        exact px_aret (v := none) S hr (Or.inl ⟨_, rfl⟩) hlk hAe hw (Nat.le_of_ble_eq_true rfl) (Nat.le_of_ble_eq_true rfl) (⟨rfl, (show Sy P none from (by first | assumption | exact sy_none | exact fy_none | exact Fy.sy (by assumption) | exact sy_some (by assumption))), (show R_nm_find_F lf p0 none from (k10_2 _ 1 (Or.inr (Or.inl ⟨rfl, x10_2, rfl, rfl, rfl, rfl, rfl, nc1, rfl⟩))))⟩) d_Nam_find_43
      · have nc1 : ¬ x10_2.toInt < (0 : Int) := mt (i_lt (x := x10_2) (y := 0)).mpr c1
        refine lv_aload_n S.x S.b d_Nam_find_14 rfl (lv_at hl 0 rfl) ?_
        refine px_get S k_Nam hT hw 0 0 0 (v := .ref (rn 0)) rfl rfl rfl (by decide) m2_75 d_Nam_find_15 ?_
        refine lv_iload_n S.x S.b d_Nam_find_18 rfl (lv_at hl 2 rfl) ?_
        exfalso
        omega
  refine lv_aload_n S.x S.b d_Nam_find_0 rfl (lv_at hl 0 rfl) ?_
  refine px_get S k_Nam hT hw 0 0 0 (v := .ref (rn 0)) rfl rfl rfl (by decide) m2_75 d_Nam_find_1 ?_
  have hw : pw D A s.heap _ _ [wd_Nam cs hn rn no nf na ng, [], wd_Lst cs (rn 1) (fun _ => 0) (fun k => if k = 0 then (some fq) else none) ff (fun _ _ => 0) (fun _ _ => none), [(fq, .inl (cs 12, fc, .inr (.inr (.inr (.inr fg)))))], P, wd_Lst cs (rn 0) (fun _ => 0) (fun k => if k = 0 then (some lq) else none) lf (fun _ _ => 0) (fun _ _ => none)] := hw.sub [0, 2, 3, 4, 5, 1] rfl rfl
  refine px_calli (pr := [wd_Nam cs hn rn no nf na ng, [], wd_Lst cs (rn 1) (fun _ => 0) (fun k => if k = 0 then (some fq) else none) ff (fun _ _ => 0) (fun _ _ => none), [(fq, .inl (cs 12, fc, .inr (.inr (.inr (.inr fg)))))], P]) (px_runV (As := []) (rest := []) S (c_ls_size l D cs (rn 0) lq lf    _) hT (pr := [wd_Nam cs hn rn no nf na ng, [], wd_Lst cs (rn 1) (fun _ => 0) (fun k => if k = 0 then (some fq) else none) ff (fun _ _ => 0) (fun _ _ => none), [(fq, .inl (cs 12, fc, .inr (.inr (.inr (.inr fg)))))], P]) (pcs := [wd_Lst cs (rn 0) (fun _ => 0) (fun k => if k = 0 then (some lq) else none) lf (fun _ _ => 0) (fun _ _ => none)]) hw px_X.tt (px_recv hT hw 5 0 rfl rfl rfl) m4_75 m4_72 m4_73 m4_74 m1_10 q_Lst_size ⟨Nat.le_of_ble_eq_true rfl, Nat.le_of_ble_eq_true rfl⟩ hl.1 rfl (Nat.le_of_ble_eq_true rfl) d_Nam_find_4 ⟨Nat.le_of_ble_eq_true rfl, Nat.le_of_ble_eq_true rfl⟩) hw hA (fun v4 p3 H locs hp3 hw => ?_)
  obtain ⟨rfl, e5, e6⟩ := hp3
  have e5 : v4.toInt = (lf 1).toInt := e5
  have e6 : R_ls_size lf v4 := e6
  have hw : pw D A s.heap H locs [wd_Nam cs hn rn no nf na ng, [], wd_Lst cs (rn 1) (fun _ => 0) (fun k => if k = 0 then (some fq) else none) ff (fun _ _ => 0) (fun _ _ => none), [(fq, .inl (cs 12, fc, .inr (.inr (.inr (.inr fg)))))], P, wd_Lst cs (rn 0) (fun _ => 0) (fun k => if k = 0 then (some lq) else none) lf (fun _ _ => 0) (fun _ _ => none)] := hw
  have lv4 := Int32.le_toInt v4
  have uv4 := Int32.toInt_lt v4
  refine lv_iconst (v := 1) S.x S.b d_Nam_find_7 (by decide) ?_
  refine lv_isub S.x S.b d_Nam_find_8 ?_
  refine lv_topi (fun z7 ez7 => ?_)
  have tz7 : z7.toInt = (v4.toInt - (1 : Int) + 2147483648) % 4294967296 - 2147483648 := by rw [ez7]; exact i_sub v4 1
  have lz7 := Int32.le_toInt z7
  have uz7 := Int32.toInt_lt z7
  try replace tz7 : z7.toInt = v4.toInt - (1 : Int) := by omega
  refine lv_istore_n (lv' := [(2, .int z7), (0, .ref hn), (1, .int p0)]) S.x S.b d_Nam_find_9 rfl hl (by decide) rfl (fun ls hl => ?_)
  have hw : pw D A s.heap _ _ [wd_Nam cs hn rn no nf na ng, wd_Lst cs (rn 0) (fun _ => 0) (fun k => if k = 0 then (some lq) else none) lf (fun _ _ => 0) (fun _ _ => none), [], wd_Lst cs (rn 1) (fun _ => 0) (fun k => if k = 0 then (some fq) else none) ff (fun _ _ => 0) (fun _ _ => none), [(fq, .inl (cs 12, fc, .inr (.inr (.inr (.inr fg)))))], P] := hw.sub [0, 5, 1, 2, 3, 4] rfl rfl
  exact J10 ((z7.toInt+2).toNat + 1) z7 _ _ ls (show z7.toInt < (lf 1).toInt from by first | exact oz_c3803f0c4e e5 tz7 | omega) (show -1 ≤ z7.toInt from by first | exact oz_31ac67e034 tz7 e5 n1 | omega) (show K_nm_find_F_10 lf p0 z7 from (fun y_v k hE => Exists.intro (k + 1) (Or.inl ⟨rfl, v4, e6, z7, ez7, hE⟩))) (show z7.toInt+2 < ((((z7.toInt+2).toNat + 1 : Nat) : Int) : Int) from by first | exact oz_natlt | omega) hw (lv_sub hl [1, 2, 0] rfl)
set_option maxHeartbeats 4000000 in
set_option maxRecDepth 100000 in
theorem c_nm_find (l : Launch) (D : va_G) (cs : Nat → ClassId) (hn : Nat) (rn : Nat → Nat) (no : Nat → Option Nat) (na : Nat → Nat → Int32) (ng : Nat → Nat → Option Nat) (own : Bool) (lq : Nat) (lc : Nat) (fq : Nat) (fc : Nat) (P : va_W) (nf : Nat → Int32) (lf : Nat → Int32) (lg : Nat → Option Nat) (ff : Nat → Int32) (fg : Nat → Option Nat) (p0 : Int32)  (hinv0 : NmOk P own (lf 1) (ff 1) lc fc lg fg) : MetR l y_Nam_find b_Nam_find 4 (.object "HomeSystem$Symbol") D cs 3 90 (0) (0) [.ref hn, .int p0] [wd_Nam cs hn rn no nf na ng, wd_Lst cs (rn 0) (fun _ => 0) (fun k => if k = 0 then (some lq) else none) lf (fun _ _ => 0) (fun _ _ => none), lA cs own lq lc lg, wd_Lst cs (rn 1) (fun _ => 0) (fun k => if k = 0 then (some fq) else none) ff (fun _ _ => 0) (fun _ _ => none), [(fq, .inl (cs 12, fc, .inr (.inr (.inr (.inr fg)))))], P] (fun _ => True) (fun v ps => (ps = [wd_Nam cs hn rn no nf na ng, wd_Lst cs (rn 0) (fun _ => 0) (fun k => if k = 0 then (some lq) else none) lf (fun _ _ => 0) (fun _ _ => none), lA cs own lq lc lg, wd_Lst cs (rn 1) (fun _ => 0) (fun k => if k = 0 then (some fq) else none) ff (fun _ _ => 0) (fun _ _ => none), [(fq, .inl (cs 12, fc, .inr (.inr (.inr (.inr fg)))))], P]) ∧ (Sy P v) ∧ (R_nm_find own P lf lg p0 v)) := by
  cases own with
  | true => exact c_nm_find_T l D cs hn rn no na ng lq lc fq fc P nf lf lg ff fg p0 hinv0
  | false => exact c_nm_find_F l D cs hn rn no na ng lq lc fq fc P nf lf lg ff fg p0 hinv0
abbrev b_Nam_isKnownHere : ByteArray := prog_5_method_8_code
def y_Nam_isKnownHere : MethodName := ⟨"HomeSystem$Names", "isKnownHere", "(I)Z"⟩
theorem d_Nam_isKnownHere_0 : decode b_Nam_isKnownHere 0 = .ok (.aload_n 0, 1) := by decide +kernel
theorem d_Nam_isKnownHere_1 : decode b_Nam_isKnownHere 1 = .ok (.getfield 12, 3) := by decide +kernel
theorem d_Nam_isKnownHere_4 : decode b_Nam_isKnownHere 4 = .ok (.invokevirtual 59, 3) := by decide +kernel
theorem d_Nam_isKnownHere_7 : decode b_Nam_isKnownHere 7 = .ok (.iconst 1, 1) := by decide +kernel
theorem d_Nam_isKnownHere_8 : decode b_Nam_isKnownHere 8 = .ok (.isub, 1) := by decide +kernel
theorem d_Nam_isKnownHere_9 : decode b_Nam_isKnownHere 9 = .ok (.istore_n 2, 1) := by decide +kernel
theorem d_Nam_isKnownHere_10 : decode b_Nam_isKnownHere 10 = .ok (.iload_n 2, 1) := by decide +kernel
theorem d_Nam_isKnownHere_11 : decode b_Nam_isKnownHere 11 = .ok (.aload_n 0, 1) := by decide +kernel
theorem d_Nam_isKnownHere_12 : decode b_Nam_isKnownHere 12 = .ok (.getfield 69, 3) := by decide +kernel
theorem d_Nam_isKnownHere_15 : decode b_Nam_isKnownHere 15 = .ok (.if_icmp .lt 33, 3) := by decide +kernel
theorem d_Nam_isKnownHere_18 : decode b_Nam_isKnownHere 18 = .ok (.iload_n 2, 1) := by decide +kernel
theorem d_Nam_isKnownHere_19 : decode b_Nam_isKnownHere 19 = .ok (.ifCond .lt 29, 3) := by decide +kernel
theorem d_Nam_isKnownHere_22 : decode b_Nam_isKnownHere 22 = .ok (.aload_n 0, 1) := by decide +kernel
theorem d_Nam_isKnownHere_23 : decode b_Nam_isKnownHere 23 = .ok (.getfield 12, 3) := by decide +kernel
theorem d_Nam_isKnownHere_26 : decode b_Nam_isKnownHere 26 = .ok (.iload_n 2, 1) := by decide +kernel
theorem d_Nam_isKnownHere_27 : decode b_Nam_isKnownHere 27 = .ok (.invokevirtual 72, 3) := by decide +kernel
theorem d_Nam_isKnownHere_30 : decode b_Nam_isKnownHere 30 = .ok (.checkcast 28, 3) := by decide +kernel
theorem d_Nam_isKnownHere_33 : decode b_Nam_isKnownHere 33 = .ok (.getfield 75, 3) := by decide +kernel
theorem d_Nam_isKnownHere_36 : decode b_Nam_isKnownHere 36 = .ok (.iload_n 1, 1) := by decide +kernel
theorem d_Nam_isKnownHere_37 : decode b_Nam_isKnownHere 37 = .ok (.if_icmp .ne 5, 3) := by decide +kernel
theorem d_Nam_isKnownHere_40 : decode b_Nam_isKnownHere 40 = .ok (.iconst 1, 1) := by decide +kernel
theorem d_Nam_isKnownHere_41 : decode b_Nam_isKnownHere 41 = .ok (.ireturn, 1) := by decide +kernel
theorem d_Nam_isKnownHere_42 : decode b_Nam_isKnownHere 42 = .ok (.iinc 2 (-1), 3) := by decide +kernel
theorem d_Nam_isKnownHere_45 : decode b_Nam_isKnownHere 45 = .ok (.goto (-35), 3) := by decide +kernel
theorem d_Nam_isKnownHere_48 : decode b_Nam_isKnownHere 48 = .ok (.iconst 0, 1) := by decide +kernel
theorem d_Nam_isKnownHere_49 : decode b_Nam_isKnownHere 49 = .ok (.ireturn, 1) := by decide +kernel
theorem q_Nam_isKnownHere : px_y y_Nam_isKnownHere 1 := by unfold px_y; decide +kernel
set_option maxHeartbeats 4000000 in
set_option maxRecDepth 100000 in
theorem c_nm_isKnownHere_T (l : Launch) (D : va_G) (cs : Nat → ClassId) (hn : Nat) (rn : Nat → Nat) (no : Nat → Option Nat) (na : Nat → Nat → Int32) (ng : Nat → Nat → Option Nat) (lq : Nat) (lc : Nat) (fq : Nat) (fc : Nat) (P : va_W) (nf : Nat → Int32) (lf : Nat → Int32) (lg : Nat → Option Nat) (ff : Nat → Int32) (fg : Nat → Option Nat) (p0 : Int32)  (hinv0 : NmOk P true (lf 1) (ff 1) lc fc lg fg) : MetI l y_Nam_isKnownHere b_Nam_isKnownHere 3 (.boolean) D cs 3 90 (0) (0) [.ref hn, .int p0] [wd_Nam cs hn rn no nf na ng, wd_Lst cs (rn 0) (fun _ => 0) (fun k => if k = 0 then (some lq) else none) lf (fun _ _ => 0) (fun _ _ => none), [(lq, .inl (cs 12, lc, .inr (.inr (.inr (.inr lg)))))], wd_Lst cs (rn 1) (fun _ => 0) (fun k => if k = 0 then (some fq) else none) ff (fun _ _ => 0) (fun _ _ => none), [(fq, .inl (cs 12, fc, .inr (.inr (.inr (.inr fg)))))], P] (fun _ => True) (fun v ps => (ps = [wd_Nam cs hn rn no nf na ng, wd_Lst cs (rn 0) (fun _ => 0) (fun k => if k = 0 then (some lq) else none) lf (fun _ _ => 0) (fun _ _ => none), [(lq, .inl (cs 12, lc, .inr (.inr (.inr (.inr lg)))))], wd_Lst cs (rn 1) (fun _ => 0) (fun k => if k = 0 then (some fq) else none) ff (fun _ _ => 0) (fun _ _ => none), [(fq, .inl (cs 12, fc, .inr (.inr (.inr (.inr fg)))))], P]) ∧ (v = 0 ∨ v = 1) ∧ (R_nm_isKnownHere_T P nf lf lg p0 v)) := by
  refine px_enter (by decide) (Nat.le_of_ble_eq_true rfl) ?_
  intro p e s m below meth c A ls hAe S hr hlk hnm hA hT hX hw hl
  have hl : lv_has ls 3 [(0, .ref hn), (1, .int p0)] := hl
  have lp0 := Int32.le_toInt p0
  have up0 := Int32.toInt_lt p0
  have cst0 : (0 : Int32).toInt = 0 := rfl
  have cst1 : (1 : Int32).toInt = 1 := rfl
  obtain ⟨hown, ⟨n1, n2, n3⟩, hEl, ⟨n4, n5, n6⟩, hEf⟩ := hinv0
  have J10 : ∀ (n_10 : Nat)  (x10_2 : Int32) (H : Heap) (locs : List Loc) (ls : Array Slot), (x10_2.toInt < (lf 1).toInt) → (-1 ≤ x10_2.toInt) → (K_nm_isKnownHere_T_10 P nf lf lg p0 x10_2) → x10_2.toInt+2 < (n_10 : Int) → pw D A s.heap H locs [wd_Nam cs hn rn no nf na ng, wd_Lst cs (rn 0) (fun _ => 0) (fun k => if k = 0 then (some lq) else none) lf (fun _ _ => 0) (fun _ _ => none), [(lq, .inl (cs 12, lc, .inr (.inr (.inr (.inr lg)))))], wd_Lst cs (rn 1) (fun _ => 0) (fun k => if k = 0 then (some fq) else none) ff (fun _ _ => 0) (fun _ _ => none), [(fq, .inl (cs 12, fc, .inr (.inr (.inr (.inr fg)))))], P] → lv_has ls 3 [(0, .ref hn), (1, .int p0), (2, .int x10_2)] → W p l e { frames := 3, cells := 0, slots := 0, locals := 90 } s m [.ref hn, .int p0].toArray below meth c H locs 0 0 (MQ below (va_Qi (fun v ps => (ps = [wd_Nam cs hn rn no nf na ng, wd_Lst cs (rn 0) (fun _ => 0) (fun k => if k = 0 then (some lq) else none) lf (fun _ _ => 0) (fun _ _ => none), [(lq, .inl (cs 12, lc, .inr (.inr (.inr (.inr lg)))))], wd_Lst cs (rn 1) (fun _ => 0) (fun k => if k = 0 then (some fq) else none) ff (fun _ _ => 0) (fun _ _ => none), [(fq, .inl (cs 12, fc, .inr (.inr (.inr (.inr fg)))))], P]) ∧ (v = 0 ∨ v = 1) ∧ (R_nm_isKnownHere_T P nf lf lg p0 v)) (pc_B D (va_A ([wd_Nam cs hn rn no nf na ng, wd_Lst cs (rn 0) (fun _ => 0) (fun k => if k = 0 then (some lq) else none) lf (fun _ _ => 0) (fun _ _ => none), [(lq, .inl (cs 12, lc, .inr (.inr (.inr (.inr lg)))))], wd_Lst cs (rn 1) (fun _ => 0) (fun k => if k = 0 then (some fq) else none) ff (fun _ _ => 0) (fun _ _ => none), [(fq, .inl (cs 12, fc, .inr (.inr (.inr (.inr fg)))))], P] : List va_W).flatten s.heap.size)) (va_A ([wd_Nam cs hn rn no nf na ng, wd_Lst cs (rn 0) (fun _ => 0) (fun k => if k = 0 then (some lq) else none) lf (fun _ _ => 0) (fun _ _ => none), [(lq, .inl (cs 12, lc, .inr (.inr (.inr (.inr lg)))))], wd_Lst cs (rn 1) (fun _ => 0) (fun k => if k = 0 then (some fq) else none) ff (fun _ _ => 0) (fun _ _ => none), [(fq, .inl (cs 12, fc, .inr (.inr (.inr (.inr fg)))))], P] : List va_W).flatten s.heap.size)) [.ref hn, .int p0].toArray s 0 0 A) (F0 m 10 ls []) := by
    intro n_10
    induction n_10 with
    | zero =>
      intro x10_2 H locs ls k10_0 k10_1 k10_2 hm hw hl
      have lx10_2 := Int32.le_toInt x10_2
      have ux10_2 := Int32.toInt_lt x10_2
      exact absurd hm (by omega)
    | succ n_10 ih10 =>
      intro x10_2 H locs ls k10_0 k10_1 k10_2 hm hw hl
      have lx10_2 := Int32.le_toInt x10_2
      have ux10_2 := Int32.toInt_lt x10_2
      refine lv_iload_n S.x S.b d_Nam_isKnownHere_10 rfl (lv_at hl 2 rfl) ?_
      refine lv_aload_n S.x S.b d_Nam_isKnownHere_11 rfl (lv_at hl 0 rfl) ?_
      refine px_get S k_Nam hT hw 0 0 4 (v := .int (nf 4)) rfl rfl rfl (by decide) m2_79 d_Nam_isKnownHere_12 ?_
      refine lv_icmp_lt (tgt := 48) S.x S.b d_Nam_isKnownHere_15 (by decide) (fun c1 => ?_) (fun c1 => ?_)
      · have nc1 : x10_2.toInt < (nf 4).toInt := (i_lt (x := x10_2) (y := (nf 4))).mp c1
        refine lv_iconst (v := 0) S.x S.b d_Nam_isKnownHere_48 (by decide) ?_
        exact px_iret (v := 0) S hr rfl hlk hAe hw (Nat.le_of_ble_eq_true rfl) (Nat.le_of_ble_eq_true rfl) (⟨rfl, (show (0 : Int32) = 0 ∨ (0 : Int32) = 1 from by first | exact Or.inl rfl | exact Or.inr rfl | exact z_or (by omega)), (show R_nm_isKnownHere_T P nf lf lg p0 (0 : Int32) from (k10_2 _ 1 (Or.inr (Or.inl ⟨rfl, x10_2, rfl, rfl, rfl, rfl, rfl, Or.inl ⟨nc1, rfl⟩⟩))))⟩) d_Nam_isKnownHere_49
      · have nc1 : ¬ x10_2.toInt < (nf 4).toInt := mt (i_lt (x := x10_2) (y := (nf 4))).mpr c1
        refine lv_iload_n S.x S.b d_Nam_isKnownHere_18 rfl (lv_at hl 2 rfl) ?_
        refine lv_if_lt (tgt := 48) S.x S.b d_Nam_isKnownHere_19 (by decide) (fun c3 => ?_) (fun c3 => ?_)
        · have nc3 : x10_2.toInt < (0 : Int) := (i_lt (x := x10_2) (y := 0)).mp c3
          refine lv_iconst (v := 0) S.x S.b d_Nam_isKnownHere_48 (by decide) ?_
          exact px_iret (v := 0) S hr rfl hlk hAe hw (Nat.le_of_ble_eq_true rfl) (Nat.le_of_ble_eq_true rfl) (⟨rfl, (show (0 : Int32) = 0 ∨ (0 : Int32) = 1 from by first | exact Or.inl rfl | exact Or.inr rfl | exact z_or (by omega)), (show R_nm_isKnownHere_T P nf lf lg p0 (0 : Int32) from (k10_2 _ 1 (Or.inr (Or.inl ⟨rfl, x10_2, rfl, rfl, rfl, rfl, rfl, Or.inr ⟨nc1, Or.inl ⟨nc3, rfl⟩⟩⟩))))⟩) d_Nam_isKnownHere_49
        · have nc3 : ¬ x10_2.toInt < (0 : Int) := mt (i_lt (x := x10_2) (y := 0)).mpr c3
          refine lv_aload_n S.x S.b d_Nam_isKnownHere_22 rfl (lv_at hl 0 rfl) ?_
          refine px_get S k_Nam hT hw 0 0 0 (v := .ref (rn 0)) rfl rfl rfl (by decide) m2_75 d_Nam_isKnownHere_23 ?_
          refine lv_iload_n S.x S.b d_Nam_isKnownHere_26 rfl (lv_at hl 2 rfl) ?_
          have hw : pw D A s.heap _ _ [wd_Nam cs hn rn no nf na ng, wd_Lst cs (rn 1) (fun _ => 0) (fun k => if k = 0 then (some fq) else none) ff (fun _ _ => 0) (fun _ _ => none), [(fq, .inl (cs 12, fc, .inr (.inr (.inr (.inr fg)))))], P, wd_Lst cs (rn 0) (fun _ => 0) (fun k => if k = 0 then (some lq) else none) lf (fun _ _ => 0) (fun _ _ => none), [(lq, .inl (cs 12, lc, .inr (.inr (.inr (.inr lg)))))]] := hw.sub [0, 3, 4, 5, 1, 2] rfl rfl
          refine px_callq (pr := [wd_Nam cs hn rn no nf na ng, wd_Lst cs (rn 1) (fun _ => 0) (fun k => if k = 0 then (some fq) else none) ff (fun _ _ => 0) (fun _ _ => none), [(fq, .inl (cs 12, fc, .inr (.inr (.inr (.inr fg)))))], P]) (px_runV (As := [.int x10_2]) (rest := []) S (c_Lst_get l D cs (rn 0) lq lc lf lg x10_2  (show lc ≤ 1000000 from by first | exact n3 | omega) (show 0 ≤ (lf 1).toInt from by first | exact n1 | omega) (show (lf 1).toInt ≤ (lc : Int) from by first | exact n2 | omega) (show 0 ≤ x10_2.toInt from by first | exact oz_18a5c06a28 nc3 | omega) (show x10_2.toInt < (lf 1).toInt from by first | exact k10_0 | omega) _) hT (pr := [wd_Nam cs hn rn no nf na ng, wd_Lst cs (rn 1) (fun _ => 0) (fun k => if k = 0 then (some fq) else none) ff (fun _ _ => 0) (fun _ _ => none), [(fq, .inl (cs 12, fc, .inr (.inr (.inr (.inr fg)))))], P]) (pcs := [wd_Lst cs (rn 0) (fun _ => 0) (fun k => if k = 0 then (some lq) else none) lf (fun _ _ => 0) (fun _ _ => none), [(lq, .inl (cs 12, lc, .inr (.inr (.inr (.inr lg)))))]]) hw px_X.tt (px_recv hT hw 4 0 rfl rfl rfl) m5_22 m5_19 m5_20 m5_21 m1_10 q_Lst_get ⟨Nat.le_of_ble_eq_true rfl, Nat.le_of_ble_eq_true rfl⟩ hl.1 rfl (Nat.le_of_ble_eq_true rfl) d_Nam_isKnownHere_27 ⟨Nat.le_of_ble_eq_true rfl, Nat.le_of_ble_eq_true rfl⟩) hw hA (fun v6 p5 H locs hp5 hw => ?_)
          obtain ⟨rfl, e7⟩ := hp5
          subst e7
          have hw : pw D A s.heap H locs [wd_Nam cs hn rn no nf na ng, wd_Lst cs (rn 1) (fun _ => 0) (fun k => if k = 0 then (some fq) else none) ff (fun _ _ => 0) (fun _ _ => none), [(fq, .inl (cs 12, fc, .inr (.inr (.inr (.inr fg)))))], P, wd_Lst cs (rn 0) (fun _ => 0) (fun k => if k = 0 then (some lq) else none) lf (fun _ _ => 0) (fun _ _ => none), [(lq, .inl (cs 12, lc, .inr (.inr (.inr (.inr lg)))))]] := hw
          obtain ⟨q8, eq8, hq8⟩ := hEl.at (x := x10_2) (by omega) (by omega); rw [eq8]
          obtain ⟨j9, s10, hj11⟩ := (show Sy P (some q8) by first | assumption | exact Fy.sy (by assumption)).at
          refine px_castP S hT hw 3 j9 rfl hj11 rfl m1_202 m14_232n d_Nam_isKnownHere_30 ?_
          refine px_get S k_Sym hT hw 3 j9 0 (v := .int (s10 0)) rfl hj11 rfl (by decide) m1_209 d_Nam_isKnownHere_33 ?_
          refine lv_iload_n S.x S.b d_Nam_isKnownHere_36 rfl (lv_at hl 1 rfl) ?_
          refine lv_icmp_ne (tgt := 42) S.x S.b d_Nam_isKnownHere_37 (by decide) (fun c12 => ?_) (fun c12 => ?_)
          · have nc12 : ¬ (s10 0).toInt = p0.toInt := mt (i_eq (x := (s10 0)) (y := p0)).mpr c12
            obtain ⟨z14, ez14⟩ : ∃ y : Int32, y = x10_2 + (-1) := ⟨_, rfl⟩
            have tz14 : z14.toInt = (x10_2.toInt + (-1) + 2147483648) % 4294967296 - 2147483648 := by rw [ez14]; exact i_add x10_2 (-1)
            have lz14 := Int32.le_toInt z14
            have uz14 := Int32.toInt_lt z14
            try replace tz14 : z14.toInt = x10_2.toInt + (-1) := by omega
            refine lv_iinc (v := z14) (lv' := [(2, .int z14), (0, .ref hn), (1, .int p0)]) S.x S.b d_Nam_isKnownHere_42 hl (k := 2) rfl (by rw [ez14]; rfl) (by decide) rfl (fun ls hl => ?_)
            refine lv_goto (tgt := 10) S.x S.b d_Nam_isKnownHere_45 (by decide) ?_
            have hw : pw D A s.heap _ _ [wd_Nam cs hn rn no nf na ng, wd_Lst cs (rn 0) (fun _ => 0) (fun k => if k = 0 then (some lq) else none) lf (fun _ _ => 0) (fun _ _ => none), [(lq, .inl (cs 12, lc, .inr (.inr (.inr (.inr lg)))))], wd_Lst cs (rn 1) (fun _ => 0) (fun k => if k = 0 then (some fq) else none) ff (fun _ _ => 0) (fun _ _ => none), [(fq, .inl (cs 12, fc, .inr (.inr (.inr (.inr fg)))))], P] := hw.sub [0, 4, 5, 1, 2, 3] rfl rfl
            exact ih10 z14 _ _ ls (show z14.toInt < (lf 1).toInt from by first | exact oz_e9273f1cf5 k10_0 tz14 | omega) (show -1 ≤ z14.toInt from by first | exact oz_d2e73a1b11 tz14 nc3 | omega) (show K_nm_isKnownHere_T_10 P nf lf lg p0 z14 from (fun y_v k hE => k10_2 y_v (k + 1) (Or.inr (Or.inl ⟨rfl, x10_2, rfl, rfl, rfl, rfl, rfl, Or.inr ⟨nc1, Or.inr ⟨nc3, q8, eq8, j9, s10, hj11, Or.inl ⟨nc12, z14, ez14, hE⟩⟩⟩⟩)))) (show z14.toInt+2 < (n_10 : Int) from by first | exact oz_ed4f025f7d hm tz14 | omega) hw (lv_sub hl [1, 2, 0] rfl)
          · have nc12 : (s10 0).toInt = p0.toInt := (i_eq (x := (s10 0)) (y := p0)).mp c12
            refine lv_iconst (v := 1) S.x S.b d_Nam_isKnownHere_40 (by decide) ?_
            have hw : pw D A s.heap _ _ [wd_Nam cs hn rn no nf na ng, wd_Lst cs (rn 0) (fun _ => 0) (fun k => if k = 0 then (some lq) else none) lf (fun _ _ => 0) (fun _ _ => none), [(lq, .inl (cs 12, lc, .inr (.inr (.inr (.inr lg)))))], wd_Lst cs (rn 1) (fun _ => 0) (fun k => if k = 0 then (some fq) else none) ff (fun _ _ => 0) (fun _ _ => none), [(fq, .inl (cs 12, fc, .inr (.inr (.inr (.inr fg)))))], P] := hw.sub [0, 4, 5, 1, 2, 3] rfl rfl
            exact px_iret (v := 1) S hr rfl hlk hAe hw (Nat.le_of_ble_eq_true rfl) (Nat.le_of_ble_eq_true rfl) (⟨rfl, (show (1 : Int32) = 0 ∨ (1 : Int32) = 1 from by first | exact Or.inl rfl | exact Or.inr rfl | exact z_or (by omega)), (show R_nm_isKnownHere_T P nf lf lg p0 (1 : Int32) from (k10_2 _ 1 (Or.inr (Or.inl ⟨rfl, x10_2, rfl, rfl, rfl, rfl, rfl, Or.inr ⟨nc1, Or.inr ⟨nc3, q8, eq8, j9, s10, hj11, Or.inr ⟨nc12, rfl⟩⟩⟩⟩))))⟩) d_Nam_isKnownHere_41
  refine lv_aload_n S.x S.b d_Nam_isKnownHere_0 rfl (lv_at hl 0 rfl) ?_
  refine px_get S k_Nam hT hw 0 0 0 (v := .ref (rn 0)) rfl rfl rfl (by decide) m2_75 d_Nam_isKnownHere_1 ?_
  have hw : pw D A s.heap _ _ [wd_Nam cs hn rn no nf na ng, [(lq, .inl (cs 12, lc, .inr (.inr (.inr (.inr lg)))))], wd_Lst cs (rn 1) (fun _ => 0) (fun k => if k = 0 then (some fq) else none) ff (fun _ _ => 0) (fun _ _ => none), [(fq, .inl (cs 12, fc, .inr (.inr (.inr (.inr fg)))))], P, wd_Lst cs (rn 0) (fun _ => 0) (fun k => if k = 0 then (some lq) else none) lf (fun _ _ => 0) (fun _ _ => none)] := hw.sub [0, 2, 3, 4, 5, 1] rfl rfl
  refine px_calli (pr := [wd_Nam cs hn rn no nf na ng, [(lq, .inl (cs 12, lc, .inr (.inr (.inr (.inr lg)))))], wd_Lst cs (rn 1) (fun _ => 0) (fun k => if k = 0 then (some fq) else none) ff (fun _ _ => 0) (fun _ _ => none), [(fq, .inl (cs 12, fc, .inr (.inr (.inr (.inr fg)))))], P]) (px_runV (As := []) (rest := []) S (c_ls_size l D cs (rn 0) lq lf    _) hT (pr := [wd_Nam cs hn rn no nf na ng, [(lq, .inl (cs 12, lc, .inr (.inr (.inr (.inr lg)))))], wd_Lst cs (rn 1) (fun _ => 0) (fun k => if k = 0 then (some fq) else none) ff (fun _ _ => 0) (fun _ _ => none), [(fq, .inl (cs 12, fc, .inr (.inr (.inr (.inr fg)))))], P]) (pcs := [wd_Lst cs (rn 0) (fun _ => 0) (fun k => if k = 0 then (some lq) else none) lf (fun _ _ => 0) (fun _ _ => none)]) hw px_X.tt (px_recv hT hw 5 0 rfl rfl rfl) m4_75 m4_72 m4_73 m4_74 m1_10 q_Lst_size ⟨Nat.le_of_ble_eq_true rfl, Nat.le_of_ble_eq_true rfl⟩ hl.1 rfl (Nat.le_of_ble_eq_true rfl) d_Nam_isKnownHere_4 ⟨Nat.le_of_ble_eq_true rfl, Nat.le_of_ble_eq_true rfl⟩) hw hA (fun v16 p15 H locs hp15 hw => ?_)
  obtain ⟨rfl, e17, e18⟩ := hp15
  have e17 : v16.toInt = (lf 1).toInt := e17
  have e18 : R_ls_size lf v16 := e18
  have hw : pw D A s.heap H locs [wd_Nam cs hn rn no nf na ng, [(lq, .inl (cs 12, lc, .inr (.inr (.inr (.inr lg)))))], wd_Lst cs (rn 1) (fun _ => 0) (fun k => if k = 0 then (some fq) else none) ff (fun _ _ => 0) (fun _ _ => none), [(fq, .inl (cs 12, fc, .inr (.inr (.inr (.inr fg)))))], P, wd_Lst cs (rn 0) (fun _ => 0) (fun k => if k = 0 then (some lq) else none) lf (fun _ _ => 0) (fun _ _ => none)] := hw
  have lv16 := Int32.le_toInt v16
  have uv16 := Int32.toInt_lt v16
  refine lv_iconst (v := 1) S.x S.b d_Nam_isKnownHere_7 (by decide) ?_
  refine lv_isub S.x S.b d_Nam_isKnownHere_8 ?_
  refine lv_topi (fun z19 ez19 => ?_)
  have tz19 : z19.toInt = (v16.toInt - (1 : Int) + 2147483648) % 4294967296 - 2147483648 := by rw [ez19]; exact i_sub v16 1
  have lz19 := Int32.le_toInt z19
  have uz19 := Int32.toInt_lt z19
  try replace tz19 : z19.toInt = v16.toInt - (1 : Int) := by omega
  refine lv_istore_n (lv' := [(2, .int z19), (0, .ref hn), (1, .int p0)]) S.x S.b d_Nam_isKnownHere_9 rfl hl (by decide) rfl (fun ls hl => ?_)
  have hw : pw D A s.heap _ _ [wd_Nam cs hn rn no nf na ng, wd_Lst cs (rn 0) (fun _ => 0) (fun k => if k = 0 then (some lq) else none) lf (fun _ _ => 0) (fun _ _ => none), [(lq, .inl (cs 12, lc, .inr (.inr (.inr (.inr lg)))))], wd_Lst cs (rn 1) (fun _ => 0) (fun k => if k = 0 then (some fq) else none) ff (fun _ _ => 0) (fun _ _ => none), [(fq, .inl (cs 12, fc, .inr (.inr (.inr (.inr fg)))))], P] := hw.sub [0, 5, 1, 2, 3, 4] rfl rfl
  exact J10 ((z19.toInt+2).toNat + 1) z19 _ _ ls (show z19.toInt < (lf 1).toInt from by first | exact oz_c3803f0c4e e17 tz19 | omega) (show -1 ≤ z19.toInt from by first | exact oz_31ac67e034 tz19 e17 n1 | omega) (show K_nm_isKnownHere_T_10 P nf lf lg p0 z19 from (fun y_v k hE => Exists.intro (k + 1) (Or.inl ⟨rfl, v16, e18, z19, ez19, hE⟩))) (show z19.toInt+2 < ((((z19.toInt+2).toNat + 1 : Nat) : Int) : Int) from by first | exact oz_natlt | omega) hw (lv_sub hl [1, 2, 0] rfl)
set_option maxHeartbeats 4000000 in
set_option maxRecDepth 100000 in
theorem c_nm_isKnownHere_F (l : Launch) (D : va_G) (cs : Nat → ClassId) (hn : Nat) (rn : Nat → Nat) (no : Nat → Option Nat) (na : Nat → Nat → Int32) (ng : Nat → Nat → Option Nat) (lq : Nat) (lc : Nat) (fq : Nat) (fc : Nat) (P : va_W) (nf : Nat → Int32) (lf : Nat → Int32) (lg : Nat → Option Nat) (ff : Nat → Int32) (fg : Nat → Option Nat) (p0 : Int32)  (hinv0 : NmOk P false (lf 1) (ff 1) lc fc lg fg) : MetI l y_Nam_isKnownHere b_Nam_isKnownHere 3 (.boolean) D cs 3 90 (0) (0) [.ref hn, .int p0] [wd_Nam cs hn rn no nf na ng, wd_Lst cs (rn 0) (fun _ => 0) (fun k => if k = 0 then (some lq) else none) lf (fun _ _ => 0) (fun _ _ => none), [], wd_Lst cs (rn 1) (fun _ => 0) (fun k => if k = 0 then (some fq) else none) ff (fun _ _ => 0) (fun _ _ => none), [(fq, .inl (cs 12, fc, .inr (.inr (.inr (.inr fg)))))], P] (fun _ => True) (fun v ps => (ps = [wd_Nam cs hn rn no nf na ng, wd_Lst cs (rn 0) (fun _ => 0) (fun k => if k = 0 then (some lq) else none) lf (fun _ _ => 0) (fun _ _ => none), [], wd_Lst cs (rn 1) (fun _ => 0) (fun k => if k = 0 then (some fq) else none) ff (fun _ _ => 0) (fun _ _ => none), [(fq, .inl (cs 12, fc, .inr (.inr (.inr (.inr fg)))))], P]) ∧ (v = 0 ∨ v = 1) ∧ (R_nm_isKnownHere_F nf lf p0 v)) := by
  refine px_enter (by decide) (Nat.le_of_ble_eq_true rfl) ?_
  intro p e s m below meth c A ls hAe S hr hlk hnm hA hT hX hw hl
  have hl : lv_has ls 3 [(0, .ref hn), (1, .int p0)] := hl
  have lp0 := Int32.le_toInt p0
  have up0 := Int32.toInt_lt p0
  have cst0 : (0 : Int32).toInt = 0 := rfl
  have cst1 : (1 : Int32).toInt = 1 := rfl
  obtain ⟨hown, ⟨n1, n2, n3⟩, hEl, ⟨n4, n5, n6⟩, hEf⟩ := hinv0
  have hz0 : lc = 0 := hown rfl
  have J10 : ∀ (n_10 : Nat)  (x10_2 : Int32) (H : Heap) (locs : List Loc) (ls : Array Slot), (x10_2.toInt < (lf 1).toInt) → (-1 ≤ x10_2.toInt) → (K_nm_isKnownHere_F_10 nf lf p0 x10_2) → x10_2.toInt+2 < (n_10 : Int) → pw D A s.heap H locs [wd_Nam cs hn rn no nf na ng, wd_Lst cs (rn 0) (fun _ => 0) (fun k => if k = 0 then (some lq) else none) lf (fun _ _ => 0) (fun _ _ => none), [], wd_Lst cs (rn 1) (fun _ => 0) (fun k => if k = 0 then (some fq) else none) ff (fun _ _ => 0) (fun _ _ => none), [(fq, .inl (cs 12, fc, .inr (.inr (.inr (.inr fg)))))], P] → lv_has ls 3 [(0, .ref hn), (1, .int p0), (2, .int x10_2)] → W p l e { frames := 3, cells := 0, slots := 0, locals := 90 } s m [.ref hn, .int p0].toArray below meth c H locs 0 0 (MQ below (va_Qi (fun v ps => (ps = [wd_Nam cs hn rn no nf na ng, wd_Lst cs (rn 0) (fun _ => 0) (fun k => if k = 0 then (some lq) else none) lf (fun _ _ => 0) (fun _ _ => none), [], wd_Lst cs (rn 1) (fun _ => 0) (fun k => if k = 0 then (some fq) else none) ff (fun _ _ => 0) (fun _ _ => none), [(fq, .inl (cs 12, fc, .inr (.inr (.inr (.inr fg)))))], P]) ∧ (v = 0 ∨ v = 1) ∧ (R_nm_isKnownHere_F nf lf p0 v)) (pc_B D (va_A ([wd_Nam cs hn rn no nf na ng, wd_Lst cs (rn 0) (fun _ => 0) (fun k => if k = 0 then (some lq) else none) lf (fun _ _ => 0) (fun _ _ => none), [], wd_Lst cs (rn 1) (fun _ => 0) (fun k => if k = 0 then (some fq) else none) ff (fun _ _ => 0) (fun _ _ => none), [(fq, .inl (cs 12, fc, .inr (.inr (.inr (.inr fg)))))], P] : List va_W).flatten s.heap.size)) (va_A ([wd_Nam cs hn rn no nf na ng, wd_Lst cs (rn 0) (fun _ => 0) (fun k => if k = 0 then (some lq) else none) lf (fun _ _ => 0) (fun _ _ => none), [], wd_Lst cs (rn 1) (fun _ => 0) (fun k => if k = 0 then (some fq) else none) ff (fun _ _ => 0) (fun _ _ => none), [(fq, .inl (cs 12, fc, .inr (.inr (.inr (.inr fg)))))], P] : List va_W).flatten s.heap.size)) [.ref hn, .int p0].toArray s 0 0 A) (F0 m 10 ls []) := by
    intro n_10
    induction n_10 with
    | zero =>
      intro x10_2 H locs ls k10_0 k10_1 k10_2 hm hw hl
      have lx10_2 := Int32.le_toInt x10_2
      have ux10_2 := Int32.toInt_lt x10_2
      exact absurd hm (by omega)
    | succ n_10 ih10 =>
      intro x10_2 H locs ls k10_0 k10_1 k10_2 hm hw hl
      have lx10_2 := Int32.le_toInt x10_2
      have ux10_2 := Int32.toInt_lt x10_2
      refine lv_iload_n S.x S.b d_Nam_isKnownHere_10 rfl (lv_at hl 2 rfl) ?_
      refine lv_aload_n S.x S.b d_Nam_isKnownHere_11 rfl (lv_at hl 0 rfl) ?_
      refine px_get S k_Nam hT hw 0 0 4 (v := .int (nf 4)) rfl rfl rfl (by decide) m2_79 d_Nam_isKnownHere_12 ?_
      refine lv_icmp_lt (tgt := 48) S.x S.b d_Nam_isKnownHere_15 (by decide) (fun c1 => ?_) (fun c1 => ?_)
      · have nc1 : x10_2.toInt < (nf 4).toInt := (i_lt (x := x10_2) (y := (nf 4))).mp c1
        refine lv_iconst (v := 0) S.x S.b d_Nam_isKnownHere_48 (by decide) ?_
        exact px_iret (v := 0) S hr rfl hlk hAe hw (Nat.le_of_ble_eq_true rfl) (Nat.le_of_ble_eq_true rfl) (⟨rfl, (show (0 : Int32) = 0 ∨ (0 : Int32) = 1 from by first | exact Or.inl rfl | exact Or.inr rfl | exact z_or (by omega)), (show R_nm_isKnownHere_F nf lf p0 (0 : Int32) from (k10_2 _ 1 (Or.inr (Or.inl ⟨rfl, x10_2, rfl, rfl, rfl, rfl, rfl, Or.inl ⟨nc1, rfl⟩⟩))))⟩) d_Nam_isKnownHere_49
      · have nc1 : ¬ x10_2.toInt < (nf 4).toInt := mt (i_lt (x := x10_2) (y := (nf 4))).mpr c1
        refine lv_iload_n S.x S.b d_Nam_isKnownHere_18 rfl (lv_at hl 2 rfl) ?_
        refine lv_if_lt (tgt := 48) S.x S.b d_Nam_isKnownHere_19 (by decide) (fun c3 => ?_) (fun c3 => ?_)
        · have nc3 : x10_2.toInt < (0 : Int) := (i_lt (x := x10_2) (y := 0)).mp c3
          refine lv_iconst (v := 0) S.x S.b d_Nam_isKnownHere_48 (by decide) ?_
          exact px_iret (v := 0) S hr rfl hlk hAe hw (Nat.le_of_ble_eq_true rfl) (Nat.le_of_ble_eq_true rfl) (⟨rfl, (show (0 : Int32) = 0 ∨ (0 : Int32) = 1 from by first | exact Or.inl rfl | exact Or.inr rfl | exact z_or (by omega)), (show R_nm_isKnownHere_F nf lf p0 (0 : Int32) from (k10_2 _ 1 (Or.inr (Or.inl ⟨rfl, x10_2, rfl, rfl, rfl, rfl, rfl, Or.inr ⟨nc1, nc3, rfl⟩⟩))))⟩) d_Nam_isKnownHere_49
        · have nc3 : ¬ x10_2.toInt < (0 : Int) := mt (i_lt (x := x10_2) (y := 0)).mpr c3
          refine lv_aload_n S.x S.b d_Nam_isKnownHere_22 rfl (lv_at hl 0 rfl) ?_
          refine px_get S k_Nam hT hw 0 0 0 (v := .ref (rn 0)) rfl rfl rfl (by decide) m2_75 d_Nam_isKnownHere_23 ?_
          refine lv_iload_n S.x S.b d_Nam_isKnownHere_26 rfl (lv_at hl 2 rfl) ?_
          exfalso
          omega
  refine lv_aload_n S.x S.b d_Nam_isKnownHere_0 rfl (lv_at hl 0 rfl) ?_
  refine px_get S k_Nam hT hw 0 0 0 (v := .ref (rn 0)) rfl rfl rfl (by decide) m2_75 d_Nam_isKnownHere_1 ?_
  have hw : pw D A s.heap _ _ [wd_Nam cs hn rn no nf na ng, [], wd_Lst cs (rn 1) (fun _ => 0) (fun k => if k = 0 then (some fq) else none) ff (fun _ _ => 0) (fun _ _ => none), [(fq, .inl (cs 12, fc, .inr (.inr (.inr (.inr fg)))))], P, wd_Lst cs (rn 0) (fun _ => 0) (fun k => if k = 0 then (some lq) else none) lf (fun _ _ => 0) (fun _ _ => none)] := hw.sub [0, 2, 3, 4, 5, 1] rfl rfl
  refine px_calli (pr := [wd_Nam cs hn rn no nf na ng, [], wd_Lst cs (rn 1) (fun _ => 0) (fun k => if k = 0 then (some fq) else none) ff (fun _ _ => 0) (fun _ _ => none), [(fq, .inl (cs 12, fc, .inr (.inr (.inr (.inr fg)))))], P]) (px_runV (As := []) (rest := []) S (c_ls_size l D cs (rn 0) lq lf    _) hT (pr := [wd_Nam cs hn rn no nf na ng, [], wd_Lst cs (rn 1) (fun _ => 0) (fun k => if k = 0 then (some fq) else none) ff (fun _ _ => 0) (fun _ _ => none), [(fq, .inl (cs 12, fc, .inr (.inr (.inr (.inr fg)))))], P]) (pcs := [wd_Lst cs (rn 0) (fun _ => 0) (fun k => if k = 0 then (some lq) else none) lf (fun _ _ => 0) (fun _ _ => none)]) hw px_X.tt (px_recv hT hw 5 0 rfl rfl rfl) m4_75 m4_72 m4_73 m4_74 m1_10 q_Lst_size ⟨Nat.le_of_ble_eq_true rfl, Nat.le_of_ble_eq_true rfl⟩ hl.1 rfl (Nat.le_of_ble_eq_true rfl) d_Nam_isKnownHere_4 ⟨Nat.le_of_ble_eq_true rfl, Nat.le_of_ble_eq_true rfl⟩) hw hA (fun v6 p5 H locs hp5 hw => ?_)
  obtain ⟨rfl, e7, e8⟩ := hp5
  have e7 : v6.toInt = (lf 1).toInt := e7
  have e8 : R_ls_size lf v6 := e8
  have hw : pw D A s.heap H locs [wd_Nam cs hn rn no nf na ng, [], wd_Lst cs (rn 1) (fun _ => 0) (fun k => if k = 0 then (some fq) else none) ff (fun _ _ => 0) (fun _ _ => none), [(fq, .inl (cs 12, fc, .inr (.inr (.inr (.inr fg)))))], P, wd_Lst cs (rn 0) (fun _ => 0) (fun k => if k = 0 then (some lq) else none) lf (fun _ _ => 0) (fun _ _ => none)] := hw
  have lv6 := Int32.le_toInt v6
  have uv6 := Int32.toInt_lt v6
  refine lv_iconst (v := 1) S.x S.b d_Nam_isKnownHere_7 (by decide) ?_
  refine lv_isub S.x S.b d_Nam_isKnownHere_8 ?_
  refine lv_topi (fun z9 ez9 => ?_)
  have tz9 : z9.toInt = (v6.toInt - (1 : Int) + 2147483648) % 4294967296 - 2147483648 := by rw [ez9]; exact i_sub v6 1
  have lz9 := Int32.le_toInt z9
  have uz9 := Int32.toInt_lt z9
  try replace tz9 : z9.toInt = v6.toInt - (1 : Int) := by omega
  refine lv_istore_n (lv' := [(2, .int z9), (0, .ref hn), (1, .int p0)]) S.x S.b d_Nam_isKnownHere_9 rfl hl (by decide) rfl (fun ls hl => ?_)
  have hw : pw D A s.heap _ _ [wd_Nam cs hn rn no nf na ng, wd_Lst cs (rn 0) (fun _ => 0) (fun k => if k = 0 then (some lq) else none) lf (fun _ _ => 0) (fun _ _ => none), [], wd_Lst cs (rn 1) (fun _ => 0) (fun k => if k = 0 then (some fq) else none) ff (fun _ _ => 0) (fun _ _ => none), [(fq, .inl (cs 12, fc, .inr (.inr (.inr (.inr fg)))))], P] := hw.sub [0, 5, 1, 2, 3, 4] rfl rfl
  exact J10 ((z9.toInt+2).toNat + 1) z9 _ _ ls (show z9.toInt < (lf 1).toInt from by first | exact oz_c3803f0c4e e7 tz9 | omega) (show -1 ≤ z9.toInt from by first | exact oz_31ac67e034 tz9 e7 n1 | omega) (show K_nm_isKnownHere_F_10 nf lf p0 z9 from (fun y_v k hE => Exists.intro (k + 1) (Or.inl ⟨rfl, v6, e8, z9, ez9, hE⟩))) (show z9.toInt+2 < ((((z9.toInt+2).toNat + 1 : Nat) : Int) : Int) from by first | exact oz_natlt | omega) hw (lv_sub hl [1, 2, 0] rfl)
set_option maxHeartbeats 4000000 in
set_option maxRecDepth 100000 in
theorem c_nm_isKnownHere (l : Launch) (D : va_G) (cs : Nat → ClassId) (hn : Nat) (rn : Nat → Nat) (no : Nat → Option Nat) (na : Nat → Nat → Int32) (ng : Nat → Nat → Option Nat) (own : Bool) (lq : Nat) (lc : Nat) (fq : Nat) (fc : Nat) (P : va_W) (nf : Nat → Int32) (lf : Nat → Int32) (lg : Nat → Option Nat) (ff : Nat → Int32) (fg : Nat → Option Nat) (p0 : Int32)  (hinv0 : NmOk P own (lf 1) (ff 1) lc fc lg fg) : MetI l y_Nam_isKnownHere b_Nam_isKnownHere 3 (.boolean) D cs 3 90 (0) (0) [.ref hn, .int p0] [wd_Nam cs hn rn no nf na ng, wd_Lst cs (rn 0) (fun _ => 0) (fun k => if k = 0 then (some lq) else none) lf (fun _ _ => 0) (fun _ _ => none), lA cs own lq lc lg, wd_Lst cs (rn 1) (fun _ => 0) (fun k => if k = 0 then (some fq) else none) ff (fun _ _ => 0) (fun _ _ => none), [(fq, .inl (cs 12, fc, .inr (.inr (.inr (.inr fg)))))], P] (fun _ => True) (fun v ps => (ps = [wd_Nam cs hn rn no nf na ng, wd_Lst cs (rn 0) (fun _ => 0) (fun k => if k = 0 then (some lq) else none) lf (fun _ _ => 0) (fun _ _ => none), lA cs own lq lc lg, wd_Lst cs (rn 1) (fun _ => 0) (fun k => if k = 0 then (some fq) else none) ff (fun _ _ => 0) (fun _ _ => none), [(fq, .inl (cs 12, fc, .inr (.inr (.inr (.inr fg)))))], P]) ∧ (v = 0 ∨ v = 1) ∧ (R_nm_isKnownHere own P nf lf lg p0 v)) := by
  cases own with
  | true => exact c_nm_isKnownHere_T l D cs hn rn no na ng lq lc fq fc P nf lf lg ff fg p0 hinv0
  | false => exact c_nm_isKnownHere_F l D cs hn rn no na ng lq lc fq fc P nf lf lg ff fg p0 hinv0
abbrev b_Nam_function : ByteArray := prog_5_method_7_code
def y_Nam_function : MethodName := ⟨"HomeSystem$Names", "function", "(I)LHomeSystem$Symbol;"⟩
theorem d_Nam_function_0 : decode b_Nam_function 0 = .ok (.iconst 0, 1) := by decide +kernel
theorem d_Nam_function_1 : decode b_Nam_function 1 = .ok (.istore_n 2, 1) := by decide +kernel
theorem d_Nam_function_2 : decode b_Nam_function 2 = .ok (.iload_n 2, 1) := by decide +kernel
theorem d_Nam_function_3 : decode b_Nam_function 3 = .ok (.aload_n 0, 1) := by decide +kernel
theorem d_Nam_function_4 : decode b_Nam_function 4 = .ok (.getfield 18, 3) := by decide +kernel
theorem d_Nam_function_7 : decode b_Nam_function 7 = .ok (.invokevirtual 59, 3) := by decide +kernel
theorem d_Nam_function_10 : decode b_Nam_function 10 = .ok (.if_icmp .ge 31, 3) := by decide +kernel
theorem d_Nam_function_13 : decode b_Nam_function 13 = .ok (.aload_n 0, 1) := by decide +kernel
theorem d_Nam_function_14 : decode b_Nam_function 14 = .ok (.getfield 18, 3) := by decide +kernel
theorem d_Nam_function_17 : decode b_Nam_function 17 = .ok (.iload_n 2, 1) := by decide +kernel
theorem d_Nam_function_18 : decode b_Nam_function 18 = .ok (.invokevirtual 72, 3) := by decide +kernel
theorem d_Nam_function_21 : decode b_Nam_function 21 = .ok (.checkcast 28, 3) := by decide +kernel
theorem d_Nam_function_24 : decode b_Nam_function 24 = .ok (.astore_n 3, 1) := by decide +kernel
theorem d_Nam_function_25 : decode b_Nam_function 25 = .ok (.aload_n 3, 1) := by decide +kernel
theorem d_Nam_function_26 : decode b_Nam_function 26 = .ok (.getfield 75, 3) := by decide +kernel
theorem d_Nam_function_29 : decode b_Nam_function 29 = .ok (.iload_n 1, 1) := by decide +kernel
theorem d_Nam_function_30 : decode b_Nam_function 30 = .ok (.if_icmp .ne 5, 3) := by decide +kernel
theorem d_Nam_function_33 : decode b_Nam_function 33 = .ok (.aload_n 3, 1) := by decide +kernel
theorem d_Nam_function_34 : decode b_Nam_function 34 = .ok (.areturn, 1) := by decide +kernel
theorem d_Nam_function_35 : decode b_Nam_function 35 = .ok (.iinc 2 1, 3) := by decide +kernel
theorem d_Nam_function_38 : decode b_Nam_function 38 = .ok (.goto (-36), 3) := by decide +kernel
theorem d_Nam_function_41 : decode b_Nam_function 41 = .ok (.aconst_null, 1) := by decide +kernel
theorem d_Nam_function_42 : decode b_Nam_function 42 = .ok (.areturn, 1) := by decide +kernel
theorem q_Nam_function : px_y y_Nam_function 1 := by unfold px_y; decide +kernel
set_option maxHeartbeats 4000000 in
set_option maxRecDepth 100000 in
theorem c_nm_function (l : Launch) (D : va_G) (cs : Nat → ClassId) (hn : Nat) (rn : Nat → Nat) (no : Nat → Option Nat) (na : Nat → Nat → Int32) (ng : Nat → Nat → Option Nat) (own : Bool) (lq : Nat) (lc : Nat) (fq : Nat) (fc : Nat) (P : va_W) (nf : Nat → Int32) (lf : Nat → Int32) (lg : Nat → Option Nat) (ff : Nat → Int32) (fg : Nat → Option Nat) (p0 : Int32)  (hinv0 : NmOk P own (lf 1) (ff 1) lc fc lg fg) : MetR l y_Nam_function b_Nam_function 4 (.object "HomeSystem$Symbol") D cs 3 90 (0) (0) [.ref hn, .int p0] [wd_Nam cs hn rn no nf na ng, wd_Lst cs (rn 0) (fun _ => 0) (fun k => if k = 0 then (some lq) else none) lf (fun _ _ => 0) (fun _ _ => none), lA cs own lq lc lg, wd_Lst cs (rn 1) (fun _ => 0) (fun k => if k = 0 then (some fq) else none) ff (fun _ _ => 0) (fun _ _ => none), [(fq, .inl (cs 12, fc, .inr (.inr (.inr (.inr fg)))))], P] (fun _ => True) (fun v ps => (ps = [wd_Nam cs hn rn no nf na ng, wd_Lst cs (rn 0) (fun _ => 0) (fun k => if k = 0 then (some lq) else none) lf (fun _ _ => 0) (fun _ _ => none), lA cs own lq lc lg, wd_Lst cs (rn 1) (fun _ => 0) (fun k => if k = 0 then (some fq) else none) ff (fun _ _ => 0) (fun _ _ => none), [(fq, .inl (cs 12, fc, .inr (.inr (.inr (.inr fg)))))], P]) ∧ (Fy P v) ∧ (R_nm_function P ff fg p0 v)) := by
  refine px_enter (by decide) (Nat.le_of_ble_eq_true rfl) ?_
  intro p e s m below meth c A ls hAe S hr hlk hnm hA hT hX hw hl
  have hl : lv_has ls 4 [(0, .ref hn), (1, .int p0)] := hl
  have lp0 := Int32.le_toInt p0
  have up0 := Int32.toInt_lt p0
  have cst0 : (0 : Int32).toInt = 0 := rfl
  obtain ⟨hown, ⟨n1, n2, n3⟩, hEl, ⟨n4, n5, n6⟩, hEf⟩ := hinv0
  have J2 : ∀ (n_2 : Nat)  (x2_2 : Int32) (H : Heap) (locs : List Loc) (ls : Array Slot), (0 ≤ x2_2.toInt) → (x2_2.toInt ≤ (ff 1).toInt) → (K_nm_function_2 P ff fg p0 x2_2) → (ff 1).toInt-x2_2.toInt+1 < (n_2 : Int) → pw D A s.heap H locs [wd_Nam cs hn rn no nf na ng, wd_Lst cs (rn 0) (fun _ => 0) (fun k => if k = 0 then (some lq) else none) lf (fun _ _ => 0) (fun _ _ => none), lA cs own lq lc lg, wd_Lst cs (rn 1) (fun _ => 0) (fun k => if k = 0 then (some fq) else none) ff (fun _ _ => 0) (fun _ _ => none), [(fq, .inl (cs 12, fc, .inr (.inr (.inr (.inr fg)))))], P] → lv_has ls 4 [(0, .ref hn), (1, .int p0), (2, .int x2_2)] → W p l e { frames := 3, cells := 0, slots := 0, locals := 90 } s m [.ref hn, .int p0].toArray below meth c H locs 0 0 (MQ below (va_Qq (fun v ps => (ps = [wd_Nam cs hn rn no nf na ng, wd_Lst cs (rn 0) (fun _ => 0) (fun k => if k = 0 then (some lq) else none) lf (fun _ _ => 0) (fun _ _ => none), lA cs own lq lc lg, wd_Lst cs (rn 1) (fun _ => 0) (fun k => if k = 0 then (some fq) else none) ff (fun _ _ => 0) (fun _ _ => none), [(fq, .inl (cs 12, fc, .inr (.inr (.inr (.inr fg)))))], P]) ∧ (Fy P v) ∧ (R_nm_function P ff fg p0 v)) (pc_B D (va_A ([wd_Nam cs hn rn no nf na ng, wd_Lst cs (rn 0) (fun _ => 0) (fun k => if k = 0 then (some lq) else none) lf (fun _ _ => 0) (fun _ _ => none), lA cs own lq lc lg, wd_Lst cs (rn 1) (fun _ => 0) (fun k => if k = 0 then (some fq) else none) ff (fun _ _ => 0) (fun _ _ => none), [(fq, .inl (cs 12, fc, .inr (.inr (.inr (.inr fg)))))], P] : List va_W).flatten s.heap.size)) (va_A ([wd_Nam cs hn rn no nf na ng, wd_Lst cs (rn 0) (fun _ => 0) (fun k => if k = 0 then (some lq) else none) lf (fun _ _ => 0) (fun _ _ => none), lA cs own lq lc lg, wd_Lst cs (rn 1) (fun _ => 0) (fun k => if k = 0 then (some fq) else none) ff (fun _ _ => 0) (fun _ _ => none), [(fq, .inl (cs 12, fc, .inr (.inr (.inr (.inr fg)))))], P] : List va_W).flatten s.heap.size)) [.ref hn, .int p0].toArray s 0 0 A) (F0 m 2 ls []) := by
    intro n_2
    induction n_2 with
    | zero =>
      intro x2_2 H locs ls k2_0 k2_1 k2_2 hm hw hl
      have lx2_2 := Int32.le_toInt x2_2
      have ux2_2 := Int32.toInt_lt x2_2
      exact absurd hm (by omega)
    | succ n_2 ih2 =>
      intro x2_2 H locs ls k2_0 k2_1 k2_2 hm hw hl
      have lx2_2 := Int32.le_toInt x2_2
      have ux2_2 := Int32.toInt_lt x2_2
      refine lv_iload_n S.x S.b d_Nam_function_2 rfl (lv_at hl 2 rfl) ?_
      refine lv_aload_n S.x S.b d_Nam_function_3 rfl (lv_at hl 0 rfl) ?_
      refine px_get S k_Nam hT hw 0 0 1 (v := .ref (rn 1)) rfl rfl rfl (by decide) m2_76 d_Nam_function_4 ?_
      have hw : pw D A s.heap _ _ [wd_Nam cs hn rn no nf na ng, wd_Lst cs (rn 0) (fun _ => 0) (fun k => if k = 0 then (some lq) else none) lf (fun _ _ => 0) (fun _ _ => none), lA cs own lq lc lg, [(fq, .inl (cs 12, fc, .inr (.inr (.inr (.inr fg)))))], P, wd_Lst cs (rn 1) (fun _ => 0) (fun k => if k = 0 then (some fq) else none) ff (fun _ _ => 0) (fun _ _ => none)] := hw.sub [0, 1, 2, 4, 5, 3] rfl rfl
      refine px_calli (pr := [wd_Nam cs hn rn no nf na ng, wd_Lst cs (rn 0) (fun _ => 0) (fun k => if k = 0 then (some lq) else none) lf (fun _ _ => 0) (fun _ _ => none), lA cs own lq lc lg, [(fq, .inl (cs 12, fc, .inr (.inr (.inr (.inr fg)))))], P]) (px_runV (As := []) (rest := [.int x2_2]) S (c_ls_size l D cs (rn 1) fq ff    _) hT (pr := [wd_Nam cs hn rn no nf na ng, wd_Lst cs (rn 0) (fun _ => 0) (fun k => if k = 0 then (some lq) else none) lf (fun _ _ => 0) (fun _ _ => none), lA cs own lq lc lg, [(fq, .inl (cs 12, fc, .inr (.inr (.inr (.inr fg)))))], P]) (pcs := [wd_Lst cs (rn 1) (fun _ => 0) (fun k => if k = 0 then (some fq) else none) ff (fun _ _ => 0) (fun _ _ => none)]) hw px_X.tt (px_recv hT hw 5 0 rfl rfl rfl) m4_75 m4_72 m4_73 m4_74 m1_10 q_Lst_size ⟨Nat.le_of_ble_eq_true rfl, Nat.le_of_ble_eq_true rfl⟩ hl.1 rfl (Nat.le_of_ble_eq_true rfl) d_Nam_function_7 ⟨Nat.le_of_ble_eq_true rfl, Nat.le_of_ble_eq_true rfl⟩) hw hA (fun v2 p1 H locs hp1 hw => ?_)
      obtain ⟨rfl, e3, e4⟩ := hp1
      have e3 : v2.toInt = (ff 1).toInt := e3
      have e4 : R_ls_size ff v2 := e4
      have hw : pw D A s.heap H locs [wd_Nam cs hn rn no nf na ng, wd_Lst cs (rn 0) (fun _ => 0) (fun k => if k = 0 then (some lq) else none) lf (fun _ _ => 0) (fun _ _ => none), lA cs own lq lc lg, [(fq, .inl (cs 12, fc, .inr (.inr (.inr (.inr fg)))))], P, wd_Lst cs (rn 1) (fun _ => 0) (fun k => if k = 0 then (some fq) else none) ff (fun _ _ => 0) (fun _ _ => none)] := hw
      have lv2 := Int32.le_toInt v2
      have uv2 := Int32.toInt_lt v2
      refine lv_icmp_ge (tgt := 41) S.x S.b d_Nam_function_10 (by decide) (fun c5 => ?_) (fun c5 => ?_)
      · have nc5 : v2.toInt ≤ x2_2.toInt := (i_le (x := v2) (y := x2_2)).mp c5
        refine lv_null S.x S.b d_Nam_function_41 ?_
        have hw : pw D A s.heap _ _ [wd_Nam cs hn rn no nf na ng, wd_Lst cs (rn 0) (fun _ => 0) (fun k => if k = 0 then (some lq) else none) lf (fun _ _ => 0) (fun _ _ => none), lA cs own lq lc lg, wd_Lst cs (rn 1) (fun _ => 0) (fun k => if k = 0 then (some fq) else none) ff (fun _ _ => 0) (fun _ _ => none), [(fq, .inl (cs 12, fc, .inr (.inr (.inr (.inr fg)))))], P] := hw.sub [0, 1, 2, 5, 3, 4] rfl rfl
        exact px_aret (v := none) S hr (Or.inl ⟨_, rfl⟩) hlk hAe hw (Nat.le_of_ble_eq_true rfl) (Nat.le_of_ble_eq_true rfl) (⟨rfl, (show Fy P none from (by first | assumption | exact sy_none | exact fy_none | exact Fy.sy (by assumption) | exact sy_some (by assumption))), (show R_nm_function P ff fg p0 none from (k2_2 _ 1 (Or.inr (Or.inl ⟨rfl, x2_2, rfl, rfl, rfl, rfl, rfl, v2, e4, Or.inl ⟨nc5, rfl⟩⟩))))⟩) d_Nam_function_42
      · have nc5 : ¬ v2.toInt ≤ x2_2.toInt := mt (i_le (x := v2) (y := x2_2)).mpr c5
        refine lv_aload_n S.x S.b d_Nam_function_13 rfl (lv_at hl 0 rfl) ?_
        refine px_get S k_Nam hT hw 0 0 1 (v := .ref (rn 1)) rfl rfl rfl (by decide) m2_76 d_Nam_function_14 ?_
        refine lv_iload_n S.x S.b d_Nam_function_17 rfl (lv_at hl 2 rfl) ?_
        have hw : pw D A s.heap _ _ [wd_Nam cs hn rn no nf na ng, wd_Lst cs (rn 0) (fun _ => 0) (fun k => if k = 0 then (some lq) else none) lf (fun _ _ => 0) (fun _ _ => none), lA cs own lq lc lg, P, wd_Lst cs (rn 1) (fun _ => 0) (fun k => if k = 0 then (some fq) else none) ff (fun _ _ => 0) (fun _ _ => none), [(fq, .inl (cs 12, fc, .inr (.inr (.inr (.inr fg)))))]] := hw.sub [0, 1, 2, 4, 5, 3] rfl rfl
        refine px_callq (pr := [wd_Nam cs hn rn no nf na ng, wd_Lst cs (rn 0) (fun _ => 0) (fun k => if k = 0 then (some lq) else none) lf (fun _ _ => 0) (fun _ _ => none), lA cs own lq lc lg, P]) (px_runV (As := [.int x2_2]) (rest := []) S (c_Lst_get l D cs (rn 1) fq fc ff fg x2_2  (show fc ≤ 1000000 from by first | exact n6 | omega) (show 0 ≤ (ff 1).toInt from by first | exact n4 | omega) (show (ff 1).toInt ≤ (fc : Int) from by first | exact n5 | omega) (show 0 ≤ x2_2.toInt from by first | exact k2_0 | omega) (show x2_2.toInt < (ff 1).toInt from by first | exact oz_843db69ae7 e3 nc5 | omega) _) hT (pr := [wd_Nam cs hn rn no nf na ng, wd_Lst cs (rn 0) (fun _ => 0) (fun k => if k = 0 then (some lq) else none) lf (fun _ _ => 0) (fun _ _ => none), lA cs own lq lc lg, P]) (pcs := [wd_Lst cs (rn 1) (fun _ => 0) (fun k => if k = 0 then (some fq) else none) ff (fun _ _ => 0) (fun _ _ => none), [(fq, .inl (cs 12, fc, .inr (.inr (.inr (.inr fg)))))]]) hw px_X.tt (px_recv hT hw 4 0 rfl rfl rfl) m5_22 m5_19 m5_20 m5_21 m1_10 q_Lst_get ⟨Nat.le_of_ble_eq_true rfl, Nat.le_of_ble_eq_true rfl⟩ hl.1 rfl (Nat.le_of_ble_eq_true rfl) d_Nam_function_18 ⟨Nat.le_of_ble_eq_true rfl, Nat.le_of_ble_eq_true rfl⟩) hw hA (fun v8 p7 H locs hp7 hw => ?_)
        obtain ⟨rfl, e9⟩ := hp7
        subst e9
        have hw : pw D A s.heap H locs [wd_Nam cs hn rn no nf na ng, wd_Lst cs (rn 0) (fun _ => 0) (fun k => if k = 0 then (some lq) else none) lf (fun _ _ => 0) (fun _ _ => none), lA cs own lq lc lg, P, wd_Lst cs (rn 1) (fun _ => 0) (fun k => if k = 0 then (some fq) else none) ff (fun _ _ => 0) (fun _ _ => none), [(fq, .inl (cs 12, fc, .inr (.inr (.inr (.inr fg)))))]] := hw
        obtain ⟨q10, eq10, hq10⟩ := hEf.at (x := x2_2) (by omega) (by omega); rw [eq10]
        obtain ⟨j11, s12, hj13⟩ := (show Sy P (some q10) by first | assumption | exact Fy.sy (by assumption)).at
        refine px_castP S hT hw 3 j11 rfl hj13 rfl m1_202 m14_232n d_Nam_function_21 ?_
        refine lv_astore_n (lv' := [(3, .ref q10), (0, .ref hn), (1, .int p0), (2, .int x2_2)]) S.x S.b d_Nam_function_24 rfl hl (by decide) rfl (fun ls hl => ?_)
        refine lv_aload_n S.x S.b d_Nam_function_25 rfl (lv_at hl 0 rfl) ?_
        refine px_get S k_Sym hT hw 3 j11 0 (v := .int (s12 0)) rfl hj13 rfl (by decide) m1_209 d_Nam_function_26 ?_
        refine lv_iload_n S.x S.b d_Nam_function_29 rfl (lv_at hl 2 rfl) ?_
        refine lv_icmp_ne (tgt := 35) S.x S.b d_Nam_function_30 (by decide) (fun c14 => ?_) (fun c14 => ?_)
        · have nc14 : ¬ (s12 0).toInt = p0.toInt := mt (i_eq (x := (s12 0)) (y := p0)).mpr c14
          obtain ⟨z16, ez16⟩ : ∃ y : Int32, y = x2_2 + 1 := ⟨_, rfl⟩
          have tz16 : z16.toInt = (x2_2.toInt + 1 + 2147483648) % 4294967296 - 2147483648 := by rw [ez16]; exact i_add x2_2 1
          have lz16 := Int32.le_toInt z16
          have uz16 := Int32.toInt_lt z16
          try replace tz16 : z16.toInt = x2_2.toInt + 1 := by omega
          refine lv_iinc (v := z16) (lv' := [(2, .int z16), (3, .ref q10), (0, .ref hn), (1, .int p0)]) S.x S.b d_Nam_function_35 hl (k := 3) rfl (by rw [ez16]; rfl) (by decide) rfl (fun ls hl => ?_)
          refine lv_goto (tgt := 2) S.x S.b d_Nam_function_38 (by decide) ?_
          have hw : pw D A s.heap _ _ [wd_Nam cs hn rn no nf na ng, wd_Lst cs (rn 0) (fun _ => 0) (fun k => if k = 0 then (some lq) else none) lf (fun _ _ => 0) (fun _ _ => none), lA cs own lq lc lg, wd_Lst cs (rn 1) (fun _ => 0) (fun k => if k = 0 then (some fq) else none) ff (fun _ _ => 0) (fun _ _ => none), [(fq, .inl (cs 12, fc, .inr (.inr (.inr (.inr fg)))))], P] := hw.sub [0, 1, 2, 4, 5, 3] rfl rfl
          exact ih2 z16 _ _ ls (show 0 ≤ z16.toInt from by first | exact oz_ae613611c0 tz16 k2_0 | omega) (show z16.toInt ≤ (ff 1).toInt from by first | exact oz_a6fd07f316 e3 tz16 nc5 | omega) (show K_nm_function_2 P ff fg p0 z16 from (fun y_v k hE => k2_2 y_v (k + 1) (Or.inr (Or.inl ⟨rfl, x2_2, rfl, rfl, rfl, rfl, rfl, v2, e4, Or.inr ⟨nc5, q10, eq10, j11, s12, hj13, Or.inl ⟨nc14, z16, ez16, hE⟩⟩⟩)))) (show (ff 1).toInt-z16.toInt+1 < (n_2 : Int) from by first | exact oz_ed25187654 hm tz16 | omega) hw (lv_sub hl [2, 3, 0] rfl)
        · have nc14 : (s12 0).toInt = p0.toInt := (i_eq (x := (s12 0)) (y := p0)).mp c14
          refine lv_aload_n S.x S.b d_Nam_function_33 rfl (lv_at hl 0 rfl) ?_
          have hw : pw D A s.heap _ _ [wd_Nam cs hn rn no nf na ng, wd_Lst cs (rn 0) (fun _ => 0) (fun k => if k = 0 then (some lq) else none) lf (fun _ _ => 0) (fun _ _ => none), lA cs own lq lc lg, wd_Lst cs (rn 1) (fun _ => 0) (fun k => if k = 0 then (some fq) else none) ff (fun _ _ => 0) (fun _ _ => none), [(fq, .inl (cs 12, fc, .inr (.inr (.inr (.inr fg)))))], P] := hw.sub [0, 1, 2, 4, 5, 3] rfl rfl
          exact px_aret (v := (some q10)) S hr (Or.inl ⟨_, rfl⟩) hlk hAe hw (Nat.le_of_ble_eq_true rfl) (Nat.le_of_ble_eq_true rfl) (⟨rfl, (show Fy P (some q10) from (by first | assumption | exact sy_none | exact fy_none | exact Fy.sy (by assumption) | exact sy_some (by assumption))), (show R_nm_function P ff fg p0 (some q10) from (k2_2 _ 1 (Or.inr (Or.inl ⟨rfl, x2_2, rfl, rfl, rfl, rfl, rfl, v2, e4, Or.inr ⟨nc5, q10, eq10, j11, s12, hj13, Or.inr ⟨nc14, rfl⟩⟩⟩))))⟩) d_Nam_function_34
  refine lv_iconst (v := 0) S.x S.b d_Nam_function_0 (by decide) ?_
  refine lv_istore_n (lv' := [(2, .int 0), (0, .ref hn), (1, .int p0)]) S.x S.b d_Nam_function_1 rfl hl (by decide) rfl (fun ls hl => ?_)
  exact J2 (((ff 1).toInt-(0 : Int)+1).toNat + 1) (0 : Int32) _ _ ls (show 0 ≤ (0 : Int) from by first | exact oz_5a341f00aa | omega) (show (0 : Int) ≤ (ff 1).toInt from by first | exact oz_50c21e157e n4 | omega) (show K_nm_function_2 P ff fg p0 0 from (fun y_v k hE => Exists.intro (k + 1) (Or.inl ⟨rfl, hE⟩))) (show (ff 1).toInt-(0 : Int)+1 < (((((ff 1).toInt-(0 : Int)+1).toNat + 1 : Nat) : Int) : Int) from by first | exact oz_natlt | omega) hw (lv_sub hl [1, 2, 0] rfl)
abbrev b_Nam_functionAt : ByteArray := prog_5_method_11_code
def y_Nam_functionAt : MethodName := ⟨"HomeSystem$Names", "functionAt", "(I)LHomeSystem$Symbol;"⟩
theorem d_Nam_functionAt_0 : decode b_Nam_functionAt 0 = .ok (.iload_n 1, 1) := by decide +kernel
theorem d_Nam_functionAt_1 : decode b_Nam_functionAt 1 = .ok (.ifCond .lt 28, 3) := by decide +kernel
theorem d_Nam_functionAt_4 : decode b_Nam_functionAt 4 = .ok (.iload_n 1, 1) := by decide +kernel
theorem d_Nam_functionAt_5 : decode b_Nam_functionAt 5 = .ok (.aload_n 0, 1) := by decide +kernel
theorem d_Nam_functionAt_6 : decode b_Nam_functionAt 6 = .ok (.getfield 18, 3) := by decide +kernel
theorem d_Nam_functionAt_9 : decode b_Nam_functionAt 9 = .ok (.invokevirtual 59, 3) := by decide +kernel
theorem d_Nam_functionAt_12 : decode b_Nam_functionAt 12 = .ok (.if_icmp .ge 17, 3) := by decide +kernel
theorem d_Nam_functionAt_15 : decode b_Nam_functionAt 15 = .ok (.aload_n 0, 1) := by decide +kernel
theorem d_Nam_functionAt_16 : decode b_Nam_functionAt 16 = .ok (.getfield 18, 3) := by decide +kernel
theorem d_Nam_functionAt_19 : decode b_Nam_functionAt 19 = .ok (.iload_n 1, 1) := by decide +kernel
theorem d_Nam_functionAt_20 : decode b_Nam_functionAt 20 = .ok (.invokevirtual 72, 3) := by decide +kernel
theorem d_Nam_functionAt_23 : decode b_Nam_functionAt 23 = .ok (.checkcast 28, 3) := by decide +kernel
theorem d_Nam_functionAt_26 : decode b_Nam_functionAt 26 = .ok (.goto 4, 3) := by decide +kernel
theorem d_Nam_functionAt_29 : decode b_Nam_functionAt 29 = .ok (.aconst_null, 1) := by decide +kernel
theorem d_Nam_functionAt_30 : decode b_Nam_functionAt 30 = .ok (.areturn, 1) := by decide +kernel
theorem q_Nam_functionAt : px_y y_Nam_functionAt 1 := by unfold px_y; decide +kernel
set_option maxHeartbeats 4000000 in
set_option maxRecDepth 100000 in
theorem c_nm_functionAt (l : Launch) (D : va_G) (cs : Nat → ClassId) (hn : Nat) (rn : Nat → Nat) (no : Nat → Option Nat) (na : Nat → Nat → Int32) (ng : Nat → Nat → Option Nat) (own : Bool) (lq : Nat) (lc : Nat) (fq : Nat) (fc : Nat) (P : va_W) (nf : Nat → Int32) (lf : Nat → Int32) (lg : Nat → Option Nat) (ff : Nat → Int32) (fg : Nat → Option Nat) (p0 : Int32)  (hinv0 : NmOk P own (lf 1) (ff 1) lc fc lg fg) : MetR l y_Nam_functionAt b_Nam_functionAt 2 (.object "HomeSystem$Symbol") D cs 3 90 (0) (0) [.ref hn, .int p0] [wd_Nam cs hn rn no nf na ng, wd_Lst cs (rn 0) (fun _ => 0) (fun k => if k = 0 then (some lq) else none) lf (fun _ _ => 0) (fun _ _ => none), lA cs own lq lc lg, wd_Lst cs (rn 1) (fun _ => 0) (fun k => if k = 0 then (some fq) else none) ff (fun _ _ => 0) (fun _ _ => none), [(fq, .inl (cs 12, fc, .inr (.inr (.inr (.inr fg)))))], P] (fun _ => True) (fun v ps => (ps = [wd_Nam cs hn rn no nf na ng, wd_Lst cs (rn 0) (fun _ => 0) (fun k => if k = 0 then (some lq) else none) lf (fun _ _ => 0) (fun _ _ => none), lA cs own lq lc lg, wd_Lst cs (rn 1) (fun _ => 0) (fun k => if k = 0 then (some fq) else none) ff (fun _ _ => 0) (fun _ _ => none), [(fq, .inl (cs 12, fc, .inr (.inr (.inr (.inr fg)))))], P]) ∧ (Fy P v) ∧ (R_nm_functionAt P ff fg p0 v)) := by
  refine px_enter (by decide) (Nat.le_of_ble_eq_true rfl) ?_
  intro p e s m below meth c A ls hAe S hr hlk hnm hA hT hX hw hl
  have hl : lv_has ls 2 [(0, .ref hn), (1, .int p0)] := hl
  have lp0 := Int32.le_toInt p0
  have up0 := Int32.toInt_lt p0
  obtain ⟨hown, ⟨n1, n2, n3⟩, hEl, ⟨n4, n5, n6⟩, hEf⟩ := hinv0
  refine lv_iload_n S.x S.b d_Nam_functionAt_0 rfl (lv_at hl 1 rfl) ?_
  refine lv_if_lt (tgt := 29) S.x S.b d_Nam_functionAt_1 (by decide) (fun c1 => ?_) (fun c1 => ?_)
  · have nc1 : p0.toInt < (0 : Int) := (i_lt (x := p0) (y := 0)).mp c1
    refine lv_null S.x S.b d_Nam_functionAt_29 ?_
    exact px_aret (v := none) S hr (Or.inl ⟨_, rfl⟩) hlk hAe hw (Nat.le_of_ble_eq_true rfl) (Nat.le_of_ble_eq_true rfl) (⟨rfl, (show Fy P none from (by first | assumption | exact sy_none | exact fy_none | exact Fy.sy (by assumption) | exact sy_some (by assumption))), (show R_nm_functionAt P ff fg p0 none from (Or.inl (Or.inl ⟨nc1, rfl⟩)))⟩) d_Nam_functionAt_30
  · have nc1 : ¬ p0.toInt < (0 : Int) := mt (i_lt (x := p0) (y := 0)).mpr c1
    refine lv_iload_n S.x S.b d_Nam_functionAt_4 rfl (lv_at hl 1 rfl) ?_
    refine lv_aload_n S.x S.b d_Nam_functionAt_5 rfl (lv_at hl 0 rfl) ?_
    refine px_get S k_Nam hT hw 0 0 1 (v := .ref (rn 1)) rfl rfl rfl (by decide) m2_76 d_Nam_functionAt_6 ?_
    have hw : pw D A s.heap _ _ [wd_Nam cs hn rn no nf na ng, wd_Lst cs (rn 0) (fun _ => 0) (fun k => if k = 0 then (some lq) else none) lf (fun _ _ => 0) (fun _ _ => none), lA cs own lq lc lg, [(fq, .inl (cs 12, fc, .inr (.inr (.inr (.inr fg)))))], P, wd_Lst cs (rn 1) (fun _ => 0) (fun k => if k = 0 then (some fq) else none) ff (fun _ _ => 0) (fun _ _ => none)] := hw.sub [0, 1, 2, 4, 5, 3] rfl rfl
    refine px_calli (pr := [wd_Nam cs hn rn no nf na ng, wd_Lst cs (rn 0) (fun _ => 0) (fun k => if k = 0 then (some lq) else none) lf (fun _ _ => 0) (fun _ _ => none), lA cs own lq lc lg, [(fq, .inl (cs 12, fc, .inr (.inr (.inr (.inr fg)))))], P]) (px_runV (As := []) (rest := [.int p0]) S (c_ls_size l D cs (rn 1) fq ff    _) hT (pr := [wd_Nam cs hn rn no nf na ng, wd_Lst cs (rn 0) (fun _ => 0) (fun k => if k = 0 then (some lq) else none) lf (fun _ _ => 0) (fun _ _ => none), lA cs own lq lc lg, [(fq, .inl (cs 12, fc, .inr (.inr (.inr (.inr fg)))))], P]) (pcs := [wd_Lst cs (rn 1) (fun _ => 0) (fun k => if k = 0 then (some fq) else none) ff (fun _ _ => 0) (fun _ _ => none)]) hw px_X.tt (px_recv hT hw 5 0 rfl rfl rfl) m4_75 m4_72 m4_73 m4_74 m1_10 q_Lst_size ⟨Nat.le_of_ble_eq_true rfl, Nat.le_of_ble_eq_true rfl⟩ hl.1 rfl (Nat.le_of_ble_eq_true rfl) d_Nam_functionAt_9 ⟨Nat.le_of_ble_eq_true rfl, Nat.le_of_ble_eq_true rfl⟩) hw hA (fun v4 p3 H locs hp3 hw => ?_)
    obtain ⟨rfl, e5, e6⟩ := hp3
    have e5 : v4.toInt = (ff 1).toInt := e5
    have e6 : R_ls_size ff v4 := e6
    have hw : pw D A s.heap H locs [wd_Nam cs hn rn no nf na ng, wd_Lst cs (rn 0) (fun _ => 0) (fun k => if k = 0 then (some lq) else none) lf (fun _ _ => 0) (fun _ _ => none), lA cs own lq lc lg, [(fq, .inl (cs 12, fc, .inr (.inr (.inr (.inr fg)))))], P, wd_Lst cs (rn 1) (fun _ => 0) (fun k => if k = 0 then (some fq) else none) ff (fun _ _ => 0) (fun _ _ => none)] := hw
    have lv4 := Int32.le_toInt v4
    have uv4 := Int32.toInt_lt v4
    refine lv_icmp_ge (tgt := 29) S.x S.b d_Nam_functionAt_12 (by decide) (fun c7 => ?_) (fun c7 => ?_)
    · have nc7 : v4.toInt ≤ p0.toInt := (i_le (x := v4) (y := p0)).mp c7
      refine lv_null S.x S.b d_Nam_functionAt_29 ?_
      have hw : pw D A s.heap _ _ [wd_Nam cs hn rn no nf na ng, wd_Lst cs (rn 0) (fun _ => 0) (fun k => if k = 0 then (some lq) else none) lf (fun _ _ => 0) (fun _ _ => none), lA cs own lq lc lg, wd_Lst cs (rn 1) (fun _ => 0) (fun k => if k = 0 then (some fq) else none) ff (fun _ _ => 0) (fun _ _ => none), [(fq, .inl (cs 12, fc, .inr (.inr (.inr (.inr fg)))))], P] := hw.sub [0, 1, 2, 5, 3, 4] rfl rfl
      exact px_aret (v := none) S hr (Or.inl ⟨_, rfl⟩) hlk hAe hw (Nat.le_of_ble_eq_true rfl) (Nat.le_of_ble_eq_true rfl) (⟨rfl, (show Fy P none from (by first | assumption | exact sy_none | exact fy_none | exact Fy.sy (by assumption) | exact sy_some (by assumption))), (show R_nm_functionAt P ff fg p0 none from (Or.inl (Or.inr ⟨nc1, v4, e6, Or.inl ⟨nc7, rfl⟩⟩)))⟩) d_Nam_functionAt_30
    · have nc7 : ¬ v4.toInt ≤ p0.toInt := mt (i_le (x := v4) (y := p0)).mpr c7
      refine lv_aload_n S.x S.b d_Nam_functionAt_15 rfl (lv_at hl 0 rfl) ?_
      refine px_get S k_Nam hT hw 0 0 1 (v := .ref (rn 1)) rfl rfl rfl (by decide) m2_76 d_Nam_functionAt_16 ?_
      refine lv_iload_n S.x S.b d_Nam_functionAt_19 rfl (lv_at hl 1 rfl) ?_
      have hw : pw D A s.heap _ _ [wd_Nam cs hn rn no nf na ng, wd_Lst cs (rn 0) (fun _ => 0) (fun k => if k = 0 then (some lq) else none) lf (fun _ _ => 0) (fun _ _ => none), lA cs own lq lc lg, P, wd_Lst cs (rn 1) (fun _ => 0) (fun k => if k = 0 then (some fq) else none) ff (fun _ _ => 0) (fun _ _ => none), [(fq, .inl (cs 12, fc, .inr (.inr (.inr (.inr fg)))))]] := hw.sub [0, 1, 2, 4, 5, 3] rfl rfl
      refine px_callq (pr := [wd_Nam cs hn rn no nf na ng, wd_Lst cs (rn 0) (fun _ => 0) (fun k => if k = 0 then (some lq) else none) lf (fun _ _ => 0) (fun _ _ => none), lA cs own lq lc lg, P]) (px_runV (As := [.int p0]) (rest := []) S (c_Lst_get l D cs (rn 1) fq fc ff fg p0  (show fc ≤ 1000000 from by first | exact n6 | omega) (show 0 ≤ (ff 1).toInt from by first | exact n4 | omega) (show (ff 1).toInt ≤ (fc : Int) from by first | exact n5 | omega) (show 0 ≤ p0.toInt from by first | exact oz_18a5c06a28 nc1 | omega) (show p0.toInt < (ff 1).toInt from by first | exact oz_843db69ae7 e5 nc7 | omega) _) hT (pr := [wd_Nam cs hn rn no nf na ng, wd_Lst cs (rn 0) (fun _ => 0) (fun k => if k = 0 then (some lq) else none) lf (fun _ _ => 0) (fun _ _ => none), lA cs own lq lc lg, P]) (pcs := [wd_Lst cs (rn 1) (fun _ => 0) (fun k => if k = 0 then (some fq) else none) ff (fun _ _ => 0) (fun _ _ => none), [(fq, .inl (cs 12, fc, .inr (.inr (.inr (.inr fg)))))]]) hw px_X.tt (px_recv hT hw 4 0 rfl rfl rfl) m5_22 m5_19 m5_20 m5_21 m1_10 q_Lst_get ⟨Nat.le_of_ble_eq_true rfl, Nat.le_of_ble_eq_true rfl⟩ hl.1 rfl (Nat.le_of_ble_eq_true rfl) d_Nam_functionAt_20 ⟨Nat.le_of_ble_eq_true rfl, Nat.le_of_ble_eq_true rfl⟩) hw hA (fun v10 p9 H locs hp9 hw => ?_)
      obtain ⟨rfl, e11⟩ := hp9
      subst e11
      have hw : pw D A s.heap H locs [wd_Nam cs hn rn no nf na ng, wd_Lst cs (rn 0) (fun _ => 0) (fun k => if k = 0 then (some lq) else none) lf (fun _ _ => 0) (fun _ _ => none), lA cs own lq lc lg, P, wd_Lst cs (rn 1) (fun _ => 0) (fun k => if k = 0 then (some fq) else none) ff (fun _ _ => 0) (fun _ _ => none), [(fq, .inl (cs 12, fc, .inr (.inr (.inr (.inr fg)))))]] := hw
      obtain ⟨q12, eq12, hq12⟩ := hEf.at (x := p0) (by omega) (by omega); rw [eq12]
      obtain ⟨j13, s14, hj15⟩ := (show Sy P (some q12) by first | assumption | exact Fy.sy (by assumption)).at
      refine px_castP S hT hw 3 j13 rfl hj15 rfl m1_202 m14_232n d_Nam_functionAt_23 ?_
      refine lv_goto (tgt := 30) S.x S.b d_Nam_functionAt_26 (by decide) ?_
      have hw : pw D A s.heap _ _ [wd_Nam cs hn rn no nf na ng, wd_Lst cs (rn 0) (fun _ => 0) (fun k => if k = 0 then (some lq) else none) lf (fun _ _ => 0) (fun _ _ => none), lA cs own lq lc lg, wd_Lst cs (rn 1) (fun _ => 0) (fun k => if k = 0 then (some fq) else none) ff (fun _ _ => 0) (fun _ _ => none), [(fq, .inl (cs 12, fc, .inr (.inr (.inr (.inr fg)))))], P] := hw.sub [0, 1, 2, 4, 5, 3] rfl rfl
      exact px_aret (v := (some q12)) S hr (Or.inl ⟨_, rfl⟩) hlk hAe hw (Nat.le_of_ble_eq_true rfl) (Nat.le_of_ble_eq_true rfl) (⟨rfl, (show Fy P (some q12) from (by first | assumption | exact sy_none | exact fy_none | exact Fy.sy (by assumption) | exact sy_some (by assumption))), (show R_nm_functionAt P ff fg p0 (some q12) from (Or.inl (Or.inr ⟨nc1, v4, e6, Or.inr ⟨nc7, q12, eq12, j13, s14, hj15, rfl⟩⟩)))⟩) d_Nam_functionAt_30
abbrev b_Nam_want : ByteArray := prog_5_method_13_code
def y_Nam_want : MethodName := ⟨"HomeSystem$Names", "want", "(LHomeSystem$Symbol;I)I"⟩
theorem d_Nam_want_0 : decode b_Nam_want 0 = .ok (.aload_n 1, 1) := by decide +kernel
theorem d_Nam_want_1 : decode b_Nam_want 1 = .ok (.ifnull 15, 3) := by decide +kernel
theorem d_Nam_want_4 : decode b_Nam_want 4 = .ok (.iload_n 2, 1) := by decide +kernel
theorem d_Nam_want_5 : decode b_Nam_want 5 = .ok (.ifCond .lt 11, 3) := by decide +kernel
theorem d_Nam_want_8 : decode b_Nam_want 8 = .ok (.iload_n 2, 1) := by decide +kernel
theorem d_Nam_want_9 : decode b_Nam_want 9 = .ok (.aload_n 1, 1) := by decide +kernel
theorem d_Nam_want_10 : decode b_Nam_want 10 = .ok (.getfield 49, 3) := by decide +kernel
theorem d_Nam_want_13 : decode b_Nam_want 13 = .ok (.if_icmp .lt 5, 3) := by decide +kernel
theorem d_Nam_want_16 : decode b_Nam_want 16 = .ok (.iconst 0, 1) := by decide +kernel
theorem d_Nam_want_17 : decode b_Nam_want 17 = .ok (.ireturn, 1) := by decide +kernel
theorem d_Nam_want_18 : decode b_Nam_want 18 = .ok (.aload_n 1, 1) := by decide +kernel
theorem d_Nam_want_19 : decode b_Nam_want 19 = .ok (.getfield 43, 3) := by decide +kernel
theorem d_Nam_want_22 : decode b_Nam_want 22 = .ok (.iload_n 2, 1) := by decide +kernel
theorem d_Nam_want_23 : decode b_Nam_want 23 = .ok (.iadd, 1) := by decide +kernel
theorem d_Nam_want_24 : decode b_Nam_want 24 = .ok (.istore_n 3, 1) := by decide +kernel
theorem d_Nam_want_25 : decode b_Nam_want 25 = .ok (.iload_n 3, 1) := by decide +kernel
theorem d_Nam_want_26 : decode b_Nam_want 26 = .ok (.ifCond .lt 21, 3) := by decide +kernel
theorem d_Nam_want_29 : decode b_Nam_want 29 = .ok (.iload_n 3, 1) := by decide +kernel
theorem d_Nam_want_30 : decode b_Nam_want 30 = .ok (.aload_n 0, 1) := by decide +kernel
theorem d_Nam_want_31 : decode b_Nam_want 31 = .ok (.getfield 21, 3) := by decide +kernel
theorem d_Nam_want_34 : decode b_Nam_want 34 = .ok (.arraylength, 1) := by decide +kernel
theorem d_Nam_want_35 : decode b_Nam_want 35 = .ok (.if_icmp .ge 12, 3) := by decide +kernel
theorem d_Nam_want_38 : decode b_Nam_want 38 = .ok (.aload_n 0, 1) := by decide +kernel
theorem d_Nam_want_39 : decode b_Nam_want 39 = .ok (.getfield 21, 3) := by decide +kernel
theorem d_Nam_want_42 : decode b_Nam_want 42 = .ok (.iload_n 3, 1) := by decide +kernel
theorem d_Nam_want_43 : decode b_Nam_want 43 = .ok (.iaload, 1) := by decide +kernel
theorem d_Nam_want_44 : decode b_Nam_want 44 = .ok (.goto 4, 3) := by decide +kernel
theorem d_Nam_want_47 : decode b_Nam_want 47 = .ok (.iconst 0, 1) := by decide +kernel
theorem d_Nam_want_48 : decode b_Nam_want 48 = .ok (.ireturn, 1) := by decide +kernel
theorem q_Nam_want : px_y y_Nam_want 2 := by unfold px_y; decide +kernel
set_option maxHeartbeats 4000000 in
set_option maxRecDepth 100000 in
theorem c_nm_want_n (l : Launch) (D : va_G) (cs : Nat → ClassId) (hn : Nat) (rn : Nat → Nat) (no : Nat → Option Nat) (na : Nat → Nat → Int32) (ng : Nat → Nat → Option Nat) (own : Bool) (lq : Nat) (lc : Nat) (fq : Nat) (fc : Nat) (P : va_W) (nf : Nat → Int32) (lf : Nat → Int32) (lg : Nat → Option Nat) (ff : Nat → Int32) (fg : Nat → Option Nat) (p0 : Int32)  (hinv0 : NmOk P own (lf 1) (ff 1) lc fc lg fg) : MetI l y_Nam_want b_Nam_want 4 (.int) D cs 0 0 (0) (0) [.ref hn, .null, .int p0] [wd_Nam cs hn rn no nf na ng, wd_Lst cs (rn 0) (fun _ => 0) (fun k => if k = 0 then (some lq) else none) lf (fun _ _ => 0) (fun _ _ => none), lA cs own lq lc lg, wd_Lst cs (rn 1) (fun _ => 0) (fun k => if k = 0 then (some fq) else none) ff (fun _ _ => 0) (fun _ _ => none), [(fq, .inl (cs 12, fc, .inr (.inr (.inr (.inr fg)))))], P] (fun _ => True) (fun v ps => (ps = [wd_Nam cs hn rn no nf na ng, wd_Lst cs (rn 0) (fun _ => 0) (fun k => if k = 0 then (some lq) else none) lf (fun _ _ => 0) (fun _ _ => none), lA cs own lq lc lg, wd_Lst cs (rn 1) (fun _ => 0) (fun k => if k = 0 then (some fq) else none) ff (fun _ _ => 0) (fun _ _ => none), [(fq, .inl (cs 12, fc, .inr (.inr (.inr (.inr fg)))))], P]) ∧ (R_nm_want_n p0 v)) := by
  refine px_enter (by decide) (Nat.le_of_ble_eq_true rfl) ?_
  intro p e s m below meth c A ls hAe S hr hlk hnm hA hT hX hw hl
  have hl : lv_has ls 4 [(0, .ref hn), (1, .null), (2, .int p0)] := hl
  have lp0 := Int32.le_toInt p0
  have up0 := Int32.toInt_lt p0
  have cst0 : (0 : Int32).toInt = 0 := rfl
  obtain ⟨hown, ⟨n1, n2, n3⟩, hEl, ⟨n4, n5, n6⟩, hEf⟩ := hinv0
  refine lq_aload_n (x := none) S.x S.b d_Nam_want_0 rfl (lv_at hl 1 rfl) ?_
  refine lv_ifnullN (tgt := 16) S.x S.b d_Nam_want_1 (by decide) ?_
  refine lv_iconst (v := 0) S.x S.b d_Nam_want_16 (by decide) ?_
  exact px_iret (v := 0) S hr rfl hlk hAe hw (Nat.le_of_ble_eq_true rfl) (Nat.le_of_ble_eq_true rfl) (⟨rfl, (show R_nm_want_n p0 (0 : Int32) from (Or.inl rfl))⟩) d_Nam_want_17
set_option maxHeartbeats 4000000 in
set_option maxRecDepth 100000 in
theorem c_nm_want_r (l : Launch) (D : va_G) (cs : Nat → ClassId) (hn : Nat) (rn : Nat → Nat) (no : Nat → Option Nat) (na : Nat → Nat → Int32) (ng : Nat → Nat → Option Nat) (own : Bool) (lq : Nat) (lc : Nat) (fq : Nat) (fc : Nat) (P : va_W) (nf : Nat → Int32) (lf : Nat → Int32) (lg : Nat → Option Nat) (ff : Nat → Int32) (fg : Nat → Option Nat) (p0 : Int32) (fa : Nat) (hinv0 : NmOk P own (lf 1) (ff 1) lc fc lg fg) (hsy : Sy P (some fa)) : MetI l y_Nam_want b_Nam_want 4 (.int) D cs 0 0 (0) (0) [.ref hn, .ref fa, .int p0] [wd_Nam cs hn rn no nf na ng, wd_Lst cs (rn 0) (fun _ => 0) (fun k => if k = 0 then (some lq) else none) lf (fun _ _ => 0) (fun _ _ => none), lA cs own lq lc lg, wd_Lst cs (rn 1) (fun _ => 0) (fun k => if k = 0 then (some fq) else none) ff (fun _ _ => 0) (fun _ _ => none), [(fq, .inl (cs 12, fc, .inr (.inr (.inr (.inr fg)))))], P] (fun _ => True) (fun v ps => (ps = [wd_Nam cs hn rn no nf na ng, wd_Lst cs (rn 0) (fun _ => 0) (fun k => if k = 0 then (some lq) else none) lf (fun _ _ => 0) (fun _ _ => none), lA cs own lq lc lg, wd_Lst cs (rn 1) (fun _ => 0) (fun k => if k = 0 then (some fq) else none) ff (fun _ _ => 0) (fun _ _ => none), [(fq, .inl (cs 12, fc, .inr (.inr (.inr (.inr fg)))))], P]) ∧ (R_nm_want_r na P fa p0 v)) := by
  refine px_enter (by decide) (Nat.le_of_ble_eq_true rfl) ?_
  intro p e s m below meth c A ls hAe S hr hlk hnm hA hT hX hw hl
  have hl : lv_has ls 4 [(0, .ref hn), (1, .ref fa), (2, .int p0)] := hl
  have lp0 := Int32.le_toInt p0
  have up0 := Int32.toInt_lt p0
  have cst0 : (0 : Int32).toInt = 0 := rfl
  obtain ⟨hown, ⟨n1, n2, n3⟩, hEl, ⟨n4, n5, n6⟩, hEf⟩ := hinv0
  refine lv_aload_n S.x S.b d_Nam_want_0 rfl (lv_at hl 1 rfl) ?_
  refine lv_ifnull S.x S.b d_Nam_want_1 ?_
  refine lv_iload_n S.x S.b d_Nam_want_4 rfl (lv_at hl 2 rfl) ?_
  refine lv_if_lt (tgt := 16) S.x S.b d_Nam_want_5 (by decide) (fun c1 => ?_) (fun c1 => ?_)
  · have nc1 : p0.toInt < (0 : Int) := (i_lt (x := p0) (y := 0)).mp c1
    refine lv_iconst (v := 0) S.x S.b d_Nam_want_16 (by decide) ?_
    exact px_iret (v := 0) S hr rfl hlk hAe hw (Nat.le_of_ble_eq_true rfl) (Nat.le_of_ble_eq_true rfl) (⟨rfl, (show R_nm_want_r na P fa p0 (0 : Int32) from (Or.inl (Or.inl ⟨nc1, rfl⟩)))⟩) d_Nam_want_17
  · have nc1 : ¬ p0.toInt < (0 : Int) := mt (i_lt (x := p0) (y := 0)).mpr c1
    refine lv_iload_n S.x S.b d_Nam_want_8 rfl (lv_at hl 2 rfl) ?_
    refine lv_aload_n S.x S.b d_Nam_want_9 rfl (lv_at hl 1 rfl) ?_
    obtain ⟨j3, s4, hj5⟩ := (show Sy P (some fa) by first | assumption | exact Fy.sy (by assumption)).at
    refine px_get S k_Sym hT hw 5 j3 4 (v := .int (s4 4)) rfl hj5 rfl (by decide) m1_218 d_Nam_want_10 ?_
    refine lv_icmp_lt (tgt := 18) S.x S.b d_Nam_want_13 (by decide) (fun c6 => ?_) (fun c6 => ?_)
    · have nc6 : p0.toInt < (s4 4).toInt := (i_lt (x := p0) (y := (s4 4))).mp c6
      refine lv_aload_n S.x S.b d_Nam_want_18 rfl (lv_at hl 1 rfl) ?_
      refine px_get S k_Sym hT hw 5 j3 3 (v := .int (s4 3)) rfl hj5 rfl (by decide) m1_215 d_Nam_want_19 ?_
      refine lv_iload_n S.x S.b d_Nam_want_22 rfl (lv_at hl 2 rfl) ?_
      refine lv_iadd S.x S.b d_Nam_want_23 ?_
      have lr8 := Int32.le_toInt (s4 3)
      have ur8 := Int32.toInt_lt (s4 3)
      refine lv_topi (fun z9 ez9 => ?_)
      have tz9 : z9.toInt = ((s4 3).toInt + p0.toInt + 2147483648) % 4294967296 - 2147483648 := by rw [ez9]; exact i_add (s4 3) p0
      have lz9 := Int32.le_toInt z9
      have uz9 := Int32.toInt_lt z9
      try replace tz9 : z9.toInt = (s4 3).toInt + p0.toInt := by omega
      refine lv_istore_n (lv' := [(3, .int z9), (0, .ref hn), (1, .ref fa), (2, .int p0)]) S.x S.b d_Nam_want_24 rfl hl (by decide) rfl (fun ls hl => ?_)
      refine lv_iload_n S.x S.b d_Nam_want_25 rfl (lv_at hl 0 rfl) ?_
      refine lv_if_lt (tgt := 47) S.x S.b d_Nam_want_26 (by decide) (fun c10 => ?_) (fun c10 => ?_)
      · have nc10 : z9.toInt < (0 : Int) := (i_lt (x := z9) (y := 0)).mp c10
        refine lv_iconst (v := 0) S.x S.b d_Nam_want_47 (by decide) ?_
        exact px_iret (v := 0) S hr rfl hlk hAe hw (Nat.le_of_ble_eq_true rfl) (Nat.le_of_ble_eq_true rfl) (⟨rfl, (show R_nm_want_r na P fa p0 (0 : Int32) from (Or.inl (Or.inr ⟨nc1, j3, s4, hj5, Or.inl ⟨nc6, z9, ez9, Or.inl ⟨nc10, rfl⟩⟩⟩)))⟩) d_Nam_want_48
      · have nc10 : ¬ z9.toInt < (0 : Int) := mt (i_lt (x := z9) (y := 0)).mpr c10
        refine lv_iload_n S.x S.b d_Nam_want_29 rfl (lv_at hl 0 rfl) ?_
        refine lv_aload_n S.x S.b d_Nam_want_30 rfl (lv_at hl 1 rfl) ?_
        refine px_get S k_Nam hT hw 0 0 2 (v := .ref (rn 2)) rfl rfl rfl (by decide) m2_77 d_Nam_want_31 ?_
        refine px_len S hT hw 0 1 0 rfl rfl rfl (v := 2048) rfl d_Nam_want_34 ?_
        refine lv_icmp_ge (tgt := 47) S.x S.b d_Nam_want_35 (by decide) (fun c12 => ?_) (fun c12 => ?_)
        · have nc12 : (2048 : Int) ≤ z9.toInt := (i_le (x := 2048) (y := z9)).mp c12
          refine lv_iconst (v := 0) S.x S.b d_Nam_want_47 (by decide) ?_
          exact px_iret (v := 0) S hr rfl hlk hAe hw (Nat.le_of_ble_eq_true rfl) (Nat.le_of_ble_eq_true rfl) (⟨rfl, (show R_nm_want_r na P fa p0 (0 : Int32) from (Or.inl (Or.inr ⟨nc1, j3, s4, hj5, Or.inl ⟨nc6, z9, ez9, Or.inr ⟨nc10, Or.inl ⟨nc12, rfl⟩⟩⟩⟩)))⟩) d_Nam_want_48
        · have nc12 : ¬ (2048 : Int) ≤ z9.toInt := mt (i_le (x := 2048) (y := z9)).mpr c12
          refine lv_aload_n S.x S.b d_Nam_want_38 rfl (lv_at hl 1 rfl) ?_
          refine px_get S k_Nam hT hw 0 0 2 (v := .ref (rn 2)) rfl rfl rfl (by decide) m2_77 d_Nam_want_39 ?_
          refine lv_iload_n S.x S.b d_Nam_want_42 rfl (lv_at hl 0 rfl) ?_
          refine px_iald S hT hw 0 1 (n := 2048) (f := (na 2)) rfl (ga_Nam_2 _ _ _ _ _ _ _) (x := z9) (vp_in_iff.mpr (by first | exact oz_f4db95235a nc10 nc12 | (constructor <;> omega))) d_Nam_want_43 ?_
          refine lv_topi (fun z14 ez14 => ?_)
          have lz14 := Int32.le_toInt z14
          have uz14 := Int32.toInt_lt z14
          refine lv_goto (tgt := 48) S.x S.b d_Nam_want_44 (by decide) ?_
          exact px_iret (v := z14) S hr rfl hlk hAe hw (Nat.le_of_ble_eq_true rfl) (Nat.le_of_ble_eq_true rfl) (⟨rfl, (show R_nm_want_r na P fa p0 z14 from (Or.inl (Or.inr ⟨nc1, j3, s4, hj5, Or.inl ⟨nc6, z9, ez9, Or.inr ⟨nc10, Or.inr ⟨nc12, z14, ez14, rfl⟩⟩⟩⟩)))⟩) d_Nam_want_48
    · have nc6 : ¬ p0.toInt < (s4 4).toInt := mt (i_lt (x := p0) (y := (s4 4))).mpr c6
      refine lv_iconst (v := 0) S.x S.b d_Nam_want_16 (by decide) ?_
      exact px_iret (v := 0) S hr rfl hlk hAe hw (Nat.le_of_ble_eq_true rfl) (Nat.le_of_ble_eq_true rfl) (⟨rfl, (show R_nm_want_r na P fa p0 (0 : Int32) from (Or.inl (Or.inr ⟨nc1, j3, s4, hj5, Or.inr ⟨nc6, rfl⟩⟩)))⟩) d_Nam_want_17
set_option maxHeartbeats 4000000 in
set_option maxRecDepth 100000 in
theorem c_nm_want (l : Launch) (D : va_G) (cs : Nat → ClassId) (hn : Nat) (rn : Nat → Nat) (no : Nat → Option Nat) (na : Nat → Nat → Int32) (ng : Nat → Nat → Option Nat) (own : Bool) (lq : Nat) (lc : Nat) (fq : Nat) (fc : Nat) (P : va_W) (nf : Nat → Int32) (lf : Nat → Int32) (lg : Nat → Option Nat) (ff : Nat → Int32) (fg : Nat → Option Nat) (p0 : Int32) (fo : Option Nat) (hinv0 : NmOk P own (lf 1) (ff 1) lc fc lg fg) (hsy : Sy P fo) : MetI l y_Nam_want b_Nam_want 4 (.int) D cs 0 0 (0) (0) [.ref hn, va_rf fo, .int p0] [wd_Nam cs hn rn no nf na ng, wd_Lst cs (rn 0) (fun _ => 0) (fun k => if k = 0 then (some lq) else none) lf (fun _ _ => 0) (fun _ _ => none), lA cs own lq lc lg, wd_Lst cs (rn 1) (fun _ => 0) (fun k => if k = 0 then (some fq) else none) ff (fun _ _ => 0) (fun _ _ => none), [(fq, .inl (cs 12, fc, .inr (.inr (.inr (.inr fg)))))], P] (fun _ => True) (fun v ps => (ps = [wd_Nam cs hn rn no nf na ng, wd_Lst cs (rn 0) (fun _ => 0) (fun k => if k = 0 then (some lq) else none) lf (fun _ _ => 0) (fun _ _ => none), lA cs own lq lc lg, wd_Lst cs (rn 1) (fun _ => 0) (fun k => if k = 0 then (some fq) else none) ff (fun _ _ => 0) (fun _ _ => none), [(fq, .inl (cs 12, fc, .inr (.inr (.inr (.inr fg)))))], P]) ∧ (R_nm_want na P fo p0 v)) := by
  cases fo with
  | none => exact c_nm_want_n l D cs hn rn no na ng own lq lc fq fc P nf lf lg ff fg p0 hinv0
  | some fa => exact c_nm_want_r l D cs hn rn no na ng own lq lc fq fc P nf lf lg ff fg p0 fa hinv0 hsy
