theorem oz_18a5c06a28 {a0 : Int} (h0 : ¬ a0 < (0 : Int)) : 0 ≤ a0 := by omega
theorem oz_e9273f1cf5 {a0 a1 a2 : Int} (h0 : a2 < a1) (h1 : a0 = a2 + (-1)) : a0 < a1 := by omega
theorem oz_d2e73a1b11 {a0 a1 : Int} (h0 : a0 = a1 + (-1)) (h1 : ¬ a1 < (0 : Int)) : -1 ≤ a0 := by omega
theorem oz_ed4f025f7d {a0 a2 : Int} {n1 : Nat} (h0 : a2+2 < ((n1 + 1 : Nat) : Int)) (h1 : a0 = a2 + (-1)) : a0+2 < (n1 : Int) := by omega
theorem oz_c3803f0c4e {a0 a1 a2 : Int} (h0 : a2 = a1) (h1 : a0 = a2 - (1 : Int)) : a0 < a1 := by omega
theorem oz_31ac67e034 {a0 a1 a2 : Int} (h0 : a0 = a1 - (1 : Int)) (h1 : a1 = a2) (h2 : 0 ≤ a2) : -1 ≤ a0 := by omega
theorem oz_843db69ae7 {a0 a1 a2 : Int} (h0 : a2 = a1) (h1 : ¬ a2 ≤ a0) : a0 < a1 := by omega
theorem oz_a6fd07f316 {a0 a1 a2 a3 : Int} (h0 : a2 = a1) (h1 : a0 = a3 + 1) (h2 : ¬ a2 ≤ a3) : a0 ≤ a1 := by omega
theorem oz_ed25187654 {a0 a1 a3 : Int} {n2 : Nat} (h0 : a0-a3+1 < ((n2 + 1 : Nat) : Int)) (h1 : a1 = a3 + 1) : a0-a1+1 < (n2 : Int) := by omega
theorem m2_75 : Cond.fieldLink "HomeSystem$Names" 12 "HomeSystem$Names" "symbols" "Ljava/util/ArrayList;" ∈ AL := AL_2 (List.mem_of_getElem? (i := 75) rfl) rfl
theorem m5_19 : Cond.methodLink "HomeSystem$Names" 72 ⟨"java/util/ArrayList", "get", "(I)Ljava/lang/Object;"⟩ ∈ AL := AL_5 (List.mem_of_getElem? (i := 19) rfl) rfl
theorem m5_22 : Cond.code ⟨"java/util/ArrayList", "get", "(I)Ljava/lang/Object;"⟩ prog_39_method_20_code 2 (Option.some (FieldType.object "java/lang/Object")) ∈ AL := AL_5 (List.mem_of_getElem? (i := 22) rfl) rfl
theorem m5_21 : Cond.selects "java/util/ArrayList" ⟨"java/util/ArrayList", "get", "(I)Ljava/lang/Object;"⟩ ⟨"java/util/ArrayList", "get", "(I)Ljava/lang/Object;"⟩ ∈ AL := AL_5 (List.mem_of_getElem? (i := 21) rfl) rfl
theorem m5_20 : Cond.instanceMethod ⟨"java/util/ArrayList", "get", "(I)Ljava/lang/Object;"⟩ ∈ AL := AL_5 (List.mem_of_getElem? (i := 20) rfl) rfl
theorem m1_202 : Cond.classLink "HomeSystem$Names" 28 "HomeSystem$Symbol" ∈ AL := AL_1 (List.mem_of_getElem? (i := 202) rfl) rfl
theorem m14_232n : Cond.castable "HomeSystem$Symbol" "HomeSystem$Symbol" ∈ tables_1 := by unfold tables_1; exact List.mem_append_right _ (List.mem_append_right _ (List.mem_append_right _ (List.mem_append_right _ (List.mem_append_right _ (List.mem_append_right _ (List.mem_append_right _ (List.mem_append_right _ (List.mem_append_right _ (List.mem_append_right _ (List.mem_append_right _ (List.mem_append_right _ (List.mem_append_right _ (List.mem_append_left _ (List.mem_of_getElem? (i := 232) rfl))))))))))))))
theorem m1_209 : Cond.fieldLink "HomeSystem$Names" 75 "HomeSystem$Symbol" "name" "I" ∈ AL := AL_1 (List.mem_of_getElem? (i := 209) rfl) rfl
theorem m4_72 : Cond.methodLink "HomeSystem$Names" 59 ⟨"java/util/ArrayList", "size", "()I"⟩ ∈ AL := AL_4 (List.mem_of_getElem? (i := 72) rfl) rfl
theorem m4_75 : Cond.code ⟨"java/util/ArrayList", "size", "()I"⟩ prog_39_method_8_code 1 (Option.some FieldType.int) ∈ AL := AL_4 (List.mem_of_getElem? (i := 75) rfl) rfl
theorem m4_74 : Cond.selects "java/util/ArrayList" ⟨"java/util/ArrayList", "size", "()I"⟩ ⟨"java/util/ArrayList", "size", "()I"⟩ ∈ AL := AL_4 (List.mem_of_getElem? (i := 74) rfl) rfl
theorem m4_73 : Cond.instanceMethod ⟨"java/util/ArrayList", "size", "()I"⟩ ∈ AL := AL_4 (List.mem_of_getElem? (i := 73) rfl) rfl
theorem m2_79 : Cond.fieldLink "HomeSystem$Names" 69 "HomeSystem$Names" "scope" "I" ∈ AL := AL_2 (List.mem_of_getElem? (i := 79) rfl) rfl
theorem m2_76 : Cond.fieldLink "HomeSystem$Names" 18 "HomeSystem$Names" "functions" "Ljava/util/ArrayList;" ∈ AL := AL_2 (List.mem_of_getElem? (i := 76) rfl) rfl
theorem m1_218 : Cond.fieldLink "HomeSystem$Names" 49 "HomeSystem$Symbol" "size" "I" ∈ AL := AL_1 (List.mem_of_getElem? (i := 218) rfl) rfl
theorem m1_215 : Cond.fieldLink "HomeSystem$Names" 43 "HomeSystem$Symbol" "base" "I" ∈ AL := AL_1 (List.mem_of_getElem? (i := 215) rfl) rfl
theorem m2_77 : Cond.fieldLink "HomeSystem$Names" 21 "HomeSystem$Names" "wants" "[I" ∈ AL := AL_2 (List.mem_of_getElem? (i := 77) rfl) rfl
/-! SYMBOLS: a pool of them, of which only is known that each is one; the lists of Names hold some of them -/
def syC (a : Nat) (s : Nat → Int32) : Nat × va_E := (a, .inr (3, [.int (s 0), .int (s 1), .int (s 2), .int (s 3), .int (s 4), .int (s 5), .int (s 6)]))
/-- null, or a symbol of the pool -/
def Sy (P : va_W) (q : Option Nat) : Prop := ∀ a, q = some a → ∃ (j : Nat) (s : Nat → Int32), P[j]? = some (syC a s)
/-- null, or a function of the pool -/
def Fy (P : va_W) (q : Option Nat) : Prop := ∀ a, q = some a → ∃ (j : Nat) (s : Nat → Int32), P[j]? = some (syC a s) ∧ 0 ≤ (s 5).toInt ∧ (s 5).toInt ≤ 1000000
def ElS (P : va_W) (n : Int32) (g : Nat → Option Nat) : Prop := ∀ j : Nat, (j : Int) < n.toInt → ∃ a, g j = some a ∧ Sy P (some a)
def ElF (P : va_W) (n : Int32) (g : Nat → Option Nat) : Prop := ∀ j : Nat, (j : Int) < n.toInt → ∃ a, g j = some a ∧ Fy P (some a)
theorem sy_none {P : va_W} : Sy P none := fun _ h => by cases h
theorem fy_none {P : va_W} : Fy P none := fun _ h => by cases h
theorem Sy.at {P : va_W} {a : Nat} (h : Sy P (some a)) : ∃ (j : Nat) (s : Nat → Int32), P[j]? = some (syC a s) := h a rfl
theorem Fy.at {P : va_W} {a : Nat} (h : Fy P (some a)) : ∃ (j : Nat) (s : Nat → Int32), P[j]? = some (syC a s) ∧ 0 ≤ (s 5).toInt ∧ (s 5).toInt ≤ 1000000 := h a rfl
theorem Fy.sy {P : va_W} {q : Option Nat} (h : Fy P q) : Sy P q := fun a e => by obtain ⟨j, s, h1, -⟩ := h a e; exact ⟨j, s, h1⟩
theorem sy_some {P : va_W} {a j : Nat} {s : Nat → Int32} (h : P[j]? = some (syC a s)) : Sy P (some a) := fun b e => by cases e; exact ⟨j, s, h⟩
theorem ElS.at {P : va_W} {n : Int32} {g : Nat → Option Nat} (h : ElS P n g) {x : Int32} (h0 : 0 ≤ x.toInt) (h1 : x.toInt < n.toInt) : ∃ a, g x.toNatClampNeg = some a ∧ Sy P (some a) := h _ (by rw [cl_nat h0]; exact h1)
theorem ElF.at {P : va_W} {n : Int32} {g : Nat → Option Nat} (h : ElF P n g) {x : Int32} (h0 : 0 ≤ x.toInt) (h1 : x.toInt < n.toInt) : ∃ a, g x.toNatClampNeg = some a ∧ Fy P (some a) := h _ (by rw [cl_nat h0]; exact h1)
theorem ElS.less {P : va_W} {n k : Int32} {g : Nat → Option Nat} (h : ElS P n g) (hk : k.toInt ≤ n.toInt) : ElS P k g := fun j hj => h j (by omega)
theorem ElF.less {P : va_W} {n k : Int32} {g : Nat → Option Nat} (h : ElF P n g) (hk : k.toInt ≤ n.toInt) : ElF P k g := fun j hj => h j (by omega)
/-- an array that may be somebody else's -/
def lA (cs : Nat → ClassId) (own : Bool) (q n : Nat) (g : Nat → Option Nat) : va_W := match own with
  | true => [(q, .inl (cs 12, n, .inr (.inr (.inr (.inr g)))))]
  | false => []
/-- the lists of Names: how long they are, and what they hold -/
def NmOk (P : va_W) (own : Bool) (n k : Int32) (lc fc : Nat) (lg fg : Nat → Option Nat) : Prop := (own = false → lc = 0) ∧ (0 ≤ n.toInt ∧ n.toInt ≤ (lc : Int) ∧ lc ≤ 1000000) ∧ ElS P n lg ∧ (0 ≤ k.toInt ∧ k.toInt ≤ (fc : Int) ∧ fc ≤ 1000000) ∧ ElF P k fg
section PL
variable {p : Program} {l : Launch} {e : Env} {R : Room} {s : State} {m : MethodId} {args : Array Value} {below : List Frame} {meth : Method} {c : Code} {H : Heap} {locs : List Loc} {cells slots : Nat} {Q : State → Prop}
variable {cc : ByteArray} {pc nL : Nat} {ls : Array Slot} {rest : List Value} {D : va_G} {A : Nat → Prop} {a : Nat} {cs : Nat → ClassId} {ps : List va_W} {w : va_W} {H0 : Heap} {own : String}
theorem px_castP (S : px_S p m c cc nL s args own) (hT : Tb D cs s) (hw : pw D A H0 H locs ps) (i j : Nat) {ci : Nat} {fs : List Value} {q : vw_C} {nm : String} {index : Nat} (hi : ps[i]? = some w) (he : w[j]? = some (a, .inr (ci, fs))) (hc : classes[ci]? = some q) (hlink : Cond.classLink own index nm ∈ AL) (hcast : Cond.castable q.1 nm ∈ tables_1) (hdg : decode cc pc = .ok (.checkcast index, 3))
    (kk : W p l e R s m args below meth c H locs cells slots Q (F0 m (pc + 3) ls (.ref a :: rest))) : W p l e R s m args below meth c H locs cells slots Q (F0 m pc ls (.ref a :: rest)) :=
  va_castY S.x S.b S.own (S.w hlink) (hT.2.2 _ hcast rfl) (px_recv hT hw i j hi he hc) hdg kk
end PL
set_option maxHeartbeats 4000000 in
set_option maxRecDepth 100000 in
theorem c_ls_size (l : Launch) (D : va_G) (cs : Nat → ClassId) (hl0 : Nat) (lq : Nat) (lf : Nat → Int32)   : MetI l y_Lst_size b_Lst_size 1 (.int) D cs 0 0 (0) (0) [.ref hl0] [wd_Lst cs hl0 (fun _ => 0) (fun k => if k = 0 then (some lq) else none) lf (fun _ _ => 0) (fun _ _ => none)] (fun _ => True) (fun v ps => (ps = [wd_Lst cs hl0 (fun _ => 0) (fun k => if k = 0 then (some lq) else none) lf (fun _ _ => 0) (fun _ _ => none)]) ∧ (v.toInt = (lf 1).toInt)) := by
  refine px_enter (by decide) (Nat.le_of_ble_eq_true rfl) ?_
  intro p e s m below meth c A ls hAe S hr hlk hnm hA hT hX hw hl
  replace hl : lv_has ls 1 [(0, .ref hl0)] := hl
  refine lv_aload_n S.x S.b d_Lst_size_0 rfl (lv_at hl 0 rfl) ?_
  refine px_get S k_Lst hT hw 0 0 1 (v := .int (lf 1)) rfl rfl rfl (by decide) m1_189 d_Lst_size_1 ?_
  exact px_iret (v := (lf 1)) S hr rfl hlk hAe hw (Nat.le_of_ble_eq_true rfl) (Nat.le_of_ble_eq_true rfl) (⟨rfl, (show (lf 1).toInt = (lf 1).toInt from rfl)⟩) d_Lst_size_4
set_option maxHeartbeats 4000000 in
set_option maxRecDepth 100000 in
theorem c_ls_clear0 (l : Launch) (D : va_G) (cs : Nat → ClassId) (hl0 : Nat) (lq : Nat) (lf : Nat → Int32)  (g0 : (lf 1).toInt = 0) : MetV l y_Lst_clear b_Lst_clear 4 D cs 0 0 (0) (0) [.ref hl0] [wd_Lst cs hl0 (fun _ => 0) (fun k => if k = 0 then (some lq) else none) lf (fun _ _ => 0) (fun _ _ => none)] (fun _ => True) (fun ps => ∃ (lf' : Nat → Int32), (ps = [wd_Lst cs hl0 (fun _ => 0) (fun k => if k = 0 then (some lq) else none) lf' (fun _ _ => 0) (fun _ _ => none)]) ∧ ((lf' 1).toInt = 0)) := by
  refine px_enter (by decide) (Nat.le_of_ble_eq_true rfl) ?_
  intro p e s m below meth c A ls hAe S hr hlk hnm hA hT hX hw hl
  replace hl : lv_has ls 4 [(0, .ref hl0)] := hl
  have cst0 : (0 : Int32).toInt = 0 := rfl
  have cst1 : (1 : Int32).toInt = 1 := rfl
  have J27 : ∀ (n_27 : Nat) (lf_27 : Nat → Int32) (x27_2 x27_3 : Int32) (H : Heap) (locs : List Loc) (ls : Array Slot), ((lf_27 1).toInt = 0) → (0 ≤ x27_3.toInt) → (x27_2.toInt = 0) → x27_2.toInt-x27_3.toInt+4294967297 < (n_27 : Int) → pw D A s.heap H locs [wd_Lst cs hl0 (fun _ => 0) (fun k => if k = 0 then (some lq) else none) lf_27 (fun _ _ => 0) (fun _ _ => none)] → lv_has ls 4 [(0, .ref hl0), (1, .ref lq), (2, .int x27_2), (3, .int x27_3)] → W p l e { frames := 0, cells := 0, slots := 0, locals := 0 } s m [.ref hl0].toArray below meth c H locs 0 0 (MQ below (va_Qv (fun ps => ∃ (lf' : Nat → Int32), (ps = [wd_Lst cs hl0 (fun _ => 0) (fun k => if k = 0 then (some lq) else none) lf' (fun _ _ => 0) (fun _ _ => none)]) ∧ ((lf' 1).toInt = 0)) (pc_B D (va_A ([wd_Lst cs hl0 (fun _ => 0) (fun k => if k = 0 then (some lq) else none) lf (fun _ _ => 0) (fun _ _ => none)] : List va_W).flatten s.heap.size)) (va_A ([wd_Lst cs hl0 (fun _ => 0) (fun k => if k = 0 then (some lq) else none) lf (fun _ _ => 0) (fun _ _ => none)] : List va_W).flatten s.heap.size)) [.ref hl0].toArray s 0 0 A) (F0 m 27 ls []) := by
    intro n_27
    induction n_27 with
    | zero =>
      intro lf_27 x27_2 x27_3 H locs ls k27_0 k27_1 k27_2 hm hw hl
      have lx27_2 := Int32.le_toInt x27_2
      have ux27_2 := Int32.toInt_lt x27_2
      have lx27_3 := Int32.le_toInt x27_3
      have ux27_3 := Int32.toInt_lt x27_3
      exact absurd hm (by omega)
    | succ n_27 ih27 =>
      intro lf_27 x27_2 x27_3 H locs ls k27_0 k27_1 k27_2 hm hw hl
      have lx27_2 := Int32.le_toInt x27_2
      have ux27_2 := Int32.toInt_lt x27_2
      have lx27_3 := Int32.le_toInt x27_3
      have ux27_3 := Int32.toInt_lt x27_3
      refine lv_iload_n S.x S.b d_Lst_clear_27 rfl (lv_at hl 3 rfl) ?_
      refine lv_iload_n S.x S.b d_Lst_clear_28 rfl (lv_at hl 2 rfl) ?_
      refine lv_icmp_ge (tgt := 42) S.x S.b d_Lst_clear_29 (by decide) (fun c1 => ?_) (fun c1 => ?_)
      · have nc1 : x27_2.toInt ≤ x27_3.toInt := (i_le (x := x27_2) (y := x27_3)).mp c1
        exact px_vret S hr hlk hAe hw (Nat.le_of_ble_eq_true rfl) (Nat.le_of_ble_eq_true rfl) (⟨lf_27, rfl, (show (lf_27 1).toInt = 0 from by first | exact k27_0 | omega)⟩) d_Lst_clear_42
      · have nc1 : ¬ x27_2.toInt ≤ x27_3.toInt := mt (i_le (x := x27_2) (y := x27_3)).mpr c1
        refine lv_aload_n S.x S.b d_Lst_clear_32 rfl (lv_at hl 1 rfl) ?_
        refine lv_iload_n S.x S.b d_Lst_clear_33 rfl (lv_at hl 3 rfl) ?_
        refine lv_null S.x S.b d_Lst_clear_34 ?_
        exfalso
        omega
  refine lv_aload_n S.x S.b d_Lst_clear_0 rfl (lv_at hl 0 rfl) ?_
  refine lv_dup S.x S.b d_Lst_clear_1 rfl ?_
  refine px_getS S k_Lst hT hw 0 0 2 (v := .int (lf 2)) rfl rfl rfl (by decide) m1_191 m1_192 d_Lst_clear_2 ?_
  refine lv_iconst (v := 1) S.x S.b d_Lst_clear_5 (by decide) ?_
  refine lv_iadd S.x S.b d_Lst_clear_6 ?_
  have lr2 := Int32.le_toInt (lf 2)
  have ur2 := Int32.toInt_lt (lf 2)
  refine lv_topi (fun z3 ez3 => ?_)
  have tz3 : z3.toInt = ((lf 2).toInt + (1 : Int) + 2147483648) % 4294967296 - 2147483648 := by rw [ez3]; exact i_add (lf 2) 1
  have lz3 := Int32.le_toInt z3
  have uz3 := Int32.toInt_lt z3
  try replace tz3 : z3.toInt = (lf 2).toInt + (1 : Int) := by omega
  refine px_putS S k_Lst hT hw 0 0 2 rfl rfl (by decide) m1_191 m1_192 rfl rfl rfl (Nat.le_of_ble_eq_true rfl) d_Lst_clear_7 (w' := wd_Lst cs hl0 (fun _ => 0) (fun k => if k = 0 then (some lq) else none) (upd lf 2 z3) (fun _ _ => 0) (fun _ _ => none)) (ps' := [wd_Lst cs hl0 (fun _ => 0) (fun k => if k = 0 then (some lq) else none) (upd lf 2 z3) (fun _ _ => 0) (fun _ _ => none)]) rfl rfl (fun H locs hw => ?_)
  refine lv_aload_n S.x S.b d_Lst_clear_10 rfl (lv_at hl 0 rfl) ?_
  refine px_get S k_Lst hT hw 0 0 0 (v := .ref lq) rfl rfl rfl (by decide) m1_188 d_Lst_clear_11 ?_
  refine lv_astore_n (lv' := [(1, .ref lq), (0, .ref hl0)]) S.x S.b d_Lst_clear_14 rfl hl (by decide) rfl (fun ls hl => ?_)
  refine lv_aload_n S.x S.b d_Lst_clear_15 rfl (lv_at hl 1 rfl) ?_
  refine px_get S k_Lst hT hw 0 0 1 (v := .int (lf 1)) rfl rfl rfl (by decide) m1_189 d_Lst_clear_16 ?_
  refine lv_istore_n (lv' := [(2, .int (lf 1)), (1, .ref lq), (0, .ref hl0)]) S.x S.b d_Lst_clear_19 rfl hl (by decide) rfl (fun ls hl => ?_)
  refine lv_aload_n S.x S.b d_Lst_clear_20 rfl (lv_at hl 2 rfl) ?_
  refine lv_iconst (v := 0) S.x S.b d_Lst_clear_21 (by decide) ?_
  refine lv_dup_x1 S.x S.b d_Lst_clear_22 rfl rfl ?_
  refine px_put S k_Lst hT hw 0 0 1 rfl rfl (by decide) m1_189 rfl rfl rfl (Nat.le_of_ble_eq_true rfl) d_Lst_clear_23 (w' := wd_Lst cs hl0 (fun _ => 0) (fun k => if k = 0 then (some lq) else none) (upd (upd lf 1 0) 2 z3) (fun _ _ => 0) (fun _ _ => none)) (ps' := [wd_Lst cs hl0 (fun _ => 0) (fun k => if k = 0 then (some lq) else none) (upd (upd lf 1 0) 2 z3) (fun _ _ => 0) (fun _ _ => none)]) rfl rfl (fun H locs hw => ?_)
  refine lv_istore_n (lv' := [(3, .int 0), (2, .int (lf 1)), (1, .ref lq), (0, .ref hl0)]) S.x S.b d_Lst_clear_26 rfl hl (by decide) rfl (fun ls hl => ?_)
  exact J27 (((lf 1).toInt-(0 : Int)+4294967297).toNat + 1) (upd (upd lf 1 0) 2 z3) (lf 1) (0 : Int32) _ _ ls (show (0 : Int) = 0 from by first | decide | omega) (show 0 ≤ (0 : Int) from by first | decide | omega) (show (lf 1).toInt = 0 from by first | exact g0 | omega) (show (lf 1).toInt-(0 : Int)+4294967297 < (((((lf 1).toInt-(0 : Int)+4294967297).toNat + 1 : Nat) : Int) : Int) from by first | exact oz_natlt | omega) hw (lv_sub hl [3, 2, 1, 0] rfl)
abbrev b_Nam_find : ByteArray := prog_5_method_6_code
def y_Nam_find : MethodName := ⟨"HomeSystem$Names", "find", "(I)LHomeSystem$Symbol;"⟩
theorem d_Nam_find_0 : decode b_Nam_find 0 = .ok (.aload_n 0, 1) := by decide +kernel
theorem d_Nam_find_1 : decode b_Nam_find 1 = .ok (.getfield 12, 3) := by decide +kernel
theorem d_Nam_find_4 : decode b_Nam_find 4 = .ok (.invokevirtual 59, 3) := by decide +kernel
theorem d_Nam_find_7 : decode b_Nam_find 7 = .ok (.iconst 1, 1) := by decide +kernel
theorem d_Nam_find_8 : decode b_Nam_find 8 = .ok (.isub, 1) := by decide +kernel
theorem d_Nam_find_9 : decode b_Nam_find 9 = .ok (.istore_n 2, 1) := by decide +kernel
theorem d_Nam_find_10 : decode b_Nam_find 10 = .ok (.iload_n 2, 1) := by decide +kernel
theorem d_Nam_find_11 : decode b_Nam_find 11 = .ok (.ifCond .lt 31, 3) := by decide +kernel
theorem d_Nam_find_14 : decode b_Nam_find 14 = .ok (.aload_n 0, 1) := by decide +kernel
theorem d_Nam_find_15 : decode b_Nam_find 15 = .ok (.getfield 12, 3) := by decide +kernel
theorem d_Nam_find_18 : decode b_Nam_find 18 = .ok (.iload_n 2, 1) := by decide +kernel
theorem d_Nam_find_19 : decode b_Nam_find 19 = .ok (.invokevirtual 72, 3) := by decide +kernel
theorem d_Nam_find_22 : decode b_Nam_find 22 = .ok (.checkcast 28, 3) := by decide +kernel
theorem d_Nam_find_25 : decode b_Nam_find 25 = .ok (.astore_n 3, 1) := by decide +kernel
theorem d_Nam_find_26 : decode b_Nam_find 26 = .ok (.aload_n 3, 1) := by decide +kernel
theorem d_Nam_find_27 : decode b_Nam_find 27 = .ok (.getfield 75, 3) := by decide +kernel
theorem d_Nam_find_30 : decode b_Nam_find 30 = .ok (.iload_n 1, 1) := by decide +kernel
theorem d_Nam_find_31 : decode b_Nam_find 31 = .ok (.if_icmp .ne 5, 3) := by decide +kernel
theorem d_Nam_find_34 : decode b_Nam_find 34 = .ok (.aload_n 3, 1) := by decide +kernel
theorem d_Nam_find_35 : decode b_Nam_find 35 = .ok (.areturn, 1) := by decide +kernel
theorem d_Nam_find_36 : decode b_Nam_find 36 = .ok (.iinc 2 (-1), 3) := by decide +kernel
theorem d_Nam_find_39 : decode b_Nam_find 39 = .ok (.goto (-29), 3) := by decide +kernel
theorem d_Nam_find_42 : decode b_Nam_find 42 = .ok (.aconst_null, 1) := by decide +kernel
theorem d_Nam_find_43 : decode b_Nam_find 43 = .ok (.areturn, 1) := by decide +kernel
theorem q_Nam_find : px_y y_Nam_find 1 := by unfold px_y; decide +kernel
set_option maxHeartbeats 4000000 in
set_option maxRecDepth 100000 in
theorem c_nm_find_T (l : Launch) (D : va_G) (cs : Nat → ClassId) (hn : Nat) (rn : Nat → Nat) (no : Nat → Option Nat) (na : Nat → Nat → Int32) (ng : Nat → Nat → Option Nat) (lq : Nat) (lc : Nat) (fq : Nat) (fc : Nat) (P : va_W) (nf : Nat → Int32) (lf : Nat → Int32) (lg : Nat → Option Nat) (ff : Nat → Int32) (fg : Nat → Option Nat) (p0 : Int32)  (hinv0 : NmOk P true (lf 1) (ff 1) lc fc lg fg) : MetR l y_Nam_find b_Nam_find 4 (.object "HomeSystem$Symbol") D cs 3 90 (0) (0) [.ref hn, .int p0] [wd_Nam cs hn rn no nf na ng, wd_Lst cs (rn 0) (fun _ => 0) (fun k => if k = 0 then (some lq) else none) lf (fun _ _ => 0) (fun _ _ => none), [(lq, .inl (cs 12, lc, .inr (.inr (.inr (.inr lg)))))], wd_Lst cs (rn 1) (fun _ => 0) (fun k => if k = 0 then (some fq) else none) ff (fun _ _ => 0) (fun _ _ => none), [(fq, .inl (cs 12, fc, .inr (.inr (.inr (.inr fg)))))], P] (fun _ => True) (fun v ps => (ps = [wd_Nam cs hn rn no nf na ng, wd_Lst cs (rn 0) (fun _ => 0) (fun k => if k = 0 then (some lq) else none) lf (fun _ _ => 0) (fun _ _ => none), [(lq, .inl (cs 12, lc, .inr (.inr (.inr (.inr lg)))))], wd_Lst cs (rn 1) (fun _ => 0) (fun k => if k = 0 then (some fq) else none) ff (fun _ _ => 0) (fun _ _ => none), [(fq, .inl (cs 12, fc, .inr (.inr (.inr (.inr fg)))))], P]) ∧ (Sy P v)) := by
  refine px_enter (by decide) (Nat.le_of_ble_eq_true rfl) ?_
  intro p e s m below meth c A ls hAe S hr hlk hnm hA hT hX hw hl
  replace hl : lv_has ls 4 [(0, .ref hn), (1, .int p0)] := hl
  have lp0 := Int32.le_toInt p0
  have up0 := Int32.toInt_lt p0
  have cst1 : (1 : Int32).toInt = 1 := rfl
  obtain ⟨hown, ⟨n1, n2, n3⟩, hEl, ⟨n4, n5, n6⟩, hEf⟩ := hinv0
  have J10 : ∀ (n_10 : Nat)  (x10_2 : Int32) (H : Heap) (locs : List Loc) (ls : Array Slot), (x10_2.toInt < (lf 1).toInt) → (-1 ≤ x10_2.toInt) → x10_2.toInt+2 < (n_10 : Int) → pw D A s.heap H locs [wd_Nam cs hn rn no nf na ng, wd_Lst cs (rn 0) (fun _ => 0) (fun k => if k = 0 then (some lq) else none) lf (fun _ _ => 0) (fun _ _ => none), [(lq, .inl (cs 12, lc, .inr (.inr (.inr (.inr lg)))))], wd_Lst cs (rn 1) (fun _ => 0) (fun k => if k = 0 then (some fq) else none) ff (fun _ _ => 0) (fun _ _ => none), [(fq, .inl (cs 12, fc, .inr (.inr (.inr (.inr fg)))))], P] → lv_has ls 4 [(0, .ref hn), (1, .int p0), (2, .int x10_2)] → W p l e { frames := 3, cells := 0, slots := 0, locals := 90 } s m [.ref hn, .int p0].toArray below meth c H locs 0 0 (MQ below (va_Qq (fun v ps => (ps = [wd_Nam cs hn rn no nf na ng, wd_Lst cs (rn 0) (fun _ => 0) (fun k => if k = 0 then (some lq) else none) lf (fun _ _ => 0) (fun _ _ => none), [(lq, .inl (cs 12, lc, .inr (.inr (.inr (.inr lg)))))], wd_Lst cs (rn 1) (fun _ => 0) (fun k => if k = 0 then (some fq) else none) ff (fun _ _ => 0) (fun _ _ => none), [(fq, .inl (cs 12, fc, .inr (.inr (.inr (.inr fg)))))], P]) ∧ (Sy P v)) (pc_B D (va_A ([wd_Nam cs hn rn no nf na ng, wd_Lst cs (rn 0) (fun _ => 0) (fun k => if k = 0 then (some lq) else none) lf (fun _ _ => 0) (fun _ _ => none), [(lq, .inl (cs 12, lc, .inr (.inr (.inr (.inr lg)))))], wd_Lst cs (rn 1) (fun _ => 0) (fun k => if k = 0 then (some fq) else none) ff (fun _ _ => 0) (fun _ _ => none), [(fq, .inl (cs 12, fc, .inr (.inr (.inr (.inr fg)))))], P] : List va_W).flatten s.heap.size)) (va_A ([wd_Nam cs hn rn no nf na ng, wd_Lst cs (rn 0) (fun _ => 0) (fun k => if k = 0 then (some lq) else none) lf (fun _ _ => 0) (fun _ _ => none), [(lq, .inl (cs 12, lc, .inr (.inr (.inr (.inr lg)))))], wd_Lst cs (rn 1) (fun _ => 0) (fun k => if k = 0 then (some fq) else none) ff (fun _ _ => 0) (fun _ _ => none), [(fq, .inl (cs 12, fc, .inr (.inr (.inr (.inr fg)))))], P] : List va_W).flatten s.heap.size)) [.ref hn, .int p0].toArray s 0 0 A) (F0 m 10 ls []) := by
    intro n_10
    induction n_10 with
    | zero =>
      intro x10_2 H locs ls k10_0 k10_1 hm hw hl
      have lx10_2 := Int32.le_toInt x10_2
      have ux10_2 := Int32.toInt_lt x10_2
      exact absurd hm (by omega)
    | succ n_10 ih10 =>
      intro x10_2 H locs ls k10_0 k10_1 hm hw hl
      have lx10_2 := Int32.le_toInt x10_2
      have ux10_2 := Int32.toInt_lt x10_2
      refine lv_iload_n S.x S.b d_Nam_find_10 rfl (lv_at hl 2 rfl) ?_
      refine lv_if_lt (tgt := 42) S.x S.b d_Nam_find_11 (by decide) (fun c1 => ?_) (fun c1 => ?_)
      · have nc1 : x10_2.toInt < (0 : Int) := (i_lt (x := x10_2) (y := 0)).mp c1
        refine lv_null S.x S.b d_Nam_find_42 ?_
        exact px_aret (v := none) S hr (Or.inl ⟨_, rfl⟩) hlk hAe hw (Nat.le_of_ble_eq_true rfl) (Nat.le_of_ble_eq_true rfl) (⟨rfl, (show Sy P none from (by first | assumption | exact sy_none | exact fy_none | exact Fy.sy (by assumption) | exact sy_some (by assumption)))⟩) d_Nam_find_43
      · have nc1 : ¬ x10_2.toInt < (0 : Int) := mt (i_lt (x := x10_2) (y := 0)).mpr c1
        refine lv_aload_n S.x S.b d_Nam_find_14 rfl (lv_at hl 0 rfl) ?_
        refine px_get S k_Nam hT hw 0 0 0 (v := .ref (rn 0)) rfl rfl rfl (by decide) m2_75 d_Nam_find_15 ?_
        refine lv_iload_n S.x S.b d_Nam_find_18 rfl (lv_at hl 2 rfl) ?_
        have hw : pw D A s.heap _ _ [wd_Nam cs hn rn no nf na ng, wd_Lst cs (rn 1) (fun _ => 0) (fun k => if k = 0 then (some fq) else none) ff (fun _ _ => 0) (fun _ _ => none), [(fq, .inl (cs 12, fc, .inr (.inr (.inr (.inr fg)))))], P, wd_Lst cs (rn 0) (fun _ => 0) (fun k => if k = 0 then (some lq) else none) lf (fun _ _ => 0) (fun _ _ => none), [(lq, .inl (cs 12, lc, .inr (.inr (.inr (.inr lg)))))]] := hw.sub [0, 3, 4, 5, 1, 2] rfl rfl
        refine px_callq (pr := [wd_Nam cs hn rn no nf na ng, wd_Lst cs (rn 1) (fun _ => 0) (fun k => if k = 0 then (some fq) else none) ff (fun _ _ => 0) (fun _ _ => none), [(fq, .inl (cs 12, fc, .inr (.inr (.inr (.inr fg)))))], P]) (px_runV (As := [.int x10_2]) (rest := []) S (c_Lst_get l D cs (rn 0) lq lc lf lg x10_2  (show lc ≤ 1000000 from by first | exact n3 | omega) (show 0 ≤ (lf 1).toInt from by first | exact n1 | omega) (show (lf 1).toInt ≤ (lc : Int) from by first | exact n2 | omega) (show 0 ≤ x10_2.toInt from by first | exact oz_18a5c06a28 nc1 | omega) (show x10_2.toInt < (lf 1).toInt from by first | exact k10_0 | omega) _) hT (pr := [wd_Nam cs hn rn no nf na ng, wd_Lst cs (rn 1) (fun _ => 0) (fun k => if k = 0 then (some fq) else none) ff (fun _ _ => 0) (fun _ _ => none), [(fq, .inl (cs 12, fc, .inr (.inr (.inr (.inr fg)))))], P]) (pcs := [wd_Lst cs (rn 0) (fun _ => 0) (fun k => if k = 0 then (some lq) else none) lf (fun _ _ => 0) (fun _ _ => none), [(lq, .inl (cs 12, lc, .inr (.inr (.inr (.inr lg)))))]]) hw px_X.tt (px_recv hT hw 4 0 rfl rfl rfl) m5_22 m5_19 m5_20 m5_21 m1_10 q_Lst_get ⟨Nat.le_of_ble_eq_true rfl, Nat.le_of_ble_eq_true rfl⟩ hl.1 rfl (Nat.le_of_ble_eq_true rfl) d_Nam_find_19 ⟨Nat.le_of_ble_eq_true rfl, Nat.le_of_ble_eq_true rfl⟩) hw hA (fun v3 p2 H locs hp2 hw => ?_)
        obtain ⟨rfl, e4⟩ := hp2
        subst e4
        replace hw : pw D A s.heap H locs [wd_Nam cs hn rn no nf na ng, wd_Lst cs (rn 1) (fun _ => 0) (fun k => if k = 0 then (some fq) else none) ff (fun _ _ => 0) (fun _ _ => none), [(fq, .inl (cs 12, fc, .inr (.inr (.inr (.inr fg)))))], P, wd_Lst cs (rn 0) (fun _ => 0) (fun k => if k = 0 then (some lq) else none) lf (fun _ _ => 0) (fun _ _ => none), [(lq, .inl (cs 12, lc, .inr (.inr (.inr (.inr lg)))))]] := hw
        obtain ⟨q5, eq5, hq5⟩ := hEl.at (x := x10_2) (by omega) (by omega); rw [eq5]
        obtain ⟨j6, s7, hj8⟩ := (show Sy P (some q5) by first | assumption | exact Fy.sy (by assumption)).at
        refine px_castP S hT hw 3 j6 rfl hj8 rfl m1_202 m14_232n d_Nam_find_22 ?_
        refine lv_astore_n (lv' := [(3, .ref q5), (0, .ref hn), (1, .int p0), (2, .int x10_2)]) S.x S.b d_Nam_find_25 rfl hl (by decide) rfl (fun ls hl => ?_)
        refine lv_aload_n S.x S.b d_Nam_find_26 rfl (lv_at hl 0 rfl) ?_
        refine px_get S k_Sym hT hw 3 j6 0 (v := .int (s7 0)) rfl hj8 rfl (by decide) m1_209 d_Nam_find_27 ?_
        refine lv_iload_n S.x S.b d_Nam_find_30 rfl (lv_at hl 2 rfl) ?_
        refine lv_icmp_ne (tgt := 36) S.x S.b d_Nam_find_31 (by decide) (fun c9 => ?_) (fun c9 => ?_)
        · have nc9 : ¬ (s7 0).toInt = p0.toInt := mt (i_eq (x := (s7 0)) (y := p0)).mpr c9
          obtain ⟨z10, ez10⟩ : ∃ y : Int32, y = x10_2 + (-1) := ⟨_, rfl⟩
          have tz10 : z10.toInt = (x10_2.toInt + (-1) + 2147483648) % 4294967296 - 2147483648 := by rw [ez10]; exact i_add x10_2 (-1)
          have lz10 := Int32.le_toInt z10
          have uz10 := Int32.toInt_lt z10
          try replace tz10 : z10.toInt = x10_2.toInt + (-1) := by omega
          refine lv_iinc (v := z10) (lv' := [(2, .int z10), (3, .ref q5), (0, .ref hn), (1, .int p0)]) S.x S.b d_Nam_find_36 hl (k := 3) rfl (by rw [ez10]; rfl) (by decide) rfl (fun ls hl => ?_)
          refine lv_goto (tgt := 10) S.x S.b d_Nam_find_39 (by decide) ?_
          have hw : pw D A s.heap _ _ [wd_Nam cs hn rn no nf na ng, wd_Lst cs (rn 0) (fun _ => 0) (fun k => if k = 0 then (some lq) else none) lf (fun _ _ => 0) (fun _ _ => none), [(lq, .inl (cs 12, lc, .inr (.inr (.inr (.inr lg)))))], wd_Lst cs (rn 1) (fun _ => 0) (fun k => if k = 0 then (some fq) else none) ff (fun _ _ => 0) (fun _ _ => none), [(fq, .inl (cs 12, fc, .inr (.inr (.inr (.inr fg)))))], P] := hw.sub [0, 4, 5, 1, 2, 3] rfl rfl
          exact ih10 z10 _ _ ls (show z10.toInt < (lf 1).toInt from by first | exact oz_e9273f1cf5 k10_0 tz10 | omega) (show -1 ≤ z10.toInt from by first | exact oz_d2e73a1b11 tz10 nc1 | omega) (show z10.toInt+2 < (n_10 : Int) from by first | exact oz_ed4f025f7d hm tz10 | omega) hw (lv_sub hl [2, 3, 0] rfl)
        · have nc9 : (s7 0).toInt = p0.toInt := (i_eq (x := (s7 0)) (y := p0)).mp c9
          refine lv_aload_n S.x S.b d_Nam_find_34 rfl (lv_at hl 0 rfl) ?_
          have hw : pw D A s.heap _ _ [wd_Nam cs hn rn no nf na ng, wd_Lst cs (rn 0) (fun _ => 0) (fun k => if k = 0 then (some lq) else none) lf (fun _ _ => 0) (fun _ _ => none), [(lq, .inl (cs 12, lc, .inr (.inr (.inr (.inr lg)))))], wd_Lst cs (rn 1) (fun _ => 0) (fun k => if k = 0 then (some fq) else none) ff (fun _ _ => 0) (fun _ _ => none), [(fq, .inl (cs 12, fc, .inr (.inr (.inr (.inr fg)))))], P] := hw.sub [0, 4, 5, 1, 2, 3] rfl rfl
          exact px_aret (v := (some q5)) S hr (Or.inl ⟨_, rfl⟩) hlk hAe hw (Nat.le_of_ble_eq_true rfl) (Nat.le_of_ble_eq_true rfl) (⟨rfl, (show Sy P (some q5) from (by first | assumption | exact sy_none | exact fy_none | exact Fy.sy (by assumption) | exact sy_some (by assumption)))⟩) d_Nam_find_35
  refine lv_aload_n S.x S.b d_Nam_find_0 rfl (lv_at hl 0 rfl) ?_
  refine px_get S k_Nam hT hw 0 0 0 (v := .ref (rn 0)) rfl rfl rfl (by decide) m2_75 d_Nam_find_1 ?_
  have hw : pw D A s.heap _ _ [wd_Nam cs hn rn no nf na ng, [(lq, .inl (cs 12, lc, .inr (.inr (.inr (.inr lg)))))], wd_Lst cs (rn 1) (fun _ => 0) (fun k => if k = 0 then (some fq) else none) ff (fun _ _ => 0) (fun _ _ => none), [(fq, .inl (cs 12, fc, .inr (.inr (.inr (.inr fg)))))], P, wd_Lst cs (rn 0) (fun _ => 0) (fun k => if k = 0 then (some lq) else none) lf (fun _ _ => 0) (fun _ _ => none)] := hw.sub [0, 2, 3, 4, 5, 1] rfl rfl
  refine px_calli (pr := [wd_Nam cs hn rn no nf na ng, [(lq, .inl (cs 12, lc, .inr (.inr (.inr (.inr lg)))))], wd_Lst cs (rn 1) (fun _ => 0) (fun k => if k = 0 then (some fq) else none) ff (fun _ _ => 0) (fun _ _ => none), [(fq, .inl (cs 12, fc, .inr (.inr (.inr (.inr fg)))))], P]) (px_runV (As := []) (rest := []) S (c_ls_size l D cs (rn 0) lq lf    _) hT (pr := [wd_Nam cs hn rn no nf na ng, [(lq, .inl (cs 12, lc, .inr (.inr (.inr (.inr lg)))))], wd_Lst cs (rn 1) (fun _ => 0) (fun k => if k = 0 then (some fq) else none) ff (fun _ _ => 0) (fun _ _ => none), [(fq, .inl (cs 12, fc, .inr (.inr (.inr (.inr fg)))))], P]) (pcs := [wd_Lst cs (rn 0) (fun _ => 0) (fun k => if k = 0 then (some lq) else none) lf (fun _ _ => 0) (fun _ _ => none)]) hw px_X.tt (px_recv hT hw 5 0 rfl rfl rfl) m4_75 m4_72 m4_73 m4_74 m1_10 q_Lst_size ⟨Nat.le_of_ble_eq_true rfl, Nat.le_of_ble_eq_true rfl⟩ hl.1 rfl (Nat.le_of_ble_eq_true rfl) d_Nam_find_4 ⟨Nat.le_of_ble_eq_true rfl, Nat.le_of_ble_eq_true rfl⟩) hw hA (fun v12 p11 H locs hp11 hw => ?_)
  obtain ⟨rfl, e13⟩ := hp11
  replace e13 : v12.toInt = (lf 1).toInt := e13
  replace hw : pw D A s.heap H locs [wd_Nam cs hn rn no nf na ng, [(lq, .inl (cs 12, lc, .inr (.inr (.inr (.inr lg)))))], wd_Lst cs (rn 1) (fun _ => 0) (fun k => if k = 0 then (some fq) else none) ff (fun _ _ => 0) (fun _ _ => none), [(fq, .inl (cs 12, fc, .inr (.inr (.inr (.inr fg)))))], P, wd_Lst cs (rn 0) (fun _ => 0) (fun k => if k = 0 then (some lq) else none) lf (fun _ _ => 0) (fun _ _ => none)] := hw
  have lv12 := Int32.le_toInt v12
  have uv12 := Int32.toInt_lt v12
  refine lv_iconst (v := 1) S.x S.b d_Nam_find_7 (by decide) ?_
  refine lv_isub S.x S.b d_Nam_find_8 ?_
  refine lv_topi (fun z14 ez14 => ?_)
  have tz14 : z14.toInt = (v12.toInt - (1 : Int) + 2147483648) % 4294967296 - 2147483648 := by rw [ez14]; exact i_sub v12 1
  have lz14 := Int32.le_toInt z14
  have uz14 := Int32.toInt_lt z14
  try replace tz14 : z14.toInt = v12.toInt - (1 : Int) := by omega
  refine lv_istore_n (lv' := [(2, .int z14), (0, .ref hn), (1, .int p0)]) S.x S.b d_Nam_find_9 rfl hl (by decide) rfl (fun ls hl => ?_)
  have hw : pw D A s.heap _ _ [wd_Nam cs hn rn no nf na ng, wd_Lst cs (rn 0) (fun _ => 0) (fun k => if k = 0 then (some lq) else none) lf (fun _ _ => 0) (fun _ _ => none), [(lq, .inl (cs 12, lc, .inr (.inr (.inr (.inr lg)))))], wd_Lst cs (rn 1) (fun _ => 0) (fun k => if k = 0 then (some fq) else none) ff (fun _ _ => 0) (fun _ _ => none), [(fq, .inl (cs 12, fc, .inr (.inr (.inr (.inr fg)))))], P] := hw.sub [0, 5, 1, 2, 3, 4] rfl rfl
  exact J10 ((z14.toInt+2).toNat + 1) z14 _ _ ls (show z14.toInt < (lf 1).toInt from by first | exact oz_c3803f0c4e e13 tz14 | omega) (show -1 ≤ z14.toInt from by first | exact oz_31ac67e034 tz14 e13 n1 | omega) (show z14.toInt+2 < ((((z14.toInt+2).toNat + 1 : Nat) : Int) : Int) from by first | exact oz_natlt | omega) hw (lv_sub hl [1, 2, 0] rfl)
set_option maxHeartbeats 4000000 in
set_option maxRecDepth 100000 in
theorem c_nm_find_F (l : Launch) (D : va_G) (cs : Nat → ClassId) (hn : Nat) (rn : Nat → Nat) (no : Nat → Option Nat) (na : Nat → Nat → Int32) (ng : Nat → Nat → Option Nat) (lq : Nat) (lc : Nat) (fq : Nat) (fc : Nat) (P : va_W) (nf : Nat → Int32) (lf : Nat → Int32) (lg : Nat → Option Nat) (ff : Nat → Int32) (fg : Nat → Option Nat) (p0 : Int32)  (hinv0 : NmOk P false (lf 1) (ff 1) lc fc lg fg) : MetR l y_Nam_find b_Nam_find 4 (.object "HomeSystem$Symbol") D cs 3 90 (0) (0) [.ref hn, .int p0] [wd_Nam cs hn rn no nf na ng, wd_Lst cs (rn 0) (fun _ => 0) (fun k => if k = 0 then (some lq) else none) lf (fun _ _ => 0) (fun _ _ => none), [], wd_Lst cs (rn 1) (fun _ => 0) (fun k => if k = 0 then (some fq) else none) ff (fun _ _ => 0) (fun _ _ => none), [(fq, .inl (cs 12, fc, .inr (.inr (.inr (.inr fg)))))], P] (fun _ => True) (fun v ps => (ps = [wd_Nam cs hn rn no nf na ng, wd_Lst cs (rn 0) (fun _ => 0) (fun k => if k = 0 then (some lq) else none) lf (fun _ _ => 0) (fun _ _ => none), [], wd_Lst cs (rn 1) (fun _ => 0) (fun k => if k = 0 then (some fq) else none) ff (fun _ _ => 0) (fun _ _ => none), [(fq, .inl (cs 12, fc, .inr (.inr (.inr (.inr fg)))))], P]) ∧ (Sy P v)) := by
  refine px_enter (by decide) (Nat.le_of_ble_eq_true rfl) ?_
  intro p e s m below meth c A ls hAe S hr hlk hnm hA hT hX hw hl
  replace hl : lv_has ls 4 [(0, .ref hn), (1, .int p0)] := hl
  have lp0 := Int32.le_toInt p0
  have up0 := Int32.toInt_lt p0
  have cst1 : (1 : Int32).toInt = 1 := rfl
  obtain ⟨hown, ⟨n1, n2, n3⟩, hEl, ⟨n4, n5, n6⟩, hEf⟩ := hinv0
  have hz0 : lc = 0 := hown rfl
  have J10 : ∀ (n_10 : Nat)  (x10_2 : Int32) (H : Heap) (locs : List Loc) (ls : Array Slot), (x10_2.toInt < (lf 1).toInt) → (-1 ≤ x10_2.toInt) → x10_2.toInt+2 < (n_10 : Int) → pw D A s.heap H locs [wd_Nam cs hn rn no nf na ng, wd_Lst cs (rn 0) (fun _ => 0) (fun k => if k = 0 then (some lq) else none) lf (fun _ _ => 0) (fun _ _ => none), [], wd_Lst cs (rn 1) (fun _ => 0) (fun k => if k = 0 then (some fq) else none) ff (fun _ _ => 0) (fun _ _ => none), [(fq, .inl (cs 12, fc, .inr (.inr (.inr (.inr fg)))))], P] → lv_has ls 4 [(0, .ref hn), (1, .int p0), (2, .int x10_2)] → W p l e { frames := 3, cells := 0, slots := 0, locals := 90 } s m [.ref hn, .int p0].toArray below meth c H locs 0 0 (MQ below (va_Qq (fun v ps => (ps = [wd_Nam cs hn rn no nf na ng, wd_Lst cs (rn 0) (fun _ => 0) (fun k => if k = 0 then (some lq) else none) lf (fun _ _ => 0) (fun _ _ => none), [], wd_Lst cs (rn 1) (fun _ => 0) (fun k => if k = 0 then (some fq) else none) ff (fun _ _ => 0) (fun _ _ => none), [(fq, .inl (cs 12, fc, .inr (.inr (.inr (.inr fg)))))], P]) ∧ (Sy P v)) (pc_B D (va_A ([wd_Nam cs hn rn no nf na ng, wd_Lst cs (rn 0) (fun _ => 0) (fun k => if k = 0 then (some lq) else none) lf (fun _ _ => 0) (fun _ _ => none), [], wd_Lst cs (rn 1) (fun _ => 0) (fun k => if k = 0 then (some fq) else none) ff (fun _ _ => 0) (fun _ _ => none), [(fq, .inl (cs 12, fc, .inr (.inr (.inr (.inr fg)))))], P] : List va_W).flatten s.heap.size)) (va_A ([wd_Nam cs hn rn no nf na ng, wd_Lst cs (rn 0) (fun _ => 0) (fun k => if k = 0 then (some lq) else none) lf (fun _ _ => 0) (fun _ _ => none), [], wd_Lst cs (rn 1) (fun _ => 0) (fun k => if k = 0 then (some fq) else none) ff (fun _ _ => 0) (fun _ _ => none), [(fq, .inl (cs 12, fc, .inr (.inr (.inr (.inr fg)))))], P] : List va_W).flatten s.heap.size)) [.ref hn, .int p0].toArray s 0 0 A) (F0 m 10 ls []) := by
    intro n_10
    induction n_10 with
    | zero =>
      intro x10_2 H locs ls k10_0 k10_1 hm hw hl
      have lx10_2 := Int32.le_toInt x10_2
      have ux10_2 := Int32.toInt_lt x10_2
      exact absurd hm (by omega)
    | succ n_10 ih10 =>
      intro x10_2 H locs ls k10_0 k10_1 hm hw hl
      have lx10_2 := Int32.le_toInt x10_2
      have ux10_2 := Int32.toInt_lt x10_2
      refine lv_iload_n S.x S.b d_Nam_find_10 rfl (lv_at hl 2 rfl) ?_
      refine lv_if_lt (tgt := 42) S.x S.b d_Nam_find_11 (by decide) (fun c1 => ?_) (fun c1 => ?_)
      · have nc1 : x10_2.toInt < (0 : Int) := (i_lt (x := x10_2) (y := 0)).mp c1
        refine lv_null S.x S.b d_Nam_find_42 ?_
        exact px_aret (v := none) S hr (Or.inl ⟨_, rfl⟩) hlk hAe hw (Nat.le_of_ble_eq_true rfl) (Nat.le_of_ble_eq_true rfl) (⟨rfl, (show Sy P none from (by first | assumption | exact sy_none | exact fy_none | exact Fy.sy (by assumption) | exact sy_some (by assumption)))⟩) d_Nam_find_43
      · have nc1 : ¬ x10_2.toInt < (0 : Int) := mt (i_lt (x := x10_2) (y := 0)).mpr c1
        refine lv_aload_n S.x S.b d_Nam_find_14 rfl (lv_at hl 0 rfl) ?_
        refine px_get S k_Nam hT hw 0 0 0 (v := .ref (rn 0)) rfl rfl rfl (by decide) m2_75 d_Nam_find_15 ?_
        refine lv_iload_n S.x S.b d_Nam_find_18 rfl (lv_at hl 2 rfl) ?_
        exfalso
        omega
  refine lv_aload_n S.x S.b d_Nam_find_0 rfl (lv_at hl 0 rfl) ?_
  refine px_get S k_Nam hT hw 0 0 0 (v := .ref (rn 0)) rfl rfl rfl (by decide) m2_75 d_Nam_find_1 ?_
  have hw : pw D A s.heap _ _ [wd_Nam cs hn rn no nf na ng, [], wd_Lst cs (rn 1) (fun _ => 0) (fun k => if k = 0 then (some fq) else none) ff (fun _ _ => 0) (fun _ _ => none), [(fq, .inl (cs 12, fc, .inr (.inr (.inr (.inr fg)))))], P, wd_Lst cs (rn 0) (fun _ => 0) (fun k => if k = 0 then (some lq) else none) lf (fun _ _ => 0) (fun _ _ => none)] := hw.sub [0, 2, 3, 4, 5, 1] rfl rfl
  refine px_calli (pr := [wd_Nam cs hn rn no nf na ng, [], wd_Lst cs (rn 1) (fun _ => 0) (fun k => if k = 0 then (some fq) else none) ff (fun _ _ => 0) (fun _ _ => none), [(fq, .inl (cs 12, fc, .inr (.inr (.inr (.inr fg)))))], P]) (px_runV (As := []) (rest := []) S (c_ls_size l D cs (rn 0) lq lf    _) hT (pr := [wd_Nam cs hn rn no nf na ng, [], wd_Lst cs (rn 1) (fun _ => 0) (fun k => if k = 0 then (some fq) else none) ff (fun _ _ => 0) (fun _ _ => none), [(fq, .inl (cs 12, fc, .inr (.inr (.inr (.inr fg)))))], P]) (pcs := [wd_Lst cs (rn 0) (fun _ => 0) (fun k => if k = 0 then (some lq) else none) lf (fun _ _ => 0) (fun _ _ => none)]) hw px_X.tt (px_recv hT hw 5 0 rfl rfl rfl) m4_75 m4_72 m4_73 m4_74 m1_10 q_Lst_size ⟨Nat.le_of_ble_eq_true rfl, Nat.le_of_ble_eq_true rfl⟩ hl.1 rfl (Nat.le_of_ble_eq_true rfl) d_Nam_find_4 ⟨Nat.le_of_ble_eq_true rfl, Nat.le_of_ble_eq_true rfl⟩) hw hA (fun v3 p2 H locs hp2 hw => ?_)
  obtain ⟨rfl, e4⟩ := hp2
  replace e4 : v3.toInt = (lf 1).toInt := e4
  replace hw : pw D A s.heap H locs [wd_Nam cs hn rn no nf na ng, [], wd_Lst cs (rn 1) (fun _ => 0) (fun k => if k = 0 then (some fq) else none) ff (fun _ _ => 0) (fun _ _ => none), [(fq, .inl (cs 12, fc, .inr (.inr (.inr (.inr fg)))))], P, wd_Lst cs (rn 0) (fun _ => 0) (fun k => if k = 0 then (some lq) else none) lf (fun _ _ => 0) (fun _ _ => none)] := hw
  have lv3 := Int32.le_toInt v3
  have uv3 := Int32.toInt_lt v3
  refine lv_iconst (v := 1) S.x S.b d_Nam_find_7 (by decide) ?_
  refine lv_isub S.x S.b d_Nam_find_8 ?_
  refine lv_topi (fun z5 ez5 => ?_)
  have tz5 : z5.toInt = (v3.toInt - (1 : Int) + 2147483648) % 4294967296 - 2147483648 := by rw [ez5]; exact i_sub v3 1
  have lz5 := Int32.le_toInt z5
  have uz5 := Int32.toInt_lt z5
  try replace tz5 : z5.toInt = v3.toInt - (1 : Int) := by omega
  refine lv_istore_n (lv' := [(2, .int z5), (0, .ref hn), (1, .int p0)]) S.x S.b d_Nam_find_9 rfl hl (by decide) rfl (fun ls hl => ?_)
  have hw : pw D A s.heap _ _ [wd_Nam cs hn rn no nf na ng, wd_Lst cs (rn 0) (fun _ => 0) (fun k => if k = 0 then (some lq) else none) lf (fun _ _ => 0) (fun _ _ => none), [], wd_Lst cs (rn 1) (fun _ => 0) (fun k => if k = 0 then (some fq) else none) ff (fun _ _ => 0) (fun _ _ => none), [(fq, .inl (cs 12, fc, .inr (.inr (.inr (.inr fg)))))], P] := hw.sub [0, 5, 1, 2, 3, 4] rfl rfl
  exact J10 ((z5.toInt+2).toNat + 1) z5 _ _ ls (show z5.toInt < (lf 1).toInt from by first | exact oz_c3803f0c4e e4 tz5 | omega) (show -1 ≤ z5.toInt from by first | exact oz_31ac67e034 tz5 e4 n1 | omega) (show z5.toInt+2 < ((((z5.toInt+2).toNat + 1 : Nat) : Int) : Int) from by first | exact oz_natlt | omega) hw (lv_sub hl [1, 2, 0] rfl)
set_option maxHeartbeats 4000000 in
set_option maxRecDepth 100000 in
theorem c_nm_find (l : Launch) (D : va_G) (cs : Nat → ClassId) (hn : Nat) (rn : Nat → Nat) (no : Nat → Option Nat) (na : Nat → Nat → Int32) (ng : Nat → Nat → Option Nat) (own : Bool) (lq : Nat) (lc : Nat) (fq : Nat) (fc : Nat) (P : va_W) (nf : Nat → Int32) (lf : Nat → Int32) (lg : Nat → Option Nat) (ff : Nat → Int32) (fg : Nat → Option Nat) (p0 : Int32)  (hinv0 : NmOk P own (lf 1) (ff 1) lc fc lg fg) : MetR l y_Nam_find b_Nam_find 4 (.object "HomeSystem$Symbol") D cs 3 90 (0) (0) [.ref hn, .int p0] [wd_Nam cs hn rn no nf na ng, wd_Lst cs (rn 0) (fun _ => 0) (fun k => if k = 0 then (some lq) else none) lf (fun _ _ => 0) (fun _ _ => none), lA cs own lq lc lg, wd_Lst cs (rn 1) (fun _ => 0) (fun k => if k = 0 then (some fq) else none) ff (fun _ _ => 0) (fun _ _ => none), [(fq, .inl (cs 12, fc, .inr (.inr (.inr (.inr fg)))))], P] (fun _ => True) (fun v ps => (ps = [wd_Nam cs hn rn no nf na ng, wd_Lst cs (rn 0) (fun _ => 0) (fun k => if k = 0 then (some lq) else none) lf (fun _ _ => 0) (fun _ _ => none), lA cs own lq lc lg, wd_Lst cs (rn 1) (fun _ => 0) (fun k => if k = 0 then (some fq) else none) ff (fun _ _ => 0) (fun _ _ => none), [(fq, .inl (cs 12, fc, .inr (.inr (.inr (.inr fg)))))], P]) ∧ (Sy P v)) := by
  cases own with
  | true => exact c_nm_find_T l D cs hn rn no na ng lq lc fq fc P nf lf lg ff fg p0 hinv0
  | false => exact c_nm_find_F l D cs hn rn no na ng lq lc fq fc P nf lf lg ff fg p0 hinv0
abbrev b_Nam_isKnownHere : ByteArray := prog_5_method_8_code
def y_Nam_isKnownHere : MethodName := ⟨"HomeSystem$Names", "isKnownHere", "(I)Z"⟩
theorem d_Nam_isKnownHere_0 : decode b_Nam_isKnownHere 0 = .ok (.aload_n 0, 1) := by decide +kernel
theorem d_Nam_isKnownHere_1 : decode b_Nam_isKnownHere 1 = .ok (.getfield 12, 3) := by decide +kernel
theorem d_Nam_isKnownHere_4 : decode b_Nam_isKnownHere 4 = .ok (.invokevirtual 59, 3) := by decide +kernel
theorem d_Nam_isKnownHere_7 : decode b_Nam_isKnownHere 7 = .ok (.iconst 1, 1) := by decide +kernel
theorem d_Nam_isKnownHere_8 : decode b_Nam_isKnownHere 8 = .ok (.isub, 1) := by decide +kernel
theorem d_Nam_isKnownHere_9 : decode b_Nam_isKnownHere 9 = .ok (.istore_n 2, 1) := by decide +kernel
theorem d_Nam_isKnownHere_10 : decode b_Nam_isKnownHere 10 = .ok (.iload_n 2, 1) := by decide +kernel
theorem d_Nam_isKnownHere_11 : decode b_Nam_isKnownHere 11 = .ok (.aload_n 0, 1) := by decide +kernel
theorem d_Nam_isKnownHere_12 : decode b_Nam_isKnownHere 12 = .ok (.getfield 69, 3) := by decide +kernel
theorem d_Nam_isKnownHere_15 : decode b_Nam_isKnownHere 15 = .ok (.if_icmp .lt 33, 3) := by decide +kernel
theorem d_Nam_isKnownHere_18 : decode b_Nam_isKnownHere 18 = .ok (.iload_n 2, 1) := by decide +kernel
theorem d_Nam_isKnownHere_19 : decode b_Nam_isKnownHere 19 = .ok (.ifCond .lt 29, 3) := by decide +kernel
theorem d_Nam_isKnownHere_22 : decode b_Nam_isKnownHere 22 = .ok (.aload_n 0, 1) := by decide +kernel
theorem d_Nam_isKnownHere_23 : decode b_Nam_isKnownHere 23 = .ok (.getfield 12, 3) := by decide +kernel
theorem d_Nam_isKnownHere_26 : decode b_Nam_isKnownHere 26 = .ok (.iload_n 2, 1) := by decide +kernel
theorem d_Nam_isKnownHere_27 : decode b_Nam_isKnownHere 27 = .ok (.invokevirtual 72, 3) := by decide +kernel
theorem d_Nam_isKnownHere_30 : decode b_Nam_isKnownHere 30 = .ok (.checkcast 28, 3) := by decide +kernel
theorem d_Nam_isKnownHere_33 : decode b_Nam_isKnownHere 33 = .ok (.getfield 75, 3) := by decide +kernel
theorem d_Nam_isKnownHere_36 : decode b_Nam_isKnownHere 36 = .ok (.iload_n 1, 1) := by decide +kernel
theorem d_Nam_isKnownHere_37 : decode b_Nam_isKnownHere 37 = .ok (.if_icmp .ne 5, 3) := by decide +kernel
theorem d_Nam_isKnownHere_40 : decode b_Nam_isKnownHere 40 = .ok (.iconst 1, 1) := by decide +kernel
theorem d_Nam_isKnownHere_41 : decode b_Nam_isKnownHere 41 = .ok (.ireturn, 1) := by decide +kernel
theorem d_Nam_isKnownHere_42 : decode b_Nam_isKnownHere 42 = .ok (.iinc 2 (-1), 3) := by decide +kernel
theorem d_Nam_isKnownHere_45 : decode b_Nam_isKnownHere 45 = .ok (.goto (-35), 3) := by decide +kernel
theorem d_Nam_isKnownHere_48 : decode b_Nam_isKnownHere 48 = .ok (.iconst 0, 1) := by decide +kernel
theorem d_Nam_isKnownHere_49 : decode b_Nam_isKnownHere 49 = .ok (.ireturn, 1) := by decide +kernel
theorem q_Nam_isKnownHere : px_y y_Nam_isKnownHere 1 := by unfold px_y; decide +kernel
set_option maxHeartbeats 4000000 in
set_option maxRecDepth 100000 in
theorem c_nm_isKnownHere_T (l : Launch) (D : va_G) (cs : Nat → ClassId) (hn : Nat) (rn : Nat → Nat) (no : Nat → Option Nat) (na : Nat → Nat → Int32) (ng : Nat → Nat → Option Nat) (lq : Nat) (lc : Nat) (fq : Nat) (fc : Nat) (P : va_W) (nf : Nat → Int32) (lf : Nat → Int32) (lg : Nat → Option Nat) (ff : Nat → Int32) (fg : Nat → Option Nat) (p0 : Int32)  (hinv0 : NmOk P true (lf 1) (ff 1) lc fc lg fg) : MetI l y_Nam_isKnownHere b_Nam_isKnownHere 3 (.boolean) D cs 3 90 (0) (0) [.ref hn, .int p0] [wd_Nam cs hn rn no nf na ng, wd_Lst cs (rn 0) (fun _ => 0) (fun k => if k = 0 then (some lq) else none) lf (fun _ _ => 0) (fun _ _ => none), [(lq, .inl (cs 12, lc, .inr (.inr (.inr (.inr lg)))))], wd_Lst cs (rn 1) (fun _ => 0) (fun k => if k = 0 then (some fq) else none) ff (fun _ _ => 0) (fun _ _ => none), [(fq, .inl (cs 12, fc, .inr (.inr (.inr (.inr fg)))))], P] (fun _ => True) (fun v ps => (ps = [wd_Nam cs hn rn no nf na ng, wd_Lst cs (rn 0) (fun _ => 0) (fun k => if k = 0 then (some lq) else none) lf (fun _ _ => 0) (fun _ _ => none), [(lq, .inl (cs 12, lc, .inr (.inr (.inr (.inr lg)))))], wd_Lst cs (rn 1) (fun _ => 0) (fun k => if k = 0 then (some fq) else none) ff (fun _ _ => 0) (fun _ _ => none), [(fq, .inl (cs 12, fc, .inr (.inr (.inr (.inr fg)))))], P]) ∧ (v = 0 ∨ v = 1)) := by
  refine px_enter (by decide) (Nat.le_of_ble_eq_true rfl) ?_
  intro p e s m below meth c A ls hAe S hr hlk hnm hA hT hX hw hl
  replace hl : lv_has ls 3 [(0, .ref hn), (1, .int p0)] := hl
  have lp0 := Int32.le_toInt p0
  have up0 := Int32.toInt_lt p0
  have cst0 : (0 : Int32).toInt = 0 := rfl
  have cst1 : (1 : Int32).toInt = 1 := rfl
  obtain ⟨hown, ⟨n1, n2, n3⟩, hEl, ⟨n4, n5, n6⟩, hEf⟩ := hinv0
  have J10 : ∀ (n_10 : Nat)  (x10_2 : Int32) (H : Heap) (locs : List Loc) (ls : Array Slot), (x10_2.toInt < (lf 1).toInt) → (-1 ≤ x10_2.toInt) → x10_2.toInt+2 < (n_10 : Int) → pw D A s.heap H locs [wd_Nam cs hn rn no nf na ng, wd_Lst cs (rn 0) (fun _ => 0) (fun k => if k = 0 then (some lq) else none) lf (fun _ _ => 0) (fun _ _ => none), [(lq, .inl (cs 12, lc, .inr (.inr (.inr (.inr lg)))))], wd_Lst cs (rn 1) (fun _ => 0) (fun k => if k = 0 then (some fq) else none) ff (fun _ _ => 0) (fun _ _ => none), [(fq, .inl (cs 12, fc, .inr (.inr (.inr (.inr fg)))))], P] → lv_has ls 3 [(0, .ref hn), (1, .int p0), (2, .int x10_2)] → W p l e { frames := 3, cells := 0, slots := 0, locals := 90 } s m [.ref hn, .int p0].toArray below meth c H locs 0 0 (MQ below (va_Qi (fun v ps => (ps = [wd_Nam cs hn rn no nf na ng, wd_Lst cs (rn 0) (fun _ => 0) (fun k => if k = 0 then (some lq) else none) lf (fun _ _ => 0) (fun _ _ => none), [(lq, .inl (cs 12, lc, .inr (.inr (.inr (.inr lg)))))], wd_Lst cs (rn 1) (fun _ => 0) (fun k => if k = 0 then (some fq) else none) ff (fun _ _ => 0) (fun _ _ => none), [(fq, .inl (cs 12, fc, .inr (.inr (.inr (.inr fg)))))], P]) ∧ (v = 0 ∨ v = 1)) (pc_B D (va_A ([wd_Nam cs hn rn no nf na ng, wd_Lst cs (rn 0) (fun _ => 0) (fun k => if k = 0 then (some lq) else none) lf (fun _ _ => 0) (fun _ _ => none), [(lq, .inl (cs 12, lc, .inr (.inr (.inr (.inr lg)))))], wd_Lst cs (rn 1) (fun _ => 0) (fun k => if k = 0 then (some fq) else none) ff (fun _ _ => 0) (fun _ _ => none), [(fq, .inl (cs 12, fc, .inr (.inr (.inr (.inr fg)))))], P] : List va_W).flatten s.heap.size)) (va_A ([wd_Nam cs hn rn no nf na ng, wd_Lst cs (rn 0) (fun _ => 0) (fun k => if k = 0 then (some lq) else none) lf (fun _ _ => 0) (fun _ _ => none), [(lq, .inl (cs 12, lc, .inr (.inr (.inr (.inr lg)))))], wd_Lst cs (rn 1) (fun _ => 0) (fun k => if k = 0 then (some fq) else none) ff (fun _ _ => 0) (fun _ _ => none), [(fq, .inl (cs 12, fc, .inr (.inr (.inr (.inr fg)))))], P] : List va_W).flatten s.heap.size)) [.ref hn, .int p0].toArray s 0 0 A) (F0 m 10 ls []) := by
    intro n_10
    induction n_10 with
    | zero =>
      intro x10_2 H locs ls k10_0 k10_1 hm hw hl
      have lx10_2 := Int32.le_toInt x10_2
      have ux10_2 := Int32.toInt_lt x10_2
      exact absurd hm (by omega)
    | succ n_10 ih10 =>
      intro x10_2 H locs ls k10_0 k10_1 hm hw hl
      have lx10_2 := Int32.le_toInt x10_2
      have ux10_2 := Int32.toInt_lt x10_2
      refine lv_iload_n S.x S.b d_Nam_isKnownHere_10 rfl (lv_at hl 2 rfl) ?_
      refine lv_aload_n S.x S.b d_Nam_isKnownHere_11 rfl (lv_at hl 0 rfl) ?_
      refine px_get S k_Nam hT hw 0 0 4 (v := .int (nf 4)) rfl rfl rfl (by decide) m2_79 d_Nam_isKnownHere_12 ?_
      refine lv_icmp_lt (tgt := 48) S.x S.b d_Nam_isKnownHere_15 (by decide) (fun c1 => ?_) (fun c1 => ?_)
      · have nc1 : x10_2.toInt < (nf 4).toInt := (i_lt (x := x10_2) (y := (nf 4))).mp c1
        refine lv_iconst (v := 0) S.x S.b d_Nam_isKnownHere_48 (by decide) ?_
        exact px_iret (v := 0) S hr rfl hlk hAe hw (Nat.le_of_ble_eq_true rfl) (Nat.le_of_ble_eq_true rfl) (⟨rfl, (show (0 : Int32) = 0 ∨ (0 : Int32) = 1 from by first | exact Or.inl rfl | exact Or.inr rfl | exact z_or (by omega))⟩) d_Nam_isKnownHere_49
      · have nc1 : ¬ x10_2.toInt < (nf 4).toInt := mt (i_lt (x := x10_2) (y := (nf 4))).mpr c1
        refine lv_iload_n S.x S.b d_Nam_isKnownHere_18 rfl (lv_at hl 2 rfl) ?_
        refine lv_if_lt (tgt := 48) S.x S.b d_Nam_isKnownHere_19 (by decide) (fun c2 => ?_) (fun c2 => ?_)
        · have nc2 : x10_2.toInt < (0 : Int) := (i_lt (x := x10_2) (y := 0)).mp c2
          refine lv_iconst (v := 0) S.x S.b d_Nam_isKnownHere_48 (by decide) ?_
          exact px_iret (v := 0) S hr rfl hlk hAe hw (Nat.le_of_ble_eq_true rfl) (Nat.le_of_ble_eq_true rfl) (⟨rfl, (show (0 : Int32) = 0 ∨ (0 : Int32) = 1 from by first | exact Or.inl rfl | exact Or.inr rfl | exact z_or (by omega))⟩) d_Nam_isKnownHere_49
        · have nc2 : ¬ x10_2.toInt < (0 : Int) := mt (i_lt (x := x10_2) (y := 0)).mpr c2
          refine lv_aload_n S.x S.b d_Nam_isKnownHere_22 rfl (lv_at hl 0 rfl) ?_
          refine px_get S k_Nam hT hw 0 0 0 (v := .ref (rn 0)) rfl rfl rfl (by decide) m2_75 d_Nam_isKnownHere_23 ?_
          refine lv_iload_n S.x S.b d_Nam_isKnownHere_26 rfl (lv_at hl 2 rfl) ?_
          have hw : pw D A s.heap _ _ [wd_Nam cs hn rn no nf na ng, wd_Lst cs (rn 1) (fun _ => 0) (fun k => if k = 0 then (some fq) else none) ff (fun _ _ => 0) (fun _ _ => none), [(fq, .inl (cs 12, fc, .inr (.inr (.inr (.inr fg)))))], P, wd_Lst cs (rn 0) (fun _ => 0) (fun k => if k = 0 then (some lq) else none) lf (fun _ _ => 0) (fun _ _ => none), [(lq, .inl (cs 12, lc, .inr (.inr (.inr (.inr lg)))))]] := hw.sub [0, 3, 4, 5, 1, 2] rfl rfl
          refine px_callq (pr := [wd_Nam cs hn rn no nf na ng, wd_Lst cs (rn 1) (fun _ => 0) (fun k => if k = 0 then (some fq) else none) ff (fun _ _ => 0) (fun _ _ => none), [(fq, .inl (cs 12, fc, .inr (.inr (.inr (.inr fg)))))], P]) (px_runV (As := [.int x10_2]) (rest := []) S (c_Lst_get l D cs (rn 0) lq lc lf lg x10_2  (show lc ≤ 1000000 from by first | exact n3 | omega) (show 0 ≤ (lf 1).toInt from by first | exact n1 | omega) (show (lf 1).toInt ≤ (lc : Int) from by first | exact n2 | omega) (show 0 ≤ x10_2.toInt from by first | exact oz_18a5c06a28 nc2 | omega) (show x10_2.toInt < (lf 1).toInt from by first | exact k10_0 | omega) _) hT (pr := [wd_Nam cs hn rn no nf na ng, wd_Lst cs (rn 1) (fun _ => 0) (fun k => if k = 0 then (some fq) else none) ff (fun _ _ => 0) (fun _ _ => none), [(fq, .inl (cs 12, fc, .inr (.inr (.inr (.inr fg)))))], P]) (pcs := [wd_Lst cs (rn 0) (fun _ => 0) (fun k => if k = 0 then (some lq) else none) lf (fun _ _ => 0) (fun _ _ => none), [(lq, .inl (cs 12, lc, .inr (.inr (.inr (.inr lg)))))]]) hw px_X.tt (px_recv hT hw 4 0 rfl rfl rfl) m5_22 m5_19 m5_20 m5_21 m1_10 q_Lst_get ⟨Nat.le_of_ble_eq_true rfl, Nat.le_of_ble_eq_true rfl⟩ hl.1 rfl (Nat.le_of_ble_eq_true rfl) d_Nam_isKnownHere_27 ⟨Nat.le_of_ble_eq_true rfl, Nat.le_of_ble_eq_true rfl⟩) hw hA (fun v4 p3 H locs hp3 hw => ?_)
          obtain ⟨rfl, e5⟩ := hp3
          subst e5
          replace hw : pw D A s.heap H locs [wd_Nam cs hn rn no nf na ng, wd_Lst cs (rn 1) (fun _ => 0) (fun k => if k = 0 then (some fq) else none) ff (fun _ _ => 0) (fun _ _ => none), [(fq, .inl (cs 12, fc, .inr (.inr (.inr (.inr fg)))))], P, wd_Lst cs (rn 0) (fun _ => 0) (fun k => if k = 0 then (some lq) else none) lf (fun _ _ => 0) (fun _ _ => none), [(lq, .inl (cs 12, lc, .inr (.inr (.inr (.inr lg)))))]] := hw
          obtain ⟨q6, eq6, hq6⟩ := hEl.at (x := x10_2) (by omega) (by omega); rw [eq6]
          obtain ⟨j7, s8, hj9⟩ := (show Sy P (some q6) by first | assumption | exact Fy.sy (by assumption)).at
          refine px_castP S hT hw 3 j7 rfl hj9 rfl m1_202 m14_232n d_Nam_isKnownHere_30 ?_
          refine px_get S k_Sym hT hw 3 j7 0 (v := .int (s8 0)) rfl hj9 rfl (by decide) m1_209 d_Nam_isKnownHere_33 ?_
          refine lv_iload_n S.x S.b d_Nam_isKnownHere_36 rfl (lv_at hl 1 rfl) ?_
          refine lv_icmp_ne (tgt := 42) S.x S.b d_Nam_isKnownHere_37 (by decide) (fun c10 => ?_) (fun c10 => ?_)
          · have nc10 : ¬ (s8 0).toInt = p0.toInt := mt (i_eq (x := (s8 0)) (y := p0)).mpr c10
            obtain ⟨z11, ez11⟩ : ∃ y : Int32, y = x10_2 + (-1) := ⟨_, rfl⟩
            have tz11 : z11.toInt = (x10_2.toInt + (-1) + 2147483648) % 4294967296 - 2147483648 := by rw [ez11]; exact i_add x10_2 (-1)
            have lz11 := Int32.le_toInt z11
            have uz11 := Int32.toInt_lt z11
            try replace tz11 : z11.toInt = x10_2.toInt + (-1) := by omega
            refine lv_iinc (v := z11) (lv' := [(2, .int z11), (0, .ref hn), (1, .int p0)]) S.x S.b d_Nam_isKnownHere_42 hl (k := 2) rfl (by rw [ez11]; rfl) (by decide) rfl (fun ls hl => ?_)
            refine lv_goto (tgt := 10) S.x S.b d_Nam_isKnownHere_45 (by decide) ?_
            have hw : pw D A s.heap _ _ [wd_Nam cs hn rn no nf na ng, wd_Lst cs (rn 0) (fun _ => 0) (fun k => if k = 0 then (some lq) else none) lf (fun _ _ => 0) (fun _ _ => none), [(lq, .inl (cs 12, lc, .inr (.inr (.inr (.inr lg)))))], wd_Lst cs (rn 1) (fun _ => 0) (fun k => if k = 0 then (some fq) else none) ff (fun _ _ => 0) (fun _ _ => none), [(fq, .inl (cs 12, fc, .inr (.inr (.inr (.inr fg)))))], P] := hw.sub [0, 4, 5, 1, 2, 3] rfl rfl
            exact ih10 z11 _ _ ls (show z11.toInt < (lf 1).toInt from by first | exact oz_e9273f1cf5 k10_0 tz11 | omega) (show -1 ≤ z11.toInt from by first | exact oz_d2e73a1b11 tz11 nc2 | omega) (show z11.toInt+2 < (n_10 : Int) from by first | exact oz_ed4f025f7d hm tz11 | omega) hw (lv_sub hl [1, 2, 0] rfl)
          · have nc10 : (s8 0).toInt = p0.toInt := (i_eq (x := (s8 0)) (y := p0)).mp c10
            refine lv_iconst (v := 1) S.x S.b d_Nam_isKnownHere_40 (by decide) ?_
            have hw : pw D A s.heap _ _ [wd_Nam cs hn rn no nf na ng, wd_Lst cs (rn 0) (fun _ => 0) (fun k => if k = 0 then (some lq) else none) lf (fun _ _ => 0) (fun _ _ => none), [(lq, .inl (cs 12, lc, .inr (.inr (.inr (.inr lg)))))], wd_Lst cs (rn 1) (fun _ => 0) (fun k => if k = 0 then (some fq) else none) ff (fun _ _ => 0) (fun _ _ => none), [(fq, .inl (cs 12, fc, .inr (.inr (.inr (.inr fg)))))], P] := hw.sub [0, 4, 5, 1, 2, 3] rfl rfl
            exact px_iret (v := 1) S hr rfl hlk hAe hw (Nat.le_of_ble_eq_true rfl) (Nat.le_of_ble_eq_true rfl) (⟨rfl, (show (1 : Int32) = 0 ∨ (1 : Int32) = 1 from by first | exact Or.inl rfl | exact Or.inr rfl | exact z_or (by omega))⟩) d_Nam_isKnownHere_41
  refine lv_aload_n S.x S.b d_Nam_isKnownHere_0 rfl (lv_at hl 0 rfl) ?_
  refine px_get S k_Nam hT hw 0 0 0 (v := .ref (rn 0)) rfl rfl rfl (by decide) m2_75 d_Nam_isKnownHere_1 ?_
  have hw : pw D A s.heap _ _ [wd_Nam cs hn rn no nf na ng, [(lq, .inl (cs 12, lc, .inr (.inr (.inr (.inr lg)))))], wd_Lst cs (rn 1) (fun _ => 0) (fun k => if k = 0 then (some fq) else none) ff (fun _ _ => 0) (fun _ _ => none), [(fq, .inl (cs 12, fc, .inr (.inr (.inr (.inr fg)))))], P, wd_Lst cs (rn 0) (fun _ => 0) (fun k => if k = 0 then (some lq) else none) lf (fun _ _ => 0) (fun _ _ => none)] := hw.sub [0, 2, 3, 4, 5, 1] rfl rfl
  refine px_calli (pr := [wd_Nam cs hn rn no nf na ng, [(lq, .inl (cs 12, lc, .inr (.inr (.inr (.inr lg)))))], wd_Lst cs (rn 1) (fun _ => 0) (fun k => if k = 0 then (some fq) else none) ff (fun _ _ => 0) (fun _ _ => none), [(fq, .inl (cs 12, fc, .inr (.inr (.inr (.inr fg)))))], P]) (px_runV (As := []) (rest := []) S (c_ls_size l D cs (rn 0) lq lf    _) hT (pr := [wd_Nam cs hn rn no nf na ng, [(lq, .inl (cs 12, lc, .inr (.inr (.inr (.inr lg)))))], wd_Lst cs (rn 1) (fun _ => 0) (fun k => if k = 0 then (some fq) else none) ff (fun _ _ => 0) (fun _ _ => none), [(fq, .inl (cs 12, fc, .inr (.inr (.inr (.inr fg)))))], P]) (pcs := [wd_Lst cs (rn 0) (fun _ => 0) (fun k => if k = 0 then (some lq) else none) lf (fun _ _ => 0) (fun _ _ => none)]) hw px_X.tt (px_recv hT hw 5 0 rfl rfl rfl) m4_75 m4_72 m4_73 m4_74 m1_10 q_Lst_size ⟨Nat.le_of_ble_eq_true rfl, Nat.le_of_ble_eq_true rfl⟩ hl.1 rfl (Nat.le_of_ble_eq_true rfl) d_Nam_isKnownHere_4 ⟨Nat.le_of_ble_eq_true rfl, Nat.le_of_ble_eq_true rfl⟩) hw hA (fun v13 p12 H locs hp12 hw => ?_)
  obtain ⟨rfl, e14⟩ := hp12
  replace e14 : v13.toInt = (lf 1).toInt := e14
  replace hw : pw D A s.heap H locs [wd_Nam cs hn rn no nf na ng, [(lq, .inl (cs 12, lc, .inr (.inr (.inr (.inr lg)))))], wd_Lst cs (rn 1) (fun _ => 0) (fun k => if k = 0 then (some fq) else none) ff (fun _ _ => 0) (fun _ _ => none), [(fq, .inl (cs 12, fc, .inr (.inr (.inr (.inr fg)))))], P, wd_Lst cs (rn 0) (fun _ => 0) (fun k => if k = 0 then (some lq) else none) lf (fun _ _ => 0) (fun _ _ => none)] := hw
  have lv13 := Int32.le_toInt v13
  have uv13 := Int32.toInt_lt v13
  refine lv_iconst (v := 1) S.x S.b d_Nam_isKnownHere_7 (by decide) ?_
  refine lv_isub S.x S.b d_Nam_isKnownHere_8 ?_
  refine lv_topi (fun z15 ez15 => ?_)
  have tz15 : z15.toInt = (v13.toInt - (1 : Int) + 2147483648) % 4294967296 - 2147483648 := by rw [ez15]; exact i_sub v13 1
  have lz15 := Int32.le_toInt z15
  have uz15 := Int32.toInt_lt z15
  try replace tz15 : z15.toInt = v13.toInt - (1 : Int) := by omega
  refine lv_istore_n (lv' := [(2, .int z15), (0, .ref hn), (1, .int p0)]) S.x S.b d_Nam_isKnownHere_9 rfl hl (by decide) rfl (fun ls hl => ?_)
  have hw : pw D A s.heap _ _ [wd_Nam cs hn rn no nf na ng, wd_Lst cs (rn 0) (fun _ => 0) (fun k => if k = 0 then (some lq) else none) lf (fun _ _ => 0) (fun _ _ => none), [(lq, .inl (cs 12, lc, .inr (.inr (.inr (.inr lg)))))], wd_Lst cs (rn 1) (fun _ => 0) (fun k => if k = 0 then (some fq) else none) ff (fun _ _ => 0) (fun _ _ => none), [(fq, .inl (cs 12, fc, .inr (.inr (.inr (.inr fg)))))], P] := hw.sub [0, 5, 1, 2, 3, 4] rfl rfl
  exact J10 ((z15.toInt+2).toNat + 1) z15 _ _ ls (show z15.toInt < (lf 1).toInt from by first | exact oz_c3803f0c4e e14 tz15 | omega) (show -1 ≤ z15.toInt from by first | exact oz_31ac67e034 tz15 e14 n1 | omega) (show z15.toInt+2 < ((((z15.toInt+2).toNat + 1 : Nat) : Int) : Int) from by first | exact oz_natlt | omega) hw (lv_sub hl [1, 2, 0] rfl)
set_option maxHeartbeats 4000000 in
set_option maxRecDepth 100000 in
theorem c_nm_isKnownHere_F (l : Launch) (D : va_G) (cs : Nat → ClassId) (hn : Nat) (rn : Nat → Nat) (no : Nat → Option Nat) (na : Nat → Nat → Int32) (ng : Nat → Nat → Option Nat) (lq : Nat) (lc : Nat) (fq : Nat) (fc : Nat) (P : va_W) (nf : Nat → Int32) (lf : Nat → Int32) (lg : Nat → Option Nat) (ff : Nat → Int32) (fg : Nat → Option Nat) (p0 : Int32)  (hinv0 : NmOk P false (lf 1) (ff 1) lc fc lg fg) : MetI l y_Nam_isKnownHere b_Nam_isKnownHere 3 (.boolean) D cs 3 90 (0) (0) [.ref hn, .int p0] [wd_Nam cs hn rn no nf na ng, wd_Lst cs (rn 0) (fun _ => 0) (fun k => if k = 0 then (some lq) else none) lf (fun _ _ => 0) (fun _ _ => none), [], wd_Lst cs (rn 1) (fun _ => 0) (fun k => if k = 0 then (some fq) else none) ff (fun _ _ => 0) (fun _ _ => none), [(fq, .inl (cs 12, fc, .inr (.inr (.inr (.inr fg)))))], P] (fun _ => True) (fun v ps => (ps = [wd_Nam cs hn rn no nf na ng, wd_Lst cs (rn 0) (fun _ => 0) (fun k => if k = 0 then (some lq) else none) lf (fun _ _ => 0) (fun _ _ => none), [], wd_Lst cs (rn 1) (fun _ => 0) (fun k => if k = 0 then (some fq) else none) ff (fun _ _ => 0) (fun _ _ => none), [(fq, .inl (cs 12, fc, .inr (.inr (.inr (.inr fg)))))], P]) ∧ (v = 0 ∨ v = 1)) := by
  refine px_enter (by decide) (Nat.le_of_ble_eq_true rfl) ?_
  intro p e s m below meth c A ls hAe S hr hlk hnm hA hT hX hw hl
  replace hl : lv_has ls 3 [(0, .ref hn), (1, .int p0)] := hl
  have lp0 := Int32.le_toInt p0
  have up0 := Int32.toInt_lt p0
  have cst0 : (0 : Int32).toInt = 0 := rfl
  have cst1 : (1 : Int32).toInt = 1 := rfl
  obtain ⟨hown, ⟨n1, n2, n3⟩, hEl, ⟨n4, n5, n6⟩, hEf⟩ := hinv0
  have hz0 : lc = 0 := hown rfl
  have J10 : ∀ (n_10 : Nat)  (x10_2 : Int32) (H : Heap) (locs : List Loc) (ls : Array Slot), (x10_2.toInt < (lf 1).toInt) → (-1 ≤ x10_2.toInt) → x10_2.toInt+2 < (n_10 : Int) → pw D A s.heap H locs [wd_Nam cs hn rn no nf na ng, wd_Lst cs (rn 0) (fun _ => 0) (fun k => if k = 0 then (some lq) else none) lf (fun _ _ => 0) (fun _ _ => none), [], wd_Lst cs (rn 1) (fun _ => 0) (fun k => if k = 0 then (some fq) else none) ff (fun _ _ => 0) (fun _ _ => none), [(fq, .inl (cs 12, fc, .inr (.inr (.inr (.inr fg)))))], P] → lv_has ls 3 [(0, .ref hn), (1, .int p0), (2, .int x10_2)] → W p l e { frames := 3, cells := 0, slots := 0, locals := 90 } s m [.ref hn, .int p0].toArray below meth c H locs 0 0 (MQ below (va_Qi (fun v ps => (ps = [wd_Nam cs hn rn no nf na ng, wd_Lst cs (rn 0) (fun _ => 0) (fun k => if k = 0 then (some lq) else none) lf (fun _ _ => 0) (fun _ _ => none), [], wd_Lst cs (rn 1) (fun _ => 0) (fun k => if k = 0 then (some fq) else none) ff (fun _ _ => 0) (fun _ _ => none), [(fq, .inl (cs 12, fc, .inr (.inr (.inr (.inr fg)))))], P]) ∧ (v = 0 ∨ v = 1)) (pc_B D (va_A ([wd_Nam cs hn rn no nf na ng, wd_Lst cs (rn 0) (fun _ => 0) (fun k => if k = 0 then (some lq) else none) lf (fun _ _ => 0) (fun _ _ => none), [], wd_Lst cs (rn 1) (fun _ => 0) (fun k => if k = 0 then (some fq) else none) ff (fun _ _ => 0) (fun _ _ => none), [(fq, .inl (cs 12, fc, .inr (.inr (.inr (.inr fg)))))], P] : List va_W).flatten s.heap.size)) (va_A ([wd_Nam cs hn rn no nf na ng, wd_Lst cs (rn 0) (fun _ => 0) (fun k => if k = 0 then (some lq) else none) lf (fun _ _ => 0) (fun _ _ => none), [], wd_Lst cs (rn 1) (fun _ => 0) (fun k => if k = 0 then (some fq) else none) ff (fun _ _ => 0) (fun _ _ => none), [(fq, .inl (cs 12, fc, .inr (.inr (.inr (.inr fg)))))], P] : List va_W).flatten s.heap.size)) [.ref hn, .int p0].toArray s 0 0 A) (F0 m 10 ls []) := by
    intro n_10
    induction n_10 with
    | zero =>
      intro x10_2 H locs ls k10_0 k10_1 hm hw hl
      have lx10_2 := Int32.le_toInt x10_2
      have ux10_2 := Int32.toInt_lt x10_2
      exact absurd hm (by omega)
    | succ n_10 ih10 =>
      intro x10_2 H locs ls k10_0 k10_1 hm hw hl
      have lx10_2 := Int32.le_toInt x10_2
      have ux10_2 := Int32.toInt_lt x10_2
      refine lv_iload_n S.x S.b d_Nam_isKnownHere_10 rfl (lv_at hl 2 rfl) ?_
      refine lv_aload_n S.x S.b d_Nam_isKnownHere_11 rfl (lv_at hl 0 rfl) ?_
      refine px_get S k_Nam hT hw 0 0 4 (v := .int (nf 4)) rfl rfl rfl (by decide) m2_79 d_Nam_isKnownHere_12 ?_
      refine lv_icmp_lt (tgt := 48) S.x S.b d_Nam_isKnownHere_15 (by decide) (fun c1 => ?_) (fun c1 => ?_)
      · have nc1 : x10_2.toInt < (nf 4).toInt := (i_lt (x := x10_2) (y := (nf 4))).mp c1
        refine lv_iconst (v := 0) S.x S.b d_Nam_isKnownHere_48 (by decide) ?_
        exact px_iret (v := 0) S hr rfl hlk hAe hw (Nat.le_of_ble_eq_true rfl) (Nat.le_of_ble_eq_true rfl) (⟨rfl, (show (0 : Int32) = 0 ∨ (0 : Int32) = 1 from by first | exact Or.inl rfl | exact Or.inr rfl | exact z_or (by omega))⟩) d_Nam_isKnownHere_49
      · have nc1 : ¬ x10_2.toInt < (nf 4).toInt := mt (i_lt (x := x10_2) (y := (nf 4))).mpr c1
        refine lv_iload_n S.x S.b d_Nam_isKnownHere_18 rfl (lv_at hl 2 rfl) ?_
        refine lv_if_lt (tgt := 48) S.x S.b d_Nam_isKnownHere_19 (by decide) (fun c2 => ?_) (fun c2 => ?_)
        · have nc2 : x10_2.toInt < (0 : Int) := (i_lt (x := x10_2) (y := 0)).mp c2
          refine lv_iconst (v := 0) S.x S.b d_Nam_isKnownHere_48 (by decide) ?_
          exact px_iret (v := 0) S hr rfl hlk hAe hw (Nat.le_of_ble_eq_true rfl) (Nat.le_of_ble_eq_true rfl) (⟨rfl, (show (0 : Int32) = 0 ∨ (0 : Int32) = 1 from by first | exact Or.inl rfl | exact Or.inr rfl | exact z_or (by omega))⟩) d_Nam_isKnownHere_49
        · have nc2 : ¬ x10_2.toInt < (0 : Int) := mt (i_lt (x := x10_2) (y := 0)).mpr c2
          refine lv_aload_n S.x S.b d_Nam_isKnownHere_22 rfl (lv_at hl 0 rfl) ?_
          refine px_get S k_Nam hT hw 0 0 0 (v := .ref (rn 0)) rfl rfl rfl (by decide) m2_75 d_Nam_isKnownHere_23 ?_
          refine lv_iload_n S.x S.b d_Nam_isKnownHere_26 rfl (lv_at hl 2 rfl) ?_
          exfalso
          omega
  refine lv_aload_n S.x S.b d_Nam_isKnownHere_0 rfl (lv_at hl 0 rfl) ?_
  refine px_get S k_Nam hT hw 0 0 0 (v := .ref (rn 0)) rfl rfl rfl (by decide) m2_75 d_Nam_isKnownHere_1 ?_
  have hw : pw D A s.heap _ _ [wd_Nam cs hn rn no nf na ng, [], wd_Lst cs (rn 1) (fun _ => 0) (fun k => if k = 0 then (some fq) else none) ff (fun _ _ => 0) (fun _ _ => none), [(fq, .inl (cs 12, fc, .inr (.inr (.inr (.inr fg)))))], P, wd_Lst cs (rn 0) (fun _ => 0) (fun k => if k = 0 then (some lq) else none) lf (fun _ _ => 0) (fun _ _ => none)] := hw.sub [0, 2, 3, 4, 5, 1] rfl rfl
  refine px_calli (pr := [wd_Nam cs hn rn no nf na ng, [], wd_Lst cs (rn 1) (fun _ => 0) (fun k => if k = 0 then (some fq) else none) ff (fun _ _ => 0) (fun _ _ => none), [(fq, .inl (cs 12, fc, .inr (.inr (.inr (.inr fg)))))], P]) (px_runV (As := []) (rest := []) S (c_ls_size l D cs (rn 0) lq lf    _) hT (pr := [wd_Nam cs hn rn no nf na ng, [], wd_Lst cs (rn 1) (fun _ => 0) (fun k => if k = 0 then (some fq) else none) ff (fun _ _ => 0) (fun _ _ => none), [(fq, .inl (cs 12, fc, .inr (.inr (.inr (.inr fg)))))], P]) (pcs := [wd_Lst cs (rn 0) (fun _ => 0) (fun k => if k = 0 then (some lq) else none) lf (fun _ _ => 0) (fun _ _ => none)]) hw px_X.tt (px_recv hT hw 5 0 rfl rfl rfl) m4_75 m4_72 m4_73 m4_74 m1_10 q_Lst_size ⟨Nat.le_of_ble_eq_true rfl, Nat.le_of_ble_eq_true rfl⟩ hl.1 rfl (Nat.le_of_ble_eq_true rfl) d_Nam_isKnownHere_4 ⟨Nat.le_of_ble_eq_true rfl, Nat.le_of_ble_eq_true rfl⟩) hw hA (fun v4 p3 H locs hp3 hw => ?_)
  obtain ⟨rfl, e5⟩ := hp3
  replace e5 : v4.toInt = (lf 1).toInt := e5
  replace hw : pw D A s.heap H locs [wd_Nam cs hn rn no nf na ng, [], wd_Lst cs (rn 1) (fun _ => 0) (fun k => if k = 0 then (some fq) else none) ff (fun _ _ => 0) (fun _ _ => none), [(fq, .inl (cs 12, fc, .inr (.inr (.inr (.inr fg)))))], P, wd_Lst cs (rn 0) (fun _ => 0) (fun k => if k = 0 then (some lq) else none) lf (fun _ _ => 0) (fun _ _ => none)] := hw
  have lv4 := Int32.le_toInt v4
  have uv4 := Int32.toInt_lt v4
  refine lv_iconst (v := 1) S.x S.b d_Nam_isKnownHere_7 (by decide) ?_
  refine lv_isub S.x S.b d_Nam_isKnownHere_8 ?_
  refine lv_topi (fun z6 ez6 => ?_)
  have tz6 : z6.toInt = (v4.toInt - (1 : Int) + 2147483648) % 4294967296 - 2147483648 := by rw [ez6]; exact i_sub v4 1
  have lz6 := Int32.le_toInt z6
  have uz6 := Int32.toInt_lt z6
  try replace tz6 : z6.toInt = v4.toInt - (1 : Int) := by omega
  refine lv_istore_n (lv' := [(2, .int z6), (0, .ref hn), (1, .int p0)]) S.x S.b d_Nam_isKnownHere_9 rfl hl (by decide) rfl (fun ls hl => ?_)
  have hw : pw D A s.heap _ _ [wd_Nam cs hn rn no nf na ng, wd_Lst cs (rn 0) (fun _ => 0) (fun k => if k = 0 then (some lq) else none) lf (fun _ _ => 0) (fun _ _ => none), [], wd_Lst cs (rn 1) (fun _ => 0) (fun k => if k = 0 then (some fq) else none) ff (fun _ _ => 0) (fun _ _ => none), [(fq, .inl (cs 12, fc, .inr (.inr (.inr (.inr fg)))))], P] := hw.sub [0, 5, 1, 2, 3, 4] rfl rfl
  exact J10 ((z6.toInt+2).toNat + 1) z6 _ _ ls (show z6.toInt < (lf 1).toInt from by first | exact oz_c3803f0c4e e5 tz6 | omega) (show -1 ≤ z6.toInt from by first | exact oz_31ac67e034 tz6 e5 n1 | omega) (show z6.toInt+2 < ((((z6.toInt+2).toNat + 1 : Nat) : Int) : Int) from by first | exact oz_natlt | omega) hw (lv_sub hl [1, 2, 0] rfl)
set_option maxHeartbeats 4000000 in
set_option maxRecDepth 100000 in
theorem c_nm_isKnownHere (l : Launch) (D : va_G) (cs : Nat → ClassId) (hn : Nat) (rn : Nat → Nat) (no : Nat → Option Nat) (na : Nat → Nat → Int32) (ng : Nat → Nat → Option Nat) (own : Bool) (lq : Nat) (lc : Nat) (fq : Nat) (fc : Nat) (P : va_W) (nf : Nat → Int32) (lf : Nat → Int32) (lg : Nat → Option Nat) (ff : Nat → Int32) (fg : Nat → Option Nat) (p0 : Int32)  (hinv0 : NmOk P own (lf 1) (ff 1) lc fc lg fg) : MetI l y_Nam_isKnownHere b_Nam_isKnownHere 3 (.boolean) D cs 3 90 (0) (0) [.ref hn, .int p0] [wd_Nam cs hn rn no nf na ng, wd_Lst cs (rn 0) (fun _ => 0) (fun k => if k = 0 then (some lq) else none) lf (fun _ _ => 0) (fun _ _ => none), lA cs own lq lc lg, wd_Lst cs (rn 1) (fun _ => 0) (fun k => if k = 0 then (some fq) else none) ff (fun _ _ => 0) (fun _ _ => none), [(fq, .inl (cs 12, fc, .inr (.inr (.inr (.inr fg)))))], P] (fun _ => True) (fun v ps => (ps = [wd_Nam cs hn rn no nf na ng, wd_Lst cs (rn 0) (fun _ => 0) (fun k => if k = 0 then (some lq) else none) lf (fun _ _ => 0) (fun _ _ => none), lA cs own lq lc lg, wd_Lst cs (rn 1) (fun _ => 0) (fun k => if k = 0 then (some fq) else none) ff (fun _ _ => 0) (fun _ _ => none), [(fq, .inl (cs 12, fc, .inr (.inr (.inr (.inr fg)))))], P]) ∧ (v = 0 ∨ v = 1)) := by
  cases own with
  | true => exact c_nm_isKnownHere_T l D cs hn rn no na ng lq lc fq fc P nf lf lg ff fg p0 hinv0
  | false => exact c_nm_isKnownHere_F l D cs hn rn no na ng lq lc fq fc P nf lf lg ff fg p0 hinv0
abbrev b_Nam_function : ByteArray := prog_5_method_7_code
def y_Nam_function : MethodName := ⟨"HomeSystem$Names", "function", "(I)LHomeSystem$Symbol;"⟩
theorem d_Nam_function_0 : decode b_Nam_function 0 = .ok (.iconst 0, 1) := by decide +kernel
theorem d_Nam_function_1 : decode b_Nam_function 1 = .ok (.istore_n 2, 1) := by decide +kernel
theorem d_Nam_function_2 : decode b_Nam_function 2 = .ok (.iload_n 2, 1) := by decide +kernel
theorem d_Nam_function_3 : decode b_Nam_function 3 = .ok (.aload_n 0, 1) := by decide +kernel
theorem d_Nam_function_4 : decode b_Nam_function 4 = .ok (.getfield 18, 3) := by decide +kernel
theorem d_Nam_function_7 : decode b_Nam_function 7 = .ok (.invokevirtual 59, 3) := by decide +kernel
theorem d_Nam_function_10 : decode b_Nam_function 10 = .ok (.if_icmp .ge 31, 3) := by decide +kernel
theorem d_Nam_function_13 : decode b_Nam_function 13 = .ok (.aload_n 0, 1) := by decide +kernel
theorem d_Nam_function_14 : decode b_Nam_function 14 = .ok (.getfield 18, 3) := by decide +kernel
theorem d_Nam_function_17 : decode b_Nam_function 17 = .ok (.iload_n 2, 1) := by decide +kernel
theorem d_Nam_function_18 : decode b_Nam_function 18 = .ok (.invokevirtual 72, 3) := by decide +kernel
theorem d_Nam_function_21 : decode b_Nam_function 21 = .ok (.checkcast 28, 3) := by decide +kernel
theorem d_Nam_function_24 : decode b_Nam_function 24 = .ok (.astore_n 3, 1) := by decide +kernel
theorem d_Nam_function_25 : decode b_Nam_function 25 = .ok (.aload_n 3, 1) := by decide +kernel
theorem d_Nam_function_26 : decode b_Nam_function 26 = .ok (.getfield 75, 3) := by decide +kernel
theorem d_Nam_function_29 : decode b_Nam_function 29 = .ok (.iload_n 1, 1) := by decide +kernel
theorem d_Nam_function_30 : decode b_Nam_function 30 = .ok (.if_icmp .ne 5, 3) := by decide +kernel
theorem d_Nam_function_33 : decode b_Nam_function 33 = .ok (.aload_n 3, 1) := by decide +kernel
theorem d_Nam_function_34 : decode b_Nam_function 34 = .ok (.areturn, 1) := by decide +kernel
theorem d_Nam_function_35 : decode b_Nam_function 35 = .ok (.iinc 2 1, 3) := by decide +kernel
theorem d_Nam_function_38 : decode b_Nam_function 38 = .ok (.goto (-36), 3) := by decide +kernel
theorem d_Nam_function_41 : decode b_Nam_function 41 = .ok (.aconst_null, 1) := by decide +kernel
theorem d_Nam_function_42 : decode b_Nam_function 42 = .ok (.areturn, 1) := by decide +kernel
theorem q_Nam_function : px_y y_Nam_function 1 := by unfold px_y; decide +kernel
set_option maxHeartbeats 4000000 in
set_option maxRecDepth 100000 in
theorem c_nm_function (l : Launch) (D : va_G) (cs : Nat → ClassId) (hn : Nat) (rn : Nat → Nat) (no : Nat → Option Nat) (na : Nat → Nat → Int32) (ng : Nat → Nat → Option Nat) (own : Bool) (lq : Nat) (lc : Nat) (fq : Nat) (fc : Nat) (P : va_W) (nf : Nat → Int32) (lf : Nat → Int32) (lg : Nat → Option Nat) (ff : Nat → Int32) (fg : Nat → Option Nat) (p0 : Int32)  (hinv0 : NmOk P own (lf 1) (ff 1) lc fc lg fg) : MetR l y_Nam_function b_Nam_function 4 (.object "HomeSystem$Symbol") D cs 3 90 (0) (0) [.ref hn, .int p0] [wd_Nam cs hn rn no nf na ng, wd_Lst cs (rn 0) (fun _ => 0) (fun k => if k = 0 then (some lq) else none) lf (fun _ _ => 0) (fun _ _ => none), lA cs own lq lc lg, wd_Lst cs (rn 1) (fun _ => 0) (fun k => if k = 0 then (some fq) else none) ff (fun _ _ => 0) (fun _ _ => none), [(fq, .inl (cs 12, fc, .inr (.inr (.inr (.inr fg)))))], P] (fun _ => True) (fun v ps => (ps = [wd_Nam cs hn rn no nf na ng, wd_Lst cs (rn 0) (fun _ => 0) (fun k => if k = 0 then (some lq) else none) lf (fun _ _ => 0) (fun _ _ => none), lA cs own lq lc lg, wd_Lst cs (rn 1) (fun _ => 0) (fun k => if k = 0 then (some fq) else none) ff (fun _ _ => 0) (fun _ _ => none), [(fq, .inl (cs 12, fc, .inr (.inr (.inr (.inr fg)))))], P]) ∧ (Fy P v)) := by
  refine px_enter (by decide) (Nat.le_of_ble_eq_true rfl) ?_
  intro p e s m below meth c A ls hAe S hr hlk hnm hA hT hX hw hl
  replace hl : lv_has ls 4 [(0, .ref hn), (1, .int p0)] := hl
  have lp0 := Int32.le_toInt p0
  have up0 := Int32.toInt_lt p0
  have cst0 : (0 : Int32).toInt = 0 := rfl
  obtain ⟨hown, ⟨n1, n2, n3⟩, hEl, ⟨n4, n5, n6⟩, hEf⟩ := hinv0
  have J2 : ∀ (n_2 : Nat)  (x2_2 : Int32) (H : Heap) (locs : List Loc) (ls : Array Slot), (0 ≤ x2_2.toInt) → (x2_2.toInt ≤ (ff 1).toInt) → (ff 1).toInt-x2_2.toInt+1 < (n_2 : Int) → pw D A s.heap H locs [wd_Nam cs hn rn no nf na ng, wd_Lst cs (rn 0) (fun _ => 0) (fun k => if k = 0 then (some lq) else none) lf (fun _ _ => 0) (fun _ _ => none), lA cs own lq lc lg, wd_Lst cs (rn 1) (fun _ => 0) (fun k => if k = 0 then (some fq) else none) ff (fun _ _ => 0) (fun _ _ => none), [(fq, .inl (cs 12, fc, .inr (.inr (.inr (.inr fg)))))], P] → lv_has ls 4 [(0, .ref hn), (1, .int p0), (2, .int x2_2)] → W p l e { frames := 3, cells := 0, slots := 0, locals := 90 } s m [.ref hn, .int p0].toArray below meth c H locs 0 0 (MQ below (va_Qq (fun v ps => (ps = [wd_Nam cs hn rn no nf na ng, wd_Lst cs (rn 0) (fun _ => 0) (fun k => if k = 0 then (some lq) else none) lf (fun _ _ => 0) (fun _ _ => none), lA cs own lq lc lg, wd_Lst cs (rn 1) (fun _ => 0) (fun k => if k = 0 then (some fq) else none) ff (fun _ _ => 0) (fun _ _ => none), [(fq, .inl (cs 12, fc, .inr (.inr (.inr (.inr fg)))))], P]) ∧ (Fy P v)) (pc_B D (va_A ([wd_Nam cs hn rn no nf na ng, wd_Lst cs (rn 0) (fun _ => 0) (fun k => if k = 0 then (some lq) else none) lf (fun _ _ => 0) (fun _ _ => none), lA cs own lq lc lg, wd_Lst cs (rn 1) (fun _ => 0) (fun k => if k = 0 then (some fq) else none) ff (fun _ _ => 0) (fun _ _ => none), [(fq, .inl (cs 12, fc, .inr (.inr (.inr (.inr fg)))))], P] : List va_W).flatten s.heap.size)) (va_A ([wd_Nam cs hn rn no nf na ng, wd_Lst cs (rn 0) (fun _ => 0) (fun k => if k = 0 then (some lq) else none) lf (fun _ _ => 0) (fun _ _ => none), lA cs own lq lc lg, wd_Lst cs (rn 1) (fun _ => 0) (fun k => if k = 0 then (some fq) else none) ff (fun _ _ => 0) (fun _ _ => none), [(fq, .inl (cs 12, fc, .inr (.inr (.inr (.inr fg)))))], P] : List va_W).flatten s.heap.size)) [.ref hn, .int p0].toArray s 0 0 A) (F0 m 2 ls []) := by
    intro n_2
    induction n_2 with
    | zero =>
      intro x2_2 H locs ls k2_0 k2_1 hm hw hl
      have lx2_2 := Int32.le_toInt x2_2
      have ux2_2 := Int32.toInt_lt x2_2
      exact absurd hm (by omega)
    | succ n_2 ih2 =>
      intro x2_2 H locs ls k2_0 k2_1 hm hw hl
      have lx2_2 := Int32.le_toInt x2_2
      have ux2_2 := Int32.toInt_lt x2_2
      refine lv_iload_n S.x S.b d_Nam_function_2 rfl (lv_at hl 2 rfl) ?_
      refine lv_aload_n S.x S.b d_Nam_function_3 rfl (lv_at hl 0 rfl) ?_
      refine px_get S k_Nam hT hw 0 0 1 (v := .ref (rn 1)) rfl rfl rfl (by decide) m2_76 d_Nam_function_4 ?_
      have hw : pw D A s.heap _ _ [wd_Nam cs hn rn no nf na ng, wd_Lst cs (rn 0) (fun _ => 0) (fun k => if k = 0 then (some lq) else none) lf (fun _ _ => 0) (fun _ _ => none), lA cs own lq lc lg, [(fq, .inl (cs 12, fc, .inr (.inr (.inr (.inr fg)))))], P, wd_Lst cs (rn 1) (fun _ => 0) (fun k => if k = 0 then (some fq) else none) ff (fun _ _ => 0) (fun _ _ => none)] := hw.sub [0, 1, 2, 4, 5, 3] rfl rfl
      refine px_calli (pr := [wd_Nam cs hn rn no nf na ng, wd_Lst cs (rn 0) (fun _ => 0) (fun k => if k = 0 then (some lq) else none) lf (fun _ _ => 0) (fun _ _ => none), lA cs own lq lc lg, [(fq, .inl (cs 12, fc, .inr (.inr (.inr (.inr fg)))))], P]) (px_runV (As := []) (rest := [.int x2_2]) S (c_ls_size l D cs (rn 1) fq ff    _) hT (pr := [wd_Nam cs hn rn no nf na ng, wd_Lst cs (rn 0) (fun _ => 0) (fun k => if k = 0 then (some lq) else none) lf (fun _ _ => 0) (fun _ _ => none), lA cs own lq lc lg, [(fq, .inl (cs 12, fc, .inr (.inr (.inr (.inr fg)))))], P]) (pcs := [wd_Lst cs (rn 1) (fun _ => 0) (fun k => if k = 0 then (some fq) else none) ff (fun _ _ => 0) (fun _ _ => none)]) hw px_X.tt (px_recv hT hw 5 0 rfl rfl rfl) m4_75 m4_72 m4_73 m4_74 m1_10 q_Lst_size ⟨Nat.le_of_ble_eq_true rfl, Nat.le_of_ble_eq_true rfl⟩ hl.1 rfl (Nat.le_of_ble_eq_true rfl) d_Nam_function_7 ⟨Nat.le_of_ble_eq_true rfl, Nat.le_of_ble_eq_true rfl⟩) hw hA (fun v2 p1 H locs hp1 hw => ?_)
      obtain ⟨rfl, e3⟩ := hp1
      replace e3 : v2.toInt = (ff 1).toInt := e3
      replace hw : pw D A s.heap H locs [wd_Nam cs hn rn no nf na ng, wd_Lst cs (rn 0) (fun _ => 0) (fun k => if k = 0 then (some lq) else none) lf (fun _ _ => 0) (fun _ _ => none), lA cs own lq lc lg, [(fq, .inl (cs 12, fc, .inr (.inr (.inr (.inr fg)))))], P, wd_Lst cs (rn 1) (fun _ => 0) (fun k => if k = 0 then (some fq) else none) ff (fun _ _ => 0) (fun _ _ => none)] := hw
      have lv2 := Int32.le_toInt v2
      have uv2 := Int32.toInt_lt v2
      refine lv_icmp_ge (tgt := 41) S.x S.b d_Nam_function_10 (by decide) (fun c4 => ?_) (fun c4 => ?_)
      · have nc4 : v2.toInt ≤ x2_2.toInt := (i_le (x := v2) (y := x2_2)).mp c4
        refine lv_null S.x S.b d_Nam_function_41 ?_
        have hw : pw D A s.heap _ _ [wd_Nam cs hn rn no nf na ng, wd_Lst cs (rn 0) (fun _ => 0) (fun k => if k = 0 then (some lq) else none) lf (fun _ _ => 0) (fun _ _ => none), lA cs own lq lc lg, wd_Lst cs (rn 1) (fun _ => 0) (fun k => if k = 0 then (some fq) else none) ff (fun _ _ => 0) (fun _ _ => none), [(fq, .inl (cs 12, fc, .inr (.inr (.inr (.inr fg)))))], P] := hw.sub [0, 1, 2, 5, 3, 4] rfl rfl
        exact px_aret (v := none) S hr (Or.inl ⟨_, rfl⟩) hlk hAe hw (Nat.le_of_ble_eq_true rfl) (Nat.le_of_ble_eq_true rfl) (⟨rfl, (show Fy P none from (by first | assumption | exact sy_none | exact fy_none | exact Fy.sy (by assumption) | exact sy_some (by assumption)))⟩) d_Nam_function_42
      · have nc4 : ¬ v2.toInt ≤ x2_2.toInt := mt (i_le (x := v2) (y := x2_2)).mpr c4
        refine lv_aload_n S.x S.b d_Nam_function_13 rfl (lv_at hl 0 rfl) ?_
        refine px_get S k_Nam hT hw 0 0 1 (v := .ref (rn 1)) rfl rfl rfl (by decide) m2_76 d_Nam_function_14 ?_
        refine lv_iload_n S.x S.b d_Nam_function_17 rfl (lv_at hl 2 rfl) ?_
        have hw : pw D A s.heap _ _ [wd_Nam cs hn rn no nf na ng, wd_Lst cs (rn 0) (fun _ => 0) (fun k => if k = 0 then (some lq) else none) lf (fun _ _ => 0) (fun _ _ => none), lA cs own lq lc lg, P, wd_Lst cs (rn 1) (fun _ => 0) (fun k => if k = 0 then (some fq) else none) ff (fun _ _ => 0) (fun _ _ => none), [(fq, .inl (cs 12, fc, .inr (.inr (.inr (.inr fg)))))]] := hw.sub [0, 1, 2, 4, 5, 3] rfl rfl
        refine px_callq (pr := [wd_Nam cs hn rn no nf na ng, wd_Lst cs (rn 0) (fun _ => 0) (fun k => if k = 0 then (some lq) else none) lf (fun _ _ => 0) (fun _ _ => none), lA cs own lq lc lg, P]) (px_runV (As := [.int x2_2]) (rest := []) S (c_Lst_get l D cs (rn 1) fq fc ff fg x2_2  (show fc ≤ 1000000 from by first | exact n6 | omega) (show 0 ≤ (ff 1).toInt from by first | exact n4 | omega) (show (ff 1).toInt ≤ (fc : Int) from by first | exact n5 | omega) (show 0 ≤ x2_2.toInt from by first | exact k2_0 | omega) (show x2_2.toInt < (ff 1).toInt from by first | exact oz_843db69ae7 e3 nc4 | omega) _) hT (pr := [wd_Nam cs hn rn no nf na ng, wd_Lst cs (rn 0) (fun _ => 0) (fun k => if k = 0 then (some lq) else none) lf (fun _ _ => 0) (fun _ _ => none), lA cs own lq lc lg, P]) (pcs := [wd_Lst cs (rn 1) (fun _ => 0) (fun k => if k = 0 then (some fq) else none) ff (fun _ _ => 0) (fun _ _ => none), [(fq, .inl (cs 12, fc, .inr (.inr (.inr (.inr fg)))))]]) hw px_X.tt (px_recv hT hw 4 0 rfl rfl rfl) m5_22 m5_19 m5_20 m5_21 m1_10 q_Lst_get ⟨Nat.le_of_ble_eq_true rfl, Nat.le_of_ble_eq_true rfl⟩ hl.1 rfl (Nat.le_of_ble_eq_true rfl) d_Nam_function_18 ⟨Nat.le_of_ble_eq_true rfl, Nat.le_of_ble_eq_true rfl⟩) hw hA (fun v6 p5 H locs hp5 hw => ?_)
        obtain ⟨rfl, e7⟩ := hp5
        subst e7
        replace hw : pw D A s.heap H locs [wd_Nam cs hn rn no nf na ng, wd_Lst cs (rn 0) (fun _ => 0) (fun k => if k = 0 then (some lq) else none) lf (fun _ _ => 0) (fun _ _ => none), lA cs own lq lc lg, P, wd_Lst cs (rn 1) (fun _ => 0) (fun k => if k = 0 then (some fq) else none) ff (fun _ _ => 0) (fun _ _ => none), [(fq, .inl (cs 12, fc, .inr (.inr (.inr (.inr fg)))))]] := hw
        obtain ⟨q8, eq8, hq8⟩ := hEf.at (x := x2_2) (by omega) (by omega); rw [eq8]
        obtain ⟨j9, s10, hj11⟩ := (show Sy P (some q8) by first | assumption | exact Fy.sy (by assumption)).at
        refine px_castP S hT hw 3 j9 rfl hj11 rfl m1_202 m14_232n d_Nam_function_21 ?_
        refine lv_astore_n (lv' := [(3, .ref q8), (0, .ref hn), (1, .int p0), (2, .int x2_2)]) S.x S.b d_Nam_function_24 rfl hl (by decide) rfl (fun ls hl => ?_)
        refine lv_aload_n S.x S.b d_Nam_function_25 rfl (lv_at hl 0 rfl) ?_
        refine px_get S k_Sym hT hw 3 j9 0 (v := .int (s10 0)) rfl hj11 rfl (by decide) m1_209 d_Nam_function_26 ?_
        refine lv_iload_n S.x S.b d_Nam_function_29 rfl (lv_at hl 2 rfl) ?_
        refine lv_icmp_ne (tgt := 35) S.x S.b d_Nam_function_30 (by decide) (fun c12 => ?_) (fun c12 => ?_)
        · have nc12 : ¬ (s10 0).toInt = p0.toInt := mt (i_eq (x := (s10 0)) (y := p0)).mpr c12
          obtain ⟨z13, ez13⟩ : ∃ y : Int32, y = x2_2 + 1 := ⟨_, rfl⟩
          have tz13 : z13.toInt = (x2_2.toInt + 1 + 2147483648) % 4294967296 - 2147483648 := by rw [ez13]; exact i_add x2_2 1
          have lz13 := Int32.le_toInt z13
          have uz13 := Int32.toInt_lt z13
          try replace tz13 : z13.toInt = x2_2.toInt + 1 := by omega
          refine lv_iinc (v := z13) (lv' := [(2, .int z13), (3, .ref q8), (0, .ref hn), (1, .int p0)]) S.x S.b d_Nam_function_35 hl (k := 3) rfl (by rw [ez13]; rfl) (by decide) rfl (fun ls hl => ?_)
          refine lv_goto (tgt := 2) S.x S.b d_Nam_function_38 (by decide) ?_
          have hw : pw D A s.heap _ _ [wd_Nam cs hn rn no nf na ng, wd_Lst cs (rn 0) (fun _ => 0) (fun k => if k = 0 then (some lq) else none) lf (fun _ _ => 0) (fun _ _ => none), lA cs own lq lc lg, wd_Lst cs (rn 1) (fun _ => 0) (fun k => if k = 0 then (some fq) else none) ff (fun _ _ => 0) (fun _ _ => none), [(fq, .inl (cs 12, fc, .inr (.inr (.inr (.inr fg)))))], P] := hw.sub [0, 1, 2, 4, 5, 3] rfl rfl
          exact ih2 z13 _ _ ls (show 0 ≤ z13.toInt from by first | exact oz_ae613611c0 tz13 k2_0 | omega) (show z13.toInt ≤ (ff 1).toInt from by first | exact oz_a6fd07f316 e3 tz13 nc4 | omega) (show (ff 1).toInt-z13.toInt+1 < (n_2 : Int) from by first | exact oz_ed25187654 hm tz13 | omega) hw (lv_sub hl [2, 3, 0] rfl)
        · have nc12 : (s10 0).toInt = p0.toInt := (i_eq (x := (s10 0)) (y := p0)).mp c12
          refine lv_aload_n S.x S.b d_Nam_function_33 rfl (lv_at hl 0 rfl) ?_
          have hw : pw D A s.heap _ _ [wd_Nam cs hn rn no nf na ng, wd_Lst cs (rn 0) (fun _ => 0) (fun k => if k = 0 then (some lq) else none) lf (fun _ _ => 0) (fun _ _ => none), lA cs own lq lc lg, wd_Lst cs (rn 1) (fun _ => 0) (fun k => if k = 0 then (some fq) else none) ff (fun _ _ => 0) (fun _ _ => none), [(fq, .inl (cs 12, fc, .inr (.inr (.inr (.inr fg)))))], P] := hw.sub [0, 1, 2, 4, 5, 3] rfl rfl
          exact px_aret (v := (some q8)) S hr (Or.inl ⟨_, rfl⟩) hlk hAe hw (Nat.le_of_ble_eq_true rfl) (Nat.le_of_ble_eq_true rfl) (⟨rfl, (show Fy P (some q8) from (by first | assumption | exact sy_none | exact fy_none | exact Fy.sy (by assumption) | exact sy_some (by assumption)))⟩) d_Nam_function_34
  refine lv_iconst (v := 0) S.x S.b d_Nam_function_0 (by decide) ?_
  refine lv_istore_n (lv' := [(2, .int 0), (0, .ref hn), (1, .int p0)]) S.x S.b d_Nam_function_1 rfl hl (by decide) rfl (fun ls hl => ?_)
  exact J2 (((ff 1).toInt-(0 : Int)+1).toNat + 1) (0 : Int32) _ _ ls (show 0 ≤ (0 : Int) from by first | decide | omega) (show (0 : Int) ≤ (ff 1).toInt from by first | exact oz_50c21e157e n4 | omega) (show (ff 1).toInt-(0 : Int)+1 < (((((ff 1).toInt-(0 : Int)+1).toNat + 1 : Nat) : Int) : Int) from by first | exact oz_natlt | omega) hw (lv_sub hl [1, 2, 0] rfl)
abbrev b_Nam_functionAt : ByteArray := prog_5_method_11_code
def y_Nam_functionAt : MethodName := ⟨"HomeSystem$Names", "functionAt", "(I)LHomeSystem$Symbol;"⟩
theorem d_Nam_functionAt_0 : decode b_Nam_functionAt 0 = .ok (.iload_n 1, 1) := by decide +kernel
theorem d_Nam_functionAt_1 : decode b_Nam_functionAt 1 = .ok (.ifCond .lt 28, 3) := by decide +kernel
theorem d_Nam_functionAt_4 : decode b_Nam_functionAt 4 = .ok (.iload_n 1, 1) := by decide +kernel
theorem d_Nam_functionAt_5 : decode b_Nam_functionAt 5 = .ok (.aload_n 0, 1) := by decide +kernel
theorem d_Nam_functionAt_6 : decode b_Nam_functionAt 6 = .ok (.getfield 18, 3) := by decide +kernel
theorem d_Nam_functionAt_9 : decode b_Nam_functionAt 9 = .ok (.invokevirtual 59, 3) := by decide +kernel
theorem d_Nam_functionAt_12 : decode b_Nam_functionAt 12 = .ok (.if_icmp .ge 17, 3) := by decide +kernel
theorem d_Nam_functionAt_15 : decode b_Nam_functionAt 15 = .ok (.aload_n 0, 1) := by decide +kernel
theorem d_Nam_functionAt_16 : decode b_Nam_functionAt 16 = .ok (.getfield 18, 3) := by decide +kernel
theorem d_Nam_functionAt_19 : decode b_Nam_functionAt 19 = .ok (.iload_n 1, 1) := by decide +kernel
theorem d_Nam_functionAt_20 : decode b_Nam_functionAt 20 = .ok (.invokevirtual 72, 3) := by decide +kernel
theorem d_Nam_functionAt_23 : decode b_Nam_functionAt 23 = .ok (.checkcast 28, 3) := by decide +kernel
theorem d_Nam_functionAt_26 : decode b_Nam_functionAt 26 = .ok (.goto 4, 3) := by decide +kernel
theorem d_Nam_functionAt_29 : decode b_Nam_functionAt 29 = .ok (.aconst_null, 1) := by decide +kernel
theorem d_Nam_functionAt_30 : decode b_Nam_functionAt 30 = .ok (.areturn, 1) := by decide +kernel
theorem q_Nam_functionAt : px_y y_Nam_functionAt 1 := by unfold px_y; decide +kernel
set_option maxHeartbeats 4000000 in
set_option maxRecDepth 100000 in
theorem c_nm_functionAt (l : Launch) (D : va_G) (cs : Nat → ClassId) (hn : Nat) (rn : Nat → Nat) (no : Nat → Option Nat) (na : Nat → Nat → Int32) (ng : Nat → Nat → Option Nat) (own : Bool) (lq : Nat) (lc : Nat) (fq : Nat) (fc : Nat) (P : va_W) (nf : Nat → Int32) (lf : Nat → Int32) (lg : Nat → Option Nat) (ff : Nat → Int32) (fg : Nat → Option Nat) (p0 : Int32)  (hinv0 : NmOk P own (lf 1) (ff 1) lc fc lg fg) : MetR l y_Nam_functionAt b_Nam_functionAt 2 (.object "HomeSystem$Symbol") D cs 3 90 (0) (0) [.ref hn, .int p0] [wd_Nam cs hn rn no nf na ng, wd_Lst cs (rn 0) (fun _ => 0) (fun k => if k = 0 then (some lq) else none) lf (fun _ _ => 0) (fun _ _ => none), lA cs own lq lc lg, wd_Lst cs (rn 1) (fun _ => 0) (fun k => if k = 0 then (some fq) else none) ff (fun _ _ => 0) (fun _ _ => none), [(fq, .inl (cs 12, fc, .inr (.inr (.inr (.inr fg)))))], P] (fun _ => True) (fun v ps => (ps = [wd_Nam cs hn rn no nf na ng, wd_Lst cs (rn 0) (fun _ => 0) (fun k => if k = 0 then (some lq) else none) lf (fun _ _ => 0) (fun _ _ => none), lA cs own lq lc lg, wd_Lst cs (rn 1) (fun _ => 0) (fun k => if k = 0 then (some fq) else none) ff (fun _ _ => 0) (fun _ _ => none), [(fq, .inl (cs 12, fc, .inr (.inr (.inr (.inr fg)))))], P]) ∧ (Fy P v)) := by
  refine px_enter (by decide) (Nat.le_of_ble_eq_true rfl) ?_
  intro p e s m below meth c A ls hAe S hr hlk hnm hA hT hX hw hl
  replace hl : lv_has ls 2 [(0, .ref hn), (1, .int p0)] := hl
  have lp0 := Int32.le_toInt p0
  have up0 := Int32.toInt_lt p0
  obtain ⟨hown, ⟨n1, n2, n3⟩, hEl, ⟨n4, n5, n6⟩, hEf⟩ := hinv0
  refine lv_iload_n S.x S.b d_Nam_functionAt_0 rfl (lv_at hl 1 rfl) ?_
  refine lv_if_lt (tgt := 29) S.x S.b d_Nam_functionAt_1 (by decide) (fun c1 => ?_) (fun c1 => ?_)
  · have nc1 : p0.toInt < (0 : Int) := (i_lt (x := p0) (y := 0)).mp c1
    refine lv_null S.x S.b d_Nam_functionAt_29 ?_
    exact px_aret (v := none) S hr (Or.inl ⟨_, rfl⟩) hlk hAe hw (Nat.le_of_ble_eq_true rfl) (Nat.le_of_ble_eq_true rfl) (⟨rfl, (show Fy P none from (by first | assumption | exact sy_none | exact fy_none | exact Fy.sy (by assumption) | exact sy_some (by assumption)))⟩) d_Nam_functionAt_30
  · have nc1 : ¬ p0.toInt < (0 : Int) := mt (i_lt (x := p0) (y := 0)).mpr c1
    refine lv_iload_n S.x S.b d_Nam_functionAt_4 rfl (lv_at hl 1 rfl) ?_
    refine lv_aload_n S.x S.b d_Nam_functionAt_5 rfl (lv_at hl 0 rfl) ?_
    refine px_get S k_Nam hT hw 0 0 1 (v := .ref (rn 1)) rfl rfl rfl (by decide) m2_76 d_Nam_functionAt_6 ?_
    have hw : pw D A s.heap _ _ [wd_Nam cs hn rn no nf na ng, wd_Lst cs (rn 0) (fun _ => 0) (fun k => if k = 0 then (some lq) else none) lf (fun _ _ => 0) (fun _ _ => none), lA cs own lq lc lg, [(fq, .inl (cs 12, fc, .inr (.inr (.inr (.inr fg)))))], P, wd_Lst cs (rn 1) (fun _ => 0) (fun k => if k = 0 then (some fq) else none) ff (fun _ _ => 0) (fun _ _ => none)] := hw.sub [0, 1, 2, 4, 5, 3] rfl rfl
    refine px_calli (pr := [wd_Nam cs hn rn no nf na ng, wd_Lst cs (rn 0) (fun _ => 0) (fun k => if k = 0 then (some lq) else none) lf (fun _ _ => 0) (fun _ _ => none), lA cs own lq lc lg, [(fq, .inl (cs 12, fc, .inr (.inr (.inr (.inr fg)))))], P]) (px_runV (As := []) (rest := [.int p0]) S (c_ls_size l D cs (rn 1) fq ff    _) hT (pr := [wd_Nam cs hn rn no nf na ng, wd_Lst cs (rn 0) (fun _ => 0) (fun k => if k = 0 then (some lq) else none) lf (fun _ _ => 0) (fun _ _ => none), lA cs own lq lc lg, [(fq, .inl (cs 12, fc, .inr (.inr (.inr (.inr fg)))))], P]) (pcs := [wd_Lst cs (rn 1) (fun _ => 0) (fun k => if k = 0 then (some fq) else none) ff (fun _ _ => 0) (fun _ _ => none)]) hw px_X.tt (px_recv hT hw 5 0 rfl rfl rfl) m4_75 m4_72 m4_73 m4_74 m1_10 q_Lst_size ⟨Nat.le_of_ble_eq_true rfl, Nat.le_of_ble_eq_true rfl⟩ hl.1 rfl (Nat.le_of_ble_eq_true rfl) d_Nam_functionAt_9 ⟨Nat.le_of_ble_eq_true rfl, Nat.le_of_ble_eq_true rfl⟩) hw hA (fun v3 p2 H locs hp2 hw => ?_)
    obtain ⟨rfl, e4⟩ := hp2
    replace e4 : v3.toInt = (ff 1).toInt := e4
    replace hw : pw D A s.heap H locs [wd_Nam cs hn rn no nf na ng, wd_Lst cs (rn 0) (fun _ => 0) (fun k => if k = 0 then (some lq) else none) lf (fun _ _ => 0) (fun _ _ => none), lA cs own lq lc lg, [(fq, .inl (cs 12, fc, .inr (.inr (.inr (.inr fg)))))], P, wd_Lst cs (rn 1) (fun _ => 0) (fun k => if k = 0 then (some fq) else none) ff (fun _ _ => 0) (fun _ _ => none)] := hw
    have lv3 := Int32.le_toInt v3
    have uv3 := Int32.toInt_lt v3
    refine lv_icmp_ge (tgt := 29) S.x S.b d_Nam_functionAt_12 (by decide) (fun c5 => ?_) (fun c5 => ?_)
    · have nc5 : v3.toInt ≤ p0.toInt := (i_le (x := v3) (y := p0)).mp c5
      refine lv_null S.x S.b d_Nam_functionAt_29 ?_
      have hw : pw D A s.heap _ _ [wd_Nam cs hn rn no nf na ng, wd_Lst cs (rn 0) (fun _ => 0) (fun k => if k = 0 then (some lq) else none) lf (fun _ _ => 0) (fun _ _ => none), lA cs own lq lc lg, wd_Lst cs (rn 1) (fun _ => 0) (fun k => if k = 0 then (some fq) else none) ff (fun _ _ => 0) (fun _ _ => none), [(fq, .inl (cs 12, fc, .inr (.inr (.inr (.inr fg)))))], P] := hw.sub [0, 1, 2, 5, 3, 4] rfl rfl
      exact px_aret (v := none) S hr (Or.inl ⟨_, rfl⟩) hlk hAe hw (Nat.le_of_ble_eq_true rfl) (Nat.le_of_ble_eq_true rfl) (⟨rfl, (show Fy P none from (by first | assumption | exact sy_none | exact fy_none | exact Fy.sy (by assumption) | exact sy_some (by assumption)))⟩) d_Nam_functionAt_30
    · have nc5 : ¬ v3.toInt ≤ p0.toInt := mt (i_le (x := v3) (y := p0)).mpr c5
      refine lv_aload_n S.x S.b d_Nam_functionAt_15 rfl (lv_at hl 0 rfl) ?_
      refine px_get S k_Nam hT hw 0 0 1 (v := .ref (rn 1)) rfl rfl rfl (by decide) m2_76 d_Nam_functionAt_16 ?_
      refine lv_iload_n S.x S.b d_Nam_functionAt_19 rfl (lv_at hl 1 rfl) ?_
      have hw : pw D A s.heap _ _ [wd_Nam cs hn rn no nf na ng, wd_Lst cs (rn 0) (fun _ => 0) (fun k => if k = 0 then (some lq) else none) lf (fun _ _ => 0) (fun _ _ => none), lA cs own lq lc lg, P, wd_Lst cs (rn 1) (fun _ => 0) (fun k => if k = 0 then (some fq) else none) ff (fun _ _ => 0) (fun _ _ => none), [(fq, .inl (cs 12, fc, .inr (.inr (.inr (.inr fg)))))]] := hw.sub [0, 1, 2, 4, 5, 3] rfl rfl
      refine px_callq (pr := [wd_Nam cs hn rn no nf na ng, wd_Lst cs (rn 0) (fun _ => 0) (fun k => if k = 0 then (some lq) else none) lf (fun _ _ => 0) (fun _ _ => none), lA cs own lq lc lg, P]) (px_runV (As := [.int p0]) (rest := []) S (c_Lst_get l D cs (rn 1) fq fc ff fg p0  (show fc ≤ 1000000 from by first | exact n6 | omega) (show 0 ≤ (ff 1).toInt from by first | exact n4 | omega) (show (ff 1).toInt ≤ (fc : Int) from by first | exact n5 | omega) (show 0 ≤ p0.toInt from by first | exact oz_18a5c06a28 nc1 | omega) (show p0.toInt < (ff 1).toInt from by first | exact oz_843db69ae7 e4 nc5 | omega) _) hT (pr := [wd_Nam cs hn rn no nf na ng, wd_Lst cs (rn 0) (fun _ => 0) (fun k => if k = 0 then (some lq) else none) lf (fun _ _ => 0) (fun _ _ => none), lA cs own lq lc lg, P]) (pcs := [wd_Lst cs (rn 1) (fun _ => 0) (fun k => if k = 0 then (some fq) else none) ff (fun _ _ => 0) (fun _ _ => none), [(fq, .inl (cs 12, fc, .inr (.inr (.inr (.inr fg)))))]]) hw px_X.tt (px_recv hT hw 4 0 rfl rfl rfl) m5_22 m5_19 m5_20 m5_21 m1_10 q_Lst_get ⟨Nat.le_of_ble_eq_true rfl, Nat.le_of_ble_eq_true rfl⟩ hl.1 rfl (Nat.le_of_ble_eq_true rfl) d_Nam_functionAt_20 ⟨Nat.le_of_ble_eq_true rfl, Nat.le_of_ble_eq_true rfl⟩) hw hA (fun v7 p6 H locs hp6 hw => ?_)
      obtain ⟨rfl, e8⟩ := hp6
      subst e8
      replace hw : pw D A s.heap H locs [wd_Nam cs hn rn no nf na ng, wd_Lst cs (rn 0) (fun _ => 0) (fun k => if k = 0 then (some lq) else none) lf (fun _ _ => 0) (fun _ _ => none), lA cs own lq lc lg, P, wd_Lst cs (rn 1) (fun _ => 0) (fun k => if k = 0 then (some fq) else none) ff (fun _ _ => 0) (fun _ _ => none), [(fq, .inl (cs 12, fc, .inr (.inr (.inr (.inr fg)))))]] := hw
      obtain ⟨q9, eq9, hq9⟩ := hEf.at (x := p0) (by omega) (by omega); rw [eq9]
      obtain ⟨j10, s11, hj12⟩ := (show Sy P (some q9) by first | assumption | exact Fy.sy (by assumption)).at
      refine px_castP S hT hw 3 j10 rfl hj12 rfl m1_202 m14_232n d_Nam_functionAt_23 ?_
      refine lv_goto (tgt := 30) S.x S.b d_Nam_functionAt_26 (by decide) ?_
      have hw : pw D A s.heap _ _ [wd_Nam cs hn rn no nf na ng, wd_Lst cs (rn 0) (fun _ => 0) (fun k => if k = 0 then (some lq) else none) lf (fun _ _ => 0) (fun _ _ => none), lA cs own lq lc lg, wd_Lst cs (rn 1) (fun _ => 0) (fun k => if k = 0 then (some fq) else none) ff (fun _ _ => 0) (fun _ _ => none), [(fq, .inl (cs 12, fc, .inr (.inr (.inr (.inr fg)))))], P] := hw.sub [0, 1, 2, 4, 5, 3] rfl rfl
      exact px_aret (v := (some q9)) S hr (Or.inl ⟨_, rfl⟩) hlk hAe hw (Nat.le_of_ble_eq_true rfl) (Nat.le_of_ble_eq_true rfl) (⟨rfl, (show Fy P (some q9) from (by first | assumption | exact sy_none | exact fy_none | exact Fy.sy (by assumption) | exact sy_some (by assumption)))⟩) d_Nam_functionAt_30
abbrev b_Nam_want : ByteArray := prog_5_method_13_code
def y_Nam_want : MethodName := ⟨"HomeSystem$Names", "want", "(LHomeSystem$Symbol;I)I"⟩
theorem d_Nam_want_0 : decode b_Nam_want 0 = .ok (.aload_n 1, 1) := by decide +kernel
theorem d_Nam_want_1 : decode b_Nam_want 1 = .ok (.ifnull 15, 3) := by decide +kernel
theorem d_Nam_want_4 : decode b_Nam_want 4 = .ok (.iload_n 2, 1) := by decide +kernel
theorem d_Nam_want_5 : decode b_Nam_want 5 = .ok (.ifCond .lt 11, 3) := by decide +kernel
theorem d_Nam_want_8 : decode b_Nam_want 8 = .ok (.iload_n 2, 1) := by decide +kernel
theorem d_Nam_want_9 : decode b_Nam_want 9 = .ok (.aload_n 1, 1) := by decide +kernel
theorem d_Nam_want_10 : decode b_Nam_want 10 = .ok (.getfield 49, 3) := by decide +kernel
theorem d_Nam_want_13 : decode b_Nam_want 13 = .ok (.if_icmp .lt 5, 3) := by decide +kernel
theorem d_Nam_want_16 : decode b_Nam_want 16 = .ok (.iconst 0, 1) := by decide +kernel
theorem d_Nam_want_17 : decode b_Nam_want 17 = .ok (.ireturn, 1) := by decide +kernel
theorem d_Nam_want_18 : decode b_Nam_want 18 = .ok (.aload_n 1, 1) := by decide +kernel
theorem d_Nam_want_19 : decode b_Nam_want 19 = .ok (.getfield 43, 3) := by decide +kernel
theorem d_Nam_want_22 : decode b_Nam_want 22 = .ok (.iload_n 2, 1) := by decide +kernel
theorem d_Nam_want_23 : decode b_Nam_want 23 = .ok (.iadd, 1) := by decide +kernel
theorem d_Nam_want_24 : decode b_Nam_want 24 = .ok (.istore_n 3, 1) := by decide +kernel
theorem d_Nam_want_25 : decode b_Nam_want 25 = .ok (.iload_n 3, 1) := by decide +kernel
theorem d_Nam_want_26 : decode b_Nam_want 26 = .ok (.ifCond .lt 21, 3) := by decide +kernel
theorem d_Nam_want_29 : decode b_Nam_want 29 = .ok (.iload_n 3, 1) := by decide +kernel
theorem d_Nam_want_30 : decode b_Nam_want 30 = .ok (.aload_n 0, 1) := by decide +kernel
theorem d_Nam_want_31 : decode b_Nam_want 31 = .ok (.getfield 21, 3) := by decide +kernel
theorem d_Nam_want_34 : decode b_Nam_want 34 = .ok (.arraylength, 1) := by decide +kernel
theorem d_Nam_want_35 : decode b_Nam_want 35 = .ok (.if_icmp .ge 12, 3) := by decide +kernel
theorem d_Nam_want_38 : decode b_Nam_want 38 = .ok (.aload_n 0, 1) := by decide +kernel
theorem d_Nam_want_39 : decode b_Nam_want 39 = .ok (.getfield 21, 3) := by decide +kernel
theorem d_Nam_want_42 : decode b_Nam_want 42 = .ok (.iload_n 3, 1) := by decide +kernel
theorem d_Nam_want_43 : decode b_Nam_want 43 = .ok (.iaload, 1) := by decide +kernel
theorem d_Nam_want_44 : decode b_Nam_want 44 = .ok (.goto 4, 3) := by decide +kernel
theorem d_Nam_want_47 : decode b_Nam_want 47 = .ok (.iconst 0, 1) := by decide +kernel
theorem d_Nam_want_48 : decode b_Nam_want 48 = .ok (.ireturn, 1) := by decide +kernel
theorem q_Nam_want : px_y y_Nam_want 2 := by unfold px_y; decide +kernel
set_option maxHeartbeats 4000000 in
set_option maxRecDepth 100000 in
theorem c_nm_want_n (l : Launch) (D : va_G) (cs : Nat → ClassId) (hn : Nat) (rn : Nat → Nat) (no : Nat → Option Nat) (na : Nat → Nat → Int32) (ng : Nat → Nat → Option Nat) (own : Bool) (lq : Nat) (lc : Nat) (fq : Nat) (fc : Nat) (P : va_W) (nf : Nat → Int32) (lf : Nat → Int32) (lg : Nat → Option Nat) (ff : Nat → Int32) (fg : Nat → Option Nat) (p0 : Int32)  (hinv0 : NmOk P own (lf 1) (ff 1) lc fc lg fg) : MetI l y_Nam_want b_Nam_want 4 (.int) D cs 0 0 (0) (0) [.ref hn, .null, .int p0] [wd_Nam cs hn rn no nf na ng, wd_Lst cs (rn 0) (fun _ => 0) (fun k => if k = 0 then (some lq) else none) lf (fun _ _ => 0) (fun _ _ => none), lA cs own lq lc lg, wd_Lst cs (rn 1) (fun _ => 0) (fun k => if k = 0 then (some fq) else none) ff (fun _ _ => 0) (fun _ _ => none), [(fq, .inl (cs 12, fc, .inr (.inr (.inr (.inr fg)))))], P] (fun _ => True) (fun v ps => (ps = [wd_Nam cs hn rn no nf na ng, wd_Lst cs (rn 0) (fun _ => 0) (fun k => if k = 0 then (some lq) else none) lf (fun _ _ => 0) (fun _ _ => none), lA cs own lq lc lg, wd_Lst cs (rn 1) (fun _ => 0) (fun k => if k = 0 then (some fq) else none) ff (fun _ _ => 0) (fun _ _ => none), [(fq, .inl (cs 12, fc, .inr (.inr (.inr (.inr fg)))))], P])) := by
  refine px_enter (by decide) (Nat.le_of_ble_eq_true rfl) ?_
  intro p e s m below meth c A ls hAe S hr hlk hnm hA hT hX hw hl
  replace hl : lv_has ls 4 [(0, .ref hn), (1, .null), (2, .int p0)] := hl
  have lp0 := Int32.le_toInt p0
  have up0 := Int32.toInt_lt p0
  have cst0 : (0 : Int32).toInt = 0 := rfl
  obtain ⟨hown, ⟨n1, n2, n3⟩, hEl, ⟨n4, n5, n6⟩, hEf⟩ := hinv0
  refine lq_aload_n (x := none) S.x S.b d_Nam_want_0 rfl (lv_at hl 1 rfl) ?_
  refine lv_ifnullN (tgt := 16) S.x S.b d_Nam_want_1 (by decide) ?_
  refine lv_iconst (v := 0) S.x S.b d_Nam_want_16 (by decide) ?_
  exact px_iret (v := 0) S hr rfl hlk hAe hw (Nat.le_of_ble_eq_true rfl) (Nat.le_of_ble_eq_true rfl) (rfl) d_Nam_want_17
set_option maxHeartbeats 4000000 in
set_option maxRecDepth 100000 in
theorem c_nm_want_r (l : Launch) (D : va_G) (cs : Nat → ClassId) (hn : Nat) (rn : Nat → Nat) (no : Nat → Option Nat) (na : Nat → Nat → Int32) (ng : Nat → Nat → Option Nat) (own : Bool) (lq : Nat) (lc : Nat) (fq : Nat) (fc : Nat) (P : va_W) (nf : Nat → Int32) (lf : Nat → Int32) (lg : Nat → Option Nat) (ff : Nat → Int32) (fg : Nat → Option Nat) (p0 : Int32) (fa : Nat) (hinv0 : NmOk P own (lf 1) (ff 1) lc fc lg fg) (hsy : Sy P (some fa)) : MetI l y_Nam_want b_Nam_want 4 (.int) D cs 0 0 (0) (0) [.ref hn, .ref fa, .int p0] [wd_Nam cs hn rn no nf na ng, wd_Lst cs (rn 0) (fun _ => 0) (fun k => if k = 0 then (some lq) else none) lf (fun _ _ => 0) (fun _ _ => none), lA cs own lq lc lg, wd_Lst cs (rn 1) (fun _ => 0) (fun k => if k = 0 then (some fq) else none) ff (fun _ _ => 0) (fun _ _ => none), [(fq, .inl (cs 12, fc, .inr (.inr (.inr (.inr fg)))))], P] (fun _ => True) (fun v ps => (ps = [wd_Nam cs hn rn no nf na ng, wd_Lst cs (rn 0) (fun _ => 0) (fun k => if k = 0 then (some lq) else none) lf (fun _ _ => 0) (fun _ _ => none), lA cs own lq lc lg, wd_Lst cs (rn 1) (fun _ => 0) (fun k => if k = 0 then (some fq) else none) ff (fun _ _ => 0) (fun _ _ => none), [(fq, .inl (cs 12, fc, .inr (.inr (.inr (.inr fg)))))], P])) := by
  refine px_enter (by decide) (Nat.le_of_ble_eq_true rfl) ?_
  intro p e s m below meth c A ls hAe S hr hlk hnm hA hT hX hw hl
  replace hl : lv_has ls 4 [(0, .ref hn), (1, .ref fa), (2, .int p0)] := hl
  have lp0 := Int32.le_toInt p0
  have up0 := Int32.toInt_lt p0
  have cst0 : (0 : Int32).toInt = 0 := rfl
  obtain ⟨hown, ⟨n1, n2, n3⟩, hEl, ⟨n4, n5, n6⟩, hEf⟩ := hinv0
  refine lv_aload_n S.x S.b d_Nam_want_0 rfl (lv_at hl 1 rfl) ?_
  refine lv_ifnull S.x S.b d_Nam_want_1 ?_
  refine lv_iload_n S.x S.b d_Nam_want_4 rfl (lv_at hl 2 rfl) ?_
  refine lv_if_lt (tgt := 16) S.x S.b d_Nam_want_5 (by decide) (fun c1 => ?_) (fun c1 => ?_)
  · have nc1 : p0.toInt < (0 : Int) := (i_lt (x := p0) (y := 0)).mp c1
    refine lv_iconst (v := 0) S.x S.b d_Nam_want_16 (by decide) ?_
    exact px_iret (v := 0) S hr rfl hlk hAe hw (Nat.le_of_ble_eq_true rfl) (Nat.le_of_ble_eq_true rfl) (rfl) d_Nam_want_17
  · have nc1 : ¬ p0.toInt < (0 : Int) := mt (i_lt (x := p0) (y := 0)).mpr c1
    refine lv_iload_n S.x S.b d_Nam_want_8 rfl (lv_at hl 2 rfl) ?_
    refine lv_aload_n S.x S.b d_Nam_want_9 rfl (lv_at hl 1 rfl) ?_
    obtain ⟨j2, s3, hj4⟩ := (show Sy P (some fa) by first | assumption | exact Fy.sy (by assumption)).at
    refine px_get S k_Sym hT hw 5 j2 4 (v := .int (s3 4)) rfl hj4 rfl (by decide) m1_218 d_Nam_want_10 ?_
    refine lv_icmp_lt (tgt := 18) S.x S.b d_Nam_want_13 (by decide) (fun c5 => ?_) (fun c5 => ?_)
    · have nc5 : p0.toInt < (s3 4).toInt := (i_lt (x := p0) (y := (s3 4))).mp c5
      refine lv_aload_n S.x S.b d_Nam_want_18 rfl (lv_at hl 1 rfl) ?_
      refine px_get S k_Sym hT hw 5 j2 3 (v := .int (s3 3)) rfl hj4 rfl (by decide) m1_215 d_Nam_want_19 ?_
      refine lv_iload_n S.x S.b d_Nam_want_22 rfl (lv_at hl 2 rfl) ?_
      refine lv_iadd S.x S.b d_Nam_want_23 ?_
      have lr6 := Int32.le_toInt (s3 3)
      have ur6 := Int32.toInt_lt (s3 3)
      refine lv_topi (fun z7 ez7 => ?_)
      have tz7 : z7.toInt = ((s3 3).toInt + p0.toInt + 2147483648) % 4294967296 - 2147483648 := by rw [ez7]; exact i_add (s3 3) p0
      have lz7 := Int32.le_toInt z7
      have uz7 := Int32.toInt_lt z7
      try replace tz7 : z7.toInt = (s3 3).toInt + p0.toInt := by omega
      refine lv_istore_n (lv' := [(3, .int z7), (0, .ref hn), (1, .ref fa), (2, .int p0)]) S.x S.b d_Nam_want_24 rfl hl (by decide) rfl (fun ls hl => ?_)
      refine lv_iload_n S.x S.b d_Nam_want_25 rfl (lv_at hl 0 rfl) ?_
      refine lv_if_lt (tgt := 47) S.x S.b d_Nam_want_26 (by decide) (fun c8 => ?_) (fun c8 => ?_)
      · have nc8 : z7.toInt < (0 : Int) := (i_lt (x := z7) (y := 0)).mp c8
        refine lv_iconst (v := 0) S.x S.b d_Nam_want_47 (by decide) ?_
        exact px_iret (v := 0) S hr rfl hlk hAe hw (Nat.le_of_ble_eq_true rfl) (Nat.le_of_ble_eq_true rfl) (rfl) d_Nam_want_48
      · have nc8 : ¬ z7.toInt < (0 : Int) := mt (i_lt (x := z7) (y := 0)).mpr c8
        refine lv_iload_n S.x S.b d_Nam_want_29 rfl (lv_at hl 0 rfl) ?_
        refine lv_aload_n S.x S.b d_Nam_want_30 rfl (lv_at hl 1 rfl) ?_
        refine px_get S k_Nam hT hw 0 0 2 (v := .ref (rn 2)) rfl rfl rfl (by decide) m2_77 d_Nam_want_31 ?_
        refine px_len S hT hw 0 1 0 rfl rfl rfl (v := 2048) rfl d_Nam_want_34 ?_
        refine lv_icmp_ge (tgt := 47) S.x S.b d_Nam_want_35 (by decide) (fun c9 => ?_) (fun c9 => ?_)
        · have nc9 : (2048 : Int) ≤ z7.toInt := (i_le (x := 2048) (y := z7)).mp c9
          refine lv_iconst (v := 0) S.x S.b d_Nam_want_47 (by decide) ?_
          exact px_iret (v := 0) S hr rfl hlk hAe hw (Nat.le_of_ble_eq_true rfl) (Nat.le_of_ble_eq_true rfl) (rfl) d_Nam_want_48
        · have nc9 : ¬ (2048 : Int) ≤ z7.toInt := mt (i_le (x := 2048) (y := z7)).mpr c9
          refine lv_aload_n S.x S.b d_Nam_want_38 rfl (lv_at hl 1 rfl) ?_
          refine px_get S k_Nam hT hw 0 0 2 (v := .ref (rn 2)) rfl rfl rfl (by decide) m2_77 d_Nam_want_39 ?_
          refine lv_iload_n S.x S.b d_Nam_want_42 rfl (lv_at hl 0 rfl) ?_
          refine px_iald S hT hw 0 1 (n := 2048) (f := (na 2)) rfl (ga_Nam_2 _ _ _ _ _ _ _) (x := z7) (vp_in_iff.mpr (by first | exact oz_f4db95235a nc8 nc9 | (constructor <;> omega))) d_Nam_want_43 ?_
          refine lv_topi (fun z10 ez10 => ?_)
          have lz10 := Int32.le_toInt z10
          have uz10 := Int32.toInt_lt z10
          refine lv_goto (tgt := 48) S.x S.b d_Nam_want_44 (by decide) ?_
          exact px_iret (v := z10) S hr rfl hlk hAe hw (Nat.le_of_ble_eq_true rfl) (Nat.le_of_ble_eq_true rfl) (rfl) d_Nam_want_48
    · have nc5 : ¬ p0.toInt < (s3 4).toInt := mt (i_lt (x := p0) (y := (s3 4))).mpr c5
      refine lv_iconst (v := 0) S.x S.b d_Nam_want_16 (by decide) ?_
      exact px_iret (v := 0) S hr rfl hlk hAe hw (Nat.le_of_ble_eq_true rfl) (Nat.le_of_ble_eq_true rfl) (rfl) d_Nam_want_17
set_option maxHeartbeats 4000000 in
set_option maxRecDepth 100000 in
theorem c_nm_want (l : Launch) (D : va_G) (cs : Nat → ClassId) (hn : Nat) (rn : Nat → Nat) (no : Nat → Option Nat) (na : Nat → Nat → Int32) (ng : Nat → Nat → Option Nat) (own : Bool) (lq : Nat) (lc : Nat) (fq : Nat) (fc : Nat) (P : va_W) (nf : Nat → Int32) (lf : Nat → Int32) (lg : Nat → Option Nat) (ff : Nat → Int32) (fg : Nat → Option Nat) (p0 : Int32) (fo : Option Nat) (hinv0 : NmOk P own (lf 1) (ff 1) lc fc lg fg) (hsy : Sy P fo) : MetI l y_Nam_want b_Nam_want 4 (.int) D cs 0 0 (0) (0) [.ref hn, va_rf fo, .int p0] [wd_Nam cs hn rn no nf na ng, wd_Lst cs (rn 0) (fun _ => 0) (fun k => if k = 0 then (some lq) else none) lf (fun _ _ => 0) (fun _ _ => none), lA cs own lq lc lg, wd_Lst cs (rn 1) (fun _ => 0) (fun k => if k = 0 then (some fq) else none) ff (fun _ _ => 0) (fun _ _ => none), [(fq, .inl (cs 12, fc, .inr (.inr (.inr (.inr fg)))))], P] (fun _ => True) (fun v ps => (ps = [wd_Nam cs hn rn no nf na ng, wd_Lst cs (rn 0) (fun _ => 0) (fun k => if k = 0 then (some lq) else none) lf (fun _ _ => 0) (fun _ _ => none), lA cs own lq lc lg, wd_Lst cs (rn 1) (fun _ => 0) (fun k => if k = 0 then (some fq) else none) ff (fun _ _ => 0) (fun _ _ => none), [(fq, .inl (cs 12, fc, .inr (.inr (.inr (.inr fg)))))], P])) := by
  cases fo with
  | none => exact c_nm_want_n l D cs hn rn no na ng own lq lc fq fc P nf lf lg ff fg p0 hinv0
  | some fa => exact c_nm_want_r l D cs hn rn no na ng own lq lc fq fc P nf lf lg ff fg p0 fa hinv0 hsy
