theorem oz_a184d590f6 {a0 : Int} (h0 : a0 = 0) : (0 : Int) ≤ a0 := by omega
theorem oz_27ba68c345 {a0 : Int} (h0 : a0 = 0) : a0 ≤ 2 := by omega
theorem oz_9bed2a5282 {a0 : Int} (h0 : a0 = 0) : a0 ≤ 512 := by omega
theorem oz_608604f679 {n0 : Nat} (h0 : (n0 : Int) = 8) : n0 = 8 := by omega
theorem oz_668794202e {a1 : Int} {n0 : Nat} (h0 : (n0 : Int) = a1) (h1 : a1 ≤ 13) (h2 : (13 : Int) ≤ a1) : n0 = 13 := by omega
theorem oz_60c95426bd {a1 : Int} {n0 : Nat} (h0 : (n0 : Int) = 308 + 11 * a1) (h1 : a1 ≤ 13) : n0 ≤ 451 := by omega
theorem oz_4529392129 {a1 : Int} {n0 : Nat} (h0 : (n0 : Int) = 523453 + 100350 * a1) (h1 : a1 ≤ 13) : n0 ≤ 1828003 := by omega
theorem oz_4b1876873c {a1 : Int} {n0 : Nat} (h0 : (n0 : Int) = 308 + 11 * a1) (h1 : ¬ (13 : Int) ≤ a1) : n0 + 1 ≤ 451 := by omega
theorem oz_de31898d30 {a1 : Int} {n0 : Nat} (h0 : (n0 : Int) = 523453 + 100350 * a1) (h1 : ¬ (13 : Int) ≤ a1) : n0 + 26 ≤ 1828003 := by omega
theorem oz_7988130f8c {a1 : Int} {n0 : Nat} (h0 : (n0 : Int) = 308 + 11 * a1) (h1 : ¬ (13 : Int) ≤ a1) : (n0 + 1) + 10 ≤ 451 := by omega
theorem oz_28ed887046 {a1 : Int} {n0 : Nat} (h0 : (n0 : Int) = 523453 + 100350 * a1) (h1 : ¬ (13 : Int) ≤ a1) : (n0 + 26) + 100324 ≤ 1828003 := by omega
theorem oz_841d12a021 {a1 a2 : Int} {n0 : Nat} (h0 : (n0 : Int) = a2) (h1 : a1 = a2 + 1) : ((n0 + 1) : Int) = a1 := by omega
theorem oz_f38aee7847 {a1 a2 : Int} {n0 : Nat} (h0 : (n0 : Int) = 308 + 11 * a2) (h1 : a1 = a2 + 1) : (((n0 + 1) + 10) : Int) = 308 + 11 * a1 := by omega
theorem oz_07051a4021 {a1 a2 : Int} {n0 : Nat} (h0 : (n0 : Int) = 523453 + 100350 * a2) (h1 : a1 = a2 + 1) : (((n0 + 26) + 100324) : Int) = 523453 + 100350 * a1 := by omega
theorem oz_38ddcaae78 {a1 : Int} {n0 : Nat} (h0 : (n0 : Int) = a1) (h1 : a1 ≤ 8) (h2 : (8 : Int) ≤ a1) : (n0 : Int) = 8 := by omega
theorem oz_d486a77998 {n0 : Nat} (h0 : (n0 : Int) = 0) : (n0 : Int) = (0 : Int) := by omega
theorem oz_78d0a2ecec {a1 : Int} {n0 : Nat} (h0 : (n0 : Int) = 4 + 38 * a1) (h1 : a1 ≤ 8) (h2 : (8 : Int) ≤ a1) : (n0 : Int) = 308 + 11 * (0 : Int) := by omega
theorem oz_4a2a8b47dd {a1 : Int} {n0 : Nat} (h0 : (n0 : Int) = 2197 + 65157 * a1) (h1 : a1 ≤ 8) (h2 : (8 : Int) ≤ a1) : (n0 : Int) = 523453 + 100350 * (0 : Int) := by omega
theorem oz_d1fe9b7173 {a1 : Int} {n0 : Nat} (h0 : (n0 : Int) = 4 + 38 * a1) (h1 : ¬ (8 : Int) ≤ a1) : n0 + 1 ≤ 451 := by omega
theorem oz_1a4684aa14 {a1 : Int} {n0 : Nat} (h0 : (n0 : Int) = 2197 + 65157 * a1) (h1 : ¬ (8 : Int) ≤ a1) : n0 + 69 ≤ 1828003 := by omega
theorem oz_7ed8029986 {a1 : Int} {n0 : Nat} (h0 : (n0 : Int) = 4 + 38 * a1) (h1 : ¬ (8 : Int) ≤ a1) : (n0 + 1) + 37 ≤ 451 := by omega
theorem oz_b04b2c8b4f {a1 : Int} {n0 : Nat} (h0 : (n0 : Int) = 2197 + 65157 * a1) (h1 : ¬ (8 : Int) ≤ a1) : (n0 + 69) + 65088 ≤ 1828003 := by omega
theorem oz_1e3a0eb332 {a0 : Int} {n1 : Nat} (h0 : (n1 : Int) = 2197 + 65157 * a0) (h1 : ¬ (8 : Int) ≤ a0) : 0 ≤ a0 ∧ a0 < ((8 : Nat) : Int) := by omega
theorem oz_20f8bb4268 {a0 a1 : Int} {n2 : Nat} (h0 : a0 = a1 + 1) (h1 : (n2 : Int) = 2197 + 65157 * a1) : 0 ≤ a0 := by omega
theorem oz_6680400ccf {a0 a1 : Int} (h0 : a0 = a1 + 1) (h1 : ¬ (8 : Int) ≤ a1) : a0 ≤ 8 := by omega
theorem oz_00084f3c15 {a1 a2 : Int} {n0 : Nat} (h0 : (n0 : Int) = 4 + 38 * a2) (h1 : a1 = a2 + 1) : (((n0 + 1) + 37) : Int) = 4 + 38 * a1 := by omega
theorem oz_f552a050d5 {a1 a2 : Int} {n0 : Nat} (h0 : (n0 : Int) = 2197 + 65157 * a2) (h1 : a1 = a2 + 1) : (((n0 + 69) + 65088) : Int) = 2197 + 65157 * a1 := by omega
theorem oz_1716f12220 {a0 a2 : Int} {n1 : Nat} (h0 : 8 - a2 < ((n1 + 1 : Nat) : Int)) (h1 : a0 = a2 + 1) : 8 - a0 < (n1 : Int) := by omega
theorem oz_c4881892eb  : (0 : Int) ≤ 8 := by omega
theorem m9_132 : Cond.classLink "HomeSystemModel" 19 "HomeSystemModel$Process" ∈ AL := AL_9 (List.mem_of_getElem? (i := 132) rfl) rfl
theorem m10_214 : Cond.instantiable "HomeSystemModel$Process" 26 ∈ AL := AL_10 (List.mem_of_getElem? (i := 214) rfl) rfl
theorem m10_215n : Cond.methodLinkNest "HomeSystemModel" 34 ⟨"HomeSystemModel$Process", "<init>", "()V"⟩ "HomeSystemModel" ∈ tables_1 := by unfold tables_1; exact List.mem_append_right _ (List.mem_append_right _ (List.mem_append_right _ (List.mem_append_right _ (List.mem_append_right _ (List.mem_append_right _ (List.mem_append_right _ (List.mem_append_right _ (List.mem_append_right _ (List.mem_append_left _ (List.mem_of_getElem? (i := 215) rfl))))))))))
theorem m10_217 : Cond.code ⟨"HomeSystemModel$Process", "<init>", "()V"⟩ prog_15_method_1_code 1 (Option.none : Option Jvm.ClassFile.FieldType) ∈ AL := AL_10 (List.mem_of_getElem? (i := 217) rfl) rfl
theorem m10_216 : Cond.instanceMethod ⟨"HomeSystemModel$Process", "<init>", "()V"⟩ ∈ AL := AL_10 (List.mem_of_getElem? (i := 216) rfl) rfl
theorem m9_130 : Cond.classLink "HomeSystemModel" 13 "HomeSystemModel$Program" ∈ AL := AL_9 (List.mem_of_getElem? (i := 130) rfl) rfl
theorem m9_134 : Cond.instantiable "HomeSystemModel$Program" 69 ∈ AL := AL_9 (List.mem_of_getElem? (i := 134) rfl) rfl
theorem m9_135n : Cond.methodLinkNest "HomeSystemModel" 33 ⟨"HomeSystemModel$Program", "<init>", "()V"⟩ "HomeSystemModel" ∈ tables_1 := by unfold tables_1; exact List.mem_append_right _ (List.mem_append_right _ (List.mem_append_right _ (List.mem_append_right _ (List.mem_append_right _ (List.mem_append_right _ (List.mem_append_right _ (List.mem_append_right _ (List.mem_append_left _ (List.mem_of_getElem? (i := 135) rfl)))))))))
theorem m9_137 : Cond.code ⟨"HomeSystemModel$Program", "<init>", "()V"⟩ prog_16_method_1_code 1 (Option.none : Option Jvm.ClassFile.FieldType) ∈ AL := AL_9 (List.mem_of_getElem? (i := 137) rfl) rfl
theorem m9_136 : Cond.instanceMethod ⟨"HomeSystemModel$Program", "<init>", "()V"⟩ ∈ AL := AL_9 (List.mem_of_getElem? (i := 136) rfl) rfl
theorem m9_129 : Cond.methodLink "HomeSystemModel" 1 ⟨"java/lang/Object", "<init>", "()V"⟩ ∈ AL := AL_9 (List.mem_of_getElem? (i := 129) rfl) rfl
/-! THE SYSTEM of the reference is made -/
def pg0 : Pgs := ⟨0, fun _ => 0, fun _ _ => none, fun _ => 0, fun _ _ => 0, fun _ => 0, fun _ _ => 0, fun _ _ => 0, fun _ _ => 0, fun _ => 0, fun _ _ => 0, fun _ => 0, fun _ _ => 0, fun _ => 0, fun _ _ => 0⟩
def pgz (h : Nat) (r : Nat → Nat) (g : Nat → Nat → Option Nat) : Pgs := ⟨h, r, g, fun _ => 0, fun _ _ => 0, fun _ => 0, fun _ _ => 0, fun _ _ => 0, fun _ _ => 0, fun _ => 0, fun _ _ => 0, fun _ => 0, fun _ _ => 0, fun _ => 0, fun _ _ => 0⟩
def MoN (mf : Nat → Int32) : Prop := (mf 2).toInt = 0 ∧ (mf 10).toInt = 6000
def CgI (sK : Nat → Nat → Nat) (gm : Nat → Nat → Option Nat) (np : Nat) (PG : Nat → Pgs) : Prop := ∀ j : Nat, j < np → gm 4 j = some (PG j).h ∧ PgO (PG j) ∧ gK sK (PG j).g ∧ ((PG j).xf 66).toInt = 0
def CqI (gm : Nat → Nat → Option Nat) (nq : Nat) (hq : Nat → Nat) : Prop := ∀ j : Nat, j < nq → gm 5 j = some (hq j)
theorem pgo_z {h : Nat} {r : Nat → Nat} {g : Nat → Nat → Option Nat} : PgO (pgz h r g) := by
  have z : (0 : Int32).toInt = 0 := rfl
  exact ⟨⟨⟨(show (0 : Int) ≤ (0 : Int32).toInt from by first | exact oz_a184d590f6 z | omega), (show (0 : Int32).toInt ≤ 2 from by first | exact oz_27ba68c345 z | omega)⟩, ⟨(show (0 : Int) ≤ (0 : Int32).toInt from by first | exact oz_a184d590f6 z | omega), (show (0 : Int32).toInt ≤ 1 from by first | exact oz_270f4ea0b1 z | omega)⟩, ⟨(show (0 : Int) ≤ (0 : Int32).toInt from by first | exact oz_a184d590f6 z | omega), (show (0 : Int32).toInt ≤ 1 from by first | exact oz_270f4ea0b1 z | omega)⟩⟩, ⟨(show (0 : Int) ≤ (0 : Int32).toInt from by first | exact oz_a184d590f6 z | omega), (show (0 : Int32).toInt ≤ 512 from by first | exact oz_9bed2a5282 z | omega)⟩, fun q => absurd (show (0 : Int32).toInt = 1 from q) (by omega)⟩
theorem cgi_0 {sK : Nat → Nat → Nat} {gm : Nat → Nat → Option Nat} {PG : Nat → Pgs} : CgI sK gm 0 PG := fun j hj => absurd hj (Nat.not_lt_zero _)
theorem cqi_0 {gm : Nat → Nat → Option Nat} {hq : Nat → Nat} : CqI gm 0 hq := fun j hj => absurd hj (Nat.not_lt_zero _)
theorem CgI.s {sK : Nat → Nat → Nat} {gm gm' : Nat → Nat → Option Nat} {np x h : Nat} {PG PG' : Nat → Pgs} {r : Nat → Nat} {g : Nat → Nat → Option Nat} (c : CgI sK gm np PG) (u : gm' = va_up gm 4 (va_up (gm 4) x (some h))) (v : PG' = va_up PG np (pgz h r g)) (k : gK sK g) (hx : x = np) : CgI sK gm' (np + 1) PG' := fun j hj => by
  subst u; subst v; subst hx
  rw [va_up_s]
  by_cases e : j = x
  · subst e; rw [va_up_s, va_up_s]; exact ⟨rfl, pgo_z, k, rfl⟩
  · rw [va_up_n e, va_up_n e]; exact c j (by omega)
theorem CgI.o {sK : Nat → Nat → Nat} {gm gm' : Nat → Nat → Option Nat} {np : Nat} {PG : Nat → Pgs} {y : Nat → Option Nat} (c : CgI sK gm np PG) (u : gm' = va_up gm 5 y) : CgI sK gm' np PG := fun j hj => by
  subst u; rw [va_up_n (by decide)]; exact c j hj
theorem CqI.s {gm gm' : Nat → Nat → Option Nat} {nq x h : Nat} {hq hq' : Nat → Nat} (c : CqI gm nq hq) (u : gm' = va_up gm 5 (va_up (gm 5) x (some h))) (v : hq' = va_up hq nq h) (hx : x = nq) : CqI gm' (nq + 1) hq' := fun j hj => by
  subst u; subst v; subst hx
  rw [va_up_s]
  by_cases e : j = x
  · subst e; rw [va_up_s, va_up_s]
  · rw [va_up_n e, va_up_n e]; exact c j (by omega)
theorem fm_eq {n : Nat} {T T' : Nat → va_W} (h : ∀ i : Nat, i < n → T' i = T i) : fm n T' = fm n T := by
  unfold fm
  congr 1
  exact List.map_congr_left (fun i hi => h i (List.mem_range.mp hi))
/-- one more -/
theorem fm_grow {D : va_G} {A : Nat → Prop} {H0 H : Heap} {locs : List Loc} {pr : List va_W} {n : Nat} {T T' : Nat → va_W} {w : va_W} (hw : pw D A H0 H locs (pr ++ [fm n T, w])) (h1 : ∀ i : Nat, i < n → T' i = T i) (h2 : T' n = w) : pw D A H0 H locs (pr ++ [fm (n + 1) T']) := by
  refine hw.eq ?_
  rw [pp_two, List.flatten_append, fm_s, fm_eq h1, h2]
  simp
theorem arrV_ext {cA : ClassId} {n : Nat} {f f' : Nat → Option Nat} (h : ∀ i : Nat, i < n → f i = f' i) : vp_cell cA (n, .inr (.inr (.inr (.inr f)))) = vp_cell cA (n, .inr (.inr (.inr (.inr f')))) := by
  rw [vp_cell_q, vp_cell_q]
  unfold arrV
  congr 2
  funext j
  show va_rf (f j.val) = va_rf (f' j.val)
  rw [h j.val j.isLt]
theorem pw_same {D : va_G} {A : Nat → Prop} {H0 H : Heap} {locs : List Loc} {ps qs : List va_W} (hw : pw D A H0 H locs ps) (h : ∀ (k : Nat) (q : Nat × va_E), qs.flatten[k]? = some q → ∃ q0, ps.flatten[k]? = some q0 ∧ q0.1 = q.1 ∧ (va_at D classes q0 H → va_at D classes q H)) : pw D A H0 H locs qs := by
  refine ⟨fun k q hk => ?_, ⟨fun i j x y hx hy e => ?_, fun k q hk => ?_⟩, hw.2.2⟩
  · obtain ⟨q0, a, b, c⟩ := h k q hk
    exact c (hw.1 k q0 a)
  · obtain ⟨x0, a1, b1, -⟩ := h i x hx
    obtain ⟨y0, a2, b2, -⟩ := h j y hy
    exact hw.2.1.1 i j x0 y0 a1 a2 (by rw [b1, b2]; exact e)
  · obtain ⟨q0, a, b, -⟩ := h k q hk
    rw [← b]; exact hw.2.1.2 k q0 a
theorem mo_g {D : va_G} {A : Nat → Prop} {H0 H : Heap} {locs : List Loc} {rest : List va_W} {cs : Nat → ClassId} {h : Nat} {r : Nat → Nat} {o : Nat → Option Nat} {f : Nat → Int32} {a : Nat → Nat → Int32} {g g' : Nat → Nat → Option Nat} (hw : pw D A H0 H locs (wd_Mo cs h r o f a g :: rest)) (h4 : ∀ i : Nat, i < 8 → g 4 i = g' 4 i) (h5 : ∀ i : Nat, i < 13 → g 5 i = g' 5 i) : pw D A H0 H locs (wd_Mo cs h r o f a g' :: rest) := by
  refine pw_same hw (fun k q hk => ?_)
  match k, hk with
  | 0, hk => exact ⟨q, hk, rfl, id⟩
  | 1, hk => exact ⟨q, hk, rfl, id⟩
  | 2, hk =>
    have e : (r 4, (Sum.inl (cs 9, 8, .inr (.inr (.inr (.inr (g' 4))))) : va_E)) = q := Option.some.inj hk
    subst e
    exact ⟨(r 4, .inl (cs 9, 8, .inr (.inr (.inr (.inr (g 4)))))), rfl, rfl, fun hv => by
      show H[r 4]? = some (vp_cell (cs 9) (8, .inr (.inr (.inr (.inr (g' 4))))))
      rw [← arrV_ext h4]; exact hv⟩
  | 3, hk =>
    have e : (r 5, (Sum.inl (cs 10, 13, .inr (.inr (.inr (.inr (g' 5))))) : va_E)) = q := Option.some.inj hk
    subst e
    exact ⟨(r 5, .inl (cs 10, 13, .inr (.inr (.inr (.inr (g 5)))))), rfl, rfl, fun hv => by
      show H[r 5]? = some (vp_cell (cs 10) (13, .inr (.inr (.inr (.inr (g' 5))))))
      rw [← arrV_ext h5]; exact hv⟩
  | 4, hk => exact ⟨q, hk, rfl, id⟩
  | k + 5, hk => exact ⟨q, hk, rfl, id⟩
abbrev b_Mo_init : ByteArray := prog_14_method_1_code
def y_Mo_init : MethodName := ⟨"HomeSystemModel", "<init>", "()V"⟩
theorem d_Mo_init_0 : decode b_Mo_init 0 = .ok (.aload_n 0, 1) := by decide +kernel
theorem d_Mo_init_1 : decode b_Mo_init 1 = .ok (.invokespecial 1, 3) := by decide +kernel
theorem d_Mo_init_4 : decode b_Mo_init 4 = .ok (.aload_n 0, 1) := by decide +kernel
theorem d_Mo_init_5 : decode b_Mo_init 5 = .ok (.sipush 2048, 3) := by decide +kernel
theorem d_Mo_init_8 : decode b_Mo_init 8 = .ok (.newarray .byte, 2) := by decide +kernel
theorem d_Mo_init_10 : decode b_Mo_init 10 = .ok (.putfield 7, 3) := by decide +kernel
theorem d_Mo_init_13 : decode b_Mo_init 13 = .ok (.aload_n 0, 1) := by decide +kernel
theorem d_Mo_init_14 : decode b_Mo_init 14 = .ok (.bipush 8, 2) := by decide +kernel
theorem d_Mo_init_16 : decode b_Mo_init 16 = .ok (.anewarray 13, 3) := by decide +kernel
theorem d_Mo_init_19 : decode b_Mo_init 19 = .ok (.putfield 15, 3) := by decide +kernel
theorem d_Mo_init_22 : decode b_Mo_init 22 = .ok (.aload_n 0, 1) := by decide +kernel
theorem d_Mo_init_23 : decode b_Mo_init 23 = .ok (.bipush 13, 2) := by decide +kernel
theorem d_Mo_init_25 : decode b_Mo_init 25 = .ok (.anewarray 19, 3) := by decide +kernel
theorem d_Mo_init_28 : decode b_Mo_init 28 = .ok (.putfield 21, 3) := by decide +kernel
theorem d_Mo_init_31 : decode b_Mo_init 31 = .ok (.aload_n 0, 1) := by decide +kernel
theorem d_Mo_init_32 : decode b_Mo_init 32 = .ok (.sipush 128, 3) := by decide +kernel
theorem d_Mo_init_35 : decode b_Mo_init 35 = .ok (.newarray .int, 2) := by decide +kernel
theorem d_Mo_init_37 : decode b_Mo_init 37 = .ok (.putfield 25, 3) := by decide +kernel
theorem d_Mo_init_40 : decode b_Mo_init 40 = .ok (.aload_n 0, 1) := by decide +kernel
theorem d_Mo_init_41 : decode b_Mo_init 41 = .ok (.sipush 6000, 3) := by decide +kernel
theorem d_Mo_init_44 : decode b_Mo_init 44 = .ok (.putfield 29, 3) := by decide +kernel
theorem d_Mo_init_47 : decode b_Mo_init 47 = .ok (.iconst 0, 1) := by decide +kernel
theorem d_Mo_init_48 : decode b_Mo_init 48 = .ok (.istore_n 1, 1) := by decide +kernel
theorem d_Mo_init_49 : decode b_Mo_init 49 = .ok (.iload_n 1, 1) := by decide +kernel
theorem d_Mo_init_50 : decode b_Mo_init 50 = .ok (.bipush 8, 2) := by decide +kernel
theorem d_Mo_init_52 : decode b_Mo_init 52 = .ok (.if_icmp .ge 22, 3) := by decide +kernel
theorem d_Mo_init_55 : decode b_Mo_init 55 = .ok (.aload_n 0, 1) := by decide +kernel
theorem d_Mo_init_56 : decode b_Mo_init 56 = .ok (.getfield 15, 3) := by decide +kernel
theorem d_Mo_init_59 : decode b_Mo_init 59 = .ok (.iload_n 1, 1) := by decide +kernel
theorem d_Mo_init_60 : decode b_Mo_init 60 = .ok (.new 13, 3) := by decide +kernel
theorem d_Mo_init_63 : decode b_Mo_init 63 = .ok (.dup, 1) := by decide +kernel
theorem d_Mo_init_64 : decode b_Mo_init 64 = .ok (.invokespecial 33, 3) := by decide +kernel
theorem d_Mo_init_67 : decode b_Mo_init 67 = .ok (.aastore, 1) := by decide +kernel
theorem d_Mo_init_68 : decode b_Mo_init 68 = .ok (.iinc 1 1, 3) := by decide +kernel
theorem d_Mo_init_71 : decode b_Mo_init 71 = .ok (.goto (-22), 3) := by decide +kernel
theorem d_Mo_init_74 : decode b_Mo_init 74 = .ok (.iconst 0, 1) := by decide +kernel
theorem d_Mo_init_75 : decode b_Mo_init 75 = .ok (.istore_n 1, 1) := by decide +kernel
theorem d_Mo_init_76 : decode b_Mo_init 76 = .ok (.iload_n 1, 1) := by decide +kernel
theorem d_Mo_init_77 : decode b_Mo_init 77 = .ok (.bipush 13, 2) := by decide +kernel
theorem d_Mo_init_79 : decode b_Mo_init 79 = .ok (.if_icmp .ge 22, 3) := by decide +kernel
theorem d_Mo_init_82 : decode b_Mo_init 82 = .ok (.aload_n 0, 1) := by decide +kernel
theorem d_Mo_init_83 : decode b_Mo_init 83 = .ok (.getfield 21, 3) := by decide +kernel
theorem d_Mo_init_86 : decode b_Mo_init 86 = .ok (.iload_n 1, 1) := by decide +kernel
theorem d_Mo_init_87 : decode b_Mo_init 87 = .ok (.new 19, 3) := by decide +kernel
theorem d_Mo_init_90 : decode b_Mo_init 90 = .ok (.dup, 1) := by decide +kernel
theorem d_Mo_init_91 : decode b_Mo_init 91 = .ok (.invokespecial 34, 3) := by decide +kernel
theorem d_Mo_init_94 : decode b_Mo_init 94 = .ok (.aastore, 1) := by decide +kernel
theorem d_Mo_init_95 : decode b_Mo_init 95 = .ok (.iinc 1 1, 3) := by decide +kernel
theorem d_Mo_init_98 : decode b_Mo_init 98 = .ok (.goto (-22), 3) := by decide +kernel
theorem d_Mo_init_101 : decode b_Mo_init 101 = .ok (.return_, 1) := by decide +kernel
theorem q_Mo_init : px_y y_Mo_init 0 := by unfold px_y; decide +kernel
set_option maxHeartbeats 4000000 in
set_option maxRecDepth 100000 in
theorem c_mo_init (l : Launch) (D : va_G) (cs : Nat → ClassId) (sK : Nat → Nat → Nat) (mo : Nat) (mr : Nat → Nat) (mf : Nat → Int32) (md : Nat → Nat → Int32) (gm : Nat → Nat → Option Nat) (nq : Nat) (hq : Nat → Nat) (qr : Nat → Nat → Nat) (np : Nat) (PG : Nat → Pgs)   : MgV l y_Mo_init b_Mo_init 2 D cs 2 60 (451) (1828003) [.ref mo] [[(mo, .inr (11, [.int 0, .null, .int 0, .int 0, .null, .null, .null, .int 0, .int 0, .int 0, .int 0]))]] (oX (fun A U H => (oK sK A U H)) [[(mo, .inr (11, [.int 0, .null, .int 0, .int 0, .null, .null, .null, .int 0, .int 0, .int 0, .int 0]))]]) (fun ps => ∃ (mr : Nat → Nat) (mf : Nat → Int32) (md : Nat → Nat → Int32) (PG : Nat → Pgs) (hq : Nat → Nat) (qr : Nat → Nat → Nat), ps.1.flatten = [wd_Mo cs mo mr (fun _ => none) mf md (gMo PG hq), fm 13 (fPr cs hq qr (fun _ => none) (fun _ _ => 0) (fun _ _ _ => 0)), fm 8 (fPg cs PG)].flatten ∧ MoN mf ∧ PgA PG ∧ (∀ j : Nat, j < 8 → gK sK (PG j).g) ∧ ∀ j : Nat, j < 8 → ((PG j).xf 66).toInt = 0) := by
  refine pg_enter (by decide) (Nat.le_of_ble_eq_true rfl) ?_
  intro p e s m below meth c A ls hAe S hr hlk hnm hA hT hX hw hl
  have hin : meth.name = "<init>" := hnm
  have hl : lv_has ls 2 [(0, .ref mo)] := hl
  have cst0 : (0 : Int32).toInt = 0 := rfl
  have cst8 : (8 : Int32).toInt = 8 := rfl
  have cst13 : (13 : Int32).toInt = 13 := rfl
  have cst128 : (128 : Int32).toInt = 128 := rfl
  have cst2048 : (2048 : Int32).toInt = 2048 := rfl
  have cst6000 : (6000 : Int32).toInt = 6000 := rfl
  have hX : (fun A U H => (oK sK A U H)) A s s.heap := by rw [hAe]; exact hX
  have hK := hX
  have J76 : ∀ (n_76 : Nat) (ce_76 sl_76 : Nat) (mr_76 : Nat → Nat) (mf_76 : Nat → Int32) (md_76 : Nat → Nat → Int32) (gm_76 : Nat → Nat → Option Nat) (nq_76 : Nat) (hq_76 : Nat → Nat) (qr_76 : Nat → Nat → Nat) (np_76 : Nat) (PG_76 : Nat → Pgs) (x76_1 : Int32) (H : Heap) (locs : List Loc) (ls : Array Slot), (MoN mf_76) → (CgI sK gm_76 np_76 PG_76) → (CqI gm_76 nq_76 hq_76) → ((np_76 : Int) = 8) → ((nq_76 : Int) = x76_1.toInt) → (0 ≤ x76_1.toInt) → (x76_1.toInt ≤ 13) → ((ce_76 : Int) = 308 + 11 * x76_1.toInt) → ((sl_76 : Int) = 523453 + 100350 * x76_1.toInt) → 13 - x76_1.toInt < (n_76 : Int) → pw D A s.heap H locs [wd_Mo cs mo mr_76 (fun _ => none) mf_76 md_76 gm_76, fm nq_76 (fPr cs hq_76 qr_76 (fun _ => none) (fun _ _ => 0) (fun _ _ _ => 0)), fm np_76 (fPg cs PG_76)] → lv_has ls 2 [(0, .ref mo), (1, .int x76_1)] → W p l e { frames := 2, cells := 451, slots := 1828003, locals := 60 } s m [.ref mo].toArray below meth c H locs ce_76 sl_76 (MQ below (va_Qv (fun ps => ∃ (mr : Nat → Nat) (mf : Nat → Int32) (md : Nat → Nat → Int32) (PG : Nat → Pgs) (hq : Nat → Nat) (qr : Nat → Nat → Nat), ps.1.flatten = [wd_Mo cs mo mr (fun _ => none) mf md (gMo PG hq), fm 13 (fPr cs hq qr (fun _ => none) (fun _ _ => 0) (fun _ _ _ => 0)), fm 8 (fPg cs PG)].flatten ∧ MoN mf ∧ PgA PG ∧ (∀ j : Nat, j < 8 → gK sK (PG j).g) ∧ ∀ j : Nat, j < 8 → ((PG j).xf 66).toInt = 0) (pg_B D (va_A ([[(mo, .inr (11, [.int 0, .null, .int 0, .int 0, .null, .null, .null, .int 0, .int 0, .int 0, .int 0]))]] : List va_W).flatten s.heap.size) s.heap.size (tot s.heap)) (va_A ([[(mo, .inr (11, [.int 0, .null, .int 0, .int 0, .null, .null, .null, .int 0, .int 0, .int 0, .int 0]))]] : List va_W).flatten s.heap.size)) [.ref mo].toArray s 451 1828003 A) (F0 m 76 ls []) := by
    intro  n_76
    induction n_76 with
    | zero =>
      intro ce_76 sl_76 mr_76 mf_76 md_76 gm_76 nq_76 hq_76 qr_76 np_76 PG_76 x76_1 H locs ls k76_0 k76_1 k76_2 k76_3 k76_4 k76_5 k76_6 k76_7 k76_8 hm hw hl
      have lx76_1 := Int32.le_toInt x76_1
      have ux76_1 := Int32.toInt_lt x76_1
      have hmn := k76_0
      have hcg := k76_1
      have hch := k76_2
      exact absurd hm (by omega)
    | succ n_76 ih76 =>
      intro ce_76 sl_76 mr_76 mf_76 md_76 gm_76 nq_76 hq_76 qr_76 np_76 PG_76 x76_1 H locs ls k76_0 k76_1 k76_2 k76_3 k76_4 k76_5 k76_6 k76_7 k76_8 hm hw hl
      have lx76_1 := Int32.le_toInt x76_1
      have ux76_1 := Int32.toInt_lt x76_1
      have hmn := k76_0
      have hcg := k76_1
      have hch := k76_2
      refine lv_iload_n S.x S.b d_Mo_init_76 rfl (lv_at hl 1 rfl) ?_
      refine lv_bipush (v := 13) S.x S.b d_Mo_init_77 (by decide) ?_
      refine lv_icmp_ge (tgt := 101) S.x S.b d_Mo_init_79 (by decide) (fun c1 => ?_) (fun c1 => ?_)
      · have nc1 : (13 : Int) ≤ x76_1.toInt := (i_le (x := 13) (y := x76_1)).mp c1
        have e8 : np_76 = 8 := by first | exact oz_608604f679 k76_3 | omega
        have e13 : nq_76 = 13 := by first | exact oz_668794202e k76_4 k76_6 nc1 | omega
        subst e8
        subst e13
        have hw := hw.sub (qs := [wd_Mo cs mo mr_76 (fun _ => none) mf_76 md_76 gm_76, fm 13 (fPr cs hq_76 qr_76 (fun _ => none) (fun _ _ => 0) (fun _ _ _ => 0)), fm 8 (fPg cs PG_76)]) [0, 1, 2] rfl rfl
        have hw : pw D A s.heap _ _ [wd_Mo cs mo mr_76 (fun _ => none) mf_76 md_76 (gMo PG_76 hq_76), fm 13 (fPr cs hq_76 qr_76 (fun _ => none) (fun _ _ => 0) (fun _ _ _ => 0)), fm 8 (fPg cs PG_76)] := mo_g (g' := gMo PG_76 hq_76) hw (fun i9 h9 => (hcg i9 h9).1) (fun i9 h9 => hch i9 h9)
        exact pg_vret S hr hlk hAe hw (show ce_76 ≤ 451 from by first | exact oz_60c95426bd k76_7 k76_6 | omega) (show sl_76 ≤ 1828003 from by first | exact oz_4529392129 k76_8 k76_6 | omega) (⟨mr_76, mf_76, md_76, PG_76, hq_76, qr_76, rfl, hmn, (fun j9 h9 => (hcg j9 h9).2.1), (fun j9 h9 => (hcg j9 h9).2.2.1), (fun j9 h9 => (hcg j9 h9).2.2.2)⟩) d_Mo_init_101
      · have nc1 : ¬ (13 : Int) ≤ x76_1.toInt := mt (i_le (x := 13) (y := x76_1)).mpr c1
        refine lv_aload_n S.x S.b d_Mo_init_82 rfl (lv_at hl 0 rfl) ?_
        refine px_get S k_Mo hT hw 0 0 5 (v := .ref (mr_76 5)) rfl rfl rfl (by decide) m11_83 d_Mo_init_83 ?_
        refine lv_iload_n S.x S.b d_Mo_init_86 rfl (lv_at hl 1 rfl) ?_
        refine px_new S k_Mpr hT hw hA m9_132 m10_214 m1_22 (fs := [.null, .int 0, .int 0, .int 0, .int 0, .int 0, .int 0, .int 0, .null, .null, .int 0, .int 0, .int 0, .int 0, .int 0, .null, .null, .null, .null, .null, .null, .int 0, .null, .int 0, .int 0, .null]) (by decide +kernel) (show ce_76 + 1 ≤ 451 from by first | exact oz_4b1876873c k76_7 nc1 | omega) (show sl_76 + 26 ≤ 1828003 from by first | exact oz_de31898d30 k76_8 nc1 | omega) d_Mo_init_87 (fun q3 H hw => ?_)
        have hw : pw D A s.heap H _ [wd_Mo cs mo mr_76 (fun _ => none) mf_76 md_76 gm_76, fm nq_76 (fPr cs hq_76 qr_76 (fun _ => none) (fun _ _ => 0) (fun _ _ _ => 0)), fm np_76 (fPg cs PG_76), [(q3, .inr (13, [.null, .int 0, .int 0, .int 0, .int 0, .int 0, .int 0, .int 0, .null, .null, .int 0, .int 0, .int 0, .int 0, .int 0, .null, .null, .null, .null, .null, .null, .int 0, .null, .int 0, .int 0, .null]))]] := hw
        refine lv_dup S.x S.b d_Mo_init_90 rfl ?_
        refine px_callv (pr := [wd_Mo cs mo mr_76 (fun _ => none) mf_76 md_76 gm_76, fm nq_76 (fPr cs hq_76 qr_76 (fun _ => none) (fun _ _ => 0) (fun _ _ _ => 0)), fm np_76 (fPg cs PG_76)]) (px_runIN (As := []) (rest := [.ref q3, .int x76_1, .ref (mr_76 5)]) S (c_Mpr_init l D cs q3 _) hT (pr := [wd_Mo cs mo mr_76 (fun _ => none) mf_76 md_76 gm_76, fm nq_76 (fPr cs hq_76 qr_76 (fun _ => none) (fun _ _ => 0) (fun _ _ _ => 0)), fm np_76 (fPg cs PG_76)]) (pcs := [[(q3, .inr (13, [.null, .int 0, .int 0, .int 0, .int 0, .int 0, .int 0, .int 0, .null, .null, .int 0, .int 0, .int 0, .int 0, .int 0, .null, .null, .null, .null, .null, .null, .int 0, .null, .int 0, .int 0, .null]))]]) hw px_X.tt m10_217 m10_215n m10_216 m1_22 rfl q_Mpr_init ⟨Nat.le_of_ble_eq_true rfl, Nat.le_of_ble_eq_true rfl⟩ hl.1 rfl (Nat.le_of_ble_eq_true rfl) d_Mo_init_91 ⟨show (ce_76 + 1) + 10 ≤ 451 from (by first | exact oz_7988130f8c k76_7 nc1 | omega), show (sl_76 + 26) + 100324 ≤ 1828003 from (by first | exact oz_28ed887046 k76_8 nc1 | omega)⟩) hw hA (fun p8 H locs hp8 hw => ?_)
        obtain ⟨rj4, hfl6⟩ := hp8
        have hw := hw.eq (qs := [wd_Mo cs mo mr_76 (fun _ => none) mf_76 md_76 gm_76, fm nq_76 (fPr cs hq_76 qr_76 (fun _ => none) (fun _ _ => 0) (fun _ _ _ => 0)), fm np_76 (fPg cs PG_76), wd_Mpr cs q3 rj4 (fun _ => none) (fun _ => 0) (fun _ _ => 0) (fun _ _ => none)]) (by rw [List.flatten_append, hfl6]; simp only [List.flatten_cons, List.flatten_nil, List.append_nil, List.append_assoc])
        have hw : pw D A s.heap H locs [wd_Mo cs mo mr_76 (fun _ => none) mf_76 md_76 gm_76, fm nq_76 (fPr cs hq_76 qr_76 (fun _ => none) (fun _ _ => 0) (fun _ _ _ => 0)), fm np_76 (fPg cs PG_76), wd_Mpr cs q3 rj4 (fun _ => none) (fun _ => 0) (fun _ _ => 0) (fun _ _ => none)] := hw
        refine px_aast S hT hw 0 3 10 3 0 (n := 13) (f := (gm_76 5)) rfl rfl rfl rfl rfl rfl (x := x76_1) (vp_in_iff.mpr (by first | exact oz_10a7a22e11 k76_5 nc1 | (constructor <;> omega))) d_Mo_init_94 (w' := wd_Mo cs mo mr_76 (fun _ => none) mf_76 md_76 (va_up gm_76 5 (va_up (gm_76 5) x76_1.toNatClampNeg (some q3)))) (ps' := [wd_Mo cs mo mr_76 (fun _ => none) mf_76 md_76 (va_up gm_76 5 (va_up (gm_76 5) x76_1.toNatClampNeg (some q3))), fm nq_76 (fPr cs hq_76 qr_76 (fun _ => none) (fun _ _ => 0) (fun _ _ _ => 0)), fm np_76 (fPg cs PG_76), wd_Mpr cs q3 rj4 (fun _ => none) (fun _ => 0) (fun _ _ => 0) (fun _ _ => none)]) rfl rfl (fun H locs hw => ?_)
        obtain ⟨z10, ez10⟩ : ∃ y : Int32, y = x76_1 + 1 := ⟨_, rfl⟩
        have tz10 : z10.toInt = (x76_1.toInt + 1 + 2147483648) % 4294967296 - 2147483648 := by rw [ez10]; exact i_add x76_1 1
        have lz10 := Int32.le_toInt z10
        have uz10 := Int32.toInt_lt z10
        try replace tz10 : z10.toInt = x76_1.toInt + 1 := by omega
        refine lv_iinc (v := z10) (lv' := [(1, .int z10), (0, .ref mo)]) S.x S.b d_Mo_init_95 hl (k := 1) rfl (by rw [ez10]; rfl) (by decide) rfl (fun ls hl => ?_)
        refine lv_goto (tgt := 76) S.x S.b d_Mo_init_98 (by decide) ?_
        have hw : pw D A s.heap _ _ [wd_Mo cs mo mr_76 (fun _ => none) mf_76 md_76 (va_up gm_76 5 (va_up (gm_76 5) x76_1.toNatClampNeg (some q3))), fm np_76 (fPg cs PG_76), fm nq_76 (fPr cs hq_76 qr_76 (fun _ => none) (fun _ _ => 0) (fun _ _ _ => 0)), wd_Mpr cs q3 rj4 (fun _ => none) (fun _ => 0) (fun _ _ => 0) (fun _ _ => none)] := hw.sub [0, 2, 1, 3] rfl rfl
        obtain ⟨gm11, hu_gm11⟩ : ∃ y : Nat → Nat → Option Nat, y = (va_up gm_76 5 (va_up (gm_76 5) x76_1.toNatClampNeg (some q3))) := ⟨_, rfl⟩
        have hcn12 := cl_nat (x := x76_1) (by first | exact k76_5 | omega)
        obtain ⟨hq13, hu_hq13⟩ : ∃ y : Nat → Nat, y = va_up hq_76 nq_76 q3 := ⟨_, rfl⟩
        obtain ⟨qr14, hu_qr14⟩ : ∃ y : Nat → Nat → Nat, y = va_up qr_76 nq_76 rj4 := ⟨_, rfl⟩
        have hw : pw D A s.heap _ _ [wd_Mo cs mo mr_76 (fun _ => none) mf_76 md_76 (va_up gm_76 5 (va_up (gm_76 5) x76_1.toNatClampNeg (some q3))), fm np_76 (fPg cs PG_76), fm (nq_76 + 1) (fPr cs hq13 qr14 (fun _ => none) (fun _ _ => 0) (fun _ _ _ => 0))] := fm_grow (pr := [wd_Mo cs mo mr_76 (fun _ => none) mf_76 md_76 (va_up gm_76 5 (va_up (gm_76 5) x76_1.toNatClampNeg (some q3))), fm np_76 (fPg cs PG_76)]) (T := fPr cs hq_76 qr_76 (fun _ => none) (fun _ _ => 0) (fun _ _ _ => 0)) (T' := fPr cs hq13 qr14 (fun _ => none) (fun _ _ => 0) (fun _ _ _ => 0)) hw (fun i9 h9 => by unfold fPr; rw [hu_hq13, hu_qr14, va_up_n (by omega), va_up_n (by omega)]) (by unfold fPr; rw [hu_hq13, hu_qr14, va_up_s, va_up_s])
        have hw : pw D A s.heap _ _ [wd_Mo cs mo mr_76 (fun _ => none) mf_76 md_76 gm11, fm np_76 (fPg cs PG_76), fm (nq_76 + 1) (fPr cs hq13 qr14 (fun _ => none) (fun _ _ => 0) (fun _ _ _ => 0))] := (by rw [hu_gm11]; exact hw)
        have hcg := hcg.o hu_gm11
        have hch := hch.s hu_gm11 hu_hq13 (by omega)
        have hw : pw D A s.heap _ _ [wd_Mo cs mo mr_76 (fun _ => none) mf_76 md_76 gm11, fm (nq_76 + 1) (fPr cs hq13 qr14 (fun _ => none) (fun _ _ => 0) (fun _ _ _ => 0)), fm np_76 (fPg cs PG_76)] := hw.sub [0, 2, 1] rfl rfl
        exact ih76 ((ce_76 + 1) + 10) ((sl_76 + 26) + 100324) mr_76 mf_76 md_76 gm11 (nq_76 + 1) hq13 qr14 np_76 PG_76 z10 _ _ ls (show MoN mf_76 from hmn) (show CgI sK gm11 np_76 PG_76 from hcg) (show CqI gm11 (nq_76 + 1) hq13 from hch) (show (np_76 : Int) = 8 from by first | exact k76_3 | omega) (show ((nq_76 + 1) : Int) = z10.toInt from by first | exact oz_841d12a021 k76_4 tz10 | omega) (show 0 ≤ z10.toInt from by first | exact oz_ae613611c0 tz10 k76_5 | omega) (show z10.toInt ≤ 13 from by first | exact oz_d342e04a5c tz10 nc1 | omega) (show (((ce_76 + 1) + 10) : Int) = 308 + 11 * z10.toInt from by first | exact oz_f38aee7847 k76_7 tz10 | omega) (show (((sl_76 + 26) + 100324) : Int) = 523453 + 100350 * z10.toInt from by first | exact oz_07051a4021 k76_8 tz10 | omega) (show 13 - z10.toInt < (n_76 : Int) from by first | exact oz_6680d080b4 hm tz10 | omega) hw (lv_sub hl [1, 0] rfl)
  have J49 : ∀ (n_49 : Nat) (ce_49 sl_49 : Nat) (mr_49 : Nat → Nat) (mf_49 : Nat → Int32) (md_49 : Nat → Nat → Int32) (gm_49 : Nat → Nat → Option Nat) (nq_49 : Nat) (hq_49 : Nat → Nat) (qr_49 : Nat → Nat → Nat) (np_49 : Nat) (PG_49 : Nat → Pgs) (x49_1 : Int32) (H : Heap) (locs : List Loc) (ls : Array Slot), (MoN mf_49) → (CgI sK gm_49 np_49 PG_49) → (CqI gm_49 nq_49 hq_49) → ((np_49 : Int) = x49_1.toInt) → ((nq_49 : Int) = 0) → (0 ≤ x49_1.toInt) → (x49_1.toInt ≤ 8) → ((ce_49 : Int) = 4 + 38 * x49_1.toInt) → ((sl_49 : Int) = 2197 + 65157 * x49_1.toInt) → 8 - x49_1.toInt < (n_49 : Int) → pw D A s.heap H locs [wd_Mo cs mo mr_49 (fun _ => none) mf_49 md_49 gm_49, fm nq_49 (fPr cs hq_49 qr_49 (fun _ => none) (fun _ _ => 0) (fun _ _ _ => 0)), fm np_49 (fPg cs PG_49)] → lv_has ls 2 [(0, .ref mo), (1, .int x49_1)] → W p l e { frames := 2, cells := 451, slots := 1828003, locals := 60 } s m [.ref mo].toArray below meth c H locs ce_49 sl_49 (MQ below (va_Qv (fun ps => ∃ (mr : Nat → Nat) (mf : Nat → Int32) (md : Nat → Nat → Int32) (PG : Nat → Pgs) (hq : Nat → Nat) (qr : Nat → Nat → Nat), ps.1.flatten = [wd_Mo cs mo mr (fun _ => none) mf md (gMo PG hq), fm 13 (fPr cs hq qr (fun _ => none) (fun _ _ => 0) (fun _ _ _ => 0)), fm 8 (fPg cs PG)].flatten ∧ MoN mf ∧ PgA PG ∧ (∀ j : Nat, j < 8 → gK sK (PG j).g) ∧ ∀ j : Nat, j < 8 → ((PG j).xf 66).toInt = 0) (pg_B D (va_A ([[(mo, .inr (11, [.int 0, .null, .int 0, .int 0, .null, .null, .null, .int 0, .int 0, .int 0, .int 0]))]] : List va_W).flatten s.heap.size) s.heap.size (tot s.heap)) (va_A ([[(mo, .inr (11, [.int 0, .null, .int 0, .int 0, .null, .null, .null, .int 0, .int 0, .int 0, .int 0]))]] : List va_W).flatten s.heap.size)) [.ref mo].toArray s 451 1828003 A) (F0 m 49 ls []) := by
    intro  n_49
    induction n_49 with
    | zero =>
      intro ce_49 sl_49 mr_49 mf_49 md_49 gm_49 nq_49 hq_49 qr_49 np_49 PG_49 x49_1 H locs ls k49_0 k49_1 k49_2 k49_3 k49_4 k49_5 k49_6 k49_7 k49_8 hm hw hl
      have lx49_1 := Int32.le_toInt x49_1
      have ux49_1 := Int32.toInt_lt x49_1
      have hmn := k49_0
      have hcg := k49_1
      have hch := k49_2
      exact absurd hm (by omega)
    | succ n_49 ih49 =>
      intro ce_49 sl_49 mr_49 mf_49 md_49 gm_49 nq_49 hq_49 qr_49 np_49 PG_49 x49_1 H locs ls k49_0 k49_1 k49_2 k49_3 k49_4 k49_5 k49_6 k49_7 k49_8 hm hw hl
      have lx49_1 := Int32.le_toInt x49_1
      have ux49_1 := Int32.toInt_lt x49_1
      have hmn := k49_0
      have hcg := k49_1
      have hch := k49_2
      refine lv_iload_n S.x S.b d_Mo_init_49 rfl (lv_at hl 1 rfl) ?_
      refine lv_bipush (v := 8) S.x S.b d_Mo_init_50 (by decide) ?_
      refine lv_icmp_ge (tgt := 74) S.x S.b d_Mo_init_52 (by decide) (fun c15 => ?_) (fun c15 => ?_)
      · have nc15 : (8 : Int) ≤ x49_1.toInt := (i_le (x := 8) (y := x49_1)).mp c15
        refine lv_iconst (v := 0) S.x S.b d_Mo_init_74 (by decide) ?_
        refine lv_istore_n (lv' := [(1, .int 0), (0, .ref mo)]) S.x S.b d_Mo_init_75 rfl hl (by decide) rfl (fun ls hl => ?_)
        exact J76 ((13 - (0 : Int)).toNat + 1) ce_49 sl_49 mr_49 mf_49 md_49 gm_49 nq_49 hq_49 qr_49 np_49 PG_49 (0 : Int32) _ _ ls (show MoN mf_49 from hmn) (show CgI sK gm_49 np_49 PG_49 from hcg) (show CqI gm_49 nq_49 hq_49 from hch) (show (np_49 : Int) = 8 from by first | exact oz_38ddcaae78 k49_3 k49_6 nc15 | omega) (show (nq_49 : Int) = (0 : Int) from by first | exact oz_d486a77998 k49_4 | omega) (show 0 ≤ (0 : Int) from by first | exact oz_5a341f00aa | omega) (show (0 : Int) ≤ 13 from by first | exact oz_fc8b4ec74a | omega) (show (ce_49 : Int) = 308 + 11 * (0 : Int) from by first | exact oz_78d0a2ecec k49_7 k49_6 nc15 | omega) (show (sl_49 : Int) = 523453 + 100350 * (0 : Int) from by first | exact oz_4a2a8b47dd k49_8 k49_6 nc15 | omega) (show 13 - (0 : Int) < ((((13 - (0 : Int)).toNat + 1 : Nat) : Int) : Int) from by first | exact oz_natlt | omega) hw (lv_sub hl [1, 0] rfl)
      · have nc15 : ¬ (8 : Int) ≤ x49_1.toInt := mt (i_le (x := 8) (y := x49_1)).mpr c15
        refine lv_aload_n S.x S.b d_Mo_init_55 rfl (lv_at hl 0 rfl) ?_
        refine px_get S k_Mo hT hw 0 0 4 (v := .ref (mr_49 4)) rfl rfl rfl (by decide) m11_82 d_Mo_init_56 ?_
        refine lv_iload_n S.x S.b d_Mo_init_59 rfl (lv_at hl 1 rfl) ?_
        refine px_new S k_Mpg hT hw hA m9_130 m9_134 m1_21 (fs := [.null, .null, .null, .null, .null, .int 0, .int 0, .null, .null, .null, .null, .int 0, .int 0, .int 0, .null, .null, .null, .null, .null, .null, .null, .null, .null, .null, .int 0, .int 0, .int 0, .null, .null, .null, .int 0, .int 0, .int 0, .int 0, .null, .null, .null, .int 0, .int 0, .null, .null, .int 0, .int 0, .int 0, .int 0, .int 0, .int 0, .int 0, .int 0, .null, .null, .null, .null, .null, .int 0, .int 0, .null, .int 0, .int 0, .int 0, .int 0, .null, .null, .null, .int 0, .int 0, .int 0, .null, .int 0]) (by decide +kernel) (show ce_49 + 1 ≤ 451 from by first | exact oz_d1fe9b7173 k49_7 nc15 | omega) (show sl_49 + 69 ≤ 1828003 from by first | exact oz_1a4684aa14 k49_8 nc15 | omega) d_Mo_init_60 (fun q17 H hw => ?_)
        have hw : pw D A s.heap H _ [wd_Mo cs mo mr_49 (fun _ => none) mf_49 md_49 gm_49, fm nq_49 (fPr cs hq_49 qr_49 (fun _ => none) (fun _ _ => 0) (fun _ _ _ => 0)), fm np_49 (fPg cs PG_49), [(q17, .inr (12, [.null, .null, .null, .null, .null, .int 0, .int 0, .null, .null, .null, .null, .int 0, .int 0, .int 0, .null, .null, .null, .null, .null, .null, .null, .null, .null, .null, .int 0, .int 0, .int 0, .null, .null, .null, .int 0, .int 0, .int 0, .int 0, .null, .null, .null, .int 0, .int 0, .null, .null, .int 0, .int 0, .int 0, .int 0, .int 0, .int 0, .int 0, .int 0, .null, .null, .null, .null, .null, .int 0, .int 0, .null, .int 0, .int 0, .int 0, .int 0, .null, .null, .null, .int 0, .int 0, .int 0, .null, .int 0]))]] := hw
        refine lv_dup S.x S.b d_Mo_init_63 rfl ?_
        refine px_callv (pr := [wd_Mo cs mo mr_49 (fun _ => none) mf_49 md_49 gm_49, fm nq_49 (fPr cs hq_49 qr_49 (fun _ => none) (fun _ _ => 0) (fun _ _ _ => 0)), fm np_49 (fPg cs PG_49)]) (px_runIN (As := []) (rest := [.ref q17, .int x49_1, .ref (mr_49 4)]) S (c_mp_init l D cs sK q17 _) hT (pr := [wd_Mo cs mo mr_49 (fun _ => none) mf_49 md_49 gm_49, fm nq_49 (fPr cs hq_49 qr_49 (fun _ => none) (fun _ _ => 0) (fun _ _ _ => 0)), fm np_49 (fPg cs PG_49)]) (pcs := [[(q17, .inr (12, [.null, .null, .null, .null, .null, .int 0, .int 0, .null, .null, .null, .null, .int 0, .int 0, .int 0, .null, .null, .null, .null, .null, .null, .null, .null, .null, .null, .int 0, .int 0, .int 0, .null, .null, .null, .int 0, .int 0, .int 0, .int 0, .null, .null, .null, .int 0, .int 0, .null, .null, .int 0, .int 0, .int 0, .int 0, .int 0, .int 0, .int 0, .int 0, .null, .null, .null, .null, .null, .int 0, .int 0, .null, .int 0, .int 0, .int 0, .int 0, .null, .null, .null, .int 0, .int 0, .int 0, .null, .int 0]))]]) hw (oX_call (P := fun A U H => oK sK A U H) (pr := [wd_Mo cs mo mr_49 (fun _ => none) mf_49 md_49 gm_49, fm nq_49 (fPr cs hq_49 qr_49 (fun _ => none) (fun _ _ => 0) (fun _ _ _ => 0)), fm np_49 (fPg cs PG_49)]) oG_K hw hA hK) m9_137 m9_135n m9_136 m1_21 rfl q_Mpg_init ⟨Nat.le_of_ble_eq_true rfl, Nat.le_of_ble_eq_true rfl⟩ hl.1 rfl (Nat.le_of_ble_eq_true rfl) d_Mo_init_64 ⟨show (ce_49 + 1) + 37 ≤ 451 from (by first | exact oz_7ed8029986 k49_7 nc15 | omega), show (sl_49 + 69) + 65088 ≤ 1828003 from (by first | exact oz_b04b2c8b4f k49_8 nc15 | omega)⟩) hw hA (fun p22 H locs hp22 hw => ?_)
        obtain ⟨rj18, gj19, hfl20, hgk21⟩ := hp22
        have hw := hw.eq (qs := [wd_Mo cs mo mr_49 (fun _ => none) mf_49 md_49 gm_49, fm nq_49 (fPr cs hq_49 qr_49 (fun _ => none) (fun _ _ => 0) (fun _ _ _ => 0)), fm np_49 (fPg cs PG_49), wdP cs q17 rj18 gj19 (fun _ => 0) (fun _ _ => 0) (fun _ => 0) (fun _ _ => 0) (fun _ _ => 0) (fun _ _ => 0) (fun _ => 0) (fun _ _ => 0) (fun _ => 0) (fun _ _ => 0) (fun _ => 0) (fun _ _ => 0)]) (by rw [List.flatten_append, hfl20]; simp only [List.flatten_cons, List.flatten_nil, List.append_nil, List.append_assoc])
        have hw : pw D A s.heap H locs [wd_Mo cs mo mr_49 (fun _ => none) mf_49 md_49 gm_49, fm nq_49 (fPr cs hq_49 qr_49 (fun _ => none) (fun _ _ => 0) (fun _ _ _ => 0)), fm np_49 (fPg cs PG_49), wdP cs q17 rj18 gj19 (fun _ => 0) (fun _ _ => 0) (fun _ => 0) (fun _ _ => 0) (fun _ _ => 0) (fun _ _ => 0) (fun _ => 0) (fun _ _ => 0) (fun _ => 0) (fun _ _ => 0) (fun _ => 0) (fun _ _ => 0)] := hw
        refine px_aast S hT hw 0 2 9 3 0 (n := 8) (f := (gm_49 4)) rfl rfl rfl rfl rfl rfl (x := x49_1) (vp_in_iff.mpr (by first | exact oz_1e3a0eb332 k49_8 nc15 | (constructor <;> omega))) d_Mo_init_67 (w' := wd_Mo cs mo mr_49 (fun _ => none) mf_49 md_49 (va_up gm_49 4 (va_up (gm_49 4) x49_1.toNatClampNeg (some q17)))) (ps' := [wd_Mo cs mo mr_49 (fun _ => none) mf_49 md_49 (va_up gm_49 4 (va_up (gm_49 4) x49_1.toNatClampNeg (some q17))), fm nq_49 (fPr cs hq_49 qr_49 (fun _ => none) (fun _ _ => 0) (fun _ _ _ => 0)), fm np_49 (fPg cs PG_49), wdP cs q17 rj18 gj19 (fun _ => 0) (fun _ _ => 0) (fun _ => 0) (fun _ _ => 0) (fun _ _ => 0) (fun _ _ => 0) (fun _ => 0) (fun _ _ => 0) (fun _ => 0) (fun _ _ => 0) (fun _ => 0) (fun _ _ => 0)]) rfl rfl (fun H locs hw => ?_)
        obtain ⟨z24, ez24⟩ : ∃ y : Int32, y = x49_1 + 1 := ⟨_, rfl⟩
        have tz24 : z24.toInt = (x49_1.toInt + 1 + 2147483648) % 4294967296 - 2147483648 := by rw [ez24]; exact i_add x49_1 1
        have lz24 := Int32.le_toInt z24
        have uz24 := Int32.toInt_lt z24
        try replace tz24 : z24.toInt = x49_1.toInt + 1 := by omega
        refine lv_iinc (v := z24) (lv' := [(1, .int z24), (0, .ref mo)]) S.x S.b d_Mo_init_68 hl (k := 1) rfl (by rw [ez24]; rfl) (by decide) rfl (fun ls hl => ?_)
        refine lv_goto (tgt := 49) S.x S.b d_Mo_init_71 (by decide) ?_
        obtain ⟨gm25, hu_gm25⟩ : ∃ y : Nat → Nat → Option Nat, y = (va_up gm_49 4 (va_up (gm_49 4) x49_1.toNatClampNeg (some q17))) := ⟨_, rfl⟩
        have hcn26 := cl_nat (x := x49_1) (by first | exact k49_5 | omega)
        obtain ⟨PG27, hu_PG27⟩ : ∃ y : Nat → Pgs, y = va_up PG_49 np_49 (pgz q17 rj18 gj19) := ⟨_, rfl⟩
        have hw : pw D A s.heap _ _ [wd_Mo cs mo mr_49 (fun _ => none) mf_49 md_49 (va_up gm_49 4 (va_up (gm_49 4) x49_1.toNatClampNeg (some q17))), fm nq_49 (fPr cs hq_49 qr_49 (fun _ => none) (fun _ _ => 0) (fun _ _ _ => 0)), fm (np_49 + 1) (fPg cs PG27)] := fm_grow (pr := [wd_Mo cs mo mr_49 (fun _ => none) mf_49 md_49 (va_up gm_49 4 (va_up (gm_49 4) x49_1.toNatClampNeg (some q17))), fm nq_49 (fPr cs hq_49 qr_49 (fun _ => none) (fun _ _ => 0) (fun _ _ _ => 0))]) (T := fPg cs PG_49) (T' := fPg cs PG27) hw (fun i9 h9 => by unfold fPg; rw [hu_PG27, va_up_n (by omega)]) (by unfold fPg; rw [hu_PG27, va_up_s]; rfl)
        have hw : pw D A s.heap _ _ [wd_Mo cs mo mr_49 (fun _ => none) mf_49 md_49 gm25, fm nq_49 (fPr cs hq_49 qr_49 (fun _ => none) (fun _ _ => 0) (fun _ _ _ => 0)), fm (np_49 + 1) (fPg cs PG27)] := (by rw [hu_gm25]; exact hw)
        have hcg := hcg.s hu_gm25 hu_PG27 hgk21 (by omega)
        have hch : CqI gm25 nq_49 hq_49 := fun j9 h9 => absurd h9 (by omega)
        exact ih49 ((ce_49 + 1) + 37) ((sl_49 + 69) + 65088) mr_49 mf_49 md_49 gm25 nq_49 hq_49 qr_49 (np_49 + 1) PG27 z24 _ _ ls (show MoN mf_49 from hmn) (show CgI sK gm25 (np_49 + 1) PG27 from hcg) (show CqI gm25 nq_49 hq_49 from hch) (show ((np_49 + 1) : Int) = z24.toInt from by first | exact oz_841d12a021 k49_3 tz24 | omega) (show (nq_49 : Int) = 0 from by first | exact k49_4 | omega) (show 0 ≤ z24.toInt from by first | exact oz_20f8bb4268 tz24 k49_8 | omega) (show z24.toInt ≤ 8 from by first | exact oz_6680400ccf tz24 nc15 | omega) (show (((ce_49 + 1) + 37) : Int) = 4 + 38 * z24.toInt from by first | exact oz_00084f3c15 k49_7 tz24 | omega) (show (((sl_49 + 69) + 65088) : Int) = 2197 + 65157 * z24.toInt from by first | exact oz_f552a050d5 k49_8 tz24 | omega) (show 8 - z24.toInt < (n_49 : Int) from by first | exact oz_1716f12220 hm tz24 | omega) hw (lv_sub hl [1, 0] rfl)
  refine lv_aload_n S.x S.b d_Mo_init_0 rfl (lv_at hl 0 rfl) ?_
  refine px_oinit S m9_129 m1_46 m1_47 hl.1 d_Mo_init_1 (Nat.le_of_ble_eq_true rfl) (Nat.le_of_ble_eq_true rfl) ?_
  refine lv_aload_n S.x S.b d_Mo_init_4 rfl (lv_at hl 0 rfl) ?_
  refine lv_sipush (v := 2048) S.x S.b d_Mo_init_5 (by decide) ?_
  refine px_newa S hT hw hA (atype := .byte) m1_165 1 rfl rfl (a0 := (2048, .inl (fun _ => 0))) (fun _ => rfl) (by decide) (by decide +kernel) (Nat.le_of_ble_eq_true rfl) (show 0 + 1 ≤ 451 from by omega) (show 0 + 2048 ≤ 1828003 from by omega) d_Mo_init_8 (fun q28 H hw => ?_)
  have hw : pw D A s.heap H _ [[(mo, .inr (11, [.int 0, .null, .int 0, .int 0, .null, .null, .null, .int 0, .int 0, .int 0, .int 0]))], [(q28, .inl (cs 1, 2048, .inl (fun _ => 0)))]] := hw
  have nd_q28 := nd_1 q28
  refine px_putF S k_Mo hin hT hw 0 0 1 rfl rfl (by decide) m11_79 rfl rfl rfl rfl (Nat.le_of_ble_eq_true rfl) d_Mo_init_10 (w' := [(mo, .inr (11, [.int 0, .ref q28, .int 0, .int 0, .null, .null, .null, .int 0, .int 0, .int 0, .int 0]))]) (ps' := [[(mo, .inr (11, [.int 0, .ref q28, .int 0, .int 0, .null, .null, .null, .int 0, .int 0, .int 0, .int 0]))], [(q28, .inl (cs 1, 2048, .inl (fun _ => 0)))]]) rfl rfl (fun H locs hw => ?_)
  refine lv_aload_n S.x S.b d_Mo_init_13 rfl (lv_at hl 0 rfl) ?_
  refine lv_bipush (v := 8) S.x S.b d_Mo_init_14 (by decide) ?_
  refine px_newq S hT hw hA (C := "HomeSystemModel$Program") (by decide) m9_130 9 rfl (by decide) rfl (Nat.le_of_ble_eq_true rfl) (show (0 + 1) + 1 ≤ 451 from by omega) (show (0 + 2048) + 8 ≤ 1828003 from by omega) d_Mo_init_16 (fun q29 H hw => ?_)
  have hw : pw D A s.heap H _ [[(mo, .inr (11, [.int 0, .ref q28, .int 0, .int 0, .null, .null, .null, .int 0, .int 0, .int 0, .int 0]))], [(q28, .inl (cs 1, 2048, .inl (fun _ => 0)))], [(q29, .inl (cs 9, 8, .inr (.inr (.inr (.inr (fun _ => none))))))]] := hw
  refine px_putF S k_Mo hin hT hw 0 0 4 rfl rfl (by decide) m11_82 rfl rfl rfl rfl (Nat.le_of_ble_eq_true rfl) d_Mo_init_19 (w' := [(mo, .inr (11, [.int 0, .ref q28, .int 0, .int 0, .ref q29, .null, .null, .int 0, .int 0, .int 0, .int 0]))]) (ps' := [[(mo, .inr (11, [.int 0, .ref q28, .int 0, .int 0, .ref q29, .null, .null, .int 0, .int 0, .int 0, .int 0]))], [(q28, .inl (cs 1, 2048, .inl (fun _ => 0)))], [(q29, .inl (cs 9, 8, .inr (.inr (.inr (.inr (fun _ => none))))))]]) rfl rfl (fun H locs hw => ?_)
  refine lv_aload_n S.x S.b d_Mo_init_22 rfl (lv_at hl 0 rfl) ?_
  refine lv_bipush (v := 13) S.x S.b d_Mo_init_23 (by decide) ?_
  refine px_newq S hT hw hA (C := "HomeSystemModel$Process") (by decide) m9_132 10 rfl (by decide) rfl (Nat.le_of_ble_eq_true rfl) (show ((0 + 1) + 1) + 1 ≤ 451 from by omega) (show ((0 + 2048) + 8) + 13 ≤ 1828003 from by omega) d_Mo_init_25 (fun q30 H hw => ?_)
  have hw : pw D A s.heap H _ [[(mo, .inr (11, [.int 0, .ref q28, .int 0, .int 0, .ref q29, .null, .null, .int 0, .int 0, .int 0, .int 0]))], [(q28, .inl (cs 1, 2048, .inl (fun _ => 0)))], [(q29, .inl (cs 9, 8, .inr (.inr (.inr (.inr (fun _ => none))))))], [(q30, .inl (cs 10, 13, .inr (.inr (.inr (.inr (fun _ => none))))))]] := hw
  refine px_putF S k_Mo hin hT hw 0 0 5 rfl rfl (by decide) m11_83 rfl rfl rfl rfl (Nat.le_of_ble_eq_true rfl) d_Mo_init_28 (w' := [(mo, .inr (11, [.int 0, .ref q28, .int 0, .int 0, .ref q29, .ref q30, .null, .int 0, .int 0, .int 0, .int 0]))]) (ps' := [[(mo, .inr (11, [.int 0, .ref q28, .int 0, .int 0, .ref q29, .ref q30, .null, .int 0, .int 0, .int 0, .int 0]))], [(q28, .inl (cs 1, 2048, .inl (fun _ => 0)))], [(q29, .inl (cs 9, 8, .inr (.inr (.inr (.inr (fun _ => none))))))], [(q30, .inl (cs 10, 13, .inr (.inr (.inr (.inr (fun _ => none))))))]]) rfl rfl (fun H locs hw => ?_)
  refine lv_aload_n S.x S.b d_Mo_init_31 rfl (lv_at hl 0 rfl) ?_
  refine lv_sipush (v := 128) S.x S.b d_Mo_init_32 (by decide) ?_
  refine px_newa S hT hw hA (atype := .int) m1_166 0 rfl rfl (a0 := (128, .inl (fun _ => 0))) (fun _ => rfl) (by decide) (by decide +kernel) (Nat.le_of_ble_eq_true rfl) (show (((0 + 1) + 1) + 1) + 1 ≤ 451 from by omega) (show (((0 + 2048) + 8) + 13) + 128 ≤ 1828003 from by omega) d_Mo_init_35 (fun q31 H hw => ?_)
  have hw : pw D A s.heap H _ [[(mo, .inr (11, [.int 0, .ref q28, .int 0, .int 0, .ref q29, .ref q30, .null, .int 0, .int 0, .int 0, .int 0]))], [(q28, .inl (cs 1, 2048, .inl (fun _ => 0)))], [(q29, .inl (cs 9, 8, .inr (.inr (.inr (.inr (fun _ => none))))))], [(q30, .inl (cs 10, 13, .inr (.inr (.inr (.inr (fun _ => none))))))], [(q31, .inl (cs 0, 128, .inl (fun _ => 0)))]] := hw
  have nd_q31 := nd_1 q31
  refine px_putF S k_Mo hin hT hw 0 0 6 rfl rfl (by decide) m11_84 rfl rfl rfl rfl (Nat.le_of_ble_eq_true rfl) d_Mo_init_37 (w' := [(mo, .inr (11, [.int 0, .ref q28, .int 0, .int 0, .ref q29, .ref q30, .ref q31, .int 0, .int 0, .int 0, .int 0]))]) (ps' := [[(mo, .inr (11, [.int 0, .ref q28, .int 0, .int 0, .ref q29, .ref q30, .ref q31, .int 0, .int 0, .int 0, .int 0]))], [(q28, .inl (cs 1, 2048, .inl (fun _ => 0)))], [(q29, .inl (cs 9, 8, .inr (.inr (.inr (.inr (fun _ => none))))))], [(q30, .inl (cs 10, 13, .inr (.inr (.inr (.inr (fun _ => none))))))], [(q31, .inl (cs 0, 128, .inl (fun _ => 0)))]]) rfl rfl (fun H locs hw => ?_)
  refine lv_aload_n S.x S.b d_Mo_init_40 rfl (lv_at hl 0 rfl) ?_
  refine lv_sipush (v := 6000) S.x S.b d_Mo_init_41 (by decide) ?_
  refine px_put S k_Mo hT hw 0 0 10 rfl rfl (by decide) m11_88 rfl rfl rfl (Nat.le_of_ble_eq_true rfl) d_Mo_init_44 (w' := [(mo, .inr (11, [.int 0, .ref q28, .int 0, .int 0, .ref q29, .ref q30, .ref q31, .int 0, .int 0, .int 0, .int 6000]))]) (ps' := [[(mo, .inr (11, [.int 0, .ref q28, .int 0, .int 0, .ref q29, .ref q30, .ref q31, .int 0, .int 0, .int 0, .int 6000]))], [(q28, .inl (cs 1, 2048, .inl (fun _ => 0)))], [(q29, .inl (cs 9, 8, .inr (.inr (.inr (.inr (fun _ => none))))))], [(q30, .inl (cs 10, 13, .inr (.inr (.inr (.inr (fun _ => none))))))], [(q31, .inl (cs 0, 128, .inl (fun _ => 0)))]]) rfl rfl (fun H locs hw => ?_)
  refine lv_iconst (v := 0) S.x S.b d_Mo_init_47 (by decide) ?_
  refine lv_istore_n (lv' := [(1, .int 0), (0, .ref mo)]) S.x S.b d_Mo_init_48 rfl hl (by decide) rfl (fun ls hl => ?_)
  have hw : pw D A s.heap _ _ [wd_Mo cs mo (fun k => if k = 1 then q28 else if k = 4 then q29 else if k = 5 then q30 else if k = 6 then q31 else 0) (fun _ => none) (fun k => if k = 10 then 6000 else 0) (fun _ _ => 0) (fun _ _ => none), fm 0 (fPr cs (fun _ => 0) (fun _ _ => 0) (fun _ => none) (fun _ _ => 0) (fun _ _ _ => 0)), fm 0 (fPg cs (fun _ => pg0))] := hw.eq rfl
  exact J49 ((8 - (0 : Int)).toNat + 1) ((((0 + 1) + 1) + 1) + 1) ((((0 + 2048) + 8) + 13) + 128) (fun k => if k = 1 then q28 else if k = 4 then q29 else if k = 5 then q30 else if k = 6 then q31 else 0) (fun k => if k = 10 then 6000 else 0) (fun _ _ => 0) (fun _ _ => none) 0 (fun _ => 0) (fun _ _ => 0) 0 (fun _ => pg0) (0 : Int32) _ _ ls (show MoN (fun k => if k = 10 then 6000 else 0) from ⟨rfl, rfl⟩) (show CgI sK (fun _ _ => none) 0 (fun _ => pg0) from cgi_0) (show CqI (fun _ _ => none) 0 (fun _ => 0) from cqi_0) (show (0 : Int) = (0 : Int) from rfl) (show (0 : Int) = 0 from by first | exact oz_7d1a308c7e | omega) (show 0 ≤ (0 : Int) from by first | exact oz_5a341f00aa | omega) (show (0 : Int) ≤ 8 from by first | exact oz_c4881892eb | omega) (show (((((0 + 1) + 1) + 1) + 1) : Int) = 4 + 38 * (0 : Int) from by omega) (show (((((0 + 2048) + 8) + 13) + 128) : Int) = 2197 + 65157 * (0 : Int) from by omega) (show 8 - (0 : Int) < ((((8 - (0 : Int)).toNat + 1 : Nat) : Int) : Int) from by first | exact oz_natlt | omega) hw (lv_sub hl [1, 0] rfl)
