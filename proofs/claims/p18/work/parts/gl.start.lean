theorem oz_8aa298ff1e {a0 : Int} (h0 : a0 = 6000) : 0 ≤ a0 ∧ a0 ≤ 6000 := by omega
theorem oz_3569bbbcf2 {a0 : Int} (h0 : a0 = 0) : 0 ≤ a0 ∧ a0 ≤ 2048 := by omega
theorem oz_4d4696e8e1 {a0 : Int} (h0 : a0 = 0) : 0 ≤ a0 ∧ a0 ≤ 1 := by omega
theorem m1_40 : Cond.classLink "HomeSystemLaw" 8 "HomeSystem" ∈ AL := AL_1 (List.mem_of_getElem? (i := 40) rfl) rfl
theorem m1_44 : Cond.code ⟨"HomeSystem", "<init>", "()V"⟩ prog_1_method_1_code 5 (Option.none : Option Jvm.ClassFile.FieldType) ∈ AL := AL_1 (List.mem_of_getElem? (i := 44) rfl) rfl
theorem m1_42 : Cond.methodLink "HomeSystemLaw" 63 ⟨"HomeSystem", "<init>", "()V"⟩ ∈ AL := AL_1 (List.mem_of_getElem? (i := 42) rfl) rfl
theorem m1_43 : Cond.instanceMethod ⟨"HomeSystem", "<init>", "()V"⟩ ∈ AL := AL_1 (List.mem_of_getElem? (i := 43) rfl) rfl
theorem m9_124 : Cond.classLink "HomeSystemLaw" 64 "HomeSystemModel" ∈ AL := AL_9 (List.mem_of_getElem? (i := 124) rfl) rfl
theorem m9_128 : Cond.code ⟨"HomeSystemModel", "<init>", "()V"⟩ prog_14_method_1_code 2 (Option.none : Option Jvm.ClassFile.FieldType) ∈ AL := AL_9 (List.mem_of_getElem? (i := 128) rfl) rfl
theorem m9_126 : Cond.methodLink "HomeSystemLaw" 66 ⟨"HomeSystemModel", "<init>", "()V"⟩ ∈ AL := AL_9 (List.mem_of_getElem? (i := 126) rfl) rfl
theorem m9_127 : Cond.instanceMethod ⟨"HomeSystemModel", "<init>", "()V"⟩ ∈ AL := AL_9 (List.mem_of_getElem? (i := 127) rfl) rfl
/-! THE LAW BEGINS: the two systems are made -/
theorem pm_callv {p : Program} {l : Launch} {e : Env} {R : Room} {s : State} {m : MethodId} {args : Array Value} {below : List Frame} {meth : Method} {c : Code} {H : Heap} {locs : List Loc} {cells slots pc mc ms : Nat} {Q : State → Prop} {ls : Array Slot} {rest st0 : List Value} {D : va_G} {A : Nat → Prop} {pr pcs : List va_W} {H0 : Heap} {aa : Array Value} {post : List va_W × Nat × Nat → Prop} (hr : va_Run p l e R s m args below meth c H locs cells slots mc ms (F0 m pc ls st0) rest (va_Qv post (pg_B D (va_A pcs.flatten H.size) H.size (tot H)) (va_A pcs.flatten H.size) aa) (va_A pcs.flatten H.size)) (hw : pw D A H0 H locs (pr ++ pcs)) (hA : ∀ q, H0.size ≤ q → A q)
    (kk : ∀ (p1 : List va_W) (k n : Nat) (H1 : Heap) (locs1 : List Loc), post (p1, k, n) → pw D A H0 H1 locs1 (pr ++ p1) → W p l e R s m args below meth c H1 locs1 (cells + mc) (slots + ms) Q (F0 m (pc + 3) ls rest)) : W p l e R s m args below meth c H locs cells slots Q (F0 m pc ls st0) := by
  have hF := pp_free hw.2.1 hw.2.2 hA
  refine va_callv hr hw.2.2 (fun q _ h => hF q h) hF (fun u t H1 locs1 ht hvm hp hB hz hk hS => ?_)
  have h1 : va_P D classes u.1.flatten H1 := by rw [← ht]; exact hB.1.1
  have hj := pp_join hw.1 hw.2.1 hk hF h1 hB.1.2
  exact kk u.1 u.2.1 u.2.2 H1 locs1 hp ⟨hj.1, hj.2, hS⟩
theorem prn_00 : PrN (fun _ _ => 0) := fun i _ => by show PsB (fun _ => 0); unfold PsB; decide
theorem pw_nil {D : va_G} {A : Nat → Prop} {H : Heap} : pw D A H H [] [] := ⟨fun k q h => by simp at h, ⟨fun i j p q h => by simp at h, fun k q h => by simp at h⟩, va_S.rf⟩
section GL
variable {p : Program} {l : Launch} {e : Env} {s : State} {m : MethodId} {args : Array Value} {below : List Frame} {meth : Method} {c : Code} {H : Heap} {locs : List Loc} {cells slots : Nat} {Q : State → Prop}
variable {ls : Array Slot} {D : va_G} {A : Nat → Prop} {cs : Nat → ClassId} {em mi gw sk st sn9 : Nat} {sb : Nat → Int32} {sK : Nat → Nat → Nat} {mk mt : Nat} {mb : Nat → Int32} {bq L xh mo q LL a b j : Nat} {xs : Nat → Int32} {F T : Int} {lv : Nat → Int64} {C M : va_W}
set_option maxHeartbeats 4000000 in
theorem law_start {k2 t2 : Nat} {b2 : Nat → Int32} (S : px_S p m c b_HomeSystemLaw_law 7 s #[Value.ref bq] "HomeSystemLaw") (hT : Tb D cs s) (hA : ∀ q, s.heap.size ≤ q → A q) (hAi : ∀ q, A q → s.heap.size ≤ q) (lo : LO A s l em mi gw sk st sn9 sb sK mk mt mb) (hI : (fun A U H => (oE A em U H) ∧ (va_Mi "[Ljava/lang/Object;" mi U) ∧ (oGI A U H) ∧ (vk_R "HomeSystem$Tokens" 21 "int char void enum if else while do for switch case default break continue return len put send recv more spawn wait get set end main " k2 U) ∧ (oF A U H) ∧ (oZ A U H) ∧ (oS A k2 t2 133 b2 U H)) A s s.heap) (hX : va_X bq L xs s s.heap) (hbl : bq < s.heap.size) (hbA : ¬ A bq) (hL : L ≤ 3072) (hr : meth.sig.returnType = ret) (hlk : meth.locks = false) (hl : lv_has ls 7 [(0, .ref bq)]) : W p l e room_1 s m #[Value.ref bq] below meth c s.heap [] 0 0 (lw_Z below #[Value.ref bq] s) (F0 m 0 ls []) := by
  have hw : pw D A s.heap s.heap [] [] := pw_nil
  refine px_new S k_Hs hT hw hA m1_40 m1_41 m1_1 (fs := [.null, .null, .null, .int 0, .int 0, .int 0]) (by decide +kernel) (Nat.le_of_ble_eq_true rfl) (Nat.le_of_ble_eq_true rfl) d_HomeSystemLaw_law_0 (fun xh H hw => ?_)
  have hw : pw D A s.heap H [] ([] ++ [[(xh, .inr (0, [.null, .null, .null, .int 0, .int 0, .int 0]))]]) := hw
  refine lv_dup S.x S.b d_HomeSystemLaw_law_3 rfl ?_
  refine pg_callv (pr := []) (pcs := [[(xh, .inr (0, [.null, .null, .null, .int 0, .int 0, .int 0]))]]) (px_runI (As := []) (rest := [.ref xh]) S (c_hs_init l D cs k2 t2 133 b2 em mi xh rfl _ _) hT (pr := []) (pcs := [[(xh, .inr (0, [.null, .null, .null, .int 0, .int 0, .int 0]))]]) hw (px_X.tot (oX_call (P := (fun A U H => (oE A em U H) ∧ (va_Mi "[Ljava/lang/Object;" mi U) ∧ (oGI A U H) ∧ (vk_R "HomeSystem$Tokens" 21 "int char void enum if else while do for switch case default break continue return len put send recv more spawn wait get set end main " k2 U) ∧ (oF A U H) ∧ (oZ A U H) ∧ (oS A k2 t2 133 b2 U H))) (pr := []) (oG_and oG_E (oG_and oG_M (oG_and oG_I (oG_and oG_L (oG_and oG_F (oG_and oG_Z oG_S)))))) hw hA hI)) m1_44 m1_42 m1_43 m1_1 rfl q_Hs_init ⟨Nat.le_of_ble_eq_true rfl, Nat.le_of_ble_eq_true rfl⟩ hl.1 rfl (Nat.le_of_ble_eq_true rfl) d_HomeSystemLaw_law_4 ⟨Nat.le_of_ble_eq_true rfl, Nat.le_of_ble_eq_true rfl⟩) hw hA (fun p1 k n H locs hp hw => ?_)
  obtain ⟨xt0, xa0, xf0, he0, re0, eo0, ef0, ea0, eg0, hc0, hs0, ra0, cf0, ca0, fo0, rt0, tg0, tf0, ta0, ob60, rp0, fu0, fp0, cd0, ft0, rn0, no0, ng0, nf0, na0, own0, lq0, lc0, lf0, lg0, fq0, fc0, ff0, fg0, P0, rs0, fs0, sd0, hk0, kr0, pz0, tq0, rq0, kf0, ka0, TR0, TO0, TF0, TA0, RR0, RM0, RW0, RF0, RA0, RC0, pq0, PV0, e0, e1, e2, e3, e4, e5, e6, e7, e8, e9, e10, e11, e12, e13, e14, e15, e16, e17, e18, e19, e20⟩ := hp
  dsimp only at e0 e19 e20
  subst e0
  obtain ⟨C, hCe⟩ : ∃ C : va_W, C = (CV.ps (⟨xt0, xa0, xf0, he0, re0, eo0, ef0, ea0, eg0, hc0, hs0, ra0, cf0, ca0, fo0, rt0, tg0, tf0, ta0, ob60, rp0, fu0, fp0, cd0, ft0, rn0, no0, ng0, nf0, na0, own0, lq0, lc0, lf0, lg0, fq0, fc0, ff0, fg0, P0, rs0, fs0, sd0, hk0, kr0, pz0, tq0, rq0, kf0, ka0, TR0, TO0, TF0, TA0, RR0, RM0, RW0, RF0, RA0, RC0, pq0, PV0⟩ : CV) cs xh).flatten := ⟨_, rfl⟩
  have hw : pw D A s.heap H locs [C] := hw.eq (by rw [hCe]; exact (List.append_nil _).symm)
  have hC : CI cs em xh 0 (lc0 + fc0) 130 611130 C := ⟨(⟨xt0, xa0, xf0, he0, re0, eo0, ef0, ea0, eg0, hc0, hs0, ra0, cf0, ca0, fo0, rt0, tg0, tf0, ta0, ob60, rp0, fu0, fp0, cd0, ft0, rn0, no0, ng0, nf0, na0, own0, lq0, lc0, lf0, lg0, fq0, fc0, ff0, fg0, P0, rs0, fs0, sd0, hk0, kr0, pz0, tq0, rq0, kf0, ka0, TR0, TO0, TF0, TA0, RR0, RM0, RW0, RF0, RA0, RC0, pq0, PV0⟩ : CV), hCe, ⟨e1, e2, e3, e4, e5, e6, e7, e8, e9, (show 0 ≤ (xf0 5).toInt ∧ (xf0 5).toInt ≤ 6000 from by first | exact oz_8aa298ff1e e12 | omega), (show 0 ≤ (tf0 13).toInt ∧ (tf0 13).toInt ≤ 2048 from by first | exact oz_3569bbbcf2 e13 | omega), (show 0 ≤ (tf0 17).toInt from by first | exact oz_b1de7dbe7e e15 | omega), (show 0 ≤ (tf0 15).toInt ∧ (tf0 15).toInt ≤ 1 from by first | exact oz_4d4696e8e1 e14 | omega)⟩, e10, by omega, by omega, rfl, (by show 5 * ndS 13 tq0 + 4 * ndS 13 rq0 + ndS 13 RM0 = 130; omega), (by show 9804 * ndS 13 tq0 + 342 * ndS 13 rq0 + 36864 * ndS 13 RM0 = 611130; omega)⟩
  refine lv_astore_n (lv' := [(1, .ref xh), (0, .ref bq)]) S.x S.b d_HomeSystemLaw_law_7 rfl hl (by decide) rfl (fun ls hl => ?_)
  refine px_new S k_Mo hT hw hA m9_124 m9_125 m1_20 (fs := [.int 0, .null, .int 0, .int 0, .null, .null, .null, .int 0, .int 0, .int 0, .int 0]) (by decide +kernel) (by show 0 + 1 + k + 1 ≤ 601024; omega) (by show 0 + 6 + n + 11 ≤ 7293034; omega) d_HomeSystemLaw_law_8 (fun mo H hw => ?_)
  have hw : pw D A s.heap H locs ([C] ++ [[(mo, .inr (11, [.int 0, .null, .int 0, .int 0, .null, .null, .null, .int 0, .int 0, .int 0, .int 0]))]]) := hw
  refine lv_dup S.x S.b d_HomeSystemLaw_law_11 rfl ?_
  refine pm_callv (pr := [C]) (pcs := [[(mo, .inr (11, [.int 0, .null, .int 0, .int 0, .null, .null, .null, .int 0, .int 0, .int 0, .int 0]))]]) (px_runI (As := []) (rest := [.ref mo]) S (c_mo_init l D cs sK mo (fun _ => 0) (fun _ => 0) (fun _ _ => 0) (fun _ _ => none) 0 (fun _ => 0) (fun _ _ => 0) 0 (fun _ => ⟨0, fun _ => 0, fun _ _ => none, fun _ => 0, fun _ _ => 0, fun _ => 0, fun _ _ => 0, fun _ _ => 0, fun _ _ => 0, fun _ => 0, fun _ _ => 0, fun _ => 0, fun _ _ => 0, fun _ => 0, fun _ _ => 0⟩) _ _) hT (pr := [C]) (pcs := [[(mo, .inr (11, [.int 0, .null, .int 0, .int 0, .null, .null, .null, .int 0, .int 0, .int 0, .int 0]))]]) hw (px_X.tot (oX_call (P := (fun A U H => (oK sK A U H))) (pr := [C]) oG_K hw hA lo.k)) m9_128 m9_126 m9_127 m1_20 rfl q_Mo_init ⟨Nat.le_of_ble_eq_true rfl, Nat.le_of_ble_eq_true rfl⟩ hl.1 rfl (Nat.le_of_ble_eq_true rfl) d_HomeSystemLaw_law_12 ⟨by show 0 + 1 + k + 1 + 451 ≤ 601024; omega, by show 0 + 6 + n + 11 + 1828003 ≤ 7293034; omega⟩) hw hA (fun p1 k9 n9 H locs hp hw => ?_)
  obtain ⟨mr0, mf0, md0, PG0, hq0, qr0, f0, f1, f2, f3⟩ := hp
  dsimp only at f0
  obtain ⟨M, hMe⟩ : ∃ M : va_W, M = (MV.ps (⟨mr0, mf0, md0, hq0, qr0, fun _ => none, fun _ _ => 0, fun _ _ _ => 0, PG0⟩ : MV) cs mo).flatten := ⟨_, rfl⟩
  have hw := pw_fl (pr := [C]) hw f0
  have hw : pw D A s.heap H locs ([C] ++ [M]) := hw.eq (by rw [hMe]; exact congrArg (fun z => C ++ z) (List.append_nil _).symm)
  have hM : MI cs sK mo 0 (mf0 0).toInt M := ⟨(⟨mr0, mf0, md0, hq0, qr0, fun _ => none, fun _ _ => 0, fun _ _ _ => 0, PG0⟩ : MV), hMe, ⟨prn_00, f2, f3, (show 0 ≤ (mf0 2).toInt ∧ (mf0 2).toInt ≤ 2048 from by have := f1.1; omega), (show 0 ≤ (mf0 10).toInt ∧ (mf0 10).toInt ≤ 6000 from by have := f1.2; omega)⟩, f1.1, rfl⟩
  refine lv_astore_n (lv' := [(2, .ref mo), (1, .ref xh), (0, .ref bq)]) S.x S.b d_HomeSystemLaw_law_15 rfl hl (by decide) rfl (fun ls hl => ?_)
  refine lv_iconst (v := 1) S.x S.b d_HomeSystemLaw_law_16 (by decide) ?_
  refine px_newa S hT hw hA (atype := .long) m14_221 4 rfl rfl (a0 := (1, .inr (.inl (fun _ => 0)))) (fun _ => rfl) (by decide) (by decide +kernel) (Nat.le_of_ble_eq_true rfl) (by show 0 + 1 + k + 1 + 451 + 1 ≤ 601024; omega) (by show 0 + 6 + n + 11 + 1828003 + 1 ≤ 7293034; omega) d_HomeSystemLaw_law_17 (fun q H hw => ?_)
  have hw : pw D A s.heap H locs [wL cs q (fun _ => 0), C, M] := hw.sub [2, 0, 1] rfl rfl
  refine lv_astore_n (lv' := [(3, .ref q), (2, .ref mo), (1, .ref xh), (0, .ref bq)]) S.x S.b d_HomeSystemLaw_law_19 rfl hl (by decide) rfl (fun ls hl => ?_)
  refine lv_iconst (v := 0) S.x S.b d_HomeSystemLaw_law_20 (by decide) ?_
  refine lv_istore (lv' := [(4, .int 0), (3, .ref q), (2, .ref mo), (1, .ref xh), (0, .ref bq)]) S.x S.b d_HomeSystemLaw_law_21 hl (by decide) rfl (fun ls hl => ?_)
  exact law_loop S hT hA hAi lo hX hbl hbA hL hr hlk 512 0 0 (fun _ => 0) C M 0 (mf0 0).toInt (lc0 + fc0) 130 611130 _ _ H locs ls (by omega) (by omega) rfl hC hM ⟨0, by omega, by omega, by omega, by omega⟩ hw (lv_sub hl [0, 4, 3, 2, 1] rfl)
end GL
