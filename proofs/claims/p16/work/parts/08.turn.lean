/-! HomeSystem.turn, which returns or throws; the words of a throw -/
def tx_nr (w : Cond) : Bool := match w with | .isRef _ => false | _ => true
def tx_tab (own : String) (ia ic : Nat) (E : String) (names : List String) : List Cond := .classLink own ia E :: .initialized E :: (Bundle.ownAtoms0 own ic E names).filter tx_nr
/-- what the heap must hold for a throw: Throwable's two constants are there -/
def tx_Sent (U : State) : Prop := (Cond.isRef (.static Bundle.tN "UNASSIGNED_STACK" Bundle.steD)).before #[] U = true ∧ (Cond.isRef (.static Bundle.tN "SUPPRESSED_SENTINEL" Bundle.listD)).before #[] U = true
theorem tx_nr_pass (X Y : String) (b : ByteArray) (i : Nat) : ∀ w ∈ Bundle.passAtoms X Y i b, tx_nr w = true := by
  intro w hw
  simp only [Bundle.passAtoms, List.mem_cons, List.not_mem_nil, or_false] at hw
  rcases hw with rfl | rfl | rfl | rfl | rfl <;> rfl
theorem tx_nr_chain : ∀ (names : List String) (X : String), ∀ w ∈ Bundle.chain0Atoms X names, tx_nr w = true
  | [], X, w, hw => tx_nr_pass _ _ _ _ w hw
  | Y :: r, X, w, hw => by
    simp only [Bundle.chain0Atoms, List.mem_append] at hw
    rcases hw with hw | hw
    · exact tx_nr_pass _ _ _ _ w hw
    · exact tx_nr_chain r Y w hw
theorem tx_nr_thr : ∀ w ∈ Bundle.throwableAtoms, tx_nr w = true := by
  intro w hw
  simp only [Bundle.throwableAtoms, List.mem_cons, List.not_mem_nil, or_false] at hw
  rcases hw with rfl | rfl | rfl | rfl | rfl | rfl | rfl | rfl | rfl | rfl | rfl | rfl | rfl | rfl | rfl | rfl | rfl | rfl | rfl | rfl | rfl | rfl | rfl | rfl <;> rfl
theorem tx_atoms {own : String} {ia ic : Nat} {E : String} {names : List String} {args : Array Value} {s : State} (h : ∀ w ∈ tx_tab own ia ic E names, w.before args s = true) (hs : tx_Sent s) :
    ∀ a ∈ Bundle.ownAtoms0 own ic E names, a.before args s = true := by
  intro a ha
  have h1 : tx_nr a = true → a.before args s = true := fun hr => h a (List.mem_cons_of_mem _ (List.mem_cons_of_mem _ (List.mem_filter.mpr ⟨ha, hr⟩)))
  have h2 : ∀ t : Term, (t = .static Bundle.tN "UNASSIGNED_STACK" Bundle.steD ∨ t = .static Bundle.tN "SUPPRESSED_SENTINEL" Bundle.listD) → (Cond.isRef t).before args s = true := by
    rintro t (rfl | rfl)
    · simpa [Cond.before, Cond.holds, Cond.value, Term.eval] using hs.1
    · simpa [Cond.before, Cond.holds, Cond.value, Term.eval] using hs.2
  have ha' := ha
  simp only [Bundle.ownAtoms0, List.mem_append, List.mem_cons, List.not_mem_nil, or_false] at ha'
  rcases ha' with (ha' | ha') | ha'
  · exact h1 (tx_nr_thr a ha')
  · exact h1 (tx_nr_chain names E a ha')
  · rcases ha' with rfl | rfl | rfl | rfl | rfl | rfl | rfl | rfl | rfl | rfl | rfl | rfl | rfl | rfl
    all_goals first | exact h1 rfl | exact h2 _ (Or.inl rfl) | exact h2 _ (Or.inr rfl)
abbrev b_Hs_turn : ByteArray := prog_1_method_8_code
def y_Hs_turn : MethodName := ⟨R_Hs, "turn", "(I)V"⟩
abbrev tx_IAE : String := "java/lang/IllegalArgumentException"
abbrev tx_RT : List String := ["java/lang/RuntimeException", "java/lang/Exception"]
def w_Hs_turn : List Cond := .code y_Hs_turn b_Hs_turn 2 none :: ([.constant R_Hs 84 100000] ++ tx_tab R_Hs 59 61 tx_IAE tx_RT)
theorem d_Hs_turn_0 : decode b_Hs_turn 0 = .ok (.iload_n 1, 1) := by decide +kernel
theorem d_Hs_turn_1 : decode b_Hs_turn 1 = .ok (.sipush 200, 3) := by decide +kernel
theorem d_Hs_turn_4 : decode b_Hs_turn 4 = .ok (.if_icmp .lt 9, 3) := by decide +kernel
theorem d_Hs_turn_7 : decode b_Hs_turn 7 = .ok (.iload_n 1, 1) := by decide +kernel
theorem d_Hs_turn_8 : decode b_Hs_turn 8 = .ok (.ldc 84, 2) := by decide +kernel
theorem d_Hs_turn_10 : decode b_Hs_turn 10 = .ok (.if_icmp .le 11, 3) := by decide +kernel
theorem d_Hs_turn_13 : decode b_Hs_turn 13 = .ok (.new 59, 3) := by decide +kernel
theorem d_Hs_turn_16 : decode b_Hs_turn 16 = .ok (.dup, 1) := by decide +kernel
theorem d_Hs_turn_17 : decode b_Hs_turn 17 = .ok (.invokespecial 61, 3) := by decide +kernel
theorem d_Hs_turn_20 : decode b_Hs_turn 20 = .ok (.athrow, 1) := by decide +kernel
theorem d_Hs_turn_21 : decode b_Hs_turn 21 = .ok (.return_, 1) := by decide +kernel
/-- turn(n): nothing changes where n is 200 to 100000; else IllegalArgumentException -/
def tx_Qturn (n : Int32) (E : String) : Array Value → State → Outcome → State → Prop := fun _ st o t =>
  (¬ n < 200 ∧ n ≤ 100000 ∧ o = .returned none ∧ t.heap = st.heap) ∨ ((n < 200 ∨ ¬ n ≤ 100000) ∧ ∃ x : Addr, o = .threw x ∧ tx_new E st x t)
set_option maxHeartbeats 4000000 in
set_option maxRecDepth 100000 in
theorem c_Hs_turn (l : Launch) (hl : l.flags = pinnedFlags ++ [noTraceFlag]) (h0 : Nat) (n : Int32) :
    tx_Met l y_Hs_turn w_Hs_turn ({ frames := 6, cells := 1, slots := 6, locals := 100 }) (va_Pc [.ref h0, .int n] tx_Sent) (tx_Qturn n tx_IAE) 1 6 (fun _ => False) := by
  refine tx_ofW (cc := b_Hs_turn) (maxL := 2) (ret := none) (by decide) rfl ?_
  intro p e s m args below meth c s₁ B hml hv hadm hne
  obtain ⟨rfl, hsent⟩ := hv
  have hx := B.exec
  have hb := B.bytes
  have hr := B.returns
  have hts := atoms_spec (ws := w_Hs_turn) B.pre
  have hown : s.vm.findClass R_Hs = some m.cls := findClass_of_methodNamed B.named
  have hlocks := B.notSynchronized
  have htr := Launch.traces_off hl hadm
  have hl := lv_entry ([.ref h0, .int n]) (n := 2) (Nat.le_of_ble_eq_true rfl)
  rw [lg_entry_eq]
  generalize (lg_sl ([.ref h0, .int n]) ++ List.replicate (2 - (lg_sl ([.ref h0, .int n])).length) Slot.unset).toArray = ls at hl ⊢
  have hl : lv_has ls 2 [(0, .ref h0), (1, .int n)] := hl
  have hT : ∀ w ∈ tx_tab R_Hs 59 61 tx_IAE tx_RT, w.before [Value.ref h0, Value.int n].toArray s = true := fun w hw => hts w (List.mem_cons_of_mem _ (List.mem_append_right _ hw))
  have hthrow : (n < 200 ∨ ¬ n ≤ 100000) → W p l e (headSpec w_Hs_turn { frames := 6, cells := 1, slots := 6, locals := 100 }).room s m [Value.ref h0, Value.int n].toArray below meth c s.heap [] 0 0 (tx_MQ below (tx_Qturn n tx_IAE) [Value.ref h0, Value.int n].toArray s 1 6 (fun _ => False)) (F0 m 13 ls []) := fun hbad =>
    tx_throw (own := R_Hs) (E := tx_IAE) (names := tx_RT) hx hb hlocks htr hown (hT _ List.mem_cons_self) (hT _ (List.mem_cons_of_mem _ List.mem_cons_self)) (by decide +kernel) (by decide +kernel) (tx_atoms hT hsent) (hl.1.trans hml.symm)
      d_Hs_turn_13 d_Hs_turn_16 d_Hs_turn_17 d_Hs_turn_20 hne (Nat.le_of_ble_eq_true rfl) (Nat.le_of_ble_eq_true rfl) (Nat.le_of_ble_eq_true rfl) (Nat.le_of_ble_eq_true rfl) (fun x t hW hn => Or.inr ⟨hbad, x, rfl, hn⟩)
  refine lv_iload_n hx hb d_Hs_turn_0 rfl (lv_at hl 1 rfl) ?_
  refine lv_sipush (v := 200) hx hb d_Hs_turn_1 (by decide) ?_
  refine lv_icmp_lt (tgt := 13) hx hb d_Hs_turn_4 (by decide) (fun c1 => ?_) (fun c1 => ?_)
  · exact hthrow (Or.inl c1)
  · refine lv_iload_n hx hb d_Hs_turn_7 rfl (lv_at hl 1 rfl) ?_
    refine lv_ldc (v := 100000) hx hb hown (hts (.constant R_Hs 84 100000) (List.mem_cons_of_mem _ (List.mem_append_left _ List.mem_cons_self))) d_Hs_turn_8 ?_
    refine lv_icmp_le (tgt := 21) hx hb d_Hs_turn_10 (by decide) (fun c2 => ?_) (fun c2 => ?_)
    · refine W.widen (k := 1) (n := 6) (by omega) (by omega) ?_
      exact tx_ret (Qc := fun _ st o t => o = .returned none ∧ t.heap = st.heap) (fun o t h => Or.inl ⟨c1, c2, h.1, h.2⟩) (W.vret hx hb hr (fun t ht hW => ⟨rfl, ht⟩) (fun q hq => by cases hq) d_Hs_turn_21)
    · exact hthrow (Or.inr c2)
