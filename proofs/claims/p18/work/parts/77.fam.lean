/-! FAMILIES OF PARTS: n blocks side by side, one of them taken out and put back -/
theorem nd_of {ws : va_W} (h : ∀ (i j : Nat) (x y : Nat × va_E), ws[i]? = some x → ws[j]? = some y → x.1 = y.1 → i = j) : (ws.map (·.1)).Nodup := by
  rw [List.Nodup, List.pairwise_iff_getElem]
  intro i j hi hj hij e
  have hi' : i < ws.length := by simpa using hi
  have hj' : j < ws.length := by simpa using hj
  rw [List.getElem_map, List.getElem_map] at e
  have := h i j ws[i] ws[j] (List.getElem?_eq_getElem hi') (List.getElem?_eq_getElem hj') e
  omega
theorem nd_to {ws : va_W} (h : (ws.map (·.1)).Nodup) (i j : Nat) (x y : Nat × va_E) (hi : ws[i]? = some x) (hj : ws[j]? = some y) (e : x.1 = y.1) : i = j := by
  have hil := List.getElem?_eq_some_iff.mp hi
  have hjl := List.getElem?_eq_some_iff.mp hj
  obtain ⟨hi1, hi2⟩ := hil
  obtain ⟨hj1, hj2⟩ := hjl
  have hp := List.pairwise_iff_getElem.mp h
  rcases Nat.lt_trichotomy i j with hlt | hlt | hlt
  · have q := hp i j (by simpa using hi1) (by simpa using hj1) hlt
    rw [List.getElem_map, List.getElem_map, hi2, hj2] at q
    exact absurd e q
  · exact hlt
  · have q := hp j i (by simpa using hj1) (by simpa using hi1) hlt
    rw [List.getElem_map, List.getElem_map, hi2, hj2] at q
    exact absurd e.symm q
theorem pw_perm {D : va_G} {A : Nat → Prop} {H0 H : Heap} {locs : List Loc} {ps qs : List va_W} (h : pw D A H0 H locs ps) (hp : ps.flatten.Perm qs.flatten) : pw D A H0 H locs qs := by
  refine ⟨fun k q hk => ?_, ⟨fun i j x y hx hy e => ?_, fun k q hk => ?_⟩, h.2.2⟩
  · obtain ⟨k', hk'⟩ := List.mem_iff_getElem?.mp (hp.mem_iff.mpr (List.mem_of_getElem? hk))
    exact h.1 k' q hk'
  · exact nd_to ((hp.map (·.1)).nodup_iff.mp (nd_of h.2.1.1)) i j x y hx hy e
  · obtain ⟨k', hk'⟩ := List.mem_iff_getElem?.mp (hp.mem_iff.mpr (List.mem_of_getElem? hk))
    exact h.2.1.2 k' q hk'
def fm (n : Nat) (T : Nat → va_W) : va_W := ((List.range n).map T).flatten
def fo (n : Nat) (T : Nat → va_W) (p : Nat) : va_W := (((List.range n).filter (fun i => decide (i ≠ p))).map T).flatten
theorem fm_s (n : Nat) (T : Nat → va_W) : fm (n + 1) T = fm n T ++ T n := by simp [fm, List.range_succ]
theorem fo_s {n : Nat} (T : Nat → va_W) {p : Nat} (h : n ≠ p) : fo (n + 1) T p = fo n T p ++ T n := by
  unfold fo
  rw [List.range_succ, List.filter_append, List.map_append, List.flatten_append]
  simp [h]
theorem fo_e (n : Nat) (T : Nat → va_W) : fo (n + 1) T n = fo n T n := by
  unfold fo
  rw [List.range_succ, List.filter_append, List.map_append, List.flatten_append]
  simp
theorem fo_all : ∀ (n : Nat) (T : Nat → va_W) (p : Nat), n ≤ p → fo n T p = fm n T
  | 0, T, p, _ => by simp [fo, fm]
  | n + 1, T, p, h => by rw [fo_s T (by omega), fm_s, fo_all n T p (by omega)]
theorem fm_perm : ∀ (n : Nat) (T : Nat → va_W) (p : Nat), p < n → (fm n T).Perm (fo n T p ++ T p)
  | 0, T, p, h => absurd h (Nat.not_lt_zero _)
  | n + 1, T, p, h => by
    by_cases e : n = p
    · subst e
      rw [fm_s, fo_e, fo_all n T n (Nat.le_refl _)]
    · rw [fm_s, fo_s T e]
      have h1 := (fm_perm n T p (by omega)).append_right (T n)
      refine h1.trans ?_
      rw [List.append_assoc, List.append_assoc]
      exact List.Perm.append_left _ List.perm_append_comm
theorem fo_up (n : Nat) (T : Nat → va_W) (p : Nat) (w : va_W) : fo n (va_up T p w) p = fo n T p := by
  unfold fo
  congr 1
  refine List.map_congr_left (fun i hi => ?_)
  have h := (List.mem_filter.mp hi).2
  exact va_up_n (by simpa using h)
theorem fm_out {D : va_G} {A : Nat → Prop} {H0 H : Heap} {locs : List Loc} {pr : List va_W} {n : Nat} {T : Nat → va_W} (hw : pw D A H0 H locs (pr ++ [fm n T])) {p : Nat} (hp : p < n) : pw D A H0 H locs (pr ++ [fo n T p, T p]) := by
  refine pw_perm hw ?_
  rw [pp_two, pp_two]
  refine List.Perm.append_left _ ?_
  simpa using fm_perm n T p hp
theorem fm_in {D : va_G} {A : Nat → Prop} {H0 H : Heap} {locs : List Loc} {pr : List va_W} {n : Nat} {T : Nat → va_W} {p : Nat} {w : va_W} (hw : pw D A H0 H locs (pr ++ [fo n T p, w])) (hp : p < n) : pw D A H0 H locs (pr ++ [fm n (va_up T p w)]) := by
  refine pw_perm hw ?_
  rw [pp_two, pp_two]
  refine List.Perm.append_left _ ?_
  have h := (fm_perm n (va_up T p w) p hp).symm
  rw [fo_up, va_up_s] at h
  simpa using h
/-- parts may be joined and parted -/
theorem pw_cat {D : va_G} {A : Nat → Prop} {H0 H : Heap} {locs : List Loc} {ps qs : List va_W} (h : pw D A H0 H locs ps) (e : ps.flatten = qs.flatten) : pw D A H0 H locs qs := pw_perm h (by rw [e])
