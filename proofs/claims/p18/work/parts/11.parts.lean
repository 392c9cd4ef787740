/-! WORLDS IN PARTS: a world is a row of parts (each a list of cells), side by side; a cell is the j-th of the i-th part -/
def pp_off (ps : List va_W) (i : Nat) : Nat := (ps.take i).flatten.length
theorem pp_off_0 (ps : List va_W) : pp_off ps 0 = 0 := by simp [pp_off]
theorem pp_off_s (w : va_W) (ps : List va_W) (i : Nat) : pp_off (w :: ps) (i + 1) = w.length + pp_off ps i := by simp [pp_off]
theorem pp_get {x : Nat × va_E} {w : va_W} {j : Nat} (hx : w[j]? = some x) : ∀ (ps : List va_W) (i : Nat), ps[i]? = some w → ps.flatten[pp_off ps i + j]? = some x
  | [], i, h => by simp at h
  | v :: ps, 0, h => by
    have e : v = w := by simpa using h
    subst e
    have hj : j < v.length := (List.getElem?_eq_some_iff.mp hx).1
    rw [pp_off_0, Nat.zero_add, List.flatten_cons, List.getElem?_append_left hj]
    exact hx
  | v :: ps, i + 1, h => by
    have h' : ps[i]? = some w := by simpa using h
    rw [pp_off_s, List.flatten_cons, Nat.add_assoc, List.getElem?_append_right (Nat.le_add_right _ _), Nat.add_sub_cancel_left]
    exact pp_get hx ps i h'
theorem pp_set {x : Nat × va_E} {w : va_W} {j : Nat} (hj : j < w.length) : ∀ (ps : List va_W) (i : Nat), ps[i]? = some w → ps.flatten.set (pp_off ps i + j) x = (ps.set i (w.set j x)).flatten
  | [], i, h => by simp at h
  | v :: ps, 0, h => by
    have e : v = w := by simpa using h
    subst e
    rw [pp_off_0, Nat.zero_add, List.flatten_cons, List.set_append_left _ _ hj, List.set_cons_zero, List.flatten_cons]
  | v :: ps, i + 1, h => by
    have h' : ps[i]? = some w := by simpa using h
    rw [pp_off_s, List.flatten_cons, Nat.add_assoc, List.set_append_right _ _ (Nat.le_add_right _ _), Nat.add_sub_cancel_left, List.set_cons_succ, List.flatten_cons, pp_set hj ps i h']
theorem pp_off_le {w : va_W} : ∀ (ps : List va_W) (i k : Nat), ps[i]? = some w → i < k → pp_off ps i + w.length ≤ pp_off ps k
  | [], i, k, h, _ => by simp at h
  | v :: ps, 0, 0, _, hk => absurd hk (Nat.lt_irrefl 0)
  | v :: ps, 0, k + 1, h, _ => by
    have e : v = w := by simpa using h
    subst e
    rw [pp_off_0, pp_off_s]
    omega
  | v :: ps, i + 1, 0, _, hk => absurd hk (Nat.not_lt_zero _)
  | v :: ps, i + 1, k + 1, h, hk => by
    have h' : ps[i]? = some w := by simpa using h
    have := pp_off_le ps i k h' (by omega)
    rw [pp_off_s, pp_off_s]
    omega
theorem pp_in {ps : List va_W} {k : Nat} {x : Nat × va_E} (h : ps.flatten[k]? = some x) : ∃ (i j : Nat) (w : va_W), ps[i]? = some w ∧ w[j]? = some x := by
  obtain ⟨w, hw, hx⟩ := List.mem_flatten.mp (List.mem_of_getElem? h)
  obtain ⟨i, hi⟩ := List.mem_iff_getElem?.mp hw
  obtain ⟨j, hj⟩ := List.mem_iff_getElem?.mp hx
  exact ⟨i, j, w, hi, hj⟩
theorem pp_apart {A : Nat → Prop} {ps : List va_W} (hD : va_D A ps.flatten) {i k j n : Nat} {w v : va_W} {x y : Nat × va_E} (h1 : ps[i]? = some w) (h2 : ps[k]? = some v) (hne : i ≠ k) (hx : w[j]? = some x) (hy : v[n]? = some y) : x.1 ≠ y.1 := by
  intro e
  have q := hD.1 _ _ _ _ (pp_get hx ps i h1) (pp_get hy ps k h2) e
  have l1 : j < w.length := (List.getElem?_eq_some_iff.mp hx).1
  have l2 : n < v.length := (List.getElem?_eq_some_iff.mp hy).1
  rcases Nat.lt_or_gt_of_ne hne with h | h
  · have := pp_off_le ps i k h1 h
    omega
  · have := pp_off_le ps k i h2 h
    omega
theorem pp_own {A : Nat → Prop} {ps : List va_W} (hD : va_D A ps.flatten) {i : Nat} {w : va_W} (h : ps[i]? = some w) : va_D A w :=
  ⟨fun a b x y hx hy e => by have q := hD.1 _ _ _ _ (pp_get hx ps i h) (pp_get hy ps i h) e; omega, fun k q hk => hD.2 _ q (pp_get hk ps i h)⟩
theorem pp_P {D : va_G} {cl : List vw_C} {ps : List va_W} {H : Heap} (hP : va_P D cl ps.flatten H) {i : Nat} {w : va_W} (h : ps[i]? = some w) : va_P D cl w H := fun k q hk => hP _ q (pp_get hk ps i h)
theorem pp_P_of {D : va_G} {cl : List vw_C} {ps : List va_W} {H : Heap} (h : ∀ (i : Nat) (w : va_W), ps[i]? = some w → va_P D cl w H) : va_P D cl ps.flatten H := by
  intro k q hk
  obtain ⟨i, j, w, h1, h2⟩ := pp_in hk
  exact h i w h1 j q h2
theorem pp_ix {ps qs : List va_W} {is : List Nat} (hs : is.map (fun i => ps[i]?) = qs.map some) {k : Nat} {w : va_W} (h : qs[k]? = some w) : ∃ i, is[k]? = some i ∧ ps[i]? = some w := by
  have h1 : (is.map (fun i => ps[i]?))[k]? = some (some w) := by rw [hs, List.getElem?_map, h]; rfl
  rw [List.getElem?_map] at h1
  cases hi : is[k]? with
  | none => rw [hi] at h1; cases h1
  | some i => rw [hi] at h1; exact ⟨i, rfl, Option.some.inj h1⟩
theorem pp_subP {D : va_G} {cl : List vw_C} {ps qs : List va_W} {H : Heap} (hP : va_P D cl ps.flatten H) (is : List Nat) (hs : is.map (fun i => ps[i]?) = qs.map some) : va_P D cl qs.flatten H :=
  pp_P_of fun k w hw => by obtain ⟨i, -, h⟩ := pp_ix hs hw; exact pp_P hP h
theorem pp_subD {A : Nat → Prop} {ps : List va_W} (hD : va_D A ps.flatten) : ∀ (is : List Nat) (qs : List va_W), va_nd is = true → is.map (fun i => ps[i]?) = qs.map some → va_D A qs.flatten
  | [], [], _, _ => ⟨fun i j p q h => by simp at h, fun k q h => by simp at h⟩
  | [], w :: qs, _, h => by simp at h
  | i :: is, [], _, h => by simp at h
  | i :: is, w :: qs, hn, h => by
    simp only [va_nd, Bool.and_eq_true, decide_eq_true_eq] at hn
    simp only [List.map_cons, List.cons.injEq] at h
    rw [List.flatten_cons]
    refine va_D.app (pp_own hD h.1) (pp_subD hD is qs hn.2 h.2) (fun a b x y hx hy => ?_)
    obtain ⟨k, j, v, h1, h2⟩ := pp_in hy
    obtain ⟨i', h3, h4⟩ := pp_ix h.2 h1
    refine pp_apart hD h.1 h4 (fun e => ?_) hx h2
    subst e
    exact hn.1 (List.mem_of_getElem? h3)
theorem pp_push (ps : List va_W) (x : Nat × va_E) : ps.flatten ++ [x] = (ps ++ [[x]]).flatten := by simp
theorem pp_two (ps qs : List va_W) : (ps ++ qs).flatten = ps.flatten ++ qs.flatten := by simp
/-- behind a call: the caller's other parts pr, and what the callee made of its own parts pc -/
theorem pp_join {A0 : Nat → Prop} {D : va_G} {cl : List vw_C} {pr pc p1 : List va_W} {H H1 : Heap} (hP : va_P D cl (pr ++ pc).flatten H) (hD : va_D A0 (pr ++ pc).flatten)
    (hk : ∀ q : Nat, q < H.size → ¬ va_A pc.flatten H.size q → H1[q]? = H[q]?) (hF : ∀ q, va_A pc.flatten H.size q → A0 q) (hP1 : va_P D cl p1.flatten H1) (hD1 : va_D (va_A pc.flatten H.size) p1.flatten) : va_P D cl (pr ++ p1).flatten H1 ∧ va_D A0 (pr ++ p1).flatten := by
  rw [pp_two] at hP hD ⊢
  have left : ∀ (k : Nat) (q : Nat × va_E), pr.flatten[k]? = some q → (pr.flatten ++ pc.flatten)[k]? = some q := fun k q h => by
    rw [List.getElem?_append_left (List.getElem?_eq_some_iff.mp h).1]; exact h
  have right : ∀ (k : Nat) (q : Nat × va_E), pc.flatten[k]? = some q → (pr.flatten ++ pc.flatten)[pr.flatten.length + k]? = some q := fun k q h => by
    rw [List.getElem?_append_right (Nat.le_add_right _ _), Nat.add_sub_cancel_left]; exact h
  have apart : ∀ (k : Nat) (q : Nat × va_E), pr.flatten[k]? = some q → q.1 < H.size ∧ ¬ va_A pc.flatten H.size q.1 := by
    intro k q hq
    have hl := (hP k q (left k q hq)).lt
    refine ⟨hl, fun h => ?_⟩
    rcases h with ⟨k2, e, h⟩ | h
    · have hij := hD.1 k (pr.flatten.length + k2) q (q.1, e) (left k q hq) (right k2 _ h) rfl
      have := (List.getElem?_eq_some_iff.mp hq).1
      omega
    · omega
  refine ⟨va_P.app (fun k q hq => ?_) hP1, va_D.app ⟨fun i j x y hx hy e => hD.1 i j x y (left i x hx) (left j y hy) e, fun k q hq => hD.2 k q (left k q hq)⟩ (hD1.weaken (fun k q _ h => hF q.1 h)) (fun i j x y hx hy hxy => ?_)⟩
  · obtain ⟨g1, g2⟩ := apart k q hq
    exact (hP k q (left k q hq)).kept (hk q.1 g1 g2)
  · exact (apart i x hx).2 (by rw [hxy]; exact hD1.2 j y hy)
/-- what a callee may change lies in what the caller may change -/
theorem pp_free {A0 : Nat → Prop} {pr pc : List va_W} {H0 H : Heap} {locs : List Loc} (hD : va_D A0 (pr ++ pc).flatten) (hS : va_S A0 H0 H locs) (hA : ∀ q, H0.size ≤ q → A0 q) : ∀ q, va_A pc.flatten H.size q → A0 q := by
  intro q h
  rw [pp_two] at hD
  rcases h with ⟨k, e, h⟩ | h
  · exact hD.2 (pr.flatten.length + k) (q, e) (by rw [List.getElem?_append_right (Nat.le_add_right _ _), Nat.add_sub_cancel_left]; exact h)
  · exact hA q (Nat.le_trans hS.1 h)
theorem pp_cP {D : va_G} {cl : List vw_C} {pr pc : List va_W} {H : Heap} (hP : va_P D cl (pr ++ pc).flatten H) : va_P D cl pc.flatten H := fun k q hk => by
  rw [pp_two] at hP
  exact hP (pr.flatten.length + k) q (by rw [List.getElem?_append_right (Nat.le_add_right _ _), Nat.add_sub_cancel_left]; exact hk)
theorem pp_cD {A : Nat → Prop} {pr pc : List va_W} (hD : va_D A (pr ++ pc).flatten) : va_D (fun _ => True) pc.flatten := by
  rw [pp_two] at hD
  refine ⟨fun i j x y hx hy e => ?_, fun _ _ _ => trivial⟩
  have := hD.1 (pr.flatten.length + i) (pr.flatten.length + j) x y (by rw [List.getElem?_append_right (Nat.le_add_right _ _), Nat.add_sub_cancel_left]; exact hx) (by rw [List.getElem?_append_right (Nat.le_add_right _ _), Nat.add_sub_cancel_left]; exact hy) e
  omega
/-- an array class is known by its type alone -/
theorem pp_cls {D : va_G} {cl : List vw_C} {tys : List (ClassId × FieldType)} {cA cB : ClassId} {ty : FieldType} {s : State} (hK : va_K D cl (tys ++ [(cA, ty)]) s) {t0 : Nat} (ht : tys[t0]? = some (cB, ty)) : cA = cB := by
  have h1 := (hK.2 tys.length (cA, ty) (by simp)).2
  have h2 := (hK.2 t0 (cB, ty) (by rw [List.getElem?_append_left (List.getElem?_eq_some_iff.mp ht).1]; exact ht)).2
  have f : ∀ {c : ClassId}, va_RA s c ty → s.vm.findClass ("[" ++ ty.toString) = some c := by
    intro c h
    cases ty with
    | object C => obtain ⟨_, _, _, _, _, h⟩ := h; exact h
    | _ => exact h
  exact Option.some.inj ((f h1).symm.trans (f h2))
