/-! THE REFERENCE's checker: enumerations -/
def OkEn2 (k : Nat → Int) (vl : Nat → Int32) (c : Nat) (na ca0 : Nat → Nat → Int32) (n38 : Int32) (M0 : Nat → Int32) (L : Nms) (sc lo hi : Nat) (x : Option Nms) (ma : Nat → Nat → Int32) (cf : Nat → Int32) (ma' : Nat → Nat → Int32) (cf' : Nat → Int32) (ca' : Nat → Nat → Int32) : Prop := ∃ X : Nms, CkS k vl c na ca0 n38 M0 (L ++ X) sc cf' ca' ma' ∧ (L ++ X).length ≤ hi ∧ FrM ma ma' lo hi ∧ DfS cf cf' ∧ cf' 42 = cf 42 ∧ AC cf cf' x (fun L' => L' = L ++ X)
section SM
variable {tf : Nat → Int32} {ta na ca ca0 ca1 ca' ma ma' ma1 : Nat → Nat → Int32} {vl M0 : Nat → Int32} {k : Nat → Int} {ql : Nat → Int} {c sc lo hi mid t : Nat} {n38 : Int32} {F : Int32 → Option Fnc} {cf cf' cf1 : Nat → Int32} {L : Nms} {p0 p1 v n : Int32} {e a b s : Ast}
theorem se_n : semEns k vl F sc .null L n = some L := by first | rfl | simp [semEns]
theorem se_a : semEns k vl F sc (.add a b) L n = (semEn k vl (lkp L) F a n).bind fun x => (dcl true F sc L (vl (tokV a)) (0, x)).bind fun L' => semEns k vl F sc b L' (x + 1) := by first | rfl | simp [semEns]
theorem dcl_g {tp : Bool} {nm : Int32} {g g' : Ent} (h : dcl tp F sc L nm g = none) : dcl tp F sc L nm g' = none := by
  unfold dcl at h ⊢
  split at h
  · next q => exact if_pos q
  · exact absurd h (by simp)
theorem en_9 (H : TxH tf ta na ca0 k vl ql c n38 M0 F) : ∀ (vs : Ast) (m : Nat) (x2 x3 : Int32) (lo hi : Nat) (ma : Nat → Nat → Int32) (cf : Nat → Int32) (ca : Nat → Nat → Int32) (L : Nms), E_mp_checkEnum tf ta na p0 ma' cf' ca' m 9 [x2, x3] [] [] [] [] ma cf ca → RowS na (RepE k c na ma) vs x3.toInt lo hi → hi ≤ 100000 → CkS k vl c na ca0 n38 M0 L sc cf ca ma → L.length ≤ lo → (cf 43).toInt < 0 → OkEn2 k vl c na ca0 n38 M0 L sc lo hi (semEns k vl F sc vs L x2) ma cf ma' cf' ca' := by
  intro vs
  induction vs with
  | null =>
    intro m x2 x3 lo hi ma cf ca L h hR hh S hL h43
    have hR' : x3.toInt < 0 ∧ lo ≤ hi := hR
    rcases iv_mp_checkEnum_9 h with ⟨m', (⟨h1, e0, e1, e2⟩ | ⟨h1, z5, h2, cf7, h3, z29, h4, (⟨h5, ma32, h6, z33, h7, cf36, ca37, h8, z60, h9, z61, h10, hQ⟩ | ⟨h5, z62, h6, ma65, cf66, v68, h7, (⟨h8, ma83, h9, z84, h10, cf87, ca88, h11, z111, h12, z112, h13, hQ⟩ | ⟨h8, ma113, h9, z114, h10, cf117, ca118, h11, z141, h12, z142, h13, hQ⟩)⟩)⟩)⟩
    · rw [e0, e1, e2, se_n]
      exact ⟨[], by rw [List.append_nil]; exact S, by rw [List.append_nil]; omega, FrM.rf, DfS.rf, rfl, AC.ret (by rw [List.append_nil])⟩
    all_goals (exfalso; omega)
  | add v r ihv ihr =>
    intro m x2 x3 lo hi ma cf ca L h hR hh S hL h43
    obtain ⟨mid, r1, r2, r3, r4⟩ := hR
    obtain ⟨v1, v2, t, v3, v4⟩ := r3
    have hid := fun (_ : True) => v4
    clear v4
    have xi : x3.toNatClampNeg = lo := cn_of r1
    have nxt : ∀ {ma8 ma1 ca1 : Nat → Nat → Int32} {cf7 cf8 cf1 : Nat → Int32} {y z zz z5 : Int32} {m' : Nat} {Y : Option Int32}, SmK cf cf7 → AC cf cf7 (dcl true F sc L (vl t) (0, y)) (fun L' => L' = L ++ [(vl t, (0, y))]) → AC cf7 cf8 Y (fun x => x = y) → D57 cf7 cf8 → FrM ma ma8 (lo + 1) mid → CkS k vl c na ca0 n38 M0 L sc cf8 ca ma8 → ma1 = vu ma8 18 lo y → R_mp_know z5 (4 : Int32) y (-1 : Int32) cf8 ca cf1 ca1 → z5.toInt = (t : Int) → semEn k vl (lkp L) F v x2 = Y → tokV v = t → zz = na 21 lo → z = y + 1 → E_mp_checkEnum tf ta na p0 ma' cf' ca' m' 9 [z, zz] [] [] [] [] ma1 cf1 ca1 → OkEn2 k vl c na ca0 n38 M0 L sc lo hi (semEns k vl F sc (.add v r) L x2) ma cf ma' cf' ca' := by
      intro ma8 ma1 ca1 cf7 cf8 cf1 y z zz z5 m' Y sm d a8 d8 f8 S8 hma hK h5 hY ht hzz hz hE
      obtain ⟨b1, b2, b3, b4⟩ := know_e hK S8.1 h5 v3.2.1 v3.2.2 (by decide) (by omega)
      rw [if_pos (by decide)] at b1
      have hM : MgO na M0 (ma1 22) := fun i q => by rw [hma, vu_p (by omega)]; exact S8.2.2.2.1 i q
      have el : (L ++ [(vl t, ((0 : Int), y))]).length = L.length + 1 := by rw [List.length_append]; rfl
      have S1 : CkS k vl c na ca0 n38 M0 (L ++ [(vl t, (0, y))]) sc cf1 ca1 ma1 := ⟨b1, (b2 38 (by decide)).trans S8.2.1, b3.trans S8.2.2.1, hM, by rw [b2 37 (by decide)]; exact S8.2.2.2.2.1, by rw [el]; have := S8.2.2.2.2.2.1; omega, b4.trans S8.2.2.2.2.2.2⟩
      have f1 : FrM ma ma1 lo mid := fun g i q => by rw [hma, vu_at (by omega)]; exact f8 g i (by omega)
      have dd : DfS cf cf1 := fun j h1 h2 h3 h4 h5 h6 h7 h8 => (b2 j h3).trans ((d8 j h1 h2 h7).trans (sm j h1 h2))
      have e43 : cf1 43 = cf 43 := dd 43 (by decide) (by decide) (by decide) (by decide) (by decide) (by decide) (by decide) (by decide)
      have e42 : cf1 42 = cf 42 := (b2 42 (by decide)).trans ((d8 42 (by decide) (by decide) (by decide)).trans (sm 42 (by decide) (by decide)))
      have e30 : cf1 30 = cf8 30 := b2 30 (by decide)
      obtain ⟨X, g1, g2, g3, g4, g5, g6⟩ := ihr m' z zz mid hi ma1 cf1 ca1 (L ++ [(vl t, (0, y))]) hE (by rw [hzz]; exact row_kp _ _ _ _ r4 (fun _ _ _ => rfl) (fun s l h q1 q2 q3 => rpe_kp q3 (FrM.ag (r := -1) f1 (Or.inr q1)) (by omega))) hh S1 (by rw [el]; omega) (by rw [e43]; exact h43)
      have ea : L ++ ((vl t, ((0 : Int), y)) :: X) = L ++ [(vl t, (0, y))] ++ X := by rw [List.append_assoc]; rfl
      refine ⟨(vl t, (0, y)) :: X, by rw [ea]; exact g1, by rw [ea]; exact g2, (f1.le (Nat.le_refl _) r2.2).tr (g3.le (by omega) (Nat.le_refl _)), dd.tr g4, g5.trans e42, ?_⟩
      have B8 : Bc cf8 → Bc cf' := fun q => g6.1 (by unfold Bc; rw [e30]; exact q)
      have B7 : Bc cf7 → Bc cf' := fun q => B8 (a8.1 q)
      rw [se_a, ht, hY, ea]
      refine AC.of (fun q => B7 (d.1 q)) (fun u => ?_)
      rcases opt_c (dcl true F sc L (vl t) (0, y)) with hd | ⟨L', hd⟩
      · refine Or.inl ⟨?_, B7 (d.n u hd)⟩
        rcases opt_c Y with hy | ⟨x, hy⟩
        · rw [hy]; rfl
        · rw [hy]
          show (dcl true F sc L (vl t) (0, x)).bind _ = none
          rw [dcl_g hd]; rfl
      · obtain ⟨u7, eL⟩ := d.y u hd
        rcases opt_c Y with hy | ⟨x, hy⟩
        · exact Or.inl ⟨by rw [hy]; rfl, B8 (a8.n u7 hy)⟩
        · obtain ⟨u8, ex⟩ := a8.y u7 hy
          have g6' := (g6.e30 (a' := cf8) (b' := cf') e30.symm rfl).2 u8
          rw [hy, ex]
          show ((dcl true F sc L (vl t) (0, y)).bind fun L' => semEns k vl F sc r L' (y + 1)) = none ∧ Bc cf' ∨ ∃ z, ((dcl true F sc L (vl t) (0, y)).bind fun L' => semEns k vl F sc r L' (y + 1)) = some z ∧ Uc cf' ∧ z = L ++ [(vl t, (0, y))] ++ X
          rw [hd, eL]
          show semEns k vl F sc r (L ++ [(vl t, (0, y))]) (y + 1) = none ∧ Bc cf' ∨ ∃ z, semEns k vl F sc r (L ++ [(vl t, (0, y))]) (y + 1) = some z ∧ Uc cf' ∧ z = L ++ [(vl t, (0, y))] ++ X
          rw [hz] at g6'
          rcases opt_c (semEns k vl F sc r (L ++ [(vl t, (0, y))]) (y + 1)) with hs | ⟨w, hs⟩
          · rw [hs] at g6'
            exact Or.inl ⟨hs, g6'⟩
          · rw [hs] at g6'
            exact Or.inr ⟨w, hs, g6'.1, g6'.2⟩
    rcases iv_mp_checkEnum_9 h with ⟨m', (⟨h1, e0, e1, e2⟩ | ⟨h1, z5, h2, cf7, h3, z29, h4, (⟨h5, ma32, h6, z33, h7, cf36, ca37, h8, z60, h9, z61, h10, hQ⟩ | ⟨h5, z62, h6, ma65, cf66, v68, h7, (⟨h8, ma83, h9, z84, h10, cf87, ca88, h11, z111, h12, z112, h13, hQ⟩ | ⟨h8, ma113, h9, z114, h10, cf117, ca118, h11, z141, h12, z142, h13, hQ⟩)⟩)⟩)⟩
    · exfalso; omega
    all_goals
      rw [xi] at h2 h4
      rw [h4] at h5
    all_goals have ht5 : z5.toInt = (t : Int) := by rw [h2]; exact v3.1
    · rw [xi] at h6 h7 h10
      rcases hid trivial with ⟨a1, a2⟩ | ⟨e, a1, a2⟩
      · obtain ⟨n1, n2⟩ := new_r H S ht5 v3.2.1 v3.2.2 true ⟨fun _ => h43, fun _ => rfl⟩ (0, x2) h3
        have S7 : CkS k vl c na ca0 n38 M0 L sc cf7 ca ma := S.sm (n1 33 (by decide) (by decide)) (n1 37 (by decide) (by decide)) (n1 38 (by decide) (by decide)) S.2.2.2.1
        exact nxt (Y := some x2) n1 n2 (AC.ret rfl) (fun _ _ _ _ => rfl) FrM.rf S7 h6 h8 (by rw [h7]; exact v3.1) (by rw [a1]; rfl) (by rw [a1]; rfl) h10 h9 hQ
      · exfalso; obtain ⟨j, j1, -⟩ := a2.2.2; omega
    · rw [xi] at h6 h9 h10 h13
      rcases hid trivial with ⟨a1, a2⟩ | ⟨e, a1, a2⟩
      · exact absurd a2 h5
      · obtain ⟨n1, n2⟩ := new_r H S ht5 v3.2.1 v3.2.2 true ⟨fun _ => h43, fun _ => rfl⟩ (0, x2) h3
        have S7 : CkS k vl c na ca0 n38 M0 L sc cf7 ca ma := S.sm (n1 33 (by decide) (by decide)) (n1 37 (by decide) (by decide)) (n1 38 (by decide) (by decide)) S.2.2.2.1
        obtain ⟨o1, o2, o3, o4, o5⟩ := kn_s (hi := mid) H S7 (by omega) (by rw [h6]; exact a2) h7
        refine nxt (Y := ((att k vl (lkp L) F e [] 0).bind aKon).bind fun a => some a.2.2.1) n1 n2 ?_ o1 o2 o4 h9 h11 (by rw [h10]; exact v3.1) (by rw [a1]; rfl) (by rw [a1]; rfl) h13 h12 hQ
        refine AC.bind o5 (fun a q => ?_) id
        exfalso; have := q.1; omega
    · rw [xi] at h6 h9 h10 h13
      rcases hid trivial with ⟨a1, a2⟩ | ⟨e, a1, a2⟩
      · exact absurd a2 h5
      · obtain ⟨n1, n2⟩ := new_r H S ht5 v3.2.1 v3.2.2 true ⟨fun _ => h43, fun _ => rfl⟩ (0, cf66 57) h3
        have S7 : CkS k vl c na ca0 n38 M0 L sc cf7 ca ma := S.sm (n1 33 (by decide) (by decide)) (n1 37 (by decide) (by decide)) (n1 38 (by decide) (by decide)) S.2.2.2.1
        obtain ⟨o1, o2, o3, o4, o5⟩ := kn_s (hi := mid) H S7 (by omega) (by rw [h6]; exact a2) h7
        refine nxt (Y := ((att k vl (lkp L) F e [] 0).bind aKon).bind fun a => some a.2.2.1) n1 n2 ?_ o1 o2 o4 h9 h11 (by rw [h10]; exact v3.1) (by rw [a1]; rfl) (by rw [a1]; rfl) h13 h12 hQ
        exact AC.bind o5 (fun a q => AC.ret q.2.symm) id
  | _ => intro m x2 x3 lo hi ma cf ca L h hR; exact hR.elim
theorem en_r {vs : Ast} (H : TxH tf ta na ca0 k vl ql c n38 M0 F) (hp : p0.toInt = (lo : Int)) (hR : RowS na (RepE k c na ma) vs (na 17 lo).toInt (lo + 1) hi) (hh : hi ≤ 100000) (S : CkS k vl c na ca0 n38 M0 L sc cf ca ma) (hL : L.length ≤ lo) (h43 : (cf 43).toInt < 0) (h : R_mp_checkEnum tf ta na p0 ma cf ca ma' cf' ca') : OkEn2 k vl c na ca0 n38 M0 L sc lo hi (semEns k vl F sc vs L 0) ma cf ma' cf' ca' := by
  obtain ⟨m, h⟩ := h
  obtain ⟨m', z143, h1, hQ⟩ := iv_mp_checkEnum_0 h
  rw [cn_of hp] at h1
  obtain ⟨X, g1, g2, g3, g4, g5, g6⟩ := en_9 H vs m' (0 : Int32) z143 (lo + 1) hi ma cf ca L hQ (by rw [h1]; exact hR) hh S (by omega) h43
  exact ⟨X, g1, g2, g3.le (by omega) (Nat.le_refl _), g4, g5, g6⟩
end SM
