/-! THE REFERENCE's checker: heights (laid by genht.py) -/
theorem aNam_h {g : Ent} : (aNam g).2.2.2 = 1 := by
  unfold aNam
  split <;> rfl
theorem num_h {a b : Atr} (h : aNum a = some b) : b.2.2.2 = a.2.2.2 := by rw [num_f h]
theorem tgt_h {a b : Atr} (h : aTgt a = some b) : b = a := by
  unfold aTgt at h
  split at h
  · injection h with h
    exact h.symm
  · exact absurd h (by simp)
theorem pre_h {w : Int} {a b : Atr} (h : aPre w a = some b) : b.2.2.2 = a.2.2.2 := by
  unfold aPre at h
  split at h
  · obtain ⟨y, y1, y2⟩ := bnd h
    injection y2 with y2
    rw [← y2, tgt_h y1]
  · obtain ⟨y, y1, y2⟩ := bnd h
    injection y2 with y2
    rw [← y2]
    show y.2.2.2 = a.2.2.2
    exact num_h y1
section RD2
variable {k : Nat → Int} {vl : Nat → Int32} {c : Nat} {ca na ma : Nat → Nat → Int32} {G : Int32 → Option Ent} {L : Nms} {F : Int32 → Option Fnc} {M : Nat → Int32}
/-- a height is bounded by the nodes -/
theorem att_bd (e : Ast) (md : Bool) (n b : Int) (lo hi : Nat) : Rep k c na ma e md n b lo hi → lo ≤ hi → (isEx e = true → ∀ a : Atr, att k vl G F e [] 0 = some a → 1 ≤ a.2.2.2 ∧ a.2.2.2 ≤ 2 * ((hi : Int) - (lo : Int))) ∧ (isRw e = true → ∀ (ws : List Int) (hd : Int) (a : Atr), 0 ≤ hd → att k vl G F e ws hd = some a → 1 ≤ a.2.2.2 ∧ a.2.2.2 ≤ hd + 2 * ((hi : Int) - (lo : Int)) + 1) := by
  fun_induction Rep k c na ma e md n b lo hi
  all_goals intro h hl
  case case1 =>
    obtain ⟨i, h1, h2, -⟩ := h
    refine ⟨fun _ a ha => ?_, fun w => absurd w Bool.false_ne_true⟩
    have q := att_num.symm.trans ha
    injection q with q
    have y : a.2.2.2 = 1 := by rw [← q]
    omega
  case case2 =>
    obtain ⟨i, h1, h2, -⟩ := h
    refine ⟨fun _ a ha => ?_, fun w => absurd w Bool.false_ne_true⟩
    obtain ⟨g, g1, g2⟩ := bnd (att_name.symm.trans ha)
    injection g2 with g2
    have y : a.2.2.2 = 1 := by rw [← g2]; exact aNam_h
    omega
  case case3 =>
    rename_i t as n b lo hi ih
    obtain ⟨i, h1, h2, h3, h4, hq, h5⟩ := h
    refine ⟨fun _ a ha => ?_, fun w => absurd w Bool.false_ne_true⟩
    obtain ⟨f, f1, f2⟩ := bnd (att_call.symm.trans ha)
    obtain ⟨b', b1, b2⟩ := bnd f2
    injection b2 with b2
    have q := (ih i h5 (by omega)).2 hq.2.2 f.2 0 b' (Int.le_refl 0) b1
    have y : a.2.2.2 = max 1 b'.2.2.2 := by rw [← b2]
    omega
  case case4 =>
    refine ⟨fun w => absurd w Bool.false_ne_true, fun _ ws hd a h0 ha => ?_⟩
    have q := att_nil.symm.trans ha
    split at q
    · injection q with q
      have y : a.2.2.2 = 1 := by rw [← q]
      omega
    · exact absurd q (by simp)
  case case5 =>
    rename_i e r n b lo hi ih2 ih1
    obtain ⟨i, mid, h1, h2, hq, h3, h4⟩ := h
    refine ⟨fun w => absurd w Bool.false_ne_true, fun _ ws hd a h0 ha => ?_⟩
    cases ws with
    | nil =>
      have q := att_cons0.symm.trans ha
      exact absurd q (by simp)
    | cons w ws =>
      obtain ⟨a1, g1, g2⟩ := bnd (att_cons.symm.trans ha)
      obtain ⟨nn, n1, n2⟩ := bnd g2
      obtain ⟨b', b1, b2⟩ := bnd n2
      injection b2 with b2
      have nn12 : nn = 1 ∨ nn = 2 := arg_y n1 (fun z => z = 1 ∨ z = 2) (fun _ => Or.inl rfl) (fun _ => Or.inr rfl)
      have q1 := (ih2 mid h3 (by omega)).1 hq.1 a1 g1
      have q2 := (ih1 i mid h4 (by omega)).2 hq.2 ws (hd + nn) b' (by omega) b1
      have y : a.2.2.2 = max (hd + (if nn = 2 then 2 else a1.2.2.2)) b'.2.2.2 := by rw [← b2]
      rw [y]
      split <;> omega
  case case6 =>
    rename_i t e n b lo hi ih
    obtain ⟨i, h1, h2, h3, h4, hq, h5⟩ := h
    refine ⟨fun _ a ha => ?_, fun w => absurd w Bool.false_ne_true⟩
    obtain ⟨f, f1, f2⟩ := bnd (att_idx.symm.trans ha)
    obtain ⟨b', b1, b2⟩ := bnd f2
    obtain ⟨b'', b3, b4⟩ := bnd b1
    injection b2 with b2
    have q := (ih i h5 (by omega)).1 hq.2.2 b'' b3
    have y : a.2.2.2 = b'.2.2.2 := by rw [← b2]
    have y2 := num_h b4
    omega
  case case7 =>
    rename_i t e n b lo hi ih
    obtain ⟨i, j, h1, h2, h3, h4, hq, h6, h5⟩ := h
    refine ⟨fun _ a ha => ?_, fun w => absurd w Bool.false_ne_true⟩
    obtain ⟨b', b1, b2⟩ := bnd (att_pre.symm.trans ha)
    have q := (ih i j h5 (by omega)).1 hq.2.2 b' b1
    have y := pre_h b2
    omega
  case case8 =>
    rename_i t e n b lo hi ih
    obtain ⟨i, h1, h2, h3, h4, hq, h5⟩ := h
    refine ⟨fun _ a ha => ?_, fun w => absurd w Bool.false_ne_true⟩
    obtain ⟨b', b1, b2⟩ := bnd (att_post.symm.trans ha)
    obtain ⟨b'', b3, b4⟩ := bnd b1
    injection b2 with b2
    have q := (ih i h5 (by omega)).1 hq.2.2 b'' b3
    have y : a.2.2.2 = b'.2.2.2 := by rw [← b2]
    rw [tgt_h b4] at y
    omega
  case case9 =>
    rename_i x y z n b lo hi ih3 ih2 ih1
    obtain ⟨i, m1, m2, h1, h2, h3, h4, hq, h5, h6, h7⟩ := h
    refine ⟨fun _ a ha => ?_, fun w => absurd w Bool.false_ne_true⟩
    obtain ⟨c1, d1, f⟩ := bnd (att_cnd.symm.trans ha)
    obtain ⟨c2, d2, f⟩ := bnd f
    obtain ⟨c3, d3, f⟩ := bnd f
    injection f with f
    obtain ⟨e1, k1, l1⟩ := bnd d1
    obtain ⟨e2, k2, l2⟩ := bnd d2
    obtain ⟨e3, k3, l3⟩ := bnd d3
    have q1 := (ih3 i m1 h5 (by omega)).1 hq.1 e1 k1
    have q2 := (ih2 i m1 m2 h6 (by omega)).1 hq.2.1 e2 k2
    have q3 := (ih1 i m2 h7 (by omega)).1 hq.2.2 e3 k3
    have y1 := num_h l1
    have y2 := num_h l2
    have y3 := num_h l3
    have yy : a.2.2.2 = max c1.2.2.2 (max c2.2.2.2 c3.2.2.2) := by rw [← f]; rfl
    omega
  case case10 =>
    rename_i t x y n b lo hi ih2 ih1
    obtain ⟨i, m1, h1, h2, h3, h4, hq, h5, h6⟩ := h
    refine ⟨fun _ a ha => ?_, fun w => absurd w Bool.false_ne_true⟩
    obtain ⟨c1, d1, f⟩ := bnd (att_asg.symm.trans ha)
    obtain ⟨c2, d2, f⟩ := bnd f
    injection f with f
    obtain ⟨e1, k1, l1⟩ := bnd d1
    obtain ⟨e2, k2, l2⟩ := bnd d2
    have q1 := (ih2 i m1 h5 (by omega)).1 hq.2.2.1 e1 k1
    have q2 := (ih1 i m1 h6 (by omega)).1 hq.2.2.2 e2 k2
    have y1 := tgt_h l1
    have y2 := num_h l2
    have yy : a.2.2.2 = if c1.1 = 4 then max c1.2.2.2 (c2.2.2.2 + 1) else c2.2.2.2 := by rw [← f]; rfl
    rw [y1] at yy
    rw [yy]
    split <;> omega
  case case11 =>
    rename_i t x y md n b lo hi ih3 ih2 ih1
    obtain ⟨i, j, mid, l2, h2, a1, a2, a3, a4, a5, a6, a7, a8, a9, a10, a11, a12, a13⟩ := h
    have hid := fun (_ : True) => a13
    clear a13
    refine ⟨fun _ a ha => ?_, fun w => absurd w Bool.false_ne_true⟩
    obtain ⟨c1, d1, f⟩ := bnd (att_bin.symm.trans ha)
    obtain ⟨c2, d2, f⟩ := bnd f
    injection f with f
    obtain ⟨e1, k1, l1⟩ := bnd d1
    obtain ⟨e2, k2, l2'⟩ := bnd d2
    have q2 := (ih3 j l2 h2 a12 (by omega)).1 a8.2.1 e2 k2
    have y1 := num_h l1
    have y2 := num_h l2'
    have yy : a.2.2.2 = max c1.2.2.2 (c2.2.2.2 + 1) := by rw [← f]; rfl
    have q1 : 1 ≤ e1.2.2.2 ∧ e1.2.2.2 ≤ 2 * ((mid : Int) - (lo : Int)) := by
      rcases hid trivial with ⟨b1, b2, p, b3, b4, b5⟩ | ⟨b1, b2, a, b3, b4, b5, b6⟩
      · exact (ih2 mid p b4 (by omega)).1 a8.1 e1 k1
      · exact (ih1 mid a b5 (by omega)).1 a8.1 e1 k1
    clear hid
    omega
  case case12 =>
    rename_i s e n b lo hi ih
    refine ⟨fun _ a ha => ?_, fun w => absurd w Bool.false_ne_true⟩
    obtain ⟨b', b1, b2⟩ := bnd (att_pre.symm.trans ha)
    have hx : isEx e = true := by
      have ch := rep_ch _ _ _ _ _ _ h.2 rfl
      cases e <;> first | rfl | exact False.elim ch
    have q := (ih h.2 hl).1 hx b' b1
    have y := pre_h b2
    omega
  case case13 => exact h.elim
abbrev Tht := (Nat → Nat → Int32) → (Nat → Nat → Int32) → (Nat → Nat → Int32) → Int32 → Int32 → Prop
def HHt (k : Nat → Int) (vl : Nat → Int32) (c : Nat) (L : Nms) (F : Int32 → Option Fnc) (M : Nat → Int32) (na ma ca : Nat → Nat → Int32) (RL : Tht) : Prop := ∀ (e : Ast) (p0 v : Int32) (lo hi : Nat) (a : Atr), isEx e = true → lo ≤ hi ∧ hi ≤ 100000 → Rep k c na ma e false p0.toInt 0 lo hi → att k vl (lkp L) F e [] 0 = some a → (∀ d : Nat, NtN na ca vl M F ma d p0.toInt) → RL na ma ca p0 v → v.toInt = a.2.2.2
variable {RL : Tht} {p0 v : Int32} {t i lo hi : Nat} {b : Atr} {e x y z as : Ast}
theorem ht_91 {f : Fnc} {x4 : Int32} (HH : HHt k vl c L F M na ma ca RL) (hp : p0.toInt = (i : Int)) (hM : ma 22 = M) (hT : (x4.toInt = 0 ∧ ∃ fn : Int32, (ma 18 i).toInt = 100 + fn.toInt ∧ (0 ≤ fn.toInt ∧ fn.toInt < 4096 ∧ FnPl na ca fn) ∧ TkFr na ca M (-1) fn f) ∨ (¬ x4.toInt = 0 ∧ TkFr na ca M (ma 18 i) (-1) f)) : ∀ (as : Ast) (n m : Nat) (x2 x3 x5 x6 : Int32) (lo hi : Nat) (hd : Int) (b : Atr), E_mp_height RL na ma ca p0 v m 91 [x2, x3, x4, x5, x6] [] [] [] [] () → isRw as = true → Rep k c na ma as false x6.toInt 0 lo hi → lo ≤ hi ∧ hi ≤ 100000 → x5.toInt = (n : Int) → n < lo → x3.toInt = hd → 0 ≤ hd ∧ hd ≤ 2 * (lo : Int) → 1 ≤ x2.toInt ∧ x2.toInt ≤ 500000 → att k vl (lkp L) F as (f.2.drop n) hd = some b → (∀ d : Nat, AllN na (NtN na ca vl M F ma d) x6.toInt) → v.toInt = max x2.toInt b.2.2.2 := by
  intro as
  induction as with
  | null =>
    intro n m x2 x3 x5 x6 lo hi hd b h _ hR hh hx5 hnl hx3 hhd hx2 hatt hN
    have hneg : x6.toInt < 0 := by unfold Rep at hR; exact hR
    have hb : b.2.2.2 = 1 := by
      have q := att_nil.symm.trans hatt
      split at q
      · injection q with q
        rw [← q]
      · exact absurd q (by simp)
    rcases iv_mp_height_91 h with ⟨m', (⟨h1, ev⟩ | ⟨h1, (⟨h2, z6, h3, z7, h4, v9, h5, (⟨h6, h7, v18, h8, z23, h9, (⟨h10, z27, h11, z28, h12, z29, h13, hQ⟩ | ⟨h10, z31, h11, z32, h12, z33, h13, hQ⟩)⟩ | ⟨h6, h7, z37, h8, (⟨h9, z41, h10, z42, h11, z43, h12, hQ⟩ | ⟨h9, z45, h10, z46, h11, z47, h12, hQ⟩)⟩)⟩ | ⟨h2, z48, h3, v50, h4, (⟨h5, h6, v59, h7, z64, h8, (⟨h9, z68, h10, z69, h11, z70, h12, hQ⟩ | ⟨h9, z72, h10, z73, h11, z74, h12, hQ⟩)⟩ | ⟨h5, h6, z78, h7, (⟨h8, z82, h9, z83, h10, z84, h11, hQ⟩ | ⟨h8, z86, h9, z87, h10, z88, h11, hQ⟩)⟩)⟩)⟩)⟩
    · rw [ev, hb]; omega
    all_goals (exfalso; omega)
  | add e r ihe ihr =>
    intro n m x2 x3 x5 x6 lo hi hd b h _ hR hh hx5 hnl hx3 hhd hx2 hatt hN
    unfold Rep at hR
    obtain ⟨i', mid, r1, r2, rq, r3, r4⟩ := hR
    by_cases hn : n < f.2.length
    · have hdw : f.2.drop n = f.2[n] :: f.2.drop (n + 1) := List.drop_eq_getElem_cons hn
      rw [hdw] at hatt
      obtain ⟨a1, g1, g2⟩ := bnd (att_cons.symm.trans hatt)
      obtain ⟨nn, n1, n2⟩ := bnd g2
      obtain ⟨b', b1, b2⟩ := bnd n2
      injection b2 with b2
      have yy : b.2.2.2 = max (hd + (if nn = 2 then 2 else a1.2.2.2)) b'.2.2.2 := by rw [← b2]
      have nw : (f.2[n] = 1 → nn = 1) ∧ (¬ f.2[n] = 1 → nn = 2) := arg_y n1 (fun z => (f.2[n] = 1 → z = 1) ∧ (¬ f.2[n] = 1 → z = 2)) (fun q => ⟨fun _ => rfl, fun q' => absurd q q'⟩) (fun q => ⟨fun q' => absurd q' q, fun _ => rfl⟩)
      have bd := (att_bd _ _ _ _ _ _ r3 (show lo ≤ mid by omega)).1 rq.1 a1 g1
      have N1 : ∀ d : Nat, NtN na ca vl M F ma d x6.toInt := fun d => by
        rcases (hN d).inv with q | ⟨i2, q1, q2, q3⟩
        · exfalso; omega
        · exact q2
      have N2 : ∀ d : Nat, AllN na (NtN na ca vl M F ma d) (na 21 i').toInt := fun d => by
        rcases (hN d).inv with q | ⟨i2, q1, q2, q3⟩
        · exfalso; omega
        · have ei : i2 = i' := by omega
          rw [← ei]; exact q3
      have W : ∀ (q : Int32), (WnRr (f.2.drop n) q.toInt) → (q.toInt = 105 ↔ f.2[n] = 1) := fun q w => by
        rw [hdw] at w
        have w' : (f.2[n] = 1 ∧ q.toInt = 105) ∨ (f.2[n] = 17 ∧ q.toInt = 115) ∨ (f.2[n] = 18 ∧ q.toInt = 99) ∨ (f.2[n] = 16 ∧ ¬ q.toInt = 32 ∧ ¬ q.toInt = 105 ∧ ¬ q.toInt = 107 ∧ ¬ q.toInt = 115 ∧ ¬ q.toInt = 99) := w
        generalize f.2[n] = w0 at w' ⊢
        omega
      have go : ∀ {z1 z2 z3 x2' : Int32} {m' : Nat}, z1.toInt = hd + nn → z2 = x5 + 1 → z3 = na 21 x6.toNatClampNeg → (1 ≤ x2'.toInt ∧ x2'.toInt ≤ 500000) → E_mp_height RL na ma ca p0 v m' 91 [x2', z1, x4, z2, z3] [] [] [] [] () → v.toInt = max x2'.toInt b'.2.2.2 := fun {z1} {z2} {z3} {x2'} {m'} e1 e2 e3 e4 hQ => by
        rw [cn_of r1] at e3
        have y5 := ti_add e2 hx5 (show (1 : Int32).toInt = 1 from rfl) (by omega) (by omega)
        have n12 : nn = 1 ∨ nn = 2 := by
          by_cases q : f.2[n] = 1
          · exact Or.inl (nw.1 q)
          · exact Or.inr (nw.2 q)
        exact ihr (n + 1) m' x2' z1 z2 z3 mid hi (hd + nn) b' hQ rq.2 (by rw [e3]; exact r4) (by omega) (by omega) (by omega) e1 (by omega) e4 b1 (fun d => by rw [e3]; exact N2 d)
      have one : ∀ {q z1 z2 z3 z4 x2' : Int32} {m' : Nat}, f.2[n] = 1 → RL na ma ca x6 q → z4 = x3 + q → ((x2' = x2 ∧ z4.toInt ≤ x2.toInt) ∨ (x2' = z4 ∧ ¬ z4.toInt ≤ x2.toInt)) → z1 = x3 + (1 : Int32) → z2 = x5 + 1 → z3 = na 21 x6.toNatClampNeg → E_mp_height RL na ma ca p0 v m' 91 [x2', z1, x4, z2, z3] [] [] [] [] () → v.toInt = max x2.toInt b.2.2.2 := fun {q} {z1} {z2} {z3} {z4} {x2'} {m'} w1 hq e4 hx e1 e2 e3 hQ => by
        have hv := HH e x6 q lo mid a1 rq.1 (by omega) r3 g1 N1 hq
        have n1' := nw.1 w1
        have y4 := ti_add e4 hx3 hv (by omega) (by omega)
        have y1 := ti_add e1 hx3 (show (1 : Int32).toInt = 1 from rfl) (by omega) (by omega)
        rw [yy, n1', if_neg (by decide)]
        rcases hx with ⟨s1, s2⟩ | ⟨s1, s2⟩
        · have r := go (by omega) e2 e3 (by rw [s1]; exact hx2) hQ
          rw [r, s1]; omega
        · have r := go (by omega) e2 e3 (by rw [s1]; omega) hQ
          rw [r, s1]; omega
      have two : ∀ {z1 z2 z3 z4 x2' : Int32} {m' : Nat}, ¬ f.2[n] = 1 → z4 = x3 + (2 : Int32) → ((x2' = x2 ∧ z4.toInt ≤ x2.toInt) ∨ (x2' = z4 ∧ ¬ z4.toInt ≤ x2.toInt)) → z1 = x3 + (2 : Int32) → z2 = x5 + 1 → z3 = na 21 x6.toNatClampNeg → E_mp_height RL na ma ca p0 v m' 91 [x2', z1, x4, z2, z3] [] [] [] [] () → v.toInt = max x2.toInt b.2.2.2 := fun {z1} {z2} {z3} {z4} {x2'} {m'} w1 e4 hx e1 e2 e3 hQ => by
        have n1' := nw.2 w1
        have y4 := ti_add e4 hx3 (show (2 : Int32).toInt = 2 from rfl) (by omega) (by omega)
        have y1 := ti_add e1 hx3 (show (2 : Int32).toInt = 2 from rfl) (by omega) (by omega)
        rw [yy, n1', if_pos rfl]
        rcases hx with ⟨s1, s2⟩ | ⟨s1, s2⟩
        · have r := go (by omega) e2 e3 (by rw [s1]; exact hx2) hQ
          rw [r, s1]; omega
        · have r := go (by omega) e2 e3 (by rw [s1]; omega) hQ
          rw [r, s1]; omega
      have TA : ∀ {z6 z7 v9 : Int32}, x4.toInt = 0 → z6 = ma 18 p0.toNatClampNeg → z7 = z6 - (100 : Int32) → R_mp_taken na ma ca z7 (-1 : Int32) x5 v9 → (v9.toInt = 105 ↔ f.2[n] = 1) := fun {z6} {z7} {v9} e4 e1 e2 y => by
        rcases hT with ⟨-, fn, t1, t2, t3⟩ | ⟨t1, -⟩
        · rw [cn_of hp] at e1
          have y6 : z6.toInt = 100 + fn.toInt := by rw [e1]; exact t1
          have y7 := ti_sub e2 y6 (show (100 : Int32).toInt = 100 from rfl) (by omega) (by omega)
          have e7 : z7 = fn := Int32.toInt_inj.mp (by omega)
          rw [e7] at y
          exact W v9 (t3.1 ma n x5 v9 hM hx5 (by omega) y)
        · exact absurd e4 t1
      have TB : ∀ {z6 v9 : Int32}, ¬ x4.toInt = 0 → z6 = ma 18 p0.toNatClampNeg → R_mp_taken na ma ca (-1 : Int32) z6 x5 v9 → (v9.toInt = 105 ↔ f.2[n] = 1) := fun {z6} {v9} e4 e1 y => by
        rcases hT with ⟨t1, -⟩ | ⟨-, t3⟩
        · exact absurd t1 e4
        · rw [cn_of hp] at e1
          rw [e1] at y
          exact W v9 (t3.1 ma n x5 v9 hM hx5 (by omega) y)
      rcases iv_mp_height_91 h with ⟨m', (⟨h1, ev⟩ | ⟨h1, (⟨h2, z6, h3, z7, h4, v9, h5, (⟨h6, h7, v18, h8, z23, h9, (⟨h10, z27, h11, z28, h12, z29, h13, hQ⟩ | ⟨h10, z31, h11, z32, h12, z33, h13, hQ⟩)⟩ | ⟨h6, h7, z37, h8, (⟨h9, z41, h10, z42, h11, z43, h12, hQ⟩ | ⟨h9, z45, h10, z46, h11, z47, h12, hQ⟩)⟩)⟩ | ⟨h2, z48, h3, v50, h4, (⟨h5, h6, v59, h7, z64, h8, (⟨h9, z68, h10, z69, h11, z70, h12, hQ⟩ | ⟨h9, z72, h10, z73, h11, z74, h12, hQ⟩)⟩ | ⟨h5, h6, z78, h7, (⟨h8, z82, h9, z83, h10, z84, h11, hQ⟩ | ⟨h8, z86, h9, z87, h10, z88, h11, hQ⟩)⟩)⟩)⟩)⟩
      · exfalso; omega
      · exact one ((TA h2 h3 h4 h5).mp h6) h8 h9 (Or.inl ⟨rfl, h10⟩) h11 h12 h13 hQ
      · exact one ((TA h2 h3 h4 h5).mp h6) h8 h9 (Or.inr ⟨rfl, h10⟩) h11 h12 h13 hQ
      · exact two (fun q => h6 ((TA h2 h3 h4 h5).mpr q)) h8 (Or.inl ⟨rfl, h9⟩) h10 h11 h12 hQ
      · exact two (fun q => h6 ((TA h2 h3 h4 h5).mpr q)) h8 (Or.inr ⟨rfl, h9⟩) h10 h11 h12 hQ
      · exact one ((TB h2 h3 h4).mp h5) h7 h8 (Or.inl ⟨rfl, h9⟩) h10 h11 h12 hQ
      · exact one ((TB h2 h3 h4).mp h5) h7 h8 (Or.inr ⟨rfl, h9⟩) h10 h11 h12 hQ
      · exact two (fun q => h5 ((TB h2 h3 h4).mpr q)) h7 (Or.inl ⟨rfl, h8⟩) h9 h10 h11 hQ
      · exact two (fun q => h5 ((TB h2 h3 h4).mpr q)) h7 (Or.inr ⟨rfl, h8⟩) h9 h10 h11 hQ
    · rw [List.drop_eq_nil_iff.mpr (show f.2.length ≤ n by omega)] at hatt
      have q := att_cons0.symm.trans hatt
      exact absurd q (by simp)
  | _ => intro n m x2 x3 x5 x6 lo hi hd b _ hx; exact absurd hx (by simp [isRw])
end RD2
