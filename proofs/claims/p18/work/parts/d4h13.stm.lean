/-- what statements keep of the compiler's numbers: all but words, height and the two rows of jumps -/
def CFK (a b : Nat → Int32) : Prop := ∀ i : Nat, i ≠ 12 → i ≠ 13 → i ≠ 16 → i ≠ 17 → b i = a i
theorem CFK.rf {a : Nat → Int32} : CFK a a := fun _ _ _ _ _ => rfl
theorem CFK.tr {a b c : Nat → Int32} (h : CFK a b) (k : CFK b c) : CFK a c := fun i h1 h2 h3 h4 => (k i h1 h2 h3 h4).trans (h i h1 h2 h3 h4)
def okC (k : Nat) : Bool := k == 12 || k == 13 || k == 16 || k == 17
theorem CFK.up {a b : Nat → Int32} (h : CFK a b) {k : Nat} {v : Int32} (hk : okC k = true) : CFK a (upd b k v) := by
  intro i h1 h2 h3 h4
  have e : k = 12 ∨ k = 13 ∨ k = 16 ∨ k = 17 := by simpa [okC, or_assoc] using hk
  rw [pk_un (by omega)]
  exact h i h1 h2 h3 h4
/-- the numbers of the cases of all switches around stay -/
def CAK (n : Int32) (a b : Nat → Nat → Int32) : Prop := ∀ i : Nat, (i : Int) < n.toInt → b 5 i = a 5 i
theorem CAK.rf {n : Int32} {a : Nat → Nat → Int32} : CAK n a a := fun _ _ => rfl
theorem CAK.tr {n m : Int32} {a b c : Nat → Nat → Int32} (h : CAK n a b) (k : CAK m b c) (e : n.toInt ≤ m.toInt) : CAK n a c := fun i hi => (k i (by omega)).trans (h i hi)
/-- a step's meaning f: from the names L to L' -/
def SP (f : Sg → Option Sg) (a b : Nat → Int32) (L L' : Nms) (cf cf' : Nat → Int32) (t t1 : Nat) : Prop := ∀ (w h : Int) (q : List Int32 × Bool), (cf 12).toInt = w → (cf 13).toInt = h → 0 ≤ w → w ≤ 4096 * (t : Int) → 0 ≤ h → h ≤ 5000 → AT a b (f (L, w, h, q)) (fun s => s.1 = L' ∧ (cf' 12).toInt = s.2.1 ∧ (cf' 13).toInt = s.2.2.1 ∧ s.2.2.2 = q ∧ 0 ≤ s.2.1 ∧ s.2.1 ≤ 4096 * (t1 : Int) ∧ 0 ≤ s.2.2.1 ∧ s.2.2.1 ≤ 5000)
theorem SP.seq {f g : Sg → Option Sg} {a b d : Nat → Int32} {L L1 L2 : Nms} {cf cf1 cf2 : Nat → Int32} {t t1 t2 : Nat} (h : SP f a b L L1 cf cf1 t t1) (k : SP g b d L1 L2 cf1 cf2 t1 t2) (m : BK b d) : SP (fun s => (f s).bind g) a d L L2 cf cf2 t t2 := by
  intro w h' q e1 e2 e3 e4 e5 e6
  refine AT.bind (h w h' q e1 e2 e3 e4 e5 e6) (fun s hs => ?_) m
  obtain ⟨s1, s2, s3, s4, s5, s6, s7, s8⟩ := hs
  obtain ⟨x1, x2, x3, x4⟩ := s
  subst s1
  have s4' : x4 = q := s4
  subst s4'
  exact k x2 x3 x4 s2 s3 s5 s6 s7 s8
theorem SP.sm {f : Sg → Option Sg} {a b d : Nat → Int32} {L L' : Nms} {cf cf' : Nat → Int32} {t t1 : Nat} (h : SmC a b) (k : SP f b d L L' cf cf' t t1) : SP f a d L L' cf cf' t t1 := fun w h' q e1 e2 e3 e4 e5 e6 => AT.sm h (k w h' q e1 e2 e3 e4 e5 e6)
theorem SP.ms {f : Sg → Option Sg} {a b d : Nat → Int32} {L L' : Nms} {cf cf' : Nat → Int32} {t t1 : Nat} (k : SP f a b L L' cf cf' t t1) (h : SmC b d) : SP f a d L L' cf cf' t t1 := fun w h' q e1 e2 e3 e4 e5 e6 => AT.ms (k w h' q e1 e2 e3 e4 e5 e6) h
theorem SP.ts {f : Sg → Option Sg} {a b : Nat → Int32} {L L' : Nms} {cf cf' : Nat → Int32} {t t1 t' t1' : Nat} (k : SP f a b L L' cf cf' t t1) (h : t' ≤ t) (h1 : t1 ≤ t1') : SP f a b L L' cf cf' t' t1' := fun w h' q e1 e2 e3 e4 e5 e6 => (k w h' q e1 e2 e3 (by omega) e5 e6).imp (fun s hs => ⟨hs.1, hs.2.1, hs.2.2.1, hs.2.2.2.1, hs.2.2.2.2.1, by have := hs.2.2.2.2.2.1; omega, hs.2.2.2.2.2.2⟩)
theorem SP.cl {f : Sg → Option Sg} {a b : Nat → Int32} {L L' : Nms} {cf cfx cf' : Nat → Int32} {t t1 : Nat} (k : SP f a b L L' cf cf' t t1) (h : cf 12 = cfx 12) (h1 : cf 13 = cfx 13) : SP f a b L L' cfx cf' t t1 := fun w h' q e1 e2 e3 e4 e5 e6 => k w h' q (by rw [h]; exact e1) (by rw [h1]; exact e2) e3 e4 e5 e6
theorem SP.cr {f : Sg → Option Sg} {a b : Nat → Int32} {L L' : Nms} {cf cfx cf' : Nat → Int32} {t t1 : Nat} (k : SP f a b L L' cf cf' t t1) (h : cf' 12 = cfx 12) (h1 : cf' 13 = cfx 13) : SP f a b L L' cf cfx t t1 := fun w h' q e1 e2 e3 e4 e5 e6 => (k w h' q e1 e2 e3 e4 e5 e6).imp (fun s hs => by rw [h, h1] at hs; exact hs)
theorem SP.rt {a : Nat → Int32} {L : Nms} {cf : Nat → Int32} {t t1 : Nat} (h : t ≤ t1) : SP some a a L L cf cf t t1 := fun w h' q e1 e2 e3 e4 e5 e6 => AT.ret ⟨rfl, e1, e2, rfl, e3, by show w ≤ _; omega, e5, e6⟩
theorem SP.co {f g : Sg → Option Sg} {a b : Nat → Int32} {L L' : Nms} {cf cf' : Nat → Int32} {t t1 : Nat} (k : SP f a b L L' cf cf' t t1) (e : ∀ (w h : Int) (q : List Int32 × Bool), g (L, w, h, q) = f (L, w, h, q)) : SP g a b L L' cf cf' t t1 := fun w h' q e1 e2 e3 e4 e5 e6 => by
  rw [e]
  exact k w h' q e1 e2 e3 e4 e5 e6
/-- wrong -/
theorem SP.bad {f : Sg → Option Sg} {a b : Nat → Int32} {L L' : Nms} {cf cf' : Nat → Int32} {t t1 : Nat} (e : ∀ (w h : Int) (q : List Int32 × Bool), f (L, w, h, q) = none) (k : Un a → Bd b) : SP f a b L L' cf cf' t t1 := fun w h' q e1 e2 e3 e4 e5 e6 => by
  rw [e]
  exact k
theorem SP.e {ta : Nat → Nat → Int32} {c : Nat} {Flq' : List (Int32 × Fnc)} {o : Int} {f : Atr → Option Atr} {tf tf' cf cf' : Nat → Int32} {L : Nms} {e : Ast} {t t1 : Nat} (h : OkH ta c (lkp L) (fun v => flk v Flq') t o (some (e, t1)) f tf tf' cf cf') (hb : t1 ≤ 2049) : SP (semE (kd ta) (vd ta) (fun v => flk v Flq') f e) tf tf' L L cf cf' t t1 := by
  obtain ⟨h0, h1, h2, h3⟩ := h
  intro w h' q e1 e2 e3 e4 e5 e6
  refine AT.bind h3 (fun a ha => AT.ret ⟨rfl, by rw [h0 12 (by decide)]; exact e1, by rw [ha.1, e2], rfl, e3, by show w ≤ _; omega, ?_, ?_⟩) BK.rf
  · show 0 ≤ max h' a.2.2.2
    omega
  · show max h' a.2.2.2 ≤ 5000
    have := ha.2.2
    omega
theorem OkH.cf {ta : Nat → Nat → Int32} {c : Nat} {G : Int32 → Option Ent} {F : Int32 → Option Fnc} {t : Nat} {o : Int} {r : Option (Ast × Nat)} {f : Atr → Option Atr} {tf tf' cf cf' : Nat → Int32} (h : OkH ta c G F t o r f tf tf' cf cf') : CFK cf cf' := fun i _ h2 _ _ => h.1 i h2
def lpB (cf : Nat → Int32) : Bool := decide (¬ (cf 14).toInt = 0)
def bkB (cf : Nat → Int32) : Bool := decide (¬ (cf 15).toInt = 0)
/-- what a statement has done -/
def OkS (ta : Nat → Nat → Int32) (c : Nat) (o : Int) (t : Nat) (L : Nms) (f : Ast → Sg → Option Sg) (r : Option (Ast × Nat)) (cf : Nat → Int32) (ca : Nat → Nat → Int32) (tf nf : Nat → Int32) (cf' : Nat → Int32) (ca' : Nat → Nat → Int32) (tf' nf' : Nat → Int32) (own' : Bool) (lf' : Nat → Int32) (lg' : Nat → Option Nat) (P' : va_W) : Prop := match r with
  | none => Flq tf'
  | some (s, t1) => Cur tf' c t1 o ∧ t ≤ t1 ∧ CFK cf cf' ∧ CAK (cf 7) ca ca' ∧ nf' 4 = nf 4 ∧ ∃ X : Nms, EnvL own' P' lf' lg' (L ++ X) ∧ X.length ≤ t1 - t ∧ SP (f s) tf tf' L (L ++ X) cf cf' t t1
section S7
variable {ta : Nat → Nat → Int32} {cn sn : Nat} {na : Nat → Nat → Int32} {own : Bool} {P : va_W} {lf nf : Nat → Int32} {lg : Nat → Option Nat} {ff : Nat → Int32} {fg : Nat → Option Nat} {ca : Nat → Nat → Int32}
variable {tf fp cd tf' fp' cd' cf cf' : Nat → Int32} {fo : Option Nat} {c t sc : Nat} {o rt : Int} {L : Nms} {Flq' : List (Int32 × Fnc)} {p0 : Int32}
theorem leap_ok (hl : Lst0 ta c) (hL : EnvL own P lf lg L) (h : R_tc_leap ta cn p0 cf tf fp cd cf' tf' fp' cd') (hc : Cur tf c t o) (hp : p0.toInt = kd ta t) (hk : kd ta t = 13 ∨ kd ta t = 14) :
    OkS ta c o t L (fun s => sem (kd ta) (vd ta) (qlS ta) (fun v => flk v Flq') rt s sc (lpB cf) (bkB cf)) (if kd ta (t + 1) = 59 then some (sNd ((kd ta t).toNat - 1) .null .null, t + 2) else none) cf ca tf nf cf' ca tf' nf own lf lg P := by
  obtain ⟨k, h⟩ := h
  have hlt : t + 1 < c := by
    rcases hk with q | q
    · exact lst_lt (p0 := 13) hc hl (by decide) (by decide) q
    · exact lst_lt (p0 := 14) hc hl (by decide) (by decide) q
  have h10 := hc.1
  have h13 := hc.2.1
  have tl := hc.2.2.2.2.1
  have fin : ∀ {k : Nat} {cfa tfa fpa cda : Nat → Int32}, E_tc_leap ta cn p0 cf' tf' fp' cd' k 94 [] [] [] [] [] cfa tfa fpa cda → SmB tf tfa → CFK cf cfa → cfa 12 = cf 12 → cfa 13 = cf 13 → SP (sem (kd ta) (vd ta) (qlS ta) (fun v => flk v Flq') rt (sNd ((kd ta t).toNat - 1) .null .null) sc (lpB cf) (bkB cf)) tf tfa L L cf cf t (t + 2) → OkS ta c o t L (fun s => sem (kd ta) (vd ta) (qlS ta) (fun v => flk v Flq') rt s sc (lpB cf) (bkB cf)) (if kd ta (t + 1) = 59 then some (sNd ((kd ta t).toNat - 1) .null .null, t + 2) else none) cf ca tf nf cf' ca tf' nf own lf lg P := by
    intro k cfa tfa fpa cda hE hb hcf e12 e13 hsp
    obtain ⟨k, tf1, g1, tf12, g2, e0, e1, e2, e3⟩ := iv_tc_leap_94 hE
    rw [e0, e1]
    have hs := step_cur g1 (hb.cur hc) hlt
    have ex := expect_cur (p0 := 59) g2 hs.1 hl (by decide) (by decide)
    rcases ex.1 with ⟨q1, q2⟩ | ⟨q1, q2⟩
    · have hk1 : kd ta (t + 1) = 59 := by unfold kd; rw [q1]; rfl
      rw [if_pos hk1]
      exact ⟨q2, by omega, hcf, CAK.rf, rfl, [], by rw [List.append_nil]; exact hL, by simp, by rw [List.append_nil]; exact (hsp.cr e12.symm e13.symm).ms (hs.2.tr ex.2)⟩
    · have hk1 : ¬ kd ta (t + 1) = 59 := fun q => q1 (i_eq.mpr q)
      rw [if_neg hk1]
      exact q2
  have yes : ∀ (g : Nat) (b : Bool), (g = 12 ∧ b = bkB cf) ∨ (g = 13 ∧ b = lpB cf) → ∀ s : Sg, sem (kd ta) (vd ta) (qlS ta) (fun v => flk v Flq') rt (sNd g .null .null) sc (lpB cf) (bkB cf) s = if b = true then some s else none := by
    intro g b hg s
    rcases hg with ⟨rfl, rfl⟩ | ⟨rfl, rfl⟩ <;> rfl
  rcases iv_tc_leap_0 h with ⟨k, (⟨h1, (⟨h2, fp29, cd30, v32, h3, hE⟩ | ⟨h2, tf36, h3, hE⟩)⟩ | ⟨h1, (⟨h2, fp51, cd52, v54, h3, hE⟩ | ⟨h2, tf58, h3, hE⟩)⟩)⟩
  · have k14 : kd ta t = 14 := by omega
    refine fin hE SmB.rf (CFK.up CFK.rf (by decide)) (by rw [pk_un (by decide)]) (by rw [pk_un (by decide)]) ?_
    rw [k14]
    exact (SP.rt (by omega)).co (fun w h q => (yes 13 _ (Or.inr ⟨rfl, rfl⟩) (L, w, h, q)).trans (if_pos (by unfold lpB; exact decide_eq_true h2)))
  · have k14 : kd ta t = 14 := by omega
    refine fin hE (blame_b h3) CFK.rf rfl rfl ?_
    rw [k14]
    exact SP.bad (fun w h q => (yes 13 _ (Or.inr ⟨rfl, rfl⟩) (L, w, h, q)).trans (if_neg (by unfold lpB; simp [h2]))) (fun u => blame_un h3 (by decide) (by omega) u)
  · have k13 : kd ta t = 13 := by omega
    refine fin hE SmB.rf (CFK.up CFK.rf (by decide)) (by rw [pk_un (by decide)]) (by rw [pk_un (by decide)]) ?_
    rw [k13]
    exact (SP.rt (by omega)).co (fun w h q => (yes 12 _ (Or.inl ⟨rfl, rfl⟩) (L, w, h, q)).trans (if_pos (by unfold bkB; exact decide_eq_true h2)))
  · have k13 : kd ta t = 13 := by omega
    refine fin hE (blame_b h3) CFK.rf rfl rfl ?_
    rw [k13]
    exact SP.bad (fun w h q => (yes 12 _ (Or.inl ⟨rfl, rfl⟩) (L, w, h, q)).trans (if_neg (by unfold bkB; simp [h2]))) (fun u => blame_un h3 (by decide) (by omega) u)
end S7
