/-! NAMES of functions are each their own; constants of an enum -/
def ZFu (cf : Nat → Int32) (ta na ca : Nat → Nat → Int32) (f : Int32) : Prop := Zr cf (∀ j : Nat, (j : Int) < f.toInt → ¬ SameN ta (na 15 (ca 39 j).toNatClampNeg) (na 15 (ca 39 f.toNatClampNeg).toNatClampNeg))
theorem zfu_mk {cf : Nat → Int32} {ta na ca : Nat → Nat → Int32} {f nd t : Int32} {n v : Int} (h : FfV ta na ca n t v) (hv : v = f.toInt) (h0 : 0 ≤ f.toInt) (en : nd = ca 39 f.toNatClampNeg) (et : t = na 15 nd.toNatClampNeg) : ZFu cf ta na ca f := fun _ j hj => by
  rw [← en, ← et]
  rcases h with ⟨a, -⟩ | ⟨-, -, -, b⟩
  · omega
  · exact b j (by omega)
def CoV (ta : Nat → Nat → Int32) (c : Int) (na ma : Nat → Nat → Int32) (d : Nat) (lo hi w : Int) (n : Int32) : Prop := (lo ≤ n.toInt ∧ n.toInt < hi ∧ 0 ≤ n.toInt) ∧ (na 14 n.toNatClampNeg).toInt = 44 ∧ (0 ≤ (na 15 n.toNatClampNeg).toInt ∧ (na 15 n.toNatClampNeg).toInt < c) ∧ 6 ≤ w ∧ OcV (ErV ta c na ma d) (n.toInt + 1) hi (w - 6) (na 17 n.toNatClampNeg)
def RvO (ta : Nat → Nat → Int32) (c : Int) (na ma0 : Nat → Nat → Int32) (d : Nat) (lo hi w : Int) (k : Int32) : Prop := RvE na (fun l h v x => CoV ta c na ma0 d l h v x) lo hi w k
theorem CoV.tok {ta : Nat → Nat → Int32} {c : Int} {na ma : Nat → Nat → Int32} {d : Nat} {lo hi w : Int} {n z : Int32} (h : CoV ta c na ma d lo hi w n) (e : z = na 15 n.toNatClampNeg) : 0 ≤ z.toInt ∧ z.toInt < c := by rw [e]; exact h.2.2.1
theorem en_of {ta : Nat → Nat → Int32} {c : Int} {na ma : Nat → Nat → Int32} {d l h v : Nat} {hi w : Int} {n : Int32} (h0 : 0 ≤ n.toInt) (q : FG ta c na ma d n.toNatClampNeg l h v) (k : (na 14 n.toNatClampNeg).toInt = 43) (h2 : (h : Int) ≤ hi) (h3 : (v : Int) ≤ w) : RvO ta c na ma d (n.toInt + 1) hi w (na 17 n.toNatClampNeg) := by
  have hc := cl_nat h0
  obtain ⟨r, q⟩ := q
  rcases q with ⟨g, -⟩ | ⟨g, -⟩ | ⟨g, wr, g1, g2⟩
  · omega
  · omega
  · refine rv_lz (P' := FK ta c na ma d) (fun a l h v x ex p => ?_) g1 (by omega) h2 (by omega) (fun a l l' h v hl p => fk_ok.wid p (Nat.le_refl _) hl (Nat.le_refl _) (Nat.le_refl _))
    have hx := cl_nat (x := x) (by first | exact oz_016f458179 hx | omega)
    have ea : x.toNatClampNeg = a := by omega
    obtain ⟨p0, p1, p2, wa, p3, p4⟩ := p
    refine ⟨by omega, by rw [ea]; exact p1, by rw [ea]; exact ⟨p2.1, p2.2.1⟩, by omega, ?_⟩
    rw [ea]
    rcases p3 with p3 | ⟨b, u, q1, q2, q3⟩
    · exact Or.inl ⟨p3, by omega⟩
    · exact Or.inr (er_of q1 q2 (by omega) (Int.le_refl _) (by omega))
/-- symbols that are not the text's -/
def Sy0 (ca : Nat → Nat → Int32) (a b : Int) : Prop := ∀ y : Nat, a ≤ (y : Int) → (y : Int) < b → (ca 50 y).toInt ≠ 1
theorem sy0_mk {ca c1 c2 c3 : Nat → Nat → Int32} {kn ns0 ys ns cells tx a b : Int} {f v1 v2 : Int32} (hg : CaG ca c1 kn ns0) (e1 : c2 = va_up c1 40 (upd (c1 40) f.toNatClampNeg v1)) (e2 : c3 = va_up c2 56 (upd (c2 56) f.toNatClampNeg v2)) (hs : SyR c1 ys ns cells tx) (ht : tx = 0) (ea : ys = a) (eb : ns = b) : Sy0 c3 a b := fun y p q => by
  subst ea; subst eb; subst ht
  rw [(caf_w hg e1 e2).2.2.2 50 y (by decide) (by decide), (hs y p q).1.1]; decide
