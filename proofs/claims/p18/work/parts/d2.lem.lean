/-! A TEXT IS READ -/
theorem rvc_mk {ta na ma : Nat → Nat → Int32} {c hi W D : Int} {k x : Int32} (h : RzV (FG ta c) na ma k x 0 hi W D) (hD : 0 ≤ D) (hh : 0 ≤ hi) : RvC ta c na ma D.toNat 0 hi W k := by
  rcases h with ⟨h1, h2, h3⟩ | ⟨l, h', d, w, m, a1, a2, a3, a4, a5⟩
  · exact ⟨0, h1, h3⟩
  · have q : Lq na (FG ta c na ma D.toNat) m k.toInt 0 h' w x.toInt := Lq.wid (P := FG ta c na ma d) (P' := FG ta c na ma D.toNat) (fun a l l' h v hl p => fg_ok.wid (d := d) (d' := D.toNat) p (by omega) hl (Nat.le_refl _) (Nat.le_refl _)) a3 (Nat.le_refl _) (by omega) (Nat.le_refl _) (Nat.le_refl _)
    exact rv_lz (P' := FG ta c na ma D.toNat) (fun a l h v x ex p => by
      have hx := cl_nat (x := x) (by first | exact oz_016f458179 hx | omega)
      exact ⟨by omega, l, h, v, Int.le_refl _, Int.le_refl _, Int.le_refl _, by rw [show x.toNatClampNeg = a by omega]; exact p⟩) (Or.inr ⟨m, _, q⟩) rfl a2 a4 (fun a l l' h v hl p => fg_ok.wid p (Nat.le_refl _) hl (Nat.le_refl _) (Nat.le_refl _))
/-- all that a text that was read is known to be -/
def PgT (tf cf ef : Nat → Int32) (ta na ma ca ea : Nat → Nat → Int32) : Prop := ∃ (ma0 mb : Nat → Nat → Int32) (X : Cx) (d : Nat), Ann na ma0 mb ∧ Kc na mb ma ∧ TxX ta ca na ma0 mb (cf 38).toInt (cf 48).toInt d X ∧ PgK X (ea 61) (ea 62) (cf 38).toInt (ef 60).toInt ∧ PaK X.L (ea 63) (cf 38).toInt ∧ TxS ca (cf 48).toInt (cf 55).toInt ∧ FnT (tf 6).toInt na ca (cf 38).toInt ∧ FnP na ca (cf 38).toInt ∧ ((0 ≤ (cf 38).toInt ∧ (cf 38).toInt ≤ 200) ∧ (0 ≤ (cf 48).toInt ∧ (cf 48).toInt ≤ 1090) ∧ (0 ≤ (cf 55).toInt ∧ (cf 55).toInt ≤ 32768) ∧ 0 ≤ (ef 60).toInt ∧ (ef 60).toInt ≤ 6300)
def RdV (v sort : Int) (P : Prop) : Prop := (v = 0 ∧ sort = 1 ∧ P) ∨ (v ≠ 0 ∧ sort = 0)
theorem fsi_0 {c N : Int} {na : Nat → Nat → Int32} (h : N = 0) : FsI c N na := fun x hx => by omega
