/-! THE KERNEL: eight programs, thirteen processes of two classes, each of them there or not -/
abbrev Pvs : Type := (Nat → Nat) × (Option Nat) × (Nat → Int32) × (Nat) × (Nat → Int32) × (Nat) × (Nat → Int32)
abbrev Pvs.r (v : Pvs) : Nat → Nat := v.1
abbrev Pvs.o (v : Pvs) : Option Nat := v.2.1
abbrev Pvs.f (v : Pvs) : Nat → Int32 := v.2.2.1
abbrev Pvs.fn (v : Pvs) : Nat := v.2.2.2.1
abbrev Pvs.fd (v : Pvs) : Nat → Int32 := v.2.2.2.2.1
abbrev Pvs.cn (v : Pvs) : Nat := v.2.2.2.2.2.1
abbrev Pvs.cd (v : Pvs) : Nat → Int32 := v.2.2.2.2.2.2
def gKe (pq ps tq rq : Nat → Option Nat) : Nat → Nat → Option Nat := fun k => cond (Nat.beq k 0) pq (cond (Nat.beq k 2) ps (cond (Nat.beq k 3) tq rq))
def bTx (cs : Nat → ClassId) (h : Nat) (r : Nat → Nat) (o : Option Nat) (f : Nat → Int32) (a : Nat → Nat → Int32) : va_W := wd_Txp cs h r (fun k => if k = 3 then o else none) f a (fun _ _ => none)
def bRw (cs : Nat → ClassId) (h : Nat) (r : Nat → Nat) (o2 o4 : Option Nat) (f : Nat → Int32) (a : Nat → Nat → Int32) : va_W := wd_Raw cs h r (fun k => if k = 2 then o2 else if k = 4 then o4 else none) f a (fun _ _ => none)
def fTx (cs : Nat → ClassId) (tq : Nat → Option Nat) (TR : Nat → Nat → Nat) (TO : Nat → Option Nat) (TF : Nat → Nat → Int32) (TA : Nat → Nat → Nat → Int32) (i : Nat) : va_W := match tq i with
  | none => []
  | some h => bTx cs h (TR i) (TO i) (TF i) (TA i)
def fRw (cs : Nat → ClassId) (rq : Nat → Option Nat) (RR : Nat → Nat → Nat) (RM RW : Nat → Option Nat) (RF : Nat → Nat → Int32) (RA : Nat → Nat → Nat → Int32) (RC : Nat → Nat → Int32) (i : Nat) : va_W := match rq i with
  | none => []
  | some h => bRw cs h (RR i) (RM i) (RW i) (RF i) (RA i) ++ nA cs (RM i) 36864 (RC i)
def fPp (cs : Nat → ClassId) (pq : Nat → Option Nat) (PV : Nat → Pvs) (j : Nat) : va_W := match pq j with
  | none => []
  | some h => wd_Prg cs h (PV j).r (fun k => if k = 2 then (PV j).o else none) (PV j).f (fun _ _ => 0) (fun _ _ => none) ++ (nA cs (PV j).o (PV j).fn (PV j).fd ++ [((PV j).r 1, .inl (cs 0, (PV j).cn, .inl (PV j).cd))])
theorem va_up_id {α : Type} {f : Nat → α} {p : Nat} : va_up f p (f p) = f := by
  funext i
  by_cases e : i = p
  · subst e; exact va_up_s
  · exact va_up_n e
section KW
variable {D : va_G} {A : Nat → Prop} {H0 H : Heap} {locs : List Loc} {pr : List va_W} {cs : Nat → ClassId} {p h : Nat} {o o2 o4 : Option Nat} {r : Nat → Nat} {f : Nat → Int32} {a : Nat → Nat → Int32} {mc : Nat → Int32}
variable {tq TO rq RM RW pq : Nat → Option Nat} {TR RR : Nat → Nat → Nat} {TF RF RC : Nat → Nat → Int32} {TA RA : Nat → Nat → Nat → Int32} {PV : Nat → Pvs}
theorem fm_new {n : Nat} {T T' : Nat → va_W} {w : va_W} (hw : pw D A H0 H locs (pr ++ [fm n T, w])) (hp : p < n) (h0 : T p = []) (h1 : ∀ i, i ≠ p → T' i = T i) (h2 : T' p = w) : pw D A H0 H locs (pr ++ [fm n T']) := by
  have e : (fm n T).Perm (fo n T p) := by have q := fm_perm n T p hp; rw [h0, List.append_nil] at q; exact q
  have hw2 : pw D A H0 H locs (pr ++ [fo n T p, w]) := pw_perm hw (by rw [pp_two, pp_two]; refine List.Perm.append_left _ ?_; simpa using e.append_right w)
  exact fm_put hw2 hp h1 h2
theorem ftx_out (hw : pw D A H0 H locs (pr ++ [fm 13 (fTx cs tq TR TO TF TA)])) (hp : p < 13) (hq : tq p = some h) (ho : TO p = o) : pw D A H0 H locs (pr ++ [fo 13 (fTx cs tq TR TO TF TA) p, wd_Txp cs h (TR p) (fun k => if k = 3 then o else none) (TF p) (TA p) (fun _ _ => none)]) := by
  have h1 := fm_out hw hp
  have e : fTx cs tq TR TO TF TA p = bTx cs h (TR p) o (TF p) (TA p) := by unfold fTx; rw [hq, ho]
  rw [e] at h1
  exact h1
theorem ftx_back (hw : pw D A H0 H locs (pr ++ [fo 13 (fTx cs tq TR TO TF TA) p, wd_Txp cs h (TR p) (fun k => if k = 3 then o else none) (TF p) (TA p) (fun _ _ => none)])) (hp : p < 13) (hq : tq p = some h) (ho : TO p = o) : pw D A H0 H locs (pr ++ [fm 13 (fTx cs tq TR TO TF TA)]) := by
  refine fm_back (p := p) ?_ hp
  have e : fTx cs tq TR TO TF TA p = bTx cs h (TR p) o (TF p) (TA p) := by unfold fTx; rw [hq, ho]
  rw [e]
  exact hw
theorem ftx_in (hw : pw D A H0 H locs (pr ++ [fo 13 (fTx cs tq TR TO TF TA) p, wd_Txp cs h (TR p) (fun k => if k = 3 then o else none) f a (fun _ _ => none)])) (hp : p < 13) (hq : tq p = some h) : pw D A H0 H locs (pr ++ [fm 13 (fTx cs tq TR (va_up TO p o) (va_up TF p f) (va_up TA p a))]) :=
  fm_put hw hp (fun i hi => by unfold fTx; rw [va_up_n hi, va_up_n hi, va_up_n hi]) (by unfold fTx; rw [hq, va_up_s, va_up_s, va_up_s]; rfl)
theorem ftx_in0 (hw : pw D A H0 H locs (pr ++ [fo 13 (fTx cs tq TR TO TF TA) p, wd_Txp cs h (TR p) (fun k => if k = 3 then o else none) f a (fun _ _ => none)])) (hp : p < 13) (hq : tq p = some h) (ho : TO p = o) : pw D A H0 H locs (pr ++ [fm 13 (fTx cs tq TR TO (va_up TF p f) (va_up TA p a))]) := by
  have k := ftx_in hw hp hq
  rw [← ho, va_up_id] at k
  exact k
theorem ftx_new (hw : pw D A H0 H locs (pr ++ [fm 13 (fTx cs tq TR TO TF TA), wd_Txp cs h r (fun k => if k = 3 then o else none) f a (fun _ _ => none)])) (hp : p < 13) (hq : tq p = none) : pw D A H0 H locs (pr ++ [fm 13 (fTx cs (va_up tq p (some h)) (va_up TR p r) (va_up TO p o) (va_up TF p f) (va_up TA p a))]) :=
  fm_new hw hp (by unfold fTx; rw [hq]) (fun i hi => by unfold fTx; rw [va_up_n hi, va_up_n hi, va_up_n hi, va_up_n hi, va_up_n hi]) (by unfold fTx; rw [va_up_s, va_up_s, va_up_s, va_up_s, va_up_s]; rfl)
theorem frw_out (hw : pw D A H0 H locs (pr ++ [fm 13 (fRw cs rq RR RM RW RF RA RC)])) (hp : p < 13) (hq : rq p = some h) (ho : RW p = o4) : pw D A H0 H locs (pr ++ [fo 13 (fRw cs rq RR RM RW RF RA RC) p, wd_Raw cs h (RR p) (fun k => if k = 2 then RM p else if k = 4 then o4 else none) (RF p) (RA p) (fun _ _ => none), nA cs (RM p) 36864 (RC p)]) := by
  have h1 := fm_out hw hp
  have e : fRw cs rq RR RM RW RF RA RC p = bRw cs h (RR p) (RM p) o4 (RF p) (RA p) ++ nA cs (RM p) 36864 (RC p) := by unfold fRw; rw [hq, ho]
  rw [e] at h1
  exact pw_cat h1 (by simp [bRw])
theorem frw_back (hw : pw D A H0 H locs (pr ++ [fo 13 (fRw cs rq RR RM RW RF RA RC) p, wd_Raw cs h (RR p) (fun k => if k = 2 then RM p else if k = 4 then o4 else none) (RF p) (RA p) (fun _ _ => none), nA cs (RM p) 36864 (RC p)])) (hp : p < 13) (hq : rq p = some h) (ho : RW p = o4) : pw D A H0 H locs (pr ++ [fm 13 (fRw cs rq RR RM RW RF RA RC)]) := by
  refine fm_back (p := p) ?_ hp
  have e : fRw cs rq RR RM RW RF RA RC p = bRw cs h (RR p) (RM p) o4 (RF p) (RA p) ++ nA cs (RM p) 36864 (RC p) := by unfold fRw; rw [hq, ho]
  rw [e]
  exact pw_cat hw (by simp [bRw])
theorem frw_in (hw : pw D A H0 H locs (pr ++ [fo 13 (fRw cs rq RR RM RW RF RA RC) p, wd_Raw cs h (RR p) (fun k => if k = 2 then o2 else if k = 4 then o4 else none) f a (fun _ _ => none), nA cs o2 36864 mc])) (hp : p < 13) (hq : rq p = some h) : pw D A H0 H locs (pr ++ [fm 13 (fRw cs rq RR (va_up RM p o2) (va_up RW p o4) (va_up RF p f) (va_up RA p a) (va_up RC p mc))]) := by
  have h1 : pw D A H0 H locs (pr ++ [fo 13 (fRw cs rq RR RM RW RF RA RC) p, bRw cs h (RR p) o2 o4 f a ++ nA cs o2 36864 mc]) := pw_cat hw (by simp [bRw])
  exact fm_put h1 hp (fun i hi => by unfold fRw; rw [va_up_n hi, va_up_n hi, va_up_n hi, va_up_n hi, va_up_n hi]) (by unfold fRw; rw [hq, va_up_s, va_up_s, va_up_s, va_up_s, va_up_s])
theorem frw_in0 (hw : pw D A H0 H locs (pr ++ [fo 13 (fRw cs rq RR RM RW RF RA RC) p, wd_Raw cs h (RR p) (fun k => if k = 2 then o2 else if k = 4 then o4 else none) f a (fun _ _ => none), nA cs o2 36864 mc])) (hp : p < 13) (hq : rq p = some h) (ho : RW p = o4) : pw D A H0 H locs (pr ++ [fm 13 (fRw cs rq RR (va_up RM p o2) RW (va_up RF p f) (va_up RA p a) (va_up RC p mc))]) := by
  have k := frw_in hw hp hq
  rw [← ho, va_up_id] at k
  exact k
theorem frw_new (hw : pw D A H0 H locs (pr ++ [fm 13 (fRw cs rq RR RM RW RF RA RC), wd_Raw cs h r (fun k => if k = 2 then none else if k = 4 then o4 else none) f a (fun _ _ => none)])) (hp : p < 13) (hq : rq p = none) : pw D A H0 H locs (pr ++ [fm 13 (fRw cs (va_up rq p (some h)) (va_up RR p r) (va_up RM p none) (va_up RW p o4) (va_up RF p f) (va_up RA p a) (va_up RC p (fun _ => 0)))]) := by
  refine fm_new hw hp (by unfold fRw; rw [hq]) (fun i hi => by unfold fRw; rw [va_up_n hi, va_up_n hi, va_up_n hi, va_up_n hi, va_up_n hi, va_up_n hi, va_up_n hi]) ?_
  unfold fRw
  rw [va_up_s, va_up_s, va_up_s, va_up_s, va_up_s, va_up_s, va_up_s]
  show bRw cs h r none o4 f a ++ [] = _
  rw [List.append_nil]; rfl
theorem fpp_out (hw : pw D A H0 H locs (pr ++ [fm 8 (fPp cs pq PV)])) (hp : p < 8) (hq : pq p = some h) : pw D A H0 H locs (pr ++ [fo 8 (fPp cs pq PV) p, wd_Prg cs h (PV p).r (fun k => if k = 2 then (PV p).o else none) (PV p).f (fun _ _ => 0) (fun _ _ => none), nA cs (PV p).o (PV p).fn (PV p).fd, [((PV p).r 1, .inl (cs 0, (PV p).cn, .inl (PV p).cd))]]) := by
  have h1 := fm_out hw hp
  have e : fPp cs pq PV p = wd_Prg cs h (PV p).r (fun k => if k = 2 then (PV p).o else none) (PV p).f (fun _ _ => 0) (fun _ _ => none) ++ (nA cs (PV p).o (PV p).fn (PV p).fd ++ [((PV p).r 1, .inl (cs 0, (PV p).cn, .inl (PV p).cd))]) := by unfold fPp; rw [hq]
  rw [e] at h1
  exact pw_cat h1 (by simp)
theorem fpp_back (hw : pw D A H0 H locs (pr ++ [fo 8 (fPp cs pq PV) p, wd_Prg cs h (PV p).r (fun k => if k = 2 then (PV p).o else none) (PV p).f (fun _ _ => 0) (fun _ _ => none), nA cs (PV p).o (PV p).fn (PV p).fd, [((PV p).r 1, .inl (cs 0, (PV p).cn, .inl (PV p).cd))]])) (hp : p < 8) (hq : pq p = some h) : pw D A H0 H locs (pr ++ [fm 8 (fPp cs pq PV)]) := by
  refine fm_back (p := p) ?_ hp
  have e : fPp cs pq PV p = wd_Prg cs h (PV p).r (fun k => if k = 2 then (PV p).o else none) (PV p).f (fun _ _ => 0) (fun _ _ => none) ++ (nA cs (PV p).o (PV p).fn (PV p).fd ++ [((PV p).r 1, .inl (cs 0, (PV p).cn, .inl (PV p).cd))]) := by unfold fPp; rw [hq]
  rw [e]
  exact pw_cat hw (by simp)
end KW
/-- how many are not there -/
def ndS : Nat → (Nat → Option Nat) → Nat
  | 0, _ => 0
  | n + 1, o => ndS n o + nd (o n)
theorem ndS_oth : ∀ (n : Nat) (o : Nat → Option Nat) (p : Nat) (x : Option Nat), n ≤ p → ndS n (va_up o p x) = ndS n o
  | 0, _, _, _, _ => rfl
  | n + 1, o, p, x, h => by unfold ndS; rw [ndS_oth n o p x (by omega), va_up_n (by omega)]
theorem ndS_up : ∀ (n : Nat) (o : Nat → Option Nat) (p : Nat) (x : Option Nat), p < n → ndS n (va_up o p x) + nd (o p) = ndS n o + nd x
  | 0, _, _, _, h => absurd h (Nat.not_lt_zero _)
  | n + 1, o, p, x, h => by
    unfold ndS
    by_cases e : p = n
    · subst e; rw [ndS_oth p o p x (Nat.le_refl _), va_up_s]; omega
    · have q := ndS_up n o p x (by omega)
      rw [va_up_n (by omega)]; omega
theorem ndS_pos : ∀ (n : Nat) (o : Nat → Option Nat) (p : Nat), p < n → o p = none → 1 ≤ ndS n o
  | 0, _, _, h, _ => absurd h (Nat.not_lt_zero _)
  | n + 1, o, p, h, e => by
    unfold ndS
    by_cases q : p = n
    · subst q; rw [e, nd_0]; omega
    · have := ndS_pos n o p (by omega) e; omega
theorem ndS_ge : ∀ (n : Nat) (o : Nat → Option Nat) (p : Nat), p < n → nd (o p) ≤ ndS n o
  | 0, _, _, h => absurd h (Nat.not_lt_zero _)
  | n + 1, o, p, h => by
    unfold ndS
    by_cases q : p = n
    · subst q; omega
    · have := ndS_ge n o p (by omega); omega
/-- who is not there has no memory -/
def RmI (rq RM : Nat → Option Nat) : Prop := ∀ i : Nat, i < 13 → rq i = none → RM i = none
theorem RmI.up {rq RM : Nat → Option Nat} {p q : Nat} {x : Option Nat} (h : RmI rq RM) (hq : rq p = some q) : RmI rq (va_up RM p x) := fun i hi e => by
  by_cases k : i = p
  · subst k; rw [hq] at e; cases e
  · rw [va_up_n k]; exact h i hi e
theorem RmI.new {rq RM : Nat → Option Nat} {p q : Nat} {x : Option Nat} (h : RmI rq RM) : RmI (va_up rq p (some q)) (va_up RM p x) := fun i hi e => by
  by_cases k : i = p
  · subst k; rw [va_up_s] at e; cases e
  · rw [va_up_n k] at e ⊢; exact h i hi e
/-- how many children -/
def KcI (p : Nat) (c : Int) : Prop := 0 ≤ c ∧ c ≤ 3 ∧ (c = 0 ∨ 3 * (p : Int) + c ≤ 12)
def TxN (p : Nat) (f : Nat → Int32) (a : Nat → Nat → Int32) : Prop := TxOk (f 4) (f 5) (f 8) (f 9) (f 17) (f 21) (a 2) ∧ (f 15).toInt = (p : Int) ∧ KcI p (f 20).toInt
def RwO (f : Nat → Int32) : Prop := (0 ≤ (f 7).toInt ∧ (f 7).toInt ≤ 1600) ∧ (0 ≤ (f 10).toInt ∧ (f 10).toInt + (f 7).toInt ≤ 1600) ∧ ((f 14).toInt = 0 ∨ (f 14).toInt = 1) ∧ ((f 14).toInt = 1 → 1 ≤ (f 7).toInt)
def RwN (p : Nat) (f : Nat → Int32) : Prop := RwO f ∧ (f 8).toInt = (p : Int) ∧ KcI p (f 13).toInt
def PvO (g : Pvs) : Prop := (g.cn ≤ 100000 ∧ g.fn ≤ 1000000) ∧ (0 ≤ (g.f 0).toInt ∧ (g.f 0).toInt ≤ 1) ∧ ((g.f 0).toInt = 0 → CodeOk g.cd ∧ RtOk g.fd ∧ Lk (g.f 4))
def PvA (pq : Nat → Option Nat) (PV : Nat → Pvs) : Prop := ∀ j : Nat, j < 8 → ∀ h, pq j = some h → PvO (PV j)
def TxA (tq : Nat → Option Nat) (TF : Nat → Nat → Int32) (TA : Nat → Nat → Nat → Int32) : Prop := ∀ i : Nat, i < 13 → ∀ h, tq i = some h → TxN i (TF i) (TA i)
def RqA (rq : Nat → Option Nat) (RF : Nat → Nat → Int32) : Prop := ∀ i : Nat, i < 13 → ∀ h, rq i = some h → RwN i (RF i)
/-- a text's process that runs -/
def CuT (pq : Nat → Option Nat) (PV : Nat → Pvs) (tq TO : Nat → Option Nat) (i h : Nat) : Prop := tq i = some h ∧ ∃ j hp : Nat, j < 8 ∧ pq j = some hp ∧ TO i = some hp ∧ ((PV j).f 0).toInt = 0
def CuR (pq : Nat → Option Nat) (PV : Nat → Pvs) (rq RW : Nat → Option Nat) (i h : Nat) : Prop := rq i = some h ∧ ∃ j hp : Nat, j < 8 ∧ pq j = some hp ∧ RW i = some ((PV j).r 1)
def PsA (pq : Nat → Option Nat) (PV : Nat → Pvs) (ps tq rq TO RW : Nat → Option Nat) : Prop := ∀ i : Nat, i < 13 → ps i = none ∨ (∃ h, ps i = some h ∧ CuT pq PV tq TO i h) ∨ (∃ h, ps i = some h ∧ CuR pq PV rq RW i h)
def PsN (ps tq rq : Nat → Option Nat) : Prop := ∀ i : Nat, i < 13 → ps i = none ∨ (∃ h, ps i = some h ∧ tq i = some h) ∨ (∃ h, ps i = some h ∧ rq i = some h)
/-- at rest -/
def KnR (pq : Nat → Option Nat) (PV : Nat → Pvs) (ps tq rq : Nat → Option Nat) (TF : Nat → Nat → Int32) (TA : Nat → Nat → Nat → Int32) (RF : Nat → Nat → Int32) : Prop := PvA pq PV ∧ TxA tq TF TA ∧ RqA rq RF ∧ PsN ps tq rq
/-- while it runs -/
def KnI (pq : Nat → Option Nat) (PV : Nat → Pvs) (ps tq rq TO : Nat → Option Nat) (TF : Nat → Nat → Int32) (TA : Nat → Nat → Nat → Int32) (RW : Nat → Option Nat) (RF : Nat → Nat → Int32) : Prop := PvA pq PV ∧ TxA tq TF TA ∧ RqA rq RF ∧ PsA pq PV ps tq rq TO RW
/-- rows between processes: heads and counts -/
def RoI (a : Nat → Nat → Int32) : Prop := ∀ j : Nat, j < 26 → (0 ≤ (a 6 j).toInt ∧ (a 6 j).toInt ≤ 3) ∧ (0 ≤ (a 7 j).toInt ∧ (a 7 j).toInt ≤ 4)
/-- all but p stay as they were -/
def KpQ (p : Nat) (tq TO rq RW tq' TO' rq' RW' : Nat → Option Nat) : Prop := ∀ i, i ≠ p → tq' i = tq i ∧ TO' i = TO i ∧ rq' i = rq i ∧ RW' i = RW i
/-- the first n are null -/
def PsZ (ps : Nat → Option Nat) (n : Int) : Prop := ∀ i : Nat, (i : Int) < n → ps i = none
section KI
variable {pq ps tq rq TO RW tq' rq' TO' RW' ps' : Nat → Option Nat} {PV : Nat → Pvs} {TF RF : Nat → Nat → Int32} {TA : Nat → Nat → Nat → Int32} {f : Nat → Int32} {a : Nat → Nat → Int32} {p i h j hp : Nat}
theorem KnI.rest (k : KnI pq PV ps tq rq TO TF TA RW RF) : KnR pq PV ps tq rq TF TA RF := ⟨k.1, k.2.1, k.2.2.1, fun i hi => (k.2.2.2 i hi).imp id (fun q => q.imp (fun ⟨h, e, c⟩ => ⟨h, e, c.1⟩) (fun ⟨h, e, c⟩ => ⟨h, e, c.1⟩))⟩
theorem KnR.run (k : KnR pq PV ps tq rq TF TA RF) (z : PsZ ps' 13) : KnI pq PV ps' tq rq TO TF TA RW RF := ⟨k.1, k.2.1, k.2.2.1, fun i hi => Or.inl (z i (by omega))⟩
theorem TxA.up (k : TxA tq TF TA) (n : TxN p f a) : TxA tq (va_up TF p f) (va_up TA p a) := fun i hi h e => by
  by_cases q : i = p
  · subst q; rw [va_up_s, va_up_s]; exact n
  · rw [va_up_n q, va_up_n q]; exact k i hi h e
theorem RqA.up (k : RqA rq RF) (n : RwN p f) : RqA rq (va_up RF p f) := fun i hi h e => by
  by_cases q : i = p
  · subst q; rw [va_up_s]; exact n
  · rw [va_up_n q]; exact k i hi h e
theorem KnI.upT (k : KnI pq PV ps tq rq TO TF TA RW RF) (n : TxN p f a) : KnI pq PV ps tq rq TO (va_up TF p f) (va_up TA p a) RW RF := ⟨k.1, k.2.1.up n, k.2.2.1, k.2.2.2⟩
theorem KnI.upR (k : KnI pq PV ps tq rq TO TF TA RW RF) (n : RwN p f) : KnI pq PV ps tq rq TO TF TA RW (va_up RF p f) := ⟨k.1, k.2.1, k.2.2.1.up n, k.2.2.2⟩
theorem KnR.upT (k : KnR pq PV ps tq rq TF TA RF) (n : TxN p f a) : KnR pq PV ps tq rq (va_up TF p f) (va_up TA p a) RF := ⟨k.1, k.2.1.up n, k.2.2.1, k.2.2.2⟩
theorem KnR.upR (k : KnR pq PV ps tq rq TF TA RF) (n : RwN p f) : KnR pq PV ps tq rq TF TA (va_up RF p f) := ⟨k.1, k.2.1, k.2.2.1.up n, k.2.2.2⟩
theorem CuT.oth (c : CuT pq PV tq TO i h) (k : KpQ p tq TO rq RW tq' TO' rq' RW') (e : i ≠ p) : CuT pq PV tq' TO' i h := by
  obtain ⟨e1, e2, -, -⟩ := k i e
  exact ⟨e1.trans c.1, by obtain ⟨j, q, h1, h2, h3, h4⟩ := c.2; exact ⟨j, q, h1, h2, e2.trans h3, h4⟩⟩
theorem CuR.oth (c : CuR pq PV rq RW i h) (k : KpQ p tq TO rq RW tq' TO' rq' RW') (e : i ≠ p) : CuR pq PV rq' RW' i h := by
  obtain ⟨-, -, e1, e2⟩ := k i e
  exact ⟨e1.trans c.1, by obtain ⟨j, q, h1, h2, h3⟩ := c.2; exact ⟨j, q, h1, h2, e2.trans h3⟩⟩
theorem PsA.bg (k : PsA pq PV ps tq rq TO RW) (o : KpQ p tq TO rq RW tq' TO' rq' RW') (c : CuT pq PV tq' TO' p h ∨ CuR pq PV rq' RW' p h) : PsA pq PV (va_up ps p (some h)) tq' rq' TO' RW' := fun i hi => by
  by_cases e : i = p
  · subst e; rw [va_up_s]; exact Or.inr (c.imp (fun c => ⟨h, rfl, c⟩) (fun c => ⟨h, rfl, c⟩))
  · rw [va_up_n e]
    exact (k i hi).imp id (fun q => q.imp (fun ⟨h, e1, c⟩ => ⟨h, e1, c.oth o e⟩) (fun ⟨h, e1, c⟩ => ⟨h, e1, c.oth o e⟩))
theorem TxA.bg (k : TxA tq TF TA) (e : ∀ i, i ≠ p → tq' i = tq i) (n : TxN p f a) : TxA tq' (va_up TF p f) (va_up TA p a) := fun i hi h e1 => by
  by_cases q : i = p
  · subst q; rw [va_up_s, va_up_s]; exact n
  · rw [va_up_n q, va_up_n q]; exact k i hi h ((e i q).symm.trans e1)
theorem RqA.bg (k : RqA rq RF) (e : ∀ i, i ≠ p → rq' i = rq i) (n : RwN p f) : RqA rq' (va_up RF p f) := fun i hi h e1 => by
  by_cases q : i = p
  · subst q; rw [va_up_s]; exact n
  · rw [va_up_n q]; exact k i hi h ((e i q).symm.trans e1)
/-- a text's process begins -/
theorem KnI.bgT (k : KnI pq PV ps tq rq TO TF TA RW RF) (e : ∀ i, i ≠ p → tq' i = tq i) (e1 : tq' p = some h) (hj : j < 8) (hq : pq j = some hp) (h0 : ((PV j).f 0).toInt = 0) (n : TxN p f a) : KnI pq PV (va_up ps p (some h)) tq' rq (va_up TO p (some hp)) (va_up TF p f) (va_up TA p a) RW RF ∧ KpQ p tq TO rq RW tq' (va_up TO p (some hp)) rq RW := by
  have o : KpQ p tq TO rq RW tq' (va_up TO p (some hp)) rq RW := fun i q => ⟨e i q, va_up_n q, rfl, rfl⟩
  exact ⟨⟨k.1, k.2.1.bg e n, k.2.2.1, k.2.2.2.bg o (Or.inl ⟨e1, j, hp, hj, hq, va_up_s, h0⟩)⟩, o⟩
theorem KnI.bgR (k : KnI pq PV ps tq rq TO TF TA RW RF) (e : ∀ i, i ≠ p → rq' i = rq i) (e1 : rq' p = some h) (hj : j < 8) (hq : pq j = some hp) (n : RwN p f) : KnI pq PV (va_up ps p (some h)) tq rq' TO TF TA (va_up RW p (some ((PV j).r 1))) (va_up RF p f) ∧ KpQ p tq TO rq RW tq TO rq' (va_up RW p (some ((PV j).r 1))) := by
  have o : KpQ p tq TO rq RW tq TO rq' (va_up RW p (some ((PV j).r 1))) := fun i q => ⟨rfl, rfl, e i q, va_up_n q⟩
  exact ⟨⟨k.1, k.2.1, k.2.2.1.bg e n, k.2.2.2.bg o (Or.inr ⟨e1, j, hp, hj, hq, va_up_s⟩)⟩, o⟩
theorem psz_up {x : Int32} {n : Int} (z : PsZ ps x.toInt) (h0 : 0 ≤ x.toInt) (hn : n = x.toInt + 1) : PsZ (va_up ps x.toNatClampNeg none) n := fun i hi => by
  have c := cl_nat h0
  by_cases e : i = x.toNatClampNeg
  · rw [e, va_up_s]
  · rw [va_up_n e]; exact z i (by omega)
theorem RoI.up6 {b : Nat → Nat → Int32} {k : Nat} {z : Int32} (r : RoI b) (h0 : 0 ≤ z.toInt) (h1 : z.toInt ≤ 3) : RoI (va_up b 6 (upd (b 6) k z)) := fun j hj => by
  rw [va_up_s, va_up_n (by decide)]
  by_cases e : j = k
  · rw [e, pk_us]; exact ⟨⟨h0, h1⟩, (r k (by omega)).2⟩
  · rw [pk_un e]; exact r j hj
theorem RoI.up7 {b : Nat → Nat → Int32} {k : Nat} {z : Int32} (r : RoI b) (h0 : 0 ≤ z.toInt) (h1 : z.toInt ≤ 4) : RoI (va_up b 7 (upd (b 7) k z)) := fun j hj => by
  rw [va_up_s, va_up_n (by decide)]
  by_cases e : j = k
  · rw [e, pk_us]; exact ⟨(r k (by omega)).1, ⟨h0, h1⟩⟩
  · rw [pk_un e]; exact r j hj
theorem RoI.oth {b : Nat → Nat → Int32} {k : Nat} {c : Nat → Int32} (r : RoI b) (h6 : k ≠ 6) (h7 : k ≠ 7) : RoI (va_up b k c) := fun j hj => by
  rw [va_up_n (Ne.symm h6), va_up_n (Ne.symm h7)]; exact r j hj
/-- a row filled with one number -/
def Fl (c : Nat → Int32) (n : Int) (x : Int32) : Prop := ∀ j : Nat, (j : Int) < n → c j = x
theorem fl_0 {c : Nat → Int32} {x : Int32} : Fl c 0 x := fun j h => absurd h (by omega)
theorem Fl.up {c : Nat → Int32} {y x : Int32} {n : Int} (h : Fl c y.toInt x) (h0 : 0 ≤ y.toInt) (hn : n = y.toInt + 1) : Fl (upd c y.toNatClampNeg x) n x := fun j hj => by
  have k := cl_nat h0
  by_cases e : j = y.toNatClampNeg
  · rw [e, pk_us]
  · rw [pk_un e]; exact h j (by omega)
theorem roi_00 {b : Nat → Nat → Int32} {c d : Nat → Int32} (h6 : Fl c 26 0) (h7 : Fl d 26 0) : RoI (va_up (va_up b 6 c) 7 d) := fun j hj => by
  rw [va_up_s, va_up_n (by decide), va_up_s, h6 j (by omega), h7 j (by omega)]
  exact ⟨⟨by decide, by decide⟩, ⟨by decide, by decide⟩⟩
theorem RoI.at6 {b : Nat → Nat → Int32} {x z : Int32} (r : RoI b) (h0 : 0 ≤ x.toInt) (h1 : x.toInt < 26) (e : z = b 6 x.toNatClampNeg) : 0 ≤ z.toInt ∧ z.toInt ≤ 3 := by
  have k := cl_nat h0
  rw [e]; exact (r _ (by omega)).1
theorem RoI.at7 {b : Nat → Nat → Int32} {x z : Int32} (r : RoI b) (h0 : 0 ≤ x.toInt) (h1 : x.toInt < 26) (e : z = b 7 x.toNatClampNeg) : 0 ≤ z.toInt ∧ z.toInt ≤ 4 := by
  have k := cl_nat h0
  rw [e]; exact (r _ (by omega)).2
def KpG (p : Nat) (F F' : Nat → Nat → Int32) : Prop := ∀ i, i ≠ p → F' i = F i
def NnP (ps : Nat → Option Nat) (x v : Int32) : Prop := v.toInt = 1 → ∃ q, ps x.toNatClampNeg = some q
theorem lk_eq {x y : Int32} (h : Lk x) (e : y.toInt = x.toInt) : Lk y := by unfold Lk at h ⊢; omega
theorem lk_00 : Lk 0 := Or.inr ⟨by decide, by decide⟩
theorem rt_00 : RtOk (fun _ => 0) := fun _ => lk_00
end KI
section PA
variable {p : Program} {l : Launch} {e : Env} {R : Room} {s : State} {m : MethodId} {args : Array Value} {below : List Frame} {meth : Method} {c : Code} {H : Heap} {locs : List Loc} {cells slots : Nat} {Q : State → Prop}
variable {cc b : ByteArray} {pc nL n fr lo mc ms index : Nat} {ls : Array Slot} {rest As st0 : List Value} {D : va_G} {A : Nat → Prop} {b0 : Nat} {cs : Nat → ClassId} {pr pcs : List va_W} {H0 : Heap} {own : String} {x y : MethodName} {ret : Option FieldType} {X : State → Prop} {Qc : Array Value → State → Outcome → State → Prop} {free : Addr → Prop}
/-- a value that may be null gets a name -/
theorem lq_top {o : Option Nat} (k : ∀ y : Option Nat, y = o → W p l e R s m args below meth c H locs cells slots Q (F0 m pc ls (va_rf y :: rest))) : W p l e R s m args below meth c H locs cells slots Q (F0 m pc ls (va_rf o :: rest)) := k o rfl
/-- a call whose named method is abstract -/
theorem px_runA {C owner : String} (S : px_S p m c cc nL s args own) (hM : Met l y (pc_ws y b n ret) { frames := fr, cells := mc, slots := ms, locals := lo } (pc_Pre D cs (.ref b0 :: As) H.size pcs X) Qc mc ms free) (hT : Tb D cs s) (hw : pw D A H0 H locs (pr ++ pcs)) (hX : px_X X s H)
    (hrc : ∃ cell : Cell, H[b0]? = some cell ∧ cell.vm.isStatics = false ∧ s.vm.findClass C = some cell.cls) (hcode : Cond.code y b n ret ∈ AL) (hlink : Cond.methodLink own index x ∈ AL) (hsame : Cond.sameMethod x.cls owner x.name x.desc ∈ AL) (hinst : Cond.instanceMethod y ∈ AL) (hsel : Cond.selects C x y ∈ AL) (hini : Cond.initialized y.cls ∈ AL) (hz : Cond.declares ⟨owner, x.name, x.desc⟩ ∈ tables_1) (ho : owner ≠ "java/lang/invoke/MethodHandle" ∧ owner ≠ "java/lang/invoke/VarHandle") (hd : x.desc = y.desc) (hy : px_y y As.length)
    (hR : fr + 1 ≤ R.frames ∧ 8 + (n + 11) + lo ≤ R.locals) (hl : ls.size = nL) (hst : st0 = As.reverse ++ .ref b0 :: rest) (hrm : (rest.map fun v => v.category).sum ≤ 8) (hdg : decode cc pc = .ok (.invokevirtual index, 3)) (hf : cells + mc ≤ R.cells ∧ slots + ms ≤ R.slots) :
    va_Run p l e R s m args below meth c H locs cells slots mc ms (F0 m pc ls st0) rest (Qc (Value.ref b0 :: As).toArray) free := by
  obtain ⟨Ts, S, h⟩ := S
  have hG : GoodIn Ts (va_wsU own index C owner x y (pc_ws y b n ret)) := AL_call (ex := [.methodLink own index x, .sameMethod x.cls owner x.name x.desc, .selects C x y, .instanceMethod y, .initialized y.cls]) h hcode (fun w hw => by
    rcases List.mem_cons.mp hw with e | hw
    · rw [e]; exact hlink
    rcases List.mem_cons.mp hw with e | hw
    · rw [e]; exact hsame
    rcases List.mem_cons.mp hw with e | hw
    · rw [e]; exact hsel
    rcases List.mem_cons.mp hw with e | hw
    · rw [e]; exact hinst
    rcases List.mem_cons.mp hw with e | hw
    · rw [e]; exact hini
    exact absurd hw List.not_mem_nil)
  exact va_runU S hM (va_cwA As.length S.2.2.2.2 hG rfl rfl rfl (hT.2.2 _ hz rfl) ⟨ho.1, ho.2, by rw [hd]; exact hy.2.2⟩ hR) ⟨px_blind hX.1, hrc, px_pre hT hw hX⟩ rfl rfl hl hst (lv_room hrm) hdg hf
end PA

theorem i_idiv9 {x y : Int32} {d : Int} (h : 0 ≤ x.toInt) (hy : y.toInt = d) (hd : 0 < d) : (x / y).toInt = x.toInt / d := by
  have h1 := Int32.toInt_lt x
  have h2 : 0 ≤ x.toInt / d := Int.ediv_nonneg h (by omega)
  have h3 : x.toInt / d ≤ x.toInt := Int.ediv_le_self _ h
  rw [Int32.toInt_div, hy, Int.tdiv_eq_ediv_of_nonneg h, Int.bmod_def]
  split <;> omega
theorem i_irem9 {x y : Int32} {d : Int} (h : 0 ≤ x.toInt) (hy : y.toInt = d) (hd : 0 < d) : (x - x / y * y).toInt = x.toInt % d := by
  have h1 := Int32.toInt_lt x
  have h2 : 0 ≤ x.toInt / d := Int.ediv_nonneg h (by omega)
  have h3 := i_idiv9 h hy hd
  have h4 : d * (x.toInt / d) + x.toInt % d = x.toInt := Int.mul_ediv_add_emod _ _
  have h5 : 0 ≤ x.toInt % d := Int.emod_nonneg _ (by omega)
  have h6 : x.toInt % d < d := Int.emod_lt_of_pos _ hd
  have h7 : x.toInt / d * d = d * (x.toInt / d) := Int.mul_comm _ _
  have h8 : 0 ≤ x.toInt / d * d := Int.mul_nonneg h2 (by omega)
  have h9 : (x / y * y).toInt = x.toInt / d * d := by
    rw [Int32.toInt_mul, h3, hy, Int.bmod_def]
    split <;> omega
  rw [Int32.toInt_sub, h9, Int.bmod_def]
  split <;> omega
abbrev b_Txp_answer : ByteArray := prog_11_method_4_code
def y_Txp_answer : MethodName := ⟨"HomeSystem$TextProcess", "answer", "(I)V"⟩
theorem d_Txp_answer_0 : decode b_Txp_answer 0 = .ok (.aload_n 0, 1) := by decide +kernel
theorem d_Txp_answer_1 : decode b_Txp_answer 1 = .ok (.iconst 0, 1) := by decide +kernel
theorem d_Txp_answer_2 : decode b_Txp_answer 2 = .ok (.putfield 81, 3) := by decide +kernel
theorem d_Txp_answer_5 : decode b_Txp_answer 5 = .ok (.aload_n 0, 1) := by decide +kernel
theorem d_Txp_answer_6 : decode b_Txp_answer 6 = .ok (.iload_n 1, 1) := by decide +kernel
theorem d_Txp_answer_7 : decode b_Txp_answer 7 = .ok (.invokevirtual 74, 3) := by decide +kernel
theorem d_Txp_answer_10 : decode b_Txp_answer 10 = .ok (.return_, 1) := by decide +kernel
theorem q_Txp_answer : px_y y_Txp_answer 1 := by unfold px_y; decide +kernel
set_option maxHeartbeats 4000000 in
set_option maxRecDepth 100000 in
theorem c_Txp_answer (l : Launch) (D : va_G) (cs : Nat → ClassId) (h : Nat) (r : Nat → Nat) (g : Nat → Nat → Option Nat) (hp : Nat) (f : Nat → Int32) (a : Nat → Nat → Int32) (p0 : Int32)  (hok0 : TxOk (f 4) (f 5) (f 8) (f 9) (f 17) 0 (a 2)) : MetV l y_Txp_answer b_Txp_answer 2 D cs 1 30 (0) (0) [.ref h, .int p0] [wd_Txp cs h r (fun k => if k = 3 then (some hp) else none) f a g] (fun _ => True) (fun ps => ∃ (f' : Nat → Int32) (a' : Nat → Nat → Int32), (ps = [wd_Txp cs h r (fun k => if k = 3 then (some hp) else none) f' a' g]) ∧ (TxOk (f' 4) (f' 5) (f' 8) (f' 9) (f' 17) (f' 21) (a' 2)) ∧ ((f' 9).toInt = (f 9).toInt) ∧ ((f' 17).toInt = (f 17).toInt) ∧ ((f' 21).toInt = 0) ∧ ((f' 15).toInt = (f 15).toInt) ∧ ((f' 20).toInt = (f 20).toInt)) := by
  refine px_enter (by decide) (Nat.le_of_ble_eq_true rfl) ?_
  intro p e s m below meth c A ls hAe S hr hlk hnm hA hT hX hw hl
  replace hl : lv_has ls 2 [(0, .ref h), (1, .int p0)] := hl
  have lp0 := Int32.le_toInt p0
  have up0 := Int32.toInt_lt p0
  have cst0 : (0 : Int32).toInt = 0 := rfl
  obtain ⟨lk, ⟨i2, i3⟩, ⟨i4, i5⟩, ⟨i6, i7⟩, i8, ⟨i9, i11⟩, i10, hrt⟩ := hok0
  refine lv_aload_n S.x S.b d_Txp_answer_0 rfl (lv_at hl 0 rfl) ?_
  refine lv_iconst (v := 0) S.x S.b d_Txp_answer_1 (by decide) ?_
  refine px_putS S k_Txp hT hw 0 0 21 rfl rfl (by decide) m6_153 m6_154 rfl rfl rfl (Nat.le_of_ble_eq_true rfl) d_Txp_answer_2 (w' := wd_Txp cs h r (fun k => if k = 3 then (some hp) else none) (upd f 21 0) a g) (ps' := [wd_Txp cs h r (fun k => if k = 3 then (some hp) else none) (upd f 21 0) a g]) rfl rfl (fun H locs hw => ?_)
  refine lv_aload_n S.x S.b d_Txp_answer_5 rfl (lv_at hl 0 rfl) ?_
  refine lv_iload_n S.x S.b d_Txp_answer_6 rfl (lv_at hl 1 rfl) ?_
  refine px_callv (pr := []) (px_runV (As := [.int p0]) (rest := []) S (c_Txp_push l D cs h r g hp (upd f 21 0) a p0  (show TxOk (f 4) (f 5) (f 8) (f 9) (f 17) 0 (a 2) from ⟨(by first | exact lk | exact lk_eq lk (by omega) | exact lk_mk (by omega)), ⟨by first | exact i2 | omega, by first | exact i3 | omega⟩, ⟨by first | exact i4 | omega, by first | exact i5 | omega⟩, ⟨by first | exact i6 | omega, by first | exact i7 | omega⟩, by first | exact i8 | omega, ⟨by first | exact i9 | omega, by first | exact i11 | omega⟩, by first | exact i10 | omega, hrt⟩) _) hT (pr := []) (pcs := [wd_Txp cs h r (fun k => if k = 3 then (some hp) else none) (upd f 21 0) a g]) hw px_X.tt (px_recv hT hw 0 0 rfl rfl rfl) m8_47 m8_44 m8_46 ms_5_6 m1_35 q_Txp_push ⟨Nat.le_of_ble_eq_true rfl, Nat.le_of_ble_eq_true rfl⟩ hl.1 rfl (Nat.le_of_ble_eq_true rfl) d_Txp_answer_7 ⟨Nat.le_of_ble_eq_true rfl, Nat.le_of_ble_eq_true rfl⟩) hw hA (fun p3 H locs hp3 hw => ?_)
  obtain ⟨f1, a2, rfl, h11, e5, e6, e7, e8, e9, e10, e11⟩ := hp3
  obtain ⟨lk, ⟨i2, i3⟩, ⟨i4, i5⟩, ⟨i6, i7⟩, i8, ⟨i9, i11⟩, i10, hrt⟩ := h11
  replace e5 : (f1 9).toInt = (f 9).toInt := e5
  replace e6 : (f1 17).toInt = (f 17).toInt := e6
  replace e7 : (f1 21).toInt = (0 : Int) := e7
  replace e8 : (f1 15).toInt = (f 15).toInt := e8
  replace e9 : (f1 20).toInt = (f 20).toInt := e9
  replace e10 : (f1 4).toInt = (f 4).toInt := e10
  replace hw : pw D A s.heap H locs [wd_Txp cs h r (fun k => if k = 3 then (some hp) else none) f1 a2 g] := hw
  exact px_vret S hr hlk hAe hw (Nat.le_of_ble_eq_true rfl) (Nat.le_of_ble_eq_true rfl) (⟨f1, a2, rfl, (show TxOk (f1 4) (f1 5) (f1 8) (f1 9) (f1 17) (f1 21) (a2 2) from (show TxOk (f1 4) (f1 5) (f1 8) (f1 9) (f1 17) (f1 21) (a2 2) from ⟨(by first | exact lk | exact lk_eq lk (by omega) | exact lk_mk (by omega)), ⟨by first | exact i2 | omega, by first | exact i3 | omega⟩, ⟨by first | exact i4 | omega, by first | exact i5 | omega⟩, ⟨by first | exact i6 | omega, by first | exact i7 | omega⟩, by first | exact i8 | omega, ⟨by first | exact i9 | omega, by first | exact i11 | omega⟩, by first | exact i10 | omega, hrt⟩)), (show (f1 9).toInt = (f 9).toInt from by first | exact e5 | omega), (show (f1 17).toInt = (f 17).toInt from by first | exact e6 | omega), (show (f1 21).toInt = 0 from by first | exact oz_a15db6296b e7 i9 | omega), (show (f1 15).toInt = (f 15).toInt from by first | exact e8 | omega), (show (f1 20).toInt = (f 20).toInt from by first | exact e9 | omega)⟩) d_Txp_answer_10
set_option maxHeartbeats 4000000 in
set_option maxRecDepth 100000 in
theorem c_write_TxpK (l : Launch) (D : va_G) (cs : Nat → ClassId) (h : Nat) (r : Nat → Nat) (g : Nat → Nat → Option Nat) (hp : Nat) (f : Nat → Int32) (a : Nat → Nat → Int32) (p0 : Int32)  (g0 : 0 ≤ (f 17).toInt) (g1 : (f 17).toInt ≤ 1000000) (hrt : RtOk (a 2)) : MetV l y_HomeSystem_AnyProcess_write b_HomeSystem_AnyProcess_write 2 D cs 0 0 (0) (0) [.ref h, .int p0] [wd_Txp cs h r (fun k => if k = 3 then (some hp) else none) f a g] (fun _ => True) (fun ps => ∃ (f' : Nat → Int32) (a' : Nat → Nat → Int32), (ps = [wd_Txp cs h r (fun k => if k = 3 then (some hp) else none) f' a' g]) ∧ ((f' 17).toInt = (f 17).toInt + 1) ∧ ((f' 4).toInt = (f 4).toInt) ∧ ((f' 5).toInt = (f 5).toInt) ∧ ((f' 8).toInt = (f 8).toInt) ∧ ((f' 9).toInt = (f 9).toInt) ∧ ((f' 15).toInt = (f 15).toInt) ∧ ((f' 18).toInt = (f 18).toInt) ∧ ((f' 20).toInt = (f 20).toInt) ∧ ((f' 21).toInt = (f 21).toInt) ∧ (RtOk (a' 2))) := by
  refine px_enter (by decide) (Nat.le_of_ble_eq_true rfl) ?_
  intro p e s m below meth c A ls hAe S hr hlk hnm hA hT hX hw hl
  replace hl : lv_has ls 2 [(0, .ref h), (1, .int p0)] := hl
  have lp0 := Int32.le_toInt p0
  have up0 := Int32.toInt_lt p0
  have cst1 : (1 : Int32).toInt = 1 := rfl
  have cst256 : (256 : Int32).toInt = 256 := rfl
  refine lv_aload_n S.x S.b d_HomeSystem_AnyProcess_write_0 rfl (lv_at hl 0 rfl) ?_
  refine px_get S k_Txp hT hw 0 0 17 (v := .int (f 17)) rfl rfl rfl (by decide) m6_136 d_HomeSystem_AnyProcess_write_1 ?_
  refine lv_sipush (v := 256) S.x S.b d_HomeSystem_AnyProcess_write_4 (by decide) ?_
  refine lv_icmp_ge (tgt := 20) S.x S.b d_HomeSystem_AnyProcess_write_7 (by decide) (fun c1 => ?_) (fun c1 => ?_)
  · have nc1 : (256 : Int) ≤ (f 17).toInt := (i_le (x := 256) (y := (f 17))).mp c1
    refine lv_aload_n S.x S.b d_HomeSystem_AnyProcess_write_20 rfl (lv_at hl 0 rfl) ?_
    refine lv_dup S.x S.b d_HomeSystem_AnyProcess_write_21 rfl ?_
    refine px_get S k_Txp hT hw 0 0 17 (v := .int (f 17)) rfl rfl rfl (by decide) m6_136 d_HomeSystem_AnyProcess_write_22 ?_
    refine lv_iconst (v := 1) S.x S.b d_HomeSystem_AnyProcess_write_25 (by decide) ?_
    refine lv_iadd S.x S.b d_HomeSystem_AnyProcess_write_26 ?_
    have lr2 := Int32.le_toInt (f 17)
    have ur2 := Int32.toInt_lt (f 17)
    refine lv_topi (fun z3 ez3 => ?_)
    have tz3 : z3.toInt = ((f 17).toInt + (1 : Int) + 2147483648) % 4294967296 - 2147483648 := by rw [ez3]; exact i_add (f 17) 1
    have lz3 := Int32.le_toInt z3
    have uz3 := Int32.toInt_lt z3
    try replace tz3 : z3.toInt = (f 17).toInt + (1 : Int) := by omega
    refine px_put S k_Txp hT hw 0 0 17 rfl rfl (by decide) m6_136 rfl rfl rfl (Nat.le_of_ble_eq_true rfl) d_HomeSystem_AnyProcess_write_27 (w' := wd_Txp cs h r (fun k => if k = 3 then (some hp) else none) (upd f 17 z3) a g) (ps' := [wd_Txp cs h r (fun k => if k = 3 then (some hp) else none) (upd f 17 z3) a g]) rfl rfl (fun H locs hw => ?_)
    exact px_vret S hr hlk hAe hw (Nat.le_of_ble_eq_true rfl) (Nat.le_of_ble_eq_true rfl) (⟨(upd f 17 z3), a, rfl, (show z3.toInt = (f 17).toInt + 1 from by first | exact oz_037caa6b79 tz3 | omega), (show (f 4).toInt = (f 4).toInt from rfl), (show (f 5).toInt = (f 5).toInt from rfl), (show (f 8).toInt = (f 8).toInt from rfl), (show (f 9).toInt = (f 9).toInt from rfl), (show (f 15).toInt = (f 15).toInt from rfl), (show (f 18).toInt = (f 18).toInt from rfl), (show (f 20).toInt = (f 20).toInt from rfl), (show (f 21).toInt = (f 21).toInt from rfl), (show RtOk (a 2) from hrt)⟩) d_HomeSystem_AnyProcess_write_30
  · have nc1 : ¬ (256 : Int) ≤ (f 17).toInt := mt (i_le (x := 256) (y := (f 17))).mpr c1
    refine lv_aload_n S.x S.b d_HomeSystem_AnyProcess_write_10 rfl (lv_at hl 0 rfl) ?_
    refine px_get S k_Txp hT hw 0 0 16 (v := .ref (r 16)) rfl rfl rfl (by decide) m6_134 d_HomeSystem_AnyProcess_write_11 ?_
    refine lv_aload_n S.x S.b d_HomeSystem_AnyProcess_write_14 rfl (lv_at hl 0 rfl) ?_
    refine px_get S k_Txp hT hw 0 0 17 (v := .int (f 17)) rfl rfl rfl (by decide) m6_136 d_HomeSystem_AnyProcess_write_15 ?_
    refine lv_iload_n S.x S.b d_HomeSystem_AnyProcess_write_18 rfl (lv_at hl 1 rfl) ?_
    refine px_iast S hT hw 0 4 (n := 256) (f := (a 16)) (x := (f 17)) (y := p0) rfl (ga_Txp_16 _ _ _ _ _ _ _) (vp_in_iff.mpr (by constructor <;> omega)) d_HomeSystem_AnyProcess_write_19 (w' := wd_Txp cs h r (fun k => if k = 3 then (some hp) else none) f (va_up a 16 (upd (a 16) (f 17).toNatClampNeg p0)) g) (ps' := [wd_Txp cs h r (fun k => if k = 3 then (some hp) else none) f (va_up a 16 (upd (a 16) (f 17).toNatClampNeg p0)) g]) (sa_Txp_16 _ _ _ _ _ _ _ _) rfl (fun H locs hw => ?_)
    refine lv_aload_n S.x S.b d_HomeSystem_AnyProcess_write_20 rfl (lv_at hl 0 rfl) ?_
    refine lv_dup S.x S.b d_HomeSystem_AnyProcess_write_21 rfl ?_
    refine px_get S k_Txp hT hw 0 0 17 (v := .int (f 17)) rfl rfl rfl (by decide) m6_136 d_HomeSystem_AnyProcess_write_22 ?_
    refine lv_iconst (v := 1) S.x S.b d_HomeSystem_AnyProcess_write_25 (by decide) ?_
    refine lv_iadd S.x S.b d_HomeSystem_AnyProcess_write_26 ?_
    have lr4 := Int32.le_toInt (f 17)
    have ur4 := Int32.toInt_lt (f 17)
    refine lv_topi (fun z5 ez5 => ?_)
    have tz5 : z5.toInt = ((f 17).toInt + (1 : Int) + 2147483648) % 4294967296 - 2147483648 := by rw [ez5]; exact i_add (f 17) 1
    have lz5 := Int32.le_toInt z5
    have uz5 := Int32.toInt_lt z5
    try replace tz5 : z5.toInt = (f 17).toInt + (1 : Int) := by omega
    refine px_put S k_Txp hT hw 0 0 17 rfl rfl (by decide) m6_136 rfl rfl rfl (Nat.le_of_ble_eq_true rfl) d_HomeSystem_AnyProcess_write_27 (w' := wd_Txp cs h r (fun k => if k = 3 then (some hp) else none) (upd f 17 z5) (va_up a 16 (upd (a 16) (f 17).toNatClampNeg p0)) g) (ps' := [wd_Txp cs h r (fun k => if k = 3 then (some hp) else none) (upd f 17 z5) (va_up a 16 (upd (a 16) (f 17).toNatClampNeg p0)) g]) rfl rfl (fun H locs hw => ?_)
    exact px_vret S hr hlk hAe hw (Nat.le_of_ble_eq_true rfl) (Nat.le_of_ble_eq_true rfl) (⟨(upd f 17 z5), (va_up a 16 (upd (a 16) (f 17).toNatClampNeg p0)), rfl, (show z5.toInt = (f 17).toInt + 1 from by first | exact oz_037caa6b79 tz5 | omega), (show (f 4).toInt = (f 4).toInt from rfl), (show (f 5).toInt = (f 5).toInt from rfl), (show (f 8).toInt = (f 8).toInt from rfl), (show (f 9).toInt = (f 9).toInt from rfl), (show (f 15).toInt = (f 15).toInt from rfl), (show (f 18).toInt = (f 18).toInt from rfl), (show (f 20).toInt = (f 20).toInt from rfl), (show (f 21).toInt = (f 21).toInt from rfl), (show RtOk ((va_up a 16 (upd (a 16) (f 17).toNatClampNeg p0)) 2) from (by rw [va_up_n (by decide)]; exact hrt))⟩) d_HomeSystem_AnyProcess_write_30
set_option maxHeartbeats 4000000 in
set_option maxRecDepth 100000 in
theorem c_Arrays_fillA (l : Launch) (D : va_G) (cs : Nat → ClassId) (q : Nat) (nn : Nat) (ca : Nat → Int32) (x : Int32)  (g0 : nn ≤ 1000000) : MetV l y_Arrays_fill b_Arrays_fill 4 D cs 0 0 (0) (0) [.ref q, .int x] [[(q, .inl (cs 0, nn, .inl ca))]] (fun _ => True) (fun ps => ∃ (ca' : Nat → Int32), (ps = [[(q, .inl (cs 0, nn, .inl ca'))]]) ∧ (Fl ca' (nn : Int) x)) := by
  refine px_enter (by decide) (Nat.le_of_ble_eq_true rfl) ?_
  intro p e s m below meth c A ls hAe S hr hlk hnm hA hT hX hw hl
  replace hl : lv_has ls 4 [(0, .ref q), (1, .int x)] := hl
  have lx := Int32.le_toInt x
  have ux := Int32.toInt_lt x
  have cst0 : (0 : Int32).toInt = 0 := rfl
  have hnn : (nI nn).toInt = (nn : Int) := nI_toInt (by omega)
  have J5 : ∀ (n_5 : Nat) (ca_5 : Nat → Int32) (x5_2 x5_3 : Int32) (H : Heap) (locs : List Loc) (ls : Array Slot), (x5_3.toInt = (nn : Int)) → (0 ≤ x5_2.toInt) → (x5_2.toInt ≤ x5_3.toInt) → (Fl ca_5 x5_2.toInt x) → x5_3.toInt+1-x5_2.toInt < (n_5 : Int) → pw D A s.heap H locs [[(q, .inl (cs 0, nn, .inl ca_5))]] → lv_has ls 4 [(0, .ref q), (1, .int x), (2, .int x5_2), (3, .int x5_3)] → W p l e { frames := 0, cells := 0, slots := 0, locals := 0 } s m [.ref q, .int x].toArray below meth c H locs 0 0 (MQ below (va_Qv (fun ps => ∃ (ca' : Nat → Int32), (ps = [[(q, .inl (cs 0, nn, .inl ca'))]]) ∧ (Fl ca' (nn : Int) x)) (pc_B D (va_A ([[(q, .inl (cs 0, nn, .inl ca))]] : List va_W).flatten s.heap.size)) (va_A ([[(q, .inl (cs 0, nn, .inl ca))]] : List va_W).flatten s.heap.size)) [.ref q, .int x].toArray s 0 0 A) (F0 m 5 ls []) := by
    intro n_5
    induction n_5 with
    | zero =>
      intro ca_5 x5_2 x5_3 H locs ls k5_0 k5_1 k5_2 k5_3 hm hw hl
      have lx5_2 := Int32.le_toInt x5_2
      have ux5_2 := Int32.toInt_lt x5_2
      have lx5_3 := Int32.le_toInt x5_3
      have ux5_3 := Int32.toInt_lt x5_3
      have hfl := k5_3
      exact absurd hm (by omega)
    | succ n_5 ih5 =>
      intro ca_5 x5_2 x5_3 H locs ls k5_0 k5_1 k5_2 k5_3 hm hw hl
      have lx5_2 := Int32.le_toInt x5_2
      have ux5_2 := Int32.toInt_lt x5_2
      have lx5_3 := Int32.le_toInt x5_3
      have ux5_3 := Int32.toInt_lt x5_3
      have hfl := k5_3
      refine lv_iload_n S.x S.b d_Arrays_fill_5 rfl (lv_at hl 2 rfl) ?_
      refine lv_iload_n S.x S.b d_Arrays_fill_6 rfl (lv_at hl 3 rfl) ?_
      refine lv_icmp_ge (tgt := 20) S.x S.b d_Arrays_fill_7 (by decide) (fun c1 => ?_) (fun c1 => ?_)
      · have nc1 : x5_3.toInt ≤ x5_2.toInt := (i_le (x := x5_3) (y := x5_2)).mp c1
        exact px_vret S hr hlk hAe hw (Nat.le_of_ble_eq_true rfl) (Nat.le_of_ble_eq_true rfl) (⟨ca_5, rfl, (show Fl ca_5 (nn : Int) x from (by first | exact fl_0 | exact hfl | exact (fun j9 q9 => hfl j9 (by omega)) | exact Fl.up hfl (by omega) (by omega)))⟩) d_Arrays_fill_20
      · have nc1 : ¬ x5_3.toInt ≤ x5_2.toInt := mt (i_le (x := x5_3) (y := x5_2)).mpr c1
        refine lv_aload_n S.x S.b d_Arrays_fill_10 rfl (lv_at hl 0 rfl) ?_
        refine lv_iload_n S.x S.b d_Arrays_fill_11 rfl (lv_at hl 2 rfl) ?_
        refine lv_iload_n S.x S.b d_Arrays_fill_12 rfl (lv_at hl 1 rfl) ?_
        refine px_iast S hT hw 0 0 (n := nn) (f := ca_5) (x := x5_2) (y := x) rfl rfl (vp_in_iff.mpr (by constructor <;> omega)) d_Arrays_fill_13 (w' := [(q, .inl (cs 0, nn, .inl (upd ca_5 x5_2.toNatClampNeg x)))]) (ps' := [[(q, .inl (cs 0, nn, .inl (upd ca_5 x5_2.toNatClampNeg x)))]]) rfl rfl (fun H locs hw => ?_)
        obtain ⟨z2, ez2⟩ : ∃ y : Int32, y = x5_2 + 1 := ⟨_, rfl⟩
        have tz2 : z2.toInt = (x5_2.toInt + 1 + 2147483648) % 4294967296 - 2147483648 := by rw [ez2]; exact i_add x5_2 1
        have lz2 := Int32.le_toInt z2
        have uz2 := Int32.toInt_lt z2
        try replace tz2 : z2.toInt = x5_2.toInt + 1 := by omega
        refine lv_iinc (v := z2) (lv' := [(2, .int z2), (0, .ref q), (1, .int x), (3, .int x5_3)]) S.x S.b d_Arrays_fill_14 hl (k := 2) rfl (by rw [ez2]; rfl) (by decide) rfl (fun ls hl => ?_)
        refine lv_goto (tgt := 5) S.x S.b d_Arrays_fill_17 (by decide) ?_
        exact ih5 (upd ca_5 x5_2.toNatClampNeg x) z2 x5_3 _ _ ls (show x5_3.toInt = (nn : Int) from by first | exact k5_0 | omega) (show 0 ≤ z2.toInt from by first | exact oz_ae613611c0 tz2 k5_1 | omega) (show z2.toInt ≤ x5_3.toInt from by first | exact oz_b1314744c8 nc1 tz2 | omega) (show Fl (upd ca_5 x5_2.toNatClampNeg x) z2.toInt x from (by first | exact fl_0 | exact hfl | exact (fun j9 q9 => hfl j9 (by omega)) | exact Fl.up hfl (by omega) (by omega))) (show x5_3.toInt+1-z2.toInt < (n_5 : Int) from by first | exact oz_a86078dd04 hm tz2 | omega) hw (lv_sub hl [1, 2, 0, 3] rfl)
  refine lv_iconst (v := 0) S.x S.b d_Arrays_fill_0 (by decide) ?_
  refine lv_istore_n (lv' := [(2, .int 0), (0, .ref q), (1, .int x)]) S.x S.b d_Arrays_fill_1 rfl hl (by decide) rfl (fun ls hl => ?_)
  refine lv_aload_n S.x S.b d_Arrays_fill_2 rfl (lv_at hl 1 rfl) ?_
  refine px_len S hT hw 0 0 0 rfl rfl rfl (v := (nI nn)) rfl d_Arrays_fill_3 ?_
  refine lv_istore_n (lv' := [(3, .int (nI nn)), (2, .int 0), (0, .ref q), (1, .int x)]) S.x S.b d_Arrays_fill_4 rfl hl (by decide) rfl (fun ls hl => ?_)
  exact J5 (((nI nn).toInt+1-(0 : Int)).toNat + 1) ca (0 : Int32) (nI nn) _ _ ls (show (nI nn).toInt = (nn : Int) from by first | exact hnn | omega) (show 0 ≤ (0 : Int) from by first | decide | omega) (show (0 : Int) ≤ (nI nn).toInt from by first | exact oz_a3e4319bad hnn | omega) (show Fl ca (0 : Int) x from (by first | exact fl_0 | exact hfl | exact (fun j9 q9 => hfl j9 (by omega)) | exact Fl.up hfl (by omega) (by omega))) (show (nI nn).toInt+1-(0 : Int) < (((((nI nn).toInt+1-(0 : Int)).toNat + 1 : Nat) : Int) : Int) from by first | exact oz_natlt | omega) hw (lv_sub hl [2, 3, 1, 0] rfl)
