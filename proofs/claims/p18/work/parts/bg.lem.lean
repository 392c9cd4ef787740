/-! HOW MUCH is laid upon the stack: it stands while other nodes are noted -/
section HF
variable {ta : Nat → Nat → Int32} {c : Int} {na ma0 ma ma' : Nat → Nat → Int32} {L : Int → Nat → Int}
theorem RwI.fr {Q : Int → Int → Int32 → Prop} {P P' : Int32 → Prop} {lo0 hi : Int} (hP : ∀ l h x, lo0 ≤ l → h ≤ hi → Q l h x → P x → P' x) : ∀ {m : Nat} {lo : Int} {e : Int32}, lo0 ≤ lo → RcE na Q lo hi e → RwI na P m e → RwI na P' m e
  | 0, _, _, _, _, h => h
  | m + 1, lo, e, hl, r, h => by
    rcases h with h | ⟨h1, h2⟩
    · exact Or.inl h
    · by_cases h0 : e.toInt < 0
      · exact Or.inl h0
      · obtain ⟨mid, a1, a2, a3, a4, a5⟩ := r.step (by omega)
        exact Or.inr ⟨hP lo mid e hl a2 a3 h1, RwI.fr hP (by omega) a5 h2⟩
theorem HaR.fr {Q : Int → Int → Int32 → Prop} {P P' : Int32 → Int → Prop} {l : Nat → Int} {lo0 hi : Int} (hP : ∀ l h x b, lo0 ≤ l → h ≤ hi → Q l h x → P x b → P' x b) : ∀ {m k : Nat} {lo f b : Int} {e : Int32}, lo0 ≤ lo → RcE na Q lo hi e → HaR na P l m k f e b → HaR na P' l m k f e b
  | 0, _, _, _, _, _, _, _, h => h
  | m + 1, k, lo, f, b, e, hl, r, h => by
    rcases h with h | ⟨h1, h2, h3, h4⟩
    · exact Or.inl h
    · obtain ⟨mid, a1, a2, a3, a4, a5⟩ := r.step h1
      exact Or.inr ⟨h1, fun q => hP lo mid e _ hl a2 a3 (h2 q), h3, HaR.fr hP (by omega) a5 h4⟩
theorem HgB.fr : ∀ {d : Nat} {n : Int32} {lo hi b : Int}, EcV ta c na ma0 d lo hi n → HgB na ma0 ma L d n b → (∀ x : Nat, lo ≤ (x : Int) → (x : Int) < hi → ma' 18 x = ma 18 x) → HgB na ma0 ma' L d n b
  | 0, _, _, _, _, _, h, _ => h.elim
  | d + 1, n, lo, hi, b, ec, h, hf => by
    have r := ec.rng
    have hc := cl_nat r.2.2
    have sub : ∀ {l h : Int} {x : Int32} {b' : Int}, lo ≤ l → h ≤ hi → EcV ta c na ma0 d l h x → HgB na ma0 ma L d x b' → HgB na ma0 ma' L d x b' := fun q1 q2 q3 q4 => HgB.fr q3 q4 (fun x a1 a2 => hf x (by omega) (by omega))
    obtain ⟨h0, h⟩ := h
    refine ⟨h0, ?_⟩
    rcases h with h | h | ⟨h, m, h1⟩ | ⟨h, h', h1⟩ | ⟨h, h1, m, h2⟩ | ⟨h, h1, h2, h3⟩ | ⟨h, h1, h2⟩ | ⟨h, h1, h2, h3⟩
    · exact Or.inl h
    · exact Or.inr (Or.inl h)
    · refine Or.inr (Or.inr (Or.inl ⟨h, m, ?_⟩))
      rw [hf _ (by omega) (by omega)]
      exact HaR.fr (lo0 := lo) (hi := hi) (Q := fun l h x => EcV ta c na ma0 d l h x) (P := HgB na ma0 ma L d) (P' := HgB na ma0 ma' L d) (fun l h x b q1 q2 q3 q4 => sub q1 q2 q3 q4) (show lo ≤ n.toInt + 1 by omega) (ec.k3 h rfl) h1
    · refine Or.inr (Or.inr (Or.inr (Or.inl ⟨h, h', ?_⟩)))
      by_cases q : (na 14 n.toNatClampNeg).toInt = 4
      · exact sub (by omega) (Int.le_refl _) (ec.k4 q rfl) h1
      · exact sub (Int.le_refl _) (by omega) (ec.k56 (by omega) rfl) h1
    · obtain ⟨mid, a1, a2, a3, a4, a5⟩ := ec.k7m h rfl
      have ra := a3.rng
      exact Or.inr (Or.inr (Or.inr (Or.inr (Or.inl ⟨h, sub (Int.le_refl _) a1 a3 h1, m, RwI.fr (lo0 := lo) (hi := hi) (Q := fun l h x => EcV ta c na ma0 d l h x ∧ x.toInt ≠ n.toInt ∧ MkD ta c ma0 x.toNatClampNeg) (P := fun e => HgB na ma0 ma L d e (b - 1)) (P' := fun e => HgB na ma0 ma' L d e (b - 1)) (fun l h x q1 q2 q3 q4 => sub q1 q2 q3.1 q4) (show lo ≤ mid by omega) a5 h2⟩))))
    · obtain ⟨m1, m2, a1, a2, a3, a4, a5⟩ := ec.k8 h rfl rfl rfl
      have r3 := a3.rng; have r4 := a4.rng; have r5 := a5.rng
      exact Or.inr (Or.inr (Or.inr (Or.inr (Or.inr (Or.inl ⟨h, sub (Int.le_refl _) (by omega) a3 h1, sub (by omega) (by omega) a4 h2, sub (by omega) (by omega) a5 h3⟩)))))
    · obtain ⟨m1, a1, a2, a3⟩ := ec.k9 h rfl rfl
      have r2 := a2.rng; have r3 := a3.rng
      exact Or.inr (Or.inr (Or.inr (Or.inr (Or.inr (Or.inr (Or.inl ⟨h, h1, sub (by omega) (by omega) a3 h2⟩))))))
    · obtain ⟨m1, a1, a2, a3⟩ := ec.k9 h rfl rfl
      have r2 := a2.rng; have r3 := a3.rng
      exact Or.inr (Or.inr (Or.inr (Or.inr (Or.inr (Or.inr (Or.inr ⟨h, h1, sub (by omega) (by omega) a3 h2, sub (by omega) (by omega) (a2.k4d h1 rfl) h3⟩))))))
theorem RwI.frv {Q : Int → Int → Int → Int32 → Prop} {P P' : Int32 → Prop} {lo0 hi : Int} (hP : ∀ l h v x, lo0 ≤ l → h ≤ hi → Q l h v x → P x → P' x) : ∀ {m : Nat} {lo w : Int} {e : Int32}, lo0 ≤ lo → RvE na Q lo hi w e → RwI na P m e → RwI na P' m e
  | 0, _, _, _, _, _, h => h
  | m + 1, lo, w, e, hl, r, h => by
    rcases h with h | ⟨h1, h2⟩
    · exact Or.inl h
    · by_cases h0 : e.toInt < 0
      · exact Or.inl h0
      · obtain ⟨mid, wa, a1, a2, a0, a3, a4, a5⟩ := r.step (by omega)
        exact Or.inr ⟨hP lo mid wa e hl a2 a3 h1, RwI.frv hP (by omega) a5 h2⟩
theorem HsB.fr : ∀ {d : Nat} {n : Int32} {lo hi w b : Int}, ScV ta c na ma0 d lo hi w n → HsB na ma0 ma L d n b → (∀ x : Nat, lo ≤ (x : Int) → (x : Int) < hi → ma' 18 x = ma 18 x) → HsB na ma0 ma' L d n b
  | 0, _, _, _, _, _, _, h, _ => h.elim
  | d + 1, n, lo, hi, w, b, sc, h, hf => by
    have r := sc.rng
    have sub : ∀ {l h v : Int} {x : Int32} {b' : Int}, lo ≤ l → h ≤ hi → ScV ta c na ma0 d l h v x → HsB na ma0 ma L d x b' → HsB na ma0 ma' L d x b' := fun q1 q2 q3 q4 => HsB.fr q3 q4 (fun x a1 a2 => hf x (by omega) (by omega))
    have sue : ∀ {l h v : Int} {x : Int32} {b' : Int}, lo ≤ l → h ≤ hi → ErV ta c na ma0 d l h v x → HgB na ma0 ma L d x b' → HgB na ma0 ma' L d x b' := fun q1 q2 q3 q4 => HgB.fr q3.ec.1 q4 (fun x a1 a2 => hf x (by omega) (by omega))
    have suo : ∀ {l h v : Int} {x : Int32} {b' : Int}, lo ≤ l → h ≤ hi → OcV (ErV ta c na ma0 d) l h v x → HgO na ma0 ma L d x b' → HgO na ma0 ma' L d x b' := fun {l h v x b'} q1 q2 q3 q4 => by
      rcases q4 with q4 | q4
      · exact Or.inl q4
      · by_cases q : x.toInt < 0
        · exact Or.inl q
        · exact Or.inr (sue q1 q2 (q3.get (by omega)) q4)
    rcases h with h | ⟨h, m, h1⟩ | ⟨h, h1⟩ | ⟨h, m, h1⟩ | ⟨h, h1, h2, h3⟩ | ⟨h, h1, h2, h3, h4⟩ | ⟨h, h1, m, h2⟩
    · exact Or.inl h
    · exact Or.inr (Or.inl ⟨h, m, RwI.frv (lo0 := lo) (hi := hi) (Q := fun l h v x => ScV ta c na ma0 d l h v x) (P := fun e => HsB na ma0 ma L d e b) (P' := fun e => HsB na ma0 ma' L d e b) (fun l h v x q1 q2 q3 q4 => sub q1 q2 q3 q4) (show lo ≤ n.toInt + 1 by omega) (sc.s20 h rfl) h1⟩)
    · exact Or.inr (Or.inr (Or.inl ⟨h, suo (by omega) (Int.le_refl _) (sc.s223 h) h1⟩))
    · refine Or.inr (Or.inr (Or.inr (Or.inl ⟨h, m, RwI.frv (lo0 := lo) (hi := hi) (Q := fun l h v x => VcV ta c na ma0 d l h v x) (P := HvB na ma0 ma L d b) (P' := HvB na ma0 ma' L d b) (fun l h v x q1 q2 q3 q4 => ?_) (show lo ≤ n.toInt + 1 by omega) (sc.s23 h rfl).2 h1⟩)))
      intro e
      have hr := q3.rng
      rcases q4 e with q | q
      · exact Or.inl q
      · by_cases k : (na 17 x.toNatClampNeg).toInt < 0
        · exact Or.inr (sue (by omega) q2 (q3.v11 k e rfl) q)
        · exact Or.inl (by omega)
    · obtain ⟨l1, h1', w1, l2, h2', w2, l3, w3, a0, a1, a2, a3, a4⟩ := sc.s246 h
      refine Or.inr (Or.inr (Or.inr (Or.inr (Or.inl ⟨h, suo (by omega) a0.2.1 (Or.inr a1) h1, sub (by omega) a0.2.2.2.1 a2 h2, ?_⟩))))
      rcases h3 with h3 | h3
      · exact Or.inl h3
      · by_cases q : (ma0 19 n.toNatClampNeg).toInt < 0
        · exact Or.inl q
        · exact Or.inr (sub (by omega) (Int.le_refl _) (a3.get (by omega)) h3)
    · obtain ⟨m1, m2, m3, w1, w2, w3, w4, a1, a2, a3, a4, b1, b2, b3, b4, b5, -⟩ := sc.s27 h rfl rfl rfl rfl
      refine Or.inr (Or.inr (Or.inr (Or.inr (Or.inr (Or.inl ⟨h, ?_, suo (by omega) (by omega) b2 h2, suo (by omega) (by omega) b3 h3, sub (by omega) (Int.le_refl _) b4 h4⟩)))))
      rcases h1 with h1 | h1
      · exact Or.inl h1
      · by_cases q : (na 17 n.toNatClampNeg).toInt < 0
        · exact Or.inl q
        · exact Or.inr (sub (by omega) (by omega) (b1.get (by omega)) h1)
    · obtain ⟨m1, w1, w2, a1, a2, a3, a4, -⟩ := sc.s28 h rfl rfl
      exact Or.inr (Or.inr (Or.inr (Or.inr (Or.inr (Or.inr ⟨h, suo (by omega) a2 (Or.inr a3) h1, m, RwI.frv (lo0 := lo) (hi := hi) (Q := fun l h v x => ScV ta c na ma0 d l h v x) (P := fun e => HsB na ma0 ma L d e b) (P' := fun e => HsB na ma0 ma' L d e b) (fun l h v x q1 q2 q3 q4 => sub q1 q2 q3 q4) (show lo ≤ m1 by omega) a4 h2⟩)))))
end HF
/-! THE TEXT: all its pieces -/
section TX
variable {ta ca ca' na ma0 ma ma' : Nat → Nat → Int32} {c kn ns ns' nf lo hi w a b : Int} {d f f0 : Nat}
theorem CaF.sp (h : CaF ca ca' kn ns f0) : ∃ c2 : Nat → Nat → Int32, CaG ca c2 kn ns ∧ AgK c2 ca' := by
  refine ⟨fun k x => if k = 40 ∨ k = 56 then ca k x else ca' k x, ⟨fun x => ⟨(h.1 x).1, rfl, rfl⟩, fun x hx => h.2.1 x hx, fun x hx => h.2.2 x hx⟩, fun k x h1 h2 => ?_⟩
  show ca' k x = if k = 40 ∨ k = 56 then ca k x else ca' k x
  rw [if_neg (fun q => q.elim h1 h2)]
theorem CaF.rf : CaF ca ca kn ns f0 := ⟨fun _ => ⟨rfl, fun _ => ⟨rfl, rfl⟩⟩, fun _ _ => ⟨rfl, rfl, rfl, rfl⟩, fun _ _ => ⟨rfl, rfl, rfl, rfl⟩⟩
theorem HsW.fr {z : Int32} {L : Int → Nat → Int} {w b' : Int} (r : RvE na (fun l h v x => ScV ta c na ma0 d l h v x) lo hi w z) (h : HsW na ma0 ma L d z b') (hf : ∀ x : Nat, lo ≤ (x : Int) → (x : Int) < hi → ma' 18 x = ma 18 x) : HsW na ma0 ma' L d z b' := h.elim fun m g => ⟨m, RwI.frv (lo0 := lo) (hi := hi) (Q := fun l h v x => ScV ta c na ma0 d l h v x) (P := fun e => HsB na ma0 ma L d e b') (P' := fun e => HsB na ma0 ma' L d e b') (fun l h v x q1 q2 q3 q4 => HsB.fr q3 q4 (fun y a1 a2 => hf y (by omega) (by omega))) (Int.le_refl _) r g⟩
/-- a checked function stays checked while other pieces are -/
theorem FnR.tr (h : FnR ta ca na ma0 ma nf ns lo hi d f) (hu : FuV ta c na ma0 d lo hi w (ca 39 f)) (F : FrC a b ma ma') (hd : hi ≤ a ∨ b ≤ lo) (g : CaF ca ca' kn ns f0) (hne : f ≠ f0) (hn : ns ≤ ns') : FnR ta ca' na ma0 ma' nf ns' lo hi d f := by
  obtain ⟨c2, g1, g2⟩ := g.sp
  obtain ⟨ys, ye, m1, tall, ⟨h1, h2, h3⟩, h4, h5, ⟨kp, h6, h7⟩, ⟨kk, h8, h9⟩, h10⟩ := h
  obtain ⟨u1, u2, u3, u4, u5, m1', wp, wb, u6, u7, u8, u9, -⟩ := hu
  have rb := u9.rng
  obtain ⟨e1, e2⟩ := g.1 f
  obtain ⟨e3, e4⟩ := e2 hne
  refine ⟨ys, ye, m1, tall, ⟨h1, h2, by omega⟩, ?_, by rw [e3, e4]; exact h5, ⟨kp, h6, ?_⟩, ⟨kk, h8, ?_⟩, ?_⟩
  · rw [e4]; exact g2.sr (h4.cg g1 h3)
  · rw [e1]; exact g2.ps (h7.tr F (by omega) g1 h3 (Int.le_refl _))
  · rw [e1]; exact ((h9.fr F (by omega)).g (gml_ca g1 h3 (Int.le_refl _))).g g2.gm
  · have et : tkl na ma0 ca' = tkl na ma0 ca := by
      funext code k
      unfold tkl
      rw [(g.1 _).1]
    rw [e1, et]
    exact HsW.fr (u9.s20 u8 rfl) h10 (fun x a1 a2 => F x (by omega) 18)
/-- a declaration of the text that is checked -/
def PcD (ta ca na ma0 ma : Nat → Nat → Int32) (nf ns lo hi : Int) (n : Nat) : Prop := ∃ k : Int32, k.toInt < 0 ∧ TyR (Gk ta ca na ma0 ns 5000 nf) na ma lo hi (na 17 n) k 6
theorem PcD.tr {n : Nat} (h : PcD ta ca na ma0 ma nf ns lo hi n) (F : FrC a b ma ma') (hd : hi ≤ a ∨ b ≤ lo) (g : CaF ca ca' kn ns f0) (hn : ns ≤ ns') : PcD ta ca' na ma0 ma' nf ns' lo hi n := by
  obtain ⟨c2, g1, g2⟩ := g.sp
  obtain ⟨k, h1, h2⟩ := h
  exact ⟨k, h1, ((h2.fr F hd).g (gml_ca g1 (Int.le_refl _) hn)).g g2.gm⟩
/-- the functions that are checked, the declarations that are -/
def FnA (ta ca na ma0 ma : Nat → Nat → Int32) (c nf ns : Int) (d : Nat) (mid n : Int) : Prop := ∀ f : Nat, (f : Int) < n → (∃ lo hi w : Int, (0 ≤ lo ∧ hi ≤ mid) ∧ FuV ta c na ma0 d lo hi w (ca 39 f) ∧ FnR ta ca na ma0 ma nf ns lo hi d f) ∧ ∀ j : Nat, j < f → ¬ SameN ta (na 15 (ca 39 j).toNatClampNeg) (na 15 (ca 39 f).toNatClampNeg)
def PcP (ta ca na ma0 ma : Nat → Nat → Int32) (nf ns mid : Int) (n : Nat) : Prop := (na 14 n).toInt = 23 → ∃ lo hi : Int, (0 ≤ lo ∧ hi ≤ mid) ∧ PcD ta ca na ma0 ma nf ns lo hi n
def PcR (ta ca na ma0 ma : Nat → Nat → Int32) (nf ns mid : Int) (z k : Int32) : Prop := ∃ m, SgV na (PcP ta ca na ma0 ma nf ns mid) m z k
def ZFa (cf : Nat → Int32) (ta ca na ma0 ma : Nat → Nat → Int32) (c nf ns : Int) (d : Nat) (mid n : Int) : Prop := Zr cf (FnA ta ca na ma0 ma c nf ns d mid n)
def ZPc (cf : Nat → Int32) (ta ca na ma0 ma : Nat → Nat → Int32) (nf ns mid : Int) (z k : Int32) : Prop := Zr cf (PcR ta ca na ma0 ma nf ns mid z k)
theorem FnA.tr {mid mid' n : Int} (h : FnA ta ca na ma0 ma c nf ns d mid n) (F : FrC a b ma ma') (hd : mid ≤ a) (g : CaF ca ca' kn ns f0) (hf : n ≤ (f0 : Int)) (hn : ns ≤ ns') (hm : mid ≤ mid') : FnA ta ca' na ma0 ma' c nf ns' d mid' n := fun f q => by
  obtain ⟨⟨lo, hi, w, h1, h2, h3⟩, h4⟩ := h f q
  refine ⟨⟨lo, hi, w, by omega, by rw [(g.1 f).1]; exact h2, h3.tr h2 F (by omega) g (by omega) hn⟩, fun j hj => ?_⟩
  rw [(g.1 f).1, (g.1 j).1]; exact h4 j hj
theorem PcR.tr {mid mid' : Int} {z k : Int32} (h : PcR ta ca na ma0 ma nf ns mid z k) (F : FrC a b ma ma') (hd : mid ≤ a) (g : CaF ca ca' kn ns f0) (hn : ns ≤ ns') (hm : mid ≤ mid') : PcR ta ca' na ma0 ma' nf ns' mid' z k := h.elim fun m r => ⟨m, r.mono (fun x p q => by
  obtain ⟨lo, hi, h1, h2⟩ := p q
  exact ⟨lo, hi, by omega, h2.tr F (by omega) g hn⟩)⟩
/-- one function more -/
theorem FnA.nx {mid n n' : Int} {fn : Int32} (h : FnA ta ca na ma0 ma c nf ns d mid n) (e : fn.toInt = n) (h0 : 0 ≤ n) (en : n' = n + 1) (hb : 0 ≤ lo ∧ hi ≤ mid) (hu : FuV ta c na ma0 d lo hi w (ca 39 fn.toNatClampNeg)) (q : FnR ta ca na ma0 ma nf ns lo hi d fn.toNatClampNeg) (u : ∀ j : Nat, (j : Int) < fn.toInt → ¬ SameN ta (na 15 (ca 39 j).toNatClampNeg) (na 15 (ca 39 fn.toNatClampNeg).toNatClampNeg)) : FnA ta ca na ma0 ma c nf ns d mid n' := fun f hf => by
  have hc := cl_nat (x := fn) (by first | exact oz_016f458179 hc | omega)
  by_cases k : (f : Int) < n
  · exact h f k
  · have : f = fn.toNatClampNeg := by omega
    subst this
    exact ⟨⟨lo, hi, w, hb, hu, q⟩, fun j hj => u j (by omega)⟩
end TX
/-! the pieces, and which of them are functions -/
def PcV (ta : Nat → Nat → Int32) (c : Int) (na ma : Nat → Nat → Int32) (d : Nat) (lo hi w : Int) (n : Int32) : Prop := 0 ≤ n.toInt ∧ ∃ l h w' : Nat, lo ≤ (l : Int) ∧ (h : Int) ≤ hi ∧ (w' : Int) ≤ w ∧ FG ta c na ma d n.toNatClampNeg l h w'
def RvC (ta : Nat → Nat → Int32) (c : Int) (na ma0 : Nat → Nat → Int32) (d : Nat) (lo hi w : Int) (k : Int32) : Prop := RvE na (fun l h v x => PcV ta c na ma0 d l h v x) lo hi w k
/-- from k on the functions are those from f on -/
def FqR (na ca : Nat → Nat → Int32) (nf : Int) : Nat → Int32 → Int → Prop
  | 0 => fun k f => k.toInt < 0 ∧ f = nf
  | m + 1 => fun k f => (k.toInt < 0 ∧ f = nf) ∨ (0 ≤ k.toInt ∧ (((na 14 k.toNatClampNeg).toInt = 41 ∧ (0 ≤ f ∧ f < nf) ∧ ca 39 f.toNat = k ∧ FqR na ca nf m (na 21 k.toNatClampNeg) (f + 1)) ∨ ((na 14 k.toNatClampNeg).toInt ≠ 41 ∧ FqR na ca nf m (na 21 k.toNatClampNeg) f)))
def FqE (na ca : Nat → Nat → Int32) (nf : Int) (k : Int32) (f : Int) : Prop := ∃ m, FqR na ca nf m k f
/-- so far -/
def FqS (na ca : Nat → Nat → Int32) : Nat → Int32 → Int → Int32 → Int → Prop
  | 0 => fun z f k g => z = k ∧ f = g
  | m + 1 => fun z f k g => 0 ≤ z.toInt ∧ (((na 14 z.toNatClampNeg).toInt = 41 ∧ (0 ≤ f ∧ f < g) ∧ ca 39 f.toNat = z ∧ FqS na ca m (na 21 z.toNatClampNeg) (f + 1) k g) ∨ ((na 14 z.toNatClampNeg).toInt ≠ 41 ∧ FqS na ca m (na 21 z.toNatClampNeg) f k g))
section FQ
variable {ta na ca ca' ma0 : Nat → Nat → Int32} {c nf lo hi w : Int} {d : Nat} {k z n : Int32}
theorem PcV.rng (h : PcV ta c na ma0 d lo hi w n) : (lo ≤ n.toInt ∧ n.toInt < hi ∧ 0 ≤ n.toInt) ∧ 0 ≤ w := by
  obtain ⟨h0, l, hh, v, h1, h2, h3, h4⟩ := h
  have := h4.1
  have := cl_nat h0
  omega
theorem PcV.kind (h : PcV ta c na ma0 d lo hi w n) : (na 14 n.toNatClampNeg).toInt = 23 ∨ (na 14 n.toNatClampNeg).toInt = 41 ∨ (na 14 n.toNatClampNeg).toInt = 43 := by
  obtain ⟨h0, l, hh, v, h1, h2, h3, -, h4⟩ := h
  rcases h4 with h4 | h4 | h4
  · exact Or.inl h4.1
  · exact Or.inr (Or.inl h4.1)
  · exact Or.inr (Or.inr h4.1)
theorem PcV.fu (h : PcV ta c na ma0 d lo hi w n) (k : (na 14 n.toNatClampNeg).toInt = 41) : FuV ta c na ma0 d lo hi w n := by
  obtain ⟨h0, l, hh, v, h1, h2, h3, h4⟩ := h
  exact fu_of h0 h4 k h1 h2 h3
theorem PcV.en (h : PcV ta c na ma0 d lo hi w n) (k : (na 14 n.toNatClampNeg).toInt = 43) : RvO ta c na ma0 d (n.toInt + 1) hi w (na 17 n.toNatClampNeg) := by
  obtain ⟨h0, l, hh, v, h1, h2, h3, h4⟩ := h
  exact en_of h0 h4 k h2 h3
theorem PcV.de (h : PcV ta c na ma0 d lo hi w n) (k : (na 14 n.toNatClampNeg).toInt = 23) : ScV ta c na ma0 (d + 1) lo hi w n := by
  obtain ⟨h0, l, hh, v, h1, h2, h3, -, h4⟩ := h
  rcases h4 with h4 | h4 | h4
  · exact ⟨h0, l, hh, v, h1, h2, h3, h4.2.up⟩
  · have := h4.1; omega
  · have := h4.1; omega
theorem FqE.go (h : FqE na ca nf k n.toInt) (h0 : 0 ≤ k.toInt) (e : z = na 21 k.toNatClampNeg) : ((na 14 k.toNatClampNeg).toInt = 41 → (0 ≤ n.toInt ∧ n.toInt < nf) ∧ ca 39 n.toNatClampNeg = k ∧ FqE na ca nf z (n.toInt + 1)) ∧ ((na 14 k.toNatClampNeg).toInt ≠ 41 → FqE na ca nf z n.toInt) := by
  obtain ⟨m, h⟩ := h
  cases m with
  | zero => exact absurd h.1 (by omega)
  | succ m =>
    subst e
    rcases h with h | ⟨-, h⟩
    · exact absurd h.1 (by omega)
    · rcases h with ⟨a, b, e1, f⟩ | ⟨a, b⟩
      · refine ⟨fun _ => ⟨b, ?_, m, f⟩, fun q => absurd a q⟩
        have := cl_nat (x := n) b.1
        rw [← e1, show n.toInt.toNat = n.toNatClampNeg by omega]
      · exact ⟨fun q => absurd q a, fun _ => ⟨m, b⟩⟩
theorem FqE.cf {kn ns : Int} {f0 : Nat} {f : Int} (h : FqE na ca nf k f) (g : CaF ca ca' kn ns f0) : FqE na ca' nf k f := by
  obtain ⟨m, h⟩ := h
  refine ⟨m, ?_⟩
  induction m generalizing k f with
  | zero => exact h
  | succ m ih =>
    rcases h with h | ⟨h0, h⟩
    · exact Or.inl h
    · refine Or.inr ⟨h0, ?_⟩
      rcases h with ⟨a, b, e1, q⟩ | ⟨a, b⟩
      · exact Or.inl ⟨a, b, by rw [(g.1 _).1]; exact e1, ih q⟩
      · exact Or.inr ⟨a, ih b⟩
theorem FqS.fin : ∀ {m : Nat} {z k : Int32} {f g : Int}, FqS na ca m z f k g → k.toInt < 0 → FqR na ca g m z f
  | 0, _, _, _, _, h, hk => by
    obtain ⟨rfl, rfl⟩ := h
    exact ⟨hk, rfl⟩
  | m + 1, _, _, _, _, h, hk => Or.inr ⟨h.1, h.2.imp (fun q => ⟨q.1, q.2.1, q.2.2.1, FqS.fin q.2.2.2 hk⟩) (fun q => ⟨q.1, FqS.fin q.2 hk⟩)⟩
/-- a piece that is no function; a function, whose node is written behind the others -/
theorem FqS.n0 : ∀ {m : Nat} {z k k' : Int32} {f g : Int}, FqS na ca m z f k g → 0 ≤ k.toInt → (na 14 k.toNatClampNeg).toInt ≠ 41 → k' = na 21 k.toNatClampNeg → FqS na ca (m + 1) z f k' g
  | 0, _, _, _, _, _, h, h0, h1, e => by
    obtain ⟨rfl, rfl⟩ := h
    exact ⟨h0, Or.inr ⟨h1, e.symm, rfl⟩⟩
  | m + 1, _, _, _, _, _, h, h0, h1, e => ⟨h.1, h.2.imp (fun q => ⟨q.1, q.2.1, q.2.2.1, FqS.n0 q.2.2.2 h0 h1 e⟩) (fun q => ⟨q.1, FqS.n0 q.2 h0 h1 e⟩)⟩
theorem FqS.le : ∀ {m : Nat} {z k : Int32} {f g : Int}, FqS na ca m z f k g → f ≤ g
  | 0, _, _, _, _, h => by have := h.2; omega
  | m + 1, _, _, _, _, h => by
    rcases h.2 with q | q
    · have := q.2.1; omega
    · exact FqS.le q.2
theorem FqS.n1 : ∀ {m : Nat} {z k k' : Int32} {f g : Int}, FqS na ca m z f k g → 0 ≤ f → 0 ≤ k.toInt → (na 14 k.toNatClampNeg).toInt = 41 → k' = na 21 k.toNatClampNeg → (∀ x : Nat, (x : Int) < g → ca' 39 x = ca 39 x) → ca' 39 g.toNat = k → FqS na ca' (m + 1) z f k' (g + 1)
  | 0, _, _, _, _, _, h, hf, h0, h1, e, hx, hg => by
    obtain ⟨rfl, rfl⟩ := h
    exact ⟨h0, Or.inl ⟨h1, ⟨hf, by omega⟩, hg, e.symm, rfl⟩⟩
  | m + 1, _, _, _, f, g, h, hf, h0, h1, e, hx, hg => by
    refine ⟨h.1, ?_⟩
    rcases h.2 with q | q
    · refine Or.inl ⟨q.1, by have := q.2.1; omega, ?_, FqS.n1 q.2.2.2 (by omega) h0 h1 e hx hg⟩
      rw [hx _ (by have := q.2.1; omega)]; exact q.2.2.1
    · exact Or.inr ⟨q.1, FqS.n1 q.2 hf h0 h1 e hx hg⟩
end FQ
/-! the text's own symbols -/
def TxS (ca : Nat → Nat → Int32) (ns tc : Int) : Prop := ∀ y : Nat, (y : Int) < ns → (ca 50 y).toInt = 1 → (0 ≤ (ca 51 y).toInt ∧ (ca 51 y).toInt + wdt ca y ≤ tc) ∧ (0 ≤ (ca 49 y).toInt ∧ (ca 49 y).toInt ≤ 3) ∧ (0 ≤ (ca 52 y).toInt ∧ (ca 52 y).toInt ≤ 4096) ∧ ((ca 49 y).toInt ≤ 1 → (ca 52 y).toInt = 1)
section TS9
variable {ta ca ca' na ma0 ma : Nat → Nat → Int32} {c kn n ns ns' ys tc tc' cells nf lo hi : Int} {f0 : Nat}
theorem txs_0 : TxS ca 0 0 := fun y h => absurd h (by omega)
theorem TxS.cf (h : TxS ca ns tc) (g : CaF ca ca' kn ns f0) (hs : ∀ y : Nat, ns ≤ (y : Int) → (y : Int) < ns' → (ca' 50 y).toInt ≠ 1) : TxS ca' ns' tc := fun y a b => by
  by_cases q : (y : Int) < ns
  · obtain ⟨e1, e2, e3, e4⟩ := g.2.2 y q
    have ew : wdt ca' y = wdt ca y := by unfold wdt; rw [e1, e4]
    rw [e2] at b
    rw [e1, e3, e4, ew]; exact h y q b
  · exact absurd b (hs y (by omega) a)
theorem TxS.de (h : TxS ca ns tc) (g : CaG ca ca' kn ns) (s : SyR ca' ns ns' cells 1) (s3 : Sy3 ca' ns ns') (ht : tc ≤ cells) : TxS ca' ns' cells := fun y a b => by
  by_cases q : (y : Int) < ns
  · obtain ⟨e1, e2, e3, e4⟩ := g.2.2 y q
    have ew : wdt ca' y = wdt ca y := by unfold wdt; rw [e1, e4]
    rw [e2] at b
    rw [e1, e3, e4, ew]
    obtain ⟨q1, q2⟩ := h y q b
    exact ⟨by omega, q2⟩
  · obtain ⟨⟨r1, r2, r3, r4, r5⟩, r6, -⟩ := s y (by omega) a
    exact ⟨⟨r2, r6⟩, ⟨r3.1, s3 y (by omega) a⟩, r4, r5⟩
theorem SyG.back {y : Int32} (h : SyG ca ns ys y) (s : SyR ca ys ns cells 1) : SyG ca ns 5000 y := by
  have hc := cl_nat h.1.1
  refine ⟨h.1, Or.inl ?_⟩
  rcases h.2 with q | q
  · exact q
  · exact (s _ (by omega) (by have := h.1.2; omega)).1.1
theorem KnS.back (h : KnS ca n ns ys) (s : SyR ca ys ns cells 1) : KnS ca n ns 5000 := fun i hi => by
  rcases h i hi with ⟨a, b⟩ | ⟨a, b⟩ | a
  · exact Or.inl ⟨a, b.1.back s, b.2⟩
  · exact Or.inr (Or.inl ⟨a, b.1.back s, b.2⟩)
  · exact Or.inr (Or.inr a)
theorem gml_mk2 {ta ca ca' : Nat → Nat → Int32} {ns n2 ys y2 nf : Int} {L L' : Int → Nat → Int} (hL : L' = L) (kV : ∀ y, SyV ca ns ys y → SyV ca' n2 y2 y) (kA : ∀ y, SyA ca ns ys y → SyA ca' n2 y2 y ∧ (ca' 49 y.toNatClampNeg = ca 49 y.toNatClampNeg ∧ ca' 52 y.toNatClampNeg = ca 52 y.toNatClampNeg)) : GmL (⟨ta, ca, ns, ys, nf, L⟩ : Gm) (⟨ta, ca', n2, y2, nf, L'⟩ : Gm) := ⟨⟨rfl, rfl, hL⟩, kV, kA⟩
theorem gml_back (s : SyR ca ys ns cells 1) : GmL (Gk ta ca na ma0 ns ys nf) (Gk ta ca na ma0 ns 5000 nf) := by
  have kV : ∀ y, SyV ca ns ys y → SyV ca ns 5000 y := fun y q => ⟨SyG.back q.1 s, q.2⟩
  have kA : ∀ y, SyA ca ns ys y → SyA ca ns 5000 y := fun y q => ⟨SyG.back q.1 s, q.2⟩
  have hL : tkl na ma0 ca = tkl na ma0 ca := rfl
  refine gml_mk2 hL kV (fun y q => ⟨kA y q, ?_⟩)
  exact ⟨rfl, rfl⟩
theorem pcd_mk {cf : Nat → Int32} {x : Int32} (h : ZTw cf ta ca na ma0 ns ys nf ma lo hi (na 17 x.toNatClampNeg) 6) (s : SyR ca ys ns cells 1) (z : (cf 30).toInt = 0) : PcD ta ca na ma0 ma nf ns lo hi x.toNatClampNeg := by
  obtain ⟨k, h1, h2⟩ := h z
  exact ⟨k, h1, h2.g (gml_back s)⟩
theorem PcR.nx {mid : Int} {z k k' : Int32} (h : PcR ta ca na ma0 ma nf ns mid z k) (h0 : 0 ≤ k.toInt) (q : PcP ta ca na ma0 ma nf ns mid k.toNatClampNeg) (e : k' = na 21 k.toNatClampNeg) : PcR ta ca na ma0 ma nf ns mid z k' := h.elim fun m r => ⟨m + 1, r.app h0 q e⟩
/-- the functions' nodes as they are gathered -/
theorem FnT.nx {g v : Int32} (h : FnT c na ca n) (e : ca' = va_up ca 39 (upd (ca 39) g.toNatClampNeg v)) (eg : g.toInt = n) (h0 : 0 ≤ n) (hn : n < 260) (hv : (0 ≤ v.toInt ∧ v.toInt < 2100) ∧ 0 ≤ (na 15 v.toNatClampNeg).toInt ∧ (na 15 v.toNatClampNeg).toInt < c) : FnT c na ca' (n + 1) := by
  have hc := cl_nat (x := g) (by first | exact oz_016f458179 hc | omega)
  refine ⟨by omega, fun i hi => ?_⟩
  by_cases q : (i : Int) < n
  · rw [e, va_up_s, pk_un (by omega)]; exact h.2 i q
  · have : i = g.toNatClampNeg := by omega
    subst this
    rw [e, va_up_s, pk_us]; exact hv
theorem FnP.nx {g v : Int32} (h : FnP na ca n) (e : ca' = va_up ca 39 (upd (ca 39) g.toNatClampNeg v)) (eg : g.toInt = n) (h0 : 0 ≤ n) (hv : PrW na (na 17 v.toNatClampNeg)) : FnP na ca' (n + 1) := fun i hi => by
  have hc := cl_nat (x := g) (by first | exact oz_016f458179 hc | omega)
  by_cases q : (i : Int) < n
  · rw [e, va_up_s, pk_un (by omega)]; exact h i q
  · have : i = g.toNatClampNeg := by omega
    subst this
    rw [e, va_up_s, pk_us]; exact hv
theorem prw_of : ∀ {m : Nat} {lo hi w : Int} {k : Int32}, hi ≤ 2100 → Rv na (fun l h v x => PaV ta c na ma0 l h v x) m lo hi w k → Prw na m k
  | 0, _, _, _, _, _, h => h.1
  | m + 1, _, _, _, _, hh, h => by
    rcases h with h | ⟨mid, wa, h1, h2, h3, h4, h5, h6⟩
    · exact Or.inl h.1
    · exact Or.inr ⟨by omega, h4.2.1, prw_of hh h6⟩
theorem FuV.prw {d : Nat} {w : Int} {x : Int32} (h : FuV ta c na ma0 d lo hi w x) (hh : hi ≤ 2100) : PrW na (na 17 x.toNatClampNeg) := by
  obtain ⟨u1, u2, u3, u4, u5, m1, wp, wb, u6, ⟨m, u7⟩, -⟩ := h
  exact ⟨m, prw_of (by omega) u7⟩
def FqT (na ca : Nat → Nat → Int32) (z : Int32) (k : Int32) (g : Int) : Prop := ∃ m, FqS na ca m z 0 k g
theorem fqt_0 {z k : Int32} (e : z = k) : FqT na ca z k 0 := ⟨0, e, rfl⟩
theorem FqT.n0 {z k k' : Int32} {g : Int} (h : FqT na ca z k g) (h0 : 0 ≤ k.toInt) (h1 : (na 14 k.toNatClampNeg).toInt ≠ 41) (e : k' = na 21 k.toNatClampNeg) : FqT na ca z k' g := h.elim fun m q => ⟨m + 1, q.n0 h0 h1 e⟩
theorem FqT.n1 {z k k' g v : Int32} {gi : Int} (h : FqT na ca z k g.toInt) (hg : 0 ≤ g.toInt) (h0 : 0 ≤ k.toInt) (h1 : (na 14 k.toNatClampNeg).toInt = 41) (e : k' = na 21 k.toNatClampNeg) (u : ca' = va_up ca 39 (upd (ca 39) g.toNatClampNeg k)) (eg : gi = g.toInt + 1) : FqT na ca' z k' gi := h.elim fun m q => by
  have hc := cl_nat hg
  subst eg
  refine ⟨m + 1, q.n1 (Int.le_refl _) h0 h1 e (fun x hx => ?_) ?_⟩
  · rw [u, va_up_s, pk_un (by omega)]
  · rw [u, va_up_s, show g.toInt.toNat = g.toNatClampNeg by omega, pk_us]
theorem FqT.e {z k : Int32} {g : Int} (h : FqT na ca z k g) (hk : k.toInt < 0) : FqE na ca g z 0 := h.elim fun m q => ⟨m, q.fin hk⟩
end TS9
/-- all that a checked text leaves behind -/
def TxR (ta ca na ma0 ma : Nat → Nat → Int32) (c L nf ns : Int) (sb : Nat → Int32) (d : Nat) (N : Int) (z : Int32) : Prop := FnA ta ca na ma0 ma c nf ns d N nf ∧ (∃ k : Int32, k.toInt < 0 ∧ PcR ta ca na ma0 ma nf ns N z k) ∧ ∃ f : Nat, (f : Int) < nf ∧ MnT ta L sb (na 15 (ca 39 f).toNatClampNeg) ∧ OneI na ma ca f
def ZTx (cf : Nat → Int32) (ta ca na ma0 ma : Nat → Nat → Int32) (c L nf ns : Int) (sb : Nat → Int32) (d : Nat) (N : Int) (z : Int32) : Prop := Zr cf (TxR ta ca na ma0 ma c L nf ns sb d N z)
def FqZ (na ca : Nat → Nat → Int32) (nf : Int) (z : Int32) : Prop := FqE na ca nf z 0
theorem FqE.fin {na ca : Nat → Nat → Int32} {nf f : Int} {k : Int32} (h : FqE na ca nf k f) (hk : k.toInt < 0) : f = nf := by
  obtain ⟨m, h⟩ := h
  cases m with
  | zero => exact h.2
  | succ m =>
    rcases h with h | ⟨h, -⟩
    · exact h.2
    · omega
theorem FqZ.cf {na ca ca' : Nat → Nat → Int32} {nf kn ns : Int} {z : Int32} {f0 : Nat} (h : FqZ na ca nf z) (g : CaF ca ca' kn ns f0) : FqZ na ca' nf z := FqE.cf h g
theorem FqZ.eq {na ca : Nat → Nat → Int32} {nf nf' : Int} {z : Int32} (h : FqZ na ca nf z) (e : nf = nf') : FqZ na ca nf' z := e ▸ h
theorem FqE.eq {na ca : Nat → Nat → Int32} {nf f f' : Int} {z : Int32} (h : FqE na ca nf z f) (e : f = f') : FqE na ca nf z f' := e ▸ h
theorem TxS.eq {ca : Nat → Nat → Int32} {ns tc ns' tc' : Int} (h : TxS ca ns tc) (e : ns = ns') (e2 : tc = tc') : TxS ca ns' tc' := e ▸ e2 ▸ h
theorem tx_mk {ta ca na ma0 ma : Nat → Nat → Int32} {c L nf ns ns2 N mid n nf2 : Int} {sb : Nat → Int32} {d : Nat} {z k : Int32} {v : Int} (hf : FnA ta ca na ma0 ma c nf ns d mid n) (hp : PcR ta ca na ma0 ma nf ns mid z k) (hm : HmV ta na ma ca L sb nf2 v) (hv : v = 1) (en : n = nf) (e2 : nf = nf2) (es : ns = ns2) (hk : k.toInt < 0) (hN : mid ≤ N) : TxR ta ca na ma0 ma c L nf2 ns2 sb d N z := by
  subst e2; subst es; subst en
  obtain ⟨f, q1, q2, q3⟩ := hm hv
  refine ⟨hf.tr (FrC.rf (lo := mid) (hi := mid)) (Int.le_refl _) (CaF.rf (kn := 0) (f0 := n.toNat)) (by omega) (Int.le_refl _) hN, ⟨k, hk, hp.tr (FrC.rf (lo := mid) (hi := mid)) (Int.le_refl _) (CaF.rf (kn := 0) (f0 := 0)) (Int.le_refl _) hN⟩, f, q1, q2, q3⟩
theorem TxR_eq {ta ca na ma0 ma : Nat → Nat → Int32} {c L nf ns nf' ns' : Int} {sb : Nat → Int32} {d : Nat} {N : Int} {z : Int32} (h : TxR ta ca na ma0 ma c L nf ns sb d N z) (e : nf = nf') (e2 : ns = ns') : TxR ta ca na ma0 ma c L nf' ns' sb d N z := e ▸ e2 ▸ h
theorem FqT_eq {na ca : Nat → Nat → Int32} {z k : Int32} {g g' : Int} (h : FqT na ca z k g) (e : g = g') : FqT na ca z k g' := e ▸ h
