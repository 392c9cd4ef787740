/-! THE REFERENCE's tokens: marks (laid by gent4.py) -/
/-- mark k stands at p -/
def mtM (b : Nat → Int) (p k : Nat) : Prop := ∀ q : Nat, q < mlen k → b (p + q) = (mby k q).toInt
theorem mbl {k : Nat} (h : k < 43) : mlen k ≤ 3 ∧ ∀ q : Nat, q < mlen k → 0 ≤ (mby k q).toInt ∧ (mby k q).toInt < 128 := by
  have all : ∀ k : Nat, k < 43 → mlen k ≤ 3 ∧ ∀ q : Nat, q < 3 → 0 ≤ (mby k q).toInt ∧ (mby k q).toInt < 128 := by decide
  exact ⟨(all k h).1, fun q hq => (all k h).2 q (by have := (all k h).1; omega)⟩
section TE
variable {tf tf' tf0 : Nat → Int32} {ta ta' ta0 : Nat → Nat → Int32} {b : Nat → Int} {n p i : Nat} {p0 v : Int32}
theorem mt1 {k : Nat} {x : Int} (h : mtM b p k) (hl : 0 < mlen k) (e : (mby k 0).toInt = x) : b p = x := by rw [← e]; exact h 0 hl
theorem mt2 {k : Nat} {x : Int} (h : mtM b p k) (hl : 1 < mlen k) (e : (mby k 1).toInt = x) : b (p + 1) = x := by rw [← e]; exact h 1 hl
theorem mt3 {k : Nat} {x : Int} (h : mtM b p k) (hl : 2 < mlen k) (e : (mby k 2).toInt = x) : b (p + 2) = x := by rw [← e]; exact h 2 hl
theorem mn1 {k : Nat} {x : Int} (h : ¬ mtM b p k) (hl : mlen k = 1) (e : (mby k 0).toInt = x) : ¬ b p = x := fun w => h (fun q hq => by
  have : q = 0 := by omega
  rw [this, e]; exact w)
theorem mn2 {k : Nat} {x y : Int} (h : ¬ mtM b p k) (hl : mlen k = 2) (e : (mby k 0).toInt = x) (e1 : (mby k 1).toInt = y) (hx : b p = x) : ¬ b (p + 1) = y := fun w => h (fun q hq => by
  have q2 : q = 0 ∨ q = 1 := by omega
  rcases q2 with q2 | q2
  · rw [q2, e]; exact hx
  · rw [q2, e1]; exact w)
theorem mn3 {k : Nat} {x y z : Int} (h : ¬ mtM b p k) (hl : mlen k = 3) (e : (mby k 0).toInt = x) (e1 : (mby k 1).toInt = y) (e2 : (mby k 2).toInt = z) (hx : b p = x) (hy : b (p + 1) = y) : ¬ b (p + 2) = z := fun w => h (fun q hq => by
  have q2 : q = 0 ∨ q = 1 ∨ q = 2 := by omega
  rcases q2 with q2 | q2 | q2
  · rw [q2, e]; exact hx
  · rw [q2, e1]; exact hy
  · rw [q2, e2]; exact w)
theorem mk_no (h : ∀ k : Nat, k < 43 → ¬ mtM b p k) : isMk (b p) = false := by
  have n20 := mn1 (x := 40) (h 20 (by decide)) rfl rfl
  have n21 := mn1 (x := 41) (h 21 (by decide)) rfl rfl
  have n22 := mn1 (x := 123) (h 22 (by decide)) rfl rfl
  have n23 := mn1 (x := 125) (h 23 (by decide)) rfl rfl
  have n24 := mn1 (x := 91) (h 24 (by decide)) rfl rfl
  have n25 := mn1 (x := 93) (h 25 (by decide)) rfl rfl
  have n26 := mn1 (x := 44) (h 26 (by decide)) rfl rfl
  have n27 := mn1 (x := 59) (h 27 (by decide)) rfl rfl
  have n28 := mn1 (x := 58) (h 28 (by decide)) rfl rfl
  have n29 := mn1 (x := 63) (h 29 (by decide)) rfl rfl
  have n30 := mn1 (x := 61) (h 30 (by decide)) rfl rfl
  have n31 := mn1 (x := 124) (h 31 (by decide)) rfl rfl
  have n32 := mn1 (x := 94) (h 32 (by decide)) rfl rfl
  have n33 := mn1 (x := 38) (h 33 (by decide)) rfl rfl
  have n34 := mn1 (x := 60) (h 34 (by decide)) rfl rfl
  have n35 := mn1 (x := 62) (h 35 (by decide)) rfl rfl
  have n36 := mn1 (x := 43) (h 36 (by decide)) rfl rfl
  have n37 := mn1 (x := 45) (h 37 (by decide)) rfl rfl
  have n38 := mn1 (x := 42) (h 38 (by decide)) rfl rfl
  have n39 := mn1 (x := 47) (h 39 (by decide)) rfl rfl
  have n40 := mn1 (x := 37) (h 40 (by decide)) rfl rfl
  have n41 := mn1 (x := 33) (h 41 (by decide)) rfl rfl
  have n42 := mn1 (x := 126) (h 42 (by decide)) rfl rfl
  exact decide_eq_false (by omega)
/-- the first mark that stands at p is the one that the class reads -/
theorem mk_k0 (h : mtM b p 0) (hn : ∀ j : Nat, j < 0 → ¬ mtM b p j) : mkK b p = 390 ∧ mkE b p = p + 3 ∧ isMk (b p) = true := by
  have e0 := mt1 (x := 60) h (by decide) rfl
  have e1 := mt2 (x := 60) h (by decide) rfl
  have e2 := mt3 (x := 61) h (by decide) rfl
  refine ⟨?_, ?_, ?_⟩
  · simp [mkK, mkW, mk1, mkS, mkA, dblK, weqK, e0, e1, e2]
  · simp [mkE, mkW, mk1, mkS, mkA, dblK, weqK, e0, e1, e2]
  · simp [isMk, e0]
theorem mk_k1 (h : mtM b p 1) (hn : ∀ j : Nat, j < 1 → ¬ mtM b p j) : mkK b p = 391 ∧ mkE b p = p + 3 ∧ isMk (b p) = true := by
  have e0 := mt1 (x := 62) h (by decide) rfl
  have e1 := mt2 (x := 62) h (by decide) rfl
  have e2 := mt3 (x := 61) h (by decide) rfl
  refine ⟨?_, ?_, ?_⟩
  · simp [mkK, mkW, mk1, mkS, mkA, dblK, weqK, e0, e1, e2]
  · simp [mkE, mkW, mk1, mkS, mkA, dblK, weqK, e0, e1, e2]
  · simp [isMk, e0]
theorem mk_k2 (h : mtM b p 2) (hn : ∀ j : Nat, j < 2 → ¬ mtM b p j) : mkK b p = 299 ∧ mkE b p = p + 2 ∧ isMk (b p) = true := by
  have e0 := mt1 (x := 43) h (by decide) rfl
  have e1 := mt2 (x := 61) h (by decide) rfl
  refine ⟨?_, ?_, ?_⟩
  · simp [mkK, mkW, mk1, mkS, mkA, dblK, weqK, e0, e1]
  · simp [mkE, mkW, mk1, mkS, mkA, dblK, weqK, e0, e1]
  · simp [isMk, e0]
theorem mk_k3 (h : mtM b p 3) (hn : ∀ j : Nat, j < 3 → ¬ mtM b p j) : mkK b p = 301 ∧ mkE b p = p + 2 ∧ isMk (b p) = true := by
  have e0 := mt1 (x := 45) h (by decide) rfl
  have e1 := mt2 (x := 61) h (by decide) rfl
  refine ⟨?_, ?_, ?_⟩
  · simp [mkK, mkW, mk1, mkS, mkA, dblK, weqK, e0, e1]
  · simp [mkE, mkW, mk1, mkS, mkA, dblK, weqK, e0, e1]
  · simp [isMk, e0]
theorem mk_k4 (h : mtM b p 4) (hn : ∀ j : Nat, j < 4 → ¬ mtM b p j) : mkK b p = 298 ∧ mkE b p = p + 2 ∧ isMk (b p) = true := by
  have e0 := mt1 (x := 42) h (by decide) rfl
  have e1 := mt2 (x := 61) h (by decide) rfl
  refine ⟨?_, ?_, ?_⟩
  · simp [mkK, mkW, mk1, mkS, mkA, dblK, weqK, e0, e1]
  · simp [mkE, mkW, mk1, mkS, mkA, dblK, weqK, e0, e1]
  · simp [isMk, e0]
theorem mk_k5 (h : mtM b p 5) (hn : ∀ j : Nat, j < 5 → ¬ mtM b p j) : mkK b p = 303 ∧ mkE b p = p + 2 ∧ isMk (b p) = true := by
  have e0 := mt1 (x := 47) h (by decide) rfl
  have e1 := mt2 (x := 61) h (by decide) rfl
  refine ⟨?_, ?_, ?_⟩
  · simp [mkK, mkW, mk1, mkS, mkA, dblK, weqK, e0, e1]
  · simp [mkE, mkW, mk1, mkS, mkA, dblK, weqK, e0, e1]
  · simp [isMk, e0]
theorem mk_k6 (h : mtM b p 6) (hn : ∀ j : Nat, j < 6 → ¬ mtM b p j) : mkK b p = 293 ∧ mkE b p = p + 2 ∧ isMk (b p) = true := by
  have e0 := mt1 (x := 37) h (by decide) rfl
  have e1 := mt2 (x := 61) h (by decide) rfl
  refine ⟨?_, ?_, ?_⟩
  · simp [mkK, mkW, mk1, mkS, mkA, dblK, weqK, e0, e1]
  · simp [mkE, mkW, mk1, mkS, mkA, dblK, weqK, e0, e1]
  · simp [isMk, e0]
theorem mk_k7 (h : mtM b p 7) (hn : ∀ j : Nat, j < 7 → ¬ mtM b p j) : mkK b p = 294 ∧ mkE b p = p + 2 ∧ isMk (b p) = true := by
  have e0 := mt1 (x := 38) h (by decide) rfl
  have e1 := mt2 (x := 61) h (by decide) rfl
  refine ⟨?_, ?_, ?_⟩
  · simp [mkK, mkW, mk1, mkS, mkA, dblK, weqK, e0, e1]
  · simp [mkE, mkW, mk1, mkS, mkA, dblK, weqK, e0, e1]
  · simp [isMk, e0]
theorem mk_k8 (h : mtM b p 8) (hn : ∀ j : Nat, j < 8 → ¬ mtM b p j) : mkK b p = 380 ∧ mkE b p = p + 2 ∧ isMk (b p) = true := by
  have e0 := mt1 (x := 124) h (by decide) rfl
  have e1 := mt2 (x := 61) h (by decide) rfl
  refine ⟨?_, ?_, ?_⟩
  · simp [mkK, mkW, mk1, mkS, mkA, dblK, weqK, e0, e1]
  · simp [mkE, mkW, mk1, mkS, mkA, dblK, weqK, e0, e1]
  · simp [isMk, e0]
theorem mk_k9 (h : mtM b p 9) (hn : ∀ j : Nat, j < 9 → ¬ mtM b p j) : mkK b p = 350 ∧ mkE b p = p + 2 ∧ isMk (b p) = true := by
  have e0 := mt1 (x := 94) h (by decide) rfl
  have e1 := mt2 (x := 61) h (by decide) rfl
  refine ⟨?_, ?_, ?_⟩
  · simp [mkK, mkW, mk1, mkS, mkA, dblK, weqK, e0, e1]
  · simp [mkE, mkW, mk1, mkS, mkA, dblK, weqK, e0, e1]
  · simp [isMk, e0]
theorem mk_k10 (h : mtM b p 10) (hn : ∀ j : Nat, j < 10 → ¬ mtM b p j) : mkK b p = 137 ∧ mkE b p = p + 2 ∧ isMk (b p) = true := by
  have e0 := mt1 (x := 124) h (by decide) rfl
  have e1 := mt2 (x := 124) h (by decide) rfl
  refine ⟨?_, ?_, ?_⟩
  · simp [mkK, mkW, mk1, mkS, mkA, dblK, weqK, e0, e1]
  · simp [mkE, mkW, mk1, mkS, mkA, dblK, weqK, e0, e1]
  · simp [isMk, e0]
theorem mk_k11 (h : mtM b p 11) (hn : ∀ j : Nat, j < 11 → ¬ mtM b p j) : mkK b p = 136 ∧ mkE b p = p + 2 ∧ isMk (b p) = true := by
  have e0 := mt1 (x := 38) h (by decide) rfl
  have e1 := mt2 (x := 38) h (by decide) rfl
  refine ⟨?_, ?_, ?_⟩
  · simp [mkK, mkW, mk1, mkS, mkA, dblK, weqK, e0, e1]
  · simp [mkE, mkW, mk1, mkS, mkA, dblK, weqK, e0, e1]
  · simp [isMk, e0]
theorem mk_k12 (h : mtM b p 12) (hn : ∀ j : Nat, j < 12 → ¬ mtM b p j) : mkK b p = 130 ∧ mkE b p = p + 2 ∧ isMk (b p) = true := by
  have e0 := mt1 (x := 61) h (by decide) rfl
  have e1 := mt2 (x := 61) h (by decide) rfl
  refine ⟨?_, ?_, ?_⟩
  · simp [mkK, mkW, mk1, mkS, mkA, dblK, weqK, e0, e1]
  · simp [mkE, mkW, mk1, mkS, mkA, dblK, weqK, e0, e1]
  · simp [isMk, e0]
theorem mk_k13 (h : mtM b p 13) (hn : ∀ j : Nat, j < 13 → ¬ mtM b p j) : mkK b p = 131 ∧ mkE b p = p + 2 ∧ isMk (b p) = true := by
  have e0 := mt1 (x := 33) h (by decide) rfl
  have e1 := mt2 (x := 61) h (by decide) rfl
  refine ⟨?_, ?_, ?_⟩
  · simp [mkK, mkW, mk1, mkS, mkA, dblK, weqK, e0, e1]
  · simp [mkE, mkW, mk1, mkS, mkA, dblK, weqK, e0, e1]
  · simp [isMk, e0]
theorem mk_k14 (h : mtM b p 14) (hn : ∀ j : Nat, j < 14 → ¬ mtM b p j) : mkK b p = 132 ∧ mkE b p = p + 2 ∧ isMk (b p) = true := by
  have e0 := mt1 (x := 60) h (by decide) rfl
  have e1 := mt2 (x := 61) h (by decide) rfl
  refine ⟨?_, ?_, ?_⟩
  · simp [mkK, mkW, mk1, mkS, mkA, dblK, weqK, e0, e1]
  · simp [mkE, mkW, mk1, mkS, mkA, dblK, weqK, e0, e1]
  · simp [isMk, e0]
theorem mk_k15 (h : mtM b p 15) (hn : ∀ j : Nat, j < 15 → ¬ mtM b p j) : mkK b p = 133 ∧ mkE b p = p + 2 ∧ isMk (b p) = true := by
  have e0 := mt1 (x := 62) h (by decide) rfl
  have e1 := mt2 (x := 61) h (by decide) rfl
  refine ⟨?_, ?_, ?_⟩
  · simp [mkK, mkW, mk1, mkS, mkA, dblK, weqK, e0, e1]
  · simp [mkE, mkW, mk1, mkS, mkA, dblK, weqK, e0, e1]
  · simp [isMk, e0]
theorem mk_k16 (h : mtM b p 16) (hn : ∀ j : Nat, j < 16 → ¬ mtM b p j) : mkK b p = 134 ∧ mkE b p = p + 2 ∧ isMk (b p) = true := by
  have e0 := mt1 (x := 60) h (by decide) rfl
  have e1 := mt2 (x := 60) h (by decide) rfl
  have n0 := mn3 (x := 60) (y := 60) (z := 61) (hn 0 (by decide)) rfl rfl rfl rfl e0 e1
  refine ⟨?_, ?_, ?_⟩
  · simp [mkK, mkW, mk1, mkS, mkA, dblK, weqK, e0, e1, n0]
  · simp [mkE, mkW, mk1, mkS, mkA, dblK, weqK, e0, e1, n0]
  · simp [isMk, e0]
theorem mk_k17 (h : mtM b p 17) (hn : ∀ j : Nat, j < 17 → ¬ mtM b p j) : mkK b p = 135 ∧ mkE b p = p + 2 ∧ isMk (b p) = true := by
  have e0 := mt1 (x := 62) h (by decide) rfl
  have e1 := mt2 (x := 62) h (by decide) rfl
  have n1 := mn3 (x := 62) (y := 62) (z := 61) (hn 1 (by decide)) rfl rfl rfl rfl e0 e1
  refine ⟨?_, ?_, ?_⟩
  · simp [mkK, mkW, mk1, mkS, mkA, dblK, weqK, e0, e1, n1]
  · simp [mkE, mkW, mk1, mkS, mkA, dblK, weqK, e0, e1, n1]
  · simp [isMk, e0]
theorem mk_k18 (h : mtM b p 18) (hn : ∀ j : Nat, j < 18 → ¬ mtM b p j) : mkK b p = 138 ∧ mkE b p = p + 2 ∧ isMk (b p) = true := by
  have e0 := mt1 (x := 43) h (by decide) rfl
  have e1 := mt2 (x := 43) h (by decide) rfl
  refine ⟨?_, ?_, ?_⟩
  · simp [mkK, mkW, mk1, mkS, mkA, dblK, weqK, e0, e1]
  · simp [mkE, mkW, mk1, mkS, mkA, dblK, weqK, e0, e1]
  · simp [isMk, e0]
theorem mk_k19 (h : mtM b p 19) (hn : ∀ j : Nat, j < 19 → ¬ mtM b p j) : mkK b p = 139 ∧ mkE b p = p + 2 ∧ isMk (b p) = true := by
  have e0 := mt1 (x := 45) h (by decide) rfl
  have e1 := mt2 (x := 45) h (by decide) rfl
  refine ⟨?_, ?_, ?_⟩
  · simp [mkK, mkW, mk1, mkS, mkA, dblK, weqK, e0, e1]
  · simp [mkE, mkW, mk1, mkS, mkA, dblK, weqK, e0, e1]
  · simp [isMk, e0]
theorem mk_k20 (h : mtM b p 20) (hn : ∀ j : Nat, j < 20 → ¬ mtM b p j) : mkK b p = 40 ∧ mkE b p = p + 1 ∧ isMk (b p) = true := by
  have e0 := mt1 (x := 40) h (by decide) rfl
  refine ⟨?_, ?_, ?_⟩
  · simp [mkK, mkW, mk1, mkS, mkA, dblK, weqK, e0]
  · simp [mkE, mkW, mk1, mkS, mkA, dblK, weqK, e0]
  · simp [isMk, e0]
theorem mk_k21 (h : mtM b p 21) (hn : ∀ j : Nat, j < 21 → ¬ mtM b p j) : mkK b p = 41 ∧ mkE b p = p + 1 ∧ isMk (b p) = true := by
  have e0 := mt1 (x := 41) h (by decide) rfl
  refine ⟨?_, ?_, ?_⟩
  · simp [mkK, mkW, mk1, mkS, mkA, dblK, weqK, e0]
  · simp [mkE, mkW, mk1, mkS, mkA, dblK, weqK, e0]
  · simp [isMk, e0]
theorem mk_k22 (h : mtM b p 22) (hn : ∀ j : Nat, j < 22 → ¬ mtM b p j) : mkK b p = 123 ∧ mkE b p = p + 1 ∧ isMk (b p) = true := by
  have e0 := mt1 (x := 123) h (by decide) rfl
  refine ⟨?_, ?_, ?_⟩
  · simp [mkK, mkW, mk1, mkS, mkA, dblK, weqK, e0]
  · simp [mkE, mkW, mk1, mkS, mkA, dblK, weqK, e0]
  · simp [isMk, e0]
theorem mk_k23 (h : mtM b p 23) (hn : ∀ j : Nat, j < 23 → ¬ mtM b p j) : mkK b p = 125 ∧ mkE b p = p + 1 ∧ isMk (b p) = true := by
  have e0 := mt1 (x := 125) h (by decide) rfl
  refine ⟨?_, ?_, ?_⟩
  · simp [mkK, mkW, mk1, mkS, mkA, dblK, weqK, e0]
  · simp [mkE, mkW, mk1, mkS, mkA, dblK, weqK, e0]
  · simp [isMk, e0]
theorem mk_k24 (h : mtM b p 24) (hn : ∀ j : Nat, j < 24 → ¬ mtM b p j) : mkK b p = 91 ∧ mkE b p = p + 1 ∧ isMk (b p) = true := by
  have e0 := mt1 (x := 91) h (by decide) rfl
  refine ⟨?_, ?_, ?_⟩
  · simp [mkK, mkW, mk1, mkS, mkA, dblK, weqK, e0]
  · simp [mkE, mkW, mk1, mkS, mkA, dblK, weqK, e0]
  · simp [isMk, e0]
theorem mk_k25 (h : mtM b p 25) (hn : ∀ j : Nat, j < 25 → ¬ mtM b p j) : mkK b p = 93 ∧ mkE b p = p + 1 ∧ isMk (b p) = true := by
  have e0 := mt1 (x := 93) h (by decide) rfl
  refine ⟨?_, ?_, ?_⟩
  · simp [mkK, mkW, mk1, mkS, mkA, dblK, weqK, e0]
  · simp [mkE, mkW, mk1, mkS, mkA, dblK, weqK, e0]
  · simp [isMk, e0]
theorem mk_k26 (h : mtM b p 26) (hn : ∀ j : Nat, j < 26 → ¬ mtM b p j) : mkK b p = 44 ∧ mkE b p = p + 1 ∧ isMk (b p) = true := by
  have e0 := mt1 (x := 44) h (by decide) rfl
  refine ⟨?_, ?_, ?_⟩
  · simp [mkK, mkW, mk1, mkS, mkA, dblK, weqK, e0]
  · simp [mkE, mkW, mk1, mkS, mkA, dblK, weqK, e0]
  · simp [isMk, e0]
theorem mk_k27 (h : mtM b p 27) (hn : ∀ j : Nat, j < 27 → ¬ mtM b p j) : mkK b p = 59 ∧ mkE b p = p + 1 ∧ isMk (b p) = true := by
  have e0 := mt1 (x := 59) h (by decide) rfl
  refine ⟨?_, ?_, ?_⟩
  · simp [mkK, mkW, mk1, mkS, mkA, dblK, weqK, e0]
  · simp [mkE, mkW, mk1, mkS, mkA, dblK, weqK, e0]
  · simp [isMk, e0]
theorem mk_k28 (h : mtM b p 28) (hn : ∀ j : Nat, j < 28 → ¬ mtM b p j) : mkK b p = 58 ∧ mkE b p = p + 1 ∧ isMk (b p) = true := by
  have e0 := mt1 (x := 58) h (by decide) rfl
  refine ⟨?_, ?_, ?_⟩
  · simp [mkK, mkW, mk1, mkS, mkA, dblK, weqK, e0]
  · simp [mkE, mkW, mk1, mkS, mkA, dblK, weqK, e0]
  · simp [isMk, e0]
theorem mk_k29 (h : mtM b p 29) (hn : ∀ j : Nat, j < 29 → ¬ mtM b p j) : mkK b p = 63 ∧ mkE b p = p + 1 ∧ isMk (b p) = true := by
  have e0 := mt1 (x := 63) h (by decide) rfl
  refine ⟨?_, ?_, ?_⟩
  · simp [mkK, mkW, mk1, mkS, mkA, dblK, weqK, e0]
  · simp [mkE, mkW, mk1, mkS, mkA, dblK, weqK, e0]
  · simp [isMk, e0]
theorem mk_k30 (h : mtM b p 30) (hn : ∀ j : Nat, j < 30 → ¬ mtM b p j) : mkK b p = 256 ∧ mkE b p = p + 1 ∧ isMk (b p) = true := by
  have e0 := mt1 (x := 61) h (by decide) rfl
  have n12 := mn2 (x := 61) (y := 61) (hn 12 (by decide)) rfl rfl rfl e0
  refine ⟨?_, ?_, ?_⟩
  · simp [mkK, mkW, mk1, mkS, mkA, dblK, weqK, e0, n12]
  · simp [mkE, mkW, mk1, mkS, mkA, dblK, weqK, e0, n12]
  · simp [isMk, e0]
theorem mk_k31 (h : mtM b p 31) (hn : ∀ j : Nat, j < 31 → ¬ mtM b p j) : mkK b p = 124 ∧ mkE b p = p + 1 ∧ isMk (b p) = true := by
  have e0 := mt1 (x := 124) h (by decide) rfl
  have n8 := mn2 (x := 124) (y := 61) (hn 8 (by decide)) rfl rfl rfl e0
  have n10 := mn2 (x := 124) (y := 124) (hn 10 (by decide)) rfl rfl rfl e0
  refine ⟨?_, ?_, ?_⟩
  · simp [mkK, mkW, mk1, mkS, mkA, dblK, weqK, e0, n8, n10]
  · simp [mkE, mkW, mk1, mkS, mkA, dblK, weqK, e0, n8, n10]
  · simp [isMk, e0]
theorem mk_k32 (h : mtM b p 32) (hn : ∀ j : Nat, j < 32 → ¬ mtM b p j) : mkK b p = 94 ∧ mkE b p = p + 1 ∧ isMk (b p) = true := by
  have e0 := mt1 (x := 94) h (by decide) rfl
  have n9 := mn2 (x := 94) (y := 61) (hn 9 (by decide)) rfl rfl rfl e0
  refine ⟨?_, ?_, ?_⟩
  · simp [mkK, mkW, mk1, mkS, mkA, dblK, weqK, e0, n9]
  · simp [mkE, mkW, mk1, mkS, mkA, dblK, weqK, e0, n9]
  · simp [isMk, e0]
theorem mk_k33 (h : mtM b p 33) (hn : ∀ j : Nat, j < 33 → ¬ mtM b p j) : mkK b p = 38 ∧ mkE b p = p + 1 ∧ isMk (b p) = true := by
  have e0 := mt1 (x := 38) h (by decide) rfl
  have n7 := mn2 (x := 38) (y := 61) (hn 7 (by decide)) rfl rfl rfl e0
  have n11 := mn2 (x := 38) (y := 38) (hn 11 (by decide)) rfl rfl rfl e0
  refine ⟨?_, ?_, ?_⟩
  · simp [mkK, mkW, mk1, mkS, mkA, dblK, weqK, e0, n7, n11]
  · simp [mkE, mkW, mk1, mkS, mkA, dblK, weqK, e0, n7, n11]
  · simp [isMk, e0]
theorem mk_k34 (h : mtM b p 34) (hn : ∀ j : Nat, j < 34 → ¬ mtM b p j) : mkK b p = 60 ∧ mkE b p = p + 1 ∧ isMk (b p) = true := by
  have e0 := mt1 (x := 60) h (by decide) rfl
  have n14 := mn2 (x := 60) (y := 61) (hn 14 (by decide)) rfl rfl rfl e0
  have n16 := mn2 (x := 60) (y := 60) (hn 16 (by decide)) rfl rfl rfl e0
  refine ⟨?_, ?_, ?_⟩
  · simp [mkK, mkW, mk1, mkS, mkA, dblK, weqK, e0, n14, n16]
  · simp [mkE, mkW, mk1, mkS, mkA, dblK, weqK, e0, n14, n16]
  · simp [isMk, e0]
theorem mk_k35 (h : mtM b p 35) (hn : ∀ j : Nat, j < 35 → ¬ mtM b p j) : mkK b p = 62 ∧ mkE b p = p + 1 ∧ isMk (b p) = true := by
  have e0 := mt1 (x := 62) h (by decide) rfl
  have n15 := mn2 (x := 62) (y := 61) (hn 15 (by decide)) rfl rfl rfl e0
  have n17 := mn2 (x := 62) (y := 62) (hn 17 (by decide)) rfl rfl rfl e0
  refine ⟨?_, ?_, ?_⟩
  · simp [mkK, mkW, mk1, mkS, mkA, dblK, weqK, e0, n15, n17]
  · simp [mkE, mkW, mk1, mkS, mkA, dblK, weqK, e0, n15, n17]
  · simp [isMk, e0]
theorem mk_k36 (h : mtM b p 36) (hn : ∀ j : Nat, j < 36 → ¬ mtM b p j) : mkK b p = 43 ∧ mkE b p = p + 1 ∧ isMk (b p) = true := by
  have e0 := mt1 (x := 43) h (by decide) rfl
  have n2 := mn2 (x := 43) (y := 61) (hn 2 (by decide)) rfl rfl rfl e0
  have n18 := mn2 (x := 43) (y := 43) (hn 18 (by decide)) rfl rfl rfl e0
  refine ⟨?_, ?_, ?_⟩
  · simp [mkK, mkW, mk1, mkS, mkA, dblK, weqK, e0, n2, n18]
  · simp [mkE, mkW, mk1, mkS, mkA, dblK, weqK, e0, n2, n18]
  · simp [isMk, e0]
theorem mk_k37 (h : mtM b p 37) (hn : ∀ j : Nat, j < 37 → ¬ mtM b p j) : mkK b p = 45 ∧ mkE b p = p + 1 ∧ isMk (b p) = true := by
  have e0 := mt1 (x := 45) h (by decide) rfl
  have n3 := mn2 (x := 45) (y := 61) (hn 3 (by decide)) rfl rfl rfl e0
  have n19 := mn2 (x := 45) (y := 45) (hn 19 (by decide)) rfl rfl rfl e0
  refine ⟨?_, ?_, ?_⟩
  · simp [mkK, mkW, mk1, mkS, mkA, dblK, weqK, e0, n3, n19]
  · simp [mkE, mkW, mk1, mkS, mkA, dblK, weqK, e0, n3, n19]
  · simp [isMk, e0]
theorem mk_k38 (h : mtM b p 38) (hn : ∀ j : Nat, j < 38 → ¬ mtM b p j) : mkK b p = 42 ∧ mkE b p = p + 1 ∧ isMk (b p) = true := by
  have e0 := mt1 (x := 42) h (by decide) rfl
  have n4 := mn2 (x := 42) (y := 61) (hn 4 (by decide)) rfl rfl rfl e0
  refine ⟨?_, ?_, ?_⟩
  · simp [mkK, mkW, mk1, mkS, mkA, dblK, weqK, e0, n4]
  · simp [mkE, mkW, mk1, mkS, mkA, dblK, weqK, e0, n4]
  · simp [isMk, e0]
theorem mk_k39 (h : mtM b p 39) (hn : ∀ j : Nat, j < 39 → ¬ mtM b p j) : mkK b p = 47 ∧ mkE b p = p + 1 ∧ isMk (b p) = true := by
  have e0 := mt1 (x := 47) h (by decide) rfl
  have n5 := mn2 (x := 47) (y := 61) (hn 5 (by decide)) rfl rfl rfl e0
  refine ⟨?_, ?_, ?_⟩
  · simp [mkK, mkW, mk1, mkS, mkA, dblK, weqK, e0, n5]
  · simp [mkE, mkW, mk1, mkS, mkA, dblK, weqK, e0, n5]
  · simp [isMk, e0]
theorem mk_k40 (h : mtM b p 40) (hn : ∀ j : Nat, j < 40 → ¬ mtM b p j) : mkK b p = 37 ∧ mkE b p = p + 1 ∧ isMk (b p) = true := by
  have e0 := mt1 (x := 37) h (by decide) rfl
  have n6 := mn2 (x := 37) (y := 61) (hn 6 (by decide)) rfl rfl rfl e0
  refine ⟨?_, ?_, ?_⟩
  · simp [mkK, mkW, mk1, mkS, mkA, dblK, weqK, e0, n6]
  · simp [mkE, mkW, mk1, mkS, mkA, dblK, weqK, e0, n6]
  · simp [isMk, e0]
theorem mk_k41 (h : mtM b p 41) (hn : ∀ j : Nat, j < 41 → ¬ mtM b p j) : mkK b p = 33 ∧ mkE b p = p + 1 ∧ isMk (b p) = true := by
  have e0 := mt1 (x := 33) h (by decide) rfl
  have n13 := mn2 (x := 33) (y := 61) (hn 13 (by decide)) rfl rfl rfl e0
  refine ⟨?_, ?_, ?_⟩
  · simp [mkK, mkW, mk1, mkS, mkA, dblK, weqK, e0, n13]
  · simp [mkE, mkW, mk1, mkS, mkA, dblK, weqK, e0, n13]
  · simp [isMk, e0]
theorem mk_k42 (h : mtM b p 42) (hn : ∀ j : Nat, j < 42 → ¬ mtM b p j) : mkK b p = 126 ∧ mkE b p = p + 1 ∧ isMk (b p) = true := by
  have e0 := mt1 (x := 126) h (by decide) rfl
  refine ⟨?_, ?_, ?_⟩
  · simp [mkK, mkW, mk1, mkS, mkA, dblK, weqK, e0]
  · simp [mkE, mkW, mk1, mkS, mkA, dblK, weqK, e0]
  · simp [isMk, e0]
theorem mk_all {k : Nat} (hk : k < 43) (h : mtM b p k) (hn : ∀ j : Nat, j < k → ¬ mtM b p j) : mkK b p = mkC k ∧ mkE b p = p + mlen k ∧ isMk (b p) = true := by
  have c : k = 0 ∨ k = 1 ∨ k = 2 ∨ k = 3 ∨ k = 4 ∨ k = 5 ∨ k = 6 ∨ k = 7 ∨ k = 8 ∨ k = 9 ∨ k = 10 ∨ k = 11 ∨ k = 12 ∨ k = 13 ∨ k = 14 ∨ k = 15 ∨ k = 16 ∨ k = 17 ∨ k = 18 ∨ k = 19 ∨ k = 20 ∨ k = 21 ∨ k = 22 ∨ k = 23 ∨ k = 24 ∨ k = 25 ∨ k = 26 ∨ k = 27 ∨ k = 28 ∨ k = 29 ∨ k = 30 ∨ k = 31 ∨ k = 32 ∨ k = 33 ∨ k = 34 ∨ k = 35 ∨ k = 36 ∨ k = 37 ∨ k = 38 ∨ k = 39 ∨ k = 40 ∨ k = 41 ∨ k = 42 := by omega
  rcases c with rfl | rfl | rfl | rfl | rfl | rfl | rfl | rfl | rfl | rfl | rfl | rfl | rfl | rfl | rfl | rfl | rfl | rfl | rfl | rfl | rfl | rfl | rfl | rfl | rfl | rfl | rfl | rfl | rfl | rfl | rfl | rfl | rfl | rfl | rfl | rfl | rfl | rfl | rfl | rfl | rfl | rfl | rfl
  · exact mk_k0 h hn
  · exact mk_k1 h hn
  · exact mk_k2 h hn
  · exact mk_k3 h hn
  · exact mk_k4 h hn
  · exact mk_k5 h hn
  · exact mk_k6 h hn
  · exact mk_k7 h hn
  · exact mk_k8 h hn
  · exact mk_k9 h hn
  · exact mk_k10 h hn
  · exact mk_k11 h hn
  · exact mk_k12 h hn
  · exact mk_k13 h hn
  · exact mk_k14 h hn
  · exact mk_k15 h hn
  · exact mk_k16 h hn
  · exact mk_k17 h hn
  · exact mk_k18 h hn
  · exact mk_k19 h hn
  · exact mk_k20 h hn
  · exact mk_k21 h hn
  · exact mk_k22 h hn
  · exact mk_k23 h hn
  · exact mk_k24 h hn
  · exact mk_k25 h hn
  · exact mk_k26 h hn
  · exact mk_k27 h hn
  · exact mk_k28 h hn
  · exact mk_k29 h hn
  · exact mk_k30 h hn
  · exact mk_k31 h hn
  · exact mk_k32 h hn
  · exact mk_k33 h hn
  · exact mk_k34 h hn
  · exact mk_k35 h hn
  · exact mk_k36 h hn
  · exact mk_k37 h hn
  · exact mk_k38 h hn
  · exact mk_k39 h hn
  · exact mk_k40 h hn
  · exact mk_k41 h hn
  · exact mk_k42 h hn
theorem mk_212 (hT : RTx tf0 ta0 b n) (hp : p0.toInt = (p : Int)) (hi : (tf0 6).toInt = (i : Int)) (hi2 : i ≤ 100000) (hpn : p < n) : ∀ (d m j : Nat) (x4 : Int32), E_mp_readToken p0 tf' ta' v tf0 ta0 m 212 [x4] [] [] [] [] tf0 ta0 → x4.toInt = (j : Int) → j + d = 43 → (∀ q : Nat, q < j → ¬ mtM b p q) → (v.toInt = 0 ∧ tf' = tf0 ∧ ta' = ta0 ∧ isMk (b p) = false) ∨ (v.toInt = 1 ∧ isMk (b p) = true ∧ ∃ (k : Nat) (w : Int32), k < 43 ∧ w.toInt = (k : Int) ∧ mkK b p = mkC k ∧ mkE b p = p + mlen k ∧ LdT tf0 ta0 i p (mlen k : Int) 5 w tf' ta' ∧ mtM b p k) := by
  have t2 := hT.2.1
  intro d
  induction d with
  | zero =>
    intro m j x4 h hx hj hno
    rcases iv_mp_readToken_212 h with ⟨m', (⟨h1, e0, e1, ev⟩ | ⟨h1, v7, h2, (⟨h3, z13, h4, hQ⟩ | ⟨h3, v18, h4, tf23, ta24, h5, e0, e1, ev⟩)⟩)⟩
    · exact Or.inl ⟨by rw [ev]; rfl, e0, e1, mk_no (fun k hk => hno k (by omega))⟩
    all_goals (exfalso; omega)
  | succ d ih =>
    intro m j x4 h hx hj hno
    have xi : x4.toNatClampNeg = j := cn_of hx
    have mb := mbl (k := j) (by omega)
    rcases iv_mp_readToken_212 h with ⟨m', (⟨h1, e0, e1, ev⟩ | ⟨h1, v7, h2, (⟨h3, z13, h4, hQ⟩ | ⟨h3, v18, h4, tf23, ta24, h5, e0, e1, ev⟩)⟩)⟩
    · exfalso; omega
    · rw [xi] at h2
      have s2 := stS_r hT hp (by omega) (by omega) mb.2 h2
      have z1 := ti_add h4 hx (show (1 : Int32).toInt = 1 from rfl) (by omega) (by omega)
      refine ih m' (j + 1) z13 hQ (by omega) (by omega) (fun q hq => ?_)
      by_cases w : q = j
      · rw [w]
        intro y
        have := s2.2.mpr y
        omega
      · exact hno q (by omega)
    · rw [xi] at h2 h4
      have s2 := stS_r hT hp (by omega) (by omega) mb.2 h2
      have s1 := slen_r (by omega) h4
      have ma : mtM b p j := s2.2.mp (by omega)
      obtain ⟨k1, k2, k3⟩ := mk_all (by omega) ma hno
      refine Or.inr ⟨by rw [ev]; rfl, k3, j, x4, by omega, hx, k1, k2, ?_, ma⟩
      rw [e0, e1]
      exact ld_r hp hi hi2 s1 (show (vp_nar .byte (5 : Int32).toInt8.toInt32).toInt = 5 from rfl) h5
end TE
