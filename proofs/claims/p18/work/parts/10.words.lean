/-! ONE LIST OF WORDS for every method: the tables' good words, and 'selects' of the private ones -/
def AL : List Cond := k2_sels lw_privs ++ tables_1.filter goodWord
theorem AL_in : ∀ w ∈ AL, w ∈ lw_tbl := fun w h => by
  rcases List.mem_append.mp h with h | h
  · exact List.mem_append_left _ h
  · exact List.mem_append_right _ (List.mem_filter.mp h).1
theorem AL_good : ∀ w ∈ AL, (w.onTables && w.keeps) = true ∨ ∃ ty, w = .arrayClass ty := fun w h => by
  rcases List.mem_append.mp h with h | h
  · obtain ⟨q, -, rfl⟩ := List.mem_map.mp h
    exact Or.inl rfl
  · exact good_of_word (List.mem_filter.mp h).2
theorem AL_t {w : Cond} (h : w ∈ tables_1) (hg : goodWord w = true) : w ∈ AL := List.mem_append_right _ (List.mem_filter.mpr ⟨h, hg⟩)
theorem AL_p {q : MethodName × Nat} (h : q ∈ lw_privs) : Cond.selects q.1.cls q.1 q.1 ∈ AL := List.mem_append_left _ (List.mem_map.mpr ⟨q, h, rfl⟩)
theorem AL_1 {w : Cond} (h : w ∈ tables_1_1) (hg : goodWord w = true) : w ∈ AL := AL_t (by unfold tables_1; exact List.mem_append_left _ h) hg
theorem AL_2 {w : Cond} (h : w ∈ tables_1_2) (hg : goodWord w = true) : w ∈ AL := AL_t (by unfold tables_1; exact List.mem_append_right _ (List.mem_append_left _ h)) hg
theorem AL_3 {w : Cond} (h : w ∈ tables_1_3) (hg : goodWord w = true) : w ∈ AL := AL_t (by unfold tables_1; exact List.mem_append_right _ (List.mem_append_right _ (List.mem_append_left _ h))) hg
theorem AL_4 {w : Cond} (h : w ∈ tables_1_4) (hg : goodWord w = true) : w ∈ AL := AL_t (by unfold tables_1; exact List.mem_append_right _ (List.mem_append_right _ (List.mem_append_right _ (List.mem_append_left _ h)))) hg
theorem AL_5 {w : Cond} (h : w ∈ tables_1_5) (hg : goodWord w = true) : w ∈ AL := AL_t (by unfold tables_1; exact List.mem_append_right _ (List.mem_append_right _ (List.mem_append_right _ (List.mem_append_right _ (List.mem_append_left _ h))))) hg
theorem AL_6 {w : Cond} (h : w ∈ tables_1_6) (hg : goodWord w = true) : w ∈ AL := AL_t (by unfold tables_1; exact List.mem_append_right _ (List.mem_append_right _ (List.mem_append_right _ (List.mem_append_right _ (List.mem_append_right _ (List.mem_append_left _ h)))))) hg
theorem AL_7 {w : Cond} (h : w ∈ tables_1_7) (hg : goodWord w = true) : w ∈ AL := AL_t (by unfold tables_1; exact List.mem_append_right _ (List.mem_append_right _ (List.mem_append_right _ (List.mem_append_right _ (List.mem_append_right _ (List.mem_append_right _ (List.mem_append_left _ h))))))) hg
theorem AL_8 {w : Cond} (h : w ∈ tables_1_8) (hg : goodWord w = true) : w ∈ AL := AL_t (by unfold tables_1; exact List.mem_append_right _ (List.mem_append_right _ (List.mem_append_right _ (List.mem_append_right _ (List.mem_append_right _ (List.mem_append_right _ (List.mem_append_right _ (List.mem_append_left _ h)))))))) hg
theorem AL_9 {w : Cond} (h : w ∈ tables_1_9) (hg : goodWord w = true) : w ∈ AL := AL_t (by unfold tables_1; exact List.mem_append_right _ (List.mem_append_right _ (List.mem_append_right _ (List.mem_append_right _ (List.mem_append_right _ (List.mem_append_right _ (List.mem_append_right _ (List.mem_append_right _ (List.mem_append_left _ h))))))))) hg
theorem AL_10 {w : Cond} (h : w ∈ tables_1_10) (hg : goodWord w = true) : w ∈ AL := AL_t (by unfold tables_1; exact List.mem_append_right _ (List.mem_append_right _ (List.mem_append_right _ (List.mem_append_right _ (List.mem_append_right _ (List.mem_append_right _ (List.mem_append_right _ (List.mem_append_right _ (List.mem_append_right _ (List.mem_append_left _ h)))))))))) hg
theorem AL_11 {w : Cond} (h : w ∈ tables_1_11) (hg : goodWord w = true) : w ∈ AL := AL_t (by unfold tables_1; exact List.mem_append_right _ (List.mem_append_right _ (List.mem_append_right _ (List.mem_append_right _ (List.mem_append_right _ (List.mem_append_right _ (List.mem_append_right _ (List.mem_append_right _ (List.mem_append_right _ (List.mem_append_right _ (List.mem_append_left _ h))))))))))) hg
theorem AL_12 {w : Cond} (h : w ∈ tables_1_12) (hg : goodWord w = true) : w ∈ AL := AL_t (by unfold tables_1; exact List.mem_append_right _ (List.mem_append_right _ (List.mem_append_right _ (List.mem_append_right _ (List.mem_append_right _ (List.mem_append_right _ (List.mem_append_right _ (List.mem_append_right _ (List.mem_append_right _ (List.mem_append_right _ (List.mem_append_right _ (List.mem_append_left _ h)))))))))))) hg
theorem AL_13 {w : Cond} (h : w ∈ tables_1_13) (hg : goodWord w = true) : w ∈ AL := AL_t (by unfold tables_1; exact List.mem_append_right _ (List.mem_append_right _ (List.mem_append_right _ (List.mem_append_right _ (List.mem_append_right _ (List.mem_append_right _ (List.mem_append_right _ (List.mem_append_right _ (List.mem_append_right _ (List.mem_append_right _ (List.mem_append_right _ (List.mem_append_right _ (List.mem_append_left _ h))))))))))))) hg
theorem AL_14 {w : Cond} (h : w ∈ tables_1_14) (hg : goodWord w = true) : w ∈ AL := AL_t (by unfold tables_1; exact List.mem_append_right _ (List.mem_append_right _ (List.mem_append_right _ (List.mem_append_right _ (List.mem_append_right _ (List.mem_append_right _ (List.mem_append_right _ (List.mem_append_right _ (List.mem_append_right _ (List.mem_append_right _ (List.mem_append_right _ (List.mem_append_right _ (List.mem_append_right _ (List.mem_append_left _ h)))))))))))))) hg
theorem AL_15 {w : Cond} (h : w ∈ tables_1_15) (hg : goodWord w = true) : w ∈ AL := AL_t (by unfold tables_1; exact List.mem_append_right _ (List.mem_append_right _ (List.mem_append_right _ (List.mem_append_right _ (List.mem_append_right _ (List.mem_append_right _ (List.mem_append_right _ (List.mem_append_right _ (List.mem_append_right _ (List.mem_append_right _ (List.mem_append_right _ (List.mem_append_right _ (List.mem_append_right _ (List.mem_append_right _ h)))))))))))))) hg
theorem AL_call {k0 : Cond} {Ts ex : List Cond} (hT : ∀ w ∈ AL, w ∈ Ts) (h0 : k0 ∈ AL) (hx : ∀ w ∈ ex, w ∈ AL) : GoodIn Ts (ex ++ (k0 :: AL)) := by
  intro w hw
  have h : w ∈ AL := by
    rcases List.mem_append.mp hw with h | h
    · exact hx w h
    · rcases List.mem_cons.mp h with h | h
      · rw [h]; exact h0
      · exact h
  exact ⟨hT w h, AL_good w h⟩
