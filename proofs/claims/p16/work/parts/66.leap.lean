theorem m2_163 : Cond.fieldLink "HomeSystem$TextCompiler" 142 "HomeSystem$TextCompiler" "loops" "I" ∈ AL := AL_2 (List.mem_of_getElem? (i := 163) rfl) rfl
theorem m2_166 : Cond.fieldLink "HomeSystem$TextCompiler" 151 "HomeSystem$TextCompiler" "continues" "I" ∈ AL := AL_2 (List.mem_of_getElem? (i := 166) rfl) rfl
theorem m2_164 : Cond.fieldLink "HomeSystem$TextCompiler" 145 "HomeSystem$TextCompiler" "breakables" "I" ∈ AL := AL_2 (List.mem_of_getElem? (i := 164) rfl) rfl
theorem m2_165 : Cond.fieldLink "HomeSystem$TextCompiler" 148 "HomeSystem$TextCompiler" "breaks" "I" ∈ AL := AL_2 (List.mem_of_getElem? (i := 165) rfl) rfl
theorem chp_lk {cn c : Nat} {z p : Int32} {cd : Nat → Int32} {col : Nat → Nat} (hc : ColOk cn cd z col) (h : Chp cn col c p) (c0 : c ≠ 0) (h4 : cn % 4 = 0) (hn : cn ≤ 100000) (hz : z.toInt ≤ 100000) : Lk p := by
  rcases h with h | h | ⟨k, h, hk⟩
  · exact Or.inl h
  · exact Or.inr ⟨by omega, by omega⟩
  · obtain ⟨g1, g2, -⟩ := hc k (by rw [hk]; exact c0)
    exact Or.inr ⟨by omega, by omega⟩
abbrev b_Cmp_statement : ByteArray := prog_10_method_14_code
def y_Cmp_statement : MethodName := ⟨"HomeSystem$TextCompiler", "statement", "()V"⟩
theorem d_Cmp_statement_0 : decode b_Cmp_statement 0 = .ok (.aload_n 0, 1) := by decide +kernel
theorem d_Cmp_statement_1 : decode b_Cmp_statement 1 = .ok (.getfield 18, 3) := by decide +kernel
theorem d_Cmp_statement_4 : decode b_Cmp_statement 4 = .ok (.invokevirtual 63, 3) := by decide +kernel
theorem d_Cmp_statement_7 : decode b_Cmp_statement 7 = .ok (.istore_n 1, 1) := by decide +kernel
theorem d_Cmp_statement_8 : decode b_Cmp_statement 8 = .ok (.iload_n 1, 1) := by decide +kernel
theorem d_Cmp_statement_9 : decode b_Cmp_statement 9 = .ok (.lookupswitch 198 #[(1, 124), (2, 124), (5, 148), (7, 155), (8, 162), (9, 169), (10, 176), (13, 183), (14, 183), (15, 191), (59, 114), (123, 107)], 107) := by decide +kernel
theorem d_Cmp_statement_116 : decode b_Cmp_statement 116 = .ok (.aload_n 0, 1) := by decide +kernel
theorem d_Cmp_statement_117 : decode b_Cmp_statement 117 = .ok (.invokevirtual 275, 3) := by decide +kernel
theorem d_Cmp_statement_120 : decode b_Cmp_statement 120 = .ok (.goto 100, 3) := by decide +kernel
theorem d_Cmp_statement_123 : decode b_Cmp_statement 123 = .ok (.aload_n 0, 1) := by decide +kernel
theorem d_Cmp_statement_124 : decode b_Cmp_statement 124 = .ok (.getfield 18, 3) := by decide +kernel
theorem d_Cmp_statement_127 : decode b_Cmp_statement 127 = .ok (.invokevirtual 186, 3) := by decide +kernel
theorem d_Cmp_statement_130 : decode b_Cmp_statement 130 = .ok (.goto 90, 3) := by decide +kernel
theorem d_Cmp_statement_133 : decode b_Cmp_statement 133 = .ok (.aload_n 0, 1) := by decide +kernel
theorem d_Cmp_statement_134 : decode b_Cmp_statement 134 = .ok (.getfield 18, 3) := by decide +kernel
theorem d_Cmp_statement_137 : decode b_Cmp_statement 137 = .ok (.invokevirtual 186, 3) := by decide +kernel
theorem d_Cmp_statement_140 : decode b_Cmp_statement 140 = .ok (.aload_n 0, 1) := by decide +kernel
theorem d_Cmp_statement_141 : decode b_Cmp_statement 141 = .ok (.iload_n 1, 1) := by decide +kernel
theorem d_Cmp_statement_142 : decode b_Cmp_statement 142 = .ok (.invokevirtual 198, 3) := by decide +kernel
theorem d_Cmp_statement_145 : decode b_Cmp_statement 145 = .ok (.aload_n 0, 1) := by decide +kernel
theorem d_Cmp_statement_146 : decode b_Cmp_statement 146 = .ok (.getfield 18, 3) := by decide +kernel
theorem d_Cmp_statement_149 : decode b_Cmp_statement 149 = .ok (.bipush 59, 2) := by decide +kernel
theorem d_Cmp_statement_151 : decode b_Cmp_statement 151 = .ok (.invokevirtual 195, 3) := by decide +kernel
theorem d_Cmp_statement_154 : decode b_Cmp_statement 154 = .ok (.goto 66, 3) := by decide +kernel
theorem d_Cmp_statement_157 : decode b_Cmp_statement 157 = .ok (.aload_n 0, 1) := by decide +kernel
theorem d_Cmp_statement_158 : decode b_Cmp_statement 158 = .ok (.invokevirtual 278, 3) := by decide +kernel
theorem d_Cmp_statement_161 : decode b_Cmp_statement 161 = .ok (.goto 59, 3) := by decide +kernel
theorem d_Cmp_statement_164 : decode b_Cmp_statement 164 = .ok (.aload_n 0, 1) := by decide +kernel
theorem d_Cmp_statement_165 : decode b_Cmp_statement 165 = .ok (.invokevirtual 281, 3) := by decide +kernel
theorem d_Cmp_statement_168 : decode b_Cmp_statement 168 = .ok (.goto 52, 3) := by decide +kernel
theorem d_Cmp_statement_171 : decode b_Cmp_statement 171 = .ok (.aload_n 0, 1) := by decide +kernel
theorem d_Cmp_statement_172 : decode b_Cmp_statement 172 = .ok (.invokevirtual 284, 3) := by decide +kernel
theorem d_Cmp_statement_175 : decode b_Cmp_statement 175 = .ok (.goto 45, 3) := by decide +kernel
theorem d_Cmp_statement_178 : decode b_Cmp_statement 178 = .ok (.aload_n 0, 1) := by decide +kernel
theorem d_Cmp_statement_179 : decode b_Cmp_statement 179 = .ok (.invokevirtual 287, 3) := by decide +kernel
theorem d_Cmp_statement_182 : decode b_Cmp_statement 182 = .ok (.goto 38, 3) := by decide +kernel
theorem d_Cmp_statement_185 : decode b_Cmp_statement 185 = .ok (.aload_n 0, 1) := by decide +kernel
theorem d_Cmp_statement_186 : decode b_Cmp_statement 186 = .ok (.invokevirtual 290, 3) := by decide +kernel
theorem d_Cmp_statement_189 : decode b_Cmp_statement 189 = .ok (.goto 31, 3) := by decide +kernel
theorem d_Cmp_statement_192 : decode b_Cmp_statement 192 = .ok (.aload_n 0, 1) := by decide +kernel
theorem d_Cmp_statement_193 : decode b_Cmp_statement 193 = .ok (.iload_n 1, 1) := by decide +kernel
theorem d_Cmp_statement_194 : decode b_Cmp_statement 194 = .ok (.invokevirtual 293, 3) := by decide +kernel
theorem d_Cmp_statement_197 : decode b_Cmp_statement 197 = .ok (.goto 23, 3) := by decide +kernel
theorem d_Cmp_statement_200 : decode b_Cmp_statement 200 = .ok (.aload_n 0, 1) := by decide +kernel
theorem d_Cmp_statement_201 : decode b_Cmp_statement 201 = .ok (.invokevirtual 296, 3) := by decide +kernel
theorem d_Cmp_statement_204 : decode b_Cmp_statement 204 = .ok (.goto 16, 3) := by decide +kernel
theorem d_Cmp_statement_207 : decode b_Cmp_statement 207 = .ok (.aload_n 0, 1) := by decide +kernel
theorem d_Cmp_statement_208 : decode b_Cmp_statement 208 = .ok (.invokevirtual 299, 3) := by decide +kernel
theorem d_Cmp_statement_211 : decode b_Cmp_statement 211 = .ok (.aload_n 0, 1) := by decide +kernel
theorem d_Cmp_statement_212 : decode b_Cmp_statement 212 = .ok (.getfield 18, 3) := by decide +kernel
theorem d_Cmp_statement_215 : decode b_Cmp_statement 215 = .ok (.bipush 59, 2) := by decide +kernel
theorem d_Cmp_statement_217 : decode b_Cmp_statement 217 = .ok (.invokevirtual 195, 3) := by decide +kernel
theorem d_Cmp_statement_220 : decode b_Cmp_statement 220 = .ok (.return_, 1) := by decide +kernel
theorem q_Cmp_statement : px_y y_Cmp_statement 0 := by unfold px_y; decide +kernel
def StatC (l : Launch) (D : va_G) (cs : Nat → ClassId) (lv : Nat) : Prop := ∀ (em : Nat) (mi : Nat) (he : Nat) (re : Nat → Nat) (eo : Nat → Option Nat) (ef : Nat → Int32) (ea : Nat → Nat → Int32) (eg : Nat → Nat → Option Nat) (hc : Nat) (hs : Nat) (ra : Nat → Nat) (fo : Option Nat) (cf : Nat → Int32) (ca : Nat → Nat → Int32) (rt : Nat → Nat) (ot : Nat → Option Nat) (ta : Nat → Nat → Int32) (tg : Nat → Nat → Option Nat) (tf : Nat → Int32) (rp : Nat → Nat) (fu : Nat) (cn : Nat) (fn : Nat) (ft : Nat → Int32) (fp : Nat → Int32) (cd : Nat → Int32) (rn : Nat → Nat) (no : Nat → Option Nat) (ng : Nat → Nat → Option Nat) (na : Nat → Nat → Int32) (fq : Nat) (fc : Nat) (ff : Nat → Int32) (fg : Nat → Option Nat) (nf : Nat → Int32) (own : Bool) (lq : Nat) (lc : Nat) (lf : Nat → Int32) (lg : Nat → Option Nat) (P : va_W) (rs : Nat → Nat) (sn : Nat) (fs : Nat → Int32) (sd : Nat → Int32) (col : Nat → Nat) (hinv0 : CmOk P (cf 7) (cf 8) (cf 10) (ca 6) fo) (hinv1 : CurOk (tf 10) (tf 13) (tf 14) (tf 15) (tf 17) (ta 0)) (hinv2 : NmI em P own (lf 1) (ff 1) (nf 3) (nf 4) lq lc fc lg fg) (g0 : cn % 4 = 0) (g1 : cn ≤ 100000) (g2 : sn % 4 = 0) (g3 : sn ≤ 100000) (g4 : (lf 1).toInt ≤ (tf 13).toInt + 3 * (tf 15).toInt) (g5 : lv ≤ 61) (g6 : 61 ≤ (tf 14).toInt + (lv : Int) + 4294967296 * (tf 15).toInt) (hpk : Pok cn (fp 3) cd) (hpkS : Pok sn (fs 3) sd) (hq5 : Q5 (ta 5)) (hcolI : ColOk cn cd (fp 3) col) (hch1I : Chp cn col 1 (cf 16)) (hch2I : Chp cn col 2 (cf 17)), MgV l y_Cmp_statement b_Cmp_statement 2 D cs (6 * lv + 290) (400 * lv + 9000) (((30000 + 1500 * (lv : Int) - 2 * (tf 13).toInt - (lc : Int)).toNat)) (((9 * (30000 + 1500 * (lv : Int) - 2 * (tf 13).toInt - (lc : Int)) + 4 * (6000 - (lc : Int))).toNat)) [.ref hc] [wd_Exp cs he re eo ef ea eg, wd_Cmp cs hc (fun k => if k = 0 then re 0 else if k = 1 then re 1 else if k = 2 then he else if k = 3 then re 2 else if k = 4 then hs else ra k) (fun k => if k = 9 then fo else none) cf ca (fun _ _ => none), wd_Tok cs (re 0) rt ot tf ta tg, wd_Prg cs (re 2) rp (fun k => if k = 2 then (some fu) else none) fp (fun _ _ => 0) (fun _ _ => none), [((rp 1), .inl (cs 0, cn, .inl cd))], [(fu, .inl (cs 0, fn, .inl ft))], wd_Nam cs (re 1) rn no nf na ng, wd_Lst cs (rn 0) (fun _ => 0) (fun k => if k = 0 then (some lq) else none) lf (fun _ _ => 0) (fun _ _ => none), lA cs own lq lc lg, wd_Lst cs (rn 1) (fun _ => 0) (fun k => if k = 0 then (some fq) else none) ff (fun _ _ => 0) (fun _ _ => none), [(fq, .inl (cs 12, fc, .inr (.inr (.inr (.inr fg)))))], P, wd_Prg cs hs rs (fun k => if k = 2 then none else none) fs (fun _ _ => 0) (fun _ _ => none), [((rs 1), .inl (cs 0, sn, .inl sd))]] (oX (fun A U H => (oE A em U H) ∧ (va_Mi "[Ljava/lang/Object;" mi U)) [wd_Exp cs he re eo ef ea eg, wd_Cmp cs hc (fun k => if k = 0 then re 0 else if k = 1 then re 1 else if k = 2 then he else if k = 3 then re 2 else if k = 4 then hs else ra k) (fun k => if k = 9 then fo else none) cf ca (fun _ _ => none), wd_Tok cs (re 0) rt ot tf ta tg, wd_Prg cs (re 2) rp (fun k => if k = 2 then (some fu) else none) fp (fun _ _ => 0) (fun _ _ => none), [((rp 1), .inl (cs 0, cn, .inl cd))], [(fu, .inl (cs 0, fn, .inl ft))], wd_Nam cs (re 1) rn no nf na ng, wd_Lst cs (rn 0) (fun _ => 0) (fun k => if k = 0 then (some lq) else none) lf (fun _ _ => 0) (fun _ _ => none), lA cs own lq lc lg, wd_Lst cs (rn 1) (fun _ => 0) (fun k => if k = 0 then (some fq) else none) ff (fun _ _ => 0) (fun _ _ => none), [(fq, .inl (cs 12, fc, .inr (.inr (.inr (.inr fg)))))], P, wd_Prg cs hs rs (fun k => if k = 2 then none else none) fs (fun _ _ => 0) (fun _ _ => none), [((rs 1), .inl (cs 0, sn, .inl sd))]]) (fun ps => ∃ (cf' : Nat → Int32) (ca' : Nat → Nat → Int32) (tf' : Nat → Int32) (fp' : Nat → Int32) (cd' : Nat → Int32) (nf' : Nat → Int32) (own' : Bool) (lq' : Nat) (lc' : Nat) (lf' : Nat → Int32) (lg' : Nat → Option Nat) (P' : va_W) (fs' : Nat → Int32) (sd' : Nat → Int32) (col' : Nat → Nat), (ps.1 = [wd_Exp cs he re eo ef ea eg, wd_Cmp cs hc (fun k => if k = 0 then re 0 else if k = 1 then re 1 else if k = 2 then he else if k = 3 then re 2 else if k = 4 then hs else ra k) (fun k => if k = 9 then fo else none) cf' ca' (fun _ _ => none), wd_Tok cs (re 0) rt ot tf' ta tg, wd_Prg cs (re 2) rp (fun k => if k = 2 then (some fu) else none) fp' (fun _ _ => 0) (fun _ _ => none), [((rp 1), .inl (cs 0, cn, .inl cd'))], [(fu, .inl (cs 0, fn, .inl ft))], wd_Nam cs (re 1) rn no nf' na ng, wd_Lst cs (rn 0) (fun _ => 0) (fun k => if k = 0 then (some lq') else none) lf' (fun _ _ => 0) (fun _ _ => none), lA cs own' lq' lc' lg', wd_Lst cs (rn 1) (fun _ => 0) (fun k => if k = 0 then (some fq) else none) ff (fun _ _ => 0) (fun _ _ => none), [(fq, .inl (cs 12, fc, .inr (.inr (.inr (.inr fg)))))], P', wd_Prg cs hs rs (fun k => if k = 2 then none else none) fs' (fun _ _ => 0) (fun _ _ => none), [((rs 1), .inl (cs 0, sn, .inl sd'))]]) ∧ (CmOk P' (cf' 7) (cf' 8) (cf' 10) (ca' 6) fo) ∧ (CurOk (tf' 10) (tf' 13) (tf' 14) (tf' 15) (tf' 17) (ta 0)) ∧ (NmI em P' own' (lf' 1) (ff 1) (nf' 3) (nf' 4) lq' lc' fc lg' fg) ∧ (Agr (fp 3) col col') ∧ ((tf' 10).toInt = (tf 10).toInt) ∧ ((tf 15).toInt ≤ (tf' 15).toInt) ∧ ((tf 13).toInt ≤ (tf' 13).toInt) ∧ ((tf' 13).toInt ≤ (tf 13).toInt + 3000 - 3000 * (tf 15).toInt) ∧ ((tf' 14).toInt ≤ (tf 14).toInt + 4294967296 * (tf' 15).toInt) ∧ ((tf 14).toInt ≤ (tf' 14).toInt + 4294967296 * (tf' 15).toInt) ∧ (Prel cn (fp 3) cd (fp' 3) cd') ∧ (ColOk cn cd' (fp' 3) col') ∧ (Chp cn col' 1 (cf' 16)) ∧ (Chp cn col' 2 (cf' 17)) ∧ ((tf 13).toInt + 1 ≤ (tf' 13).toInt + (tf' 15).toInt) ∧ ((cf' 7).toInt = (cf 7).toInt) ∧ ((cf' 8).toInt = (cf 8).toInt) ∧ ((cf' 10).toInt = (cf 10).toInt) ∧ (Pok sn (fs' 3) sd') ∧ ((ff 1).toInt = (ff 1).toInt) ∧ ((nf' 3).toInt = (nf 3).toInt) ∧ ((lc : Int) ≤ (lc' : Int)) ∧ (Pg P P') ∧ ((lf' 1).toInt ≤ (tf' 13).toInt + 3 * (tf' 15).toInt) ∧ ((fp' 3).toInt + (fs' 3).toInt ≤ (fp 3).toInt + (fs 3).toInt + 190 * ((tf' 13).toInt - (tf 13).toInt) + 300000 * (tf' 15).toInt) ∧ ((ps.2.1 : Int) ≤ 2 * ((tf' 13).toInt - (tf 13).toInt) + ((lc' : Int) - (lc : Int)) + 10 * (lv : Int) + 300) ∧ ((ps.2.1 : Int) ≤ 2 * ((tf' 13).toInt - (tf 13).toInt) + ((lc' : Int) - (lc : Int)) + 1000 * (tf' 15).toInt) ∧ ((ps.2.1 : Int) ≤ 5003 + ((lc' : Int) - (lc : Int)) - 5000 * (tf 15).toInt) ∧ ((ps.2.2 : Int) ≤ 9 * (ps.2.1 : Int) + 4 * ((lc' : Int) - (lc : Int))))
def LvS (l : Launch) (D : va_G) (cs : Nat → ClassId) (lv : Nat) : Prop := 1 ≤ lv → StatC l D cs (lv - 1)
theorem LvS.go {l : Launch} {D : va_G} {cs : Nat → ClassId} {lv : Nat} (h : LvS l D cs lv) (k : 1 ≤ lv) : StatC l D cs (lv - 1) := h k
theorem lvs_0 {l : Launch} {D : va_G} {cs : Nat → ClassId} : LvS l D cs 0 := fun h => absurd h (by decide)
theorem lvs_s {l : Launch} {D : va_G} {cs : Nat → ClassId} {n : Nat} (h : StatC l D cs n) : LvS l D cs (n + 1) := fun _ => h
abbrev b_Cmp_leap : ByteArray := prog_10_method_35_code
def y_Cmp_leap : MethodName := ⟨"HomeSystem$TextCompiler", "leap", "(I)V"⟩
theorem d_Cmp_leap_0 : decode b_Cmp_leap 0 = .ok (.iload_n 1, 1) := by decide +kernel
theorem d_Cmp_leap_1 : decode b_Cmp_leap 1 = .ok (.bipush 13, 2) := by decide +kernel
theorem d_Cmp_leap_3 : decode b_Cmp_leap 3 = .ok (.if_icmp .ne 7, 3) := by decide +kernel
theorem d_Cmp_leap_6 : decode b_Cmp_leap 6 = .ok (.iconst 1, 1) := by decide +kernel
theorem d_Cmp_leap_7 : decode b_Cmp_leap 7 = .ok (.goto 4, 3) := by decide +kernel
theorem d_Cmp_leap_10 : decode b_Cmp_leap 10 = .ok (.iconst 0, 1) := by decide +kernel
theorem d_Cmp_leap_11 : decode b_Cmp_leap 11 = .ok (.istore_n 2, 1) := by decide +kernel
theorem d_Cmp_leap_12 : decode b_Cmp_leap 12 = .ok (.iload_n 2, 1) := by decide +kernel
theorem d_Cmp_leap_13 : decode b_Cmp_leap 13 = .ok (.ifCond .eq 10, 3) := by decide +kernel
theorem d_Cmp_leap_16 : decode b_Cmp_leap 16 = .ok (.aload_n 0, 1) := by decide +kernel
theorem d_Cmp_leap_17 : decode b_Cmp_leap 17 = .ok (.getfield 145, 3) := by decide +kernel
theorem d_Cmp_leap_20 : decode b_Cmp_leap 20 = .ok (.goto 7, 3) := by decide +kernel
theorem d_Cmp_leap_23 : decode b_Cmp_leap 23 = .ok (.aload_n 0, 1) := by decide +kernel
theorem d_Cmp_leap_24 : decode b_Cmp_leap 24 = .ok (.getfield 142, 3) := by decide +kernel
theorem d_Cmp_leap_27 : decode b_Cmp_leap 27 = .ok (.ifCond .ne 22, 3) := by decide +kernel
theorem d_Cmp_leap_30 : decode b_Cmp_leap 30 = .ok (.aload_n 0, 1) := by decide +kernel
theorem d_Cmp_leap_31 : decode b_Cmp_leap 31 = .ok (.getfield 18, 3) := by decide +kernel
theorem d_Cmp_leap_34 : decode b_Cmp_leap 34 = .ok (.bipush 9, 2) := by decide +kernel
theorem d_Cmp_leap_36 : decode b_Cmp_leap 36 = .ok (.aload_n 0, 1) := by decide +kernel
theorem d_Cmp_leap_37 : decode b_Cmp_leap 37 = .ok (.getfield 18, 3) := by decide +kernel
theorem d_Cmp_leap_40 : decode b_Cmp_leap 40 = .ok (.getfield 201, 3) := by decide +kernel
theorem d_Cmp_leap_43 : decode b_Cmp_leap 43 = .ok (.invokevirtual 170, 3) := by decide +kernel
theorem d_Cmp_leap_46 : decode b_Cmp_leap 46 = .ok (.goto 48, 3) := by decide +kernel
theorem d_Cmp_leap_49 : decode b_Cmp_leap 49 = .ok (.iload_n 2, 1) := by decide +kernel
theorem d_Cmp_leap_50 : decode b_Cmp_leap 50 = .ok (.ifCond .eq 25, 3) := by decide +kernel
theorem d_Cmp_leap_53 : decode b_Cmp_leap 53 = .ok (.aload_n 0, 1) := by decide +kernel
theorem d_Cmp_leap_54 : decode b_Cmp_leap 54 = .ok (.aload_n 0, 1) := by decide +kernel
theorem d_Cmp_leap_55 : decode b_Cmp_leap 55 = .ok (.getfield 26, 3) := by decide +kernel
theorem d_Cmp_leap_58 : decode b_Cmp_leap 58 = .ok (.bipush 15, 2) := by decide +kernel
theorem d_Cmp_leap_60 : decode b_Cmp_leap 60 = .ok (.aload_n 0, 1) := by decide +kernel
theorem d_Cmp_leap_61 : decode b_Cmp_leap 61 = .ok (.getfield 148, 3) := by decide +kernel
theorem d_Cmp_leap_64 : decode b_Cmp_leap 64 = .ok (.iconst 0, 1) := by decide +kernel
theorem d_Cmp_leap_65 : decode b_Cmp_leap 65 = .ok (.iconst 0, 1) := by decide +kernel
theorem d_Cmp_leap_66 : decode b_Cmp_leap 66 = .ok (.invokevirtual 176, 3) := by decide +kernel
theorem d_Cmp_leap_69 : decode b_Cmp_leap 69 = .ok (.putfield 148, 3) := by decide +kernel
theorem d_Cmp_leap_72 : decode b_Cmp_leap 72 = .ok (.goto 22, 3) := by decide +kernel
theorem d_Cmp_leap_75 : decode b_Cmp_leap 75 = .ok (.aload_n 0, 1) := by decide +kernel
theorem d_Cmp_leap_76 : decode b_Cmp_leap 76 = .ok (.aload_n 0, 1) := by decide +kernel
theorem d_Cmp_leap_77 : decode b_Cmp_leap 77 = .ok (.getfield 26, 3) := by decide +kernel
theorem d_Cmp_leap_80 : decode b_Cmp_leap 80 = .ok (.bipush 15, 2) := by decide +kernel
theorem d_Cmp_leap_82 : decode b_Cmp_leap 82 = .ok (.aload_n 0, 1) := by decide +kernel
theorem d_Cmp_leap_83 : decode b_Cmp_leap 83 = .ok (.getfield 151, 3) := by decide +kernel
theorem d_Cmp_leap_86 : decode b_Cmp_leap 86 = .ok (.iconst 0, 1) := by decide +kernel
theorem d_Cmp_leap_87 : decode b_Cmp_leap 87 = .ok (.iconst 0, 1) := by decide +kernel
theorem d_Cmp_leap_88 : decode b_Cmp_leap 88 = .ok (.invokevirtual 176, 3) := by decide +kernel
theorem d_Cmp_leap_91 : decode b_Cmp_leap 91 = .ok (.putfield 151, 3) := by decide +kernel
theorem d_Cmp_leap_94 : decode b_Cmp_leap 94 = .ok (.aload_n 0, 1) := by decide +kernel
theorem d_Cmp_leap_95 : decode b_Cmp_leap 95 = .ok (.getfield 18, 3) := by decide +kernel
theorem d_Cmp_leap_98 : decode b_Cmp_leap 98 = .ok (.invokevirtual 186, 3) := by decide +kernel
theorem d_Cmp_leap_101 : decode b_Cmp_leap 101 = .ok (.aload_n 0, 1) := by decide +kernel
theorem d_Cmp_leap_102 : decode b_Cmp_leap 102 = .ok (.getfield 18, 3) := by decide +kernel
theorem d_Cmp_leap_105 : decode b_Cmp_leap 105 = .ok (.bipush 59, 2) := by decide +kernel
theorem d_Cmp_leap_107 : decode b_Cmp_leap 107 = .ok (.invokevirtual 195, 3) := by decide +kernel
theorem d_Cmp_leap_110 : decode b_Cmp_leap 110 = .ok (.return_, 1) := by decide +kernel
theorem q_Cmp_leap : px_y y_Cmp_leap 1 := by unfold px_y; decide +kernel
set_option maxHeartbeats 4000000 in
set_option maxRecDepth 100000 in
theorem c_tc_leap (l : Launch) (D : va_G) (cs : Nat → ClassId) (he : Nat) (re : Nat → Nat) (eo : Nat → Option Nat) (ef : Nat → Int32) (ea : Nat → Nat → Int32) (eg : Nat → Nat → Option Nat) (hc : Nat) (hs : Nat) (ra : Nat → Nat) (ca : Nat → Nat → Int32) (fo : Option Nat) (cf : Nat → Int32) (rt : Nat → Nat) (ot : Nat → Option Nat) (ta : Nat → Nat → Int32) (tg : Nat → Nat → Option Nat) (tf : Nat → Int32) (rp : Nat → Nat) (fu : Nat) (cn : Nat) (fn : Nat) (ft : Nat → Int32) (fp : Nat → Int32) (cd : Nat → Int32) (P : va_W) (col : Nat → Nat) (p0 : Int32)  (hinv0 : CmOk P (cf 7) (cf 8) (cf 10) (ca 6) fo) (hinv1 : CurOk (tf 10) (tf 13) (tf 14) (tf 15) (tf 17) (ta 0)) (g0 : cn % 4 = 0) (g1 : cn ≤ 100000) (g2 : (tf 15).toInt = 0) (g3 : (tf 13).toInt + 1 < (tf 10).toInt) (hpk : Pok cn (fp 3) cd) (hcolI : ColOk cn cd (fp 3) col) (hch1I : Chp cn col 1 (cf 16)) (hch2I : Chp cn col 2 (cf 17)) : MetV l y_Cmp_leap b_Cmp_leap 3 D cs 2 60 (0) (0) [.ref hc, .int p0] [wd_Exp cs he re eo ef ea eg, wd_Cmp cs hc (fun k => if k = 0 then re 0 else if k = 1 then re 1 else if k = 2 then he else if k = 3 then re 2 else if k = 4 then hs else ra k) (fun k => if k = 9 then fo else none) cf ca (fun _ _ => none), wd_Tok cs (re 0) rt ot tf ta tg, wd_Prg cs (re 2) rp (fun k => if k = 2 then (some fu) else none) fp (fun _ _ => 0) (fun _ _ => none), [((rp 1), .inl (cs 0, cn, .inl cd))], [(fu, .inl (cs 0, fn, .inl ft))], P] (fun _ => True) (fun ps => ∃ (cf' : Nat → Int32) (tf' : Nat → Int32) (fp' : Nat → Int32) (cd' : Nat → Int32) (col' : Nat → Nat), (ps = [wd_Exp cs he re eo ef ea eg, wd_Cmp cs hc (fun k => if k = 0 then re 0 else if k = 1 then re 1 else if k = 2 then he else if k = 3 then re 2 else if k = 4 then hs else ra k) (fun k => if k = 9 then fo else none) cf' ca (fun _ _ => none), wd_Tok cs (re 0) rt ot tf' ta tg, wd_Prg cs (re 2) rp (fun k => if k = 2 then (some fu) else none) fp' (fun _ _ => 0) (fun _ _ => none), [((rp 1), .inl (cs 0, cn, .inl cd'))], [(fu, .inl (cs 0, fn, .inl ft))], P]) ∧ (CmOk P (cf' 7) (cf' 8) (cf' 10) (ca 6) fo) ∧ (CurOk (tf' 10) (tf' 13) (tf' 14) (tf' 15) (tf' 17) (ta 0)) ∧ (Agr (fp 3) col col') ∧ ((tf' 10).toInt = (tf 10).toInt) ∧ ((tf 15).toInt ≤ (tf' 15).toInt) ∧ ((tf 13).toInt ≤ (tf' 13).toInt) ∧ ((tf' 13).toInt ≤ (tf 13).toInt + 3000 - 3000 * (tf 15).toInt) ∧ ((tf' 14).toInt ≤ (tf 14).toInt + 4294967296 * (tf' 15).toInt) ∧ ((tf 14).toInt ≤ (tf' 14).toInt + 4294967296 * (tf' 15).toInt) ∧ (Prel cn (fp 3) cd (fp' 3) cd') ∧ (ColOk cn cd' (fp' 3) col') ∧ (Chp cn col' 1 (cf' 16)) ∧ (Chp cn col' 2 (cf' 17)) ∧ ((tf 13).toInt + 1 ≤ (tf' 13).toInt + (tf' 15).toInt) ∧ ((cf' 7).toInt = (cf 7).toInt) ∧ ((cf' 8).toInt = (cf 8).toInt) ∧ ((cf' 10).toInt = (cf 10).toInt) ∧ ((fp' 3).toInt ≤ (fp 3).toInt + 190 * ((tf' 13).toInt - (tf 13).toInt) + 300000 * (tf' 15).toInt)) := by
  refine px_enter (by decide) (Nat.le_of_ble_eq_true rfl) ?_
  intro p e s m below meth c A ls hAe S hr hlk hnm hA hT hX hw hl
  have hl : lv_has ls 3 [(0, .ref hc), (1, .int p0)] := hl
  have lp0 := Int32.le_toInt p0
  have up0 := Int32.toInt_lt p0
  have cst0 : (0 : Int32).toInt = 0 := rfl
  have cst1 : (1 : Int32).toInt = 1 := rfl
  have cst9 : (9 : Int32).toInt = 9 := rfl
  have cst13 : (13 : Int32).toInt = 13 := rfl
  have cst15 : (15 : Int32).toInt = 15 := rfl
  have cst59 : (59 : Int32).toInt = 59 := rfl
  obtain ⟨⟨q1, q2⟩, ⟨q3, q4⟩, ⟨q5, q6⟩, hct, hfo⟩ := hinv0
  obtain ⟨⟨o1, o2⟩, ⟨o3, o4⟩, ⟨o5, o6⟩, o7, o8, hlast⟩ := hinv1; replace o8 := cur8 o5 o6 o8
  have la_tf := Int32.le_toInt (tf 14)
  have ua_tf := Int32.toInt_lt (tf 14)
  have hrel := Prel.rf hpk
  have pz0 := hrel.nm
  have hcol := hcolI
  have hch1 := hch1I
  have hch2 := hch2I
  have hagr : Agr (fp 3) col col := agr_rf
  have hlk16 := chp_lk hcolI hch1I (by decide) (by omega) (by omega) (by omega)
  have hlk17 := chp_lk hcolI hch2I (by decide) (by omega) (by omega) (by omega)
  have J94 : ∀ (cf_94 : Nat → Int32) (tf_94 : Nat → Int32) (fp_94 : Nat → Int32) (cd_94 : Nat → Int32) (col_94 : Nat → Nat) (H : Heap) (locs : List Loc) (ls : Array Slot), (CmOk P (cf_94 7) (cf_94 8) (cf_94 10) (ca 6) fo) → (CurOk (tf_94 10) (tf_94 13) (tf_94 14) (tf_94 15) (tf_94 17) (ta 0)) → (Agr (fp 3) col col_94) → ((tf_94 10).toInt = (tf 10).toInt) → ((tf 15).toInt ≤ (tf_94 15).toInt) → ((tf 13).toInt ≤ (tf_94 13).toInt) → ((tf_94 13).toInt ≤ (tf 13).toInt + 3000 - 3000 * (tf 15).toInt) → ((tf_94 14).toInt ≤ (tf 14).toInt + 4294967296 * (tf_94 15).toInt) → ((tf 14).toInt ≤ (tf_94 14).toInt + 4294967296 * (tf_94 15).toInt) → (Prel cn (fp 3) cd (fp_94 3) cd_94) → (ColOk cn cd_94 (fp_94 3) col_94) → (Chp cn col_94 1 (cf_94 16)) → (Chp cn col_94 2 (cf_94 17)) → ((cf_94 7).toInt = (cf 7).toInt) → ((cf_94 8).toInt = (cf 8).toInt) → ((cf_94 10).toInt = (cf 10).toInt) → ((tf_94 13).toInt = (tf 13).toInt) → ((tf_94 15).toInt = (tf 15).toInt) → ((fp_94 3).toInt ≤ (fp 3).toInt + 190 * ((tf_94 13).toInt - (tf 13).toInt) + 8 + 300000 * (tf_94 15).toInt) → pw D A s.heap H locs [wd_Exp cs he re eo ef ea eg, wd_Cmp cs hc (fun k => if k = 0 then re 0 else if k = 1 then re 1 else if k = 2 then he else if k = 3 then re 2 else if k = 4 then hs else ra k) (fun k => if k = 9 then fo else none) cf_94 ca (fun _ _ => none), wd_Tok cs (re 0) rt ot tf_94 ta tg, wd_Prg cs (re 2) rp (fun k => if k = 2 then (some fu) else none) fp_94 (fun _ _ => 0) (fun _ _ => none), [((rp 1), .inl (cs 0, cn, .inl cd_94))], [(fu, .inl (cs 0, fn, .inl ft))], P] → lv_has ls 3 [(0, .ref hc), (1, .int p0)] → W p l e { frames := 2, cells := 0, slots := 0, locals := 60 } s m [.ref hc, .int p0].toArray below meth c H locs 0 0 (MQ below (va_Qv (fun ps => ∃ (cf' : Nat → Int32) (tf' : Nat → Int32) (fp' : Nat → Int32) (cd' : Nat → Int32) (col' : Nat → Nat), (ps = [wd_Exp cs he re eo ef ea eg, wd_Cmp cs hc (fun k => if k = 0 then re 0 else if k = 1 then re 1 else if k = 2 then he else if k = 3 then re 2 else if k = 4 then hs else ra k) (fun k => if k = 9 then fo else none) cf' ca (fun _ _ => none), wd_Tok cs (re 0) rt ot tf' ta tg, wd_Prg cs (re 2) rp (fun k => if k = 2 then (some fu) else none) fp' (fun _ _ => 0) (fun _ _ => none), [((rp 1), .inl (cs 0, cn, .inl cd'))], [(fu, .inl (cs 0, fn, .inl ft))], P]) ∧ (CmOk P (cf' 7) (cf' 8) (cf' 10) (ca 6) fo) ∧ (CurOk (tf' 10) (tf' 13) (tf' 14) (tf' 15) (tf' 17) (ta 0)) ∧ (Agr (fp 3) col col') ∧ ((tf' 10).toInt = (tf 10).toInt) ∧ ((tf 15).toInt ≤ (tf' 15).toInt) ∧ ((tf 13).toInt ≤ (tf' 13).toInt) ∧ ((tf' 13).toInt ≤ (tf 13).toInt + 3000 - 3000 * (tf 15).toInt) ∧ ((tf' 14).toInt ≤ (tf 14).toInt + 4294967296 * (tf' 15).toInt) ∧ ((tf 14).toInt ≤ (tf' 14).toInt + 4294967296 * (tf' 15).toInt) ∧ (Prel cn (fp 3) cd (fp' 3) cd') ∧ (ColOk cn cd' (fp' 3) col') ∧ (Chp cn col' 1 (cf' 16)) ∧ (Chp cn col' 2 (cf' 17)) ∧ ((tf 13).toInt + 1 ≤ (tf' 13).toInt + (tf' 15).toInt) ∧ ((cf' 7).toInt = (cf 7).toInt) ∧ ((cf' 8).toInt = (cf 8).toInt) ∧ ((cf' 10).toInt = (cf 10).toInt) ∧ ((fp' 3).toInt ≤ (fp 3).toInt + 190 * ((tf' 13).toInt - (tf 13).toInt) + 300000 * (tf' 15).toInt)) (pc_B D (va_A ([wd_Exp cs he re eo ef ea eg, wd_Cmp cs hc (fun k => if k = 0 then re 0 else if k = 1 then re 1 else if k = 2 then he else if k = 3 then re 2 else if k = 4 then hs else ra k) (fun k => if k = 9 then fo else none) cf ca (fun _ _ => none), wd_Tok cs (re 0) rt ot tf ta tg, wd_Prg cs (re 2) rp (fun k => if k = 2 then (some fu) else none) fp (fun _ _ => 0) (fun _ _ => none), [((rp 1), .inl (cs 0, cn, .inl cd))], [(fu, .inl (cs 0, fn, .inl ft))], P] : List va_W).flatten s.heap.size)) (va_A ([wd_Exp cs he re eo ef ea eg, wd_Cmp cs hc (fun k => if k = 0 then re 0 else if k = 1 then re 1 else if k = 2 then he else if k = 3 then re 2 else if k = 4 then hs else ra k) (fun k => if k = 9 then fo else none) cf ca (fun _ _ => none), wd_Tok cs (re 0) rt ot tf ta tg, wd_Prg cs (re 2) rp (fun k => if k = 2 then (some fu) else none) fp (fun _ _ => 0) (fun _ _ => none), [((rp 1), .inl (cs 0, cn, .inl cd))], [(fu, .inl (cs 0, fn, .inl ft))], P] : List va_W).flatten s.heap.size)) [.ref hc, .int p0].toArray s 0 0 A) (F0 m 94 ls []) := by
    intro cf_94 tf_94 fp_94 cd_94 col_94 H locs ls hi94_0 hi94_1 k94_0 k94_1 k94_2 k94_3 k94_4 k94_5 k94_6 k94_7 k94_8 k94_9 k94_10 k94_11 k94_12 k94_13 k94_14 k94_15 k94_16 hw hl
    obtain ⟨⟨q1, q2⟩, ⟨q3, q4⟩, ⟨q5, q6⟩, hct, hfo⟩ := hi94_0
    obtain ⟨⟨o1, o2⟩, ⟨o3, o4⟩, ⟨o5, o6⟩, o7, o8, hlast⟩ := hi94_1; replace o8 := cur8 o5 o6 o8
    have la_tf_94 := Int32.le_toInt (tf_94 14)
    have ua_tf_94 := Int32.toInt_lt (tf_94 14)
    have hagr := k94_0
    have hrel := k94_7
    have pz94 := hrel.nm
    have hcol := k94_8
    have hch1 := k94_9
    have hch2 := k94_10
    refine lv_aload_n S.x S.b d_Cmp_leap_94 rfl (lv_at hl 0 rfl) ?_
    refine px_get S k_Cmp hT hw 1 0 0 (v := .ref (re 0)) rfl rfl rfl (by decide) m2_149 d_Cmp_leap_95 ?_
    have hw : pw D A s.heap _ _ [wd_Exp cs he re eo ef ea eg, wd_Cmp cs hc (fun k => if k = 0 then re 0 else if k = 1 then re 1 else if k = 2 then he else if k = 3 then re 2 else if k = 4 then hs else ra k) (fun k => if k = 9 then fo else none) cf_94 ca (fun _ _ => none), wd_Prg cs (re 2) rp (fun k => if k = 2 then (some fu) else none) fp_94 (fun _ _ => 0) (fun _ _ => none), [((rp 1), .inl (cs 0, cn, .inl cd_94))], [(fu, .inl (cs 0, fn, .inl ft))], P, wd_Tok cs (re 0) rt ot tf_94 ta tg] := hw.sub [0, 1, 3, 4, 5, 6, 2] rfl rfl
    refine px_callv (pr := [wd_Exp cs he re eo ef ea eg, wd_Cmp cs hc (fun k => if k = 0 then re 0 else if k = 1 then re 1 else if k = 2 then he else if k = 3 then re 2 else if k = 4 then hs else ra k) (fun k => if k = 9 then fo else none) cf_94 ca (fun _ _ => none), wd_Prg cs (re 2) rp (fun k => if k = 2 then (some fu) else none) fp_94 (fun _ _ => 0) (fun _ _ => none), [((rp 1), .inl (cs 0, cn, .inl cd_94))], [(fu, .inl (cs 0, fn, .inl ft))], P]) (px_runV (As := []) (rest := []) S (c_tk_step l D cs (re 0) rt ot ta tg tf_94   (show CurOk (tf_94 10) (tf_94 13) (tf_94 14) (tf_94 15) (tf_94 17) (ta 0) from ⟨⟨by omega, by omega⟩, ⟨by omega, by omega⟩, ⟨by omega, by omega⟩, by omega, by omega, last_eq hlast (by omega)⟩) _) hT (pr := [wd_Exp cs he re eo ef ea eg, wd_Cmp cs hc (fun k => if k = 0 then re 0 else if k = 1 then re 1 else if k = 2 then he else if k = 3 then re 2 else if k = 4 then hs else ra k) (fun k => if k = 9 then fo else none) cf_94 ca (fun _ _ => none), wd_Prg cs (re 2) rp (fun k => if k = 2 then (some fu) else none) fp_94 (fun _ _ => 0) (fun _ _ => none), [((rp 1), .inl (cs 0, cn, .inl cd_94))], [(fu, .inl (cs 0, fn, .inl ft))], P]) (pcs := [wd_Tok cs (re 0) rt ot tf_94 ta tg]) hw px_X.tt (px_recv hT hw 6 0 rfl rfl rfl) m4_120 m4_117 m4_118 m4_119 m1_2 q_Tok_step ⟨Nat.le_of_ble_eq_true rfl, Nat.le_of_ble_eq_true rfl⟩ hl.1 rfl (Nat.le_of_ble_eq_true rfl) d_Cmp_leap_98 ⟨Nat.le_of_ble_eq_true rfl, Nat.le_of_ble_eq_true rfl⟩) hw hA (fun p2 H locs hp2 hw => ?_)
    obtain ⟨tf1, rfl, h10, e4, e5, e6, e7, e8, e9⟩ := hp2
    obtain ⟨⟨o1, o2⟩, ⟨o3, o4⟩, ⟨o5, o6⟩, o7, o8, hlast⟩ := h10
    have la_tf1 := Int32.le_toInt (tf1 14)
    have ua_tf1 := Int32.toInt_lt (tf1 14)
    have e4 : (tf1 10).toInt = (tf_94 10).toInt := e4
    have e5 : (tf1 14).toInt = (tf_94 14).toInt := e5
    have e6 : (tf1 15).toInt = (tf_94 15).toInt := e6
    have e7 : (tf_94 13).toInt ≤ (tf1 13).toInt := e7
    have e8 : (tf1 13).toInt ≤ (tf_94 13).toInt + 1 := e8
    replace e9 : (tf_94 10).toInt - (tf_94 13).toInt - 1 ≤ 2100 * ((tf1 13).toInt - (tf_94 13).toInt) := by have := Int32.le_toInt (tf_94 13); have := Int32.toInt_lt (tf_94 13); have := Int32.le_toInt (tf_94 10); have := Int32.toInt_lt (tf_94 10); have := Int32.le_toInt (tf1 13); have := Int32.toInt_lt (tf1 13); omega
    have hw : pw D A s.heap H locs [wd_Exp cs he re eo ef ea eg, wd_Cmp cs hc (fun k => if k = 0 then re 0 else if k = 1 then re 1 else if k = 2 then he else if k = 3 then re 2 else if k = 4 then hs else ra k) (fun k => if k = 9 then fo else none) cf_94 ca (fun _ _ => none), wd_Prg cs (re 2) rp (fun k => if k = 2 then (some fu) else none) fp_94 (fun _ _ => 0) (fun _ _ => none), [((rp 1), .inl (cs 0, cn, .inl cd_94))], [(fu, .inl (cs 0, fn, .inl ft))], P, wd_Tok cs (re 0) rt ot tf1 ta tg] := hw
    refine lv_aload_n S.x S.b d_Cmp_leap_101 rfl (lv_at hl 0 rfl) ?_
    refine px_get S k_Cmp hT hw 1 0 0 (v := .ref (re 0)) rfl rfl rfl (by decide) m2_149 d_Cmp_leap_102 ?_
    refine lv_bipush (v := 59) S.x S.b d_Cmp_leap_105 (by decide) ?_
    refine px_callv (pr := [wd_Exp cs he re eo ef ea eg, wd_Cmp cs hc (fun k => if k = 0 then re 0 else if k = 1 then re 1 else if k = 2 then he else if k = 3 then re 2 else if k = 4 then hs else ra k) (fun k => if k = 9 then fo else none) cf_94 ca (fun _ _ => none), wd_Prg cs (re 2) rp (fun k => if k = 2 then (some fu) else none) fp_94 (fun _ _ => 0) (fun _ _ => none), [((rp 1), .inl (cs 0, cn, .inl cd_94))], [(fu, .inl (cs 0, fn, .inl ft))], P]) (px_runV (As := [.int 59]) (rest := []) S (c_tk_expect l D cs (re 0) rt ot ta tg tf1 59  (show CurOk (tf1 10) (tf1 13) (tf1 14) (tf1 15) (tf1 17) (ta 0) from ⟨⟨by omega, by omega⟩, ⟨by omega, by omega⟩, ⟨by omega, by omega⟩, by omega, by omega, last_eq hlast (by omega)⟩) (show (59 : Int) ≠ 0 from by omega) (show (59 : Int) ≠ 19 from by omega) _) hT (pr := [wd_Exp cs he re eo ef ea eg, wd_Cmp cs hc (fun k => if k = 0 then re 0 else if k = 1 then re 1 else if k = 2 then he else if k = 3 then re 2 else if k = 4 then hs else ra k) (fun k => if k = 9 then fo else none) cf_94 ca (fun _ _ => none), wd_Prg cs (re 2) rp (fun k => if k = 2 then (some fu) else none) fp_94 (fun _ _ => 0) (fun _ _ => none), [((rp 1), .inl (cs 0, cn, .inl cd_94))], [(fu, .inl (cs 0, fn, .inl ft))], P]) (pcs := [wd_Tok cs (re 0) rt ot tf1 ta tg]) hw px_X.tt (px_recv hT hw 6 0 rfl rfl rfl) m4_140 m4_137 m4_138 m4_139 m1_2 q_Tok_expect ⟨Nat.le_of_ble_eq_true rfl, Nat.le_of_ble_eq_true rfl⟩ hl.1 rfl (Nat.le_of_ble_eq_true rfl) d_Cmp_leap_107 ⟨Nat.le_of_ble_eq_true rfl, Nat.le_of_ble_eq_true rfl⟩) hw hA (fun p12 H locs hp12 hw => ?_)
    obtain ⟨tf11, rfl, h18, e14, e15, e16, e17⟩ := hp12
    obtain ⟨⟨o1, o2⟩, ⟨o3, o4⟩, ⟨o5, o6⟩, o7, o8, hlast⟩ := h18
    have la_tf11 := Int32.le_toInt (tf11 14)
    have ua_tf11 := Int32.toInt_lt (tf11 14)
    have e14 : (tf11 10).toInt = (tf1 10).toInt := e14
    have e15 : (tf11 14).toInt = (tf1 14).toInt := e15
    have e16 : (tf1 15).toInt ≤ (tf11 15).toInt := e16
    have e17 : (tf11 13).toInt = (tf1 13).toInt + 1 - (tf11 15).toInt := e17
    have hw : pw D A s.heap H locs [wd_Exp cs he re eo ef ea eg, wd_Cmp cs hc (fun k => if k = 0 then re 0 else if k = 1 then re 1 else if k = 2 then he else if k = 3 then re 2 else if k = 4 then hs else ra k) (fun k => if k = 9 then fo else none) cf_94 ca (fun _ _ => none), wd_Prg cs (re 2) rp (fun k => if k = 2 then (some fu) else none) fp_94 (fun _ _ => 0) (fun _ _ => none), [((rp 1), .inl (cs 0, cn, .inl cd_94))], [(fu, .inl (cs 0, fn, .inl ft))], P, wd_Tok cs (re 0) rt ot tf11 ta tg] := hw
    have hw : pw D A s.heap _ _ [wd_Exp cs he re eo ef ea eg, wd_Cmp cs hc (fun k => if k = 0 then re 0 else if k = 1 then re 1 else if k = 2 then he else if k = 3 then re 2 else if k = 4 then hs else ra k) (fun k => if k = 9 then fo else none) cf_94 ca (fun _ _ => none), wd_Tok cs (re 0) rt ot tf11 ta tg, wd_Prg cs (re 2) rp (fun k => if k = 2 then (some fu) else none) fp_94 (fun _ _ => 0) (fun _ _ => none), [((rp 1), .inl (cs 0, cn, .inl cd_94))], [(fu, .inl (cs 0, fn, .inl ft))], P] := hw.sub [0, 1, 6, 2, 3, 4, 5] rfl rfl
    exact px_vret S hr hlk hAe hw (Nat.le_of_ble_eq_true rfl) (Nat.le_of_ble_eq_true rfl) (⟨cf_94, tf11, fp_94, cd_94, col_94, rfl, (show CmOk P (cf_94 7) (cf_94 8) (cf_94 10) (ca 6) fo from ⟨⟨by omega, by omega⟩, ⟨by omega, by omega⟩, ⟨by omega, by omega⟩, (by first | exact hct | exact fun j hj => hct j (by omega) | exact hctn), (by first | exact hfo | exact hpg.fy hfo | exact fy_none | assumption)⟩), (show CurOk (tf11 10) (tf11 13) (tf11 14) (tf11 15) (tf11 17) (ta 0) from ⟨⟨by omega, by omega⟩, ⟨by omega, by omega⟩, ⟨by omega, by omega⟩, by omega, by omega, last_eq hlast (by omega)⟩), (show Agr (fp 3) col col_94 from hagr), (show (tf11 10).toInt = (tf 10).toInt from by omega), (show (tf 15).toInt ≤ (tf11 15).toInt from by omega), (show (tf 13).toInt ≤ (tf11 13).toInt from by omega), (show (tf11 13).toInt ≤ (tf 13).toInt + 3000 - 3000 * (tf 15).toInt from by omega), (show (tf11 14).toInt ≤ (tf 14).toInt + 4294967296 * (tf11 15).toInt from by omega), (show (tf 14).toInt ≤ (tf11 14).toInt + 4294967296 * (tf11 15).toInt from by omega), (show Prel cn (fp 3) cd (fp_94 3) cd_94 from hrel), (show ColOk cn cd_94 (fp_94 3) col_94 from hcol), (show Chp cn col_94 1 (cf_94 16) from (by first | exact hch1 | exact chp_eq hch1 (by omega) | exact chp_m (by omega) | exact chp_m (by decide))), (show Chp cn col_94 2 (cf_94 17) from (by first | exact hch2 | exact chp_eq hch2 (by omega) | exact chp_m (by omega) | exact chp_m (by decide))), (show (tf 13).toInt + 1 ≤ (tf11 13).toInt + (tf11 15).toInt from by omega), (show (cf_94 7).toInt = (cf 7).toInt from by omega), (show (cf_94 8).toInt = (cf 8).toInt from by omega), (show (cf_94 10).toInt = (cf 10).toInt from by omega), (show (fp_94 3).toInt ≤ (fp 3).toInt + 190 * ((tf11 13).toInt - (tf 13).toInt) + 300000 * (tf11 15).toInt from by omega)⟩) d_Cmp_leap_110
  refine lv_iload_n S.x S.b d_Cmp_leap_0 rfl (lv_at hl 1 rfl) ?_
  refine lv_bipush (v := 13) S.x S.b d_Cmp_leap_1 (by decide) ?_
  refine lv_icmp_ne (tgt := 10) S.x S.b d_Cmp_leap_3 (by decide) (fun c19 => ?_) (fun c19 => ?_)
  · have nc19 : ¬ p0.toInt = (13 : Int) := mt (i_eq (x := p0) (y := 13)).mpr c19
    refine lv_iconst (v := 0) S.x S.b d_Cmp_leap_10 (by decide) ?_
    refine lv_istore_n (lv' := [(2, .int 0), (0, .ref hc), (1, .int p0)]) S.x S.b d_Cmp_leap_11 rfl hl (by decide) rfl (fun ls hl => ?_)
    refine lv_iload_n S.x S.b d_Cmp_leap_12 rfl (lv_at hl 0 rfl) ?_
    refine lv_if_eq (tgt := 23) S.x S.b d_Cmp_leap_13 (by decide) (fun c20 => ?_) (fun c20 => ?_)
    ·
      refine lv_aload_n S.x S.b d_Cmp_leap_23 rfl (lv_at hl 1 rfl) ?_
      refine px_get S k_Cmp hT hw 1 0 14 (v := .int (cf 14)) rfl rfl rfl (by decide) m2_163 d_Cmp_leap_24 ?_
      refine lv_if_ne (tgt := 49) S.x S.b d_Cmp_leap_27 (by decide) (fun c21 => ?_) (fun c21 => ?_)
      · have nc21 : ¬ (cf 14).toInt = (0 : Int) := mt (i_eq (x := (cf 14)) (y := 0)).mpr c21
        refine lv_iload_n S.x S.b d_Cmp_leap_49 rfl (lv_at hl 0 rfl) ?_
        refine lv_if_eq (tgt := 75) S.x S.b d_Cmp_leap_50 (by decide) (fun c22 => ?_) (fun c22 => ?_)
        ·
          refine lv_aload_n S.x S.b d_Cmp_leap_75 rfl (lv_at hl 1 rfl) ?_
          refine lv_aload_n S.x S.b d_Cmp_leap_76 rfl (lv_at hl 1 rfl) ?_
          refine px_get S k_Cmp hT hw 1 0 3 (v := .ref (re 2)) rfl rfl rfl (by decide) m2_152 d_Cmp_leap_77 ?_
          refine lv_bipush (v := 15) S.x S.b d_Cmp_leap_80 (by decide) ?_
          refine lv_aload_n S.x S.b d_Cmp_leap_82 rfl (lv_at hl 1 rfl) ?_
          refine px_get S k_Cmp hT hw 1 0 17 (v := .int (cf 17)) rfl rfl rfl (by decide) m2_166 d_Cmp_leap_83 ?_
          refine lv_iconst (v := 0) S.x S.b d_Cmp_leap_86 (by decide) ?_
          refine lv_iconst (v := 0) S.x S.b d_Cmp_leap_87 (by decide) ?_
          have hw : pw D A s.heap _ _ [wd_Exp cs he re eo ef ea eg, wd_Cmp cs hc (fun k => if k = 0 then re 0 else if k = 1 then re 1 else if k = 2 then he else if k = 3 then re 2 else if k = 4 then hs else ra k) (fun k => if k = 9 then fo else none) cf ca (fun _ _ => none), wd_Tok cs (re 0) rt ot tf ta tg, [(fu, .inl (cs 0, fn, .inl ft))], P, wd_Prg cs (re 2) rp (fun k => if k = 2 then (some fu) else none) fp (fun _ _ => 0) (fun _ _ => none), [((rp 1), .inl (cs 0, cn, .inl cd))]] := hw.sub [0, 1, 2, 5, 6, 3, 4] rfl rfl
          refine px_calli (pr := [wd_Exp cs he re eo ef ea eg, wd_Cmp cs hc (fun k => if k = 0 then re 0 else if k = 1 then re 1 else if k = 2 then he else if k = 3 then re 2 else if k = 4 then hs else ra k) (fun k => if k = 9 then fo else none) cf ca (fun _ _ => none), wd_Tok cs (re 0) rt ot tf ta tg, [(fu, .inl (cs 0, fn, .inl ft))], P]) (px_runV (As := [.int 15, .int (cf 17), .int 0, .int 0]) (rest := [.ref hc]) S (c_pe_emitc l D cs (re 2) rp (some fu) cn fp cd 15 (cf 17) 0 0  (show cn % 4 = 0 from by omega) (show cn ≤ 100000 from by omega) hrel.1 (jop_lk (by decide) (by first | exact lk_m1 | assumption | exact lk_mk (by omega))) _) hT (pr := [wd_Exp cs he re eo ef ea eg, wd_Cmp cs hc (fun k => if k = 0 then re 0 else if k = 1 then re 1 else if k = 2 then he else if k = 3 then re 2 else if k = 4 then hs else ra k) (fun k => if k = 9 then fo else none) cf ca (fun _ _ => none), wd_Tok cs (re 0) rt ot tf ta tg, [(fu, .inl (cs 0, fn, .inl ft))], P]) (pcs := [wd_Prg cs (re 2) rp (fun k => if k = 2 then (some fu) else none) fp (fun _ _ => 0) (fun _ _ => none), [((rp 1), .inl (cs 0, cn, .inl cd))]]) hw px_X.tt (px_recv hT hw 5 0 rfl rfl rfl) m4_181 m5_166 m4_179 m4_180 m1_16 q_Prg_emit ⟨Nat.le_of_ble_eq_true rfl, Nat.le_of_ble_eq_true rfl⟩ hl.1 rfl (Nat.le_of_ble_eq_true rfl) d_Cmp_leap_88 ⟨Nat.le_of_ble_eq_true rfl, Nat.le_of_ble_eq_true rfl⟩) hw hA (fun v28 p27 H locs hp27 hw => ?_)
          obtain ⟨fp25, cd26, rfl, hv_v28, hem, hsz, k0fp25, k4fp25, k5fp25, hec⟩ := hp27
          have tv_v28 : v28.toInt = (fp 3).toInt := by rw [hv_v28]
          obtain ⟨col29, hcolN, hchN, hchD, hagN⟩ := chain_add (c := 2) (d := 1) (p := (cf 17)) (q := (cf 16)) hcol (by first | exact hch2 | exact chp_eq hch2 (by omega)) (by first | exact hch1 | exact chp_eq hch1 (by omega)) hem hsz hec (by decide) (by decide) (by decide) (by omega) (by omega)
          have pm30 := hem.2.1
          have hrel := hrel.tr hem
          have pz31 := hrel.nm
          have hcol := hcolN
          have hagr := hagr.tr hagN (by omega)
          have hch2 : Chp cn col29 2 v28 := by rw [hv_v28]; exact hchN
          have hch1 := hchD
          have hsl_fp25 : (fp25 3).toInt ≤ (fp 3).toInt + 4 ∧ (fp 3).toInt ≤ (fp25 3).toInt := by omega
          clear hsz hec
          have hw : pw D A s.heap H locs [wd_Exp cs he re eo ef ea eg, wd_Cmp cs hc (fun k => if k = 0 then re 0 else if k = 1 then re 1 else if k = 2 then he else if k = 3 then re 2 else if k = 4 then hs else ra k) (fun k => if k = 9 then fo else none) cf ca (fun _ _ => none), wd_Tok cs (re 0) rt ot tf ta tg, [(fu, .inl (cs 0, fn, .inl ft))], P, wd_Prg cs (re 2) rp (fun k => if k = 2 then (some fu) else none) fp25 (fun _ _ => 0) (fun _ _ => none), [((rp 1), .inl (cs 0, cn, .inl cd26))]] := hw
          have lv28 := Int32.le_toInt v28
          have uv28 := Int32.toInt_lt v28
          refine px_put S k_Cmp hT hw 1 0 17 rfl rfl (by decide) m2_166 rfl rfl rfl (Nat.le_of_ble_eq_true rfl) d_Cmp_leap_91 (w' := wd_Cmp cs hc (fun k => if k = 0 then re 0 else if k = 1 then re 1 else if k = 2 then he else if k = 3 then re 2 else if k = 4 then hs else ra k) (fun k => if k = 9 then fo else none) (upd cf 17 v28) ca (fun _ _ => none)) (ps' := [wd_Exp cs he re eo ef ea eg, wd_Cmp cs hc (fun k => if k = 0 then re 0 else if k = 1 then re 1 else if k = 2 then he else if k = 3 then re 2 else if k = 4 then hs else ra k) (fun k => if k = 9 then fo else none) (upd cf 17 v28) ca (fun _ _ => none), wd_Tok cs (re 0) rt ot tf ta tg, [(fu, .inl (cs 0, fn, .inl ft))], P, wd_Prg cs (re 2) rp (fun k => if k = 2 then (some fu) else none) fp25 (fun _ _ => 0) (fun _ _ => none), [((rp 1), .inl (cs 0, cn, .inl cd26))]]) rfl rfl (fun H locs hw => ?_)
          have hw : pw D A s.heap _ _ [wd_Exp cs he re eo ef ea eg, wd_Cmp cs hc (fun k => if k = 0 then re 0 else if k = 1 then re 1 else if k = 2 then he else if k = 3 then re 2 else if k = 4 then hs else ra k) (fun k => if k = 9 then fo else none) (upd cf 17 v28) ca (fun _ _ => none), wd_Tok cs (re 0) rt ot tf ta tg, wd_Prg cs (re 2) rp (fun k => if k = 2 then (some fu) else none) fp25 (fun _ _ => 0) (fun _ _ => none), [((rp 1), .inl (cs 0, cn, .inl cd26))], [(fu, .inl (cs 0, fn, .inl ft))], P] := hw.sub [0, 1, 2, 5, 6, 3, 4] rfl rfl
          exact J94 (upd cf 17 v28) tf fp25 cd26 col29 _ _ ls (show CmOk P (cf 7) (cf 8) (cf 10) (ca 6) fo from ⟨⟨by omega, by omega⟩, ⟨by omega, by omega⟩, ⟨by omega, by omega⟩, (by first | exact hct | exact fun j hj => hct j (by omega) | exact hctn), (by first | exact hfo | exact hpg.fy hfo | exact fy_none | assumption)⟩) (show CurOk (tf 10) (tf 13) (tf 14) (tf 15) (tf 17) (ta 0) from ⟨⟨by omega, by omega⟩, ⟨by omega, by omega⟩, ⟨by omega, by omega⟩, by omega, by omega, last_eq hlast (by omega)⟩) (show Agr (fp 3) col col29 from hagr) (show (tf 10).toInt = (tf 10).toInt from by omega) (show (tf 15).toInt ≤ (tf 15).toInt from by omega) (show (tf 13).toInt ≤ (tf 13).toInt from by omega) (show (tf 13).toInt ≤ (tf 13).toInt + 3000 - 3000 * (tf 15).toInt from by omega) (show (tf 14).toInt ≤ (tf 14).toInt + 4294967296 * (tf 15).toInt from by omega) (show (tf 14).toInt ≤ (tf 14).toInt + 4294967296 * (tf 15).toInt from by omega) (show Prel cn (fp 3) cd (fp25 3) cd26 from hrel) (show ColOk cn cd26 (fp25 3) col29 from hcol) (show Chp cn col29 1 (cf 16) from (by first | exact hch1 | exact chp_eq hch1 (by omega) | exact chp_m (by omega) | exact chp_m (by decide))) (show Chp cn col29 2 v28 from (by first | exact hch2 | exact chp_eq hch2 (by omega) | exact chp_m (by omega) | exact chp_m (by decide))) (show (cf 7).toInt = (cf 7).toInt from by omega) (show (cf 8).toInt = (cf 8).toInt from by omega) (show (cf 10).toInt = (cf 10).toInt from by omega) (show (tf 13).toInt = (tf 13).toInt from by omega) (show (tf 15).toInt = (tf 15).toInt from by omega) (show (fp25 3).toInt ≤ (fp 3).toInt + 190 * ((tf 13).toInt - (tf 13).toInt) + 8 + 300000 * (tf 15).toInt from by omega) hw (lv_sub hl [1, 2] rfl)
        · exact absurd c22 (by decide)
      · have nc21 : (cf 14).toInt = (0 : Int) := (i_eq (x := (cf 14)) (y := 0)).mp c21
        refine lv_aload_n S.x S.b d_Cmp_leap_30 rfl (lv_at hl 1 rfl) ?_
        refine px_get S k_Cmp hT hw 1 0 0 (v := .ref (re 0)) rfl rfl rfl (by decide) m2_149 d_Cmp_leap_31 ?_
        refine lv_bipush (v := 9) S.x S.b d_Cmp_leap_34 (by decide) ?_
        refine lv_aload_n S.x S.b d_Cmp_leap_36 rfl (lv_at hl 1 rfl) ?_
        refine px_get S k_Cmp hT hw 1 0 0 (v := .ref (re 0)) rfl rfl rfl (by decide) m2_149 d_Cmp_leap_37 ?_
        refine px_get S k_Tok hT hw 2 0 13 (v := .int (tf 13)) rfl rfl rfl (by decide) m1_116 d_Cmp_leap_40 ?_
        have hw : pw D A s.heap _ _ [wd_Exp cs he re eo ef ea eg, wd_Cmp cs hc (fun k => if k = 0 then re 0 else if k = 1 then re 1 else if k = 2 then he else if k = 3 then re 2 else if k = 4 then hs else ra k) (fun k => if k = 9 then fo else none) cf ca (fun _ _ => none), wd_Prg cs (re 2) rp (fun k => if k = 2 then (some fu) else none) fp (fun _ _ => 0) (fun _ _ => none), [((rp 1), .inl (cs 0, cn, .inl cd))], [(fu, .inl (cs 0, fn, .inl ft))], P, wd_Tok cs (re 0) rt ot tf ta tg] := hw.sub [0, 1, 3, 4, 5, 6, 2] rfl rfl
        refine px_callv (pr := [wd_Exp cs he re eo ef ea eg, wd_Cmp cs hc (fun k => if k = 0 then re 0 else if k = 1 then re 1 else if k = 2 then he else if k = 3 then re 2 else if k = 4 then hs else ra k) (fun k => if k = 9 then fo else none) cf ca (fun _ _ => none), wd_Prg cs (re 2) rp (fun k => if k = 2 then (some fu) else none) fp (fun _ _ => 0) (fun _ _ => none), [((rp 1), .inl (cs 0, cn, .inl cd))], [(fu, .inl (cs 0, fn, .inl ft))], P]) (px_runV (As := [.int 9, .int (tf 13)]) (rest := []) S (c_tk_blame l D cs (re 0) rt ot ta tg tf 9 (tf 13)  (show CurOk (tf 10) (tf 13) (tf 14) (tf 15) (tf 17) (ta 0) from ⟨⟨by omega, by omega⟩, ⟨by omega, by omega⟩, ⟨by omega, by omega⟩, by omega, by omega, last_eq hlast (by omega)⟩) (show 0 ≤ (tf 13).toInt from by omega) _) hT (pr := [wd_Exp cs he re eo ef ea eg, wd_Cmp cs hc (fun k => if k = 0 then re 0 else if k = 1 then re 1 else if k = 2 then he else if k = 3 then re 2 else if k = 4 then hs else ra k) (fun k => if k = 9 then fo else none) cf ca (fun _ _ => none), wd_Prg cs (re 2) rp (fun k => if k = 2 then (some fu) else none) fp (fun _ _ => 0) (fun _ _ => none), [((rp 1), .inl (cs 0, cn, .inl cd))], [(fu, .inl (cs 0, fn, .inl ft))], P]) (pcs := [wd_Tok cs (re 0) rt ot tf ta tg]) hw px_X.tt (px_recv hT hw 6 0 rfl rfl rfl) m4_173 m5_122 m4_171 m4_172 m1_2 q_Tok_blame ⟨Nat.le_of_ble_eq_true rfl, Nat.le_of_ble_eq_true rfl⟩ hl.1 rfl (Nat.le_of_ble_eq_true rfl) d_Cmp_leap_43 ⟨Nat.le_of_ble_eq_true rfl, Nat.le_of_ble_eq_true rfl⟩) hw hA (fun p33 H locs hp33 hw => ?_)
        obtain ⟨tf32, rfl, h39, e35, e36, e37, e38⟩ := hp33
        obtain ⟨⟨o1, o2⟩, ⟨o3, o4⟩, ⟨o5, o6⟩, o7, o8, hlast⟩ := h39
        have la_tf32 := Int32.le_toInt (tf32 14)
        have ua_tf32 := Int32.toInt_lt (tf32 14)
        have e35 : (tf32 10).toInt = (tf 10).toInt := e35
        have e36 : (tf32 14).toInt = (tf 14).toInt := e36
        have e37 : (tf32 15).toInt = (tf 15).toInt := e37
        have e38 : (tf32 13).toInt = (tf 13).toInt := e38
        have hw : pw D A s.heap H locs [wd_Exp cs he re eo ef ea eg, wd_Cmp cs hc (fun k => if k = 0 then re 0 else if k = 1 then re 1 else if k = 2 then he else if k = 3 then re 2 else if k = 4 then hs else ra k) (fun k => if k = 9 then fo else none) cf ca (fun _ _ => none), wd_Prg cs (re 2) rp (fun k => if k = 2 then (some fu) else none) fp (fun _ _ => 0) (fun _ _ => none), [((rp 1), .inl (cs 0, cn, .inl cd))], [(fu, .inl (cs 0, fn, .inl ft))], P, wd_Tok cs (re 0) rt ot tf32 ta tg] := hw
        refine lv_goto (tgt := 94) S.x S.b d_Cmp_leap_46 (by decide) ?_
        have hw : pw D A s.heap _ _ [wd_Exp cs he re eo ef ea eg, wd_Cmp cs hc (fun k => if k = 0 then re 0 else if k = 1 then re 1 else if k = 2 then he else if k = 3 then re 2 else if k = 4 then hs else ra k) (fun k => if k = 9 then fo else none) cf ca (fun _ _ => none), wd_Tok cs (re 0) rt ot tf32 ta tg, wd_Prg cs (re 2) rp (fun k => if k = 2 then (some fu) else none) fp (fun _ _ => 0) (fun _ _ => none), [((rp 1), .inl (cs 0, cn, .inl cd))], [(fu, .inl (cs 0, fn, .inl ft))], P] := hw.sub [0, 1, 6, 2, 3, 4, 5] rfl rfl
        exact J94 cf tf32 fp cd col _ _ ls (show CmOk P (cf 7) (cf 8) (cf 10) (ca 6) fo from ⟨⟨by omega, by omega⟩, ⟨by omega, by omega⟩, ⟨by omega, by omega⟩, (by first | exact hct | exact fun j hj => hct j (by omega) | exact hctn), (by first | exact hfo | exact hpg.fy hfo | exact fy_none | assumption)⟩) (show CurOk (tf32 10) (tf32 13) (tf32 14) (tf32 15) (tf32 17) (ta 0) from ⟨⟨by omega, by omega⟩, ⟨by omega, by omega⟩, ⟨by omega, by omega⟩, by omega, by omega, last_eq hlast (by omega)⟩) (show Agr (fp 3) col col from hagr) (show (tf32 10).toInt = (tf 10).toInt from by omega) (show (tf 15).toInt ≤ (tf32 15).toInt from by omega) (show (tf 13).toInt ≤ (tf32 13).toInt from by omega) (show (tf32 13).toInt ≤ (tf 13).toInt + 3000 - 3000 * (tf 15).toInt from by omega) (show (tf32 14).toInt ≤ (tf 14).toInt + 4294967296 * (tf32 15).toInt from by omega) (show (tf 14).toInt ≤ (tf32 14).toInt + 4294967296 * (tf32 15).toInt from by omega) (show Prel cn (fp 3) cd (fp 3) cd from hrel) (show ColOk cn cd (fp 3) col from hcol) (show Chp cn col 1 (cf 16) from (by first | exact hch1 | exact chp_eq hch1 (by omega) | exact chp_m (by omega) | exact chp_m (by decide))) (show Chp cn col 2 (cf 17) from (by first | exact hch2 | exact chp_eq hch2 (by omega) | exact chp_m (by omega) | exact chp_m (by decide))) (show (cf 7).toInt = (cf 7).toInt from by omega) (show (cf 8).toInt = (cf 8).toInt from by omega) (show (cf 10).toInt = (cf 10).toInt from by omega) (show (tf32 13).toInt = (tf 13).toInt from by omega) (show (tf32 15).toInt = (tf 15).toInt from by omega) (show (fp 3).toInt ≤ (fp 3).toInt + 190 * ((tf32 13).toInt - (tf 13).toInt) + 8 + 300000 * (tf32 15).toInt from by omega) hw (lv_sub hl [1, 2] rfl)
    · exact absurd c20 (by decide)
  · have nc19 : p0.toInt = (13 : Int) := (i_eq (x := p0) (y := 13)).mp c19
    refine lv_iconst (v := 1) S.x S.b d_Cmp_leap_6 (by decide) ?_
    refine lv_goto (tgt := 11) S.x S.b d_Cmp_leap_7 (by decide) ?_
    refine lv_istore_n (lv' := [(2, .int 1), (0, .ref hc), (1, .int p0)]) S.x S.b d_Cmp_leap_11 rfl hl (by decide) rfl (fun ls hl => ?_)
    refine lv_iload_n S.x S.b d_Cmp_leap_12 rfl (lv_at hl 0 rfl) ?_
    refine lv_if_eq (tgt := 23) S.x S.b d_Cmp_leap_13 (by decide) (fun c40 => ?_) (fun c40 => ?_)
    · exact absurd c40 (by decide)
    ·
      refine lv_aload_n S.x S.b d_Cmp_leap_16 rfl (lv_at hl 1 rfl) ?_
      refine px_get S k_Cmp hT hw 1 0 15 (v := .int (cf 15)) rfl rfl rfl (by decide) m2_164 d_Cmp_leap_17 ?_
      refine lv_goto (tgt := 27) S.x S.b d_Cmp_leap_20 (by decide) ?_
      refine lv_if_ne (tgt := 49) S.x S.b d_Cmp_leap_27 (by decide) (fun c41 => ?_) (fun c41 => ?_)
      · have nc41 : ¬ (cf 15).toInt = (0 : Int) := mt (i_eq (x := (cf 15)) (y := 0)).mpr c41
        refine lv_iload_n S.x S.b d_Cmp_leap_49 rfl (lv_at hl 0 rfl) ?_
        refine lv_if_eq (tgt := 75) S.x S.b d_Cmp_leap_50 (by decide) (fun c42 => ?_) (fun c42 => ?_)
        · exact absurd c42 (by decide)
        ·
          refine lv_aload_n S.x S.b d_Cmp_leap_53 rfl (lv_at hl 1 rfl) ?_
          refine lv_aload_n S.x S.b d_Cmp_leap_54 rfl (lv_at hl 1 rfl) ?_
          refine px_get S k_Cmp hT hw 1 0 3 (v := .ref (re 2)) rfl rfl rfl (by decide) m2_152 d_Cmp_leap_55 ?_
          refine lv_bipush (v := 15) S.x S.b d_Cmp_leap_58 (by decide) ?_
          refine lv_aload_n S.x S.b d_Cmp_leap_60 rfl (lv_at hl 1 rfl) ?_
          refine px_get S k_Cmp hT hw 1 0 16 (v := .int (cf 16)) rfl rfl rfl (by decide) m2_165 d_Cmp_leap_61 ?_
          refine lv_iconst (v := 0) S.x S.b d_Cmp_leap_64 (by decide) ?_
          refine lv_iconst (v := 0) S.x S.b d_Cmp_leap_65 (by decide) ?_
          have hw : pw D A s.heap _ _ [wd_Exp cs he re eo ef ea eg, wd_Cmp cs hc (fun k => if k = 0 then re 0 else if k = 1 then re 1 else if k = 2 then he else if k = 3 then re 2 else if k = 4 then hs else ra k) (fun k => if k = 9 then fo else none) cf ca (fun _ _ => none), wd_Tok cs (re 0) rt ot tf ta tg, [(fu, .inl (cs 0, fn, .inl ft))], P, wd_Prg cs (re 2) rp (fun k => if k = 2 then (some fu) else none) fp (fun _ _ => 0) (fun _ _ => none), [((rp 1), .inl (cs 0, cn, .inl cd))]] := hw.sub [0, 1, 2, 5, 6, 3, 4] rfl rfl
          refine px_calli (pr := [wd_Exp cs he re eo ef ea eg, wd_Cmp cs hc (fun k => if k = 0 then re 0 else if k = 1 then re 1 else if k = 2 then he else if k = 3 then re 2 else if k = 4 then hs else ra k) (fun k => if k = 9 then fo else none) cf ca (fun _ _ => none), wd_Tok cs (re 0) rt ot tf ta tg, [(fu, .inl (cs 0, fn, .inl ft))], P]) (px_runV (As := [.int 15, .int (cf 16), .int 0, .int 0]) (rest := [.ref hc]) S (c_pe_emitc l D cs (re 2) rp (some fu) cn fp cd 15 (cf 16) 0 0  (show cn % 4 = 0 from by omega) (show cn ≤ 100000 from by omega) hrel.1 (jop_lk (by decide) (by first | exact lk_m1 | assumption | exact lk_mk (by omega))) _) hT (pr := [wd_Exp cs he re eo ef ea eg, wd_Cmp cs hc (fun k => if k = 0 then re 0 else if k = 1 then re 1 else if k = 2 then he else if k = 3 then re 2 else if k = 4 then hs else ra k) (fun k => if k = 9 then fo else none) cf ca (fun _ _ => none), wd_Tok cs (re 0) rt ot tf ta tg, [(fu, .inl (cs 0, fn, .inl ft))], P]) (pcs := [wd_Prg cs (re 2) rp (fun k => if k = 2 then (some fu) else none) fp (fun _ _ => 0) (fun _ _ => none), [((rp 1), .inl (cs 0, cn, .inl cd))]]) hw px_X.tt (px_recv hT hw 5 0 rfl rfl rfl) m4_181 m5_166 m4_179 m4_180 m1_16 q_Prg_emit ⟨Nat.le_of_ble_eq_true rfl, Nat.le_of_ble_eq_true rfl⟩ hl.1 rfl (Nat.le_of_ble_eq_true rfl) d_Cmp_leap_66 ⟨Nat.le_of_ble_eq_true rfl, Nat.le_of_ble_eq_true rfl⟩) hw hA (fun v48 p47 H locs hp47 hw => ?_)
          obtain ⟨fp45, cd46, rfl, hv_v48, hem, hsz, k0fp45, k4fp45, k5fp45, hec⟩ := hp47
          have tv_v48 : v48.toInt = (fp 3).toInt := by rw [hv_v48]
          obtain ⟨col49, hcolN, hchN, hchD, hagN⟩ := chain_add (c := 1) (d := 2) (p := (cf 16)) (q := (cf 17)) hcol (by first | exact hch1 | exact chp_eq hch1 (by omega)) (by first | exact hch2 | exact chp_eq hch2 (by omega)) hem hsz hec (by decide) (by decide) (by decide) (by omega) (by omega)
          have pm50 := hem.2.1
          have hrel := hrel.tr hem
          have pz51 := hrel.nm
          have hcol := hcolN
          have hagr := hagr.tr hagN (by omega)
          have hch1 : Chp cn col49 1 v48 := by rw [hv_v48]; exact hchN
          have hch2 := hchD
          have hsl_fp45 : (fp45 3).toInt ≤ (fp 3).toInt + 4 ∧ (fp 3).toInt ≤ (fp45 3).toInt := by omega
          clear hsz hec
          have hw : pw D A s.heap H locs [wd_Exp cs he re eo ef ea eg, wd_Cmp cs hc (fun k => if k = 0 then re 0 else if k = 1 then re 1 else if k = 2 then he else if k = 3 then re 2 else if k = 4 then hs else ra k) (fun k => if k = 9 then fo else none) cf ca (fun _ _ => none), wd_Tok cs (re 0) rt ot tf ta tg, [(fu, .inl (cs 0, fn, .inl ft))], P, wd_Prg cs (re 2) rp (fun k => if k = 2 then (some fu) else none) fp45 (fun _ _ => 0) (fun _ _ => none), [((rp 1), .inl (cs 0, cn, .inl cd46))]] := hw
          have lv48 := Int32.le_toInt v48
          have uv48 := Int32.toInt_lt v48
          refine px_put S k_Cmp hT hw 1 0 16 rfl rfl (by decide) m2_165 rfl rfl rfl (Nat.le_of_ble_eq_true rfl) d_Cmp_leap_69 (w' := wd_Cmp cs hc (fun k => if k = 0 then re 0 else if k = 1 then re 1 else if k = 2 then he else if k = 3 then re 2 else if k = 4 then hs else ra k) (fun k => if k = 9 then fo else none) (upd cf 16 v48) ca (fun _ _ => none)) (ps' := [wd_Exp cs he re eo ef ea eg, wd_Cmp cs hc (fun k => if k = 0 then re 0 else if k = 1 then re 1 else if k = 2 then he else if k = 3 then re 2 else if k = 4 then hs else ra k) (fun k => if k = 9 then fo else none) (upd cf 16 v48) ca (fun _ _ => none), wd_Tok cs (re 0) rt ot tf ta tg, [(fu, .inl (cs 0, fn, .inl ft))], P, wd_Prg cs (re 2) rp (fun k => if k = 2 then (some fu) else none) fp45 (fun _ _ => 0) (fun _ _ => none), [((rp 1), .inl (cs 0, cn, .inl cd46))]]) rfl rfl (fun H locs hw => ?_)
          refine lv_goto (tgt := 94) S.x S.b d_Cmp_leap_72 (by decide) ?_
          have hw : pw D A s.heap _ _ [wd_Exp cs he re eo ef ea eg, wd_Cmp cs hc (fun k => if k = 0 then re 0 else if k = 1 then re 1 else if k = 2 then he else if k = 3 then re 2 else if k = 4 then hs else ra k) (fun k => if k = 9 then fo else none) (upd cf 16 v48) ca (fun _ _ => none), wd_Tok cs (re 0) rt ot tf ta tg, wd_Prg cs (re 2) rp (fun k => if k = 2 then (some fu) else none) fp45 (fun _ _ => 0) (fun _ _ => none), [((rp 1), .inl (cs 0, cn, .inl cd46))], [(fu, .inl (cs 0, fn, .inl ft))], P] := hw.sub [0, 1, 2, 5, 6, 3, 4] rfl rfl
          exact J94 (upd cf 16 v48) tf fp45 cd46 col49 _ _ ls (show CmOk P (cf 7) (cf 8) (cf 10) (ca 6) fo from ⟨⟨by omega, by omega⟩, ⟨by omega, by omega⟩, ⟨by omega, by omega⟩, (by first | exact hct | exact fun j hj => hct j (by omega) | exact hctn), (by first | exact hfo | exact hpg.fy hfo | exact fy_none | assumption)⟩) (show CurOk (tf 10) (tf 13) (tf 14) (tf 15) (tf 17) (ta 0) from ⟨⟨by omega, by omega⟩, ⟨by omega, by omega⟩, ⟨by omega, by omega⟩, by omega, by omega, last_eq hlast (by omega)⟩) (show Agr (fp 3) col col49 from hagr) (show (tf 10).toInt = (tf 10).toInt from by omega) (show (tf 15).toInt ≤ (tf 15).toInt from by omega) (show (tf 13).toInt ≤ (tf 13).toInt from by omega) (show (tf 13).toInt ≤ (tf 13).toInt + 3000 - 3000 * (tf 15).toInt from by omega) (show (tf 14).toInt ≤ (tf 14).toInt + 4294967296 * (tf 15).toInt from by omega) (show (tf 14).toInt ≤ (tf 14).toInt + 4294967296 * (tf 15).toInt from by omega) (show Prel cn (fp 3) cd (fp45 3) cd46 from hrel) (show ColOk cn cd46 (fp45 3) col49 from hcol) (show Chp cn col49 1 v48 from (by first | exact hch1 | exact chp_eq hch1 (by omega) | exact chp_m (by omega) | exact chp_m (by decide))) (show Chp cn col49 2 (cf 17) from (by first | exact hch2 | exact chp_eq hch2 (by omega) | exact chp_m (by omega) | exact chp_m (by decide))) (show (cf 7).toInt = (cf 7).toInt from by omega) (show (cf 8).toInt = (cf 8).toInt from by omega) (show (cf 10).toInt = (cf 10).toInt from by omega) (show (tf 13).toInt = (tf 13).toInt from by omega) (show (tf 15).toInt = (tf 15).toInt from by omega) (show (fp45 3).toInt ≤ (fp 3).toInt + 190 * ((tf 13).toInt - (tf 13).toInt) + 8 + 300000 * (tf 15).toInt from by omega) hw (lv_sub hl [1, 2] rfl)
      · have nc41 : (cf 15).toInt = (0 : Int) := (i_eq (x := (cf 15)) (y := 0)).mp c41
        refine lv_aload_n S.x S.b d_Cmp_leap_30 rfl (lv_at hl 1 rfl) ?_
        refine px_get S k_Cmp hT hw 1 0 0 (v := .ref (re 0)) rfl rfl rfl (by decide) m2_149 d_Cmp_leap_31 ?_
        refine lv_bipush (v := 9) S.x S.b d_Cmp_leap_34 (by decide) ?_
        refine lv_aload_n S.x S.b d_Cmp_leap_36 rfl (lv_at hl 1 rfl) ?_
        refine px_get S k_Cmp hT hw 1 0 0 (v := .ref (re 0)) rfl rfl rfl (by decide) m2_149 d_Cmp_leap_37 ?_
        refine px_get S k_Tok hT hw 2 0 13 (v := .int (tf 13)) rfl rfl rfl (by decide) m1_116 d_Cmp_leap_40 ?_
        have hw : pw D A s.heap _ _ [wd_Exp cs he re eo ef ea eg, wd_Cmp cs hc (fun k => if k = 0 then re 0 else if k = 1 then re 1 else if k = 2 then he else if k = 3 then re 2 else if k = 4 then hs else ra k) (fun k => if k = 9 then fo else none) cf ca (fun _ _ => none), wd_Prg cs (re 2) rp (fun k => if k = 2 then (some fu) else none) fp (fun _ _ => 0) (fun _ _ => none), [((rp 1), .inl (cs 0, cn, .inl cd))], [(fu, .inl (cs 0, fn, .inl ft))], P, wd_Tok cs (re 0) rt ot tf ta tg] := hw.sub [0, 1, 3, 4, 5, 6, 2] rfl rfl
        refine px_callv (pr := [wd_Exp cs he re eo ef ea eg, wd_Cmp cs hc (fun k => if k = 0 then re 0 else if k = 1 then re 1 else if k = 2 then he else if k = 3 then re 2 else if k = 4 then hs else ra k) (fun k => if k = 9 then fo else none) cf ca (fun _ _ => none), wd_Prg cs (re 2) rp (fun k => if k = 2 then (some fu) else none) fp (fun _ _ => 0) (fun _ _ => none), [((rp 1), .inl (cs 0, cn, .inl cd))], [(fu, .inl (cs 0, fn, .inl ft))], P]) (px_runV (As := [.int 9, .int (tf 13)]) (rest := []) S (c_tk_blame l D cs (re 0) rt ot ta tg tf 9 (tf 13)  (show CurOk (tf 10) (tf 13) (tf 14) (tf 15) (tf 17) (ta 0) from ⟨⟨by omega, by omega⟩, ⟨by omega, by omega⟩, ⟨by omega, by omega⟩, by omega, by omega, last_eq hlast (by omega)⟩) (show 0 ≤ (tf 13).toInt from by omega) _) hT (pr := [wd_Exp cs he re eo ef ea eg, wd_Cmp cs hc (fun k => if k = 0 then re 0 else if k = 1 then re 1 else if k = 2 then he else if k = 3 then re 2 else if k = 4 then hs else ra k) (fun k => if k = 9 then fo else none) cf ca (fun _ _ => none), wd_Prg cs (re 2) rp (fun k => if k = 2 then (some fu) else none) fp (fun _ _ => 0) (fun _ _ => none), [((rp 1), .inl (cs 0, cn, .inl cd))], [(fu, .inl (cs 0, fn, .inl ft))], P]) (pcs := [wd_Tok cs (re 0) rt ot tf ta tg]) hw px_X.tt (px_recv hT hw 6 0 rfl rfl rfl) m4_173 m5_122 m4_171 m4_172 m1_2 q_Tok_blame ⟨Nat.le_of_ble_eq_true rfl, Nat.le_of_ble_eq_true rfl⟩ hl.1 rfl (Nat.le_of_ble_eq_true rfl) d_Cmp_leap_43 ⟨Nat.le_of_ble_eq_true rfl, Nat.le_of_ble_eq_true rfl⟩) hw hA (fun p53 H locs hp53 hw => ?_)
        obtain ⟨tf52, rfl, h59, e55, e56, e57, e58⟩ := hp53
        obtain ⟨⟨o1, o2⟩, ⟨o3, o4⟩, ⟨o5, o6⟩, o7, o8, hlast⟩ := h59
        have la_tf52 := Int32.le_toInt (tf52 14)
        have ua_tf52 := Int32.toInt_lt (tf52 14)
        have e55 : (tf52 10).toInt = (tf 10).toInt := e55
        have e56 : (tf52 14).toInt = (tf 14).toInt := e56
        have e57 : (tf52 15).toInt = (tf 15).toInt := e57
        have e58 : (tf52 13).toInt = (tf 13).toInt := e58
        have hw : pw D A s.heap H locs [wd_Exp cs he re eo ef ea eg, wd_Cmp cs hc (fun k => if k = 0 then re 0 else if k = 1 then re 1 else if k = 2 then he else if k = 3 then re 2 else if k = 4 then hs else ra k) (fun k => if k = 9 then fo else none) cf ca (fun _ _ => none), wd_Prg cs (re 2) rp (fun k => if k = 2 then (some fu) else none) fp (fun _ _ => 0) (fun _ _ => none), [((rp 1), .inl (cs 0, cn, .inl cd))], [(fu, .inl (cs 0, fn, .inl ft))], P, wd_Tok cs (re 0) rt ot tf52 ta tg] := hw
        refine lv_goto (tgt := 94) S.x S.b d_Cmp_leap_46 (by decide) ?_
        have hw : pw D A s.heap _ _ [wd_Exp cs he re eo ef ea eg, wd_Cmp cs hc (fun k => if k = 0 then re 0 else if k = 1 then re 1 else if k = 2 then he else if k = 3 then re 2 else if k = 4 then hs else ra k) (fun k => if k = 9 then fo else none) cf ca (fun _ _ => none), wd_Tok cs (re 0) rt ot tf52 ta tg, wd_Prg cs (re 2) rp (fun k => if k = 2 then (some fu) else none) fp (fun _ _ => 0) (fun _ _ => none), [((rp 1), .inl (cs 0, cn, .inl cd))], [(fu, .inl (cs 0, fn, .inl ft))], P] := hw.sub [0, 1, 6, 2, 3, 4, 5] rfl rfl
        exact J94 cf tf52 fp cd col _ _ ls (show CmOk P (cf 7) (cf 8) (cf 10) (ca 6) fo from ⟨⟨by omega, by omega⟩, ⟨by omega, by omega⟩, ⟨by omega, by omega⟩, (by first | exact hct | exact fun j hj => hct j (by omega) | exact hctn), (by first | exact hfo | exact hpg.fy hfo | exact fy_none | assumption)⟩) (show CurOk (tf52 10) (tf52 13) (tf52 14) (tf52 15) (tf52 17) (ta 0) from ⟨⟨by omega, by omega⟩, ⟨by omega, by omega⟩, ⟨by omega, by omega⟩, by omega, by omega, last_eq hlast (by omega)⟩) (show Agr (fp 3) col col from hagr) (show (tf52 10).toInt = (tf 10).toInt from by omega) (show (tf 15).toInt ≤ (tf52 15).toInt from by omega) (show (tf 13).toInt ≤ (tf52 13).toInt from by omega) (show (tf52 13).toInt ≤ (tf 13).toInt + 3000 - 3000 * (tf 15).toInt from by omega) (show (tf52 14).toInt ≤ (tf 14).toInt + 4294967296 * (tf52 15).toInt from by omega) (show (tf 14).toInt ≤ (tf52 14).toInt + 4294967296 * (tf52 15).toInt from by omega) (show Prel cn (fp 3) cd (fp 3) cd from hrel) (show ColOk cn cd (fp 3) col from hcol) (show Chp cn col 1 (cf 16) from (by first | exact hch1 | exact chp_eq hch1 (by omega) | exact chp_m (by omega) | exact chp_m (by decide))) (show Chp cn col 2 (cf 17) from (by first | exact hch2 | exact chp_eq hch2 (by omega) | exact chp_m (by omega) | exact chp_m (by decide))) (show (cf 7).toInt = (cf 7).toInt from by omega) (show (cf 8).toInt = (cf 8).toInt from by omega) (show (cf 10).toInt = (cf 10).toInt from by omega) (show (tf52 13).toInt = (tf 13).toInt from by omega) (show (tf52 15).toInt = (tf 15).toInt from by omega) (show (fp 3).toInt ≤ (fp 3).toInt + 190 * ((tf52 13).toInt - (tf 13).toInt) + 8 + 300000 * (tf52 15).toInt from by omega) hw (lv_sub hl [1, 2] rfl)
