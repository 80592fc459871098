abbrev WSt : Type := Nat × Nat × Nat × Nat × WS
def kdI (c : Int32) : Int32 := if c = 46 then 1 else if c = 91 then 2 else if c = 94 then 3 else if c = 36 then 4 else 0
def atN (P : List Int32) (i : Nat) : Nat ⊕ Nat := if pat P i = 91 then mPC P i else .inr (i + 1)
def sN : Nat ⊕ Nat → Nat
  | .inl k => k
  | .inr n => n
def wr1 (P : List Int32) (st : WSt) : WSt :=
  if isB (pat P st.1) 42 43 63 123 = true then
    (match mRq P st.1 with | .inl _ => st | .inr q => (if pat P q.1 = 63 then q.1 + 1 else q.1, st.2.1, st.2.2.1, st.2.2.2.1, wRp P st.1 st.2.2.2.1 q.1 st.2.2.2.2.1, st.2.2.2.2.2))
  else if pat P st.1 = 124 then (st.1 + 1, st.2.1, st.2.2.1, st.2.2.2.1, wNx st.2.1 st.2.2.2.2)
  else if pat P st.1 = 40 then (st.1 + 1, st.2.1 + 1, st.2.2.1 + 1, st.2.2.2.1, wOp (st.2.1 + 1) (st.2.2.1 + 1) st.2.2.2.2)
  else if pat P st.1 = 41 then (st.1 + 1, st.2.1 - 1, st.2.2.1, st.2.2.2.2.2.1 st.2.1, wCl st.2.1 st.2.2.2.2)
  else (sN (atN P st.1), st.2.1, st.2.2.1, st.2.2.2.2.1.length, st.2.2.2.2.1 ++ [(kdI (pat P st.1), if pat P st.1 = 91 then nI st.1 else pat P st.1, 0)], st.2.2.2.2.2)
def clG (d : Nat) (w : WS) : Prop := w.1.length < 130 ∧ w.2.2.2.2.1 d ≤ w.2.2.2.2.2.2 ∧ w.2.2.2.2.2.2 ≤ 30 ∧ (∀ j, w.2.2.2.2.1 d ≤ j → j < w.2.2.2.2.2.2 → w.2.2.2.2.2.1 j < w.1.length) ∧ w.2.2.2.1 d ≤ 100
def wrG (P : List Int32) (st : WSt) : Prop := st.2.1 ≤ 7 ∧ st.2.2.2.1 ≤ 1000 ∧
  (isB (pat P st.1) 42 43 63 123 = true → ∃ q, mRq P st.1 = .inr q ∧ wrB P st.1 st.2.2.2.1 q.1 st.2.2.2.2.1) ∧
  (pat P st.1 = 124 → st.2.2.2.2.2.2.1 st.2.1 ≤ st.2.2.2.2.1.length ∧ st.2.2.2.2.1.length + 2 ≤ 130 ∧ st.2.2.2.2.2.2.2.2.2.2 < 30) ∧
  (pat P st.1 = 40 → st.2.1 < 7 ∧ st.2.2.2.2.1.length < 130 ∧ st.2.2.1 < 100) ∧
  (pat P st.1 = 41 → 0 < st.2.1 ∧ clG st.2.1 st.2.2.2.2) ∧
  (isB (pat P st.1) 42 43 63 123 = false → pat P st.1 ≠ 124 → pat P st.1 ≠ 40 → pat P st.1 ≠ 41 → st.2.2.2.2.1.length < 130 ∧ ∃ n, atN P st.1 = .inr n)
def wrF (st : WSt) : Prop := clG 0 st.2.2.2.2 ∧ (wCl 0 st.2.2.2.2).1.length < 130 ∧ st.2.1 ≤ 7
def wrV (P : List Int32) : Nat → WSt → Prop
  | 0, st => P.length ≤ st.1 ∧ wrF st
  | f + 1, st => if P.length ≤ st.1 then wrF st else wrG P st ∧ wrV P f (wr1 P st)
def wrR (P : List Int32) : Nat → WSt → WSt
  | 0, st => st
  | f + 1, st => if P.length ≤ st.1 then st else wrR P f (wr1 P st)
def wrZ (st : WSt) : WS := ((wCl 0 st.2.2.2.2).1 ++ [(8, 0, 0)], (wCl 0 st.2.2.2.2).2)
def wr0 (C : MC) : WSt := (0, 0, 0, 0, wOp 0 0 ([], C.2.2.2.2.1, C.2.2.2.2.2.1, C.2.2.2.2.2.2.1, C.2.2.2.2.2.2.2.1, C.2.2.2.2.2.2.2.2.1, 0))
theorem mCl_br {P : List Int32} : ∀ {f k it n : Nat}, mCl P f k it = .inr n → k < n ∧ pat P (n - 1) = 93 ∧ (∀ j, k ≤ j → j + 1 < n → pat P j ≠ 93)
  | 0, k, it, n, hn => by rw [mCl] at hn; cases hn
  | f + 1, k, it, n, hn => by
    rw [mCl] at hn
    split at hn
    · cases hn
    split at hn
    · rename_i h1 h2
      split at hn
      · cases hn
      · injection hn with hn
        subst hn
        exact ⟨by omega, h2, fun j j1 j2 => by omega⟩
    rename_i h1 h2
    split at hn
    · cases hn
    split at hn
    · rename_i h3 h4
      split at hn
      · cases hn
      split at hn
      · cases hn
      rename_i h5 h6
      have ih := mCl_br hn
      refine ⟨by omega, ih.2.1, fun j j1 j2 => ?_⟩
      by_cases e0 : j = k
      · rw [e0]; exact h2
      by_cases e1 : j = k + 1
      · rw [e1, h4]; decide
      by_cases e2 : j = k + 2
      · intro z
        rw [e2] at z
        exact h6 (Or.inl (by rw [z]; decide))
      exact ih.2.2 j (by omega) j2
    · have ih := mCl_br hn
      refine ⟨by omega, ih.2.1, fun j j1 j2 => ?_⟩
      by_cases e0 : j = k
      · rw [e0]; exact h2
      exact ih.2.2 j (by omega) j2
theorem mPC_br {P : List Int32} {i n : Nat} (h : mPC P i = .inr n) (hi : pat P i = 91) : i + 1 < n ∧ pat P (n - 1) = 93 ∧ (∀ j, i ≤ j → j + 1 < n → pat P j ≠ 93) := by
  rw [mPC] at h
  have z := mCl_br h
  have z1 : i + 1 < n := by
    have := z.1
    split at this <;> omega
  refine ⟨z1, z.2.1, fun j j1 j2 => ?_⟩
  by_cases e0 : j = i
  · rw [e0, hi]; decide
  by_cases e1 : pat P (i + 1) = 94
  · rw [if_pos e1] at z
    by_cases e2 : j = i + 1
    · rw [e2, e1]; decide
    · exact z.2.2 j (by omega) j2
  · rw [if_neg e1] at z
    exact z.2.2 j (by omega) j2
section M9
variable {E : xE} {h : xH} {A : MA3} {B : MB} {w : WS} {D : MD} {g : xH} {Post : Option Value → xH → Prop}
abbrev zL (E : xE) (d gr s i : Nat) (c : Int32) : List (Nat × Value) := [(0, .ref (xb E + 21)), (1, .int (nI d)), (2, .int (nI gr)), (3, .int (nI s)), (4, .int (nI i)), (5, .int c)]
theorem wr_atom (hE : xOK E) (mg : MoW E g A B w D) {d gr s i n : Nat} (hi : i < 28) (hl : w.1.length < 130) (hn : atN A.1 i = .inr n) (hn2 : n ≤ 40) (k : ∀ g', mfr E g g' → MoW E g' A B (w.1 ++ [(kdI (pat A.1 i), if pat A.1 i = 91 then nI i else pat A.1 i, 0)], w.2) D → wp E 4 m_MO_write 25 (zL E d gr w.1.length n (pat A.1 i)) [] g' Post) : wp E 4 m_MO_write 132 (zL E d gr s i (pat A.1 i)) [] g Post := by
  have og := mg.obj
  have fin : ∀ g', mfr E g g' → MoW E g' A B (w.1 ++ [(kdI (pat A.1 i), if pat A.1 i = 91 then nI i else pat A.1 i, 0)], w.2) D → wp E 4 m_MO_write 201 (zL E d gr w.1.length i (pat A.1 i)) [] g' Post := by
    intro g' f' m'
    have o' := m'.obj
    refine wp_iload d_MO_write_201 rfl ?_
    refine wp_bipush (v := 91) d_MO_write_203 (by rfl) ?_
    refine wp_icmp_ne (tgt := 225) d_MO_write_205 (by decide) (fun hc => ?_) (fun hc => ?_)
    · rw [atN, if_neg hc] at hn
      injection hn with hn
      subst hn
      refine wp_iinc d_MO_write_225 rfl rfl (by decide) rfl ?_
      refine wp_goto (tgt := 25) d_MO_write_228 (by decide) ?_
      rw [show nI i + Int32.ofInt 1 = nI (i + 1) from (nI_succ i).symm]
      exact k g' f' m'
    · rw [atN, if_pos hc] at hn
      obtain ⟨k1, k2, k3⟩ := mPC_br hn hc
      have lp : ∀ (f j : Nat), j + f + 1 = n → i ≤ j → wp E 4 m_MO_write 208 (zL E d gr w.1.length j (pat A.1 i)) [] g' Post := by
        intro f
        induction f with
        | zero =>
          intro j hj hij
          refine wp_aload_n d_MO_write_208 rfl rfl ?_
          refine wp_iload d_MO_write_209 rfl ?_
          refine wp_callV1 xc_MO_90 d_MO_write_211 (Nat.le_of_ble_eq_true rfl) (by repeat first | exact xg_eq | exact xn_eq (by first | rfl | omega) | refine xg_ne (by first | omega | assumption | (simp only [xput, xnew]; omega)) ?_ | refine xn_ne (by first | omega | assumption | (simp only [xput, xnew]; omega)) ?_ | assumption | exact rfl) (MoW.at hE m' (i := j) (by omega)) (by omega) (fun r hh hp => ?_)
          obtain ⟨rfl, hz0⟩ := hp; have hz0 := hz0.symm; subst hz0
          refine wp_bipush (v := 93) d_MO_write_214 (by rfl) ?_
          refine wp_icmp_eq (tgt := 225) d_MO_write_216 (by decide) (fun hc2 => ?_) (fun hc2 => ?_)
          · refine wp_iinc d_MO_write_225 rfl rfl (by decide) rfl ?_
            refine wp_goto (tgt := 25) d_MO_write_228 (by decide) ?_
            rw [show nI j + Int32.ofInt 1 = nI (j + 1) from (nI_succ j).symm, show j + 1 = n by omega]
            exact k g' f' m'
          · exact absurd (by rw [← k2]; congr 1; omega) hc2
        | succ f ih =>
          intro j hj hij
          refine wp_aload_n d_MO_write_208 rfl rfl ?_
          refine wp_iload d_MO_write_209 rfl ?_
          refine wp_callV1 xc_MO_90 d_MO_write_211 (Nat.le_of_ble_eq_true rfl) (by repeat first | exact xg_eq | exact xn_eq (by first | rfl | omega) | refine xg_ne (by first | omega | assumption | (simp only [xput, xnew]; omega)) ?_ | refine xn_ne (by first | omega | assumption | (simp only [xput, xnew]; omega)) ?_ | assumption | exact rfl) (MoW.at hE m' (i := j) (by omega)) (by omega) (fun r hh hp => ?_)
          obtain ⟨rfl, hz0⟩ := hp; have hz0 := hz0.symm; subst hz0
          refine wp_bipush (v := 93) d_MO_write_214 (by rfl) ?_
          refine wp_icmp_eq (tgt := 225) d_MO_write_216 (by decide) (fun hc2 => ?_) (fun hc2 => ?_)
          · exact absurd hc2 (k3 j hij (by omega))
          · refine wp_iinc d_MO_write_219 rfl rfl (by decide) rfl ?_
            refine wp_goto (tgt := 208) d_MO_write_222 (by decide) ?_
            rw [show nI j + Int32.ofInt 1 = nI (j + 1) from (nI_succ j).symm]
            exact ih (j + 1) (by omega) (by omega)
      exact lp (n - i - 1) i (by omega) (Nat.le_refl _)
  have two : ∀ x : Int32, x = kdI (pat A.1 i) → wp E 4 m_MO_write 183 (zL E d gr w.1.length i (pat A.1 i)) [.int x, .ref (xb E + 21)] g Post := by
    intro x hx
    subst hx
    refine wp_iload d_MO_write_183 rfl ?_
    refine wp_bipush (v := 91) d_MO_write_185 (by rfl) ?_
    refine wp_icmp_ne (tgt := 195) d_MO_write_187 (by decide) (fun hc => ?_) (fun hc => ?_)
    · rw [if_neg hc] at fin
      refine wp_iload d_MO_write_195 rfl ?_
      refine wp_iconst (v := 0) d_MO_write_197 (by rfl) ?_
      refine wp_callV3 xc_MO_129 d_MO_write_198 (Nat.le_of_ble_eq_true rfl) (by repeat first | exact xg_eq | exact xn_eq (by first | rfl | omega) | refine xg_ne (by first | omega | assumption | (simp only [xput, xnew]; omega)) ?_ | refine xn_ne (by first | omega | assumption | (simp only [xput, xnew]; omega)) ?_ | assumption | exact rfl) (c_MO_add hE mg hl _ _ _) (by omega) (fun r g2 hp => ?_)
      obtain ⟨rfl, f2, m2⟩ := hp
      exact fin g2 f2 m2
    · rw [if_pos hc] at fin
      refine wp_iload d_MO_write_190 rfl ?_
      refine wp_goto (tgt := 197) d_MO_write_192 (by decide) ?_
      refine wp_iconst (v := 0) d_MO_write_197 (by rfl) ?_
      refine wp_callV3 xc_MO_129 d_MO_write_198 (Nat.le_of_ble_eq_true rfl) (by repeat first | exact xg_eq | exact xn_eq (by first | rfl | omega) | refine xg_ne (by first | omega | assumption | (simp only [xput, xnew]; omega)) ?_ | refine xn_ne (by first | omega | assumption | (simp only [xput, xnew]; omega)) ?_ | assumption | exact rfl) (c_MO_add hE mg hl _ _ _) (by omega) (fun r g2 hp => ?_)
      obtain ⟨rfl, f2, m2⟩ := hp
      exact fin g2 f2 m2
  refine wp_aload_n d_MO_write_132 rfl rfl ?_
  refine wp_get xf_MO_126 d_MO_write_133 (by repeat first | exact xg_eq | exact xn_eq (by first | rfl | omega) | refine xg_ne (by first | omega | assumption | (simp only [xput, xnew]; omega)) ?_ | refine xn_ne (by first | omega | assumption | (simp only [xput, xnew]; omega)) ?_ | assumption | exact rfl) (by rfl) ?_
  refine wp_istore_n d_MO_write_136 rfl (by decide) rfl ?_
  refine wp_aload_n d_MO_write_137 rfl rfl ?_
  refine wp_iload d_MO_write_138 rfl ?_
  refine wp_bipush (v := 46) d_MO_write_140 (by rfl) ?_
  refine wp_icmp_ne (tgt := 149) d_MO_write_142 (by decide) (fun h1 => ?_) (fun h1 => ?_)
  rotate_left
  · refine wp_iconst (v := 1) d_MO_write_145 (by rfl) ?_
    refine wp_goto (tgt := 183) d_MO_write_146 (by decide) ?_
    exact two 1 (by rw [kdI, if_pos h1])
  refine wp_iload d_MO_write_149 rfl ?_
  refine wp_bipush (v := 91) d_MO_write_151 (by rfl) ?_
  refine wp_icmp_ne (tgt := 160) d_MO_write_153 (by decide) (fun h2 => ?_) (fun h2 => ?_)
  rotate_left
  · refine wp_iconst (v := 2) d_MO_write_156 (by rfl) ?_
    refine wp_goto (tgt := 183) d_MO_write_157 (by decide) ?_
    exact two 2 (by rw [kdI, if_neg h1, if_pos h2])
  refine wp_iload d_MO_write_160 rfl ?_
  refine wp_bipush (v := 94) d_MO_write_162 (by rfl) ?_
  refine wp_icmp_ne (tgt := 171) d_MO_write_164 (by decide) (fun h3 => ?_) (fun h3 => ?_)
  rotate_left
  · refine wp_iconst (v := 3) d_MO_write_167 (by rfl) ?_
    refine wp_goto (tgt := 183) d_MO_write_168 (by decide) ?_
    exact two 3 (by rw [kdI, if_neg h1, if_neg h2, if_pos h3])
  refine wp_iload d_MO_write_171 rfl ?_
  refine wp_bipush (v := 36) d_MO_write_173 (by rfl) ?_
  refine wp_icmp_ne (tgt := 182) d_MO_write_175 (by decide) (fun h4 => ?_) (fun h4 => ?_)
  rotate_left
  · refine wp_iconst (v := 4) d_MO_write_178 (by rfl) ?_
    refine wp_goto (tgt := 183) d_MO_write_179 (by decide) ?_
    exact two 4 (by rw [kdI, if_neg h1, if_neg h2, if_neg h3, if_pos h4])
  refine wp_iconst (v := 0) d_MO_write_182 (by rfl) ?_
  exact two 0 (by rw [kdI, if_neg h1, if_neg h2, if_neg h3, if_neg h4])
theorem c_MO_write (hE : xOK E) {C : MC} (hm : Mo E h A B C D) (hv : wrV A.1 28 (wr0 C)) : wpc E 4 m_MO_write [.ref (xb E + 21)] h (fun r' h' => r' = none ∧ mfr E h h' ∧ MoW E h' A B (wrZ (wrR A.1 28 (wr0 C))) D) := by
  have hl := hm.len
  generalize hR : wrR A.1 28 (wr0 C) = R
  generalize hP0 : (fun (r' : Option Value) (h' : xH) => r' = none ∧ mfr E h h' ∧ MoW E h' A B (wrZ R) D) = Post
  have fin : ∀ (i d gr s : Nat) (w : WS) (g : xH), wrF (i, d, gr, s, w) → mfr E h g → MoW E g A B w D → (i, d, gr, s, w) = R → wp E 4 m_MO_write 231 [(0, .ref (xb E + 21)), (1, .int (nI d)), (2, .int (nI gr)), (3, .int (nI s)), (4, .int (nI i))] [] g Post := by
    intro i d gr s w g hf fg mg hr
    obtain ⟨⟨q1, q2, q3, q4, q5⟩, q6, q7⟩ := hf
    have q6 : (wCl 0 w).1.length < 130 := q6
    have og := mg.obj
    refine wp_aload_n d_MO_write_231 rfl rfl ?_
    refine wp_iconst (v := 0) d_MO_write_232 (by rfl) ?_
    refine wp_callV1 xc_MO_157 d_MO_write_233 (Nat.le_of_ble_eq_true rfl) (by repeat first | exact xg_eq | exact xn_eq (by first | rfl | omega) | refine xg_ne (by first | omega | assumption | (simp only [xput, xnew]; omega)) ?_ | refine xn_ne (by first | omega | assumption | (simp only [xput, xnew]; omega)) ?_ | assumption | exact rfl) (c_MO_close hE mg q1 (d := 0) (by omega) q2 q3 q4 q5) (by omega) (fun r g2 hp => ?_)
    obtain ⟨rfl, f2, m2⟩ := hp
    have o2 := m2.obj
    refine wp_aload_n d_MO_write_236 rfl rfl ?_
    refine wp_bipush (v := 8) d_MO_write_237 (by rfl) ?_
    refine wp_iconst (v := 0) d_MO_write_239 (by rfl) ?_
    refine wp_iconst (v := 0) d_MO_write_240 (by rfl) ?_
    refine wp_callV3 xc_MO_129 d_MO_write_241 (Nat.le_of_ble_eq_true rfl) (by repeat first | exact xg_eq | exact xn_eq (by first | rfl | omega) | refine xg_ne (by first | omega | assumption | (simp only [xput, xnew]; omega)) ?_ | refine xn_ne (by first | omega | assumption | (simp only [xput, xnew]; omega)) ?_ | assumption | exact rfl) (c_MO_add hE m2 q6 8 0 0) (by omega) (fun r g3 hp => ?_)
    obtain ⟨rfl, f3, m3⟩ := hp
    refine wp_return d_MO_write_244 rfl ?_
    rw [← hP0, ← hr]
    exact ⟨rfl, (fg.tr f2).tr f3, m3⟩
  have lp : ∀ (f i d gr s : Nat) (w : WS) (g : xH), wrV A.1 f (i, d, gr, s, w) → i ≤ 40 → wrR A.1 f (i, d, gr, s, w) = R → mfr E h g → MoW E g A B w D → wp E 4 m_MO_write 25 [(0, .ref (xb E + 21)), (1, .int (nI d)), (2, .int (nI gr)), (3, .int (nI s)), (4, .int (nI i))] [] g Post := by
    intro f
    induction f with
    | zero =>
      intro i d gr s w g hv hi hr fg mg
      have og := mg.obj
      have hle : A.1.length ≤ i := hv.1
      refine wp_iload d_MO_write_25 rfl ?_
      refine wp_aload_n d_MO_write_27 rfl rfl ?_
      refine wp_get xf_MO_72 d_MO_write_28 (by repeat first | exact xg_eq | exact xn_eq (by first | rfl | omega) | refine xg_ne (by first | omega | assumption | (simp only [xput, xnew]; omega)) ?_ | refine xn_ne (by first | omega | assumption | (simp only [xput, xnew]; omega)) ?_ | assumption | exact rfl) (by rfl) ?_
      refine wp_icmp_ge (tgt := 231) d_MO_write_31 (by decide) (fun hc => ?_) (fun hc => ?_)
      · exact fin i d gr s w g hv.2 fg mg hr
      · exact absurd ((nI_leI (by omega) (by omega)).mpr hle) hc
    | succ f ih =>
      intro i d gr s w g hv hi hr fg mg
      have og := mg.obj
      rw [wrV] at hv
      rw [wrR] at hr
      dsimp only at hv hr
      by_cases hle : A.1.length ≤ i
      · rw [if_pos hle] at hv hr
        refine wp_iload d_MO_write_25 rfl ?_
        refine wp_aload_n d_MO_write_27 rfl rfl ?_
        refine wp_get xf_MO_72 d_MO_write_28 (by repeat first | exact xg_eq | exact xn_eq (by first | rfl | omega) | refine xg_ne (by first | omega | assumption | (simp only [xput, xnew]; omega)) ?_ | refine xn_ne (by first | omega | assumption | (simp only [xput, xnew]; omega)) ?_ | assumption | exact rfl) (by rfl) ?_
        refine wp_icmp_ge (tgt := 231) d_MO_write_31 (by decide) (fun hc => ?_) (fun hc => ?_)
        · exact fin i d gr s w g hv fg mg hr
        · exact absurd ((nI_leI (by omega) (by omega)).mpr hle) hc
      rw [if_neg hle] at hv hr
      obtain ⟨⟨d7, s1000, g1, g2, g3, g4, g5⟩, hv⟩ := hv
      have d7 : d ≤ 7 := d7
      have jn : ∀ (i' d' gr' s' : Nat) (w' : WS) (c : Int32) (g' : xH), wr1 A.1 (i, d, gr, s, w) = (i', d', gr', s', w') → i' ≤ 40 → mfr E h g' → MoW E g' A B w' D → wp E 4 m_MO_write 25 (zL E d' gr' s' i' c) [] g' Post := by
        intro i' d' gr' s' w' c g' e1 e2 e3 e4
        rw [e1] at hv hr
        refine wp_lo (lo' := [(0, .ref (xb E + 21)), (1, .int (nI d')), (2, .int (nI gr')), (3, .int (nI s')), (4, .int (nI i'))]) (fun z hz => List.mem_append_left ([(5, .int c)] : List (Nat × Value)) hz) ?_
        exact ih i' d' gr' s' w' g' hv e2 hr e3 e4
      clear ih hv hr fin
      rw [wr1] at jn
      dsimp only at jn g1 g2 g3 g4 g5 s1000
      refine wp_iload d_MO_write_25 rfl ?_
      refine wp_aload_n d_MO_write_27 rfl rfl ?_
      refine wp_get xf_MO_72 d_MO_write_28 (by repeat first | exact xg_eq | exact xn_eq (by first | rfl | omega) | refine xg_ne (by first | omega | assumption | (simp only [xput, xnew]; omega)) ?_ | refine xn_ne (by first | omega | assumption | (simp only [xput, xnew]; omega)) ?_ | assumption | exact rfl) (by rfl) ?_
      refine wp_icmp_ge (tgt := 231) d_MO_write_31 (by decide) (fun hc => ?_) (fun hc => ?_)
      · exact absurd ((nI_leI (by omega) (by omega)).mp hc) hle
      clear hc
      refine wp_aload_n d_MO_write_34 rfl rfl ?_
      refine wp_iload d_MO_write_35 rfl ?_
      refine wp_callV1 xc_MO_90 d_MO_write_37 (Nat.le_of_ble_eq_true rfl) (by repeat first | exact xg_eq | exact xn_eq (by first | rfl | omega) | refine xg_ne (by first | omega | assumption | (simp only [xput, xnew]; omega)) ?_ | refine xn_ne (by first | omega | assumption | (simp only [xput, xnew]; omega)) ?_ | assumption | exact rfl) (MoW.at hE mg (i := i) (by omega)) (by omega) (fun r hh hp => ?_)
      obtain ⟨rfl, hz0⟩ := hp; have hz0 := hz0.symm; subst hz0
      refine wp_istore d_MO_write_40 (by decide) rfl ?_
      refine wp_iload d_MO_write_42 rfl ?_
      refine wp_bipush (v := 42) d_MO_write_44 (by rfl) ?_
      refine wp_bipush (v := 43) d_MO_write_46 (by rfl) ?_
      refine wp_bipush (v := 63) d_MO_write_48 (by rfl) ?_
      refine wp_bipush (v := 123) d_MO_write_50 (by rfl) ?_
      refine wp_callS5 xc_MO_68 d_MO_write_52 (Nat.le_of_ble_eq_true rfl) (c_MO_is (pat A.1 i) 42 43 63 123) (by omega) (fun r hh hp => ?_)
      obtain ⟨rfl, hz0⟩ := hp; have hz0 := hz0.symm; subst hz0
      refine wp_if_eq (tgt := 70) d_MO_write_55 (by decide) (fun hc0 => ?_) (fun hc0 => ?_)
      rotate_left
      · have hc0 := b_t (fun z => hc0 (bI_0.mpr z))
        obtain ⟨q, hq, hb⟩ := g1 hc0
        rw [if_pos hc0, hq] at jn
        refine wp_aload_n d_MO_write_58 rfl rfl ?_
        refine wp_iload d_MO_write_59 rfl ?_
        refine wp_iload_n d_MO_write_61 rfl rfl ?_
        have hq40 : (if pat A.1 q.1 = 63 then q.1 + 1 else q.1) ≤ 40 := by
          have : q.1 ≤ i + 5 := by
            rw [mRq] at hq
            split at hq
            · cases hM : mBr A.1 i with
              | inl k => rw [hM] at hq; cases hq
              | inr q' =>
                rw [hM] at hq
                have hq : (Sum.inr (q'.1, q'.2.1, q'.2.2.1, q'.2.2.2, false) : Nat ⊕ (Nat × Nat × Nat × Bool × Bool)) = .inr q := hq
                injection hq with hq
                have := (mBr_ok hM).2.2.1
                rw [← hq]
                exact this
            · injection hq with hq
              rw [← hq]
              show i + 1 ≤ i + 5
              omega
          split <;> omega
        refine wp_callV2 xc_MO_150 d_MO_write_62 (Nat.le_of_ble_eq_true rfl) (by repeat first | exact xg_eq | exact xn_eq (by first | rfl | omega) | refine xg_ne (by first | omega | assumption | (simp only [xput, xnew]; omega)) ?_ | refine xn_ne (by first | omega | assumption | (simp only [xput, xnew]; omega)) ?_ | assumption | exact rfl) (c_MO_writeRepetition hE mg (i := i) (s := s) (by omega) hq hc0 hb) (by omega) (fun r g2 hp => ?_)
        obtain ⟨rfl, f2, m2⟩ := hp
        refine wp_istore d_MO_write_65 (by decide) rfl ?_
        refine wp_goto (tgt := 228) d_MO_write_67 (by decide) ?_
        refine wp_goto (tgt := 25) d_MO_write_228 (by decide) ?_
        exact jn (if pat A.1 q.1 = 63 then q.1 + 1 else q.1) d gr s (wRp A.1 i s q.1 w.1, w.2) _ g2 rfl hq40 (fg.tr f2) m2
      have hc0 := bI_0.mp hc0
      rw [if_neg (by rw [hc0]; decide)] at jn
      refine wp_iload d_MO_write_70 rfl ?_
      refine wp_bipush (v := 124) d_MO_write_72 (by rfl) ?_
      refine wp_icmp_ne (tgt := 85) d_MO_write_74 (by decide) (fun h1 => ?_) (fun h1 => ?_)
      rotate_left
      · rw [if_pos h1] at jn
        obtain ⟨k1, k2, k3⟩ := g2 h1
        refine wp_aload_n d_MO_write_77 rfl rfl ?_
        refine wp_iload_n d_MO_write_78 rfl rfl ?_
        refine wp_callV1 xc_MO_154 d_MO_write_79 (Nat.le_of_ble_eq_true rfl) (by repeat first | exact xg_eq | exact xn_eq (by first | rfl | omega) | refine xg_ne (by first | omega | assumption | (simp only [xput, xnew]; omega)) ?_ | refine xn_ne (by first | omega | assumption | (simp only [xput, xnew]; omega)) ?_ | assumption | exact rfl) (c_MO_nextRow hE mg k2 d7 k1 k3) (by omega) (fun r g2 hp => ?_)
        obtain ⟨rfl, f2, m2⟩ := hp
        refine wp_goto (tgt := 225) d_MO_write_82 (by decide) ?_
        refine wp_iinc d_MO_write_225 rfl rfl (by decide) rfl ?_
        refine wp_goto (tgt := 25) d_MO_write_228 (by decide) ?_
        rw [show nI i + Int32.ofInt 1 = nI (i + 1) from (nI_succ i).symm]
        exact jn (i + 1) d gr s (wNx d w) _ g2 rfl (by omega) (fg.tr f2) m2
      rw [if_neg h1] at jn
      refine wp_iload d_MO_write_85 rfl ?_
      refine wp_bipush (v := 40) d_MO_write_87 (by rfl) ?_
      refine wp_icmp_ne (tgt := 107) d_MO_write_89 (by decide) (fun h2 => ?_) (fun h2 => ?_)
      rotate_left
      · rw [if_pos h2] at jn
        obtain ⟨k1, k2, k3⟩ := g3 h2
        refine wp_iinc d_MO_write_92 rfl rfl (by decide) rfl ?_
        refine wp_iinc d_MO_write_95 rfl rfl (by decide) rfl ?_
        refine wp_aload_n d_MO_write_98 rfl rfl ?_
        refine wp_iload_n d_MO_write_99 rfl rfl ?_
        refine wp_iload_n d_MO_write_100 rfl rfl ?_
        rw [show nI d + Int32.ofInt 1 = nI (d + 1) from (nI_succ d).symm, show nI gr + Int32.ofInt 1 = nI (gr + 1) from (nI_succ gr).symm]
        refine wp_callV2 xc_MO_147 d_MO_write_101 (Nat.le_of_ble_eq_true rfl) (by repeat first | exact xg_eq | exact xn_eq (by first | rfl | omega) | refine xg_ne (by first | omega | assumption | (simp only [xput, xnew]; omega)) ?_ | refine xn_ne (by first | omega | assumption | (simp only [xput, xnew]; omega)) ?_ | assumption | exact rfl) (c_MO_open hE mg k2 (d := d + 1) (g := gr + 1) (by omega) (by omega)) (by omega) (fun r g2 hp => ?_)
        obtain ⟨rfl, f2, m2⟩ := hp
        refine wp_goto (tgt := 225) d_MO_write_104 (by decide) ?_
        refine wp_iinc d_MO_write_225 rfl rfl (by decide) rfl ?_
        refine wp_goto (tgt := 25) d_MO_write_228 (by decide) ?_
        rw [show nI i + Int32.ofInt 1 = nI (i + 1) from (nI_succ i).symm]
        exact jn (i + 1) (d + 1) (gr + 1) s (wOp (d + 1) (gr + 1) w) _ g2 rfl (by omega) (fg.tr f2) m2
      rw [if_neg h2] at jn
      refine wp_iload d_MO_write_107 rfl ?_
      refine wp_bipush (v := 41) d_MO_write_109 (by rfl) ?_
      refine wp_icmp_ne (tgt := 132) d_MO_write_111 (by decide) (fun h3 => ?_) (fun h3 => ?_)
      rotate_left
      · rw [if_pos h3] at jn
        obtain ⟨k0, k1, k2, k3, k4, k5⟩ := g4 h3
        refine wp_aload_n d_MO_write_114 rfl rfl ?_
        refine wp_iload_n d_MO_write_115 rfl rfl ?_
        refine wp_callV1 xc_MO_157 d_MO_write_116 (Nat.le_of_ble_eq_true rfl) (by repeat first | exact xg_eq | exact xn_eq (by first | rfl | omega) | refine xg_ne (by first | omega | assumption | (simp only [xput, xnew]; omega)) ?_ | refine xn_ne (by first | omega | assumption | (simp only [xput, xnew]; omega)) ?_ | assumption | exact rfl) (c_MO_close hE mg k1 d7 k2 k3 k4 k5) (by omega) (fun r g2 hp => ?_)
        obtain ⟨rfl, f2, m2⟩ := hp
        obtain ⟨s2, o2, t2, hc2, hl2, hm2⟩ := id m2
        obtain ⟨fp, ft, fo, qq, o21, a22, a23, a24, a25, a26, a27, a28, a29, a30, a31, a32, a33, a34, a35, a36, a37, a38, a39, a40⟩ := hm2
        refine wp_aload_n d_MO_write_119 rfl rfl ?_
        refine wp_get xf_MO_44 d_MO_write_120 (by repeat first | exact xg_eq | exact xn_eq (by first | rfl | omega) | refine xg_ne (by first | omega | assumption | (simp only [xput, xnew]; omega)) ?_ | refine xn_ne (by first | omega | assumption | (simp only [xput, xnew]; omega)) ?_ | assumption | exact rfl) (by rfl) ?_
        refine wp_iload_n d_MO_write_123 rfl rfl ?_
        refine wp_iald d_MO_write_124 (by repeat first | exact xg_eq | exact xn_eq (by first | rfl | omega) | refine xg_ne (by first | omega | assumption | (simp only [xput, xnew]; omega)) ?_ | refine xn_ne (by first | omega | assumption | (simp only [xput, xnew]; omega)) ?_ | assumption | exact rfl) hE.i (vp_in_nI (by first | omega | (dsimp only; omega)) (by omega)) ?_
        rw [nI_clamp (by omega)]
        refine wp_istore_n d_MO_write_125 rfl (by decide) rfl ?_
        refine wp_iinc d_MO_write_126 rfl rfl (by decide) rfl ?_
        refine wp_goto (tgt := 225) d_MO_write_129 (by decide) ?_
        refine wp_iinc d_MO_write_225 rfl rfl (by decide) rfl ?_
        refine wp_goto (tgt := 25) d_MO_write_228 (by decide) ?_
        rw [show nI i + Int32.ofInt 1 = nI (i + 1) from (nI_succ i).symm, show nI d + Int32.ofInt (-1) = nI (d - 1) from sb_m1 k0]
        exact jn (i + 1) (d - 1) gr (w.2.1 d) (wCl d w) _ g2 rfl (by omega) (fg.tr f2) m2
      rw [if_neg h3] at jn
      obtain ⟨k1, n, hn⟩ := g5 hc0 h1 h2 h3
      have hn40 : n ≤ 40 := by
        rw [atN] at hn
        split at hn
        · have := (mCl_le hl.1).2 n hn; omega
        · injection hn with hn; omega
      rw [hn] at jn
      refine wr_atom hE mg (by omega) k1 hn hn40 (fun g' f' m' => ?_)
      exact jn n d gr w.1.length _ _ g' rfl hn40 (fg.tr f') m'
  obtain ⟨fp, ft, fo, qq, o21, a22, a23, a24, a25, a26, a27, a28, a29, a30, a31, a32, a33, a34, a35, a36, a37, a38, a39, a40⟩ := hm
  refine wpc_of rfl (Nat.le_of_ble_eq_true rfl) ?_
  refine wp_aload_n d_MO_write_0 rfl rfl ?_
  refine wp_iconst (v := 0) d_MO_write_1 (by rfl) ?_
  refine wp_put xf_MO_126 xg_MO (Or.inl rfl) d_MO_write_2 (by repeat first | exact xg_eq | exact xn_eq (by first | rfl | omega) | refine xg_ne (by first | omega | assumption | (simp only [xput, xnew]; omega)) ?_ | refine xn_ne (by first | omega | assumption | (simp only [xput, xnew]; omega)) ?_ | assumption | exact rfl) (by first | rfl | assumption | exact bI_z _) (by first | rfl | assumption | exact bI_f _) (Nat.le_of_ble_eq_true rfl) ?_
  refine wp_aload_n d_MO_write_5 rfl rfl ?_
  refine wp_iconst (v := 0) d_MO_write_6 (by rfl) ?_
  refine wp_put xf_MO_133 xg_MO (Or.inl rfl) d_MO_write_7 (by repeat first | exact xg_eq | exact xn_eq (by first | rfl | omega) | refine xg_ne (by first | omega | assumption | (simp only [xput, xnew]; omega)) ?_ | refine xn_ne (by first | omega | assumption | (simp only [xput, xnew]; omega)) ?_ | assumption | exact rfl) (by first | rfl | assumption | exact bI_z _) (by first | rfl | assumption | exact bI_f _) (Nat.le_of_ble_eq_true rfl) ?_
  generalize hg3 : xput (xput h _ _) _ _ = g3
  have f3 : mfr E h g3 := by rw [← hg3]; exact (mfr.rf.put (by omega)).put (by omega)
  have m3 : MoW E g3 A B ([], C.2.2.2.2.1, C.2.2.2.2.2.1, C.2.2.2.2.2.2.1, C.2.2.2.2.2.2.2.1, C.2.2.2.2.2.2.2.2.1, 0) D := by
    rw [← hg3]
    exact ⟨C.1, C.2.1, C.2.2.1, fun k hk => absurd hk (Nat.not_lt_zero k), Nat.zero_le _, ⟨fp, ft, fo, qq, (by first | (repeat (refine xg_ne (by omega) ?_)); first | exact xg_eq | exact o21), (by first | (repeat (refine xg_ne (by omega) ?_)); first | exact xg_eq | exact a22), (by first | (repeat (refine xg_ne (by omega) ?_)); first | exact xg_eq | exact a23), (by first | (repeat (refine xg_ne (by omega) ?_)); first | exact xg_eq | exact a24), (by first | (repeat (refine xg_ne (by omega) ?_)); first | exact xg_eq | exact a25), (by first | (repeat (refine xg_ne (by omega) ?_)); first | exact xg_eq | exact a26), (by first | (repeat (refine xg_ne (by omega) ?_)); first | exact xg_eq | exact a27), (by first | (repeat (refine xg_ne (by omega) ?_)); first | exact xg_eq | exact a28), (by first | (repeat (refine xg_ne (by omega) ?_)); first | exact xg_eq | exact a29), (by first | (repeat (refine xg_ne (by omega) ?_)); first | exact xg_eq | exact a30), (by first | (repeat (refine xg_ne (by omega) ?_)); first | exact xg_eq | exact a31), (by first | (repeat (refine xg_ne (by omega) ?_)); first | exact xg_eq | exact a32), (by first | (repeat (refine xg_ne (by omega) ?_)); first | exact xg_eq | exact a33), (by first | (repeat (refine xg_ne (by omega) ?_)); first | exact xg_eq | exact a34), (by first | (repeat (refine xg_ne (by omega) ?_)); first | exact xg_eq | exact a35), (by first | (repeat (refine xg_ne (by omega) ?_)); first | exact xg_eq | exact a36), (by first | (repeat (refine xg_ne (by omega) ?_)); first | exact xg_eq | exact a37), (by first | (repeat (refine xg_ne (by omega) ?_)); first | exact xg_eq | exact a38), (by first | (repeat (refine xg_ne (by omega) ?_)); first | exact xg_eq | exact a39), (by first | (repeat (refine xg_ne (by omega) ?_)); first | exact xg_eq | exact a40)⟩⟩
  clear hg3
  have o3 := m3.obj
  refine wp_iconst (v := 0) d_MO_write_10 (by rfl) ?_
  refine wp_istore_n d_MO_write_11 rfl (by decide) rfl ?_
  refine wp_iconst (v := 0) d_MO_write_12 (by rfl) ?_
  refine wp_istore_n d_MO_write_13 rfl (by decide) rfl ?_
  refine wp_iconst (v := 0) d_MO_write_14 (by rfl) ?_
  refine wp_istore_n d_MO_write_15 rfl (by decide) rfl ?_
  refine wp_aload_n d_MO_write_16 rfl rfl ?_
  refine wp_iconst (v := 0) d_MO_write_17 (by rfl) ?_
  refine wp_iconst (v := 0) d_MO_write_18 (by rfl) ?_
  refine wp_callV2 xc_MO_147 d_MO_write_19 (Nat.le_of_ble_eq_true rfl) (by repeat first | exact xg_eq | exact xn_eq (by first | rfl | omega) | refine xg_ne (by first | omega | assumption | (simp only [xput, xnew]; omega)) ?_ | refine xn_ne (by first | omega | assumption | (simp only [xput, xnew]; omega)) ?_ | assumption | exact rfl) (c_MO_open hE m3 (by show 0 < 130; omega) (d := 0) (g := 0) (by omega) (by omega)) (by omega) (fun r g4 hp => ?_)
  obtain ⟨rfl, f4, m4⟩ := hp
  refine wp_iconst (v := 0) d_MO_write_22 (by rfl) ?_
  refine wp_istore d_MO_write_23 (by decide) rfl ?_
  exact lp 28 0 0 0 0 _ g4 hv (Nat.zero_le _) hR (f3.tr f4) m4
end M9
