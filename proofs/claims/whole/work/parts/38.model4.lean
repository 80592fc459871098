abbrev CK : Type := Nat × Nat × Bool × MB
def bOk (B : MB) : Prop := (∀ j, B.1 j ≤ 1000) ∧ (∀ j, B.2.1 j ≤ 1000) ∧ B.2.2.2.2.1 ≤ 1000 ∧ B.2.2.2.2.2.2.2.1 ≤ 6
def bBr (d : Nat) (B : MB) : MB := (va_up B.1 d (lst (B.1 d + B.2.1 d + 2)), B.2.1, B.2.2.1, va_up B.2.2.2.1 d (B.2.2.2.1 d || B.2.2.1 d), B.2.2.2.2)
def bOp (d : Nat) (B : MB) : MB := (va_up B.1 d 0, B.2.1, B.2.2.1, va_up B.2.2.2.1 d false, B.2.2.2.2.1, B.2.2.2.2.2.1, B.2.2.2.2.2.2.1, B.2.2.2.2.2.2.2.1 + 1, B.2.2.2.2.2.2.2.2)
def bCs (d : Nat) (B : MB) : MB := (B.1, B.2.1, B.2.2.1, B.2.2.2.1, lst (2 + B.1 d + B.2.1 d), B.2.2.2.1 d || B.2.2.1 d, B.2.2.2.2.2.2)
def bAt (pe : Bool) (B : MB) : MB := (B.1, B.2.1, B.2.2.1, B.2.2.2.1, 1, pe, B.2.2.2.2.2.2)
def bSt (B : MB) : MB := (va_up B.1 0 0, va_up B.2.1 0 0, va_up B.2.2.1 0 true, va_up B.2.2.2.1 0 false, 0, true, false, 0, B.2.2.2.2.2.2.2.2)
def ck1 (P : List Int32) (s : CK) : Nat ⊕ CK :=
  if isB (pat P s.1) 42 43 63 123 = true then
    (if s.2.2.1 = true then (match mRp P s.1 with | .inl k => .inl k | .inr q => .inr (q.1, s.2.1, false, bRp q.2.1 q.2.2.1 q.2.2.2.1 q.2.2.2.2 s.2.2.2)) else .inl s.1)
  else if pat P s.1 = 124 then .inr (s.1 + 1, s.2.1, false, bOR s.2.1 (bBr s.2.1 (bCP s.2.1 s.2.2.2)))
  else if pat P s.1 = 40 then (if s.2.2.2.2.2.2.2.2.2.2.1 = 6 then .inl s.1 else .inr (s.1 + 1, s.2.1 + 1, false, bOR (s.2.1 + 1) (bOp (s.2.1 + 1) (bCP s.2.1 s.2.2.2))))
  else if pat P s.1 = 41 then (if s.2.1 = 0 then .inl s.1 else .inr (s.1 + 1, s.2.1 - 1, true, bCs s.2.1 (bCP s.2.1 s.2.2.2)))
  else if plB (pat P s.1) = false ∧ isB (pat P s.1) 46 94 36 91 = false then .inl s.1
  else (match (if pat P s.1 = 91 then mPC P s.1 else .inr (s.1 + 1)) with | .inl k => .inl k | .inr n => .inr (n, s.2.1, true, bAt (decide (pat P s.1 = 94) || decide (pat P s.1 = 36)) (bCP s.2.1 s.2.2.2)))
def ckE (P : List Int32) (s : CK) : Nat ⊕ (Bool × Nat × Nat) := if s.2.1 = 0 then .inr (s.2.2.2.2.2.2.2.2.2.1, s.2.2.2.2.2.2.2.2.2.2.1, lst (s.2.2.2.1 0 + lst (s.2.2.2.2.1 0 + s.2.2.2.2.2.2.2.1))) else .inl P.length
def ckR (P : List Int32) : Nat → CK → Nat ⊕ (Bool × Nat × Nat)
  | 0, s => ckE P s
  | f + 1, s => if P.length ≤ s.1 then ckE P s else (match ck1 P s with | .inl k => .inl k | .inr s' => ckR P f s')
def ckF (P : List Int32) (B : MB) : Nat ⊕ (Bool × Nat × Nat) := ckR P 28 (0, 0, false, bSt B)
def ckPost (E : xE) (h : xH) (A : MA3) (C : MC) (D : MD) (R : Nat ⊕ (Bool × Nat × Nat)) (r' : Option Value) (h' : xH) : Prop := match R with
  | .inl k => r' = some (.int (nI k)) ∧ k ≤ 40 ∧ mfr E h h' ∧ ∃ B', bOk B' ∧ Mo E h' A B' C D
  | .inr q => r' = some (.int (-2)) ∧ mfr E h h' ∧ ∃ B', bOk B' ∧ Mo E h' A B' C D ∧ B'.2.2.2.2.2.2.1 = q.1 ∧ B'.2.2.2.2.2.2.2.1 = q.2.1 ∧ B'.2.2.2.2.2.2.2.2 = q.2.2
theorem vaup_le {f : Nat → Nat} {d v M : Nat} (hf : ∀ j, f j ≤ M) (hv : v ≤ M) (j : Nat) : va_up f d v j ≤ M := by
  rw [va_up]
  split
  · exact hv
  · exact hf j
theorem bOk.cp {B : MB} (h : bOk B) (d : Nat) : bOk (bCP d B) := ⟨h.1, vaup_le h.2.1 (lst_le _), Nat.zero_le _, h.2.2.2⟩
theorem bOk.or {B : MB} (h : bOk B) (d : Nat) : bOk (bOR d B) := ⟨h.1, vaup_le h.2.1 (Nat.zero_le _), h.2.2.1, h.2.2.2⟩
theorem bOk.br {B : MB} (h : bOk B) (d : Nat) : bOk (bBr d B) := ⟨vaup_le h.1 (lst_le _), h.2.1, h.2.2.1, h.2.2.2⟩
theorem bOk.cs {B : MB} (h : bOk B) (d : Nat) : bOk (bCs d B) := ⟨h.1, h.2.1, lst_le _, h.2.2.2⟩
theorem bOk.at {B : MB} (h : bOk B) (pe : Bool) : bOk (bAt pe B) := ⟨h.1, h.2.1, by show 1 ≤ 1000; omega, h.2.2.2⟩
theorem bOk.rp {B : MB} (h : bOk B) (t m : Nat) (nn fv : Bool) : bOk (bRp t m nn fv B) := ⟨h.1, h.2.1, lst_le _, h.2.2.2⟩
theorem bOk.op {B : MB} (h : bOk B) (d : Nat) (h6 : B.2.2.2.2.2.2.2.1 < 6) : bOk (bOp d B) := ⟨vaup_le h.1 (Nat.zero_le _), h.2.1, h.2.2.1, h6⟩
theorem bOk.st {B : MB} (h : bOk B) : bOk (bSt B) := ⟨vaup_le h.1 (Nat.zero_le _), vaup_le h.2.1 (Nat.zero_le _), Nat.zero_le _, Nat.zero_le _⟩
theorem mCl_le {P : List Int32} (hP : P.length ≤ 28) : ∀ {f k it : Nat}, (∀ n, mCl P f k it = .inl n → n ≤ 28) ∧ (∀ n, mCl P f k it = .inr n → n ≤ 28)
  | 0, k, it => by
    refine ⟨fun n hn => ?_, fun n hn => ?_⟩ <;> rw [mCl] at hn
    · injection hn with hn; omega
    · cases hn
  | f + 1, k, it => by
    refine ⟨fun n hn => ?_, fun n hn => ?_⟩ <;> rw [mCl] at hn <;> repeat' split at hn
    all_goals first | (cases hn; done) | (injection hn with hn; omega) | exact (mCl_le hP).1 n hn | exact (mCl_le hP).2 n hn
theorem mCl_gt {P : List Int32} : ∀ {f k it n : Nat}, mCl P f k it = .inr n → k < n
  | 0, k, it, n, hn => by rw [mCl] at hn; cases hn
  | f + 1, k, it, n, hn => by
    rw [mCl] at hn
    repeat' split at hn
    all_goals first | (cases hn; done) | (injection hn with hn; omega) | (have := mCl_gt hn; omega)
theorem mPC_gt {P : List Int32} {i n : Nat} (h : mPC P i = .inr n) : i < n := by
  rw [mPC] at h
  have := mCl_gt h
  split at this <;> omega
theorem mRp_gt {P : List Int32} {i : Nat} {q : Nat × Nat × Nat × Bool × Bool} (h : mRp P i = .inr q) : i < q.1 := by
  rw [mRp] at h
  cases hq : mRq P i with
  | inl k => rw [hq] at h; cases h
  | inr q' =>
    rw [hq] at h
    have h : (Sum.inr (if pat P q'.1 = 63 then q'.1 + 1 else q'.1, q'.2) : Nat ⊕ (Nat × Nat × Nat × Bool × Bool)) = .inr q := h
    injection h with h
    have h1 : i < q'.1 := by
      rw [mRq] at hq
      split at hq
      · cases hb : mBr P i with
        | inl k => rw [hb] at hq; cases hq
        | inr b =>
          rw [hb] at hq
          have hq : (Sum.inr (b.1, b.2.1, b.2.2.1, b.2.2.2, false) : Nat ⊕ (Nat × Nat × Nat × Bool × Bool)) = .inr q' := hq
          injection hq with hq
          rw [← hq]
          show i < b.1
          rw [mBr] at hb
          repeat' split at hb
          all_goals first | (cases hb; done) | (injection hb with hb; rw [← hb]; show i < i + _; omega)
      · injection hq with hq
        rw [← hq]
        exact Nat.lt_succ_self i
    rw [← h]
    show i < if pat P q'.1 = 63 then q'.1 + 1 else q'.1
    split <;> omega
section M4
variable {E : xE} {h : xH} {A : MA3} {B : MB} {C : MC} {D : MD}
abbrev kL (E : xE) (d : Nat) (a : Bool) (i : Nat) (c n : Int32) : List (Nat × Value) := [(0, .ref (xb E + 21)), (1, .int (nI d)), (2, .int (bI a)), (3, .int (nI i)), (4, .int c), (5, .int n)]
variable {g : xH} {Post : Option Value → xH → Prop} {d i : Nat} {a : Bool} {c : Int32}
theorem ck_bar (hE : xOK E) (mg : Mo E g A B C D) (hb : bOk B) (hd : d ≤ 6) (k : ∀ g', mfr E g g' → Mo E g' A (bOR d (bBr d (bCP d B))) C D → wp E 4 m_MO_check 370 (kL E d false i c (nI (i + 1))) [] g' Post) : wp E 4 m_MO_check 106 (kL E d a i c (nI (i + 1))) [] g Post := by
  have og := mg.obj
  refine wp_aload_n d_MO_check_106 rfl rfl ?_
  refine wp_iload_n d_MO_check_107 rfl rfl ?_
  refine wp_callV1 xc_MO_114 d_MO_check_108 (Nat.le_of_ble_eq_true rfl) (by repeat first | exact xg_eq | exact xn_eq (by first | rfl | omega) | refine xg_ne (by first | omega | assumption | (simp only [xput, xnew]; omega)) ?_ | refine xn_ne (by first | omega | assumption | (simp only [xput, xnew]; omega)) ?_ | assumption | exact rfl) (c_MO_closePiece hE mg (d := d) (by omega) (hb.2.1 d) hb.2.2.1) (by omega) (fun r g2 hp => ?_)
  obtain ⟨rfl, f2, m2⟩ := hp
  have b2 := hb.cp d
  obtain ⟨fp, ft, fo, qq, o21, a22, a23, a24, a25, a26, a27, a28, a29, a30, a31, a32, a33, a34, a35, a36, a37, a38, a39, a40⟩ := id m2
  refine wp_aload_n d_MO_check_111 rfl rfl ?_
  refine wp_get xf_MO_22 d_MO_check_112 (by repeat first | exact xg_eq | exact xn_eq (by first | rfl | omega) | refine xg_ne (by first | omega | assumption | (simp only [xput, xnew]; omega)) ?_ | refine xn_ne (by first | omega | assumption | (simp only [xput, xnew]; omega)) ?_ | assumption | exact rfl) (by rfl) ?_
  refine wp_iload_n d_MO_check_115 rfl rfl ?_
  refine wp_aload_n d_MO_check_116 rfl rfl ?_
  refine wp_get xf_MO_22 d_MO_check_117 (by repeat first | exact xg_eq | exact xn_eq (by first | rfl | omega) | refine xg_ne (by first | omega | assumption | (simp only [xput, xnew]; omega)) ?_ | refine xn_ne (by first | omega | assumption | (simp only [xput, xnew]; omega)) ?_ | assumption | exact rfl) (by rfl) ?_
  refine wp_iload_n d_MO_check_120 rfl rfl ?_
  refine wp_iald d_MO_check_121 (by repeat first | exact xg_eq | exact xn_eq (by first | rfl | omega) | refine xg_ne (by first | omega | assumption | (simp only [xput, xnew]; omega)) ?_ | refine xn_ne (by first | omega | assumption | (simp only [xput, xnew]; omega)) ?_ | assumption | exact rfl) hE.i (vp_in_nI (by omega) (by omega)) ?_
  rw [nI_clamp (by omega)]
  refine wp_aload_n d_MO_check_122 rfl rfl ?_
  refine wp_get xf_MO_25 d_MO_check_123 (by repeat first | exact xg_eq | exact xn_eq (by first | rfl | omega) | refine xg_ne (by first | omega | assumption | (simp only [xput, xnew]; omega)) ?_ | refine xn_ne (by first | omega | assumption | (simp only [xput, xnew]; omega)) ?_ | assumption | exact rfl) (by rfl) ?_
  refine wp_iload_n d_MO_check_126 rfl rfl ?_
  refine wp_iald d_MO_check_127 (by repeat first | exact xg_eq | exact xn_eq (by first | rfl | omega) | refine xg_ne (by first | omega | assumption | (simp only [xput, xnew]; omega)) ?_ | refine xn_ne (by first | omega | assumption | (simp only [xput, xnew]; omega)) ?_ | assumption | exact rfl) hE.i (vp_in_nI (by omega) (by omega)) ?_
  rw [nI_clamp (by omega)]
  refine wp_iadd d_MO_check_128 ?_
  refine wp_iconst (v := 2) d_MO_check_129 (by rfl) ?_
  refine wp_iadd d_MO_check_130 ?_
  have l1 := b2.1 d
  have l2 := b2.2.1 d
  rw [nI_add, show nI ((bCP d B).1 d + (bCP d B).2.1 d) + 2 = nI ((bCP d B).1 d + (bCP d B).2.1 d + 2) from nI_add _ 2]
  refine wp_callS1 xc_MO_79 d_MO_check_131 (Nat.le_of_ble_eq_true rfl) (c_MO_least (by omega)) (by omega) (fun r hh hp => ?_)
  obtain ⟨rfl, hz0⟩ := hp; have hz0 := hz0.symm; subst hz0
  refine wp_iast d_MO_check_134 (by repeat first | exact xg_eq | exact xn_eq (by first | rfl | omega) | refine xg_ne (by first | omega | assumption | (simp only [xput, xnew]; omega)) ?_ | refine xn_ne (by first | omega | assumption | (simp only [xput, xnew]; omega)) ?_ | assumption | exact rfl) hE.i (vp_in_nI (by omega) (by omega)) ?_
  rw [upd_nI (by omega)]
  refine wp_aload_n d_MO_check_135 rfl rfl ?_
  refine wp_get xf_MO_32 d_MO_check_136 (by repeat first | exact xg_eq | exact xn_eq (by first | rfl | omega) | refine xg_ne (by first | omega | assumption | (simp only [xput, xnew]; omega)) ?_ | refine xn_ne (by first | omega | assumption | (simp only [xput, xnew]; omega)) ?_ | assumption | exact rfl) (by rfl) ?_
  refine wp_iload_n d_MO_check_139 rfl rfl ?_
  refine wp_dup2 d_MO_check_140 rfl rfl ?_
  refine wp_zald d_MO_check_141 (by repeat first | exact xg_eq | exact xn_eq (by first | rfl | omega) | refine xg_ne (by first | omega | assumption | (simp only [xput, xnew]; omega)) ?_ | refine xn_ne (by first | omega | assumption | (simp only [xput, xnew]; omega)) ?_ | assumption | exact rfl) hE.z (vp_in_nI (by omega) (by omega)) ?_
  rw [nI_clamp (by omega)]
  refine wp_aload_n d_MO_check_142 rfl rfl ?_
  refine wp_get xf_MO_28 d_MO_check_143 (by repeat first | exact xg_eq | exact xn_eq (by first | rfl | omega) | refine xg_ne (by first | omega | assumption | (simp only [xput, xnew]; omega)) ?_ | refine xn_ne (by first | omega | assumption | (simp only [xput, xnew]; omega)) ?_ | assumption | exact rfl) (by rfl) ?_
  refine wp_iload_n d_MO_check_146 rfl rfl ?_
  refine wp_zald d_MO_check_147 (by repeat first | exact xg_eq | exact xn_eq (by first | rfl | omega) | refine xg_ne (by first | omega | assumption | (simp only [xput, xnew]; omega)) ?_ | refine xn_ne (by first | omega | assumption | (simp only [xput, xnew]; omega)) ?_ | assumption | exact rfl) hE.z (vp_in_nI (by omega) (by omega)) ?_
  rw [nI_clamp (by omega)]
  refine wp_ior d_MO_check_148 ?_
  rw [bI_or]
  refine wp_zast d_MO_check_149 (by repeat first | exact xg_eq | exact xn_eq (by first | rfl | omega) | refine xg_ne (by first | omega | assumption | (simp only [xput, xnew]; omega)) ?_ | refine xn_ne (by first | omega | assumption | (simp only [xput, xnew]; omega)) ?_ | assumption | exact rfl) hE.z (vp_in_nI (by omega) (by omega)) (by first | exact bI_01 _ | exact Or.inl rfl | exact Or.inr rfl | assumption) ?_
  rw [upd_bI (by omega)]
  generalize hg3 : xput (xput g2 _ _) _ _ = g3
  have f3 : mfr E g2 g3 := by rw [← hg3]; exact (mfr.rf.put (by omega)).put (by omega)
  have m3 : Mo E g3 A (bBr d (bCP d B)) C D := by rw [← hg3]; exact ⟨fp, ft, fo, qq, (by first | (repeat (refine xg_ne (by omega) ?_)); first | exact xg_eq | exact o21), (by first | (repeat (refine xg_ne (by omega) ?_)); first | exact xg_eq | exact a22), (by first | (repeat (refine xg_ne (by omega) ?_)); first | exact xg_eq | exact a23), (by first | (repeat (refine xg_ne (by omega) ?_)); first | exact xg_eq | exact a24), (by first | (repeat (refine xg_ne (by omega) ?_)); first | exact xg_eq | exact a25), (by first | (repeat (refine xg_ne (by omega) ?_)); first | exact xg_eq | exact a26), (by first | (repeat (refine xg_ne (by omega) ?_)); first | exact xg_eq | exact a27), (by first | (repeat (refine xg_ne (by omega) ?_)); first | exact xg_eq | exact a28), (by first | (repeat (refine xg_ne (by omega) ?_)); first | exact xg_eq | exact a29), (by first | (repeat (refine xg_ne (by omega) ?_)); first | exact xg_eq | exact a30), (by first | (repeat (refine xg_ne (by omega) ?_)); first | exact xg_eq | exact a31), (by first | (repeat (refine xg_ne (by omega) ?_)); first | exact xg_eq | exact a32), (by first | (repeat (refine xg_ne (by omega) ?_)); first | exact xg_eq | exact a33), (by first | (repeat (refine xg_ne (by omega) ?_)); first | exact xg_eq | exact a34), (by first | (repeat (refine xg_ne (by omega) ?_)); first | exact xg_eq | exact a35), (by first | (repeat (refine xg_ne (by omega) ?_)); first | exact xg_eq | exact a36), (by first | (repeat (refine xg_ne (by omega) ?_)); first | exact xg_eq | exact a37), (by first | (repeat (refine xg_ne (by omega) ?_)); first | exact xg_eq | exact a38), (by first | (repeat (refine xg_ne (by omega) ?_)); first | exact xg_eq | exact a39), (by first | (repeat (refine xg_ne (by omega) ?_)); first | exact xg_eq | exact a40)⟩
  clear hg3
  have o3 := m3.obj
  refine wp_aload_n d_MO_check_150 rfl rfl ?_
  refine wp_iload_n d_MO_check_151 rfl rfl ?_
  refine wp_callV1 xc_MO_107 d_MO_check_152 (Nat.le_of_ble_eq_true rfl) (by repeat first | exact xg_eq | exact xn_eq (by first | rfl | omega) | refine xg_ne (by first | omega | assumption | (simp only [xput, xnew]; omega)) ?_ | refine xn_ne (by first | omega | assumption | (simp only [xput, xnew]; omega)) ?_ | assumption | exact rfl) (c_MO_openRow hE m3 (d := d) (by omega)) (by omega) (fun r g4 hp => ?_)
  obtain ⟨rfl, f4, m4⟩ := hp
  refine wp_iconst (v := 0) d_MO_check_155 (by rfl) ?_
  refine wp_istore_n d_MO_check_156 rfl (by decide) rfl ?_
  refine wp_goto (tgt := 370) d_MO_check_157 (by decide) ?_
  exact k g4 ((f2.tr f3).tr f4) m4
theorem ck_opn (hE : xOK E) (mg : Mo E g A B C D) (hb : bOk B) (hd : d ≤ 6) (k : ∀ g', mfr E g g' → Mo E g' A (bOR (d + 1) (bOp (d + 1) (bCP d B))) C D → wp E 4 m_MO_check 370 (kL E (d + 1) false i c (nI (i + 1))) [] g' Post) : wp E 4 m_MO_check 178 (kL E d a i c (nI (i + 1))) [] g Post := by
  have og := mg.obj
  refine wp_aload_n d_MO_check_178 rfl rfl ?_
  refine wp_iload_n d_MO_check_179 rfl rfl ?_
  refine wp_callV1 xc_MO_114 d_MO_check_180 (Nat.le_of_ble_eq_true rfl) (by repeat first | exact xg_eq | exact xn_eq (by first | rfl | omega) | refine xg_ne (by first | omega | assumption | (simp only [xput, xnew]; omega)) ?_ | refine xn_ne (by first | omega | assumption | (simp only [xput, xnew]; omega)) ?_ | assumption | exact rfl) (c_MO_closePiece hE mg (d := d) (by omega) (hb.2.1 d) hb.2.2.1) (by omega) (fun r g2 hp => ?_)
  obtain ⟨rfl, f2, m2⟩ := hp
  obtain ⟨fp, ft, fo, qq, o21, a22, a23, a24, a25, a26, a27, a28, a29, a30, a31, a32, a33, a34, a35, a36, a37, a38, a39, a40⟩ := id m2
  refine wp_aload_n d_MO_check_183 rfl rfl ?_
  refine wp_dup d_MO_check_184 rfl ?_
  refine wp_get xf_MO_104 d_MO_check_185 (by repeat first | exact xg_eq | exact xn_eq (by first | rfl | omega) | refine xg_ne (by first | omega | assumption | (simp only [xput, xnew]; omega)) ?_ | refine xn_ne (by first | omega | assumption | (simp only [xput, xnew]; omega)) ?_ | assumption | exact rfl) (by rfl) ?_
  refine wp_iconst (v := 1) d_MO_check_188 (by rfl) ?_
  refine wp_iadd d_MO_check_189 ?_
  rw [show nI ((bCP d B).2.2.2.2.2.2.2.1) + 1 = nI (B.2.2.2.2.2.2.2.1 + 1) from (nI_succ _).symm]
  refine wp_put xf_MO_104 xg_MO (Or.inl rfl) d_MO_check_190 (by repeat first | exact xg_eq | exact xn_eq (by first | rfl | omega) | refine xg_ne (by first | omega | assumption | (simp only [xput, xnew]; omega)) ?_ | refine xn_ne (by first | omega | assumption | (simp only [xput, xnew]; omega)) ?_ | assumption | exact rfl) (by first | rfl | assumption | exact bI_z _) (by first | rfl | assumption | exact bI_f _) (Nat.le_of_ble_eq_true rfl) ?_
  refine wp_iinc d_MO_check_193 rfl rfl (by decide) rfl ?_
  refine wp_aload_n d_MO_check_196 rfl rfl ?_
  refine wp_get xf_MO_22 d_MO_check_197 (by repeat first | exact xg_eq | exact xn_eq (by first | rfl | omega) | refine xg_ne (by first | omega | assumption | (simp only [xput, xnew]; omega)) ?_ | refine xn_ne (by first | omega | assumption | (simp only [xput, xnew]; omega)) ?_ | assumption | exact rfl) (by rfl) ?_
  refine wp_iload_n d_MO_check_200 rfl rfl ?_
  refine wp_iconst (v := 0) d_MO_check_201 (by rfl) ?_
  rw [show nI d + Int32.ofInt 1 = nI (d + 1) from (nI_succ d).symm, show (0 : Int32) = nI 0 from rfl]
  refine wp_iast d_MO_check_202 (by repeat first | exact xg_eq | exact xn_eq (by first | rfl | omega) | refine xg_ne (by first | omega | assumption | (simp only [xput, xnew]; omega)) ?_ | refine xn_ne (by first | omega | assumption | (simp only [xput, xnew]; omega)) ?_ | assumption | exact rfl) hE.i (vp_in_nI (by omega) (by omega)) ?_
  rw [upd_nI (by omega)]
  refine wp_aload_n d_MO_check_203 rfl rfl ?_
  refine wp_get xf_MO_32 d_MO_check_204 (by repeat first | exact xg_eq | exact xn_eq (by first | rfl | omega) | refine xg_ne (by first | omega | assumption | (simp only [xput, xnew]; omega)) ?_ | refine xn_ne (by first | omega | assumption | (simp only [xput, xnew]; omega)) ?_ | assumption | exact rfl) (by rfl) ?_
  refine wp_iload_n d_MO_check_207 rfl rfl ?_
  refine wp_iconst (v := 0) d_MO_check_208 (by rfl) ?_
  refine wp_zast d_MO_check_209 (by repeat first | exact xg_eq | exact xn_eq (by first | rfl | omega) | refine xg_ne (by first | omega | assumption | (simp only [xput, xnew]; omega)) ?_ | refine xn_ne (by first | omega | assumption | (simp only [xput, xnew]; omega)) ?_ | assumption | exact rfl) hE.z (vp_in_nI (by omega) (by omega)) (by first | exact bI_01 _ | exact Or.inl rfl | exact Or.inr rfl | assumption) ?_
  rw [show (0 : Int32) = bI false from rfl, upd_bI (by omega)]
  generalize hg3 : xput (xput (xput g2 _ _) _ _) _ _ = g3
  have f3 : mfr E g2 g3 := by rw [← hg3]; exact ((mfr.rf.put (by omega)).put (by omega)).put (by omega)
  have m3 : Mo E g3 A (bOp (d + 1) (bCP d B)) C D := by rw [← hg3]; exact ⟨fp, ft, fo, qq, (by first | (repeat (refine xg_ne (by omega) ?_)); first | exact xg_eq | exact o21), (by first | (repeat (refine xg_ne (by omega) ?_)); first | exact xg_eq | exact a22), (by first | (repeat (refine xg_ne (by omega) ?_)); first | exact xg_eq | exact a23), (by first | (repeat (refine xg_ne (by omega) ?_)); first | exact xg_eq | exact a24), (by first | (repeat (refine xg_ne (by omega) ?_)); first | exact xg_eq | exact a25), (by first | (repeat (refine xg_ne (by omega) ?_)); first | exact xg_eq | exact a26), (by first | (repeat (refine xg_ne (by omega) ?_)); first | exact xg_eq | exact a27), (by first | (repeat (refine xg_ne (by omega) ?_)); first | exact xg_eq | exact a28), (by first | (repeat (refine xg_ne (by omega) ?_)); first | exact xg_eq | exact a29), (by first | (repeat (refine xg_ne (by omega) ?_)); first | exact xg_eq | exact a30), (by first | (repeat (refine xg_ne (by omega) ?_)); first | exact xg_eq | exact a31), (by first | (repeat (refine xg_ne (by omega) ?_)); first | exact xg_eq | exact a32), (by first | (repeat (refine xg_ne (by omega) ?_)); first | exact xg_eq | exact a33), (by first | (repeat (refine xg_ne (by omega) ?_)); first | exact xg_eq | exact a34), (by first | (repeat (refine xg_ne (by omega) ?_)); first | exact xg_eq | exact a35), (by first | (repeat (refine xg_ne (by omega) ?_)); first | exact xg_eq | exact a36), (by first | (repeat (refine xg_ne (by omega) ?_)); first | exact xg_eq | exact a37), (by first | (repeat (refine xg_ne (by omega) ?_)); first | exact xg_eq | exact a38), (by first | (repeat (refine xg_ne (by omega) ?_)); first | exact xg_eq | exact a39), (by first | (repeat (refine xg_ne (by omega) ?_)); first | exact xg_eq | exact a40)⟩
  clear hg3
  have o3 := m3.obj
  refine wp_aload_n d_MO_check_210 rfl rfl ?_
  refine wp_iload_n d_MO_check_211 rfl rfl ?_
  refine wp_callV1 xc_MO_107 d_MO_check_212 (Nat.le_of_ble_eq_true rfl) (by repeat first | exact xg_eq | exact xn_eq (by first | rfl | omega) | refine xg_ne (by first | omega | assumption | (simp only [xput, xnew]; omega)) ?_ | refine xn_ne (by first | omega | assumption | (simp only [xput, xnew]; omega)) ?_ | assumption | exact rfl) (c_MO_openRow hE m3 (d := d + 1) (by omega)) (by omega) (fun r g4 hp => ?_)
  obtain ⟨rfl, f4, m4⟩ := hp
  refine wp_iconst (v := 0) d_MO_check_215 (by rfl) ?_
  refine wp_istore_n d_MO_check_216 rfl (by decide) rfl ?_
  refine wp_goto (tgt := 370) d_MO_check_217 (by decide) ?_
  exact k g4 ((f2.tr f3).tr f4) m4
theorem ck_cls (hE : xOK E) (mg : Mo E g A B C D) (hb : bOk B) (hd : d ≤ 6) (h0 : ¬ d = 0) (k : ∀ g', mfr E g g' → Mo E g' A (bCs d (bCP d B)) C D → wp E 4 m_MO_check 370 (kL E (d - 1) true i c (nI (i + 1))) [] g' Post) : wp E 4 m_MO_check 233 (kL E d a i c (nI (i + 1))) [] g Post := by
  have og := mg.obj
  refine wp_aload_n d_MO_check_233 rfl rfl ?_
  refine wp_iload_n d_MO_check_234 rfl rfl ?_
  refine wp_callV1 xc_MO_114 d_MO_check_235 (Nat.le_of_ble_eq_true rfl) (by repeat first | exact xg_eq | exact xn_eq (by first | rfl | omega) | refine xg_ne (by first | omega | assumption | (simp only [xput, xnew]; omega)) ?_ | refine xn_ne (by first | omega | assumption | (simp only [xput, xnew]; omega)) ?_ | assumption | exact rfl) (c_MO_closePiece hE mg (d := d) (by omega) (hb.2.1 d) hb.2.2.1) (by omega) (fun r g2 hp => ?_)
  obtain ⟨rfl, f2, m2⟩ := hp
  have b2 := hb.cp d
  have l1 := b2.1 d
  have l2 := b2.2.1 d
  obtain ⟨fp, ft, fo, qq, o21, a22, a23, a24, a25, a26, a27, a28, a29, a30, a31, a32, a33, a34, a35, a36, a37, a38, a39, a40⟩ := id m2
  refine wp_aload_n d_MO_check_238 rfl rfl ?_
  refine wp_iconst (v := 2) d_MO_check_239 (by rfl) ?_
  refine wp_aload_n d_MO_check_240 rfl rfl ?_
  refine wp_get xf_MO_22 d_MO_check_241 (by repeat first | exact xg_eq | exact xn_eq (by first | rfl | omega) | refine xg_ne (by first | omega | assumption | (simp only [xput, xnew]; omega)) ?_ | refine xn_ne (by first | omega | assumption | (simp only [xput, xnew]; omega)) ?_ | assumption | exact rfl) (by rfl) ?_
  refine wp_iload_n d_MO_check_244 rfl rfl ?_
  refine wp_iald d_MO_check_245 (by repeat first | exact xg_eq | exact xn_eq (by first | rfl | omega) | refine xg_ne (by first | omega | assumption | (simp only [xput, xnew]; omega)) ?_ | refine xn_ne (by first | omega | assumption | (simp only [xput, xnew]; omega)) ?_ | assumption | exact rfl) hE.i (vp_in_nI (by omega) (by omega)) ?_
  rw [nI_clamp (by omega)]
  refine wp_iadd d_MO_check_246 ?_
  refine wp_aload_n d_MO_check_247 rfl rfl ?_
  refine wp_get xf_MO_25 d_MO_check_248 (by repeat first | exact xg_eq | exact xn_eq (by first | rfl | omega) | refine xg_ne (by first | omega | assumption | (simp only [xput, xnew]; omega)) ?_ | refine xn_ne (by first | omega | assumption | (simp only [xput, xnew]; omega)) ?_ | assumption | exact rfl) (by rfl) ?_
  refine wp_iload_n d_MO_check_251 rfl rfl ?_
  refine wp_iald d_MO_check_252 (by repeat first | exact xg_eq | exact xn_eq (by first | rfl | omega) | refine xg_ne (by first | omega | assumption | (simp only [xput, xnew]; omega)) ?_ | refine xn_ne (by first | omega | assumption | (simp only [xput, xnew]; omega)) ?_ | assumption | exact rfl) hE.i (vp_in_nI (by omega) (by omega)) ?_
  rw [nI_clamp (by omega)]
  refine wp_iadd d_MO_check_253 ?_
  rw [show (2 : Int32) + nI ((bCP d B).1 d) = nI (2 + (bCP d B).1 d) from nI_add 2 _, nI_add]
  refine wp_callS1 xc_MO_79 d_MO_check_254 (Nat.le_of_ble_eq_true rfl) (c_MO_least (by omega)) (by omega) (fun r hh hp => ?_)
  obtain ⟨rfl, hz0⟩ := hp; have hz0 := hz0.symm; subst hz0
  refine wp_put xf_MO_76 xg_MO (Or.inl rfl) d_MO_check_257 (by repeat first | exact xg_eq | exact xn_eq (by first | rfl | omega) | refine xg_ne (by first | omega | assumption | (simp only [xput, xnew]; omega)) ?_ | refine xn_ne (by first | omega | assumption | (simp only [xput, xnew]; omega)) ?_ | assumption | exact rfl) (by first | rfl | assumption | exact bI_z _) (by first | rfl | assumption | exact bI_f _) (Nat.le_of_ble_eq_true rfl) ?_
  refine wp_aload_n d_MO_check_260 rfl rfl ?_
  refine wp_aload_n d_MO_check_261 rfl rfl ?_
  refine wp_get xf_MO_32 d_MO_check_262 (by repeat first | exact xg_eq | exact xn_eq (by first | rfl | omega) | refine xg_ne (by first | omega | assumption | (simp only [xput, xnew]; omega)) ?_ | refine xn_ne (by first | omega | assumption | (simp only [xput, xnew]; omega)) ?_ | assumption | exact rfl) (by rfl) ?_
  refine wp_iload_n d_MO_check_265 rfl rfl ?_
  refine wp_zald d_MO_check_266 (by repeat first | exact xg_eq | exact xn_eq (by first | rfl | omega) | refine xg_ne (by first | omega | assumption | (simp only [xput, xnew]; omega)) ?_ | refine xn_ne (by first | omega | assumption | (simp only [xput, xnew]; omega)) ?_ | assumption | exact rfl) hE.z (vp_in_nI (by omega) (by omega)) ?_
  rw [nI_clamp (by omega)]
  have last : ∀ b : Bool, b = ((bCP d B).2.2.2.1 d || (bCP d B).2.2.1 d) → wp E 4 m_MO_check 284 (kL E d a i c (nI (i + 1))) [.int (bI b), .ref (xb E + 21)] (xput g2 (xb E + 21) (moO E A.1.length A.2.1.length A.2.2.length D.2.2.2.2.1 D.2.2.2.2.2 (lst (2 + (bCP d B).1 d + (bCP d B).2.1 d)) (bCP d B).2.2.2.2.2.1 (bCP d B).2.2.2.2.2.2.1 (bCP d B).2.2.2.2.2.2.2.1 (bCP d B).2.2.2.2.2.2.2.2 C.2.2.2.1 C.2.2.2.2.2.2.2.2.2)) Post := by
    intro b hbb
    refine wp_put xf_MO_83 xg_MO (Or.inl rfl) d_MO_check_284 (by repeat first | exact xg_eq | exact xn_eq (by first | rfl | omega) | refine xg_ne (by first | omega | assumption | (simp only [xput, xnew]; omega)) ?_ | refine xn_ne (by first | omega | assumption | (simp only [xput, xnew]; omega)) ?_ | assumption | exact rfl) (by first | rfl | assumption | exact bI_z _) (by first | rfl | assumption | exact bI_f _) (Nat.le_of_ble_eq_true rfl) ?_
    refine wp_iinc d_MO_check_287 rfl rfl (by decide) rfl ?_
    rw [show nI d + Int32.ofInt (-1) = nI (d - 1) from sb_m1 (Nat.pos_of_ne_zero h0)]
    refine wp_iconst (v := 1) d_MO_check_290 (by rfl) ?_
    refine wp_istore_n d_MO_check_291 rfl (by decide) rfl ?_
    refine wp_goto (tgt := 370) d_MO_check_292 (by decide) ?_
    exact k _ ((f2.put (by omega)).put (by omega)) (by subst hbb; exact ⟨fp, ft, fo, qq, (by first | (repeat (refine xg_ne (by omega) ?_)); first | exact xg_eq | exact o21), (by first | (repeat (refine xg_ne (by omega) ?_)); first | exact xg_eq | exact a22), (by first | (repeat (refine xg_ne (by omega) ?_)); first | exact xg_eq | exact a23), (by first | (repeat (refine xg_ne (by omega) ?_)); first | exact xg_eq | exact a24), (by first | (repeat (refine xg_ne (by omega) ?_)); first | exact xg_eq | exact a25), (by first | (repeat (refine xg_ne (by omega) ?_)); first | exact xg_eq | exact a26), (by first | (repeat (refine xg_ne (by omega) ?_)); first | exact xg_eq | exact a27), (by first | (repeat (refine xg_ne (by omega) ?_)); first | exact xg_eq | exact a28), (by first | (repeat (refine xg_ne (by omega) ?_)); first | exact xg_eq | exact a29), (by first | (repeat (refine xg_ne (by omega) ?_)); first | exact xg_eq | exact a30), (by first | (repeat (refine xg_ne (by omega) ?_)); first | exact xg_eq | exact a31), (by first | (repeat (refine xg_ne (by omega) ?_)); first | exact xg_eq | exact a32), (by first | (repeat (refine xg_ne (by omega) ?_)); first | exact xg_eq | exact a33), (by first | (repeat (refine xg_ne (by omega) ?_)); first | exact xg_eq | exact a34), (by first | (repeat (refine xg_ne (by omega) ?_)); first | exact xg_eq | exact a35), (by first | (repeat (refine xg_ne (by omega) ?_)); first | exact xg_eq | exact a36), (by first | (repeat (refine xg_ne (by omega) ?_)); first | exact xg_eq | exact a37), (by first | (repeat (refine xg_ne (by omega) ?_)); first | exact xg_eq | exact a38), (by first | (repeat (refine xg_ne (by omega) ?_)); first | exact xg_eq | exact a39), (by first | (repeat (refine xg_ne (by omega) ?_)); first | exact xg_eq | exact a40)⟩)
  refine wp_if_ne (tgt := 279) d_MO_check_267 (by decide) (fun hc5 => ?_) (fun hc5 => ?_)
  · rw [bI_0] at hc5
    refine wp_iconst (v := 1) d_MO_check_279 (by rfl) ?_
    refine wp_goto (tgt := 284) d_MO_check_280 (by decide) ?_
    exact last true (by rw [b_t hc5]; rfl)
  · rw [bI_0] at hc5
    refine wp_aload_n d_MO_check_270 rfl rfl ?_
    refine wp_get xf_MO_28 d_MO_check_271 (by repeat first | exact xg_eq | exact xn_eq (by first | rfl | omega) | refine xg_ne (by first | omega | assumption | (simp only [xput, xnew]; omega)) ?_ | refine xn_ne (by first | omega | assumption | (simp only [xput, xnew]; omega)) ?_ | assumption | exact rfl) (by rfl) ?_
    refine wp_iload_n d_MO_check_274 rfl rfl ?_
    refine wp_zald d_MO_check_275 (by repeat first | exact xg_eq | exact xn_eq (by first | rfl | omega) | refine xg_ne (by first | omega | assumption | (simp only [xput, xnew]; omega)) ?_ | refine xn_ne (by first | omega | assumption | (simp only [xput, xnew]; omega)) ?_ | assumption | exact rfl) hE.z (vp_in_nI (by omega) (by omega)) ?_
    rw [nI_clamp (by omega)]
    refine wp_if_eq (tgt := 283) d_MO_check_276 (by decide) (fun hc6 => ?_) (fun hc6 => ?_)
    · rw [bI_0] at hc6
      refine wp_iconst (v := 0) d_MO_check_283 (by rfl) ?_
      exact last false (by rw [hc5, hc6]; rfl)
    · rw [bI_0] at hc6
      refine wp_iconst (v := 1) d_MO_check_279 (by rfl) ?_
      refine wp_goto (tgt := 284) d_MO_check_280 (by decide) ?_
      exact last true (by rw [hc5, b_t hc6]; rfl)
theorem ck_atm (hE : xOK E) (mg : Mo E g A B C D) (hb : bOk B) (hd : d ≤ 6) (hi : i ≤ 28) (k : ∀ g' n, mfr E g g' → Mo E g' A (bAt (decide (c = 94) || decide (c = 36)) (bCP d B)) C D → n = mI (if c = 91 then mPC A.1 i else .inr (i + 1)) → wp E 4 m_MO_check 370 (kL E d true i c n) [] g' Post) : wp E 4 m_MO_check 321 (kL E d a i c (nI (i + 1))) [] g Post := by
  have og := mg.obj
  refine wp_aload_n d_MO_check_321 rfl rfl ?_
  refine wp_iload_n d_MO_check_322 rfl rfl ?_
  refine wp_callV1 xc_MO_114 d_MO_check_323 (Nat.le_of_ble_eq_true rfl) (by repeat first | exact xg_eq | exact xn_eq (by first | rfl | omega) | refine xg_ne (by first | omega | assumption | (simp only [xput, xnew]; omega)) ?_ | refine xn_ne (by first | omega | assumption | (simp only [xput, xnew]; omega)) ?_ | assumption | exact rfl) (c_MO_closePiece hE mg (d := d) (by omega) (hb.2.1 d) hb.2.2.1) (by omega) (fun r g2 hp => ?_)
  obtain ⟨rfl, f2, m2⟩ := hp
  obtain ⟨fp, ft, fo, qq, o21, a22, a23, a24, a25, a26, a27, a28, a29, a30, a31, a32, a33, a34, a35, a36, a37, a38, a39, a40⟩ := id m2
  have last : ∀ b : Bool, b = (decide (c = 94) || decide (c = 36)) → wp E 4 m_MO_check 351 (kL E d a i c (nI (i + 1))) [.int (bI b), .ref (xb E + 21)] (xput g2 (xb E + 21) (moO E A.1.length A.2.1.length A.2.2.length D.2.2.2.2.1 D.2.2.2.2.2 1 (bCP d B).2.2.2.2.2.1 (bCP d B).2.2.2.2.2.2.1 (bCP d B).2.2.2.2.2.2.2.1 (bCP d B).2.2.2.2.2.2.2.2 C.2.2.2.1 C.2.2.2.2.2.2.2.2.2)) Post := by
    intro b hbb
    refine wp_put xf_MO_83 xg_MO (Or.inl rfl) d_MO_check_351 (by repeat first | exact xg_eq | exact xn_eq (by first | rfl | omega) | refine xg_ne (by first | omega | assumption | (simp only [xput, xnew]; omega)) ?_ | refine xn_ne (by first | omega | assumption | (simp only [xput, xnew]; omega)) ?_ | assumption | exact rfl) (by first | rfl | assumption | exact bI_z _) (by first | rfl | assumption | exact bI_f _) (Nat.le_of_ble_eq_true rfl) ?_
    generalize hg3 : xput (xput g2 _ _) _ _ = g3
    have f3 : mfr E g2 g3 := by rw [← hg3]; exact (mfr.rf.put (by omega)).put (by omega)
    have m3 : Mo E g3 A (bAt b (bCP d B)) C D := by rw [← hg3]; exact ⟨fp, ft, fo, qq, (by first | (repeat (refine xg_ne (by omega) ?_)); first | exact xg_eq | exact o21), (by first | (repeat (refine xg_ne (by omega) ?_)); first | exact xg_eq | exact a22), (by first | (repeat (refine xg_ne (by omega) ?_)); first | exact xg_eq | exact a23), (by first | (repeat (refine xg_ne (by omega) ?_)); first | exact xg_eq | exact a24), (by first | (repeat (refine xg_ne (by omega) ?_)); first | exact xg_eq | exact a25), (by first | (repeat (refine xg_ne (by omega) ?_)); first | exact xg_eq | exact a26), (by first | (repeat (refine xg_ne (by omega) ?_)); first | exact xg_eq | exact a27), (by first | (repeat (refine xg_ne (by omega) ?_)); first | exact xg_eq | exact a28), (by first | (repeat (refine xg_ne (by omega) ?_)); first | exact xg_eq | exact a29), (by first | (repeat (refine xg_ne (by omega) ?_)); first | exact xg_eq | exact a30), (by first | (repeat (refine xg_ne (by omega) ?_)); first | exact xg_eq | exact a31), (by first | (repeat (refine xg_ne (by omega) ?_)); first | exact xg_eq | exact a32), (by first | (repeat (refine xg_ne (by omega) ?_)); first | exact xg_eq | exact a33), (by first | (repeat (refine xg_ne (by omega) ?_)); first | exact xg_eq | exact a34), (by first | (repeat (refine xg_ne (by omega) ?_)); first | exact xg_eq | exact a35), (by first | (repeat (refine xg_ne (by omega) ?_)); first | exact xg_eq | exact a36), (by first | (repeat (refine xg_ne (by omega) ?_)); first | exact xg_eq | exact a37), (by first | (repeat (refine xg_ne (by omega) ?_)); first | exact xg_eq | exact a38), (by first | (repeat (refine xg_ne (by omega) ?_)); first | exact xg_eq | exact a39), (by first | (repeat (refine xg_ne (by omega) ?_)); first | exact xg_eq | exact a40)⟩
    clear hg3
    have o3 := m3.obj
    subst hbb
    refine wp_iload d_MO_check_354 rfl ?_
    refine wp_bipush (v := 91) d_MO_check_356 (by rfl) ?_
    refine wp_icmp_ne (tgt := 368) d_MO_check_358 (by decide) (fun hc5 => ?_) (fun hc5 => ?_)
    · rw [if_neg hc5] at k
      refine wp_iconst (v := 1) d_MO_check_368 (by rfl) ?_
      refine wp_istore_n d_MO_check_369 rfl (by decide) rfl ?_
      exact k _ _ (f2.tr f3) m3 rfl
    · rw [if_pos hc5] at k
      refine wp_aload_n d_MO_check_361 rfl rfl ?_
      refine wp_iload_n d_MO_check_362 rfl rfl ?_
      refine wp_callV1 xc_MO_120 d_MO_check_363 (Nat.le_of_ble_eq_true rfl) (by repeat first | exact xg_eq | exact xn_eq (by first | rfl | omega) | refine xg_ne (by first | omega | assumption | (simp only [xput, xnew]; omega)) ?_ | refine xn_ne (by first | omega | assumption | (simp only [xput, xnew]; omega)) ?_ | assumption | exact rfl) (c_MO_passClass hE m3 (i := i) (by omega)) (by omega) (fun r hh hp => ?_)
      obtain ⟨rfl, hz0⟩ := hp; have hz0 := hz0.symm; subst hz0
      refine wp_istore d_MO_check_366 (by decide) rfl ?_
      refine wp_iconst (v := 1) d_MO_check_368 (by rfl) ?_
      refine wp_istore_n d_MO_check_369 rfl (by decide) rfl ?_
      exact k _ _ (f2.tr f3) m3 rfl
  refine wp_aload_n d_MO_check_326 rfl rfl ?_
  refine wp_iconst (v := 1) d_MO_check_327 (by rfl) ?_
  refine wp_put xf_MO_76 xg_MO (Or.inl rfl) d_MO_check_328 (by repeat first | exact xg_eq | exact xn_eq (by first | rfl | omega) | refine xg_ne (by first | omega | assumption | (simp only [xput, xnew]; omega)) ?_ | refine xn_ne (by first | omega | assumption | (simp only [xput, xnew]; omega)) ?_ | assumption | exact rfl) (by first | rfl | assumption | exact bI_z _) (by first | rfl | assumption | exact bI_f _) (Nat.le_of_ble_eq_true rfl) ?_
  refine wp_aload_n d_MO_check_331 rfl rfl ?_
  refine wp_iload d_MO_check_332 rfl ?_
  refine wp_bipush (v := 94) d_MO_check_334 (by rfl) ?_
  refine wp_icmp_eq (tgt := 346) d_MO_check_336 (by decide) (fun hc5 => ?_) (fun hc5 => ?_)
  · refine wp_iconst (v := 1) d_MO_check_346 (by rfl) ?_
    refine wp_goto (tgt := 351) d_MO_check_347 (by decide) ?_
    exact last true (by rw [decide_eq_true hc5]; rfl)
  · refine wp_iload d_MO_check_339 rfl ?_
    refine wp_bipush (v := 36) d_MO_check_341 (by rfl) ?_
    refine wp_icmp_ne (tgt := 350) d_MO_check_343 (by decide) (fun hc6 => ?_) (fun hc6 => ?_)
    · refine wp_iconst (v := 0) d_MO_check_350 (by rfl) ?_
      exact last false (by rw [decide_eq_false hc5, decide_eq_false hc6]; rfl)
    · refine wp_iconst (v := 1) d_MO_check_346 (by rfl) ?_
      refine wp_goto (tgt := 351) d_MO_check_347 (by decide) ?_
      exact last true (by rw [decide_eq_false hc5, decide_eq_true hc6]; rfl)
theorem ck_fin (hE : xOK E) (mg : Mo E g A B C D) (hb : bOk B) (hd : d ≤ 6) (k : ∀ r' g' B', mfr E g g' → bOk B' → Mo E g' A B' C D → B'.2.2.2.2.2.2.1 = B.2.2.2.2.2.2.1 → B'.2.2.2.2.2.2.2.1 = B.2.2.2.2.2.2.2.1 → B'.2.2.2.2.2.2.2.2 = lst (B.1 0 + lst (B.2.1 0 + B.2.2.2.2.1)) → r' = some (.int (if d = 0 then -2 else nI A.1.length)) → Post r' g') :
    wp E 4 m_MO_check 386 [(0, .ref (xb E + 21)), (1, .int (nI d)), (2, .int (bI a)), (3, .int (nI i))] [] g Post := by
  have og := mg.obj
  have hl := mg.len
  refine wp_aload_n d_MO_check_386 rfl rfl ?_
  refine wp_iconst (v := 0) d_MO_check_387 (by rfl) ?_
  refine wp_callV1 xc_MO_114 d_MO_check_388 (Nat.le_of_ble_eq_true rfl) (by repeat first | exact xg_eq | exact xn_eq (by first | rfl | omega) | refine xg_ne (by first | omega | assumption | (simp only [xput, xnew]; omega)) ?_ | refine xn_ne (by first | omega | assumption | (simp only [xput, xnew]; omega)) ?_ | assumption | exact rfl) (c_MO_closePiece hE mg (d := 0) (by omega) (hb.2.1 0) hb.2.2.1) (by omega) (fun r g2 hp => ?_)
  obtain ⟨rfl, f2, m2⟩ := hp
  have b2 := hb.cp 0
  obtain ⟨fp, ft, fo, qq, o21, a22, a23, a24, a25, a26, a27, a28, a29, a30, a31, a32, a33, a34, a35, a36, a37, a38, a39, a40⟩ := id m2
  refine wp_aload_n d_MO_check_391 rfl rfl ?_
  refine wp_aload_n d_MO_check_392 rfl rfl ?_
  refine wp_get xf_MO_22 d_MO_check_393 (by repeat first | exact xg_eq | exact xn_eq (by first | rfl | omega) | refine xg_ne (by first | omega | assumption | (simp only [xput, xnew]; omega)) ?_ | refine xn_ne (by first | omega | assumption | (simp only [xput, xnew]; omega)) ?_ | assumption | exact rfl) (by rfl) ?_
  refine wp_iconst (v := 0) d_MO_check_396 (by rfl) ?_
  refine wp_iald d_MO_check_397 (by repeat first | exact xg_eq | exact xn_eq (by first | rfl | omega) | refine xg_ne (by first | omega | assumption | (simp only [xput, xnew]; omega)) ?_ | refine xn_ne (by first | omega | assumption | (simp only [xput, xnew]; omega)) ?_ | assumption | exact rfl) hE.i (vp_in_nI (n := 0) (by omega) (by omega)) ?_
  refine wp_aload_n d_MO_check_398 rfl rfl ?_
  refine wp_get xf_MO_25 d_MO_check_399 (by repeat first | exact xg_eq | exact xn_eq (by first | rfl | omega) | refine xg_ne (by first | omega | assumption | (simp only [xput, xnew]; omega)) ?_ | refine xn_ne (by first | omega | assumption | (simp only [xput, xnew]; omega)) ?_ | assumption | exact rfl) (by rfl) ?_
  refine wp_iconst (v := 0) d_MO_check_402 (by rfl) ?_
  refine wp_iald d_MO_check_403 (by repeat first | exact xg_eq | exact xn_eq (by first | rfl | omega) | refine xg_ne (by first | omega | assumption | (simp only [xput, xnew]; omega)) ?_ | refine xn_ne (by first | omega | assumption | (simp only [xput, xnew]; omega)) ?_ | assumption | exact rfl) hE.i (vp_in_nI (n := 0) (by omega) (by omega)) ?_
  refine wp_iadd d_MO_check_404 ?_
  have e0 : (fun k => nI ((bCP 0 B).1 k)) (0 : Int32).toNatClampNeg + (fun k => nI ((bCP 0 B).2.1 k)) (0 : Int32).toNatClampNeg = nI ((bCP 0 B).1 0 + (bCP 0 B).2.1 0) := nI_add _ _
  rw [e0]
  have l1 := b2.1 0
  have l2 := b2.2.1 0
  refine wp_callS1 xc_MO_79 d_MO_check_405 (Nat.le_of_ble_eq_true rfl) (c_MO_least (by omega)) (by omega) (fun r hh hp => ?_)
  obtain ⟨rfl, hz0⟩ := hp; have hz0 := hz0.symm; subst hz0
  have e9 : lst ((bCP 0 B).1 0 + (bCP 0 B).2.1 0) = lst (B.1 0 + lst (B.2.1 0 + B.2.2.2.2.1)) := by
    congr 1
  generalize lst ((bCP 0 B).1 0 + (bCP 0 B).2.1 0) = v at *
  have hb3 : bOk ((bCP 0 B).1, (bCP 0 B).2.1, (bCP 0 B).2.2.1, (bCP 0 B).2.2.2.1, (bCP 0 B).2.2.2.2.1, (bCP 0 B).2.2.2.2.2.1, (bCP 0 B).2.2.2.2.2.2.1, (bCP 0 B).2.2.2.2.2.2.2.1, v) := ⟨b2.1, b2.2.1, b2.2.2.1, b2.2.2.2⟩
  refine wp_put xf_MO_123 xg_MO (Or.inl rfl) d_MO_check_408 (by repeat first | exact xg_eq | exact xn_eq (by first | rfl | omega) | refine xg_ne (by first | omega | assumption | (simp only [xput, xnew]; omega)) ?_ | refine xn_ne (by first | omega | assumption | (simp only [xput, xnew]; omega)) ?_ | assumption | exact rfl) (by first | rfl | assumption | exact bI_z _) (by first | rfl | assumption | exact bI_f _) (Nat.le_of_ble_eq_true rfl) ?_
  refine wp_iload_n d_MO_check_411 rfl rfl ?_
  by_cases hd0 : d = 0
  · subst hd0
    refine wp_if_ne (tgt := 420) d_MO_check_412 (by decide) (fun hc => ?_) (fun hc => ?_)
    · exact absurd rfl hc
    · refine wp_bipush (v := (-2)) d_MO_check_415 (by rfl) ?_
      refine wp_goto (tgt := 424) d_MO_check_417 (by decide) ?_
      refine wp_ireturn d_MO_check_424 rfl (by first | rfl | assumption) ?_
      exact k _ _ _ (f2.put (by omega)) hb3 ⟨fp, ft, fo, qq, (by first | (repeat (refine xg_ne (by omega) ?_)); first | exact xg_eq | exact o21), (by first | (repeat (refine xg_ne (by omega) ?_)); first | exact xg_eq | exact a22), (by first | (repeat (refine xg_ne (by omega) ?_)); first | exact xg_eq | exact a23), (by first | (repeat (refine xg_ne (by omega) ?_)); first | exact xg_eq | exact a24), (by first | (repeat (refine xg_ne (by omega) ?_)); first | exact xg_eq | exact a25), (by first | (repeat (refine xg_ne (by omega) ?_)); first | exact xg_eq | exact a26), (by first | (repeat (refine xg_ne (by omega) ?_)); first | exact xg_eq | exact a27), (by first | (repeat (refine xg_ne (by omega) ?_)); first | exact xg_eq | exact a28), (by first | (repeat (refine xg_ne (by omega) ?_)); first | exact xg_eq | exact a29), (by first | (repeat (refine xg_ne (by omega) ?_)); first | exact xg_eq | exact a30), (by first | (repeat (refine xg_ne (by omega) ?_)); first | exact xg_eq | exact a31), (by first | (repeat (refine xg_ne (by omega) ?_)); first | exact xg_eq | exact a32), (by first | (repeat (refine xg_ne (by omega) ?_)); first | exact xg_eq | exact a33), (by first | (repeat (refine xg_ne (by omega) ?_)); first | exact xg_eq | exact a34), (by first | (repeat (refine xg_ne (by omega) ?_)); first | exact xg_eq | exact a35), (by first | (repeat (refine xg_ne (by omega) ?_)); first | exact xg_eq | exact a36), (by first | (repeat (refine xg_ne (by omega) ?_)); first | exact xg_eq | exact a37), (by first | (repeat (refine xg_ne (by omega) ?_)); first | exact xg_eq | exact a38), (by first | (repeat (refine xg_ne (by omega) ?_)); first | exact xg_eq | exact a39), (by first | (repeat (refine xg_ne (by omega) ?_)); first | exact xg_eq | exact a40)⟩ rfl rfl e9 rfl
  · refine wp_if_ne (tgt := 420) d_MO_check_412 (by decide) (fun hc => ?_) (fun hc => ?_)
    · refine wp_aload_n d_MO_check_420 rfl rfl ?_
      refine wp_get xf_MO_72 d_MO_check_421 (by repeat first | exact xg_eq | exact xn_eq (by first | rfl | omega) | refine xg_ne (by first | omega | assumption | (simp only [xput, xnew]; omega)) ?_ | refine xn_ne (by first | omega | assumption | (simp only [xput, xnew]; omega)) ?_ | assumption | exact rfl) (by rfl) ?_
      refine wp_ireturn d_MO_check_424 rfl (by first | rfl | assumption) ?_
      exact k _ _ _ (f2.put (by omega)) hb3 ⟨fp, ft, fo, qq, (by first | (repeat (refine xg_ne (by omega) ?_)); first | exact xg_eq | exact o21), (by first | (repeat (refine xg_ne (by omega) ?_)); first | exact xg_eq | exact a22), (by first | (repeat (refine xg_ne (by omega) ?_)); first | exact xg_eq | exact a23), (by first | (repeat (refine xg_ne (by omega) ?_)); first | exact xg_eq | exact a24), (by first | (repeat (refine xg_ne (by omega) ?_)); first | exact xg_eq | exact a25), (by first | (repeat (refine xg_ne (by omega) ?_)); first | exact xg_eq | exact a26), (by first | (repeat (refine xg_ne (by omega) ?_)); first | exact xg_eq | exact a27), (by first | (repeat (refine xg_ne (by omega) ?_)); first | exact xg_eq | exact a28), (by first | (repeat (refine xg_ne (by omega) ?_)); first | exact xg_eq | exact a29), (by first | (repeat (refine xg_ne (by omega) ?_)); first | exact xg_eq | exact a30), (by first | (repeat (refine xg_ne (by omega) ?_)); first | exact xg_eq | exact a31), (by first | (repeat (refine xg_ne (by omega) ?_)); first | exact xg_eq | exact a32), (by first | (repeat (refine xg_ne (by omega) ?_)); first | exact xg_eq | exact a33), (by first | (repeat (refine xg_ne (by omega) ?_)); first | exact xg_eq | exact a34), (by first | (repeat (refine xg_ne (by omega) ?_)); first | exact xg_eq | exact a35), (by first | (repeat (refine xg_ne (by omega) ?_)); first | exact xg_eq | exact a36), (by first | (repeat (refine xg_ne (by omega) ?_)); first | exact xg_eq | exact a37), (by first | (repeat (refine xg_ne (by omega) ?_)); first | exact xg_eq | exact a38), (by first | (repeat (refine xg_ne (by omega) ?_)); first | exact xg_eq | exact a39), (by first | (repeat (refine xg_ne (by omega) ?_)); first | exact xg_eq | exact a40)⟩ rfl rfl e9 (by rw [if_neg hd0])
    · exact absurd ((nI_eq (b := 0) (by omega) (by omega)).mp hc) hd0
theorem c_MO_check (hE : xOK E) (hm : Mo E h A B C D) (hB : bOk B) : wpc E 4 m_MO_check [.ref (xb E + 21)] h (fun r' h' => ckPost E h A C D (ckF A.1 B) r' h') := by
  have hl := hm.len
  have e12 : ∀ k : Nat, nI k + 1 = nI (k + 1) := fun k => (nI_succ k).symm
  generalize hR : ckF A.1 B = R
  generalize hPost : (fun r' h' => ckPost E h A C D R r' h') = Post
  have hP : ∀ r' h', ckPost E h A C D R r' h' → Post r' h' := by
    intro r' h' z
    rw [← hPost]
    exact z
  clear hPost
  have fin : ∀ (i d : Nat) (a : Bool) (B' : MB) (g : xH), d ≤ 6 → bOk B' → mfr E h g → Mo E g A B' C D → ckE A.1 (i, d, a, B') = R → wp E 4 m_MO_check 386 [(0, .ref (xb E + 21)), (1, .int (nI d)), (2, .int (bI a)), (3, .int (nI i))] [] g Post := by
    intro i d a B' g hd hb fg mg hs
    refine ck_fin hE mg hb hd ?_
    intro r' g' B'' q1 q2 q3 q4 q5 q6 q7
    refine hP _ _ ?_
    rw [← hs, ckE]
    by_cases hd0 : d = 0
    · rw [if_pos hd0] at q7
      rw [if_pos (show (i, d, a, B').2.1 = 0 from hd0)]
      exact ⟨q7, fg.tr q1, B'', q2, q3, q4, q5, q6⟩
    · rw [if_neg hd0] at q7
      rw [if_neg (show ¬ (i, d, a, B').2.1 = 0 from hd0)]
      exact ⟨q7, by omega, fg.tr q1, B'', q2, q3⟩
  have lp : ∀ (f i d : Nat) (a : Bool) (B' : MB) (g : xH), A.1.length ≤ i + f → i ≤ 40 → d ≤ B'.2.2.2.2.2.2.2.1 → bOk B' → mfr E h g → Mo E g A B' C D → ckR A.1 f (i, d, a, B') = R → wp E 4 m_MO_check 45 [(0, .ref (xb E + 21)), (1, .int (nI d)), (2, .int (bI a)), (3, .int (nI i))] [] g Post := by
    intro f
    induction f with
    | zero =>
      intro i d a B' g hf hi hd hb fg mg hs
      have og := mg.obj
      have h6 := hb.2.2.2
      refine wp_iload_n d_MO_check_45 rfl rfl ?_
      refine wp_aload_n d_MO_check_46 rfl rfl ?_
      refine wp_get xf_MO_72 d_MO_check_47 (by repeat first | exact xg_eq | exact xn_eq (by first | rfl | omega) | refine xg_ne (by first | omega | assumption | (simp only [xput, xnew]; omega)) ?_ | refine xn_ne (by first | omega | assumption | (simp only [xput, xnew]; omega)) ?_ | assumption | exact rfl) (by rfl) ?_
      refine wp_icmp_ge (tgt := 386) d_MO_check_50 (by decide) (fun hc => ?_) (fun hc => ?_)
      · exact fin i d a B' g (by omega) hb fg mg hs
      · exact absurd ((nI_leI (by omega) (by omega)).mpr (by omega)) hc
    | succ f ih =>
      intro i d a B' g hf hi hd hb fg mg hs
      have og := mg.obj
      have h6 := hb.2.2.2
      rw [ckR] at hs
      dsimp only at hs
      by_cases hle : A.1.length ≤ i
      · rw [if_pos hle] at hs
        refine wp_iload_n d_MO_check_45 rfl rfl ?_
        refine wp_aload_n d_MO_check_46 rfl rfl ?_
        refine wp_get xf_MO_72 d_MO_check_47 (by repeat first | exact xg_eq | exact xn_eq (by first | rfl | omega) | refine xg_ne (by first | omega | assumption | (simp only [xput, xnew]; omega)) ?_ | refine xn_ne (by first | omega | assumption | (simp only [xput, xnew]; omega)) ?_ | assumption | exact rfl) (by rfl) ?_
        refine wp_icmp_ge (tgt := 386) d_MO_check_50 (by decide) (fun hc => ?_) (fun hc => ?_)
        · exact fin i d a B' g (by omega) hb fg mg hs
        · exact absurd ((nI_leI (by omega) (by omega)).mpr hle) hc
      rw [if_neg hle] at hs
      have bad : ∀ k : Nat, ck1 A.1 (i, d, a, B') = .inl k → k ≤ 40 → ∀ g' B'', bOk B'' → mfr E h g' → Mo E g' A B'' C D → Post (some (.int (nI k))) g' := by
        intro k hk k40 g' B'' hb' fg' mg'
        rw [hk] at hs
        have hs : (Sum.inl k : Nat ⊕ (Bool × Nat × Nat)) = R := hs
        refine hP _ _ ?_
        rw [← hs]
        exact ⟨rfl, k40, fg', B'', hb', mg'⟩
      have jn : ∀ (i' d' : Nat) (a' : Bool) (B'' : MB) (g' : xH), ck1 A.1 (i, d, a, B') = .inr (i', d', a', B'') → i < i' → i' ≤ 40 → d' ≤ B''.2.2.2.2.2.2.2.1 → bOk B'' → mfr E h g' → Mo E g' A B'' C D →
          wp E 4 m_MO_check 370 (kL E d' a' i (pat A.1 i) (nI i')) [] g' Post := by
        intro i' d' a' B'' g' hk q1 q2 q3 q4 q5 q6
        rw [hk] at hs
        have hs : ckR A.1 f (i', d', a', B'') = R := hs
        refine wp_iload d_MO_check_370 rfl ?_
        refine wp_if_ge (tgt := 380) d_MO_check_372 (by decide) (fun hc => ?_) (fun hc => ?_)
        · refine wp_iload d_MO_check_380 rfl ?_
          refine wp_istore_n d_MO_check_382 rfl (by decide) rfl ?_
          refine wp_goto (tgt := 45) d_MO_check_383 (by decide) ?_
          refine wp_leq (lo' := kL E d' a' i' (pat A.1 i) (nI i')) rfl ?_
          refine wp_lo (lo' := [(0, .ref (xb E + 21)), (1, .int (nI d')), (2, .int (bI a')), (3, .int (nI i'))]) (fun z hz => List.mem_append_left ([(4, .int (pat A.1 i)), (5, .int (nI i'))] : List (Nat × Value)) hz) ?_
          exact ih i' d' a' B'' g' (by omega) q2 q3 q4 q5 q6 hs
        · exact absurd (nI_pos' (by omega)) hc
      have jb : ∀ (k : Nat) (x : Bool) (g' : xH) (B'' : MB), ck1 A.1 (i, d, a, B') = .inl k → k ≤ 40 → bOk B'' → mfr E h g' → Mo E g' A B'' C D →
          wp E 4 m_MO_check 370 (kL E d x i (pat A.1 i) (-1 - nI k)) [] g' Post := by
        intro k x g' B'' hk k40 q1 q2 q3
        refine wp_iload d_MO_check_370 rfl ?_
        refine wp_if_ge (tgt := 380) d_MO_check_372 (by decide) (fun hc => ?_) (fun hc => ?_)
        · exact absurd (m1_neg (k := k) (by omega)) (Int32.not_lt.mpr hc)
        · refine wp_iconst (v := (-1)) d_MO_check_375 (by rfl) ?_
          refine wp_iload d_MO_check_376 rfl ?_
          refine wp_isub d_MO_check_378 ?_
          rw [show (-1 : Int32) - (-1 - nI k) = nI k from by generalize nI k = z; grind]
          refine wp_ireturn d_MO_check_379 rfl (by first | rfl | assumption) ?_
          exact bad k hk k40 g' B'' q1 q2 q3
      clear ih hs fin
      rw [ck1] at bad jn jb
      dsimp only at bad jn jb
      refine wp_iload_n d_MO_check_45 rfl rfl ?_
      refine wp_aload_n d_MO_check_46 rfl rfl ?_
      refine wp_get xf_MO_72 d_MO_check_47 (by repeat first | exact xg_eq | exact xn_eq (by first | rfl | omega) | refine xg_ne (by first | omega | assumption | (simp only [xput, xnew]; omega)) ?_ | refine xn_ne (by first | omega | assumption | (simp only [xput, xnew]; omega)) ?_ | assumption | exact rfl) (by rfl) ?_
      refine wp_icmp_ge (tgt := 386) d_MO_check_50 (by decide) (fun hc => ?_) (fun hc => ?_)
      · exact absurd ((nI_leI (by omega) (by omega)).mp hc) hle
      clear hc
      refine wp_aload_n d_MO_check_53 rfl rfl ?_
      refine wp_iload_n d_MO_check_54 rfl rfl ?_
      refine wp_callV1 xc_MO_90 d_MO_check_55 (Nat.le_of_ble_eq_true rfl) (by repeat first | exact xg_eq | exact xn_eq (by first | rfl | omega) | refine xg_ne (by first | omega | assumption | (simp only [xput, xnew]; omega)) ?_ | refine xn_ne (by first | omega | assumption | (simp only [xput, xnew]; omega)) ?_ | assumption | exact rfl) (c_MO_at hE mg (i := i) (by omega)) (by omega) (fun r hh hp => ?_)
      obtain ⟨rfl, hz0⟩ := hp; have hz0 := hz0.symm; subst hz0
      refine wp_istore d_MO_check_58 (by decide) rfl ?_
      refine wp_iload_n d_MO_check_60 rfl rfl ?_
      refine wp_iconst (v := 1) d_MO_check_61 (by rfl) ?_
      refine wp_iadd d_MO_check_62 ?_
      refine wp_istore d_MO_check_63 (by decide) rfl ?_
      refine wp_iload d_MO_check_65 rfl ?_
      refine wp_bipush (v := 42) d_MO_check_67 (by rfl) ?_
      refine wp_bipush (v := 43) d_MO_check_69 (by rfl) ?_
      refine wp_bipush (v := 63) d_MO_check_71 (by rfl) ?_
      refine wp_bipush (v := 123) d_MO_check_73 (by rfl) ?_
      rw [e12]
      refine wp_callS5 xc_MO_68 d_MO_check_75 (Nat.le_of_ble_eq_true rfl) (c_MO_is (pat A.1 i) 42 43 63 123) (by omega) (fun r hh hp => ?_)
      obtain ⟨rfl, hz0⟩ := hp; have hz0 := hz0.symm; subst hz0
      refine wp_if_eq (tgt := 99) d_MO_check_78 (by decide) (fun hc0 => ?_) (fun hc0 => ?_)
      rotate_left
      · rw [bI_0] at hc0
        rw [if_pos (b_t hc0)] at bad jn jb
        refine wp_iload_n d_MO_check_81 rfl rfl ?_
        refine wp_if_ne (tgt := 87) d_MO_check_82 (by decide) (fun hc1 => ?_) (fun hc1 => ?_)
        rotate_left
        · rw [bI_0] at hc1
          rw [if_neg (by rw [hc1]; decide)] at bad
          refine wp_iload_n d_MO_check_85 rfl rfl ?_
          refine wp_ireturn d_MO_check_86 rfl (by first | rfl | assumption) ?_
          exact bad i rfl hi g B' hb fg mg
        rw [bI_0] at hc1
        rw [if_pos (b_t hc1)] at bad jn jb
        refine wp_aload_n d_MO_check_87 rfl rfl ?_
        refine wp_iload_n d_MO_check_88 rfl rfl ?_
        refine wp_callV1 xc_MO_111 d_MO_check_89 (Nat.le_of_ble_eq_true rfl) (by repeat first | exact xg_eq | exact xn_eq (by first | rfl | omega) | refine xg_ne (by first | omega | assumption | (simp only [xput, xnew]; omega)) ?_ | refine xn_ne (by first | omega | assumption | (simp only [xput, xnew]; omega)) ?_ | assumption | exact rfl) (c_MO_passRepetition hE mg (i := i) (by omega) hb.2.2.1) (by omega) (fun r g2 hp => ?_)
        cases hM : mRp A.1 i with
        | inl k =>
          rw [hM] at hp jb
          obtain ⟨rfl, rfl, k40⟩ := hp
          refine wp_istore d_MO_check_92 (by decide) rfl ?_
          refine wp_iconst (v := 0) d_MO_check_94 (by rfl) ?_
          refine wp_istore_n d_MO_check_95 rfl (by decide) rfl ?_
          refine wp_goto (tgt := 370) d_MO_check_96 (by decide) ?_
          exact jb k false g2 B' rfl k40 hb fg mg
        | inr q =>
          rw [hM] at hp jn
          obtain ⟨rfl, f2, m2, k40⟩ := hp
          have hq1 : i < q.1 := mRp_gt hM
          refine wp_istore d_MO_check_92 (by decide) rfl ?_
          refine wp_iconst (v := 0) d_MO_check_94 (by rfl) ?_
          refine wp_istore_n d_MO_check_95 rfl (by decide) rfl ?_
          refine wp_goto (tgt := 370) d_MO_check_96 (by decide) ?_
          exact jn q.1 d false (bRp q.2.1 q.2.2.1 q.2.2.2.1 q.2.2.2.2 B') g2 rfl hq1 k40 hd (hb.rp _ _ _ _) (fg.tr f2) m2
      rw [bI_0] at hc0
      rw [if_neg (by rw [hc0]; decide)] at bad jn jb
      refine wp_iload d_MO_check_99 rfl ?_
      refine wp_bipush (v := 124) d_MO_check_101 (by rfl) ?_
      refine wp_icmp_ne (tgt := 160) d_MO_check_103 (by decide) (fun hc1 => ?_) (fun hc1 => ?_)
      rotate_left
      · rw [if_pos hc1] at jn
        refine ck_bar hE mg hb (by omega) (fun g' q1 q2 => ?_)
        exact jn (i + 1) d false (bOR d (bBr d (bCP d B'))) g' rfl (Nat.lt_succ_self i) (by omega) hd (((hb.cp d).br d).or d) (fg.tr q1) q2
      rw [if_neg hc1] at bad jn jb
      refine wp_iload d_MO_check_160 rfl ?_
      refine wp_bipush (v := 40) d_MO_check_162 (by rfl) ?_
      refine wp_icmp_ne (tgt := 220) d_MO_check_164 (by decide) (fun hc2 => ?_) (fun hc2 => ?_)
      rotate_left
      · rw [if_pos hc2] at bad jn
        refine wp_aload_n d_MO_check_167 rfl rfl ?_
        refine wp_get xf_MO_104 d_MO_check_168 (by repeat first | exact xg_eq | exact xn_eq (by first | rfl | omega) | refine xg_ne (by first | omega | assumption | (simp only [xput, xnew]; omega)) ?_ | refine xn_ne (by first | omega | assumption | (simp only [xput, xnew]; omega)) ?_ | assumption | exact rfl) (by rfl) ?_
        refine wp_bipush (v := 6) d_MO_check_171 (by rfl) ?_
        refine wp_icmp_ne (tgt := 178) d_MO_check_173 (by decide) (fun hc3 => ?_) (fun hc3 => ?_)
        rotate_left
        · have hc3 := (nI_eq (b := 6) (by omega) (by omega)).mp hc3
          rw [if_pos hc3] at bad
          refine wp_iload_n d_MO_check_176 rfl rfl ?_
          refine wp_ireturn d_MO_check_177 rfl (by first | rfl | assumption) ?_
          exact bad i rfl hi g B' hb fg mg
        have hc3 : ¬ B'.2.2.2.2.2.2.2.1 = 6 := fun z => hc3 ((nI_eq (b := 6) (by omega) (by omega)).mpr z)
        rw [if_neg hc3] at jn
        refine ck_opn hE mg hb (by omega) (fun g' q1 q2 => ?_)
        exact jn (i + 1) (d + 1) false (bOR (d + 1) (bOp (d + 1) (bCP d B'))) g' rfl (Nat.lt_succ_self i) (by omega) (by show d + 1 ≤ B'.2.2.2.2.2.2.2.1 + 1; omega) (((hb.cp d).op (d + 1) (by show B'.2.2.2.2.2.2.2.1 < 6; omega)).or (d + 1)) (fg.tr q1) q2
      rw [if_neg hc2] at bad jn jb
      refine wp_iload d_MO_check_220 rfl ?_
      refine wp_bipush (v := 41) d_MO_check_222 (by rfl) ?_
      refine wp_icmp_ne (tgt := 295) d_MO_check_224 (by decide) (fun hc3 => ?_) (fun hc3 => ?_)
      rotate_left
      · rw [if_pos hc3] at bad jn
        refine wp_iload_n d_MO_check_227 rfl rfl ?_
        refine wp_if_ne (tgt := 233) d_MO_check_228 (by decide) (fun hc4 => ?_) (fun hc4 => ?_)
        rotate_left
        · have hc4 := (nI_eq (b := 0) (by omega) (by omega)).mp hc4
          rw [if_pos hc4] at bad
          refine wp_iload_n d_MO_check_231 rfl rfl ?_
          refine wp_ireturn d_MO_check_232 rfl (by first | rfl | assumption) ?_
          exact bad i rfl hi g B' hb fg mg
        have hc4 : ¬ d = 0 := fun z => hc4 ((nI_eq (b := 0) (by omega) (by omega)).mpr z)
        rw [if_neg hc4] at jn
        refine ck_cls hE mg hb (by omega) hc4 (fun g' q1 q2 => ?_)
        exact jn (i + 1) (d - 1) true (bCs d (bCP d B')) g' rfl (Nat.lt_succ_self i) (by omega) (by show d - 1 ≤ B'.2.2.2.2.2.2.2.1; omega) ((hb.cp d).cs d) (fg.tr q1) q2
      rw [if_neg hc3] at bad jn jb
      have go : ¬ (plB (pat A.1 i) = false ∧ isB (pat A.1 i) 46 94 36 91 = false) → wp E 4 m_MO_check 321 (kL E d a i (pat A.1 i) (nI (i + 1))) [] g Post := by
        intro hn
        rw [if_neg hn] at bad jn jb
        refine ck_atm hE mg hb (by omega) (by omega) (fun g' n q1 q2 q3 => ?_)
        subst q3
        cases hM : (if pat A.1 i = 91 then mPC A.1 i else .inr (i + 1) : Nat ⊕ Nat) with
        | inl k =>
          rw [hM] at jb
          refine jb k true _ _ rfl ?_ ((hb.cp d).at _) (fg.tr q1) q2
          split at hM
          · have := (mCl_le hl.1).1 k hM; omega
          · cases hM
        | inr n =>
          rw [hM] at jn
          refine jn n d true (bAt (decide (pat A.1 i = 94) || decide (pat A.1 i = 36)) (bCP d B')) _ rfl ?_ ?_ hd ((hb.cp d).at _) (fg.tr q1) q2
          · split at hM
            · exact mPC_gt hM
            · injection hM with hM; omega
          · split at hM
            · have := (mCl_le hl.1).2 n hM; omega
            · injection hM with hM; omega
      refine wp_iload d_MO_check_295 rfl ?_
      refine wp_callS1 xc_MO_117 d_MO_check_297 (Nat.le_of_ble_eq_true rfl) (c_MO_plain _) (by omega) (fun r hh hp => ?_)
      obtain ⟨rfl, hz0⟩ := hp; have hz0 := hz0.symm; subst hz0
      refine wp_if_ne (tgt := 321) d_MO_check_300 (by decide) (fun hc4 => ?_) (fun hc4 => ?_)
      · rw [bI_0] at hc4
        exact go (fun z => hc4 z.1)
      · rw [bI_0] at hc4
        refine wp_iload d_MO_check_303 rfl ?_
        refine wp_bipush (v := 46) d_MO_check_305 (by rfl) ?_
        refine wp_bipush (v := 94) d_MO_check_307 (by rfl) ?_
        refine wp_bipush (v := 36) d_MO_check_309 (by rfl) ?_
        refine wp_bipush (v := 91) d_MO_check_311 (by rfl) ?_
        refine wp_callS5 xc_MO_68 d_MO_check_313 (Nat.le_of_ble_eq_true rfl) (c_MO_is (pat A.1 i) 46 94 36 91) (by omega) (fun r hh hp => ?_)
        obtain ⟨rfl, hz0⟩ := hp; have hz0 := hz0.symm; subst hz0
        refine wp_if_ne (tgt := 321) d_MO_check_316 (by decide) (fun hc5 => ?_) (fun hc5 => ?_)
        · rw [bI_0] at hc5
          exact go (fun z => hc5 z.2)
        · rw [bI_0] at hc5
          rw [if_pos ⟨hc4, hc5⟩] at bad
          refine wp_iload_n d_MO_check_319 rfl rfl ?_
          refine wp_ireturn d_MO_check_320 rfl (by first | rfl | assumption) ?_
          exact bad i rfl hi g B' hb fg mg
  obtain ⟨fp, ft, fo, qq, o21, a22, a23, a24, a25, a26, a27, a28, a29, a30, a31, a32, a33, a34, a35, a36, a37, a38, a39, a40⟩ := id hm
  refine wpc_of rfl (Nat.le_of_ble_eq_true rfl) ?_
  refine wp_iconst (v := 0) d_MO_check_0 (by rfl) ?_
  refine wp_istore_n d_MO_check_1 rfl (by decide) rfl ?_
  refine wp_aload_n d_MO_check_2 rfl rfl ?_
  refine wp_iconst (v := 0) d_MO_check_3 (by rfl) ?_
  refine wp_put xf_MO_104 xg_MO (Or.inl rfl) d_MO_check_4 (by repeat first | exact xg_eq | exact xn_eq (by first | rfl | omega) | refine xg_ne (by first | omega | assumption | (simp only [xput, xnew]; omega)) ?_ | refine xn_ne (by first | omega | assumption | (simp only [xput, xnew]; omega)) ?_ | assumption | exact rfl) (by first | rfl | assumption | exact bI_z _) (by first | rfl | assumption | exact bI_f _) (Nat.le_of_ble_eq_true rfl) ?_
  refine wp_aload_n d_MO_check_7 rfl rfl ?_
  refine wp_iconst (v := 0) d_MO_check_8 (by rfl) ?_
  refine wp_put xf_MO_87 xg_MO (Or.inl rfl) d_MO_check_9 (by repeat first | exact xg_eq | exact xn_eq (by first | rfl | omega) | refine xg_ne (by first | omega | assumption | (simp only [xput, xnew]; omega)) ?_ | refine xn_ne (by first | omega | assumption | (simp only [xput, xnew]; omega)) ?_ | assumption | exact rfl) (by first | rfl | assumption | exact bI_z _) (by first | rfl | assumption | exact bI_f _) (Nat.le_of_ble_eq_true rfl) ?_
  refine wp_aload_n d_MO_check_12 rfl rfl ?_
  refine wp_get xf_MO_22 d_MO_check_13 (by repeat first | exact xg_eq | exact xn_eq (by first | rfl | omega) | refine xg_ne (by first | omega | assumption | (simp only [xput, xnew]; omega)) ?_ | refine xn_ne (by first | omega | assumption | (simp only [xput, xnew]; omega)) ?_ | assumption | exact rfl) (by rfl) ?_
  refine wp_iconst (v := 0) d_MO_check_16 (by rfl) ?_
  refine wp_iconst (v := 0) d_MO_check_17 (by rfl) ?_
  rw [show (0 : Int32) = nI 0 from rfl]
  refine wp_iast d_MO_check_18 (by repeat first | exact xg_eq | exact xn_eq (by first | rfl | omega) | refine xg_ne (by first | omega | assumption | (simp only [xput, xnew]; omega)) ?_ | refine xn_ne (by first | omega | assumption | (simp only [xput, xnew]; omega)) ?_ | assumption | exact rfl) hE.i (vp_in_nI (by omega) (by omega)) ?_
  rw [upd_nI (by omega)]
  refine wp_aload_n d_MO_check_19 rfl rfl ?_
  refine wp_get xf_MO_32 d_MO_check_20 (by repeat first | exact xg_eq | exact xn_eq (by first | rfl | omega) | refine xg_ne (by first | omega | assumption | (simp only [xput, xnew]; omega)) ?_ | refine xn_ne (by first | omega | assumption | (simp only [xput, xnew]; omega)) ?_ | assumption | exact rfl) (by rfl) ?_
  refine wp_iconst (v := 0) d_MO_check_23 (by rfl) ?_
  refine wp_iconst (v := 0) d_MO_check_24 (by rfl) ?_
  refine wp_zast d_MO_check_25 (by repeat first | exact xg_eq | exact xn_eq (by first | rfl | omega) | refine xg_ne (by first | omega | assumption | (simp only [xput, xnew]; omega)) ?_ | refine xn_ne (by first | omega | assumption | (simp only [xput, xnew]; omega)) ?_ | assumption | exact rfl) hE.z (vp_in_nI (n := 0) (by omega) (by omega)) (by first | exact bI_01 _ | exact Or.inl rfl | exact Or.inr rfl | assumption) ?_
  rw [show upd (fun k => bI (B.2.2.2.1 k)) (0 : Int32).toNatClampNeg 0 = fun k => bI (va_up B.2.2.2.1 0 false k) from upd_bI (i := 0) (v := false) (by omega)]
  generalize hg3 : xput (xput (xput (xput h _ _) _ _) _ _) _ _ = g3
  have f3 : mfr E h g3 := by rw [← hg3]; exact (((mfr.rf.put (by omega)).put (by omega)).put (by omega)).put (by omega)
  have m3 : Mo E g3 A (va_up B.1 0 0, B.2.1, B.2.2.1, va_up B.2.2.2.1 0 false, B.2.2.2.2.1, B.2.2.2.2.2.1, false, 0, B.2.2.2.2.2.2.2.2) C D := by rw [← hg3]; exact ⟨fp, ft, fo, qq, (by first | (repeat (refine xg_ne (by omega) ?_)); first | exact xg_eq | exact o21), (by first | (repeat (refine xg_ne (by omega) ?_)); first | exact xg_eq | exact a22), (by first | (repeat (refine xg_ne (by omega) ?_)); first | exact xg_eq | exact a23), (by first | (repeat (refine xg_ne (by omega) ?_)); first | exact xg_eq | exact a24), (by first | (repeat (refine xg_ne (by omega) ?_)); first | exact xg_eq | exact a25), (by first | (repeat (refine xg_ne (by omega) ?_)); first | exact xg_eq | exact a26), (by first | (repeat (refine xg_ne (by omega) ?_)); first | exact xg_eq | exact a27), (by first | (repeat (refine xg_ne (by omega) ?_)); first | exact xg_eq | exact a28), (by first | (repeat (refine xg_ne (by omega) ?_)); first | exact xg_eq | exact a29), (by first | (repeat (refine xg_ne (by omega) ?_)); first | exact xg_eq | exact a30), (by first | (repeat (refine xg_ne (by omega) ?_)); first | exact xg_eq | exact a31), (by first | (repeat (refine xg_ne (by omega) ?_)); first | exact xg_eq | exact a32), (by first | (repeat (refine xg_ne (by omega) ?_)); first | exact xg_eq | exact a33), (by first | (repeat (refine xg_ne (by omega) ?_)); first | exact xg_eq | exact a34), (by first | (repeat (refine xg_ne (by omega) ?_)); first | exact xg_eq | exact a35), (by first | (repeat (refine xg_ne (by omega) ?_)); first | exact xg_eq | exact a36), (by first | (repeat (refine xg_ne (by omega) ?_)); first | exact xg_eq | exact a37), (by first | (repeat (refine xg_ne (by omega) ?_)); first | exact xg_eq | exact a38), (by first | (repeat (refine xg_ne (by omega) ?_)); first | exact xg_eq | exact a39), (by first | (repeat (refine xg_ne (by omega) ?_)); first | exact xg_eq | exact a40)⟩
  clear hg3
  have o3 := m3.obj
  refine wp_aload_n d_MO_check_26 rfl rfl ?_
  refine wp_iconst (v := 0) d_MO_check_27 (by rfl) ?_
  refine wp_callV1 xc_MO_107 d_MO_check_28 (Nat.le_of_ble_eq_true rfl) (by repeat first | exact xg_eq | exact xn_eq (by first | rfl | omega) | refine xg_ne (by first | omega | assumption | (simp only [xput, xnew]; omega)) ?_ | refine xn_ne (by first | omega | assumption | (simp only [xput, xnew]; omega)) ?_ | assumption | exact rfl) (c_MO_openRow hE m3 (d := 0) (by omega)) (by omega) (fun r g4 hp => ?_)
  obtain ⟨rfl, f4, m4⟩ := hp
  clear fp ft fo qq o21 a22 a23 a24 a25 a26 a27 a28 a29 a30 a31 a32 a33 a34 a35 a36 a37 a38 a39 a40
  obtain ⟨fp, ft, fo, qq, o21, a22, a23, a24, a25, a26, a27, a28, a29, a30, a31, a32, a33, a34, a35, a36, a37, a38, a39, a40⟩ := id m4
  refine wp_aload_n d_MO_check_31 rfl rfl ?_
  refine wp_iconst (v := 0) d_MO_check_32 (by rfl) ?_
  refine wp_put xf_MO_76 xg_MO (Or.inl rfl) d_MO_check_33 (by repeat first | exact xg_eq | exact xn_eq (by first | rfl | omega) | refine xg_ne (by first | omega | assumption | (simp only [xput, xnew]; omega)) ?_ | refine xn_ne (by first | omega | assumption | (simp only [xput, xnew]; omega)) ?_ | assumption | exact rfl) (by first | rfl | assumption | exact bI_z _) (by first | rfl | assumption | exact bI_f _) (Nat.le_of_ble_eq_true rfl) ?_
  refine wp_aload_n d_MO_check_36 rfl rfl ?_
  refine wp_iconst (v := 1) d_MO_check_37 (by rfl) ?_
  refine wp_put xf_MO_83 xg_MO (Or.inl rfl) d_MO_check_38 (by repeat first | exact xg_eq | exact xn_eq (by first | rfl | omega) | refine xg_ne (by first | omega | assumption | (simp only [xput, xnew]; omega)) ?_ | refine xn_ne (by first | omega | assumption | (simp only [xput, xnew]; omega)) ?_ | assumption | exact rfl) (by first | rfl | assumption | exact bI_z _) (by first | rfl | assumption | exact bI_f _) (Nat.le_of_ble_eq_true rfl) ?_
  refine wp_iconst (v := 0) d_MO_check_41 (by rfl) ?_
  refine wp_istore_n d_MO_check_42 rfl (by decide) rfl ?_
  refine wp_iconst (v := 0) d_MO_check_43 (by rfl) ?_
  refine wp_istore_n d_MO_check_44 rfl (by decide) rfl ?_
  exact lp 28 0 0 false (bSt B) _ (by omega) (Nat.zero_le _) (Nat.zero_le _) hB.st (((f3.tr f4).put (by omega)).put (by omega)) ⟨fp, ft, fo, qq, (by first | (repeat (refine xg_ne (by omega) ?_)); first | exact xg_eq | exact o21), (by first | (repeat (refine xg_ne (by omega) ?_)); first | exact xg_eq | exact a22), (by first | (repeat (refine xg_ne (by omega) ?_)); first | exact xg_eq | exact a23), (by first | (repeat (refine xg_ne (by omega) ?_)); first | exact xg_eq | exact a24), (by first | (repeat (refine xg_ne (by omega) ?_)); first | exact xg_eq | exact a25), (by first | (repeat (refine xg_ne (by omega) ?_)); first | exact xg_eq | exact a26), (by first | (repeat (refine xg_ne (by omega) ?_)); first | exact xg_eq | exact a27), (by first | (repeat (refine xg_ne (by omega) ?_)); first | exact xg_eq | exact a28), (by first | (repeat (refine xg_ne (by omega) ?_)); first | exact xg_eq | exact a29), (by first | (repeat (refine xg_ne (by omega) ?_)); first | exact xg_eq | exact a30), (by first | (repeat (refine xg_ne (by omega) ?_)); first | exact xg_eq | exact a31), (by first | (repeat (refine xg_ne (by omega) ?_)); first | exact xg_eq | exact a32), (by first | (repeat (refine xg_ne (by omega) ?_)); first | exact xg_eq | exact a33), (by first | (repeat (refine xg_ne (by omega) ?_)); first | exact xg_eq | exact a34), (by first | (repeat (refine xg_ne (by omega) ?_)); first | exact xg_eq | exact a35), (by first | (repeat (refine xg_ne (by omega) ?_)); first | exact xg_eq | exact a36), (by first | (repeat (refine xg_ne (by omega) ?_)); first | exact xg_eq | exact a37), (by first | (repeat (refine xg_ne (by omega) ?_)); first | exact xg_eq | exact a38), (by first | (repeat (refine xg_ne (by omega) ?_)); first | exact xg_eq | exact a39), (by first | (repeat (refine xg_ne (by omega) ?_)); first | exact xg_eq | exact a40)⟩ hR
end M4
