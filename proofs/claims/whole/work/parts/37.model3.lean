def brPost (E : xE) (h : xH) (A : MA3) (B : MB) (C : MC) (D : MD) (M : Nat ⊕ (Nat × Nat × Nat × Bool)) (r' : Option Value) (h' : xH) : Prop := match M with
  | .inl k => r' = some (.int (-1 - nI k)) ∧ h' = h
  | .inr q => r' = some (.int (nI q.1)) ∧ mfr E h h' ∧ Mo E h' A (bRp q.2.1 q.2.2.1 q.2.2.2 false B) C D
def rpPost (E : xE) (h : xH) (A : MA3) (B : MB) (C : MC) (D : MD) (M : Nat ⊕ (Nat × Nat × Nat × Bool × Bool)) (r' : Option Value) (h' : xH) : Prop := match M with
  | .inl k => r' = some (.int (-1 - nI k)) ∧ h' = h ∧ k ≤ 40
  | .inr q => r' = some (.int (nI q.1)) ∧ mfr E h h' ∧ Mo E h' A (bRp q.2.1 q.2.2.1 q.2.2.2.1 q.2.2.2.2 B) C D ∧ q.1 ≤ 40
section M3
variable {E : xE} {h : xH} {A : MA3} {B : MB} {C : MC} {D : MD}
theorem c_MO_passBraces (hE : xOK E) (hm : Mo E h A B C D) {i : Nat} (hi : i ≤ 28) (hps : B.2.2.2.2.1 ≤ 1000) : wpc E 2 m_MO_passBraces [.ref (xb E + 21), .int (nI i)] h (fun r' h' => brPost E h A B C D (mBr A.1 i) r' h') := by
  have hl := hm.len
  have ho := hm.obj
  have e12 : ∀ k : Nat, nI k + 1 = nI (k + 1) := fun k => (nI_succ k).symm
  have e12' : ∀ k : Nat, nI k + Int32.ofInt 1 = nI (k + 1) := fun k => (nI_succ k).symm
  generalize hM : mBr A.1 i = M
  rw [mBr] at hM
  have b1 : (A.1.length ≤ i + 1 ∨ pat A.1 (i + 1) < 48 ∨ 54 < pat A.1 (i + 1)) → wp E 2 m_MO_passBraces 32 [(0, .ref (xb E + 21)), (1, .int (nI i)), (2, .int (nI (i + 1)))] [] h (fun r' h' => brPost E h A B C D (M) r' h') := by
    intro hb
    rw [if_pos hb] at hM
    refine wp_iconst (v := (-1)) d_MO_passBraces_32 (by rfl) ?_
    refine wp_iload_n d_MO_passBraces_33 rfl rfl ?_
    refine wp_isub d_MO_passBraces_34 ?_
    refine wp_ireturn d_MO_passBraces_35 rfl (by first | rfl | assumption) ?_
    rw [← hM]
    exact ⟨rfl, rfl⟩
  refine wpc_of rfl (Nat.le_of_ble_eq_true rfl) ?_
  refine wp_iload_n d_MO_passBraces_0 rfl rfl ?_
  refine wp_iconst (v := 1) d_MO_passBraces_1 (by rfl) ?_
  refine wp_iadd d_MO_passBraces_2 ?_
  refine wp_istore_n d_MO_passBraces_3 rfl (by decide) rfl ?_
  refine wp_iload_n d_MO_passBraces_4 rfl rfl ?_
  refine wp_aload_n d_MO_passBraces_5 rfl rfl ?_
  refine wp_get xf_MO_72 d_MO_passBraces_6 (by repeat first | assumption | exact xg_eq | exact xn_eq (by first | rfl | omega) | refine xg_ne (by first | assumption | omega | (simp only [xput, xnew]; omega)) ?_ | refine xn_ne (by first | assumption | omega | (simp only [xput, xnew]; omega)) ?_ | exact rfl) (by rfl) ?_
  rw [e12]
  refine wp_icmp_ge (tgt := 32) d_MO_passBraces_9 (by decide) (fun hc => ?_) (fun hc => ?_)
  · exact b1 (Or.inl ((nI_leI (by omega) (by omega)).mp hc))
  have hc : ¬ A.1.length ≤ i + 1 := fun z => hc ((nI_leI (by omega) (by omega)).mpr z)
  refine wp_aload_n d_MO_passBraces_12 rfl rfl ?_
  refine wp_iload_n d_MO_passBraces_13 rfl rfl ?_
  refine wp_callV1 xc_MO_90 d_MO_passBraces_14 (Nat.le_of_ble_eq_true rfl) (by repeat first | assumption | exact xg_eq | exact xn_eq (by first | rfl | omega) | refine xg_ne (by first | assumption | omega | (simp only [xput, xnew]; omega)) ?_ | refine xn_ne (by first | assumption | omega | (simp only [xput, xnew]; omega)) ?_ | exact rfl) (c_MO_at hE hm (i := i + 1) (by omega)) (by omega) (fun r hh hp => ?_)
  obtain ⟨rfl, hz0⟩ := hp; have hz0 := hz0.symm; subst hz0
  refine wp_bipush (v := 48) d_MO_passBraces_17 (by rfl) ?_
  refine wp_icmp_lt (tgt := 32) d_MO_passBraces_19 (by decide) (fun hc2 => ?_) (fun hc2 => ?_)
  · exact b1 (Or.inr (Or.inl hc2))
  refine wp_aload_n d_MO_passBraces_22 rfl rfl ?_
  refine wp_iload_n d_MO_passBraces_23 rfl rfl ?_
  refine wp_callV1 xc_MO_90 d_MO_passBraces_24 (Nat.le_of_ble_eq_true rfl) (by repeat first | assumption | exact xg_eq | exact xn_eq (by first | rfl | omega) | refine xg_ne (by first | assumption | omega | (simp only [xput, xnew]; omega)) ?_ | refine xn_ne (by first | assumption | omega | (simp only [xput, xnew]; omega)) ?_ | exact rfl) (c_MO_at hE hm (i := i + 1) (by omega)) (by omega) (fun r hh hp => ?_)
  obtain ⟨rfl, hz0⟩ := hp; have hz0 := hz0.symm; subst hz0
  refine wp_bipush (v := 54) d_MO_passBraces_27 (by rfl) ?_
  refine wp_icmp_le (tgt := 36) d_MO_passBraces_29 (by decide) (fun hc3 => ?_) (fun hc3 => ?_)
  rotate_left
  · exact b1 (Or.inr (Or.inr (Int32.not_le.mp hc3)))
  rw [if_neg (fun z => z.elim hc (fun z => z.elim hc2 (Int32.not_lt.mpr hc3)))] at hM
  clear b1
  obtain ⟨m, hm6, em⟩ := dg_of hc2 hc3
  rw [em, nI_clamp (by omega)] at hM
  refine wp_aload_n d_MO_passBraces_36 rfl rfl ?_
  refine wp_iload_n d_MO_passBraces_37 rfl rfl ?_
  refine wp_callV1 xc_MO_90 d_MO_passBraces_38 (Nat.le_of_ble_eq_true rfl) (by repeat first | assumption | exact xg_eq | exact xn_eq (by first | rfl | omega) | refine xg_ne (by first | assumption | omega | (simp only [xput, xnew]; omega)) ?_ | refine xn_ne (by first | assumption | omega | (simp only [xput, xnew]; omega)) ?_ | exact rfl) (c_MO_at hE hm (i := i + 1) (by omega)) (by omega) (fun r hh hp => ?_)
  obtain ⟨rfl, hz0⟩ := hp; have hz0 := hz0.symm; subst hz0
  refine wp_bipush (v := 48) d_MO_passBraces_41 (by rfl) ?_
  refine wp_isub d_MO_passBraces_43 ?_
  refine wp_istore_n d_MO_passBraces_44 rfl (by decide) rfl ?_
  refine wp_iinc d_MO_passBraces_45 rfl rfl (by decide) rfl ?_
  refine wp_aload_n d_MO_passBraces_48 rfl rfl ?_
  refine wp_iload_n d_MO_passBraces_49 rfl rfl ?_
  rw [em, e12']
  have two : ¬ (pat A.1 (i + 2) = 125 ∧ 0 < m) → wp E 2 m_MO_passBraces 74 [(0, .ref (xb E + 21)), (1, .int (nI i)), (2, .int (nI (i + 2))), (3, .int (nI m))] [] h (fun r' h' => brPost E h A B C D (M) r' h') := by
    intro hn
    rw [if_neg hn] at hM
    refine wp_aload_n d_MO_passBraces_74 rfl rfl ?_
    refine wp_iload_n d_MO_passBraces_75 rfl rfl ?_
    refine wp_callV1 xc_MO_90 d_MO_passBraces_76 (Nat.le_of_ble_eq_true rfl) (by repeat first | assumption | exact xg_eq | exact xn_eq (by first | rfl | omega) | refine xg_ne (by first | assumption | omega | (simp only [xput, xnew]; omega)) ?_ | refine xn_ne (by first | assumption | omega | (simp only [xput, xnew]; omega)) ?_ | exact rfl) (c_MO_at hE hm (i := i + 2) (by omega)) (by omega) (fun r hh hp => ?_)
    obtain ⟨rfl, hz0⟩ := hp; have hz0 := hz0.symm; subst hz0
    refine wp_bipush (v := 44) d_MO_passBraces_79 (by rfl) ?_
    refine wp_icmp_eq (tgt := 88) d_MO_passBraces_81 (by decide) (fun hc4 => ?_) (fun hc4 => ?_)
    rotate_left
    · rw [if_neg hc4] at hM
      refine wp_iconst (v := (-1)) d_MO_passBraces_84 (by rfl) ?_
      refine wp_iload_n d_MO_passBraces_85 rfl rfl ?_
      refine wp_isub d_MO_passBraces_86 ?_
      refine wp_ireturn d_MO_passBraces_87 rfl (by first | rfl | assumption) ?_
      rw [← hM]
      exact ⟨rfl, rfl⟩
    rw [if_pos hc4] at hM
    refine wp_iinc d_MO_passBraces_88 rfl rfl (by decide) rfl ?_
    refine wp_aload_n d_MO_passBraces_91 rfl rfl ?_
    refine wp_iload_n d_MO_passBraces_92 rfl rfl ?_
    rw [e12']
    refine wp_callV1 xc_MO_90 d_MO_passBraces_93 (Nat.le_of_ble_eq_true rfl) (by repeat first | assumption | exact xg_eq | exact xn_eq (by first | rfl | omega) | refine xg_ne (by first | assumption | omega | (simp only [xput, xnew]; omega)) ?_ | refine xn_ne (by first | assumption | omega | (simp only [xput, xnew]; omega)) ?_ | exact rfl) (c_MO_at hE hm (i := i + 3) (by omega)) (by omega) (fun r hh hp => ?_)
    obtain ⟨rfl, hz0⟩ := hp; have hz0 := hz0.symm; subst hz0
    refine wp_bipush (v := 48) d_MO_passBraces_96 (by rfl) ?_
    refine wp_isub d_MO_passBraces_98 ?_
    refine wp_istore d_MO_passBraces_99 (by decide) rfl ?_
    refine wp_iload_n d_MO_passBraces_101 rfl rfl ?_
    refine wp_aload_n d_MO_passBraces_102 rfl rfl ?_
    refine wp_get xf_MO_72 d_MO_passBraces_103 (by repeat first | assumption | exact xg_eq | exact xn_eq (by first | rfl | omega) | refine xg_ne (by first | assumption | omega | (simp only [xput, xnew]; omega)) ?_ | refine xn_ne (by first | assumption | omega | (simp only [xput, xnew]; omega)) ?_ | exact rfl) (by rfl) ?_
    have b3 : (A.1.length ≤ i + 3 ∨ pat A.1 (i + 3) - 48 < 1 ∨ 6 < pat A.1 (i + 3) - 48 ∨ pat A.1 (i + 3) - 48 < nI m) → wp E 2 m_MO_passBraces 128 [(0, .ref (xb E + 21)), (1, .int (nI i)), (2, .int (nI (i + 3))), (3, .int (nI m)), (4, .int (pat A.1 (i + 3) - 48))] [] h (fun r' h' => brPost E h A B C D (M) r' h') := by
      intro hb
      rw [if_pos hb] at hM
      refine wp_iconst (v := (-1)) d_MO_passBraces_128 (by rfl) ?_
      refine wp_iload_n d_MO_passBraces_129 rfl rfl ?_
      refine wp_isub d_MO_passBraces_130 ?_
      refine wp_ireturn d_MO_passBraces_131 rfl (by first | rfl | assumption) ?_
      rw [← hM]
      exact ⟨rfl, rfl⟩
    refine wp_icmp_ge (tgt := 128) d_MO_passBraces_106 (by decide) (fun hc5 => ?_) (fun hc5 => ?_)
    · exact b3 (Or.inl ((nI_leI (by omega) (by omega)).mp hc5))
    have hc5 : ¬ A.1.length ≤ i + 3 := fun z => hc5 ((nI_leI (by omega) (by omega)).mpr z)
    refine wp_iload d_MO_passBraces_109 rfl ?_
    refine wp_iconst (v := 1) d_MO_passBraces_111 (by rfl) ?_
    refine wp_icmp_lt (tgt := 128) d_MO_passBraces_112 (by decide) (fun hc6 => ?_) (fun hc6 => ?_)
    · exact b3 (Or.inr (Or.inl hc6))
    refine wp_iload d_MO_passBraces_115 rfl ?_
    refine wp_bipush (v := 6) d_MO_passBraces_117 (by rfl) ?_
    refine wp_icmp_gt (tgt := 128) d_MO_passBraces_119 (by decide) (fun hc7 => ?_) (fun hc7 => ?_)
    · exact b3 (Or.inr (Or.inr (Or.inl hc7)))
    refine wp_iload d_MO_passBraces_122 rfl ?_
    refine wp_iload_n d_MO_passBraces_124 rfl rfl ?_
    refine wp_icmp_ge (tgt := 132) d_MO_passBraces_125 (by decide) (fun hc8 => ?_) (fun hc8 => ?_)
    rotate_left
    · exact b3 (Or.inr (Or.inr (Or.inr (Int32.not_le.mp hc8))))
    rw [if_neg (fun z => z.elim hc5 (fun z => z.elim hc6 (fun z => z.elim hc7 (Int32.not_lt.mpr hc8))))] at hM
    clear b3
    obtain ⟨n, hn6, en⟩ := nI_of2 (x := pat A.1 (i + 3) - 48) (M := 6) (n := 6) rfl (fun z => hc6 (Int32.lt_trans z (by decide))) (Int32.not_lt.mp hc7)
    rw [en, nI_clamp (by omega)] at hM
    have hmn : m ≤ n := (nI_leI (by omega) (by omega)).mp (by rw [← en]; exact hc8)
    rw [en]
    refine wp_iinc d_MO_passBraces_132 rfl rfl (by decide) rfl ?_
    refine wp_aload_n d_MO_passBraces_135 rfl rfl ?_
    refine wp_iload_n d_MO_passBraces_136 rfl rfl ?_
    rw [e12']
    refine wp_callV1 xc_MO_90 d_MO_passBraces_137 (Nat.le_of_ble_eq_true rfl) (by repeat first | assumption | exact xg_eq | exact xn_eq (by first | rfl | omega) | refine xg_ne (by first | assumption | omega | (simp only [xput, xnew]; omega)) ?_ | refine xn_ne (by first | assumption | omega | (simp only [xput, xnew]; omega)) ?_ | exact rfl) (c_MO_at hE hm (i := i + 4) (by omega)) (by omega) (fun r hh hp => ?_)
    obtain ⟨rfl, hz0⟩ := hp; have hz0 := hz0.symm; subst hz0
    refine wp_bipush (v := 125) d_MO_passBraces_140 (by rfl) ?_
    refine wp_icmp_eq (tgt := 149) d_MO_passBraces_142 (by decide) (fun hc9 => ?_) (fun hc9 => ?_)
    rotate_left
    · rw [if_neg hc9] at hM
      refine wp_iconst (v := (-1)) d_MO_passBraces_145 (by rfl) ?_
      refine wp_iload_n d_MO_passBraces_146 rfl rfl ?_
      refine wp_isub d_MO_passBraces_147 ?_
      refine wp_ireturn d_MO_passBraces_148 rfl (by first | rfl | assumption) ?_
      rw [← hM]
      exact ⟨rfl, rfl⟩
    rw [if_pos hc9] at hM
    have last : ∀ b : Bool, b = decide (m = 0) → wp E 2 m_MO_passBraces 167 [(0, .ref (xb E + 21)), (1, .int (nI i)), (2, .int (nI (i + 4))), (3, .int (nI m)), (4, .int (nI n))] [.int (bI b), .int (nI (2 * (n - m))), .int (nI n), .ref (xb E + 21)] h (fun r' h' => brPost E h A B C D (M) r' h') := by
      intro b hb
      refine wp_iconst (v := 0) d_MO_passBraces_167 (by rfl) ?_
      refine wp_callV4 xc_MO_97 d_MO_passBraces_168 (Nat.le_of_ble_eq_true rfl) (by repeat first | assumption | exact xg_eq | exact xn_eq (by first | rfl | omega) | refine xg_ne (by first | assumption | omega | (simp only [xput, xnew]; omega)) ?_ | refine xn_ne (by first | assumption | omega | (simp only [xput, xnew]; omega)) ?_ | exact rfl) (c_MO_repeat (nn := b) (fv := false) hE hm hn6 (by omega) hps) (by omega) (fun r g hp => ?_)
      obtain ⟨rfl, f2, m2⟩ := hp
      refine wp_iload_n d_MO_passBraces_171 rfl rfl ?_
      refine wp_iconst (v := 1) d_MO_passBraces_172 (by rfl) ?_
      refine wp_iadd d_MO_passBraces_173 ?_
      rw [e12]
      refine wp_ireturn d_MO_passBraces_174 rfl (by first | rfl | assumption) ?_
      rw [← hM, ← hb]
      exact ⟨rfl, f2, m2⟩
    refine wp_aload_n d_MO_passBraces_149 rfl rfl ?_
    refine wp_iload d_MO_passBraces_150 rfl ?_
    refine wp_iconst (v := 2) d_MO_passBraces_152 (by rfl) ?_
    refine wp_iload d_MO_passBraces_153 rfl ?_
    refine wp_iload_n d_MO_passBraces_155 rfl rfl ?_
    refine wp_isub d_MO_passBraces_156 ?_
    refine wp_imul d_MO_passBraces_157 ?_
    refine wp_iload_n d_MO_passBraces_158 rfl rfl ?_
    rw [pk_sub hmn, show (2 : Int32) * nI (n - m) = nI (2 * (n - m)) from pk_mul 2 (n - m)]
    refine wp_if_ne (tgt := 166) d_MO_passBraces_159 (by decide) (fun hc10 => ?_) (fun hc10 => ?_)
    · refine wp_iconst (v := 0) d_MO_passBraces_166 (by rfl) ?_
      exact last false (decide_eq_false (fun z => hc10 (by rw [z]; rfl))).symm
    · refine wp_iconst (v := 1) d_MO_passBraces_162 (by rfl) ?_
      refine wp_goto (tgt := 167) d_MO_passBraces_163 (by decide) ?_
      exact last true (decide_eq_true ((nI_eq (b := 0) (by omega) (by omega)).mp hc10)).symm
  refine wp_callV1 xc_MO_90 d_MO_passBraces_50 (Nat.le_of_ble_eq_true rfl) (by repeat first | assumption | exact xg_eq | exact xn_eq (by first | rfl | omega) | refine xg_ne (by first | assumption | omega | (simp only [xput, xnew]; omega)) ?_ | refine xn_ne (by first | assumption | omega | (simp only [xput, xnew]; omega)) ?_ | exact rfl) (c_MO_at hE hm (i := i + 2) (by omega)) (by omega) (fun r hh hp => ?_)
  obtain ⟨rfl, hz0⟩ := hp; have hz0 := hz0.symm; subst hz0
  refine wp_bipush (v := 125) d_MO_passBraces_53 (by rfl) ?_
  refine wp_icmp_ne (tgt := 74) d_MO_passBraces_55 (by decide) (fun hc4 => ?_) (fun hc4 => ?_)
  · exact two (fun z => hc4 z.1)
  · refine wp_iload_n d_MO_passBraces_58 rfl rfl ?_
    refine wp_if_le (tgt := 74) d_MO_passBraces_59 (by decide) (fun hc5 => ?_) (fun hc5 => ?_)
    · exact two (fun z => nI_nle z.2 (by omega) hc5)
    · have hm0 : 0 < m := Nat.pos_of_ne_zero (fun z => hc5 (by rw [z]; decide))
      rw [if_pos ⟨hc4, hm0⟩] at hM
      refine wp_aload_n d_MO_passBraces_62 rfl rfl ?_
      refine wp_iload_n d_MO_passBraces_63 rfl rfl ?_
      refine wp_iconst (v := 0) d_MO_passBraces_64 (by rfl) ?_
      refine wp_iconst (v := 0) d_MO_passBraces_65 (by rfl) ?_
      refine wp_iconst (v := 0) d_MO_passBraces_66 (by rfl) ?_
      refine wp_callV4 xc_MO_97 d_MO_passBraces_67 (Nat.le_of_ble_eq_true rfl) (by repeat first | assumption | exact xg_eq | exact xn_eq (by first | rfl | omega) | refine xg_ne (by first | assumption | omega | (simp only [xput, xnew]; omega)) ?_ | refine xn_ne (by first | assumption | omega | (simp only [xput, xnew]; omega)) ?_ | exact rfl) (c_MO_repeat (t := m) (m := 0) (nn := false) (fv := false) hE hm hm6 (by omega) hps) (by omega) (fun r g hp => ?_)
      obtain ⟨rfl, f2, m2⟩ := hp
      refine wp_iload_n d_MO_passBraces_70 rfl rfl ?_
      refine wp_iconst (v := 1) d_MO_passBraces_71 (by rfl) ?_
      refine wp_iadd d_MO_passBraces_72 ?_
      rw [e12]
      refine wp_ireturn d_MO_passBraces_73 rfl (by first | rfl | assumption) ?_
      rw [← hM]
      exact ⟨rfl, f2, m2⟩
theorem c_MO_passRepetition (hE : xOK E) (hm : Mo E h A B C D) {i : Nat} (hi : i ≤ 28) (hps : B.2.2.2.2.1 ≤ 1000) : wpc E 3 m_MO_passRepetition [.ref (xb E + 21), .int (nI i)] h (fun r' h' => rpPost E h A B C D (mRp A.1 i) r' h') := by
  have hl := hm.len
  have ho := hm.obj
  have e12 : ∀ k : Nat, nI k + 1 = nI (k + 1) := fun k => (nI_succ k).symm
  have hbr : ∀ k, mBr A.1 i = .inl k → k ≤ i + 5 := by
    intro k hk
    rw [mBr] at hk
    repeat' split at hk
    all_goals first | (cases hk; done) | (injection hk with hk; omega) | (cases hk; omega)
  have hbr2 : ∀ q, mBr A.1 i = .inr q → q.1 ≤ i + 5 := by
    intro k hk
    rw [mBr] at hk
    repeat' split at hk
    all_goals first | (cases hk; done) | (injection hk with hk; rw [← hk]; show _ + _ ≤ _; omega)
  have fin : ∀ (g : xH) (q : Nat × Nat × Nat × Bool × Bool), mRq A.1 i = .inr q → q.1 ≤ i + 5 → mfr E h g → Mo E g A (bRp q.2.1 q.2.2.1 q.2.2.2.1 q.2.2.2.2 B) C D → wp E 3 m_MO_passRepetition 53 [(0, .ref (xb E + 21)), (1, .int (nI i)), (2, .int (pat A.1 i)), (3, .int (nI q.1))] [] g (fun r' h' => rpPost E h A B C D (mRp A.1 i) r' h') := by
    intro g q hq hb f1 m1
    have o1 := m1.obj
    rw [mRp, hq]
    refine wp_iload_n d_MO_passRepetition_53 rfl rfl ?_
    refine wp_if_lt (tgt := 73) d_MO_passRepetition_54 (by decide) (fun hc => ?_) (fun hc => ?_)
    · exact absurd hc (nI_pos (by omega))
    · refine wp_aload_n d_MO_passRepetition_57 rfl rfl ?_
      refine wp_iload_n d_MO_passRepetition_58 rfl rfl ?_
      refine wp_callV1 xc_MO_90 d_MO_passRepetition_59 (Nat.le_of_ble_eq_true rfl) (by repeat first | assumption | exact xg_eq | exact xn_eq (by first | rfl | omega) | refine xg_ne (by first | assumption | omega | (simp only [xput, xnew]; omega)) ?_ | refine xn_ne (by first | assumption | omega | (simp only [xput, xnew]; omega)) ?_ | exact rfl) (c_MO_at hE m1 (i := q.1) (by omega)) (by omega) (fun r hh hp => ?_)
      obtain ⟨rfl, hz0⟩ := hp; have hz0 := hz0.symm; subst hz0
      refine wp_bipush (v := 63) d_MO_passRepetition_62 (by rfl) ?_
      refine wp_icmp_ne (tgt := 73) d_MO_passRepetition_64 (by decide) (fun hc2 => ?_) (fun hc2 => ?_)
      · refine wp_iload_n d_MO_passRepetition_73 rfl rfl ?_
        refine wp_ireturn d_MO_passRepetition_74 rfl (by first | rfl | assumption) ?_
        show rpPost E h A B C D (.inr (if pat A.1 q.1 = 63 then q.1 + 1 else q.1, q.2)) _ _
        rw [if_neg hc2]
        exact ⟨rfl, f1, m1, by show q.1 ≤ 40; omega⟩
      · refine wp_iload_n d_MO_passRepetition_67 rfl rfl ?_
        refine wp_iconst (v := 1) d_MO_passRepetition_68 (by rfl) ?_
        refine wp_iadd d_MO_passRepetition_69 ?_
        refine wp_goto (tgt := 74) d_MO_passRepetition_70 (by decide) ?_
        rw [e12]
        refine wp_ireturn d_MO_passRepetition_74 rfl (by first | rfl | assumption) ?_
        show rpPost E h A B C D (.inr (if pat A.1 q.1 = 63 then q.1 + 1 else q.1, q.2)) _ _
        rw [if_pos hc2]
        exact ⟨rfl, f1, m1, by show q.1 + 1 ≤ 40; omega⟩
  refine wpc_of rfl (Nat.le_of_ble_eq_true rfl) ?_
  refine wp_aload_n d_MO_passRepetition_0 rfl rfl ?_
  refine wp_iload_n d_MO_passRepetition_1 rfl rfl ?_
  refine wp_callV1 xc_MO_90 d_MO_passRepetition_2 (Nat.le_of_ble_eq_true rfl) (by repeat first | assumption | exact xg_eq | exact xn_eq (by first | rfl | omega) | refine xg_ne (by first | assumption | omega | (simp only [xput, xnew]; omega)) ?_ | refine xn_ne (by first | assumption | omega | (simp only [xput, xnew]; omega)) ?_ | exact rfl) (c_MO_at hE hm (i := i) (by omega)) (by omega) (fun r hh hp => ?_)
  obtain ⟨rfl, hz0⟩ := hp; have hz0 := hz0.symm; subst hz0
  refine wp_istore_n d_MO_passRepetition_5 rfl (by decide) rfl ?_
  refine wp_iload_n d_MO_passRepetition_6 rfl rfl ?_
  refine wp_iconst (v := 1) d_MO_passRepetition_7 (by rfl) ?_
  refine wp_iadd d_MO_passRepetition_8 ?_
  refine wp_istore_n d_MO_passRepetition_9 rfl (by decide) rfl ?_
  refine wp_iload_n d_MO_passRepetition_10 rfl rfl ?_
  refine wp_bipush (v := 123) d_MO_passRepetition_11 (by rfl) ?_
  rw [e12]
  refine wp_icmp_ne (tgt := 25) d_MO_passRepetition_13 (by decide) (fun hc => ?_) (fun hc => ?_)
  · have hq : mRq A.1 i = .inr (i + 1, 1, 2, !decide (pat A.1 i = 43), !decide (pat A.1 i = 63)) := by rw [mRq, if_neg hc]
    have l2 : ∀ nn fv : Bool, nn = !decide (pat A.1 i = 43) → fv = !decide (pat A.1 i = 63) → wp E 3 m_MO_passRepetition 50 [(0, .ref (xb E + 21)), (1, .int (nI i)), (2, .int (pat A.1 i)), (3, .int (nI (i + 1)))] [.int (bI fv), .int (bI nn), .int (nI 2), .int (nI 1), .ref (xb E + 21)] h (fun r' h' => rpPost E h A B C D (mRp A.1 i) r' h') := by
      intro nn fv h1 h2
      refine wp_callV4 xc_MO_97 d_MO_passRepetition_50 (Nat.le_of_ble_eq_true rfl) (by repeat first | assumption | exact xg_eq | exact xn_eq (by first | rfl | omega) | refine xg_ne (by first | assumption | omega | (simp only [xput, xnew]; omega)) ?_ | refine xn_ne (by first | assumption | omega | (simp only [xput, xnew]; omega)) ?_ | exact rfl) (c_MO_repeat hE hm (t := 1) (m := 2) (nn := nn) (fv := fv) (by omega) (by omega) hps) (by omega) (fun r g hp => ?_)
      obtain ⟨rfl, f2, m2⟩ := hp
      exact fin g _ hq (by show i + 1 ≤ _; omega) f2 (by rw [← h1, ← h2]; exact m2)
    have l1 : ∀ nn : Bool, nn = !decide (pat A.1 i = 43) → wp E 3 m_MO_passRepetition 39 [(0, .ref (xb E + 21)), (1, .int (nI i)), (2, .int (pat A.1 i)), (3, .int (nI (i + 1)))] [.int (bI nn), .int (nI 2), .int (nI 1), .ref (xb E + 21)] h (fun r' h' => rpPost E h A B C D (mRp A.1 i) r' h') := by
      intro nn h1
      refine wp_iload_n d_MO_passRepetition_39 rfl rfl ?_
      refine wp_bipush (v := 63) d_MO_passRepetition_40 (by rfl) ?_
      refine wp_icmp_eq (tgt := 49) d_MO_passRepetition_42 (by decide) (fun hc2 => ?_) (fun hc2 => ?_)
      · refine wp_iconst (v := 0) d_MO_passRepetition_49 (by rfl) ?_
        exact l2 nn false h1 (by rw [decide_eq_true hc2]; rfl)
      · refine wp_iconst (v := 1) d_MO_passRepetition_45 (by rfl) ?_
        refine wp_goto (tgt := 50) d_MO_passRepetition_46 (by decide) ?_
        exact l2 nn true h1 (by rw [decide_eq_false hc2]; rfl)
    refine wp_aload_n d_MO_passRepetition_25 rfl rfl ?_
    refine wp_iconst (v := 1) d_MO_passRepetition_26 (by rfl) ?_
    refine wp_iconst (v := 2) d_MO_passRepetition_27 (by rfl) ?_
    refine wp_iload_n d_MO_passRepetition_28 rfl rfl ?_
    refine wp_bipush (v := 43) d_MO_passRepetition_29 (by rfl) ?_
    refine wp_icmp_eq (tgt := 38) d_MO_passRepetition_31 (by decide) (fun hc2 => ?_) (fun hc2 => ?_)
    · refine wp_iconst (v := 0) d_MO_passRepetition_38 (by rfl) ?_
      exact l1 false (by rw [decide_eq_true hc2]; rfl)
    · refine wp_iconst (v := 1) d_MO_passRepetition_34 (by rfl) ?_
      refine wp_goto (tgt := 39) d_MO_passRepetition_35 (by decide) ?_
      exact l1 true (by rw [decide_eq_false hc2]; rfl)
  · refine wp_aload_n d_MO_passRepetition_16 rfl rfl ?_
    refine wp_iload_n d_MO_passRepetition_17 rfl rfl ?_
    refine wp_callV1 xc_MO_101 d_MO_passRepetition_18 (Nat.le_of_ble_eq_true rfl) (by repeat first | assumption | exact xg_eq | exact xn_eq (by first | rfl | omega) | refine xg_ne (by first | assumption | omega | (simp only [xput, xnew]; omega)) ?_ | refine xn_ne (by first | assumption | omega | (simp only [xput, xnew]; omega)) ?_ | exact rfl) (c_MO_passBraces hE hm hi hps) (by omega) (fun r g hp => ?_)
    cases hM : mBr A.1 i with
    | inl k =>
      rw [hM] at hp
      obtain ⟨rfl, rfl⟩ := hp
      have hk := hbr k hM
      have hq : mRq A.1 i = .inl k := by rw [mRq, if_pos hc, hM]
      refine wp_istore_n d_MO_passRepetition_21 rfl (by decide) rfl ?_
      refine wp_goto (tgt := 53) d_MO_passRepetition_22 (by decide) ?_
      refine wp_iload_n d_MO_passRepetition_53 rfl rfl ?_
      refine wp_if_lt (tgt := 73) d_MO_passRepetition_54 (by decide) (fun hc2 => ?_) (fun hc2 => ?_)
      · refine wp_iload_n d_MO_passRepetition_73 rfl rfl ?_
        refine wp_ireturn d_MO_passRepetition_74 rfl (by first | rfl | assumption) ?_
        rw [mRp, hq]
        exact ⟨rfl, rfl, by omega⟩
      · exact absurd (m1_neg (by omega)) hc2
    | inr q =>
      rw [hM] at hp
      obtain ⟨rfl, f2, m2⟩ := hp
      have hk := hbr2 q hM
      have hq : mRq A.1 i = .inr (q.1, q.2.1, q.2.2.1, q.2.2.2, false) := by rw [mRq, if_pos hc, hM]
      refine wp_istore_n d_MO_passRepetition_21 rfl (by decide) rfl ?_
      refine wp_goto (tgt := 53) d_MO_passRepetition_22 (by decide) ?_
      exact fin g _ hq hk f2 m2
end M3
