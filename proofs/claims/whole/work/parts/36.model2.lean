def mI : Nat ⊕ Nat → Int32
  | .inl k => -1 - nI k
  | .inr n => nI n
def mCl (P : List Int32) : Nat → Nat → Nat → Nat ⊕ Nat
  | 0, _, _ => .inl P.length
  | f + 1, k, it => if P.length ≤ k then .inl P.length else if pat P k = 93 then (if it = 0 then .inl k else .inr (k + 1)) else if inC (pat P k) = false then .inl k
    else if pat P (k + 1) = 45 then (if P.length ≤ k + 2 then .inl P.length else if inC (pat P (k + 2)) = false ∨ pat P (k + 2) < pat P k then .inl (k + 2) else mCl P f (k + 3) (it + 1))
    else mCl P f (k + 1) (it + 1)
def mPC (P : List Int32) (i : Nat) : Nat ⊕ Nat := mCl P 28 (if pat P (i + 1) = 94 then i + 2 else i + 1) 0
def mBr (P : List Int32) (i : Nat) : Nat ⊕ (Nat × Nat × Nat × Bool) :=
  if P.length ≤ i + 1 ∨ pat P (i + 1) < 48 ∨ 54 < pat P (i + 1) then .inl (i + 1)
  else if pat P (i + 2) = 125 ∧ 0 < (pat P (i + 1) - 48).toNatClampNeg then .inr (i + 3, (pat P (i + 1) - 48).toNatClampNeg, 0, false)
  else if pat P (i + 2) = 44 then
    (if P.length ≤ i + 3 ∨ pat P (i + 3) - 48 < 1 ∨ 6 < pat P (i + 3) - 48 ∨ pat P (i + 3) - 48 < pat P (i + 1) - 48 then .inl (i + 3)
    else if pat P (i + 4) = 125 then .inr (i + 5, (pat P (i + 3) - 48).toNatClampNeg, 2 * ((pat P (i + 3) - 48).toNatClampNeg - (pat P (i + 1) - 48).toNatClampNeg), decide ((pat P (i + 1) - 48).toNatClampNeg = 0)) else .inl (i + 4))
  else .inl (i + 2)
def mRq (P : List Int32) (i : Nat) : Nat ⊕ (Nat × Nat × Nat × Bool × Bool) :=
  if pat P i = 123 then (match mBr P i with | .inl k => .inl k | .inr q => .inr (q.1, q.2.1, q.2.2.1, q.2.2.2, false)) else .inr (i + 1, 1, 2, !decide (pat P i = 43), !decide (pat P i = 63))
def mRp (P : List Int32) (i : Nat) : Nat ⊕ (Nat × Nat × Nat × Bool × Bool) := match mRq P i with
  | .inl k => .inl k
  | .inr q => .inr (if pat P q.1 = 63 then q.1 + 1 else q.1, q.2)
theorem dg_of {x : Int32} (h1 : ¬ x < 48) (h2 : x ≤ 54) : ∃ m : Nat, m ≤ 6 ∧ x - 48 = nI m := by
  obtain ⟨j, hj, rfl⟩ := nI_of2 (M := 54) (n := 54) rfl (fun z => h1 (Int32.lt_trans z (by decide))) h2
  have h3 : ¬ j < 48 := fun z => h1 (nI_lt (b := 48) z (by decide))
  exact ⟨j - 48, by omega, pk_sub (b := 48) (by omega)⟩
theorem m1_neg {k : Nat} (hk : k < 1000) : (-1 : Int32) - nI k < 0 := by
  have : (-1 : Int32) - nI k = nI 0 - nI (k + 1) := by rw [nI_succ, show nI 0 = 0 from rfl]; generalize nI k = x; grind
  rw [this]
  exact pk_sneg (by omega) (by omega)
section M2
variable {E : xE} {h : xH} {A : MA3} {B : MB} {C : MC} {D : MD}
theorem c_MO_passClass (hE : xOK E) (hm : Mo E h A B C D) {i : Nat} (hi : i ≤ 28) : wpc E 2 m_MO_passClass [.ref (xb E + 21), .int (nI i)] h (fun r' h' => r' = some (.int (mI (mPC A.1 i))) ∧ h' = h) := by
  have hl := hm.len
  have ho := hm.obj
  have e12 : ∀ k : Nat, nI k + 1 = nI (k + 1) := fun k => (nI_succ k).symm
  have e22 : ∀ k : Nat, nI k + 2 = nI (k + 2) := fun k => nI_add k 2
  have fin : ∀ (k it : Nat), k ≤ 60 → it ≤ 60 → (A.1.length ≤ k ∨ pat A.1 k = 93) → wp E 2 m_MO_passClass 127 [(0, .ref (xb E + 21)), (1, .int (nI i)), (2, .int (nI k)), (3, .int (nI it))] [] h (fun r' h' => r' = some (.int (mI (if A.1.length ≤ k then .inl A.1.length else if it = 0 then .inl k else .inr (k + 1)))) ∧ h' = h) := by
    intro k it hk hit hx
    refine wp_iload_n d_MO_passClass_127 rfl rfl ?_
    refine wp_aload_n d_MO_passClass_128 rfl rfl ?_
    refine wp_get xf_MO_72 d_MO_passClass_129 (by repeat first | assumption | exact xg_eq | exact xn_eq (by first | rfl | omega) | refine xg_ne (by first | assumption | omega | (simp only [xput, xnew]; omega)) ?_ | refine xn_ne (by first | assumption | omega | (simp only [xput, xnew]; omega)) ?_ | exact rfl) (by rfl) ?_
    refine wp_icmp_lt (tgt := 144) d_MO_passClass_132 (by decide) (fun hc => ?_) (fun hc => ?_)
    · have hc := (nI_ltI (by omega) (by omega)).mp hc
      rw [if_neg (by omega)]
      refine wp_iload_n d_MO_passClass_144 rfl rfl ?_
      refine wp_if_ne (tgt := 154) d_MO_passClass_145 (by decide) (fun hc2 => ?_) (fun hc2 => ?_)
      · have hc2 : it ≠ 0 := fun z => hc2 (by rw [z]; rfl)
        rw [if_neg hc2]
        refine wp_iload_n d_MO_passClass_154 rfl rfl ?_
        refine wp_iconst (v := 1) d_MO_passClass_155 (by rfl) ?_
        refine wp_iadd d_MO_passClass_156 ?_
        rw [e12]
        refine wp_ireturn d_MO_passClass_157 rfl (by first | rfl | assumption) ?_
        exact ⟨rfl, rfl⟩
      · have hc2 : it = 0 := (nI_eq (b := 0) (by omega) (by omega)).mp hc2
        rw [if_pos hc2]
        refine wp_iconst (v := (-1)) d_MO_passClass_148 (by rfl) ?_
        refine wp_iload_n d_MO_passClass_149 rfl rfl ?_
        refine wp_isub d_MO_passClass_150 ?_
        refine wp_goto (tgt := 157) d_MO_passClass_151 (by decide) ?_
        refine wp_ireturn d_MO_passClass_157 rfl (by first | rfl | assumption) ?_
        exact ⟨rfl, rfl⟩
    · have hc : ¬ k < A.1.length := fun z => hc ((nI_ltI (by omega) (by omega)).mpr z)
      rw [if_pos (by omega)]
      refine wp_iconst (v := (-1)) d_MO_passClass_135 (by rfl) ?_
      refine wp_aload_n d_MO_passClass_136 rfl rfl ?_
      refine wp_get xf_MO_72 d_MO_passClass_137 (by repeat first | assumption | exact xg_eq | exact xn_eq (by first | rfl | omega) | refine xg_ne (by first | assumption | omega | (simp only [xput, xnew]; omega)) ?_ | refine xn_ne (by first | assumption | omega | (simp only [xput, xnew]; omega)) ?_ | exact rfl) (by rfl) ?_
      refine wp_isub d_MO_passClass_140 ?_
      refine wp_goto (tgt := 157) d_MO_passClass_141 (by decide) ?_
      refine wp_ireturn d_MO_passClass_157 rfl (by first | rfl | assumption) ?_
      exact ⟨rfl, rfl⟩
  have lp : ∀ (f k it : Nat), A.1.length ≤ k + f → 0 < f → k ≤ 31 → it ≤ k → wp E 2 m_MO_passClass 19 [(0, .ref (xb E + 21)), (1, .int (nI i)), (2, .int (nI k)), (3, .int (nI it))] [] h (fun r' h' => r' = some (.int (mI (mCl A.1 f k it))) ∧ h' = h) := by
    intro f
    induction f with
    | zero => intro k it _ h0; exact absurd h0 (by omega)
    | succ f ih =>
      intro k it hf _ hk hit
      rw [mCl]
      refine wp_iload_n d_MO_passClass_19 rfl rfl ?_
      refine wp_aload_n d_MO_passClass_20 rfl rfl ?_
      refine wp_get xf_MO_72 d_MO_passClass_21 (by repeat first | assumption | exact xg_eq | exact xn_eq (by first | rfl | omega) | refine xg_ne (by first | assumption | omega | (simp only [xput, xnew]; omega)) ?_ | refine xn_ne (by first | assumption | omega | (simp only [xput, xnew]; omega)) ?_ | exact rfl) (by rfl) ?_
      refine wp_icmp_ge (tgt := 127) d_MO_passClass_24 (by decide) (fun hc => ?_) (fun hc => ?_)
      · have hc := (nI_leI (by omega) (by omega)).mp hc
        rw [if_pos hc]
        have z := fin k it (by omega) (by omega) (Or.inl hc)
        rw [if_pos hc] at z
        exact z
      · have hc : ¬ A.1.length ≤ k := fun z => hc ((nI_leI (by omega) (by omega)).mpr z)
        rw [if_neg hc]
        refine wp_aload_n d_MO_passClass_27 rfl rfl ?_
        refine wp_iload_n d_MO_passClass_28 rfl rfl ?_
        refine wp_callV1 xc_MO_90 d_MO_passClass_29 (Nat.le_of_ble_eq_true rfl) (by repeat first | assumption | exact xg_eq | exact xn_eq (by first | rfl | omega) | refine xg_ne (by first | assumption | omega | (simp only [xput, xnew]; omega)) ?_ | refine xn_ne (by first | assumption | omega | (simp only [xput, xnew]; omega)) ?_ | exact rfl) (c_MO_at hE hm (i := k) (by omega)) (by omega) (fun r hh hp => ?_)
        obtain ⟨rfl, hz0⟩ := hp; have hz0 := hz0.symm; subst hz0
        refine wp_bipush (v := 93) d_MO_passClass_32 (by rfl) ?_
        refine wp_icmp_eq (tgt := 127) d_MO_passClass_34 (by decide) (fun hc2 => ?_) (fun hc2 => ?_)
        · rw [if_pos hc2]
          have z := fin k it (by omega) (by omega) (Or.inr hc2)
          rw [if_neg hc] at z
          exact z
        · rw [if_neg hc2]
          have hnx : ∀ j : Nat, k < j → j ≤ k + 3 → 0 < f ∨ A.1.length ≤ j := fun j _ _ => by omega
          have ih' : ∀ j : Nat, k < j → j ≤ k + 3 → j ≤ 31 → wp E 2 m_MO_passClass 19 [(0, .ref (xb E + 21)), (1, .int (nI i)), (2, .int (nI j)), (3, .int (nI (it + 1)))] [] h (fun r' h' => r' = some (.int (mI (mCl A.1 f j (it + 1)))) ∧ h' = h) := by
            intro j j1 j2 j3
            by_cases h0 : 0 < f
            · exact ih j (it + 1) (by omega) h0 j3 (by omega)
            · have h0 : f = 0 := by omega
              subst h0
              have hj : A.1.length ≤ j := by omega
              refine wp_iload_n d_MO_passClass_19 rfl rfl ?_
              refine wp_aload_n d_MO_passClass_20 rfl rfl ?_
              refine wp_get xf_MO_72 d_MO_passClass_21 (by repeat first | assumption | exact xg_eq | exact xn_eq (by first | rfl | omega) | refine xg_ne (by first | assumption | omega | (simp only [xput, xnew]; omega)) ?_ | refine xn_ne (by first | assumption | omega | (simp only [xput, xnew]; omega)) ?_ | exact rfl) (by rfl) ?_
              refine wp_icmp_ge (tgt := 127) d_MO_passClass_24 (by decide) (fun hc => ?_) (fun hc => ?_)
              · have z := fin j (it + 1) (by omega) (by omega) (Or.inl hj)
                rw [if_pos hj] at z
                exact z
              · exact absurd ((nI_leI (by omega) (by omega)).mpr hj) hc
          clear ih
          refine wp_aload_n d_MO_passClass_37 rfl rfl ?_
          refine wp_iload_n d_MO_passClass_38 rfl rfl ?_
          refine wp_callV1 xc_MO_90 d_MO_passClass_39 (Nat.le_of_ble_eq_true rfl) (by repeat first | assumption | exact xg_eq | exact xn_eq (by first | rfl | omega) | refine xg_ne (by first | assumption | omega | (simp only [xput, xnew]; omega)) ?_ | refine xn_ne (by first | assumption | omega | (simp only [xput, xnew]; omega)) ?_ | exact rfl) (c_MO_at hE hm (i := k) (by omega)) (by omega) (fun r hh hp => ?_)
          obtain ⟨rfl, hz0⟩ := hp; have hz0 := hz0.symm; subst hz0
          refine wp_callS1 xc_MO_93 d_MO_passClass_42 (Nat.le_of_ble_eq_true rfl) (c_MO_inClass _) (by omega) (fun r hh hp => ?_)
          obtain ⟨rfl, hz0⟩ := hp; have hz0 := hz0.symm; subst hz0
          refine wp_if_ne (tgt := 52) d_MO_passClass_45 (by decide) (fun hc3 => ?_) (fun hc3 => ?_)
          rotate_left
          · rw [bI_0] at hc3
            rw [if_pos hc3]
            refine wp_iconst (v := (-1)) d_MO_passClass_48 (by rfl) ?_
            refine wp_iload_n d_MO_passClass_49 rfl rfl ?_
            refine wp_isub d_MO_passClass_50 ?_
            refine wp_ireturn d_MO_passClass_51 rfl (by first | rfl | assumption) ?_
            exact ⟨rfl, rfl⟩
          rw [bI_0] at hc3
          rw [if_neg hc3]
          refine wp_iinc d_MO_passClass_52 rfl rfl (by decide) rfl ?_
          refine wp_aload_n d_MO_passClass_55 rfl rfl ?_
          refine wp_iload_n d_MO_passClass_56 rfl rfl ?_
          refine wp_iconst (v := 1) d_MO_passClass_57 (by rfl) ?_
          refine wp_iadd d_MO_passClass_58 ?_
          rw [e12, show nI it + Int32.ofInt 1 = nI (it + 1) from e12 it]
          refine wp_callV1 xc_MO_90 d_MO_passClass_59 (Nat.le_of_ble_eq_true rfl) (by repeat first | assumption | exact xg_eq | exact xn_eq (by first | rfl | omega) | refine xg_ne (by first | assumption | omega | (simp only [xput, xnew]; omega)) ?_ | refine xn_ne (by first | assumption | omega | (simp only [xput, xnew]; omega)) ?_ | exact rfl) (c_MO_at hE hm (i := k + 1) (by omega)) (by omega) (fun r hh hp => ?_)
          obtain ⟨rfl, hz0⟩ := hp; have hz0 := hz0.symm; subst hz0
          refine wp_bipush (v := 45) d_MO_passClass_62 (by rfl) ?_
          refine wp_icmp_ne (tgt := 121) d_MO_passClass_64 (by decide) (fun hc4 => ?_) (fun hc4 => ?_)
          · rw [if_neg hc4]
            refine wp_iinc d_MO_passClass_121 rfl rfl (by decide) rfl ?_
            refine wp_goto (tgt := 19) d_MO_passClass_124 (by decide) ?_
            rw [show nI k + Int32.ofInt 1 = nI (k + 1) from e12 k]
            exact ih' (k + 1) (by omega) (by omega) (by omega)
          · rw [if_pos hc4]
            refine wp_iload_n d_MO_passClass_67 rfl rfl ?_
            refine wp_iconst (v := 2) d_MO_passClass_68 (by rfl) ?_
            refine wp_iadd d_MO_passClass_69 ?_
            refine wp_aload_n d_MO_passClass_70 rfl rfl ?_
            refine wp_get xf_MO_72 d_MO_passClass_71 (by repeat first | assumption | exact xg_eq | exact xn_eq (by first | rfl | omega) | refine xg_ne (by first | assumption | omega | (simp only [xput, xnew]; omega)) ?_ | refine xn_ne (by first | assumption | omega | (simp only [xput, xnew]; omega)) ?_ | exact rfl) (by rfl) ?_
            rw [e22]
            refine wp_icmp_lt (tgt := 84) d_MO_passClass_74 (by decide) (fun hc5 => ?_) (fun hc5 => ?_)
            rotate_left
            · have hc5 : A.1.length ≤ k + 2 := Nat.not_lt.mp (fun z => hc5 ((nI_ltI (by omega) (by omega)).mpr z))
              rw [if_pos hc5]
              refine wp_iconst (v := (-1)) d_MO_passClass_77 (by rfl) ?_
              refine wp_aload_n d_MO_passClass_78 rfl rfl ?_
              refine wp_get xf_MO_72 d_MO_passClass_79 (by repeat first | assumption | exact xg_eq | exact xn_eq (by first | rfl | omega) | refine xg_ne (by first | assumption | omega | (simp only [xput, xnew]; omega)) ?_ | refine xn_ne (by first | assumption | omega | (simp only [xput, xnew]; omega)) ?_ | exact rfl) (by rfl) ?_
              refine wp_isub d_MO_passClass_82 ?_
              refine wp_ireturn d_MO_passClass_83 rfl (by first | rfl | assumption) ?_
              exact ⟨rfl, rfl⟩
            have hc5 : ¬ A.1.length ≤ k + 2 := Nat.not_le.mpr ((nI_ltI (by omega) (by omega)).mp hc5)
            rw [if_neg hc5]
            have bad : (inC (pat A.1 (k + 2)) = false ∨ pat A.1 (k + 2) < pat A.1 k) → wp E 2 m_MO_passClass 112 [(0, .ref (xb E + 21)), (1, .int (nI i)), (2, .int (nI k)), (3, .int (nI (it + 1)))] [] h (fun r' h' => r' = some (.int (mI (if inC (pat A.1 (k + 2)) = false ∨ pat A.1 (k + 2) < pat A.1 k then .inl (k + 2) else mCl A.1 f (k + 3) (it + 1)))) ∧ h' = h) := by
              intro hb
              rw [if_pos hb]
              refine wp_iconst (v := (-1)) d_MO_passClass_112 (by rfl) ?_
              refine wp_iload_n d_MO_passClass_113 rfl rfl ?_
              refine wp_iconst (v := 2) d_MO_passClass_114 (by rfl) ?_
              refine wp_iadd d_MO_passClass_115 ?_
              refine wp_isub d_MO_passClass_116 ?_
              rw [e22]
              refine wp_ireturn d_MO_passClass_117 rfl (by first | rfl | assumption) ?_
              exact ⟨rfl, rfl⟩
            refine wp_aload_n d_MO_passClass_84 rfl rfl ?_
            refine wp_iload_n d_MO_passClass_85 rfl rfl ?_
            refine wp_iconst (v := 2) d_MO_passClass_86 (by rfl) ?_
            refine wp_iadd d_MO_passClass_87 ?_
            rw [e22]
            refine wp_callV1 xc_MO_90 d_MO_passClass_88 (Nat.le_of_ble_eq_true rfl) (by repeat first | assumption | exact xg_eq | exact xn_eq (by first | rfl | omega) | refine xg_ne (by first | assumption | omega | (simp only [xput, xnew]; omega)) ?_ | refine xn_ne (by first | assumption | omega | (simp only [xput, xnew]; omega)) ?_ | exact rfl) (c_MO_at hE hm (i := k + 2) (by omega)) (by omega) (fun r hh hp => ?_)
            obtain ⟨rfl, hz0⟩ := hp; have hz0 := hz0.symm; subst hz0
            refine wp_callS1 xc_MO_93 d_MO_passClass_91 (Nat.le_of_ble_eq_true rfl) (c_MO_inClass _) (by omega) (fun r hh hp => ?_)
            obtain ⟨rfl, hz0⟩ := hp; have hz0 := hz0.symm; subst hz0
            refine wp_if_eq (tgt := 112) d_MO_passClass_94 (by decide) (fun hc6 => ?_) (fun hc6 => ?_)
            · rw [bI_0] at hc6
              exact bad (Or.inl hc6)
            · rw [bI_0] at hc6
              refine wp_aload_n d_MO_passClass_97 rfl rfl ?_
              refine wp_iload_n d_MO_passClass_98 rfl rfl ?_
              refine wp_iconst (v := 2) d_MO_passClass_99 (by rfl) ?_
              refine wp_iadd d_MO_passClass_100 ?_
              rw [e22]
              refine wp_callV1 xc_MO_90 d_MO_passClass_101 (Nat.le_of_ble_eq_true rfl) (by repeat first | assumption | exact xg_eq | exact xn_eq (by first | rfl | omega) | refine xg_ne (by first | assumption | omega | (simp only [xput, xnew]; omega)) ?_ | refine xn_ne (by first | assumption | omega | (simp only [xput, xnew]; omega)) ?_ | exact rfl) (c_MO_at hE hm (i := k + 2) (by omega)) (by omega) (fun r hh hp => ?_)
              obtain ⟨rfl, hz0⟩ := hp; have hz0 := hz0.symm; subst hz0
              refine wp_aload_n d_MO_passClass_104 rfl rfl ?_
              refine wp_iload_n d_MO_passClass_105 rfl rfl ?_
              refine wp_callV1 xc_MO_90 d_MO_passClass_106 (Nat.le_of_ble_eq_true rfl) (by repeat first | assumption | exact xg_eq | exact xn_eq (by first | rfl | omega) | refine xg_ne (by first | assumption | omega | (simp only [xput, xnew]; omega)) ?_ | refine xn_ne (by first | assumption | omega | (simp only [xput, xnew]; omega)) ?_ | exact rfl) (c_MO_at hE hm (i := k) (by omega)) (by omega) (fun r hh hp => ?_)
              obtain ⟨rfl, hz0⟩ := hp; have hz0 := hz0.symm; subst hz0
              refine wp_icmp_ge (tgt := 118) d_MO_passClass_109 (by decide) (fun hc7 => ?_) (fun hc7 => ?_)
              · rw [if_neg (fun z => z.elim hc6 (Int32.not_lt.mpr hc7))]
                refine wp_iinc d_MO_passClass_118 rfl rfl (by decide) rfl ?_
                refine wp_iinc d_MO_passClass_121 rfl rfl (by decide) rfl ?_
                refine wp_goto (tgt := 19) d_MO_passClass_124 (by decide) ?_
                rw [show nI k + Int32.ofInt 2 + Int32.ofInt 1 = nI (k + 3) from by rw [show nI k + Int32.ofInt 2 = nI (k + 2) from e22 k]; exact e12 (k + 2)]
                exact ih' (k + 3) (by omega) (by omega) (by omega)
              · exact bad (Or.inr (Int32.not_le.mp hc7))
  refine wpc_of rfl (Nat.le_of_ble_eq_true rfl) ?_
  refine wp_iload_n d_MO_passClass_0 rfl rfl ?_
  refine wp_iconst (v := 1) d_MO_passClass_1 (by rfl) ?_
  refine wp_iadd d_MO_passClass_2 ?_
  refine wp_istore_n d_MO_passClass_3 rfl (by decide) rfl ?_
  refine wp_aload_n d_MO_passClass_4 rfl rfl ?_
  refine wp_iload_n d_MO_passClass_5 rfl rfl ?_
  rw [e12]
  refine wp_callV1 xc_MO_90 d_MO_passClass_6 (Nat.le_of_ble_eq_true rfl) (by repeat first | assumption | exact xg_eq | exact xn_eq (by first | rfl | omega) | refine xg_ne (by first | assumption | omega | (simp only [xput, xnew]; omega)) ?_ | refine xn_ne (by first | assumption | omega | (simp only [xput, xnew]; omega)) ?_ | exact rfl) (c_MO_at hE hm (i := i + 1) (by omega)) (by omega) (fun r hh hp => ?_)
  obtain ⟨rfl, hz0⟩ := hp; have hz0 := hz0.symm; subst hz0
  refine wp_bipush (v := 94) d_MO_passClass_9 (by rfl) ?_
  rw [mPC]
  refine wp_icmp_ne (tgt := 17) d_MO_passClass_11 (by decide) (fun hc => ?_) (fun hc => ?_)
  · rw [if_neg hc]
    refine wp_iconst (v := 0) d_MO_passClass_17 (by rfl) ?_
    refine wp_istore_n d_MO_passClass_18 rfl (by decide) rfl ?_
    exact lp 28 (i + 1) 0 (by omega) (by omega) (by omega) (by omega)
  · rw [if_pos hc]
    refine wp_iinc d_MO_passClass_14 rfl rfl (by decide) rfl ?_
    refine wp_iconst (v := 0) d_MO_passClass_17 (by rfl) ?_
    refine wp_istore_n d_MO_passClass_18 rfl (by decide) rfl ?_
    rw [show nI (i + 1) + Int32.ofInt 1 = nI (i + 2) from e12 (i + 1)]
    exact lp 28 (i + 2) 0 (by omega) (by omega) (by omega) (by omega)
end M2
