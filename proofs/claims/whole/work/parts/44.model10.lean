def ofC (P : List Int32) (sg : Int32) : Nat → Nat → Bool → Bool
  | 0, _, b => b
  | f + 1, k, b => if pat P k = 93 then b else if pat P (k + 1) = 45 then ofC P sg f (k + 3) (b || (decide (pat P k ≤ sg) && decide (sg ≤ pat P (k + 2)))) else ofC P sg f (k + 1) (b || (decide (pat P k ≤ sg) && decide (sg ≤ pat P k)))
def tkC (P : List Int32) (i : Nat) (sg : Int32) : Bool := xor (ofC P sg 28 (if pat P (i + 1) = 94 then i + 2 else i + 1) false) (decide (pat P (i + 1) = 94))
def tkI (P : List Int32) (x : Ins) (sg : Int32) : Bool := if x.1 = 0 then decide (x.2.1 = sg) else decide (x.1 = 1) || (decide (x.1 = 2) && tkC P x.2.1.toNatClampNeg sg)
section M10
variable {E : xE} {h : xH} {A : MA3} {B : MB} {C : MC} {D : MD}
theorem c_MO_ofClass (hE : xOK E) (hm : Mo E h A B C D) {i n : Nat} (hi : i ≤ 28) (sg : Int32) (hn : mPC A.1 i = .inr n) : wpc E 1 m_MO_ofClass [.ref (xb E + 21), .int (nI i), .int sg] h (fun r' h' => r' = some (.int (bI (tkC A.1 i sg))) ∧ h' = h) := by
  have hl := hm.len
  have ho := hm.obj
  have e1 : ∀ k : Nat, nI k + 1 = nI (k + 1) := fun k => (nI_succ k).symm
  have e2 : ∀ k : Nat, nI k + 2 = nI (k + 2) := fun k => nI_add k 2
  have e3 : ∀ k : Nat, nI k + 3 = nI (k + 3) := fun k => nI_add k 3
  have lp : ∀ (f k it : Nat) (b nt : Bool), mCl A.1 f k it = .inr n → wp E 1 m_MO_ofClass 32 [(0, .ref (xb E + 21)), (1, .int (nI i)), (2, .int sg), (3, .int (nI k)), (4, .int (bI nt)), (5, .int (bI b))] [] h (fun r' h' => r' = some (.int (bI (xor (ofC A.1 sg f k b) nt))) ∧ h' = h) := by
    intro f
    induction f with
    | zero => intro k it b nt hk; rw [mCl] at hk; cases hk
    | succ f ih =>
      intro k it b nt hk
      have hkl : k < A.1.length := by
        rw [mCl] at hk
        split at hk
        · cases hk
        · omega
      rw [mCl, if_neg (by omega)] at hk
      rw [ofC]
      refine wp_aload_n d_MO_ofClass_32 rfl rfl ?_
      refine wp_iload_n d_MO_ofClass_33 rfl rfl ?_
      refine wp_callV1 xc_MO_90 d_MO_ofClass_34 (Nat.le_of_ble_eq_true rfl) (by repeat first | exact xg_eq | exact xn_eq (by first | rfl | omega) | refine xg_ne (by first | omega | assumption | (simp only [xput, xnew]; omega)) ?_ | refine xn_ne (by first | omega | assumption | (simp only [xput, xnew]; omega)) ?_ | assumption | exact rfl) (c_MO_at hE hm (i := k) (by omega)) (by omega) (fun r hh hp => ?_)
      obtain ⟨rfl, hz0⟩ := hp; have hz0 := hz0.symm; subst hz0
      refine wp_bipush (v := 93) d_MO_ofClass_37 (by rfl) ?_
      refine wp_icmp_eq (tgt := 117) d_MO_ofClass_39 (by decide) (fun hc1 => ?_) (fun hc1 => ?_)
      · rw [if_pos hc1]
        refine wp_iload d_MO_ofClass_117 rfl ?_
        refine wp_iload d_MO_ofClass_119 rfl ?_
        have hb : (bI b = bI nt) ↔ (b = nt) := by cases b <;> cases nt <;> decide
        refine wp_icmp_eq (tgt := 128) d_MO_ofClass_121 (by decide) (fun hc2 => ?_) (fun hc2 => ?_)
        · have hc2 := hb.mp hc2
          subst hc2
          refine wp_iconst (v := 0) d_MO_ofClass_128 (by rfl) ?_
          refine wp_ireturn d_MO_ofClass_129 rfl (by first | rfl | assumption) ?_
          rw [Bool.xor_self]
          exact ⟨rfl, rfl⟩
        · have hc2 : ¬ b = nt := fun z => hc2 (hb.mpr z)
          refine wp_iconst (v := 1) d_MO_ofClass_124 (by rfl) ?_
          refine wp_goto (tgt := 129) d_MO_ofClass_125 (by decide) ?_
          refine wp_ireturn d_MO_ofClass_129 rfl (by first | rfl | assumption) ?_
          rw [show xor b nt = true from by cases b <;> cases nt <;> simp_all]
          exact ⟨rfl, rfl⟩
      rw [if_neg hc1] at hk ⊢
      split at hk
      · cases hk
      have mid : ∀ (r : Bool) (hi : Int32) (k' : Nat), mCl A.1 f k' (it + 1) = .inr n → k' = (if r then k + 3 else k + 1) → wp E 1 m_MO_ofClass 83 [(0, .ref (xb E + 21)), (1, .int (nI i)), (2, .int sg), (3, .int (nI k)), (4, .int (bI nt)), (5, .int (bI b)), (6, .int (bI r)), (7, .int hi)] [] h (fun r' h' => r' = some (.int (bI (xor (ofC A.1 sg f k' (b || (decide (pat A.1 k ≤ sg) && decide (sg ≤ hi)))) nt))) ∧ h' = h) := by
        intro r hi k' hk' hr
        have last : ∀ b' : Bool, wp E 1 m_MO_ofClass 101 [(0, .ref (xb E + 21)), (1, .int (nI i)), (2, .int sg), (3, .int (nI k)), (4, .int (bI nt)), (5, .int (bI b')), (6, .int (bI r)), (7, .int hi)] [] h (fun r' h' => r' = some (.int (bI (xor (ofC A.1 sg f k' b') nt))) ∧ h' = h) := by
          intro b'
          have ih' := ih k' (it + 1) b' nt hk'
          cases r with
          | true =>
            refine wp_iload_n d_MO_ofClass_101 rfl rfl ?_
            refine wp_iload d_MO_ofClass_102 rfl ?_
            refine wp_if_eq (tgt := 111) d_MO_ofClass_104 (by decide) (fun hc5 => ?_) (fun hc5 => ?_)
            · exact absurd hc5 (by decide)
            refine wp_iconst (v := 3) d_MO_ofClass_107 (by rfl) ?_
            refine wp_goto (tgt := 112) d_MO_ofClass_108 (by decide) ?_
            refine wp_iadd d_MO_ofClass_112 ?_
            refine wp_istore_n d_MO_ofClass_113 rfl (by decide) rfl ?_
            refine wp_goto (tgt := 32) d_MO_ofClass_114 (by decide) ?_
            rw [e3]
            rw [if_pos rfl] at hr
            subst hr
            exact wp_lo (fun z hz => List.mem_append_left ([(6, .int (bI true)), (7, .int hi)] : List (Nat × Value)) hz) ih'
          | false =>
            refine wp_iload_n d_MO_ofClass_101 rfl rfl ?_
            refine wp_iload d_MO_ofClass_102 rfl ?_
            refine wp_if_eq (tgt := 111) d_MO_ofClass_104 (by decide) (fun hc5 => ?_) (fun hc5 => ?_)
            rotate_left
            · exact absurd rfl hc5
            refine wp_iconst (v := 1) d_MO_ofClass_111 (by rfl) ?_
            refine wp_iadd d_MO_ofClass_112 ?_
            refine wp_istore_n d_MO_ofClass_113 rfl (by decide) rfl ?_
            refine wp_goto (tgt := 32) d_MO_ofClass_114 (by decide) ?_
            rw [e1]
            rw [if_neg (by decide)] at hr
            subst hr
            exact wp_lo (fun z hz => List.mem_append_left ([(6, .int (bI false)), (7, .int hi)] : List (Nat × Value)) hz) ih'
        refine wp_iload_n d_MO_ofClass_83 rfl rfl ?_
        refine wp_aload_n d_MO_ofClass_84 rfl rfl ?_
        refine wp_iload_n d_MO_ofClass_85 rfl rfl ?_
        refine wp_callV1 xc_MO_90 d_MO_ofClass_86 (Nat.le_of_ble_eq_true rfl) (by repeat first | exact xg_eq | exact xn_eq (by first | rfl | omega) | refine xg_ne (by first | omega | assumption | (simp only [xput, xnew]; omega)) ?_ | refine xn_ne (by first | omega | assumption | (simp only [xput, xnew]; omega)) ?_ | assumption | exact rfl) (c_MO_at hE hm (i := k) (by omega)) (by omega) (fun r hh hp => ?_)
        obtain ⟨rfl, hz0⟩ := hp; have hz0 := hz0.symm; subst hz0
        refine wp_icmp_lt (tgt := 101) d_MO_ofClass_89 (by decide) (fun hc5 => ?_) (fun hc5 => ?_)
        · rw [decide_eq_false (Int32.not_le.mpr hc5), Bool.false_and, Bool.or_false]
          exact last b
        · rw [decide_eq_true (Int32.not_lt.mp hc5), Bool.true_and]
          refine wp_iload_n d_MO_ofClass_92 rfl rfl ?_
          refine wp_iload d_MO_ofClass_93 rfl ?_
          refine wp_icmp_gt (tgt := 101) d_MO_ofClass_95 (by decide) (fun hc6 => ?_) (fun hc6 => ?_)
          · rw [decide_eq_false (Int32.not_le.mpr hc6), Bool.or_false]
            exact last b
          · rw [decide_eq_true (Int32.not_lt.mp hc6), Bool.or_true]
            refine wp_iconst (v := 1) d_MO_ofClass_98 (by rfl) ?_
            refine wp_istore d_MO_ofClass_99 (by decide) rfl ?_
            exact last true
      clear ih
      refine wp_aload_n d_MO_ofClass_42 rfl rfl ?_
      refine wp_iload_n d_MO_ofClass_43 rfl rfl ?_
      refine wp_iconst (v := 1) d_MO_ofClass_44 (by rfl) ?_
      refine wp_iadd d_MO_ofClass_45 ?_
      rw [e1]
      refine wp_callV1 xc_MO_90 d_MO_ofClass_46 (Nat.le_of_ble_eq_true rfl) (by repeat first | exact xg_eq | exact xn_eq (by first | rfl | omega) | refine xg_ne (by first | omega | assumption | (simp only [xput, xnew]; omega)) ?_ | refine xn_ne (by first | omega | assumption | (simp only [xput, xnew]; omega)) ?_ | assumption | exact rfl) (c_MO_at hE hm (i := k + 1) (by omega)) (by omega) (fun r hh hp => ?_)
      obtain ⟨rfl, hz0⟩ := hp; have hz0 := hz0.symm; subst hz0
      refine wp_bipush (v := 45) d_MO_ofClass_49 (by rfl) ?_
      refine wp_icmp_ne (tgt := 58) d_MO_ofClass_51 (by decide) (fun hc3 => ?_) (fun hc3 => ?_)
      · rw [if_neg hc3] at hk ⊢
        refine wp_iconst (v := 0) d_MO_ofClass_58 (by rfl) ?_
        refine wp_istore d_MO_ofClass_59 (by decide) rfl ?_
        refine wp_iload d_MO_ofClass_61 rfl ?_
        refine wp_if_eq (tgt := 76) d_MO_ofClass_63 (by decide) (fun hc4 => ?_) (fun hc4 => ?_)
        rotate_left
        · exact absurd rfl hc4
        refine wp_aload_n d_MO_ofClass_76 rfl rfl ?_
        refine wp_iload_n d_MO_ofClass_77 rfl rfl ?_
        refine wp_callV1 xc_MO_90 d_MO_ofClass_78 (Nat.le_of_ble_eq_true rfl) (by repeat first | exact xg_eq | exact xn_eq (by first | rfl | omega) | refine xg_ne (by first | omega | assumption | (simp only [xput, xnew]; omega)) ?_ | refine xn_ne (by first | omega | assumption | (simp only [xput, xnew]; omega)) ?_ | assumption | exact rfl) (c_MO_at hE hm (i := k) (by omega)) (by omega) (fun r hh hp => ?_)
        obtain ⟨rfl, hz0⟩ := hp; have hz0 := hz0.symm; subst hz0
        refine wp_istore d_MO_ofClass_81 (by decide) rfl ?_
        exact mid false _ (k + 1) hk rfl
      · rw [if_pos hc3] at hk ⊢
        split at hk
        · cases hk
        split at hk
        · cases hk
        refine wp_iconst (v := 1) d_MO_ofClass_54 (by rfl) ?_
        refine wp_goto (tgt := 59) d_MO_ofClass_55 (by decide) ?_
        refine wp_istore d_MO_ofClass_59 (by decide) rfl ?_
        refine wp_iload d_MO_ofClass_61 rfl ?_
        refine wp_if_eq (tgt := 76) d_MO_ofClass_63 (by decide) (fun hc4 => ?_) (fun hc4 => ?_)
        · exact absurd hc4 (by decide)
        refine wp_aload_n d_MO_ofClass_66 rfl rfl ?_
        refine wp_iload_n d_MO_ofClass_67 rfl rfl ?_
        refine wp_iconst (v := 2) d_MO_ofClass_68 (by rfl) ?_
        refine wp_iadd d_MO_ofClass_69 ?_
        rw [e2]
        refine wp_callV1 xc_MO_90 d_MO_ofClass_70 (Nat.le_of_ble_eq_true rfl) (by repeat first | exact xg_eq | exact xn_eq (by first | rfl | omega) | refine xg_ne (by first | omega | assumption | (simp only [xput, xnew]; omega)) ?_ | refine xn_ne (by first | omega | assumption | (simp only [xput, xnew]; omega)) ?_ | assumption | exact rfl) (c_MO_at hE hm (i := k + 2) (by omega)) (by omega) (fun r hh hp => ?_)
        obtain ⟨rfl, hz0⟩ := hp; have hz0 := hz0.symm; subst hz0
        refine wp_goto (tgt := 81) d_MO_ofClass_73 (by decide) ?_
        refine wp_istore d_MO_ofClass_81 (by decide) rfl ?_
        exact mid true _ (k + 3) hk rfl
  rw [mPC] at hn
  refine wpc_of rfl (Nat.le_of_ble_eq_true rfl) ?_
  refine wp_iload_n d_MO_ofClass_0 rfl rfl ?_
  refine wp_iconst (v := 1) d_MO_ofClass_1 (by rfl) ?_
  refine wp_iadd d_MO_ofClass_2 ?_
  refine wp_istore_n d_MO_ofClass_3 rfl (by decide) rfl ?_
  refine wp_aload_n d_MO_ofClass_4 rfl rfl ?_
  refine wp_iload_n d_MO_ofClass_5 rfl rfl ?_
  rw [e1]
  refine wp_callV1 xc_MO_90 d_MO_ofClass_6 (Nat.le_of_ble_eq_true rfl) (by repeat first | exact xg_eq | exact xn_eq (by first | rfl | omega) | refine xg_ne (by first | omega | assumption | (simp only [xput, xnew]; omega)) ?_ | refine xn_ne (by first | omega | assumption | (simp only [xput, xnew]; omega)) ?_ | assumption | exact rfl) (c_MO_at hE hm (i := i + 1) (by omega)) (by omega) (fun r hh hp => ?_)
  obtain ⟨rfl, hz0⟩ := hp; have hz0 := hz0.symm; subst hz0
  refine wp_bipush (v := 94) d_MO_ofClass_9 (by rfl) ?_
  rw [tkC]
  by_cases hc1 : pat A.1 (i + 1) = 94
  · rw [if_pos hc1] at hn ⊢
    rw [decide_eq_true hc1]
    refine wp_icmp_ne (tgt := 18) d_MO_ofClass_11 (by decide) (fun hc => ?_) (fun hc => ?_)
    · exact absurd hc1 hc
    refine wp_iconst (v := 1) d_MO_ofClass_14 (by rfl) ?_
    refine wp_goto (tgt := 19) d_MO_ofClass_15 (by decide) ?_
    refine wp_istore d_MO_ofClass_19 (by decide) rfl ?_
    refine wp_iload d_MO_ofClass_21 rfl ?_
    refine wp_if_eq (tgt := 29) d_MO_ofClass_23 (by decide) (fun hc4 => ?_) (fun hc4 => ?_)
    · exact absurd hc4 (by decide)
    refine wp_iinc d_MO_ofClass_26 rfl rfl (by decide) rfl ?_
    refine wp_iconst (v := 0) d_MO_ofClass_29 (by rfl) ?_
    refine wp_istore d_MO_ofClass_30 (by decide) rfl ?_
    rw [show nI (i + 1) + Int32.ofInt 1 = nI (i + 2) from e1 (i + 1)]
    exact lp 28 (i + 2) 0 false true hn
  · rw [if_neg hc1] at hn ⊢
    rw [decide_eq_false hc1]
    refine wp_icmp_ne (tgt := 18) d_MO_ofClass_11 (by decide) (fun hc => ?_) (fun hc => ?_)
    rotate_left
    · exact absurd hc hc1
    refine wp_iconst (v := 0) d_MO_ofClass_18 (by rfl) ?_
    refine wp_istore d_MO_ofClass_19 (by decide) rfl ?_
    refine wp_iload d_MO_ofClass_21 rfl ?_
    refine wp_if_eq (tgt := 29) d_MO_ofClass_23 (by decide) (fun hc4 => ?_) (fun hc4 => ?_)
    rotate_left
    · exact absurd rfl hc4
    refine wp_iconst (v := 0) d_MO_ofClass_29 (by rfl) ?_
    refine wp_istore d_MO_ofClass_30 (by decide) rfl ?_
    exact lp 28 (i + 1) 0 false false hn
def clOK (P : List Int32) (x : Ins) : Prop := x.1 = 2 → ∃ i n : Nat, x.2.1 = nI i ∧ i ≤ 28 ∧ mPC P i = .inr n
theorem c_MO_takes (hE : xOK E) {w : WS} (hm : MoW E h A B w D) {p : Nat} (hp0 : p < w.1.length) (sg : Int32) (hx : clOK A.1 (cIn w.1 p)) : wpc E 2 m_MO_takes [.ref (xb E + 21), .int (nI p), .int sg] h (fun r' h' => r' = some (.int (bI (tkI A.1 (cIn w.1 p) sg))) ∧ h' = h) := by
  obtain ⟨s, o, t, hc, hl0, hm1⟩ := hm
  have hel := hc p hp0
  have h1 : s p = (cIn w.1 p).1 := by rw [← hel]
  have h2 : o p = (cIn w.1 p).2.1 := by rw [← hel]
  obtain ⟨fp, ft, fo, qq, o21, a22, a23, a24, a25, a26, a27, a28, a29, a30, a31, a32, a33, a34, a35, a36, a37, a38, a39, a40⟩ := id hm1
  refine wpc_of rfl (Nat.le_of_ble_eq_true rfl) ?_
  refine wp_aload_n d_MO_takes_0 rfl rfl ?_
  refine wp_get xf_MO_35 d_MO_takes_1 (by repeat first | exact xg_eq | exact xn_eq (by first | rfl | omega) | refine xg_ne (by first | omega | assumption | (simp only [xput, xnew]; omega)) ?_ | refine xn_ne (by first | omega | assumption | (simp only [xput, xnew]; omega)) ?_ | assumption | exact rfl) (by rfl) ?_
  refine wp_iload_n d_MO_takes_4 rfl rfl ?_
  refine wp_iald d_MO_takes_5 (by repeat first | exact xg_eq | exact xn_eq (by first | rfl | omega) | refine xg_ne (by first | omega | assumption | (simp only [xput, xnew]; omega)) ?_ | refine xn_ne (by first | omega | assumption | (simp only [xput, xnew]; omega)) ?_ | assumption | exact rfl) hE.i (vp_in_nI (by omega) (by omega)) ?_
  rw [nI_clamp (by omega)]
  rw [show (s, o, t, w.1.length, w.2).1 p = (cIn w.1 p).1 from h1, tkI]
  refine wp_if_ne (tgt := 25) d_MO_takes_6 (by decide) (fun hc1 => ?_) (fun hc1 => ?_)
  rotate_left
  · rw [if_pos hc1]
    refine wp_aload_n d_MO_takes_9 rfl rfl ?_
    refine wp_get xf_MO_38 d_MO_takes_10 (by repeat first | exact xg_eq | exact xn_eq (by first | rfl | omega) | refine xg_ne (by first | omega | assumption | (simp only [xput, xnew]; omega)) ?_ | refine xn_ne (by first | omega | assumption | (simp only [xput, xnew]; omega)) ?_ | assumption | exact rfl) (by rfl) ?_
    refine wp_iload_n d_MO_takes_13 rfl rfl ?_
    refine wp_iald d_MO_takes_14 (by repeat first | exact xg_eq | exact xn_eq (by first | rfl | omega) | refine xg_ne (by first | omega | assumption | (simp only [xput, xnew]; omega)) ?_ | refine xn_ne (by first | omega | assumption | (simp only [xput, xnew]; omega)) ?_ | assumption | exact rfl) hE.i (vp_in_nI (by omega) (by omega)) ?_
    rw [nI_clamp (by omega)]
    rw [show (s, o, t, w.1.length, w.2).2.1 p = (cIn w.1 p).2.1 from h2]
    refine wp_iload_n d_MO_takes_15 rfl rfl ?_
    refine wp_icmp_ne (tgt := 23) d_MO_takes_16 (by decide) (fun hc2 => ?_) (fun hc2 => ?_)
    · rw [decide_eq_false hc2]
      refine wp_iconst (v := 0) d_MO_takes_23 (by rfl) ?_
      refine wp_ireturn d_MO_takes_24 rfl (by first | rfl | assumption) ?_
      exact ⟨rfl, rfl⟩
    · rw [decide_eq_true hc2]
      refine wp_iconst (v := 1) d_MO_takes_19 (by rfl) ?_
      refine wp_goto (tgt := 24) d_MO_takes_20 (by decide) ?_
      refine wp_ireturn d_MO_takes_24 rfl (by first | rfl | assumption) ?_
      exact ⟨rfl, rfl⟩
  rw [if_neg hc1]
  refine wp_aload_n d_MO_takes_25 rfl rfl ?_
  refine wp_get xf_MO_35 d_MO_takes_26 (by repeat first | exact xg_eq | exact xn_eq (by first | rfl | omega) | refine xg_ne (by first | omega | assumption | (simp only [xput, xnew]; omega)) ?_ | refine xn_ne (by first | omega | assumption | (simp only [xput, xnew]; omega)) ?_ | assumption | exact rfl) (by rfl) ?_
  refine wp_iload_n d_MO_takes_29 rfl rfl ?_
  refine wp_iald d_MO_takes_30 (by repeat first | exact xg_eq | exact xn_eq (by first | rfl | omega) | refine xg_ne (by first | omega | assumption | (simp only [xput, xnew]; omega)) ?_ | refine xn_ne (by first | omega | assumption | (simp only [xput, xnew]; omega)) ?_ | assumption | exact rfl) hE.i (vp_in_nI (by omega) (by omega)) ?_
  rw [nI_clamp (by omega)]
  rw [show (s, o, t, w.1.length, w.2).1 p = (cIn w.1 p).1 from h1]
  refine wp_iconst (v := 1) d_MO_takes_31 (by rfl) ?_
  refine wp_icmp_eq (tgt := 59) d_MO_takes_32 (by decide) (fun hc2 => ?_) (fun hc2 => ?_)
  · rw [decide_eq_true hc2]
    refine wp_iconst (v := 1) d_MO_takes_59 (by rfl) ?_
    refine wp_goto (tgt := 64) d_MO_takes_60 (by decide) ?_
    refine wp_ireturn d_MO_takes_64 rfl (by first | rfl | assumption) ?_
    exact ⟨rfl, rfl⟩
  rw [decide_eq_false hc2, Bool.false_or]
  refine wp_aload_n d_MO_takes_35 rfl rfl ?_
  refine wp_get xf_MO_35 d_MO_takes_36 (by repeat first | exact xg_eq | exact xn_eq (by first | rfl | omega) | refine xg_ne (by first | omega | assumption | (simp only [xput, xnew]; omega)) ?_ | refine xn_ne (by first | omega | assumption | (simp only [xput, xnew]; omega)) ?_ | assumption | exact rfl) (by rfl) ?_
  refine wp_iload_n d_MO_takes_39 rfl rfl ?_
  refine wp_iald d_MO_takes_40 (by repeat first | exact xg_eq | exact xn_eq (by first | rfl | omega) | refine xg_ne (by first | omega | assumption | (simp only [xput, xnew]; omega)) ?_ | refine xn_ne (by first | omega | assumption | (simp only [xput, xnew]; omega)) ?_ | assumption | exact rfl) hE.i (vp_in_nI (by omega) (by omega)) ?_
  rw [nI_clamp (by omega)]
  rw [show (s, o, t, w.1.length, w.2).1 p = (cIn w.1 p).1 from h1]
  refine wp_iconst (v := 2) d_MO_takes_41 (by rfl) ?_
  refine wp_icmp_ne (tgt := 63) d_MO_takes_42 (by decide) (fun hc3 => ?_) (fun hc3 => ?_)
  · rw [decide_eq_false hc3]
    refine wp_iconst (v := 0) d_MO_takes_63 (by rfl) ?_
    refine wp_ireturn d_MO_takes_64 rfl (by first | rfl | assumption) ?_
    exact ⟨rfl, rfl⟩
  rw [decide_eq_true hc3, Bool.true_and]
  obtain ⟨i, n, k1, k2, k3⟩ := hx hc3
  rw [k1, nI_clamp (by omega)]
  refine wp_aload_n d_MO_takes_45 rfl rfl ?_
  refine wp_aload_n d_MO_takes_46 rfl rfl ?_
  refine wp_get xf_MO_38 d_MO_takes_47 (by repeat first | exact xg_eq | exact xn_eq (by first | rfl | omega) | refine xg_ne (by first | omega | assumption | (simp only [xput, xnew]; omega)) ?_ | refine xn_ne (by first | omega | assumption | (simp only [xput, xnew]; omega)) ?_ | assumption | exact rfl) (by rfl) ?_
  refine wp_iload_n d_MO_takes_50 rfl rfl ?_
  refine wp_iald d_MO_takes_51 (by repeat first | exact xg_eq | exact xn_eq (by first | rfl | omega) | refine xg_ne (by first | omega | assumption | (simp only [xput, xnew]; omega)) ?_ | refine xn_ne (by first | omega | assumption | (simp only [xput, xnew]; omega)) ?_ | assumption | exact rfl) hE.i (vp_in_nI (by omega) (by omega)) ?_
  rw [nI_clamp (by omega)]
  rw [show (s, o, t, w.1.length, w.2).2.1 p = nI i from h2.trans k1]
  refine wp_iload_n d_MO_takes_52 rfl rfl ?_
  refine wp_callV2 xc_MO_160 d_MO_takes_53 (Nat.le_of_ble_eq_true rfl) (by repeat first | exact xg_eq | exact xn_eq (by first | rfl | omega) | refine xg_ne (by first | omega | assumption | (simp only [xput, xnew]; omega)) ?_ | refine xn_ne (by first | omega | assumption | (simp only [xput, xnew]; omega)) ?_ | assumption | exact rfl) (c_MO_ofClass hE hm1 k2 sg k3) (by omega) (fun r hh hp => ?_)
  obtain ⟨rfl, hz0⟩ := hp; have hz0 := hz0.symm; subst hz0
  refine wp_if_eq (tgt := 63) d_MO_takes_56 (by decide) (fun hc4 => ?_) (fun hc4 => ?_)
  · rw [bI_0.mp hc4]
    refine wp_iconst (v := 0) d_MO_takes_63 (by rfl) ?_
    refine wp_ireturn d_MO_takes_64 rfl (by first | rfl | assumption) ?_
    exact ⟨rfl, rfl⟩
  · rw [b_t (fun z => hc4 (bI_0.mpr z))]
    refine wp_iconst (v := 1) d_MO_takes_59 (by rfl) ?_
    refine wp_goto (tgt := 64) d_MO_takes_60 (by decide) ?_
    refine wp_ireturn d_MO_takes_64 rfl (by first | rfl | assumption) ?_
    exact ⟨rfl, rfl⟩
end M10
