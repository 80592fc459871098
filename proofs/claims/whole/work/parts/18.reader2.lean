section RF
variable {E : xE} {h : xH} {kA kV : Nat → Nat} {ra sa sr n : Nat} {xs : List Int32} {s : RS}
theorem c_RE_beginsAtom (hE : xOK E) (hX : xStr E kA kV) (hr : Rd E h ra sa sr n xs s) (hg : s.2.1 ≤ 1000) (c : Int32) : wpc E 5 m_RE_beginsAtom [.ref ra, .int c] h (fun r' h' => r' = some (.int (bI (rBg s.2.1 c))) ∧ h' = h) := by
  obtain ⟨h1, h2, h3, h4, h5⟩ := id hr
  have yes : rBg s.2.1 c = true → wp E 5 m_RE_beginsAtom 52 [(0, .ref ra), (1, .int c)] [] h (fun r' h' => r' = some (.int (bI (rBg s.2.1 c))) ∧ h' = h) := by
    intro hb
    refine wp_iconst (v := 1) d_RE_beginsAtom_52 (by rfl) ?_
    refine wp_goto (tgt := 57) d_RE_beginsAtom_53 (by decide) ?_
    refine wp_ireturn d_RE_beginsAtom_57 rfl (by first | rfl | assumption) ?_
    rw [hb]
    exact ⟨rfl, rfl⟩
  refine wpc_of rfl (Nat.le_of_ble_eq_true rfl) ?_
  refine wp_iload_n d_RE_beginsAtom_0 rfl rfl ?_
  refine wp_bipush (v := 40) d_RE_beginsAtom_1 (by rfl) ?_
  refine wp_icmp_ne (tgt := 21) d_RE_beginsAtom_3 (by decide) (fun hc => ?_) (fun hc => ?_)
  · refine wp_iload_n d_RE_beginsAtom_21 rfl rfl ?_
    refine wp_bipush (v := 91) d_RE_beginsAtom_22 (by rfl) ?_
    refine wp_icmp_eq (tgt := 52) d_RE_beginsAtom_24 (by decide) (fun c1 => ?_) (fun c1 => ?_)
    · exact yes (by rw [rBg, if_neg hc, decide_eq_true c1]; rfl)
    · refine wp_iload_n d_RE_beginsAtom_27 rfl rfl ?_
      refine wp_bipush (v := 46) d_RE_beginsAtom_28 (by rfl) ?_
      refine wp_icmp_eq (tgt := 52) d_RE_beginsAtom_30 (by decide) (fun c2 => ?_) (fun c2 => ?_)
      · exact yes (by rw [rBg, if_neg hc, decide_eq_true c2]; simp)
      · refine wp_iload_n d_RE_beginsAtom_33 rfl rfl ?_
        refine wp_bipush (v := 94) d_RE_beginsAtom_34 (by rfl) ?_
        refine wp_icmp_eq (tgt := 52) d_RE_beginsAtom_36 (by decide) (fun c3 => ?_) (fun c3 => ?_)
        · exact yes (by rw [rBg, if_neg hc, decide_eq_true c3]; simp)
        · refine wp_iload_n d_RE_beginsAtom_39 rfl rfl ?_
          refine wp_bipush (v := 36) d_RE_beginsAtom_40 (by rfl) ?_
          refine wp_icmp_eq (tgt := 52) d_RE_beginsAtom_42 (by decide) (fun c4 => ?_) (fun c4 => ?_)
          · exact yes (by rw [rBg, if_neg hc, decide_eq_true c4]; simp)
          · refine wp_iload_n d_RE_beginsAtom_45 rfl rfl ?_
            refine wp_callS1 xc_RE_149 d_RE_beginsAtom_46 (Nat.le_of_ble_eq_true rfl) (c_RE_isPlain hX c) (by omega) (fun r hh hp => ?_)
            obtain ⟨rfl, hz0⟩ := hp; have hz0 := hz0.symm; subst hz0
            have e : rBg s.2.1 c = plainB c := by rw [rBg, if_neg hc, decide_eq_false c1, decide_eq_false c2, decide_eq_false c3, decide_eq_false c4]; simp
            refine wp_if_eq (tgt := 56) d_RE_beginsAtom_49 (by decide) (fun c5 => ?_) (fun c5 => ?_)
            · rw [bI_0] at c5
              refine wp_iconst (v := 0) d_RE_beginsAtom_56 (by rfl) ?_
              refine wp_ireturn d_RE_beginsAtom_57 rfl (by first | rfl | assumption) ?_
              rw [e, c5]
              exact ⟨rfl, rfl⟩
            · rw [bI_0] at c5
              exact yes (by rw [e]; exact b_t c5)
  · refine wp_aload_n d_RE_beginsAtom_6 rfl rfl ?_
    refine wp_get xf_RE_32 d_RE_beginsAtom_7 (by repeat first | assumption | exact xg_eq | exact xn_eq (by first | rfl | omega) | refine xg_ne (by first | assumption | omega | (simp only [xput, xnew]; omega)) ?_ | refine xn_ne (by first | assumption | omega | (simp only [xput, xnew]; omega)) ?_ | exact rfl) (by rfl) ?_
    refine wp_bipush (v := 6) d_RE_beginsAtom_10 (by rfl) ?_
    refine wp_icmp_ge (tgt := 19) d_RE_beginsAtom_12 (by decide) (fun c1 => ?_) (fun c1 => ?_)
    · have c2 : ¬ s.2.1 < 6 := Nat.not_lt.mpr ((nI_leI (a := 6) (by decide) (by omega)).mp c1)
      refine wp_iconst (v := 0) d_RE_beginsAtom_19 (by rfl) ?_
      refine wp_ireturn d_RE_beginsAtom_20 rfl (by first | rfl | assumption) ?_
      rw [rBg, if_pos hc, decide_eq_false c2]
      exact ⟨rfl, rfl⟩
    · have c2 : s.2.1 < 6 := Nat.not_le.mp (fun q => c1 ((nI_leI (a := 6) (by decide) (by omega)).mpr q))
      refine wp_iconst (v := 1) d_RE_beginsAtom_15 (by rfl) ?_
      refine wp_goto (tgt := 20) d_RE_beginsAtom_16 (by decide) ?_
      refine wp_ireturn d_RE_beginsAtom_20 rfl (by first | rfl | assumption) ?_
      rw [rBg, if_pos hc, decide_eq_true c2]
      exact ⟨rfl, rfl⟩
theorem c_RE_readRepetition (hE : xOK E) (hr : Rd E h ra sa sr n xs s) {a : Nat} {v w : Value} {sp : Int32} (h1 : h.2.2 a = some (ob 4 [v, w, .int 1, .int 1, .int 0, .int sp])) (ha1 : a ≠ ra) (ha2 : a ≠ sa) (ha3 : a ≠ sr) :
    wpc E 5 m_RE_readRepetition [.ref ra, .ref a] h (fun r' h' => r' = some (.int (bI (rRp xs s).1)) ∧ xfr [ra, a] h h' ∧ Rd E h' ra sa sr n xs (rRp xs s).2.2 ∧ h'.2.2 a = some (ob 4 [v, w, .int (nI (rRp xs s).2.1.1), .int (nI (rRp xs s).2.1.2.1), .int (bI (rRp xs s).2.1.2.2), .int sp]) ∧ (rRp xs s).2.1.1 ≤ (rRp xs s).2.1.2.1) := by
  obtain ⟨k1, k2, k3, k4, k5⟩ := id hr
  refine wpc_of rfl (Nat.le_of_ble_eq_true rfl) ?_
  refine wp_aload_n d_RE_readRepetition_0 rfl rfl ?_
  refine wp_bipush (v := 42) d_RE_readRepetition_1 (by rfl) ?_
  refine wp_callV1 xc_RE_46 d_RE_readRepetition_3 (Nat.le_of_ble_eq_true rfl) (by repeat first | assumption | exact xg_eq | exact xn_eq (by first | rfl | omega) | refine xg_ne (by first | assumption | omega | (simp only [xput, xnew]; omega)) ?_ | refine xn_ne (by first | assumption | omega | (simp only [xput, xnew]; omega)) ?_ | exact rfl) (c_RE_take hE hr (by decide)) (by omega) (fun r hh hp => ?_)
  obtain ⟨rfl, f1, r1⟩ := hp
  have o1 := f1.at (by simp [ha1]) h1
  by_cases q1 : rPk xs s = 42
  · rw [rTk, if_pos q1] at r1 ⊢
    refine wp_if_eq (tgt := 17) d_RE_readRepetition_6 (by decide) (fun hc => ?_) (fun hc => ?_)
    · exact absurd hc (show ¬ (1 : Int32) = 0 by decide)
    · refine wp_aload_n d_RE_readRepetition_9 rfl rfl ?_
      refine wp_iconst (v := 0) d_RE_readRepetition_10 (by rfl) ?_
      refine wp_callV1 xc_RE_86 d_RE_readRepetition_11 (Nat.le_of_ble_eq_true rfl) (by repeat first | assumption | exact xg_eq | exact xn_eq (by first | rfl | omega) | refine xg_ne (by first | assumption | omega | (simp only [xput, xnew]; omega)) ?_ | refine xn_ne (by first | assumption | omega | (simp only [xput, xnew]; omega)) ?_ | exact rfl) (c_PI_repeatUnbounded _ o1) (by omega) (fun r hh hp => ?_)
      obtain ⟨rfl, rfl⟩ := hp
      refine wp_goto (tgt := 71) d_RE_readRepetition_14 (by decide) ?_
      refine wp_iconst (v := 1) d_RE_readRepetition_71 (by rfl) ?_
      refine wp_ireturn d_RE_readRepetition_72 rfl (by first | rfl | assumption) ?_
      rw [rRp, if_pos q1]
      exact ⟨rfl, (f1.sub (by simp)).put (by simp), ⟨xg_ne ha1.symm r1.1, r1.2.1.mv (xg_ne ha2.symm rfl) (xg_ne ha3.symm rfl), r1.2.2⟩, xg_eq, Nat.le_of_ble_eq_true rfl⟩
  rw [rTk, if_neg q1] at r1 ⊢
  obtain ⟨m1, m2, m3, m4, m5⟩ := id r1
  refine wp_if_eq (tgt := 17) d_RE_readRepetition_6 (by decide) (fun hc => ?_) (fun hc => ?_)
  rotate_left
  · exact absurd rfl hc
  refine wp_aload_n d_RE_readRepetition_17 rfl rfl ?_
  refine wp_bipush (v := 43) d_RE_readRepetition_18 (by rfl) ?_
  refine wp_callV1 xc_RE_46 d_RE_readRepetition_20 (Nat.le_of_ble_eq_true rfl) (by repeat first | assumption | exact xg_eq | exact xn_eq (by first | rfl | omega) | refine xg_ne (by first | assumption | omega | (simp only [xput, xnew]; omega)) ?_ | refine xn_ne (by first | assumption | omega | (simp only [xput, xnew]; omega)) ?_ | exact rfl) (c_RE_take hE r1 (by decide)) (by omega) (fun r hh hp => ?_)
  obtain ⟨rfl, f2, r2⟩ := hp
  have o2 := f2.at (by simp [ha1]) o1
  by_cases q2 : rPk xs s = 43
  · rw [rTk, if_pos q2] at r2 ⊢
    refine wp_if_eq (tgt := 34) d_RE_readRepetition_23 (by decide) (fun hc2 => ?_) (fun hc2 => ?_)
    · exact absurd hc2 (show ¬ (1 : Int32) = 0 by decide)
    · refine wp_aload_n d_RE_readRepetition_26 rfl rfl ?_
      refine wp_iconst (v := 1) d_RE_readRepetition_27 (by rfl) ?_
      refine wp_callV1 xc_RE_86 d_RE_readRepetition_28 (Nat.le_of_ble_eq_true rfl) (by repeat first | assumption | exact xg_eq | exact xn_eq (by first | rfl | omega) | refine xg_ne (by first | assumption | omega | (simp only [xput, xnew]; omega)) ?_ | refine xn_ne (by first | assumption | omega | (simp only [xput, xnew]; omega)) ?_ | exact rfl) (c_PI_repeatUnbounded _ o2) (by omega) (fun r hh hp => ?_)
      obtain ⟨rfl, rfl⟩ := hp
      refine wp_goto (tgt := 71) d_RE_readRepetition_31 (by decide) ?_
      refine wp_iconst (v := 1) d_RE_readRepetition_71 (by rfl) ?_
      refine wp_ireturn d_RE_readRepetition_72 rfl (by first | rfl | assumption) ?_
      rw [rRp, if_neg q1, if_pos q2]
      exact ⟨rfl, ((f1.tr f2).sub (by simp)).put (by simp), ⟨xg_ne ha1.symm r2.1, r2.2.1.mv (xg_ne ha2.symm rfl) (xg_ne ha3.symm rfl), r2.2.2⟩, xg_eq, Nat.le_of_ble_eq_true rfl⟩
  rw [rTk, if_neg q2] at r2 ⊢
  obtain ⟨n1, n2, n3, n4, n5⟩ := id r2
  refine wp_if_eq (tgt := 34) d_RE_readRepetition_23 (by decide) (fun hc2 => ?_) (fun hc2 => ?_)
  rotate_left
  · exact absurd rfl hc2
  refine wp_aload_n d_RE_readRepetition_34 rfl rfl ?_
  refine wp_bipush (v := 63) d_RE_readRepetition_35 (by rfl) ?_
  refine wp_callV1 xc_RE_46 d_RE_readRepetition_37 (Nat.le_of_ble_eq_true rfl) (by repeat first | assumption | exact xg_eq | exact xn_eq (by first | rfl | omega) | refine xg_ne (by first | assumption | omega | (simp only [xput, xnew]; omega)) ?_ | refine xn_ne (by first | assumption | omega | (simp only [xput, xnew]; omega)) ?_ | exact rfl) (c_RE_take hE r2 (by decide)) (by omega) (fun r hh hp => ?_)
  obtain ⟨rfl, f3, r3⟩ := hp
  have o3 := f3.at (by simp [ha1]) o2
  by_cases q3 : rPk xs s = 63
  · rw [rTk, if_pos q3] at r3 ⊢
    refine wp_if_eq (tgt := 52) d_RE_readRepetition_40 (by decide) (fun hc3 => ?_) (fun hc3 => ?_)
    · exact absurd hc3 (show ¬ (1 : Int32) = 0 by decide)
    · refine wp_aload_n d_RE_readRepetition_43 rfl rfl ?_
      refine wp_iconst (v := 0) d_RE_readRepetition_44 (by rfl) ?_
      refine wp_iconst (v := 1) d_RE_readRepetition_45 (by rfl) ?_
      refine wp_callV2 xc_RE_90 d_RE_readRepetition_46 (Nat.le_of_ble_eq_true rfl) (by repeat first | assumption | exact xg_eq | exact xn_eq (by first | rfl | omega) | refine xg_ne (by first | assumption | omega | (simp only [xput, xnew]; omega)) ?_ | refine xn_ne (by first | assumption | omega | (simp only [xput, xnew]; omega)) ?_ | exact rfl) (c_PI_repeat _ _ o3) (by omega) (fun r hh hp => ?_)
      obtain ⟨rfl, rfl⟩ := hp
      refine wp_goto (tgt := 71) d_RE_readRepetition_49 (by decide) ?_
      refine wp_iconst (v := 1) d_RE_readRepetition_71 (by rfl) ?_
      refine wp_ireturn d_RE_readRepetition_72 rfl (by first | rfl | assumption) ?_
      rw [rRp, if_neg q1, if_neg q2, if_pos q3]
      exact ⟨rfl, (((f1.tr f2).tr f3).sub (by simp)).put (by simp), ⟨xg_ne ha1.symm r3.1, r3.2.1.mv (xg_ne ha2.symm rfl) (xg_ne ha3.symm rfl), r3.2.2⟩, xg_eq, Nat.le_of_ble_eq_true rfl⟩
  rw [rTk, if_neg q3] at r3 ⊢
  obtain ⟨p1, p2, p3, p4, p5⟩ := id r3
  refine wp_if_eq (tgt := 52) d_RE_readRepetition_40 (by decide) (fun hc3 => ?_) (fun hc3 => ?_)
  rotate_left
  · exact absurd rfl hc3
  refine wp_aload_n d_RE_readRepetition_52 rfl rfl ?_
  refine wp_bipush (v := 123) d_RE_readRepetition_53 (by rfl) ?_
  refine wp_callV1 xc_RE_46 d_RE_readRepetition_55 (Nat.le_of_ble_eq_true rfl) (by repeat first | assumption | exact xg_eq | exact xn_eq (by first | rfl | omega) | refine xg_ne (by first | assumption | omega | (simp only [xput, xnew]; omega)) ?_ | refine xn_ne (by first | assumption | omega | (simp only [xput, xnew]; omega)) ?_ | exact rfl) (c_RE_take hE r3 (by decide)) (by omega) (fun r hh hp => ?_)
  obtain ⟨rfl, f4, r4⟩ := hp
  have o4 := f4.at (by simp [ha1]) o3
  by_cases q4 : rPk xs s = 123
  · rw [rTk, if_pos q4] at r4 ⊢
    obtain ⟨t1, t2, t3, t4, t5⟩ := id r4
    refine wp_if_eq (tgt := 69) d_RE_readRepetition_58 (by decide) (fun hc4 => ?_) (fun hc4 => ?_)
    · exact absurd hc4 (show ¬ (1 : Int32) = 0 by decide)
    · refine wp_aload_n d_RE_readRepetition_61 rfl rfl ?_
      refine wp_aload_n d_RE_readRepetition_62 rfl rfl ?_
      refine wp_callV1 xc_RE_94 d_RE_readRepetition_63 (Nat.le_of_ble_eq_true rfl) (by repeat first | assumption | exact xg_eq | exact xn_eq (by first | rfl | omega) | refine xg_ne (by first | assumption | omega | (simp only [xput, xnew]; omega)) ?_ | refine xn_ne (by first | assumption | omega | (simp only [xput, xnew]; omega)) ?_ | exact rfl) (c_RE_readBraces hE r4 o4 ha1 ha2 ha3) (by omega) (fun r hh hp => ?_)
      obtain ⟨rfl, f5, r5, o5, b5⟩ := hp
      refine wp_goto (tgt := 71) d_RE_readRepetition_66 (by decide) ?_
      refine wp_iconst (v := 1) d_RE_readRepetition_71 (by rfl) ?_
      refine wp_ireturn d_RE_readRepetition_72 rfl (by first | rfl | assumption) ?_
      rw [rRp, if_neg q1, if_neg q2, if_neg q3, if_pos q4]
      exact ⟨rfl, ((((f1.tr f2).tr f3).tr f4).sub (by simp)).tr f5, r5, o5, b5⟩
  rw [rTk, if_neg q4] at r4 ⊢
  refine wp_if_eq (tgt := 69) d_RE_readRepetition_58 (by decide) (fun hc4 => ?_) (fun hc4 => ?_)
  rotate_left
  · exact absurd rfl hc4
  refine wp_iconst (v := 0) d_RE_readRepetition_69 (by rfl) ?_
  refine wp_ireturn d_RE_readRepetition_70 rfl (by first | rfl | assumption) ?_
  rw [rRp, if_neg q1, if_neg q2, if_neg q3, if_neg q4]
  exact ⟨rfl, (((f1.tr f2).tr f3).tr f4).sub (by simp), r4, o4, Nat.le_of_ble_eq_true rfl⟩
theorem c_RE_signAtom (hE : xOK E) {i j : Nat} (hi : i ≤ 1000) (hj : j ≤ 1000) : wpc E 2 m_RE_signAtom [.int (nI i), .int (nI j)] h (fun r' h' => r' = some (.ref (xb E + h.1)) ∧ xgr E [] 1 5 h h' ∧ h'.2.2 (xb E + h.1) = some (ob 0 [.int 1, .long (tkS (j + 1 - i) i (0, 0)).1, .long (tkS (j + 1 - i) i (0, 0)).2, .int 0, .null])) := by
  refine wpc_of rfl (Nat.le_of_ble_eq_true rfl) ?_
  refine wp_new xw_RE_116 d_RE_signAtom_0 ?_
  refine wp_dup d_RE_signAtom_3 rfl ?_
  refine wp_iconst (v := 1) d_RE_signAtom_4 (by rfl) ?_
  refine wp_callI1 xc_RE_120 d_RE_signAtom_5 (Nat.le_of_ble_eq_true rfl) (c_AT_init _ (by repeat first | assumption | exact xg_eq | exact xn_eq (by first | rfl | omega) | refine xg_ne (by first | assumption | omega | (simp only [xput, xnew]; omega)) ?_ | refine xn_ne (by first | assumption | omega | (simp only [xput, xnew]; omega)) ?_ | exact rfl)) (by omega) (fun r hh hp => ?_)
  obtain ⟨rfl, rfl⟩ := hp
  refine wp_astore_n d_RE_signAtom_8 rfl (by decide) rfl ?_
  refine wp_aload_n d_RE_signAtom_9 rfl rfl ?_
  refine wp_iload_n d_RE_signAtom_10 rfl rfl ?_
  refine wp_iload_n d_RE_signAtom_11 rfl rfl ?_
  refine wp_callV2 xc_RE_126 d_RE_signAtom_12 (Nat.le_of_ble_eq_true rfl) (by repeat first | assumption | exact xg_eq | exact xn_eq (by first | rfl | omega) | refine xg_ne (by first | assumption | omega | (simp only [xput, xnew]; omega)) ?_ | refine xn_ne (by first | assumption | omega | (simp only [xput, xnew]; omega)) ?_ | exact rfl) (c_AT_takeSigns (i := i) (j := j) hi hj 0 0 (by repeat first | assumption | exact xg_eq | exact xn_eq (by first | rfl | omega) | refine xg_ne (by first | assumption | omega | (simp only [xput, xnew]; omega)) ?_ | refine xn_ne (by first | assumption | omega | (simp only [xput, xnew]; omega)) ?_ | exact rfl)) (by omega) (fun r hh hp => ?_)
  obtain ⟨rfl, rfl⟩ := hp
  refine wp_aload_n d_RE_signAtom_15 rfl rfl ?_
  refine wp_areturn d_RE_signAtom_16 rfl (Or.inl ⟨_, rfl⟩) (Or.inr ⟨_, rfl⟩) ?_
  refine ⟨rfl, ⟨rfl, rfl, fun q q1 _ => (by repeat first | assumption | exact xg_eq | exact xn_eq (by first | rfl | omega) | refine xg_ne (by first | assumption | omega | (simp only [xput, xnew]; omega)) ?_ | refine xn_ne (by first | assumption | omega | (simp only [xput, xnew]; omega)) ?_ | exact rfl)⟩, (by repeat first | assumption | exact xg_eq | exact xn_eq (by first | rfl | omega) | refine xg_ne (by first | assumption | omega | (simp only [xput, xnew]; omega)) ?_ | refine xn_ne (by first | assumption | omega | (simp only [xput, xnew]; omega)) ?_ | exact rfl)⟩
theorem c_RE_readClass (hE : xOK E) (hX : xStr E kA kV) (hr : Rd E h ra sa sr n xs s) (hl1 : ra < xb E + h.1) (hl2 : sa < xb E + h.1) (hl3 : sr < xb E + h.1) :
    wpc E 7 m_RE_readClass [.ref ra] h (fun r' h' => r' = some (.ref (xb E + h.1)) ∧ xgr E [ra] 1 5 h h' ∧ Rd E h' ra sa sr n xs (rCl xs s).2 ∧ h'.2.2 (xb E + h.1) = some (ob 0 [.int 1, .long (rCl xs s).1.1, .long (rCl xs s).1.2, .int 0, .null])) := by
  obtain ⟨k1, k2, k3, k4, k5⟩ := id hr
  have a1 : xb E + h.1 ≠ ra := by omega
  have a2 : xb E + h.1 ≠ sa := by omega
  have a3 : xb E + h.1 ≠ sr := by omega
  generalize ha : xb E + h.1 = a at *
  have fin : ∀ (h2 : xH) (o : Bool) (q : (Int64 × Int64) × RS) (i : Int32), xgr E [ra] 1 5 h h2 → Rd E h2 ra sa sr n xs q.2 → h2.2.2 a = some (ob 0 [.int 1, .long q.1.1, .long q.1.2, .int 0, .null]) → (if o then (q.1.1 ^^^ (-1), q.1.2 ^^^ (-1)) else q.1, rEx xs 93 q.2) = rCl xs s →
      wp E 7 m_RE_readClass 50 [(0, .ref ra), (1, .ref a), (2, .int (bI o)), (3, .int i)] [] h2 (fun r' h' => r' = some (.ref a) ∧ xgr E [ra] 1 5 h h' ∧ Rd E h' ra sa sr n xs (rCl xs s).2 ∧ h'.2.2 a = some (ob 0 [.int 1, .long (rCl xs s).1.1, .long (rCl xs s).1.2, .int 0, .null])) := by
    intro h2 o q i g2 r2 o2 hq
    obtain ⟨m1, m2, m3, m4, m5⟩ := id r2
    refine wp_aload_n d_RE_readClass_50 rfl rfl ?_
    refine wp_bipush (v := 93) d_RE_readClass_51 (by rfl) ?_
    refine wp_callV1 xc_RE_107 d_RE_readClass_53 (Nat.le_of_ble_eq_true rfl) (by repeat first | assumption | exact xg_eq | exact xn_eq (by first | rfl | omega) | refine xg_ne (by first | assumption | omega | (simp only [xput, xnew]; omega)) ?_ | refine xn_ne (by first | assumption | omega | (simp only [xput, xnew]; omega)) ?_ | exact rfl) (c_RE_expect hE r2 (by decide)) (by omega) (fun r hh hp => ?_)
    obtain ⟨rfl, f3, r3⟩ := hp
    have o3 := f3.at (by simp [a1]) o2
    have g3 : xgr E [ra] 1 5 h hh := ⟨f3.1.trans g2.1, f3.2.1.trans g2.2.1, fun q q1 q2 => (f3.2.2 q q2).trans (g2.2.2 q q1 q2)⟩
    refine wp_iload_n d_RE_readClass_56 rfl rfl ?_
    refine wp_if_eq (tgt := 64) d_RE_readClass_57 (by decide) (fun hc => ?_) (fun hc => ?_)
    · rw [bI_0] at hc
      refine wp_aload_n d_RE_readClass_64 rfl rfl ?_
      refine wp_areturn d_RE_readClass_65 rfl (Or.inl ⟨_, rfl⟩) (Or.inr ⟨_, rfl⟩) ?_
      rw [hc] at hq
      rw [← hq]
      exact ⟨rfl, g3, r3, o3⟩
    · rw [bI_0] at hc
      refine wp_aload_n d_RE_readClass_60 rfl rfl ?_
      refine wp_callV0 xc_RE_143 d_RE_readClass_61 (Nat.le_of_ble_eq_true rfl) (by repeat first | assumption | exact xg_eq | exact xn_eq (by first | rfl | omega) | refine xg_ne (by first | assumption | omega | (simp only [xput, xnew]; omega)) ?_ | refine xn_ne (by first | assumption | omega | (simp only [xput, xnew]; omega)) ?_ | exact rfl) (c_AT_takeOthers o3) (by omega) (fun r hh hp => ?_)
      obtain ⟨rfl, rfl⟩ := hp
      refine wp_aload_n d_RE_readClass_64 rfl rfl ?_
      refine wp_areturn d_RE_readClass_65 rfl (Or.inl ⟨_, rfl⟩) (Or.inr ⟨_, rfl⟩) ?_
      rw [b_t hc] at hq
      rw [← hq]
      exact ⟨rfl, ⟨g3.1, g3.2.1, fun q q1 q2 => xg_ne (by omega) (g3.2.2 q q1 q2)⟩, ⟨xg_ne a1.symm r3.1, r3.2.1.mv (xg_ne a2.symm rfl) (xg_ne a3.symm rfl), r3.2.2⟩, xg_eq⟩
  have lp : ∀ (k : Nat) (h2 : xH) (o : Bool) (q : (Int64 × Int64) × RS), k ≤ 27 → xgr E [ra] 1 5 h h2 → Rd E h2 ra sa sr n xs q.2 → h2.2.2 a = some (ob 0 [.int 1, .long q.1.1, .long q.1.2, .int 0, .null]) → (if o then ((rIts xs k q).1.1 ^^^ (-1), (rIts xs k q).1.2 ^^^ (-1)) else (rIts xs k q).1, rEx xs 93 (rIts xs k q).2) = rCl xs s →
      wp E 7 m_RE_readClass 23 [(0, .ref ra), (1, .ref a), (2, .int (bI o)), (3, .int (nI (28 - k)))] [] h2 (fun r' h' => r' = some (.ref a) ∧ xgr E [ra] 1 5 h h' ∧ Rd E h' ra sa sr n xs (rCl xs s).2 ∧ h'.2.2 a = some (ob 0 [.int 1, .long (rCl xs s).1.1, .long (rCl xs s).1.2, .int 0, .null])) := by
    intro k
    induction k with
    | zero =>
      intro h2 o q hk g2 r2 o2 hq
      refine wp_iload_n d_RE_readClass_23 rfl rfl ?_
      refine wp_bipush (v := 28) d_RE_readClass_24 (by rfl) ?_
      refine wp_icmp_ge (tgt := 50) d_RE_readClass_26 (by decide) (fun hc => ?_) (fun hc => ?_)
      · exact fin h2 o q _ g2 r2 o2 hq
      · exact absurd (show (28 : Int32) ≤ nI (28 - 0) by decide) hc
    | succ k ih =>
      intro h2 o q hk g2 r2 o2 hq
      obtain ⟨m1, m2, m3, m4, m5⟩ := id r2
      refine wp_iload_n d_RE_readClass_23 rfl rfl ?_
      refine wp_bipush (v := 28) d_RE_readClass_24 (by rfl) ?_
      refine wp_icmp_ge (tgt := 50) d_RE_readClass_26 (by decide) (fun hc => ?_) (fun hc => ?_)
      · exact absurd ((nI_leI (a := 28) (by decide) (by omega)).mp hc) (by omega)
      · refine wp_aload_n d_RE_readClass_29 rfl rfl ?_
        refine wp_callV0 xc_RE_53 d_RE_readClass_30 (Nat.le_of_ble_eq_true rfl) (by repeat first | assumption | exact xg_eq | exact xn_eq (by first | rfl | omega) | refine xg_ne (by first | assumption | omega | (simp only [xput, xnew]; omega)) ?_ | refine xn_ne (by first | assumption | omega | (simp only [xput, xnew]; omega)) ?_ | exact rfl) (c_RE_peek hE r2) (by omega) (fun r hh hp => ?_)
        obtain ⟨rfl, hz0⟩ := hp; have hz0 := hz0.symm; subst hz0
        refine wp_callS1 xc_RE_140 d_RE_readClass_33 (Nat.le_of_ble_eq_true rfl) (c_RE_isItemSign hX _) (by omega) (fun r hh hp => ?_)
        obtain ⟨rfl, hz0⟩ := hp; have hz0 := hz0.symm; subst hz0
        refine wp_if_eq (tgt := 50) d_RE_readClass_36 (by decide) (fun hc2 => ?_) (fun hc2 => ?_)
        · rw [bI_0] at hc2
          rw [rIts, hc2] at hq
          exact fin h2 o q _ g2 r2 o2 hq
        · rw [bI_0] at hc2
          rw [rIts, b_t hc2] at hq
          refine wp_aload_n d_RE_readClass_39 rfl rfl ?_
          refine wp_aload_n d_RE_readClass_40 rfl rfl ?_
          refine wp_callV1 xc_RE_137 d_RE_readClass_41 (Nat.le_of_ble_eq_true rfl) (by repeat first | assumption | exact xg_eq | exact xn_eq (by first | rfl | omega) | refine xg_ne (by first | assumption | omega | (simp only [xput, xnew]; omega)) ?_ | refine xn_ne (by first | assumption | omega | (simp only [xput, xnew]; omega)) ?_ | exact rfl) (c_RE_readItem hE hX r2 _ _ o2 a1 a2 a3) (by omega) (fun r hh hp => ?_)
          obtain ⟨rfl, f3, r3, o3⟩ := hp
          refine wp_iinc d_RE_readClass_44 rfl rfl (by decide) rfl ?_
          refine wp_goto (tgt := 23) d_RE_readClass_47 (by decide) ?_
          rw [show nI (28 - (k + 1)) + Int32.ofInt 1 = nI (28 - k) from by rw [show 28 - k = (28 - (k + 1)) + 1 by omega, nI_succ]; rfl]
          exact ih hh o (rIt xs q.1 q.2) (by omega) ⟨f3.1.trans g2.1, f3.2.1.trans g2.2.1, fun q q1 q2 => (f3.2.2 q (by simp only [List.mem_cons, List.not_mem_nil, or_false, not_or]; exact ⟨fun e => q2 (by simp [e]), by omega⟩)).trans (g2.2.2 q q1 q2)⟩ r3 o3 hq
  subst ha
  refine wpc_of rfl (Nat.le_of_ble_eq_true rfl) ?_
  refine wp_new xw_RE_116 d_RE_readClass_0 ?_
  refine wp_dup d_RE_readClass_3 rfl ?_
  refine wp_iconst (v := 1) d_RE_readClass_4 (by rfl) ?_
  refine wp_callI1 xc_RE_120 d_RE_readClass_5 (Nat.le_of_ble_eq_true rfl) (c_AT_init _ (by repeat first | assumption | exact xg_eq | exact xn_eq (by first | rfl | omega) | refine xg_ne (by first | assumption | omega | (simp only [xput, xnew]; omega)) ?_ | refine xn_ne (by first | assumption | omega | (simp only [xput, xnew]; omega)) ?_ | exact rfl)) (by omega) (fun r hh hp => ?_)
  obtain ⟨rfl, rfl⟩ := hp
  generalize hh2 : xput (xnew E h 5 (ob 0 [.int 0, .long 0, .long 0, .int 0, .null])) (xb E + h.1) (ob 0 [.int 1, .long 0, .long 0, .int 0, .null]) = h2
  have o2 : h2.2.2 (xb E + h.1) = some (ob 0 [.int 1, .long 0, .long 0, .int 0, .null]) := by rw [← hh2]; exact (by repeat first | assumption | exact xg_eq | exact xn_eq (by first | rfl | omega) | refine xg_ne (by first | assumption | omega | (simp only [xput, xnew]; omega)) ?_ | refine xn_ne (by first | assumption | omega | (simp only [xput, xnew]; omega)) ?_ | exact rfl)
  have g2 : xgr E [ra] 1 5 h h2 := by rw [← hh2]; exact ⟨rfl, rfl, fun q q1 _ => (by repeat first | assumption | exact xg_eq | exact xn_eq (by first | rfl | omega) | refine xg_ne (by first | assumption | omega | (simp only [xput, xnew]; omega)) ?_ | refine xn_ne (by first | assumption | omega | (simp only [xput, xnew]; omega)) ?_ | exact rfl)⟩
  have r2 : Rd E h2 ra sa sr n xs s := ⟨(by rw [← hh2]; exact (by repeat first | assumption | exact xg_eq | exact xn_eq (by first | rfl | omega) | refine xg_ne (by first | assumption | omega | (simp only [xput, xnew]; omega)) ?_ | refine xn_ne (by first | assumption | omega | (simp only [xput, xnew]; omega)) ?_ | exact rfl)), k2.mv (by rw [← hh2]; exact (by repeat first | assumption | exact xg_eq | exact xn_eq (by first | rfl | omega) | refine xg_ne (by first | assumption | omega | (simp only [xput, xnew]; omega)) ?_ | refine xn_ne (by first | assumption | omega | (simp only [xput, xnew]; omega)) ?_ | exact rfl)) (by rw [← hh2]; exact (by repeat first | assumption | exact xg_eq | exact xn_eq (by first | rfl | omega) | refine xg_ne (by first | assumption | omega | (simp only [xput, xnew]; omega)) ?_ | refine xn_ne (by first | assumption | omega | (simp only [xput, xnew]; omega)) ?_ | exact rfl)), k3, k4, k5⟩
  have w1 := r2.1
  refine wp_astore_n d_RE_readClass_8 rfl (by decide) rfl ?_
  refine wp_aload_n d_RE_readClass_9 rfl rfl ?_
  refine wp_bipush (v := 94) d_RE_readClass_10 (by rfl) ?_
  refine wp_callV1 xc_RE_46 d_RE_readClass_12 (Nat.le_of_ble_eq_true rfl) (by repeat first | assumption | exact xg_eq | exact xn_eq (by first | rfl | omega) | refine xg_ne (by first | assumption | omega | (simp only [xput, xnew]; omega)) ?_ | refine xn_ne (by first | assumption | omega | (simp only [xput, xnew]; omega)) ?_ | exact rfl) (c_RE_take hE r2 (by decide)) (by omega) (fun r hh hp => ?_)
  obtain ⟨rfl, f3, r3⟩ := hp
  have o3 := f3.at (by simp [a1]) o2
  obtain ⟨m1, m2, m3, m4, m5⟩ := id r3
  refine wp_istore_n d_RE_readClass_15 rfl (by decide) rfl ?_
  refine wp_aload_n d_RE_readClass_16 rfl rfl ?_
  refine wp_aload_n d_RE_readClass_17 rfl rfl ?_
  refine wp_callV1 xc_RE_137 d_RE_readClass_18 (Nat.le_of_ble_eq_true rfl) (by repeat first | assumption | exact xg_eq | exact xn_eq (by first | rfl | omega) | refine xg_ne (by first | assumption | omega | (simp only [xput, xnew]; omega)) ?_ | refine xn_ne (by first | assumption | omega | (simp only [xput, xnew]; omega)) ?_ | exact rfl) (c_RE_readItem hE hX r3 _ _ o3 a1 a2 a3) (by omega) (fun r hh hp => ?_)
  obtain ⟨rfl, f4, r4, o4⟩ := hp
  refine wp_iconst (v := 1) d_RE_readClass_21 (by rfl) ?_
  refine wp_istore_n d_RE_readClass_22 rfl (by decide) rfl ?_
  exact lp 27 hh (rTk xs 94 s).1 (rIt xs (0, 0) (rTk xs 94 s).2) (by decide) ⟨f4.1.trans (f3.1.trans g2.1), f4.2.1.trans (f3.2.1.trans g2.2.1), fun q q1 q2 => (f4.2.2 q (by simp only [List.mem_cons, List.not_mem_nil, or_false, not_or]; exact ⟨fun e => q2 (by simp [e]), by omega⟩)).trans ((f3.2.2 q q2).trans (g2.2.2 q q1 q2))⟩ r4 o4 rfl
end RF
