def bI (b : Bool) : Int32 := if b then 1 else 0
theorem b_t {b : Bool} (h : ¬ b = false) : b = true := by cases b <;> simp_all
theorem bI_z (b : Bool) : narrow .boolean (.int (bI b)) = .int (bI b) := by cases b <;> rfl
theorem bI_f (b : Bool) : fits .boolean (.int (bI b)) = true := by cases b <;> rfl
theorem bI_0 {b : Bool} : bI b = 0 ↔ b = false := by cases b <;> decide
theorem bI_1 {b : Bool} : bI b = 1 ↔ b = true := by cases b <;> decide
theorem wp_ldc2 {E : xE} {d : Nat} {M : xM} {pc idx : Nat} {lo : List (Nat × Value)} {st : List Value} {h : xH} {P : Option Value → xH → Prop} {v : Int64} (hw : Cond.constantLong M.1.cls idx v ∈ xGT) (hd : decode M.2.1 pc = .ok (.ldc2_w idx, 3)) (k : wp E d M (pc + 3) lo (.long v :: st) h P) : wp E d M pc lo st h P :=
  wp_go (fun p l e R s m args below meth c Q cells slots H locs ls C _ _ _ hl kk => W.ldc2 C.1 C.2.1 C.2.2.2.2.1 (x_hts C.2.2.2.2.2.2.1 _ hw) rfl hd (kk ls hl)) k
theorem kl_AT_20 : Cond.constantLong "PatternSearch$Atom" 20 (-1) ∈ xGT := x_in (i := 473) (by decide +kernel) rfl
section TR
variable {E : xE} {h : xH} {a r : Nat}
theorem c_AT_init (k : Int32) (h1 : h.2.2 a = some (ob 0 [.int 0, .long 0, .long 0, .int 0, .null])) : wpc E 1 m_AT_init [.ref a, .int k] h (fun r' h' => r' = none ∧ h' = xput h a (ob 0 [.int k, .long 0, .long 0, .int 0, .null])) := by
  refine wpc_of rfl (Nat.le_of_ble_eq_true rfl) ?_
  refine wp_aload_n d_AT_init_0 rfl rfl ?_
  refine wp_objInit xo_AT_1 d_AT_init_1 (Nat.le_of_ble_eq_true rfl) (by omega) ?_
  refine wp_aload_n d_AT_init_4 rfl rfl ?_
  refine wp_iload_n d_AT_init_5 rfl rfl ?_
  refine wp_put xf_AT_7 xg_AT (Or.inr ⟨rfl, rfl, rfl⟩) d_AT_init_6 (by repeat first | assumption | exact xg_eq | exact xn_eq (by first | rfl | omega) | refine xg_ne (by first | assumption | omega | (simp only [xput, xnew]; omega)) ?_ | refine xn_ne (by first | assumption | omega | (simp only [xput, xnew]; omega)) ?_ | exact rfl) (by first | rfl | assumption | exact bI_z _) (by first | rfl | assumption | exact bI_f _) (Nat.le_of_ble_eq_true rfl) ?_
  refine wp_return d_AT_init_9 rfl ?_
  exact ⟨rfl, rfl⟩
theorem c_AT_enclose {k g0 g : Int32} {lo hi : Int64} {v : Value} {c : Nat} (h1 : h.2.2 a = some (ob 0 [.int k, .long lo, .long hi, .int g0, v])) : wpc E 0 m_AT_enclose [.ref a, .int g, .ref c] h (fun r' h' => r' = none ∧ h' = xput h a (ob 0 [.int k, .long lo, .long hi, .int g, .ref c])) := by
  refine wpc_of rfl (Nat.le_of_ble_eq_true rfl) ?_
  refine wp_aload_n d_AT_enclose_0 rfl rfl ?_
  refine wp_iload_n d_AT_enclose_1 rfl rfl ?_
  refine wp_put xf_AT_22 xg_AT (Or.inl rfl) d_AT_enclose_2 (by repeat first | assumption | exact xg_eq | exact xn_eq (by first | rfl | omega) | refine xg_ne (by first | assumption | omega | (simp only [xput, xnew]; omega)) ?_ | refine xn_ne (by first | assumption | omega | (simp only [xput, xnew]; omega)) ?_ | exact rfl) (by first | rfl | assumption | exact bI_z _) (by first | rfl | assumption | exact bI_f _) (Nat.le_of_ble_eq_true rfl) ?_
  refine wp_aload_n d_AT_enclose_5 rfl rfl ?_
  refine wp_aload_n d_AT_enclose_6 rfl rfl ?_
  refine wp_put xf_AT_25 xg_AT (Or.inl rfl) d_AT_enclose_7 (by repeat first | assumption | exact xg_eq | exact xn_eq (by first | rfl | omega) | refine xg_ne (by first | assumption | omega | (simp only [xput, xnew]; omega)) ?_ | refine xn_ne (by first | assumption | omega | (simp only [xput, xnew]; omega)) ?_ | exact rfl) (by first | rfl | assumption | exact bI_z _) (by first | rfl | assumption | exact bI_f _) (Nat.le_of_ble_eq_true rfl) ?_
  refine wp_return d_AT_enclose_10 rfl ?_
  exact ⟨rfl, xput2⟩
theorem c_AT_takeOthers {k g : Int32} {lo hi : Int64} {v : Value} (h1 : h.2.2 a = some (ob 0 [.int k, .long lo, .long hi, .int g, v])) : wpc E 0 m_AT_takeOthers [.ref a] h (fun r' h' => r' = none ∧ h' = xput h a (ob 0 [.int k, .long (lo ^^^ (-1)), .long (hi ^^^ (-1)), .int g, v])) := by
  refine wpc_of rfl (Nat.le_of_ble_eq_true rfl) ?_
  refine wp_aload_n d_AT_takeOthers_0 rfl rfl ?_
  refine wp_aload_n d_AT_takeOthers_1 rfl rfl ?_
  refine wp_get xf_AT_13 d_AT_takeOthers_2 (by repeat first | assumption | exact xg_eq | exact xn_eq (by first | rfl | omega) | refine xg_ne (by first | assumption | omega | (simp only [xput, xnew]; omega)) ?_ | refine xn_ne (by first | assumption | omega | (simp only [xput, xnew]; omega)) ?_ | exact rfl) (by rfl) ?_
  refine wp_ldc2 kl_AT_20 d_AT_takeOthers_5 ?_
  refine wp_lxor d_AT_takeOthers_8 ?_
  refine wp_put xf_AT_13 xg_AT (Or.inl rfl) d_AT_takeOthers_9 (by repeat first | assumption | exact xg_eq | exact xn_eq (by first | rfl | omega) | refine xg_ne (by first | assumption | omega | (simp only [xput, xnew]; omega)) ?_ | refine xn_ne (by first | assumption | omega | (simp only [xput, xnew]; omega)) ?_ | exact rfl) (by first | rfl | assumption | exact bI_z _) (by first | rfl | assumption | exact bI_f _) (Nat.le_of_ble_eq_true rfl) ?_
  refine wp_aload_n d_AT_takeOthers_12 rfl rfl ?_
  refine wp_aload_n d_AT_takeOthers_13 rfl rfl ?_
  refine wp_get xf_AT_17 d_AT_takeOthers_14 (by repeat first | assumption | exact xg_eq | exact xn_eq (by first | rfl | omega) | refine xg_ne (by first | assumption | omega | (simp only [xput, xnew]; omega)) ?_ | refine xn_ne (by first | assumption | omega | (simp only [xput, xnew]; omega)) ?_ | exact rfl) (by rfl) ?_
  refine wp_ldc2 kl_AT_20 d_AT_takeOthers_17 ?_
  refine wp_lxor d_AT_takeOthers_20 ?_
  refine wp_put xf_AT_17 xg_AT (Or.inl rfl) d_AT_takeOthers_21 (by repeat first | assumption | exact xg_eq | exact xn_eq (by first | rfl | omega) | refine xg_ne (by first | assumption | omega | (simp only [xput, xnew]; omega)) ?_ | refine xn_ne (by first | assumption | omega | (simp only [xput, xnew]; omega)) ?_ | exact rfl) (by first | rfl | assumption | exact bI_z _) (by first | rfl | assumption | exact bI_f _) (Nat.le_of_ble_eq_true rfl) ?_
  refine wp_return d_AT_takeOthers_24 rfl ?_
  exact ⟨rfl, xput2⟩
def tkS : Nat → Nat → Int64 × Int64 → Int64 × Int64
  | 0, _, b => b
  | k + 1, i, b => tkS k (i + 1) (if i < 64 then (b.1 ||| ((1 : Int64) <<< ((nI i).toInt64 &&& 63)), b.2) else (b.1, b.2 ||| ((1 : Int64) <<< ((nI i - 64).toInt64 &&& 63))))
theorem c_AT_takeSigns {k g : Int32} {v : Value} {i j : Nat} (hij : i ≤ 1000) (hj : j ≤ 1000) (lo hi : Int64) (h1 : h.2.2 a = some (ob 0 [.int k, .long lo, .long hi, .int g, v])) :
    wpc E 0 m_AT_takeSigns [.ref a, .int (nI i), .int (nI j)] h (fun r' h' => r' = none ∧ h' = xput h a (ob 0 [.int k, .long (tkS (j + 1 - i) i (lo, hi)).1, .long (tkS (j + 1 - i) i (lo, hi)).2, .int g, v])) := by
  · have key : ∀ (q i' : Nat) (b : Int64 × Int64), i' ≤ 2000 → q = j + 1 - i' → wp E 0 m_AT_takeSigns 2 [(0, .ref a), (1, .int (nI i)), (2, .int (nI j)), (3, .int (nI i'))] [] (xput h a (ob 0 [.int k, .long b.1, .long b.2, .int g, v])) (fun r' h' => r' = none ∧ h' = xput h a (ob 0 [.int k, .long (tkS q i' b).1, .long (tkS q i' b).2, .int g, v])) := by
      intro q
      induction q with
      | zero =>
        intro i' b hi hq
        refine wp_iload_n d_AT_takeSigns_2 rfl rfl ?_
        refine wp_iload_n d_AT_takeSigns_3 rfl rfl ?_
        refine wp_icmp_gt (tgt := 49) d_AT_takeSigns_4 (by decide) (fun hc => ?_) (fun hc => ?_)
        · refine wp_return d_AT_takeSigns_49 rfl ?_
          exact ⟨rfl, rfl⟩
        · exact absurd (nI_lt (by omega) (by omega)) hc
      | succ q ih =>
        intro i' b hi hq
        refine wp_iload_n d_AT_takeSigns_2 rfl rfl ?_
        refine wp_iload_n d_AT_takeSigns_3 rfl rfl ?_
        refine wp_icmp_gt (tgt := 49) d_AT_takeSigns_4 (by decide) (fun hc => ?_) (fun hc => ?_)
        · exact absurd hc (nI_nlt (by omega) (by omega))
        · refine wp_iload_n d_AT_takeSigns_7 rfl rfl ?_
          refine wp_bipush (v := 64) d_AT_takeSigns_8 (by rfl) ?_
          refine wp_icmp_ge (tgt := 28) d_AT_takeSigns_10 (by decide) (fun hc2 => ?_) (fun hc2 => ?_)
          · have h64 : ¬ i' < 64 := Nat.not_lt.mpr ((nI_leI (a := 64) (by decide) (by omega)).mp hc2)
            refine wp_aload_n d_AT_takeSigns_28 rfl rfl ?_
            refine wp_dup d_AT_takeSigns_29 rfl ?_
            refine wp_get xf_AT_17 d_AT_takeSigns_30 (by repeat first | assumption | exact xg_eq | exact xn_eq (by first | rfl | omega) | refine xg_ne (by first | assumption | omega | (simp only [xput, xnew]; omega)) ?_ | refine xn_ne (by first | assumption | omega | (simp only [xput, xnew]; omega)) ?_ | exact rfl) (by rfl) ?_
            refine wp_lconst (v := 1) d_AT_takeSigns_33 (by rfl) ?_
            refine wp_iload_n d_AT_takeSigns_34 rfl rfl ?_
            refine wp_bipush (v := 64) d_AT_takeSigns_35 (by rfl) ?_
            refine wp_isub d_AT_takeSigns_37 ?_
            refine wp_lshl d_AT_takeSigns_38 ?_
            refine wp_lor d_AT_takeSigns_39 ?_
            refine wp_put xf_AT_17 xg_AT (Or.inl rfl) d_AT_takeSigns_40 (by repeat first | assumption | exact xg_eq | exact xn_eq (by first | rfl | omega) | refine xg_ne (by first | assumption | omega | (simp only [xput, xnew]; omega)) ?_ | refine xn_ne (by first | assumption | omega | (simp only [xput, xnew]; omega)) ?_ | exact rfl) (by first | rfl | assumption | exact bI_z _) (by first | rfl | assumption | exact bI_f _) (Nat.le_of_ble_eq_true rfl) ?_
            refine wp_iinc d_AT_takeSigns_43 rfl rfl (by decide) rfl ?_
            refine wp_goto (tgt := 2) d_AT_takeSigns_46 (by decide) ?_
            rw [xput2, tkS, if_neg h64]
            have := ih (i' + 1) (b.1, b.2 ||| ((1 : Int64) <<< ((nI i' - 64).toInt64 &&& 63))) (by omega) (by omega)
            rw [nI_succ] at this
            exact this
          · have h64 : i' < 64 := Nat.not_le.mp (fun q => hc2 ((nI_leI (a := 64) (by decide) (by omega)).mpr q))
            refine wp_aload_n d_AT_takeSigns_13 rfl rfl ?_
            refine wp_dup d_AT_takeSigns_14 rfl ?_
            refine wp_get xf_AT_13 d_AT_takeSigns_15 (by repeat first | assumption | exact xg_eq | exact xn_eq (by first | rfl | omega) | refine xg_ne (by first | assumption | omega | (simp only [xput, xnew]; omega)) ?_ | refine xn_ne (by first | assumption | omega | (simp only [xput, xnew]; omega)) ?_ | exact rfl) (by rfl) ?_
            refine wp_lconst (v := 1) d_AT_takeSigns_18 (by rfl) ?_
            refine wp_iload_n d_AT_takeSigns_19 rfl rfl ?_
            refine wp_lshl d_AT_takeSigns_20 ?_
            refine wp_lor d_AT_takeSigns_21 ?_
            refine wp_put xf_AT_13 xg_AT (Or.inl rfl) d_AT_takeSigns_22 (by repeat first | assumption | exact xg_eq | exact xn_eq (by first | rfl | omega) | refine xg_ne (by first | assumption | omega | (simp only [xput, xnew]; omega)) ?_ | refine xn_ne (by first | assumption | omega | (simp only [xput, xnew]; omega)) ?_ | exact rfl) (by first | rfl | assumption | exact bI_z _) (by first | rfl | assumption | exact bI_f _) (Nat.le_of_ble_eq_true rfl) ?_
            refine wp_goto (tgt := 43) d_AT_takeSigns_25 (by decide) ?_
            refine wp_iinc d_AT_takeSigns_43 rfl rfl (by decide) rfl ?_
            refine wp_goto (tgt := 2) d_AT_takeSigns_46 (by decide) ?_
            rw [xput2, tkS, if_pos h64]
            have := ih (i' + 1) (b.1 ||| ((1 : Int64) <<< ((nI i').toInt64 &&& 63)), b.2) (by omega) (by omega)
            rw [nI_succ] at this
            exact this
    refine wpc_of rfl (Nat.le_of_ble_eq_true rfl) ?_
    refine wp_iload_n d_AT_takeSigns_0 rfl rfl ?_
    refine wp_istore_n d_AT_takeSigns_1 rfl (by decide) rfl ?_
    have := key (j + 1 - i) i (lo, hi) (by omega) rfl
    rw [xput_self h1] at this
    exact this
theorem rf_n (C : String) (o : Option Nat) : narrow (.object C) (va_rf o) = va_rf o := by cases o <;> rfl
theorem rf_f (C : String) (o : Option Nat) : fits (.object C) (va_rf o) = true := by cases o <;> rfl
theorem c_CH_init (h1 : h.2.2 a = some (ob 2 [.null, .int 0, .int 0])) : wpc E 1 m_CH_init [.ref a] h (fun r' h' => r' = none ∧ h' = h) := by
  refine wpc_of rfl (Nat.le_of_ble_eq_true rfl) ?_
  refine wp_aload_n d_CH_init_0 rfl rfl ?_
  refine wp_objInit xo_CH_1 d_CH_init_1 (Nat.le_of_ble_eq_true rfl) (by omega) ?_
  refine wp_return d_CH_init_4 rfl ?_
  exact ⟨rfl, rfl⟩
theorem c_CH_size {v : Value} {s e : Int32} (h1 : h.2.2 a = some (ob 2 [v, .int s, .int e])) : wpc E 0 m_CH_size [.ref a] h (fun r' h' => r' = some (.int s) ∧ h' = h) := by
  refine wpc_of rfl (Nat.le_of_ble_eq_true rfl) ?_
  refine wp_aload_n d_CH_size_0 rfl rfl ?_
  refine wp_get xf_CH_7 d_CH_size_1 (by repeat first | assumption | exact xg_eq | exact xn_eq (by first | rfl | omega) | refine xg_ne (by first | assumption | omega | (simp only [xput, xnew]; omega)) ?_ | refine xn_ne (by first | assumption | omega | (simp only [xput, xnew]; omega)) ?_ | exact rfl) (by rfl) ?_
  refine wp_ireturn d_CH_size_4 rfl (by first | rfl | assumption) ?_
  exact ⟨rfl, rfl⟩
theorem c_CH_canBeEmpty {v : Value} {s : Int32} {e : Bool} (h1 : h.2.2 a = some (ob 2 [v, .int s, .int (bI e)])) : wpc E 0 m_CH_canBeEmpty [.ref a] h (fun r' h' => r' = some (.int (bI e)) ∧ h' = h) := by
  have hz := bI_z e
  refine wpc_of rfl (Nat.le_of_ble_eq_true rfl) ?_
  refine wp_aload_n d_CH_canBeEmpty_0 rfl rfl ?_
  refine wp_get xf_CH_20 d_CH_canBeEmpty_1 (by repeat first | assumption | exact xg_eq | exact xn_eq (by first | rfl | omega) | refine xg_ne (by first | assumption | omega | (simp only [xput, xnew]; omega)) ?_ | refine xn_ne (by first | assumption | omega | (simp only [xput, xnew]; omega)) ?_ | exact rfl) (by rfl) ?_
  refine wp_ireturn d_CH_canBeEmpty_4 rfl (by first | rfl | assumption) ?_
  exact ⟨rfl, rfl⟩
theorem c_AT_sizeL {k g : Int32} {lo hi : Int64} (h1 : h.2.2 a = some (ob 0 [.int k, .long lo, .long hi, .int g, .null])) : wpc E 1 m_AT_size [.ref a] h (fun r' h' => r' = some (.int 1) ∧ h' = h) := by
  refine wpc_of rfl (Nat.le_of_ble_eq_true rfl) ?_
  refine wp_aload_n d_AT_size_0 rfl rfl ?_
  refine wp_get xf_AT_25 d_AT_size_1 (by repeat first | assumption | exact xg_eq | exact xn_eq (by first | rfl | omega) | refine xg_ne (by first | assumption | omega | (simp only [xput, xnew]; omega)) ?_ | refine xn_ne (by first | assumption | omega | (simp only [xput, xnew]; omega)) ?_ | exact rfl) (by rfl) ?_
  refine wp_ifnonnullN d_AT_size_4 ?_
  refine wp_iconst (v := 1) d_AT_size_7 (by rfl) ?_
  refine wp_goto (tgt := 20) d_AT_size_8 (by decide) ?_
  refine wp_ireturn d_AT_size_20 rfl (by first | rfl | assumption) ?_
  exact ⟨rfl, rfl⟩
theorem c_AT_sizeG {k g s e : Int32} {lo hi : Int64} {c : Nat} {v : Value} (h1 : h.2.2 a = some (ob 0 [.int k, .long lo, .long hi, .int g, .ref c])) (h2 : h.2.2 c = some (ob 2 [v, .int s, .int e])) : wpc E 1 m_AT_size [.ref a] h (fun r' h' => r' = some (.int (s + 2)) ∧ h' = h) := by
  refine wpc_of rfl (Nat.le_of_ble_eq_true rfl) ?_
  refine wp_aload_n d_AT_size_0 rfl rfl ?_
  refine wp_get xf_AT_25 d_AT_size_1 (by repeat first | assumption | exact xg_eq | exact xn_eq (by first | rfl | omega) | refine xg_ne (by first | assumption | omega | (simp only [xput, xnew]; omega)) ?_ | refine xn_ne (by first | assumption | omega | (simp only [xput, xnew]; omega)) ?_ | exact rfl) (by rfl) ?_
  refine wp_ifnonnull (tgt := 11) d_AT_size_4 (by decide) ?_
  refine wp_aload_n d_AT_size_11 rfl rfl ?_
  refine wp_get xf_AT_25 d_AT_size_12 (by repeat first | assumption | exact xg_eq | exact xn_eq (by first | rfl | omega) | refine xg_ne (by first | assumption | omega | (simp only [xput, xnew]; omega)) ?_ | refine xn_ne (by first | assumption | omega | (simp only [xput, xnew]; omega)) ?_ | exact rfl) (by rfl) ?_
  refine wp_callV0 xc_AT_29 d_AT_size_15 (Nat.le_of_ble_eq_true rfl) (by repeat first | assumption | exact xg_eq | exact xn_eq (by first | rfl | omega) | refine xg_ne (by first | assumption | omega | (simp only [xput, xnew]; omega)) ?_ | refine xn_ne (by first | assumption | omega | (simp only [xput, xnew]; omega)) ?_ | exact rfl) (c_CH_size h2) (by omega) (fun r hh hp => ?_)
  obtain ⟨rfl, rfl⟩ := hp
  refine wp_iconst (v := 2) d_AT_size_18 (by rfl) ?_
  refine wp_iadd d_AT_size_19 ?_
  refine wp_ireturn d_AT_size_20 rfl (by first | rfl | assumption) ?_
  exact ⟨rfl, rfl⟩
theorem c_AT_canBeEmptyL {k g : Int32} {lo hi : Int64} (h1 : h.2.2 a = some (ob 0 [.int k, .long lo, .long hi, .int g, .null])) : wpc E 1 m_AT_canBeEmpty [.ref a] h (fun r' h' => r' = some (.int (bI (!decide (k = 1)))) ∧ h' = h) := by
  refine wpc_of rfl (Nat.le_of_ble_eq_true rfl) ?_
  refine wp_aload_n d_AT_canBeEmpty_0 rfl rfl ?_
  refine wp_get xf_AT_25 d_AT_canBeEmpty_1 (by repeat first | assumption | exact xg_eq | exact xn_eq (by first | rfl | omega) | refine xg_ne (by first | assumption | omega | (simp only [xput, xnew]; omega)) ?_ | refine xn_ne (by first | assumption | omega | (simp only [xput, xnew]; omega)) ?_ | exact rfl) (by rfl) ?_
  refine wp_ifnonnullN d_AT_canBeEmpty_4 ?_
  refine wp_aload_n d_AT_canBeEmpty_7 rfl rfl ?_
  refine wp_get xf_AT_7 d_AT_canBeEmpty_8 (by repeat first | assumption | exact xg_eq | exact xn_eq (by first | rfl | omega) | refine xg_ne (by first | assumption | omega | (simp only [xput, xnew]; omega)) ?_ | refine xn_ne (by first | assumption | omega | (simp only [xput, xnew]; omega)) ?_ | exact rfl) (by rfl) ?_
  refine wp_iconst (v := 1) d_AT_canBeEmpty_11 (by rfl) ?_
  refine wp_icmp_eq (tgt := 19) d_AT_canBeEmpty_12 (by decide) (fun hc => ?_) (fun hc => ?_)
  · refine wp_iconst (v := 0) d_AT_canBeEmpty_19 (by rfl) ?_
    refine wp_goto (tgt := 30) d_AT_canBeEmpty_20 (by decide) ?_
    refine wp_ireturn d_AT_canBeEmpty_30 rfl (by first | rfl | assumption) ?_
    rw [decide_eq_true hc]
    exact ⟨rfl, rfl⟩
  · refine wp_iconst (v := 1) d_AT_canBeEmpty_15 (by rfl) ?_
    refine wp_goto (tgt := 30) d_AT_canBeEmpty_16 (by decide) ?_
    refine wp_ireturn d_AT_canBeEmpty_30 rfl (by first | rfl | assumption) ?_
    rw [decide_eq_false hc]
    exact ⟨rfl, rfl⟩
theorem c_AT_canBeEmptyG {k g s : Int32} {lo hi : Int64} {c : Nat} {v : Value} {e : Bool} (h1 : h.2.2 a = some (ob 0 [.int k, .long lo, .long hi, .int g, .ref c])) (h2 : h.2.2 c = some (ob 2 [v, .int s, .int (bI e)])) : wpc E 1 m_AT_canBeEmpty [.ref a] h (fun r' h' => r' = some (.int (bI e)) ∧ h' = h) := by
  have hz := bI_z e
  refine wpc_of rfl (Nat.le_of_ble_eq_true rfl) ?_
  refine wp_aload_n d_AT_canBeEmpty_0 rfl rfl ?_
  refine wp_get xf_AT_25 d_AT_canBeEmpty_1 (by repeat first | assumption | exact xg_eq | exact xn_eq (by first | rfl | omega) | refine xg_ne (by first | assumption | omega | (simp only [xput, xnew]; omega)) ?_ | refine xn_ne (by first | assumption | omega | (simp only [xput, xnew]; omega)) ?_ | exact rfl) (by rfl) ?_
  refine wp_ifnonnull (tgt := 23) d_AT_canBeEmpty_4 (by decide) ?_
  refine wp_aload_n d_AT_canBeEmpty_23 rfl rfl ?_
  refine wp_get xf_AT_25 d_AT_canBeEmpty_24 (by repeat first | assumption | exact xg_eq | exact xn_eq (by first | rfl | omega) | refine xg_ne (by first | assumption | omega | (simp only [xput, xnew]; omega)) ?_ | refine xn_ne (by first | assumption | omega | (simp only [xput, xnew]; omega)) ?_ | exact rfl) (by rfl) ?_
  refine wp_callV0 xc_AT_37 d_AT_canBeEmpty_27 (Nat.le_of_ble_eq_true rfl) (by repeat first | assumption | exact xg_eq | exact xn_eq (by first | rfl | omega) | refine xg_ne (by first | assumption | omega | (simp only [xput, xnew]; omega)) ?_ | refine xn_ne (by first | assumption | omega | (simp only [xput, xnew]; omega)) ?_ | exact rfl) (c_CH_canBeEmpty h2) (by omega) (fun r hh hp => ?_)
  obtain ⟨rfl, rfl⟩ := hp
  refine wp_ireturn d_AT_canBeEmpty_30 rfl (by first | rfl | assumption) ?_
  exact ⟨rfl, rfl⟩
theorem c_PI_init (c : Nat) (h1 : h.2.2 a = some (ob 4 [.null, .null, .int 0, .int 0, .int 0, .int 0])) : wpc E 1 m_PI_init [.ref a, .ref c] h (fun r' h' => r' = none ∧ h' = xput h a (ob 4 [.ref c, .null, .int 1, .int 1, .int 0, .int 0])) := by
  refine wpc_of rfl (Nat.le_of_ble_eq_true rfl) ?_
  refine wp_aload_n d_PI_init_0 rfl rfl ?_
  refine wp_objInit xo_PI_1 d_PI_init_1 (Nat.le_of_ble_eq_true rfl) (by omega) ?_
  refine wp_aload_n d_PI_init_4 rfl rfl ?_
  refine wp_iconst (v := 1) d_PI_init_5 (by rfl) ?_
  refine wp_put xf_PI_7 xg_PI (Or.inl rfl) d_PI_init_6 (by repeat first | assumption | exact xg_eq | exact xn_eq (by first | rfl | omega) | refine xg_ne (by first | assumption | omega | (simp only [xput, xnew]; omega)) ?_ | refine xn_ne (by first | assumption | omega | (simp only [xput, xnew]; omega)) ?_ | exact rfl) (by first | rfl | assumption | exact bI_z _) (by first | rfl | assumption | exact bI_f _) (Nat.le_of_ble_eq_true rfl) ?_
  refine wp_aload_n d_PI_init_9 rfl rfl ?_
  refine wp_iconst (v := 1) d_PI_init_10 (by rfl) ?_
  refine wp_put xf_PI_13 xg_PI (Or.inl rfl) d_PI_init_11 (by repeat first | assumption | exact xg_eq | exact xn_eq (by first | rfl | omega) | refine xg_ne (by first | assumption | omega | (simp only [xput, xnew]; omega)) ?_ | refine xn_ne (by first | assumption | omega | (simp only [xput, xnew]; omega)) ?_ | exact rfl) (by first | rfl | assumption | exact bI_z _) (by first | rfl | assumption | exact bI_f _) (Nat.le_of_ble_eq_true rfl) ?_
  refine wp_aload_n d_PI_init_14 rfl rfl ?_
  refine wp_aload_n d_PI_init_15 rfl rfl ?_
  refine wp_put xf_PI_16 xg_PI (Or.inr ⟨rfl, rfl, rfl⟩) d_PI_init_16 (by repeat first | assumption | exact xg_eq | exact xn_eq (by first | rfl | omega) | refine xg_ne (by first | assumption | omega | (simp only [xput, xnew]; omega)) ?_ | refine xn_ne (by first | assumption | omega | (simp only [xput, xnew]; omega)) ?_ | exact rfl) (by first | rfl | assumption | exact bI_z _) (by first | rfl | assumption | exact bI_f _) (Nat.le_of_ble_eq_true rfl) ?_
  refine wp_return d_PI_init_19 rfl ?_
  exact ⟨rfl, by rw [xput2, xput2]; rfl⟩
theorem c_PI_repeat {v w : Value} {l m u s : Int32} (x y : Int32) (h1 : h.2.2 a = some (ob 4 [v, w, .int l, .int m, .int u, .int s])) : wpc E 0 m_PI_repeat [.ref a, .int x, .int y] h (fun r' h' => r' = none ∧ h' = xput h a (ob 4 [v, w, .int x, .int y, .int u, .int s])) := by
  refine wpc_of rfl (Nat.le_of_ble_eq_true rfl) ?_
  refine wp_aload_n d_PI_repeat_0 rfl rfl ?_
  refine wp_iload_n d_PI_repeat_1 rfl rfl ?_
  refine wp_put xf_PI_7 xg_PI (Or.inl rfl) d_PI_repeat_2 (by repeat first | assumption | exact xg_eq | exact xn_eq (by first | rfl | omega) | refine xg_ne (by first | assumption | omega | (simp only [xput, xnew]; omega)) ?_ | refine xn_ne (by first | assumption | omega | (simp only [xput, xnew]; omega)) ?_ | exact rfl) (by first | rfl | assumption | exact bI_z _) (by first | rfl | assumption | exact bI_f _) (Nat.le_of_ble_eq_true rfl) ?_
  refine wp_aload_n d_PI_repeat_5 rfl rfl ?_
  refine wp_iload_n d_PI_repeat_6 rfl rfl ?_
  refine wp_put xf_PI_13 xg_PI (Or.inl rfl) d_PI_repeat_7 (by repeat first | assumption | exact xg_eq | exact xn_eq (by first | rfl | omega) | refine xg_ne (by first | assumption | omega | (simp only [xput, xnew]; omega)) ?_ | refine xn_ne (by first | assumption | omega | (simp only [xput, xnew]; omega)) ?_ | exact rfl) (by first | rfl | assumption | exact bI_z _) (by first | rfl | assumption | exact bI_f _) (Nat.le_of_ble_eq_true rfl) ?_
  refine wp_return d_PI_repeat_10 rfl ?_
  exact ⟨rfl, xput2⟩
theorem c_PI_repeatUnbounded {v w : Value} {l m u s : Int32} (x : Int32) (h1 : h.2.2 a = some (ob 4 [v, w, .int l, .int m, .int u, .int s])) : wpc E 0 m_PI_repeatUnbounded [.ref a, .int x] h (fun r' h' => r' = none ∧ h' = xput h a (ob 4 [v, w, .int x, .int m, .int 1, .int s])) := by
  refine wpc_of rfl (Nat.le_of_ble_eq_true rfl) ?_
  refine wp_aload_n d_PI_repeatUnbounded_0 rfl rfl ?_
  refine wp_iload_n d_PI_repeatUnbounded_1 rfl rfl ?_
  refine wp_put xf_PI_7 xg_PI (Or.inl rfl) d_PI_repeatUnbounded_2 (by repeat first | assumption | exact xg_eq | exact xn_eq (by first | rfl | omega) | refine xg_ne (by first | assumption | omega | (simp only [xput, xnew]; omega)) ?_ | refine xn_ne (by first | assumption | omega | (simp only [xput, xnew]; omega)) ?_ | exact rfl) (by first | rfl | assumption | exact bI_z _) (by first | rfl | assumption | exact bI_f _) (Nat.le_of_ble_eq_true rfl) ?_
  refine wp_aload_n d_PI_repeatUnbounded_5 rfl rfl ?_
  refine wp_iconst (v := 1) d_PI_repeatUnbounded_6 (by rfl) ?_
  refine wp_put xf_PI_20 xg_PI (Or.inl rfl) d_PI_repeatUnbounded_7 (by repeat first | assumption | exact xg_eq | exact xn_eq (by first | rfl | omega) | refine xg_ne (by first | assumption | omega | (simp only [xput, xnew]; omega)) ?_ | refine xn_ne (by first | assumption | omega | (simp only [xput, xnew]; omega)) ?_ | exact rfl) (by first | rfl | assumption | exact bI_z _) (by first | rfl | assumption | exact bI_f _) (Nat.le_of_ble_eq_true rfl) ?_
  refine wp_return d_PI_repeatUnbounded_10 rfl ?_
  exact ⟨rfl, xput2⟩
def atQ (E : xE) (h : xH) (c : Nat) (s : Int32) (e : Bool) : Prop := (∃ k lo hi g, h.2.2 c = some (ob 0 [.int k, .long lo, .long hi, .int g, .null]) ∧ s = 1 ∧ e = !decide (k = 1)) ∨ (∃ k lo hi g i v s', h.2.2 c = some (ob 0 [.int k, .long lo, .long hi, .int g, .ref i]) ∧ h.2.2 i = some (ob 2 [v, .int s', .int (bI e)]) ∧ s = s' + 2)
theorem c_AT_size {c : Nat} {s : Int32} {e : Bool} (hq : atQ E h c s e) : wpc E 1 m_AT_size [.ref c] h (fun r' h' => r' = some (.int s) ∧ h' = h) := by
  rcases hq with ⟨k, lo, hi, g, h1, rfl, rfl⟩ | ⟨k, lo, hi, g, i, v, s', h1, h2, rfl⟩
  · exact c_AT_sizeL h1
  · exact c_AT_sizeG h1 h2
theorem c_AT_canBeEmpty {c : Nat} {s : Int32} {e : Bool} (hq : atQ E h c s e) : wpc E 1 m_AT_canBeEmpty [.ref c] h (fun r' h' => r' = some (.int (bI e)) ∧ h' = h) := by
  rcases hq with ⟨k, lo, hi, g, h1, rfl, rfl⟩ | ⟨k, lo, hi, g, i, v, s', h1, h2, rfl⟩
  · exact c_AT_canBeEmptyL h1
  · exact c_AT_canBeEmptyG h1 h2
theorem atQ.obj {c : Nat} {s : Int32} {e : Bool} (hq : atQ E h c s e) : ∃ fs, h.2.2 c = some (ob 0 fs) := by
  rcases hq with ⟨k, lo, hi, g, h1, -⟩ | ⟨k, lo, hi, g, i, v, s', h1, -⟩ <;> exact ⟨_, h1⟩
theorem c_PI_size {c : Nat} {w : Value} {l m sp s : Int32} {e u : Bool} (h1 : h.2.2 a = some (ob 4 [.ref c, w, .int l, .int m, .int (bI u), .int sp])) (hq : atQ E h c s e) : wpc E 2 m_PI_size [.ref a] h (fun r' h' => r' = some (.int (if u then s + 2 else m * s + 2 * (m - l))) ∧ h' = h) := by
  obtain ⟨fs, ho⟩ := hq.obj
  refine wpc_of rfl (Nat.le_of_ble_eq_true rfl) ?_
  refine wp_aload_n d_PI_size_0 rfl rfl ?_
  refine wp_get xf_PI_20 d_PI_size_1 (by repeat first | assumption | exact xg_eq | exact xn_eq (by first | rfl | omega) | refine xg_ne (by first | assumption | omega | (simp only [xput, xnew]; omega)) ?_ | refine xn_ne (by first | assumption | omega | (simp only [xput, xnew]; omega)) ?_ | exact rfl) (by rfl) ?_
  refine wp_if_eq (tgt := 19) d_PI_size_4 (by decide) (fun hc => ?_) (fun hc => ?_)
  · rw [bI_0] at hc
    subst hc
    refine wp_aload_n d_PI_size_19 rfl rfl ?_
    refine wp_get xf_PI_13 d_PI_size_20 (by repeat first | assumption | exact xg_eq | exact xn_eq (by first | rfl | omega) | refine xg_ne (by first | assumption | omega | (simp only [xput, xnew]; omega)) ?_ | refine xn_ne (by first | assumption | omega | (simp only [xput, xnew]; omega)) ?_ | exact rfl) (by rfl) ?_
    refine wp_aload_n d_PI_size_23 rfl rfl ?_
    refine wp_get xf_PI_16 d_PI_size_24 (by repeat first | assumption | exact xg_eq | exact xn_eq (by first | rfl | omega) | refine xg_ne (by first | assumption | omega | (simp only [xput, xnew]; omega)) ?_ | refine xn_ne (by first | assumption | omega | (simp only [xput, xnew]; omega)) ?_ | exact rfl) (by rfl) ?_
    refine wp_callV0 xc_PI_24 d_PI_size_27 (Nat.le_of_ble_eq_true rfl) (by repeat first | assumption | exact xg_eq | exact xn_eq (by first | rfl | omega) | refine xg_ne (by first | assumption | omega | (simp only [xput, xnew]; omega)) ?_ | refine xn_ne (by first | assumption | omega | (simp only [xput, xnew]; omega)) ?_ | exact rfl) (c_AT_size hq) (by omega) (fun r hh hp => ?_)
    obtain ⟨rfl, rfl⟩ := hp
    refine wp_imul d_PI_size_30 ?_
    refine wp_iconst (v := 2) d_PI_size_31 (by rfl) ?_
    refine wp_aload_n d_PI_size_32 rfl rfl ?_
    refine wp_get xf_PI_13 d_PI_size_33 (by repeat first | assumption | exact xg_eq | exact xn_eq (by first | rfl | omega) | refine xg_ne (by first | assumption | omega | (simp only [xput, xnew]; omega)) ?_ | refine xn_ne (by first | assumption | omega | (simp only [xput, xnew]; omega)) ?_ | exact rfl) (by rfl) ?_
    refine wp_aload_n d_PI_size_36 rfl rfl ?_
    refine wp_get xf_PI_7 d_PI_size_37 (by repeat first | assumption | exact xg_eq | exact xn_eq (by first | rfl | omega) | refine xg_ne (by first | assumption | omega | (simp only [xput, xnew]; omega)) ?_ | refine xn_ne (by first | assumption | omega | (simp only [xput, xnew]; omega)) ?_ | exact rfl) (by rfl) ?_
    refine wp_isub d_PI_size_40 ?_
    refine wp_imul d_PI_size_41 ?_
    refine wp_iadd d_PI_size_42 ?_
    refine wp_ireturn d_PI_size_43 rfl (by first | rfl | assumption) ?_
    exact ⟨rfl, rfl⟩
  · rw [bI_0] at hc
    have hc : u = true := by cases u <;> simp_all
    subst hc
    refine wp_aload_n d_PI_size_7 rfl rfl ?_
    refine wp_get xf_PI_16 d_PI_size_8 (by repeat first | assumption | exact xg_eq | exact xn_eq (by first | rfl | omega) | refine xg_ne (by first | assumption | omega | (simp only [xput, xnew]; omega)) ?_ | refine xn_ne (by first | assumption | omega | (simp only [xput, xnew]; omega)) ?_ | exact rfl) (by rfl) ?_
    refine wp_callV0 xc_PI_24 d_PI_size_11 (Nat.le_of_ble_eq_true rfl) (by repeat first | assumption | exact xg_eq | exact xn_eq (by first | rfl | omega) | refine xg_ne (by first | assumption | omega | (simp only [xput, xnew]; omega)) ?_ | refine xn_ne (by first | assumption | omega | (simp only [xput, xnew]; omega)) ?_ | exact rfl) (c_AT_size hq) (by omega) (fun r hh hp => ?_)
    obtain ⟨rfl, rfl⟩ := hp
    refine wp_iconst (v := 2) d_PI_size_14 (by rfl) ?_
    refine wp_iadd d_PI_size_15 ?_
    refine wp_goto (tgt := 43) d_PI_size_16 (by decide) ?_
    refine wp_ireturn d_PI_size_43 rfl (by first | rfl | assumption) ?_
    exact ⟨rfl, rfl⟩
theorem c_PI_canBeEmpty {c : Nat} {w : Value} {l m u sp s : Int32} {e : Bool} (h1 : h.2.2 a = some (ob 4 [.ref c, w, .int l, .int m, .int u, .int sp])) (hq : atQ E h c s e) : wpc E 2 m_PI_canBeEmpty [.ref a] h (fun r' h' => r' = some (.int (bI (decide (l = 0) || e))) ∧ h' = h) := by
  obtain ⟨fs, ho⟩ := hq.obj
  refine wpc_of rfl (Nat.le_of_ble_eq_true rfl) ?_
  refine wp_aload_n d_PI_canBeEmpty_0 rfl rfl ?_
  refine wp_get xf_PI_7 d_PI_canBeEmpty_1 (by repeat first | assumption | exact xg_eq | exact xn_eq (by first | rfl | omega) | refine xg_ne (by first | assumption | omega | (simp only [xput, xnew]; omega)) ?_ | refine xn_ne (by first | assumption | omega | (simp only [xput, xnew]; omega)) ?_ | exact rfl) (by rfl) ?_
  refine wp_if_eq (tgt := 17) d_PI_canBeEmpty_4 (by decide) (fun hc => ?_) (fun hc => ?_)
  · refine wp_iconst (v := 1) d_PI_canBeEmpty_17 (by rfl) ?_
    refine wp_goto (tgt := 22) d_PI_canBeEmpty_18 (by decide) ?_
    refine wp_ireturn d_PI_canBeEmpty_22 rfl (by first | rfl | assumption) ?_
    rw [decide_eq_true hc]
    exact ⟨rfl, rfl⟩
  · refine wp_aload_n d_PI_canBeEmpty_7 rfl rfl ?_
    refine wp_get xf_PI_16 d_PI_canBeEmpty_8 (by repeat first | assumption | exact xg_eq | exact xn_eq (by first | rfl | omega) | refine xg_ne (by first | assumption | omega | (simp only [xput, xnew]; omega)) ?_ | refine xn_ne (by first | assumption | omega | (simp only [xput, xnew]; omega)) ?_ | exact rfl) (by rfl) ?_
    refine wp_callV0 xc_PI_30 d_PI_canBeEmpty_11 (Nat.le_of_ble_eq_true rfl) (by repeat first | assumption | exact xg_eq | exact xn_eq (by first | rfl | omega) | refine xg_ne (by first | assumption | omega | (simp only [xput, xnew]; omega)) ?_ | refine xn_ne (by first | assumption | omega | (simp only [xput, xnew]; omega)) ?_ | exact rfl) (c_AT_canBeEmpty hq) (by omega) (fun r hh hp => ?_)
    obtain ⟨rfl, rfl⟩ := hp
    rw [decide_eq_false hc]
    refine wp_if_eq (tgt := 21) d_PI_canBeEmpty_14 (by decide) (fun hc2 => ?_) (fun hc2 => ?_)
    · rw [bI_0] at hc2
      subst hc2
      refine wp_iconst (v := 0) d_PI_canBeEmpty_21 (by rfl) ?_
      refine wp_ireturn d_PI_canBeEmpty_22 rfl (by first | rfl | assumption) ?_
      exact ⟨rfl, rfl⟩
    · rw [bI_0] at hc2
      have hc2 : e = true := by cases e <;> simp_all
      subst hc2
      refine wp_iconst (v := 1) d_PI_canBeEmpty_17 (by rfl) ?_
      refine wp_goto (tgt := 22) d_PI_canBeEmpty_18 (by decide) ?_
      refine wp_ireturn d_PI_canBeEmpty_22 rfl (by first | rfl | assumption) ?_
      exact ⟨rfl, rfl⟩
theorem c_PI_isEndless {c : Nat} {w : Value} {l m sp s : Int32} {e u : Bool} (h1 : h.2.2 a = some (ob 4 [.ref c, w, .int l, .int m, .int (bI u), .int sp])) (hq : atQ E h c s e) : wpc E 2 m_PI_isEndless [.ref a] h (fun r' h' => r' = some (.int (bI (u && e))) ∧ h' = h) := by
  obtain ⟨fs, ho⟩ := hq.obj
  refine wpc_of rfl (Nat.le_of_ble_eq_true rfl) ?_
  refine wp_aload_n d_PI_isEndless_0 rfl rfl ?_
  refine wp_get xf_PI_20 d_PI_isEndless_1 (by repeat first | assumption | exact xg_eq | exact xn_eq (by first | rfl | omega) | refine xg_ne (by first | assumption | omega | (simp only [xput, xnew]; omega)) ?_ | refine xn_ne (by first | assumption | omega | (simp only [xput, xnew]; omega)) ?_ | exact rfl) (by rfl) ?_
  refine wp_if_eq (tgt := 21) d_PI_isEndless_4 (by decide) (fun hc => ?_) (fun hc => ?_)
  · rw [bI_0] at hc
    subst hc
    refine wp_iconst (v := 0) d_PI_isEndless_21 (by rfl) ?_
    refine wp_ireturn d_PI_isEndless_22 rfl (by first | rfl | assumption) ?_
    exact ⟨rfl, rfl⟩
  · rw [bI_0] at hc
    have hc : u = true := by cases u <;> simp_all
    subst hc
    refine wp_aload_n d_PI_isEndless_7 rfl rfl ?_
    refine wp_get xf_PI_16 d_PI_isEndless_8 (by repeat first | assumption | exact xg_eq | exact xn_eq (by first | rfl | omega) | refine xg_ne (by first | assumption | omega | (simp only [xput, xnew]; omega)) ?_ | refine xn_ne (by first | assumption | omega | (simp only [xput, xnew]; omega)) ?_ | exact rfl) (by rfl) ?_
    refine wp_callV0 xc_PI_30 d_PI_isEndless_11 (Nat.le_of_ble_eq_true rfl) (by repeat first | assumption | exact xg_eq | exact xn_eq (by first | rfl | omega) | refine xg_ne (by first | assumption | omega | (simp only [xput, xnew]; omega)) ?_ | refine xn_ne (by first | assumption | omega | (simp only [xput, xnew]; omega)) ?_ | exact rfl) (c_AT_canBeEmpty hq) (by omega) (fun r hh hp => ?_)
    obtain ⟨rfl, rfl⟩ := hp
    refine wp_if_eq (tgt := 21) d_PI_isEndless_14 (by decide) (fun hc2 => ?_) (fun hc2 => ?_)
    · rw [bI_0] at hc2
      subst hc2
      refine wp_iconst (v := 0) d_PI_isEndless_21 (by rfl) ?_
      refine wp_ireturn d_PI_isEndless_22 rfl (by first | rfl | assumption) ?_
      exact ⟨rfl, rfl⟩
    · rw [bI_0] at hc2
      have hc2 : e = true := by cases e <;> simp_all
      subst hc2
      refine wp_iconst (v := 1) d_PI_isEndless_17 (by rfl) ?_
      refine wp_goto (tgt := 22) d_PI_isEndless_18 (by decide) ?_
      refine wp_ireturn d_PI_isEndless_22 rfl (by first | rfl | assumption) ?_
      exact ⟨rfl, rfl⟩
theorem c_RO_init (h1 : h.2.2 a = some (ob 7 [.null, .null, .int 0, .int 0])) : wpc E 1 m_RO_init [.ref a] h (fun r' h' => r' = none ∧ h' = xput h a (ob 7 [.null, .null, .int 0, .int 1])) := by
  refine wpc_of rfl (Nat.le_of_ble_eq_true rfl) ?_
  refine wp_aload_n d_RO_init_0 rfl rfl ?_
  refine wp_objInit xo_RO_1 d_RO_init_1 (Nat.le_of_ble_eq_true rfl) (by omega) ?_
  refine wp_aload_n d_RO_init_4 rfl rfl ?_
  refine wp_iconst (v := 1) d_RO_init_5 (by rfl) ?_
  refine wp_put xf_RO_7 xg_RO (Or.inl rfl) d_RO_init_6 (by repeat first | assumption | exact xg_eq | exact xn_eq (by first | rfl | omega) | refine xg_ne (by first | assumption | omega | (simp only [xput, xnew]; omega)) ?_ | refine xn_ne (by first | assumption | omega | (simp only [xput, xnew]; omega)) ?_ | exact rfl) (by first | rfl | assumption | exact bI_z _) (by first | rfl | assumption | exact bI_f _) (Nat.le_of_ble_eq_true rfl) ?_
  refine wp_return d_RO_init_9 rfl ?_
  exact ⟨rfl, rfl⟩
theorem c_RO_add {p c : Nat} {b : Value} {o : Option Nat} {z l m sp s : Int32} {re e u : Bool} (hap : a ≠ p) (hac : a ≠ c) (hpc : p ≠ c) (h1 : h.2.2 a = some (ob 7 [b, va_rf o, .int z, .int (bI re)])) (h2 : h.2.2 p = some (ob 4 [.ref c, .null, .int l, .int m, .int (bI u), .int sp])) (hq : atQ E h c s e) (hq2 : ∀ h', (∀ q, q ≠ a → h'.2.2 q = h.2.2 q) → atQ E h' c s e) :
    wpc E 3 m_RO_add [.ref a, .ref p] h (fun r' h' => r' = none ∧ xfr [a, p] h h' ∧ h'.2.2 a = some (ob 7 [b, .ref p, .int (z + (if u then s + 2 else m * s + 2 * (m - l))), .int (bI (re && (decide (l = 0) || e)))]) ∧ h'.2.2 p = some (ob 4 [.ref c, va_rf o, .int l, .int m, .int (bI u), .int sp])) := by
  have hrf := rf_n "PatternSearch$Piece" o
  have hrf2 := rf_f "PatternSearch$Piece" o
  refine wpc_of rfl (Nat.le_of_ble_eq_true rfl) ?_
  refine wp_aload_n d_RO_add_0 rfl rfl ?_
  refine wp_dup d_RO_add_1 rfl ?_
  refine wp_get xf_RO_13 d_RO_add_2 (by repeat first | assumption | exact xg_eq | exact xn_eq (by first | rfl | omega) | refine xg_ne (by first | assumption | omega | (simp only [xput, xnew]; omega)) ?_ | refine xn_ne (by first | assumption | omega | (simp only [xput, xnew]; omega)) ?_ | exact rfl) (by rfl) ?_
  refine wp_aload_n d_RO_add_5 rfl rfl ?_
  refine wp_callV0 xc_RO_17 d_RO_add_6 (Nat.le_of_ble_eq_true rfl) (by repeat first | assumption | exact xg_eq | exact xn_eq (by first | rfl | omega) | refine xg_ne (by first | assumption | omega | (simp only [xput, xnew]; omega)) ?_ | refine xn_ne (by first | assumption | omega | (simp only [xput, xnew]; omega)) ?_ | exact rfl) (c_PI_size h2 hq) (by omega) (fun r hh hp => ?_)
  obtain ⟨rfl, hz0⟩ := hp; have hz0 := hz0.symm; subst hz0
  refine wp_iadd d_RO_add_9 ?_
  refine wp_put xf_RO_13 xg_RO (Or.inl rfl) d_RO_add_10 (by repeat first | assumption | exact xg_eq | exact xn_eq (by first | rfl | omega) | refine xg_ne (by first | assumption | omega | (simp only [xput, xnew]; omega)) ?_ | refine xn_ne (by first | assumption | omega | (simp only [xput, xnew]; omega)) ?_ | exact rfl) (by first | rfl | assumption | exact bI_z _) (by first | rfl | assumption | exact bI_f _) (Nat.le_of_ble_eq_true rfl) ?_
  refine wp_aload_n d_RO_add_13 rfl rfl ?_
  refine wp_aload_n d_RO_add_14 rfl rfl ?_
  refine wp_get xf_RO_7 d_RO_add_15 (by repeat first | assumption | exact xg_eq | exact xn_eq (by first | rfl | omega) | refine xg_ne (by first | assumption | omega | (simp only [xput, xnew]; omega)) ?_ | refine xn_ne (by first | assumption | omega | (simp only [xput, xnew]; omega)) ?_ | exact rfl) (by rfl) ?_
  generalize hz : z + (if u then s + 2 else m * s + 2 * (m - l)) = z'
  have hq3 := hq2 (xput h a (ob 7 [b, va_rf o, .int z', .int (bI re)])) (fun q hq => xg_ne hq rfl)
  have fin : ∀ x : Bool, x = (re && (decide (l = 0) || e)) → wp E 3 m_RO_add 33 (lv_args 0 [.ref a, .ref p]) [.int (bI x), .ref a] (xput h a (ob 7 [b, va_rf o, .int z', .int (bI re)])) (fun r' h' => r' = none ∧ xfr [a, p] h h' ∧ h'.2.2 a = some (ob 7 [b, .ref p, .int z', .int (bI (re && (decide (l = 0) || e)))]) ∧ h'.2.2 p = some (ob 4 [.ref c, va_rf o, .int l, .int m, .int (bI u), .int sp])) := by
    intro x hx
    subst hx
    have hb1 := bI_z (re && (decide (l = 0) || e))
    have hb2 := bI_f (re && (decide (l = 0) || e))
    refine wp_put xf_RO_7 xg_RO (Or.inl rfl) d_RO_add_33 (by repeat first | assumption | exact xg_eq | exact xn_eq (by first | rfl | omega) | refine xg_ne (by first | assumption | omega | (simp only [xput, xnew]; omega)) ?_ | refine xn_ne (by first | assumption | omega | (simp only [xput, xnew]; omega)) ?_ | exact rfl) (by first | rfl | assumption | exact bI_z _) (by first | rfl | assumption | exact bI_f _) (Nat.le_of_ble_eq_true rfl) ?_
    refine wp_aload_n d_RO_add_36 rfl rfl ?_
    refine wp_aload_n d_RO_add_37 rfl rfl ?_
    refine wp_get xf_RO_25 d_RO_add_38 (by repeat first | assumption | exact xg_eq | exact xn_eq (by first | rfl | omega) | refine xg_ne (by first | assumption | omega | (simp only [xput, xnew]; omega)) ?_ | refine xn_ne (by first | assumption | omega | (simp only [xput, xnew]; omega)) ?_ | exact rfl) (by rfl) ?_
    refine wp_put xf_RO_29 xg_PI (Or.inl rfl) d_RO_add_41 (by repeat first | assumption | exact xg_eq | exact xn_eq (by first | rfl | omega) | refine xg_ne (by first | assumption | omega | (simp only [xput, xnew]; omega)) ?_ | refine xn_ne (by first | assumption | omega | (simp only [xput, xnew]; omega)) ?_ | exact rfl) (by first | rfl | assumption | exact bI_z _) (by first | rfl | assumption | exact bI_f _) (Nat.le_of_ble_eq_true rfl) ?_
    refine wp_aload_n d_RO_add_44 rfl rfl ?_
    refine wp_aload_n d_RO_add_45 rfl rfl ?_
    refine wp_put xf_RO_25 xg_RO (Or.inl rfl) d_RO_add_46 (by repeat first | assumption | exact xg_eq | exact xn_eq (by first | rfl | omega) | refine xg_ne (by first | assumption | omega | (simp only [xput, xnew]; omega)) ?_ | refine xn_ne (by first | assumption | omega | (simp only [xput, xnew]; omega)) ?_ | exact rfl) (by first | rfl | assumption | exact bI_z _) (by first | rfl | assumption | exact bI_f _) (Nat.le_of_ble_eq_true rfl) ?_
    refine wp_return d_RO_add_49 rfl ?_
    exact ⟨rfl, (((xfr.rf.put (by simp)).put (by simp)).put (by simp)).put (by simp), (by repeat first | assumption | exact xg_eq | exact xn_eq (by first | rfl | omega) | refine xg_ne (by first | assumption | omega | (simp only [xput, xnew]; omega)) ?_ | refine xn_ne (by first | assumption | omega | (simp only [xput, xnew]; omega)) ?_ | exact rfl), (by repeat first | assumption | exact xg_eq | exact xn_eq (by first | rfl | omega) | refine xg_ne (by first | assumption | omega | (simp only [xput, xnew]; omega)) ?_ | refine xn_ne (by first | assumption | omega | (simp only [xput, xnew]; omega)) ?_ | exact rfl)⟩
  refine wp_if_eq (tgt := 32) d_RO_add_18 (by decide) (fun hc => ?_) (fun hc => ?_)
  · rw [bI_0] at hc
    subst hc
    refine wp_iconst (v := 0) d_RO_add_32 (by rfl) ?_
    exact fin false rfl
  · rw [bI_0] at hc
    have hc : re = true := by cases re <;> simp_all
    subst hc
    refine wp_aload_n d_RO_add_21 rfl rfl ?_
    refine wp_callV0 xc_RO_22 d_RO_add_22 (Nat.le_of_ble_eq_true rfl) (by repeat first | assumption | exact xg_eq | exact xn_eq (by first | rfl | omega) | refine xg_ne (by first | assumption | omega | (simp only [xput, xnew]; omega)) ?_ | refine xn_ne (by first | assumption | omega | (simp only [xput, xnew]; omega)) ?_ | exact rfl) (c_PI_canBeEmpty (l := l) (e := e) (by repeat first | assumption | exact xg_eq | exact xn_eq (by first | rfl | omega) | refine xg_ne (by first | assumption | omega | (simp only [xput, xnew]; omega)) ?_ | refine xn_ne (by first | assumption | omega | (simp only [xput, xnew]; omega)) ?_ | exact rfl) hq3) (by omega) (fun r hh hp => ?_)
    obtain ⟨rfl, hz0⟩ := hp; have hz0 := hz0.symm; subst hz0
    refine wp_if_eq (tgt := 32) d_RO_add_25 (by decide) (fun hc2 => ?_) (fun hc2 => ?_)
    · rw [bI_0] at hc2
      refine wp_iconst (v := 0) d_RO_add_32 (by rfl) ?_
      exact fin false (by rw [hc2]; rfl)
    · rw [bI_0] at hc2
      refine wp_iconst (v := 1) d_RO_add_28 (by rfl) ?_
      refine wp_goto (tgt := 33) d_RO_add_29 (by decide) ?_
      exact fin true (by rw [b_t hc2]; rfl)
theorem c_CH_add {o : Option Nat} {lp : Value} {sz rs : Int32} {e re : Bool} (har : a ≠ r) (h1 : h.2.2 a = some (ob 2 [va_rf o, .int sz, .int (bI e)])) (h2 : h.2.2 r = some (ob 7 [.null, lp, .int rs, .int (bI re)])) :
    wpc E 0 m_CH_add [.ref a, .ref r] h (fun r' h' => r' = none ∧ xfr [a, r] h h' ∧ h'.2.2 a = some (ob 2 [.ref r, .int (sz + (rs + (if o = none then 0 else 2))), .int (bI (e || re))]) ∧ h'.2.2 r = some (ob 7 [va_rf o, lp, .int rs, .int (bI re)])) := by
  have hrf := rf_n "PatternSearch$Row" o
  have hrf2 := rf_f "PatternSearch$Row" o
  have key : ∀ (x : Int32), x = (if o = none then 0 else 2) → wp E 0 m_CH_add 21 (lv_args 0 [.ref a, .ref r]) [.int x, .int rs, .int sz, .ref a] h (fun r' h' => r' = none ∧ xfr [a, r] h h' ∧ h'.2.2 a = some (ob 2 [.ref r, .int (sz + (rs + (if o = none then 0 else 2))), .int (bI (e || re))]) ∧ h'.2.2 r = some (ob 7 [va_rf o, lp, .int rs, .int (bI re)])) := by
    intro x hx
    subst hx
    refine wp_iadd d_CH_add_21 ?_
    refine wp_iadd d_CH_add_22 ?_
    refine wp_put xf_CH_7 xg_CH (Or.inl rfl) d_CH_add_23 (by repeat first | assumption | exact xg_eq | exact xn_eq (by first | rfl | omega) | refine xg_ne (by first | assumption | omega | (simp only [xput, xnew]; omega)) ?_ | refine xn_ne (by first | assumption | omega | (simp only [xput, xnew]; omega)) ?_ | exact rfl) (by first | rfl | assumption | exact bI_z _) (by first | rfl | assumption | exact bI_f _) (Nat.le_of_ble_eq_true rfl) ?_
    refine wp_aload_n d_CH_add_26 rfl rfl ?_
    refine wp_aload_n d_CH_add_27 rfl rfl ?_
    refine wp_get xf_CH_20 d_CH_add_28 (by repeat first | assumption | exact xg_eq | exact xn_eq (by first | rfl | omega) | refine xg_ne (by first | assumption | omega | (simp only [xput, xnew]; omega)) ?_ | refine xn_ne (by first | assumption | omega | (simp only [xput, xnew]; omega)) ?_ | exact rfl) (by rfl) ?_
    have fin : ∀ x : Bool, x = (e || re) → wp E 0 m_CH_add 46 (lv_args 0 [.ref a, .ref r]) [.int (bI x), .ref a] (xput h a (ob 2 [va_rf o, .int (sz + (rs + (if o = none then 0 else 2))), .int (bI e)])) (fun r' h' => r' = none ∧ xfr [a, r] h h' ∧ h'.2.2 a = some (ob 2 [.ref r, .int (sz + (rs + (if o = none then 0 else 2))), .int (bI (e || re))]) ∧ h'.2.2 r = some (ob 7 [va_rf o, lp, .int rs, .int (bI re)])) := by
      intro x hx
      subst hx
      have hb1 := bI_z (e || re)
      have hb2 := bI_f (e || re)
      refine wp_put xf_CH_20 xg_CH (Or.inl rfl) d_CH_add_46 (by repeat first | assumption | exact xg_eq | exact xn_eq (by first | rfl | omega) | refine xg_ne (by first | assumption | omega | (simp only [xput, xnew]; omega)) ?_ | refine xn_ne (by first | assumption | omega | (simp only [xput, xnew]; omega)) ?_ | exact rfl) (by first | rfl | assumption | exact bI_z _) (by first | rfl | assumption | exact bI_f _) (Nat.le_of_ble_eq_true rfl) ?_
      refine wp_aload_n d_CH_add_49 rfl rfl ?_
      refine wp_aload_n d_CH_add_50 rfl rfl ?_
      refine wp_get xf_CH_16 d_CH_add_51 (by repeat first | assumption | exact xg_eq | exact xn_eq (by first | rfl | omega) | refine xg_ne (by first | assumption | omega | (simp only [xput, xnew]; omega)) ?_ | refine xn_ne (by first | assumption | omega | (simp only [xput, xnew]; omega)) ?_ | exact rfl) (by rfl) ?_
      refine wp_put xf_CH_27 xg_RO (Or.inl rfl) d_CH_add_54 (by repeat first | assumption | exact xg_eq | exact xn_eq (by first | rfl | omega) | refine xg_ne (by first | assumption | omega | (simp only [xput, xnew]; omega)) ?_ | refine xn_ne (by first | assumption | omega | (simp only [xput, xnew]; omega)) ?_ | exact rfl) (by first | rfl | assumption | exact bI_z _) (by first | rfl | assumption | exact bI_f _) (Nat.le_of_ble_eq_true rfl) ?_
      refine wp_aload_n d_CH_add_57 rfl rfl ?_
      refine wp_aload_n d_CH_add_58 rfl rfl ?_
      refine wp_put xf_CH_16 xg_CH (Or.inl rfl) d_CH_add_59 (by repeat first | assumption | exact xg_eq | exact xn_eq (by first | rfl | omega) | refine xg_ne (by first | assumption | omega | (simp only [xput, xnew]; omega)) ?_ | refine xn_ne (by first | assumption | omega | (simp only [xput, xnew]; omega)) ?_ | exact rfl) (by first | rfl | assumption | exact bI_z _) (by first | rfl | assumption | exact bI_f _) (Nat.le_of_ble_eq_true rfl) ?_
      refine wp_return d_CH_add_62 rfl ?_
      exact ⟨rfl, (((xfr.rf.put (by simp)).put (by simp)).put (by simp)).put (by simp), (by repeat first | assumption | exact xg_eq | exact xn_eq (by first | rfl | omega) | refine xg_ne (by first | assumption | omega | (simp only [xput, xnew]; omega)) ?_ | refine xn_ne (by first | assumption | omega | (simp only [xput, xnew]; omega)) ?_ | exact rfl), (by repeat first | assumption | exact xg_eq | exact xn_eq (by first | rfl | omega) | refine xg_ne (by first | assumption | omega | (simp only [xput, xnew]; omega)) ?_ | refine xn_ne (by first | assumption | omega | (simp only [xput, xnew]; omega)) ?_ | exact rfl)⟩
    refine wp_if_ne (tgt := 41) d_CH_add_31 (by decide) (fun hc => ?_) (fun hc => ?_)
    · rw [bI_0] at hc
      refine wp_iconst (v := 1) d_CH_add_41 (by rfl) ?_
      refine wp_goto (tgt := 46) d_CH_add_42 (by decide) ?_
      exact fin true (by rw [b_t hc]; rfl)
    · rw [bI_0] at hc
      refine wp_aload_n d_CH_add_34 rfl rfl ?_
      refine wp_get xf_CH_24 d_CH_add_35 (by repeat first | assumption | exact xg_eq | exact xn_eq (by first | rfl | omega) | refine xg_ne (by first | assumption | omega | (simp only [xput, xnew]; omega)) ?_ | refine xn_ne (by first | assumption | omega | (simp only [xput, xnew]; omega)) ?_ | exact rfl) (by rfl) ?_
      refine wp_if_eq (tgt := 45) d_CH_add_38 (by decide) (fun hc2 => ?_) (fun hc2 => ?_)
      · rw [bI_0] at hc2
        refine wp_iconst (v := 0) d_CH_add_45 (by rfl) ?_
        exact fin false (by rw [hc, hc2]; rfl)
      · rw [bI_0] at hc2
        refine wp_iconst (v := 1) d_CH_add_41 (by rfl) ?_
        refine wp_goto (tgt := 46) d_CH_add_42 (by decide) ?_
        exact fin true (by rw [b_t hc2]; simp)
  refine wpc_of rfl (Nat.le_of_ble_eq_true rfl) ?_
  refine wp_aload_n d_CH_add_0 rfl rfl ?_
  refine wp_dup d_CH_add_1 rfl ?_
  refine wp_get xf_CH_7 d_CH_add_2 (by repeat first | assumption | exact xg_eq | exact xn_eq (by first | rfl | omega) | refine xg_ne (by first | assumption | omega | (simp only [xput, xnew]; omega)) ?_ | refine xn_ne (by first | assumption | omega | (simp only [xput, xnew]; omega)) ?_ | exact rfl) (by rfl) ?_
  refine wp_aload_n d_CH_add_5 rfl rfl ?_
  refine wp_get xf_CH_13 d_CH_add_6 (by repeat first | assumption | exact xg_eq | exact xn_eq (by first | rfl | omega) | refine xg_ne (by first | assumption | omega | (simp only [xput, xnew]; omega)) ?_ | refine xn_ne (by first | assumption | omega | (simp only [xput, xnew]; omega)) ?_ | exact rfl) (by rfl) ?_
  refine wp_aload_n d_CH_add_9 rfl rfl ?_
  refine wp_get xf_CH_16 d_CH_add_10 (by repeat first | assumption | exact xg_eq | exact xn_eq (by first | rfl | omega) | refine xg_ne (by first | assumption | omega | (simp only [xput, xnew]; omega)) ?_ | refine xn_ne (by first | assumption | omega | (simp only [xput, xnew]; omega)) ?_ | exact rfl) (by rfl) ?_
  cases o with
  | none =>
    refine wp_ifnonnullN d_CH_add_13 ?_
    refine wp_iconst (v := 0) d_CH_add_16 (by rfl) ?_
    refine wp_goto (tgt := 21) d_CH_add_17 (by decide) ?_
    exact key 0 rfl
  | some q =>
    refine wp_ifnonnull (tgt := 20) d_CH_add_13 (by decide) ?_
    refine wp_iconst (v := 2) d_CH_add_20 (by rfl) ?_
    exact key 2 rfl
end TR
