def Sg (E : xE) (h : xH) (a r n : Nat) (f : Nat → Int32) (len : Nat) : Prop := h.2.2 a = some (ob 8 [.ref r, .int (nI len)]) ∧ h.2.2 r = some (aI E n f) ∧ a ≠ r ∧ len ≤ n ∧ n ≤ 1000
def sgAt (f : Nat → Int32) (len : Nat) (p : Int32) : Int32 := if p < 0 then -2 else if nI len ≤ p then -2 else f p.toNatClampNeg
section SI
variable {E : xE} (hE : xOK E) {h : xH} {a r n len : Nat} {f : Nat → Int32}
theorem c_SI_length (hs : Sg E h a r n f len) : wpc E 0 m_SI_length [.ref a] h (fun r' h' => r' = some (.int (nI len)) ∧ h' = h) := by
  obtain ⟨h1, h2, h3, h4, h5⟩ := hs
  refine wpc_of rfl (Nat.le_of_ble_eq_true rfl) ?_
  refine wp_aload_n d_SI_length_0 rfl rfl ?_
  refine wp_get xf_SI_15 d_SI_length_1 (by repeat first | assumption | exact xg_eq | exact xn_eq (by first | rfl | omega) | refine xg_ne (by first | assumption | omega | (simp only [xput, xnew]; omega)) ?_ | refine xn_ne (by first | assumption | omega | (simp only [xput, xnew]; omega)) ?_ | exact rfl) (by rfl) ?_
  refine wp_ireturn d_SI_length_4 rfl (by first | rfl | assumption) ?_
  exact ⟨rfl, rfl⟩
theorem c_SI_clear (hs : Sg E h a r n f len) : wpc E 0 m_SI_clear [.ref a] h (fun r' h' => r' = none ∧ h' = xput h a (ob 8 [.ref r, .int (nI 0)])) := by
  obtain ⟨h1, h2, h3, h4, h5⟩ := hs
  refine wpc_of rfl (Nat.le_of_ble_eq_true rfl) ?_
  refine wp_aload_n d_SI_clear_0 rfl rfl ?_
  refine wp_iconst (v := 0) d_SI_clear_1 (by rfl) ?_
  refine wp_put xf_SI_15 xg_SI (Or.inl rfl) d_SI_clear_2 (by repeat first | assumption | exact xg_eq | exact xn_eq (by first | rfl | omega) | refine xg_ne (by first | assumption | omega | (simp only [xput, xnew]; omega)) ?_ | refine xn_ne (by first | assumption | omega | (simp only [xput, xnew]; omega)) ?_ | exact rfl) (by first | rfl | assumption | exact bI_z _) (by first | rfl | assumption | exact bI_f _) (Nat.le_of_ble_eq_true rfl) ?_
  refine wp_return d_SI_clear_5 rfl ?_
  exact ⟨rfl, rfl⟩
theorem c_SI_isFull (hE : xOK E) (hs : Sg E h a r n f len) : wpc E 0 m_SI_isFull [.ref a] h (fun r' h' => r' = some (.int (if n ≤ len then 1 else 0)) ∧ h' = h) := by
  obtain ⟨h1, h2, h3, h4, h5⟩ := hs
  refine wpc_of rfl (Nat.le_of_ble_eq_true rfl) ?_
  refine wp_aload_n d_SI_isFull_0 rfl rfl ?_
  refine wp_get xf_SI_15 d_SI_isFull_1 (by repeat first | assumption | exact xg_eq | exact xn_eq (by first | rfl | omega) | refine xg_ne (by first | assumption | omega | (simp only [xput, xnew]; omega)) ?_ | refine xn_ne (by first | assumption | omega | (simp only [xput, xnew]; omega)) ?_ | exact rfl) (by rfl) ?_
  refine wp_aload_n d_SI_isFull_4 rfl rfl ?_
  refine wp_get xf_SI_9 d_SI_isFull_5 (by repeat first | assumption | exact xg_eq | exact xn_eq (by first | rfl | omega) | refine xg_ne (by first | assumption | omega | (simp only [xput, xnew]; omega)) ?_ | refine xn_ne (by first | assumption | omega | (simp only [xput, xnew]; omega)) ?_ | exact rfl) (by rfl) ?_
  refine wp_aln d_SI_isFull_8 (by repeat first | assumption | exact xg_eq | exact xn_eq (by first | rfl | omega) | refine xg_ne (by first | assumption | omega | (simp only [xput, xnew]; omega)) ?_ | refine xn_ne (by first | assumption | omega | (simp only [xput, xnew]; omega)) ?_ | exact rfl) (by first | exact hE.i | exact hE.j | exact hE.z) ?_
  refine wp_icmp_lt (tgt := 16) d_SI_isFull_9 (by decide) (fun hc => ?_) (fun hc => ?_)
  · rw [nI_ltI (by omega) (by omega)] at hc
    refine wp_iconst (v := 0) d_SI_isFull_16 (by rfl) ?_
    refine wp_ireturn d_SI_isFull_17 rfl (by first | rfl | assumption) ?_
    rw [if_neg (by omega)]
    exact ⟨rfl, rfl⟩
  · rw [nI_ltI (by omega) (by omega)] at hc
    refine wp_iconst (v := 1) d_SI_isFull_12 (by rfl) ?_
    refine wp_goto (tgt := 17) d_SI_isFull_13 (by decide) ?_
    refine wp_ireturn d_SI_isFull_17 rfl (by first | rfl | assumption) ?_
    rw [if_pos (by omega)]
    exact ⟨rfl, rfl⟩
theorem c_SI_at (hE : xOK E) (hs : Sg E h a r n f len) (p : Int32) : wpc E 0 m_SI_at [.ref a, .int p] h (fun r' h' => r' = some (.int (sgAt f len p)) ∧ h' = h) := by
  obtain ⟨h1, h2, h3, h4, h5⟩ := hs
  refine wpc_of rfl (Nat.le_of_ble_eq_true rfl) ?_
  refine wp_iload_n d_SI_at_0 rfl rfl ?_
  refine wp_if_lt (tgt := 21) d_SI_at_1 (by decide) (fun hc => ?_) (fun hc => ?_)
  · refine wp_bipush (v := (-2)) d_SI_at_21 (by rfl) ?_
    refine wp_ireturn d_SI_at_23 rfl (by first | rfl | assumption) ?_
    rw [sgAt, if_pos hc]
    exact ⟨rfl, rfl⟩
  · refine wp_iload_n d_SI_at_4 rfl rfl ?_
    refine wp_aload_n d_SI_at_5 rfl rfl ?_
    refine wp_get xf_SI_15 d_SI_at_6 (by repeat first | assumption | exact xg_eq | exact xn_eq (by first | rfl | omega) | refine xg_ne (by first | assumption | omega | (simp only [xput, xnew]; omega)) ?_ | refine xn_ne (by first | assumption | omega | (simp only [xput, xnew]; omega)) ?_ | exact rfl) (by rfl) ?_
    refine wp_icmp_ge (tgt := 21) d_SI_at_9 (by decide) (fun hc2 => ?_) (fun hc2 => ?_)
    · refine wp_bipush (v := (-2)) d_SI_at_21 (by rfl) ?_
      refine wp_ireturn d_SI_at_23 rfl (by first | rfl | assumption) ?_
      rw [sgAt, if_neg hc, if_pos hc2]
      exact ⟨rfl, rfl⟩
    · refine wp_aload_n d_SI_at_12 rfl rfl ?_
      refine wp_get xf_SI_9 d_SI_at_13 (by repeat first | assumption | exact xg_eq | exact xn_eq (by first | rfl | omega) | refine xg_ne (by first | assumption | omega | (simp only [xput, xnew]; omega)) ?_ | refine xn_ne (by first | assumption | omega | (simp only [xput, xnew]; omega)) ?_ | exact rfl) (by rfl) ?_
      refine wp_iload_n d_SI_at_16 rfl rfl ?_
      obtain ⟨j, hj, rfl⟩ := nI_of hc
      rw [nI_leI (by omega) hj] at hc2
      refine wp_iald d_SI_at_17 (by repeat first | assumption | exact xg_eq | exact xn_eq (by first | rfl | omega) | refine xg_ne (by first | assumption | omega | (simp only [xput, xnew]; omega)) ?_ | refine xn_ne (by first | assumption | omega | (simp only [xput, xnew]; omega)) ?_ | exact rfl) hE.i (vp_in_nI (by omega) (by omega)) ?_
      refine wp_goto (tgt := 23) d_SI_at_18 (by decide) ?_
      refine wp_ireturn d_SI_at_23 rfl (by first | rfl | assumption) ?_
      rw [sgAt, if_neg hc, if_neg (by rw [nI_leI (by omega) hj]; exact hc2)]
      exact ⟨rfl, rfl⟩
theorem c_SI_add (hE : xOK E) (hs : Sg E h a r n f len) (v : Int32) : wpc E 1 m_SI_add [.ref a, .int v] h (fun r' h' => r' = none ∧ h' = if n ≤ len then h else xput (xput h r (aI E n (upd f len v))) a (ob 8 [.ref r, .int (nI (len + 1))])) := by
  obtain ⟨h1, h2, h3, h4, h5⟩ := id hs
  refine wpc_of rfl (Nat.le_of_ble_eq_true rfl) ?_
  refine wp_aload_n d_SI_add_0 rfl rfl ?_
  refine wp_callV0 xc_SI_19 d_SI_add_1 (Nat.le_of_ble_eq_true rfl) (by repeat first | assumption | exact xg_eq | exact xn_eq (by first | rfl | omega) | refine xg_ne (by first | assumption | omega | (simp only [xput, xnew]; omega)) ?_ | refine xn_ne (by first | assumption | omega | (simp only [xput, xnew]; omega)) ?_ | exact rfl) (c_SI_isFull hE hs) (by omega) (fun r hh hp => ?_)
  obtain ⟨rfl, rfl⟩ := hp
  refine wp_if_ne (tgt := 27) d_SI_add_4 (by decide) (fun hc => ?_) (fun hc => ?_)
  · refine wp_return d_SI_add_27 rfl ?_
    have : n ≤ len := Nat.not_lt.mp (fun q => hc (if_neg (by omega)))
    rw [if_pos this]
    exact ⟨rfl, rfl⟩
  · have hlt : ¬ n ≤ len := fun q => by rw [if_pos q] at hc; cases hc
    refine wp_aload_n d_SI_add_7 rfl rfl ?_
    refine wp_get xf_SI_9 d_SI_add_8 (by repeat first | assumption | exact xg_eq | exact xn_eq (by first | rfl | omega) | refine xg_ne (by first | assumption | omega | (simp only [xput, xnew]; omega)) ?_ | refine xn_ne (by first | assumption | omega | (simp only [xput, xnew]; omega)) ?_ | exact rfl) (by rfl) ?_
    refine wp_aload_n d_SI_add_11 rfl rfl ?_
    refine wp_get xf_SI_15 d_SI_add_12 (by repeat first | assumption | exact xg_eq | exact xn_eq (by first | rfl | omega) | refine xg_ne (by first | assumption | omega | (simp only [xput, xnew]; omega)) ?_ | refine xn_ne (by first | assumption | omega | (simp only [xput, xnew]; omega)) ?_ | exact rfl) (by rfl) ?_
    refine wp_iload_n d_SI_add_15 rfl rfl ?_
    refine wp_iast d_SI_add_16 (by repeat first | assumption | exact xg_eq | exact xn_eq (by first | rfl | omega) | refine xg_ne (by first | assumption | omega | (simp only [xput, xnew]; omega)) ?_ | refine xn_ne (by first | assumption | omega | (simp only [xput, xnew]; omega)) ?_ | exact rfl) hE.i (vp_in_nI (by omega) (by omega)) ?_
    refine wp_aload_n d_SI_add_17 rfl rfl ?_
    refine wp_dup d_SI_add_18 rfl ?_
    refine wp_get xf_SI_15 d_SI_add_19 (by repeat first | assumption | exact xg_eq | exact xn_eq (by first | rfl | omega) | refine xg_ne (by first | assumption | omega | (simp only [xput, xnew]; omega)) ?_ | refine xn_ne (by first | assumption | omega | (simp only [xput, xnew]; omega)) ?_ | exact rfl) (by rfl) ?_
    refine wp_iconst (v := 1) d_SI_add_22 (by rfl) ?_
    refine wp_iadd d_SI_add_23 ?_
    refine wp_put xf_SI_15 xg_SI (Or.inl rfl) d_SI_add_24 (by repeat first | assumption | exact xg_eq | exact xn_eq (by first | rfl | omega) | refine xg_ne (by first | assumption | omega | (simp only [xput, xnew]; omega)) ?_ | refine xn_ne (by first | assumption | omega | (simp only [xput, xnew]; omega)) ?_ | exact rfl) (by first | rfl | assumption | exact bI_z _) (by first | rfl | assumption | exact bI_f _) (Nat.le_of_ble_eq_true rfl) ?_
    refine wp_return d_SI_add_27 rfl ?_
    rw [if_neg hlt, nI_clamp (by omega), nI_1]
    exact ⟨rfl, rfl⟩
end SI
