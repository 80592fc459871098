def pNil : PS0 := (0, fun _ => 0, fun _ => 0, fun _ => 0, fun _ => 0, fun _ => 0, fun _ => 0)
section CI
variable {E : xE} {h : xH}
theorem c_PR_init (hE : xOK E) {p : Nat} (hp0 : p + 1 = xb E + h.1) (h1 : h.2.2 p = some (ob 5 [.null, .null, .null, .null, .null, .null, .int 0, .int 0])) : wpc E 1 m_PR_init [.ref p] h (fun r' h' => r' = none ∧ xgr E [p] 6 726 h h' ∧ Pg E h' p pNil 0) := by
  have e1 : xb E + h.1 = p + 1 := hp0.symm
  refine wpc_of rfl (Nat.le_of_ble_eq_true rfl) ?_
  refine wp_aload_n d_PR_init_0 rfl rfl ?_
  refine wp_objInit xo_PR_3 d_PR_init_1 (Nat.le_of_ble_eq_true rfl) (by omega) ?_
  refine wp_aload_n d_PR_init_4 rfl rfl ?_
  refine wp_bipush (v := 121) d_PR_init_5 (by rfl) ?_
  refine wp_newa (ty := .int) (N := 121) (a0 := (121, .inl (fun _ => 0))) rfl ka_int d_PR_init_7 hE.i rfl (fun _ h9 => h9) (by decide) (by decide) (by decide) ?_
  refine wp_put xf_PR_11 xg_PR (Or.inr ⟨rfl, rfl, rfl⟩) d_PR_init_9 (by repeat first | assumption | exact xg_eq | exact xn_eq (by first | rfl | omega) | refine xg_ne (by first | assumption | omega | (simp only [xput, xnew]; omega)) ?_ | refine xn_ne (by first | assumption | omega | (simp only [xput, xnew]; omega)) ?_ | exact rfl) (by first | rfl | assumption | exact bI_z _) (by first | rfl | assumption | exact bI_f _) (Nat.le_of_ble_eq_true rfl) ?_
  refine wp_aload_n d_PR_init_12 rfl rfl ?_
  refine wp_bipush (v := 121) d_PR_init_13 (by rfl) ?_
  refine wp_newa (ty := .int) (N := 121) (a0 := (121, .inl (fun _ => 0))) rfl ka_int d_PR_init_15 hE.i rfl (fun _ h9 => h9) (by decide) (by decide) (by decide) ?_
  refine wp_put xf_PR_15 xg_PR (Or.inr ⟨rfl, rfl, rfl⟩) d_PR_init_17 (by repeat first | assumption | exact xg_eq | exact xn_eq (by first | rfl | omega) | refine xg_ne (by first | assumption | omega | (simp only [xput, xnew]; omega)) ?_ | refine xn_ne (by first | assumption | omega | (simp only [xput, xnew]; omega)) ?_ | exact rfl) (by first | rfl | assumption | exact bI_z _) (by first | rfl | assumption | exact bI_f _) (Nat.le_of_ble_eq_true rfl) ?_
  refine wp_aload_n d_PR_init_20 rfl rfl ?_
  refine wp_bipush (v := 121) d_PR_init_21 (by rfl) ?_
  refine wp_newa (ty := .int) (N := 121) (a0 := (121, .inl (fun _ => 0))) rfl ka_int d_PR_init_23 hE.i rfl (fun _ h9 => h9) (by decide) (by decide) (by decide) ?_
  refine wp_put xf_PR_18 xg_PR (Or.inr ⟨rfl, rfl, rfl⟩) d_PR_init_25 (by repeat first | assumption | exact xg_eq | exact xn_eq (by first | rfl | omega) | refine xg_ne (by first | assumption | omega | (simp only [xput, xnew]; omega)) ?_ | refine xn_ne (by first | assumption | omega | (simp only [xput, xnew]; omega)) ?_ | exact rfl) (by first | rfl | assumption | exact bI_z _) (by first | rfl | assumption | exact bI_f _) (Nat.le_of_ble_eq_true rfl) ?_
  refine wp_aload_n d_PR_init_28 rfl rfl ?_
  refine wp_bipush (v := 121) d_PR_init_29 (by rfl) ?_
  refine wp_newa (ty := .int) (N := 121) (a0 := (121, .inl (fun _ => 0))) rfl ka_int d_PR_init_31 hE.i rfl (fun _ h9 => h9) (by decide) (by decide) (by decide) ?_
  refine wp_put xf_PR_21 xg_PR (Or.inr ⟨rfl, rfl, rfl⟩) d_PR_init_33 (by repeat first | assumption | exact xg_eq | exact xn_eq (by first | rfl | omega) | refine xg_ne (by first | assumption | omega | (simp only [xput, xnew]; omega)) ?_ | refine xn_ne (by first | assumption | omega | (simp only [xput, xnew]; omega)) ?_ | exact rfl) (by first | rfl | assumption | exact bI_z _) (by first | rfl | assumption | exact bI_f _) (Nat.le_of_ble_eq_true rfl) ?_
  refine wp_aload_n d_PR_init_36 rfl rfl ?_
  refine wp_bipush (v := 121) d_PR_init_37 (by rfl) ?_
  refine wp_newa (ty := .long) (N := 121) (a0 := (121, .inr (.inl (fun _ => 0)))) rfl ka_long d_PR_init_39 hE.j rfl (fun _ h9 => h9) (by decide) (by decide) (by decide) ?_
  refine wp_put xf_PR_24 xg_PR (Or.inr ⟨rfl, rfl, rfl⟩) d_PR_init_41 (by repeat first | assumption | exact xg_eq | exact xn_eq (by first | rfl | omega) | refine xg_ne (by first | assumption | omega | (simp only [xput, xnew]; omega)) ?_ | refine xn_ne (by first | assumption | omega | (simp only [xput, xnew]; omega)) ?_ | exact rfl) (by first | rfl | assumption | exact bI_z _) (by first | rfl | assumption | exact bI_f _) (Nat.le_of_ble_eq_true rfl) ?_
  refine wp_aload_n d_PR_init_44 rfl rfl ?_
  refine wp_bipush (v := 121) d_PR_init_45 (by rfl) ?_
  refine wp_newa (ty := .long) (N := 121) (a0 := (121, .inr (.inl (fun _ => 0)))) rfl ka_long d_PR_init_47 hE.j rfl (fun _ h9 => h9) (by decide) (by decide) (by decide) ?_
  refine wp_put xf_PR_28 xg_PR (Or.inr ⟨rfl, rfl, rfl⟩) d_PR_init_49 (by repeat first | assumption | exact xg_eq | exact xn_eq (by first | rfl | omega) | refine xg_ne (by first | assumption | omega | (simp only [xput, xnew]; omega)) ?_ | refine xn_ne (by first | assumption | omega | (simp only [xput, xnew]; omega)) ?_ | exact rfl) (by first | rfl | assumption | exact bI_z _) (by first | rfl | assumption | exact bI_f _) (Nat.le_of_ble_eq_true rfl) ?_
  refine wp_return d_PR_init_52 rfl ?_
  simp only [xput, xnew, e1, show xb E + (h.1 + 1) = p + 2 by omega, show xb E + (h.1 + 1 + 1) = p + 3 by omega, show xb E + (h.1 + 1 + 1 + 1) = p + 4 by omega, show xb E + (h.1 + 1 + 1 + 1 + 1) = p + 5 by omega, show xb E + (h.1 + 1 + 1 + 1 + 1 + 1) = p + 6 by omega]
  refine ⟨trivial, ⟨rfl, rfl, fun q q1 q2 => ?_⟩, ?_, ?_, ?_, ?_, ?_, ?_, ?_, Nat.zero_le _⟩
  · have : q ≠ p := fun e => q2 (by rw [e]; simp)
    simp only [va_up]
    rw [if_neg (by omega), if_neg (by omega), if_neg (by omega), if_neg (by omega), if_neg (by omega), if_neg (by omega), if_neg (by omega), if_neg (by omega), if_neg (by omega), if_neg (by omega), if_neg (by omega), if_neg (by omega)]
  all_goals (simp [va_up, pNil]; try rfl)
theorem c_MA_init (hE : xOK E) {a : Nat} (ha0 : a + 1 = xb E + h.1) (h1 : h.2.2 a = some (ob 3 [.null, .null, .null, .int 0])) : wpc E 2 m_MA_init [.ref a] h (fun r' h' => r' = none ∧ xgr E [a] 9 976 h h' ∧ Ma E h' a pNil 0 (fun _ => 0) (fun _ => 0) 0) := by
  have e1 : xb E + h.1 = a + 1 := ha0.symm
  refine wpc_of rfl (Nat.le_of_ble_eq_true rfl) ?_
  refine wp_aload_n d_MA_init_0 rfl rfl ?_
  refine wp_objInit xo_MA_3 d_MA_init_1 (Nat.le_of_ble_eq_true rfl) (by omega) ?_
  refine wp_aload_n d_MA_init_4 rfl rfl ?_
  refine wp_new xw_MA_9 d_MA_init_5 ?_
  refine wp_dup d_MA_init_8 rfl ?_
  rw [e1]
  generalize hg : xnew E h 8 _ = g2
  have q2 : g2.1 = h.1 + 1 ∧ g2.2.1 = h.2.1 + 8 ∧ ∀ q, q < xb E + h.1 → g2.2.2 q = h.2.2 q := by rw [← hg]; exact ⟨rfl, rfl, fun q hq => (by repeat first | assumption | exact xg_eq | exact xn_eq (by first | rfl | omega) | refine xg_ne (by first | assumption | omega | (simp only [xput, xnew]; omega)) ?_ | refine xn_ne (by first | assumption | omega | (simp only [xput, xnew]; omega)) ?_ | exact rfl)⟩
  have o2 : g2.2.2 (a + 1) = some (ob 5 [.null, .null, .null, .null, .null, .null, .int 0, .int 0]) := by rw [← hg]; exact xn_eq (by omega)
  clear hg
  refine wp_callI0 xc_MA_11 d_MA_init_9 (Nat.le_of_ble_eq_true rfl) (c_PR_init hE (p := a + 1) (by omega) o2) (by omega) (fun r g3 hp => ?_)
  obtain ⟨rfl, ⟨a1, a2, a3⟩, p3⟩ := hp
  have q3 : ∀ q, q < xb E + h.1 → g3.2.2 q = h.2.2 q := fun q hq => (a3 q (by omega) (by simp; omega)).trans (q2.2.2 q hq)
  have o3 := (q3 a (by omega)).trans h1
  refine wp_put xf_MA_12 xg_MA (Or.inr ⟨rfl, rfl, rfl⟩) d_MA_init_12 (by repeat first | assumption | exact xg_eq | exact xn_eq (by first | rfl | omega) | refine xg_ne (by first | assumption | omega | (simp only [xput, xnew]; omega)) ?_ | refine xn_ne (by first | assumption | omega | (simp only [xput, xnew]; omega)) ?_ | exact rfl) (by first | rfl | assumption | exact bI_z _) (by first | rfl | assumption | exact bI_f _) (Nat.le_of_ble_eq_true rfl) ?_
  refine wp_aload_n d_MA_init_15 rfl rfl ?_
  refine wp_bipush (v := 121) d_MA_init_16 (by rfl) ?_
  refine wp_newa (ty := .int) (N := 121) (a0 := (121, .inl (fun _ => 0))) rfl ka_int d_MA_init_18 hE.i rfl (fun _ h9 => h9) (by decide) (by decide) (by decide) ?_
  refine wp_put xf_MA_18 xg_MA (Or.inr ⟨rfl, rfl, rfl⟩) d_MA_init_20 (by repeat first | assumption | exact xg_eq | exact xn_eq (by first | rfl | omega) | refine xg_ne (by first | assumption | omega | (simp only [xput, xnew]; omega)) ?_ | refine xn_ne (by first | assumption | omega | (simp only [xput, xnew]; omega)) ?_ | exact rfl) (by first | rfl | assumption | exact bI_z _) (by first | rfl | assumption | exact bI_f _) (Nat.le_of_ble_eq_true rfl) ?_
  refine wp_aload_n d_MA_init_23 rfl rfl ?_
  refine wp_bipush (v := 121) d_MA_init_24 (by rfl) ?_
  refine wp_newa (ty := .int) (N := 121) (a0 := (121, .inl (fun _ => 0))) rfl ka_int d_MA_init_26 hE.i rfl (fun _ h9 => h9) (by decide) (by decide) (by decide) ?_
  refine wp_put xf_MA_22 xg_MA (Or.inr ⟨rfl, rfl, rfl⟩) d_MA_init_28 (by repeat first | assumption | exact xg_eq | exact xn_eq (by first | rfl | omega) | refine xg_ne (by first | assumption | omega | (simp only [xput, xnew]; omega)) ?_ | refine xn_ne (by first | assumption | omega | (simp only [xput, xnew]; omega)) ?_ | exact rfl) (by first | rfl | assumption | exact bI_z _) (by first | rfl | assumption | exact bI_f _) (Nat.le_of_ble_eq_true rfl) ?_
  refine wp_return d_MA_init_31 rfl ?_
  have f1 : xb E + g3.1 = a + 8 := by omega
  simp only [xput, xnew, f1, show xb E + (g3.1 + 1) = a + 9 by omega]
  refine ⟨trivial, ⟨?_, ?_, fun q q1 q2 => ?_⟩, ?_, ?_, ?_, ?_, Nat.zero_le _⟩
  · show g3.1 + 1 + 1 = h.1 + 9; omega
  · show g3.2.1 + 121 + 121 = h.2.1 + 976; omega
  · have : q ≠ a := fun e => q2 (by rw [e]; simp)
    simp only [va_up]
    rw [if_neg (by omega), if_neg (by omega), if_neg (by omega), if_neg (by omega), if_neg (by omega)]
    exact q3 q q1
  · simp [va_up]; rfl
  · refine p3.mv (fun z z1 z2 => ?_)
    simp only [va_up]
    rw [if_neg (by omega), if_neg (by omega), if_neg (by omega), if_neg (by omega), if_neg (by omega)]
  · simp [va_up]
  · simp [va_up]
def csNew : CS := ([], [], [], (pNil, 0, fun _ => 0, fun _ => 0, 0), filled 14 (-2) (fun _ => 0), filled 14 (-2) (fun _ => 0), false, 0)
theorem c_PS_init (hE : xOK E) (hn : h.1 = 1) (h1 : h.2.2 (xb E) = some (ob 9 [.null, .null, .null, .null, .null, .null, .int 0, .int 0])) : wpc E 3 m_PS_init [.ref (xb E)] h (fun r' h' => r' = none ∧ h'.1 = 21 ∧ h'.2.1 = h.2.1 + 1104 ∧ Cl E h' csNew) := by
  refine wpc_of rfl (Nat.le_of_ble_eq_true rfl) ?_
  refine wp_aload_n d_PS_init_0 rfl rfl ?_
  refine wp_objInit xo_PS_1 d_PS_init_1 (Nat.le_of_ble_eq_true rfl) (by omega) ?_
  refine wp_aload_n d_PS_init_4 rfl rfl ?_
  refine wp_new xw_PS_7 d_PS_init_5 ?_
  refine wp_dup d_PS_init_8 rfl ?_
  refine wp_bipush (v := 28) d_PS_init_9 (by rfl) ?_
  generalize hg : xnew E h 2 _ = g1
  have n1 : g1.1 = 2 ∧ g1.2.1 = h.2.1 + 2 := by rw [← hg]; exact ⟨by show h.1 + 1 = 2; omega, rfl⟩
  have o1 : g1.2.2 (xb E) = some (ob 9 [.null, .null, .null, .null, .null, .null, .int 0, .int 0]) := by rw [← hg]; exact (by repeat first | assumption | exact xg_eq | exact xn_eq (by first | rfl | omega) | refine xg_ne (by first | assumption | omega | (simp only [xput, xnew]; omega)) ?_ | refine xn_ne (by first | assumption | omega | (simp only [xput, xnew]; omega)) ?_ | exact rfl)
  have p1 : g1.2.2 (xb E + 1) = some (ob 8 [.null, .int 0]) := by rw [← hg]; exact xn_eq (by omega)
  clear hg
  rw [hn]
  refine wp_callI1 xc_PS_11 d_PS_init_11 (Nat.le_of_ble_eq_true rfl) (c_SI_init hE (n := 28) (by decide) p1 (by omega)) (by omega) (fun r g2 hp => ?_)
  obtain ⟨rfl, ⟨a1, a2, a3⟩, s2⟩ := hp
  rw [n1.1] at s2
  have o2 := (a3 (xb E) (by omega) (by simp)).trans o1
  refine wp_put xf_PS_14 xg_PS (Or.inr ⟨rfl, rfl, rfl⟩) d_PS_init_14 (by repeat first | assumption | exact xg_eq | exact xn_eq (by first | rfl | omega) | refine xg_ne (by first | assumption | omega | (simp only [xput, xnew]; omega)) ?_ | refine xn_ne (by first | assumption | omega | (simp only [xput, xnew]; omega)) ?_ | exact rfl) (by first | rfl | assumption | exact bI_z _) (by first | rfl | assumption | exact bI_f _) (Nat.le_of_ble_eq_true rfl) ?_
  refine wp_aload_n d_PS_init_17 rfl rfl ?_
  refine wp_new xw_PS_7 d_PS_init_18 ?_
  refine wp_dup d_PS_init_21 rfl ?_
  refine wp_bipush (v := 30) d_PS_init_22 (by rfl) ?_
  generalize hg : xnew E (xput g2 (xb E) _) 2 _ = g3
  have n3 : g3.1 = 4 ∧ g3.2.1 = h.2.1 + 32 := by rw [← hg]; exact ⟨by show g2.1 + 1 = 4; omega, by show g2.2.1 + 2 = _; omega⟩
  have o3 : g3.2.2 (xb E) = some (ob 9 [.ref (xb E + 1), .null, .null, .null, .null, .null, .int 0, .int 0]) := by rw [← hg]; exact (by repeat first | assumption | exact xg_eq | exact xn_eq (by first | rfl | omega) | refine xg_ne (by first | assumption | omega | (simp only [xput, xnew]; omega)) ?_ | refine xn_ne (by first | assumption | omega | (simp only [xput, xnew]; omega)) ?_ | exact rfl)
  have p3 : g3.2.2 (xb E + 3) = some (ob 8 [.null, .int 0]) := by rw [← hg]; exact xn_eq (by show _ = xb E + g2.1; omega)
  have s3 : SgL E g3 (xb E + 1) (xb E + 2) 28 [] := s2.mv (by rw [← hg]; exact (by repeat first | assumption | exact xg_eq | exact xn_eq (by first | rfl | omega) | refine xg_ne (by first | assumption | omega | (simp only [xput, xnew]; omega)) ?_ | refine xn_ne (by first | assumption | omega | (simp only [xput, xnew]; omega)) ?_ | exact rfl)) (by rw [← hg]; exact (by repeat first | assumption | exact xg_eq | exact xn_eq (by first | rfl | omega) | refine xg_ne (by first | assumption | omega | (simp only [xput, xnew]; omega)) ?_ | refine xn_ne (by first | assumption | omega | (simp only [xput, xnew]; omega)) ?_ | exact rfl))
  simp only [xput]
  rw [show g2.1 = 3 by omega]
  clear hg
  refine wp_callI1 xc_PS_11 d_PS_init_24 (Nat.le_of_ble_eq_true rfl) (c_SI_init hE (n := 30) (by decide) p3 (by omega)) (by omega) (fun r g4 hp => ?_)
  obtain ⟨rfl, ⟨b1, b2, b3⟩, t4⟩ := hp
  rw [n3.1] at t4
  have o4 := (b3 (xb E) (by omega) (by simp)).trans o3
  have s4 := s3.mv (b3 _ (by omega) (by simp)) (b3 _ (by omega) (by simp))
  refine wp_put xf_PS_18 xg_PS (Or.inr ⟨rfl, rfl, rfl⟩) d_PS_init_27 (by repeat first | assumption | exact xg_eq | exact xn_eq (by first | rfl | omega) | refine xg_ne (by first | assumption | omega | (simp only [xput, xnew]; omega)) ?_ | refine xn_ne (by first | assumption | omega | (simp only [xput, xnew]; omega)) ?_ | exact rfl) (by first | rfl | assumption | exact bI_z _) (by first | rfl | assumption | exact bI_f _) (Nat.le_of_ble_eq_true rfl) ?_
  refine wp_aload_n d_PS_init_30 rfl rfl ?_
  refine wp_new xw_PS_7 d_PS_init_31 ?_
  refine wp_dup d_PS_init_34 rfl ?_
  refine wp_bipush (v := 30) d_PS_init_35 (by rfl) ?_
  generalize hg : xnew E (xput g4 (xb E) _) 2 _ = g5
  have n5 : g5.1 = 6 ∧ g5.2.1 = h.2.1 + 64 := by rw [← hg]; exact ⟨by show g4.1 + 1 = 6; omega, by show g4.2.1 + 2 = _; omega⟩
  have o5 : g5.2.2 (xb E) = some (ob 9 [.ref (xb E + 1), .ref (xb E + 3), .null, .null, .null, .null, .int 0, .int 0]) := by rw [← hg]; exact (by repeat first | assumption | exact xg_eq | exact xn_eq (by first | rfl | omega) | refine xg_ne (by first | assumption | omega | (simp only [xput, xnew]; omega)) ?_ | refine xn_ne (by first | assumption | omega | (simp only [xput, xnew]; omega)) ?_ | exact rfl)
  have p5 : g5.2.2 (xb E + 5) = some (ob 8 [.null, .int 0]) := by rw [← hg]; exact xn_eq (by show _ = xb E + g4.1; omega)
  have s5 : SgL E g5 (xb E + 1) (xb E + 2) 28 [] := s4.mv (by rw [← hg]; exact (by repeat first | assumption | exact xg_eq | exact xn_eq (by first | rfl | omega) | refine xg_ne (by first | assumption | omega | (simp only [xput, xnew]; omega)) ?_ | refine xn_ne (by first | assumption | omega | (simp only [xput, xnew]; omega)) ?_ | exact rfl)) (by rw [← hg]; exact (by repeat first | assumption | exact xg_eq | exact xn_eq (by first | rfl | omega) | refine xg_ne (by first | assumption | omega | (simp only [xput, xnew]; omega)) ?_ | refine xn_ne (by first | assumption | omega | (simp only [xput, xnew]; omega)) ?_ | exact rfl))
  have t5 : SgL E g5 (xb E + 3) (xb E + 4) 30 [] := t4.mv (by rw [← hg]; exact (by repeat first | assumption | exact xg_eq | exact xn_eq (by first | rfl | omega) | refine xg_ne (by first | assumption | omega | (simp only [xput, xnew]; omega)) ?_ | refine xn_ne (by first | assumption | omega | (simp only [xput, xnew]; omega)) ?_ | exact rfl)) (by rw [← hg]; exact (by repeat first | assumption | exact xg_eq | exact xn_eq (by first | rfl | omega) | refine xg_ne (by first | assumption | omega | (simp only [xput, xnew]; omega)) ?_ | refine xn_ne (by first | assumption | omega | (simp only [xput, xnew]; omega)) ?_ | exact rfl))
  simp only [xput]
  rw [show g4.1 = 5 by omega]
  clear hg
  refine wp_callI1 xc_PS_11 d_PS_init_37 (Nat.le_of_ble_eq_true rfl) (c_SI_init hE (n := 30) (by decide) p5 (by omega)) (by omega) (fun r g6 hp => ?_)
  obtain ⟨rfl, ⟨c1, c2, c3⟩, u6⟩ := hp
  rw [n5.1] at u6
  have o6 := (c3 (xb E) (by omega) (by simp)).trans o5
  have s6 := s5.mv (c3 _ (by omega) (by simp)) (c3 _ (by omega) (by simp))
  have t6 := t5.mv (c3 _ (by omega) (by simp)) (c3 _ (by omega) (by simp))
  refine wp_put xf_PS_21 xg_PS (Or.inr ⟨rfl, rfl, rfl⟩) d_PS_init_40 (by repeat first | assumption | exact xg_eq | exact xn_eq (by first | rfl | omega) | refine xg_ne (by first | assumption | omega | (simp only [xput, xnew]; omega)) ?_ | refine xn_ne (by first | assumption | omega | (simp only [xput, xnew]; omega)) ?_ | exact rfl) (by first | rfl | assumption | exact bI_z _) (by first | rfl | assumption | exact bI_f _) (Nat.le_of_ble_eq_true rfl) ?_
  refine wp_aload_n d_PS_init_43 rfl rfl ?_
  refine wp_new xw_PS_24 d_PS_init_44 ?_
  refine wp_dup d_PS_init_47 rfl ?_
  generalize hg : xnew E (xput g6 (xb E) _) 4 _ = g7
  have n7 : g7.1 = 8 ∧ g7.2.1 = h.2.1 + 98 := by rw [← hg]; exact ⟨by show g6.1 + 1 = 8; omega, by show g6.2.1 + 4 = _; omega⟩
  have o7 : g7.2.2 (xb E) = some (ob 9 [.ref (xb E + 1), .ref (xb E + 3), .ref (xb E + 5), .null, .null, .null, .int 0, .int 0]) := by rw [← hg]; exact (by repeat first | assumption | exact xg_eq | exact xn_eq (by first | rfl | omega) | refine xg_ne (by first | assumption | omega | (simp only [xput, xnew]; omega)) ?_ | refine xn_ne (by first | assumption | omega | (simp only [xput, xnew]; omega)) ?_ | exact rfl)
  have p7 : g7.2.2 (xb E + 7) = some (ob 3 [.null, .null, .null, .int 0]) := by rw [← hg]; exact xn_eq (by show _ = xb E + g6.1; omega)
  have s7 : SgL E g7 (xb E + 1) (xb E + 2) 28 [] := s6.mv (by rw [← hg]; exact (by repeat first | assumption | exact xg_eq | exact xn_eq (by first | rfl | omega) | refine xg_ne (by first | assumption | omega | (simp only [xput, xnew]; omega)) ?_ | refine xn_ne (by first | assumption | omega | (simp only [xput, xnew]; omega)) ?_ | exact rfl)) (by rw [← hg]; exact (by repeat first | assumption | exact xg_eq | exact xn_eq (by first | rfl | omega) | refine xg_ne (by first | assumption | omega | (simp only [xput, xnew]; omega)) ?_ | refine xn_ne (by first | assumption | omega | (simp only [xput, xnew]; omega)) ?_ | exact rfl))
  have t7 : SgL E g7 (xb E + 3) (xb E + 4) 30 [] := t6.mv (by rw [← hg]; exact (by repeat first | assumption | exact xg_eq | exact xn_eq (by first | rfl | omega) | refine xg_ne (by first | assumption | omega | (simp only [xput, xnew]; omega)) ?_ | refine xn_ne (by first | assumption | omega | (simp only [xput, xnew]; omega)) ?_ | exact rfl)) (by rw [← hg]; exact (by repeat first | assumption | exact xg_eq | exact xn_eq (by first | rfl | omega) | refine xg_ne (by first | assumption | omega | (simp only [xput, xnew]; omega)) ?_ | refine xn_ne (by first | assumption | omega | (simp only [xput, xnew]; omega)) ?_ | exact rfl))
  have u7 : SgL E g7 (xb E + 5) (xb E + 6) 30 [] := u6.mv (by rw [← hg]; exact (by repeat first | assumption | exact xg_eq | exact xn_eq (by first | rfl | omega) | refine xg_ne (by first | assumption | omega | (simp only [xput, xnew]; omega)) ?_ | refine xn_ne (by first | assumption | omega | (simp only [xput, xnew]; omega)) ?_ | exact rfl)) (by rw [← hg]; exact (by repeat first | assumption | exact xg_eq | exact xn_eq (by first | rfl | omega) | refine xg_ne (by first | assumption | omega | (simp only [xput, xnew]; omega)) ?_ | refine xn_ne (by first | assumption | omega | (simp only [xput, xnew]; omega)) ?_ | exact rfl))
  simp only [xput]
  rw [show g6.1 = 7 by omega]
  clear hg
  refine wp_callI0 xc_PS_26 d_PS_init_48 (Nat.le_of_ble_eq_true rfl) (c_MA_init hE (a := xb E + 7) (by omega) p7) (by omega) (fun r g8 hp => ?_)
  obtain ⟨rfl, ⟨d1, d2, d3⟩, m8⟩ := hp
  have o8 := (d3 (xb E) (by omega) (by simp)).trans o7
  have s8 := s7.mv (d3 _ (by omega) (by simp)) (d3 _ (by omega) (by simp))
  have t8 := t7.mv (d3 _ (by omega) (by simp)) (d3 _ (by omega) (by simp))
  have u8 := u7.mv (d3 _ (by omega) (by simp)) (d3 _ (by omega) (by simp))
  refine wp_put xf_PS_27 xg_PS (Or.inr ⟨rfl, rfl, rfl⟩) d_PS_init_51 (by repeat first | assumption | exact xg_eq | exact xn_eq (by first | rfl | omega) | refine xg_ne (by first | assumption | omega | (simp only [xput, xnew]; omega)) ?_ | refine xn_ne (by first | assumption | omega | (simp only [xput, xnew]; omega)) ?_ | exact rfl) (by first | rfl | assumption | exact bI_z _) (by first | rfl | assumption | exact bI_f _) (Nat.le_of_ble_eq_true rfl) ?_
  refine wp_aload_n d_PS_init_54 rfl rfl ?_
  refine wp_new xw_PS_31 d_PS_init_55 ?_
  refine wp_dup d_PS_init_58 rfl ?_
  generalize hg : xnew E (xput g8 (xb E) _) 1 _ = g9
  have n9 : g9.1 = 18 ∧ g9.2.1 = h.2.1 + 1075 := by rw [← hg]; exact ⟨by show g8.1 + 1 = 18; omega, by show g8.2.1 + 1 = _; omega⟩
  have o9 : g9.2.2 (xb E) = some (ob 9 [.ref (xb E + 1), .ref (xb E + 3), .ref (xb E + 5), .ref (xb E + 7), .null, .null, .int 0, .int 0]) := by rw [← hg]; exact (by repeat first | assumption | exact xg_eq | exact xn_eq (by first | rfl | omega) | refine xg_ne (by first | assumption | omega | (simp only [xput, xnew]; omega)) ?_ | refine xn_ne (by first | assumption | omega | (simp only [xput, xnew]; omega)) ?_ | exact rfl)
  have p9 : g9.2.2 (xb E + 17) = some (ob 1 [.null]) := by rw [← hg]; exact xn_eq (by show _ = xb E + g8.1; omega)
  have k9 : ∀ q, q < xb E + 17 → q ≠ xb E → g9.2.2 q = g8.2.2 q := fun q h1 h2 => by rw [← hg]; exact (by repeat first | assumption | exact xg_eq | exact xn_eq (by first | rfl | omega) | refine xg_ne (by first | assumption | omega | (simp only [xput, xnew]; omega)) ?_ | refine xn_ne (by first | assumption | omega | (simp only [xput, xnew]; omega)) ?_ | exact rfl)
  simp only [xput]
  rw [show g8.1 = 17 by omega]
  clear hg
  have s9 := s8.mv (k9 _ (by omega) (by omega)) (k9 _ (by omega) (by omega))
  have t9 := t8.mv (k9 _ (by omega) (by omega)) (k9 _ (by omega) (by omega))
  have u9 := u8.mv (k9 _ (by omega) (by omega)) (k9 _ (by omega) (by omega))
  have m9 := m8.mv (fun z z1 z2 => k9 z (by omega) (by omega))
  refine wp_callI0 xc_PS_33 d_PS_init_59 (Nat.le_of_ble_eq_true rfl) (c_BO_init hE p9 (by omega)) (by omega) (fun r g10 hp => ?_)
  obtain ⟨rfl, ⟨e1, e2, e3⟩, b10⟩ := hp
  rw [n9.1] at b10
  have o10 := (e3 (xb E) (by omega) (by simp)).trans o9
  have s10 := s9.mv (e3 _ (by omega) (by simp)) (e3 _ (by omega) (by simp))
  have t10 := t9.mv (e3 _ (by omega) (by simp)) (e3 _ (by omega) (by simp))
  have u10 := u9.mv (e3 _ (by omega) (by simp)) (e3 _ (by omega) (by simp))
  have m10 := m9.mv (fun z z1 z2 => e3 z (by omega) (by simp; omega))
  refine wp_put xf_PS_34 xg_PS (Or.inr ⟨rfl, rfl, rfl⟩) d_PS_init_62 (by repeat first | assumption | exact xg_eq | exact xn_eq (by first | rfl | omega) | refine xg_ne (by first | assumption | omega | (simp only [xput, xnew]; omega)) ?_ | refine xn_ne (by first | assumption | omega | (simp only [xput, xnew]; omega)) ?_ | exact rfl) (by first | rfl | assumption | exact bI_z _) (by first | rfl | assumption | exact bI_f _) (Nat.le_of_ble_eq_true rfl) ?_
  refine wp_aload_n d_PS_init_65 rfl rfl ?_
  refine wp_new xw_PS_31 d_PS_init_66 ?_
  refine wp_dup d_PS_init_69 rfl ?_
  generalize hg : xnew E (xput g10 (xb E) _) 1 _ = g11
  have n11 : g11.1 = 20 ∧ g11.2.1 = h.2.1 + 1090 := by rw [← hg]; exact ⟨by show g10.1 + 1 = 20; omega, by show g10.2.1 + 1 = _; omega⟩
  have o11 : g11.2.2 (xb E) = some (ob 9 [.ref (xb E + 1), .ref (xb E + 3), .ref (xb E + 5), .ref (xb E + 7), .ref (xb E + 17), .null, .int 0, .int 0]) := by rw [← hg]; exact (by repeat first | assumption | exact xg_eq | exact xn_eq (by first | rfl | omega) | refine xg_ne (by first | assumption | omega | (simp only [xput, xnew]; omega)) ?_ | refine xn_ne (by first | assumption | omega | (simp only [xput, xnew]; omega)) ?_ | exact rfl)
  have p11 : g11.2.2 (xb E + 19) = some (ob 1 [.null]) := by rw [← hg]; exact xn_eq (by show _ = xb E + g10.1; omega)
  have k11 : ∀ q, q < xb E + 19 → q ≠ xb E → g11.2.2 q = g10.2.2 q := fun q h1 h2 => by rw [← hg]; exact (by repeat first | assumption | exact xg_eq | exact xn_eq (by first | rfl | omega) | refine xg_ne (by first | assumption | omega | (simp only [xput, xnew]; omega)) ?_ | refine xn_ne (by first | assumption | omega | (simp only [xput, xnew]; omega)) ?_ | exact rfl)
  simp only [xput]
  rw [show g10.1 = 19 by omega]
  clear hg
  have s11 := s10.mv (k11 _ (by omega) (by omega)) (k11 _ (by omega) (by omega))
  have t11 := t10.mv (k11 _ (by omega) (by omega)) (k11 _ (by omega) (by omega))
  have u11 := u10.mv (k11 _ (by omega) (by omega)) (k11 _ (by omega) (by omega))
  have m11 := m10.mv (fun z z1 z2 => k11 z (by omega) (by omega))
  have b11 : Bd E g11 (xb E + 17) (xb E + 18) (filled 14 (-2) (fun _ => 0)) := ⟨(k11 _ (by omega) (by omega)).trans b10.1, (k11 _ (by omega) (by omega)).trans b10.2.1, by omega⟩
  refine wp_callI0 xc_PS_33 d_PS_init_70 (Nat.le_of_ble_eq_true rfl) (c_BO_init hE p11 (by omega)) (by omega) (fun r g12 hp => ?_)
  obtain ⟨rfl, ⟨f1, f2, f3⟩, b12⟩ := hp
  rw [n11.1] at b12
  have o12 := (f3 (xb E) (by omega) (by simp)).trans o11
  refine wp_put xf_PS_38 xg_PS (Or.inr ⟨rfl, rfl, rfl⟩) d_PS_init_73 (by repeat first | assumption | exact xg_eq | exact xn_eq (by first | rfl | omega) | refine xg_ne (by first | assumption | omega | (simp only [xput, xnew]; omega)) ?_ | refine xn_ne (by first | assumption | omega | (simp only [xput, xnew]; omega)) ?_ | exact rfl) (by first | rfl | assumption | exact bI_z _) (by first | rfl | assumption | exact bI_f _) (Nat.le_of_ble_eq_true rfl) ?_
  refine wp_aload_n d_PS_init_76 rfl rfl ?_
  refine wp_iconst (v := 0) d_PS_init_77 (by rfl) ?_
  refine wp_put xf_PS_41 xg_PS (Or.inl rfl) d_PS_init_78 (by repeat first | assumption | exact xg_eq | exact xn_eq (by first | rfl | omega) | refine xg_ne (by first | assumption | omega | (simp only [xput, xnew]; omega)) ?_ | refine xn_ne (by first | assumption | omega | (simp only [xput, xnew]; omega)) ?_ | exact rfl) (by first | rfl | assumption | exact bI_z _) (by first | rfl | assumption | exact bI_f _) (Nat.le_of_ble_eq_true rfl) ?_
  refine wp_aload_n d_PS_init_81 rfl rfl ?_
  refine wp_iconst (v := 0) d_PS_init_82 (by rfl) ?_
  refine wp_put xf_PS_45 xg_PS (Or.inl rfl) d_PS_init_83 (by repeat first | assumption | exact xg_eq | exact xn_eq (by first | rfl | omega) | refine xg_ne (by first | assumption | omega | (simp only [xput, xnew]; omega)) ?_ | refine xn_ne (by first | assumption | omega | (simp only [xput, xnew]; omega)) ?_ | exact rfl) (by first | rfl | assumption | exact bI_z _) (by first | rfl | assumption | exact bI_f _) (Nat.le_of_ble_eq_true rfl) ?_
  refine wp_return d_PS_init_86 rfl ?_
  have z : ∀ q, q ≠ xb E → q < xb E + 19 → (xput (xput (xput g12 (xb E) (Sum.inr (9, [Value.ref (xb E + 1), .ref (xb E + 3), .ref (xb E + 5), .ref (xb E + 7), .ref (xb E + 17), .null, .int 0, .int 0].set 5 (Value.ref (xb E + 19))))) (xb E) (Sum.inr (9, ([Value.ref (xb E + 1), .ref (xb E + 3), .ref (xb E + 5), .ref (xb E + 7), .ref (xb E + 17), .null, .int 0, .int 0].set 5 (Value.ref (xb E + 19))).set 6 (Value.int 0)))) (xb E) (Sum.inr (9, (([Value.ref (xb E + 1), .ref (xb E + 3), .ref (xb E + 5), .ref (xb E + 7), .ref (xb E + 17), .null, .int 0, .int 0].set 5 (Value.ref (xb E + 19))).set 6 (Value.int 0)).set 7 (Value.int 0)))).2.2 q = g11.2.2 q := fun q q1 q2 => xg_ne q1 (xg_ne q1 (xg_ne q1 (f3 q (by omega) (by simp; omega))))
  refine ⟨rfl, by show g12.1 = 21; omega, by show g12.2.1 = _; omega, xg_eq, s11.mv (z _ (by omega) (by omega)) (z _ (by omega) (by omega)), t11.mv (z _ (by omega) (by omega)) (z _ (by omega) (by omega)), u11.mv (z _ (by omega) (by omega)) (z _ (by omega) (by omega)), m11.mv (fun w w1 w2 => z w (by omega) (by omega)), ⟨(z _ (by omega) (by omega)).trans b11.1, (z _ (by omega) (by omega)).trans b11.2.1, by omega⟩, ⟨xg_ne (by omega) (xg_ne (by omega) (xg_ne (by omega) b12.1)), ?_, by omega⟩, ?_⟩
  · exact xg_ne (by omega) (xg_ne (by omega) (xg_ne (by omega) b12.2.1))
  · exact ⟨fun _ => Nat.zero_le _, fun _ => Nat.zero_le _, fun _ => Nat.zero_le _, Nat.zero_le _⟩
end CI
