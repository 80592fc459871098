section M17
variable {E : xE} {h : xH}
def mB0 : MB := (fun _ => 0, fun _ => 0, fun _ => false, fun _ => false, 0, false, false, 0, 0)
def mW0 : WS := ([], fun _ => 0, fun _ => 0, fun _ => 0, fun _ => 0, fun _ => 0, 0)
def mD0 : MD := (fun _ => false, fun _ => 0, fun _ => 0, fun _ => 0, false, false)
theorem c_MO_init (hE : xOK E) (hn : h.1 = 22) (h1 : h.2.2 (xb E + 21) = some (ob 10 [.null, .int 0, .null, .int 0, .null, .int 0, .int 0, .int 0, .null, .null, .null, .null, .null, .int 0, .int 0, .int 0, .int 0, .int 0, .null, .null, .null, .int 0, .null, .null, .null, .null, .null, .int 0, .null, .null, .null])) : wpc E 1 m_MO_init [.ref (xb E + 21)] h (fun r' h' => r' = none ∧ h'.1 = 41 ∧ h'.2.1 = h.2.1 + 8660 ∧ (∀ q, q < xb E + 21 → h'.2.2 q = h.2.2 q) ∧ MoW E h' ([], [], []) mB0 mW0 mD0) := by
  obtain ⟨g0, hg0⟩ : ∃ g0 : xH, g0 = h := ⟨h, rfl⟩
  rw [← hg0]
  have n0 : g0.1 = 22 := by rw [hg0]; exact hn
  have s0 : g0.2.1 = h.2.1 + 0 := by rw [hg0]; rfl
  have fr0 : ∀ q, q < xb E + 21 → g0.2.2 q = h.2.2 q := by intro q _; rw [hg0]
  have o21 : g0.2.2 (xb E + 21) = some (ob 10 [.null, .int 0, .null, .int 0, .null, .int 0, .int 0, .int 0, .null, .null, .null, .null, .null, .int 0, .int 0, .int 0, .int 0, .int 0, .null, .null, .null, .int 0, .null, .null, .null, .null, .null, .int 0, .null, .null, .null]) := by rw [hg0]; exact h1
  have hz : (fun (r' : Option Value) (h' : xH) => r' = none ∧ h'.1 = 41 ∧ h'.2.1 = g0.2.1 + 8660 ∧ (∀ q, q < xb E + 21 → h'.2.2 q = g0.2.2 q) ∧ MoW E h' ([], [], []) mB0 mW0 mD0) = (fun (r' : Option Value) (h' : xH) => r' = none ∧ h'.1 = 41 ∧ h'.2.1 = h.2.1 + 8660 ∧ (∀ q, q < xb E + 21 → h'.2.2 q = h.2.2 q) ∧ MoW E h' ([], [], []) mB0 mW0 mD0) := by rw [hg0]
  rw [hz]
  clear hz h1 hn hg0
  refine wpc_of rfl (Nat.le_of_ble_eq_true rfl) ?_
  refine wp_aload_n d_MO_init_0 rfl rfl ?_
  refine wp_objInit xo_MO_1 d_MO_init_1 (Nat.le_of_ble_eq_true rfl) (by omega) ?_
  refine wp_aload_n d_MO_init_4 rfl rfl ?_
  refine wp_bipush (v := 28) d_MO_init_5 (by rfl) ?_
  refine wp_newa (ty := .int) (N := 28) (a0 := (28, .inl (fun _ => 0))) rfl ka_int d_MO_init_7 hE.i rfl (fun _ h9 => h9) (by decide) (by decide) (by decide) ?_
  rw [show xb E + g0.1 = xb E + 22 from by rw [n0]]
  refine wp_put xf_MO_7 xg_MO (Or.inr ⟨rfl, rfl, rfl⟩) d_MO_init_9 (by repeat first | exact xg_eq | exact xn_eq (by first | rfl | omega) | refine xg_ne (by first | omega | assumption | (simp only [xput, xnew]; omega)) ?_ | refine xn_ne (by first | omega | assumption | (simp only [xput, xnew]; omega)) ?_ | assumption | exact rfl) (by first | rfl | assumption | exact bI_z _) (by first | rfl | assumption | exact bI_f _) (Nat.le_of_ble_eq_true rfl) ?_
  generalize hg : xput (xnew E g0 28 _) _ _ = g1
  have n1 : g1.1 = 23 := by rw [← hg]; show g0.1 + 1 = 23; omega
  have s1 : g1.2.1 = h.2.1 + 28 := by rw [← hg]; show g0.2.1 + 28 = _; omega
  have fr1 : ∀ q, q < xb E + 21 → g1.2.2 q = h.2.2 q := by intro q hq; rw [← hg]; exact xg_ne (by omega) (xn_ne (by omega) (fr0 q hq))
  have o21 : g1.2.2 (xb E + 21) = some (ob 10 [.ref (xb E + 22), .int 0, .null, .int 0, .null, .int 0, .int 0, .int 0, .null, .null, .null, .null, .null, .int 0, .int 0, .int 0, .int 0, .int 0, .null, .null, .null, .int 0, .null, .null, .null, .null, .null, .int 0, .null, .null, .null]) := by rw [← hg]; exact xg_eq
  have a22 : g1.2.2 (xb E + 22) = some (aI E 28 (fun _ => 0)) := by rw [← hg]; exact xg_ne (by omega) (xn_eq (by omega))
  clear hg n0 s0 fr0
  refine wp_aload_n d_MO_init_12 rfl rfl ?_
  refine wp_bipush (v := 30) d_MO_init_13 (by rfl) ?_
  refine wp_newa (ty := .int) (N := 30) (a0 := (30, .inl (fun _ => 0))) rfl ka_int d_MO_init_15 hE.i rfl (fun _ h9 => h9) (by decide) (by decide) (by decide) ?_
  rw [show xb E + g1.1 = xb E + 23 from by rw [n1]]
  refine wp_put xf_MO_13 xg_MO (Or.inr ⟨rfl, rfl, rfl⟩) d_MO_init_17 (by repeat first | exact xg_eq | exact xn_eq (by first | rfl | omega) | refine xg_ne (by first | omega | assumption | (simp only [xput, xnew]; omega)) ?_ | refine xn_ne (by first | omega | assumption | (simp only [xput, xnew]; omega)) ?_ | assumption | exact rfl) (by first | rfl | assumption | exact bI_z _) (by first | rfl | assumption | exact bI_f _) (Nat.le_of_ble_eq_true rfl) ?_
  generalize hg : xput (xnew E g1 30 _) _ _ = g2
  have n2 : g2.1 = 24 := by rw [← hg]; show g1.1 + 1 = 24; omega
  have s2 : g2.2.1 = h.2.1 + 58 := by rw [← hg]; show g1.2.1 + 30 = _; omega
  have fr2 : ∀ q, q < xb E + 21 → g2.2.2 q = h.2.2 q := by intro q hq; rw [← hg]; exact xg_ne (by omega) (xn_ne (by omega) (fr1 q hq))
  have o21 : g2.2.2 (xb E + 21) = some (ob 10 [.ref (xb E + 22), .int 0, .ref (xb E + 23), .int 0, .null, .int 0, .int 0, .int 0, .null, .null, .null, .null, .null, .int 0, .int 0, .int 0, .int 0, .int 0, .null, .null, .null, .int 0, .null, .null, .null, .null, .null, .int 0, .null, .null, .null]) := by rw [← hg]; exact xg_eq
  have a22 : g2.2.2 (xb E + 22) = some (aI E 28 (fun _ => 0)) := by rw [← hg]; exact xg_ne (by omega) (xn_ne (by omega) a22)
  have a23 : g2.2.2 (xb E + 23) = some (aI E 30 (fun _ => 0)) := by rw [← hg]; exact xg_ne (by omega) (xn_eq (by omega))
  clear hg n1 s1 fr1
  refine wp_aload_n d_MO_init_20 rfl rfl ?_
  refine wp_bipush (v := 30) d_MO_init_21 (by rfl) ?_
  refine wp_newa (ty := .int) (N := 30) (a0 := (30, .inl (fun _ => 0))) rfl ka_int d_MO_init_23 hE.i rfl (fun _ h9 => h9) (by decide) (by decide) (by decide) ?_
  rw [show xb E + g2.1 = xb E + 24 from by rw [n2]]
  refine wp_put xf_MO_16 xg_MO (Or.inr ⟨rfl, rfl, rfl⟩) d_MO_init_25 (by repeat first | exact xg_eq | exact xn_eq (by first | rfl | omega) | refine xg_ne (by first | omega | assumption | (simp only [xput, xnew]; omega)) ?_ | refine xn_ne (by first | omega | assumption | (simp only [xput, xnew]; omega)) ?_ | assumption | exact rfl) (by first | rfl | assumption | exact bI_z _) (by first | rfl | assumption | exact bI_f _) (Nat.le_of_ble_eq_true rfl) ?_
  generalize hg : xput (xnew E g2 30 _) _ _ = g3
  have n3 : g3.1 = 25 := by rw [← hg]; show g2.1 + 1 = 25; omega
  have s3 : g3.2.1 = h.2.1 + 88 := by rw [← hg]; show g2.2.1 + 30 = _; omega
  have fr3 : ∀ q, q < xb E + 21 → g3.2.2 q = h.2.2 q := by intro q hq; rw [← hg]; exact xg_ne (by omega) (xn_ne (by omega) (fr2 q hq))
  have o21 : g3.2.2 (xb E + 21) = some (ob 10 [.ref (xb E + 22), .int 0, .ref (xb E + 23), .int 0, .ref (xb E + 24), .int 0, .int 0, .int 0, .null, .null, .null, .null, .null, .int 0, .int 0, .int 0, .int 0, .int 0, .null, .null, .null, .int 0, .null, .null, .null, .null, .null, .int 0, .null, .null, .null]) := by rw [← hg]; exact xg_eq
  have a22 : g3.2.2 (xb E + 22) = some (aI E 28 (fun _ => 0)) := by rw [← hg]; exact xg_ne (by omega) (xn_ne (by omega) a22)
  have a23 : g3.2.2 (xb E + 23) = some (aI E 30 (fun _ => 0)) := by rw [← hg]; exact xg_ne (by omega) (xn_ne (by omega) a23)
  have a24 : g3.2.2 (xb E + 24) = some (aI E 30 (fun _ => 0)) := by rw [← hg]; exact xg_ne (by omega) (xn_eq (by omega))
  clear hg n2 s2 fr2
  refine wp_aload_n d_MO_init_28 rfl rfl ?_
  refine wp_bipush (v := 14) d_MO_init_29 (by rfl) ?_
  refine wp_newa (ty := .int) (N := 14) (a0 := (14, .inl (fun _ => 0))) rfl ka_int d_MO_init_31 hE.i rfl (fun _ h9 => h9) (by decide) (by decide) (by decide) ?_
  rw [show xb E + g3.1 = xb E + 25 from by rw [n3]]
  refine wp_put xf_MO_19 xg_MO (Or.inr ⟨rfl, rfl, rfl⟩) d_MO_init_33 (by repeat first | exact xg_eq | exact xn_eq (by first | rfl | omega) | refine xg_ne (by first | omega | assumption | (simp only [xput, xnew]; omega)) ?_ | refine xn_ne (by first | omega | assumption | (simp only [xput, xnew]; omega)) ?_ | assumption | exact rfl) (by first | rfl | assumption | exact bI_z _) (by first | rfl | assumption | exact bI_f _) (Nat.le_of_ble_eq_true rfl) ?_
  generalize hg : xput (xnew E g3 14 _) _ _ = g4
  have n4 : g4.1 = 26 := by rw [← hg]; show g3.1 + 1 = 26; omega
  have s4 : g4.2.1 = h.2.1 + 102 := by rw [← hg]; show g3.2.1 + 14 = _; omega
  have fr4 : ∀ q, q < xb E + 21 → g4.2.2 q = h.2.2 q := by intro q hq; rw [← hg]; exact xg_ne (by omega) (xn_ne (by omega) (fr3 q hq))
  have o21 : g4.2.2 (xb E + 21) = some (ob 10 [.ref (xb E + 22), .int 0, .ref (xb E + 23), .int 0, .ref (xb E + 24), .int 0, .int 0, .int 0, .ref (xb E + 25), .null, .null, .null, .null, .int 0, .int 0, .int 0, .int 0, .int 0, .null, .null, .null, .int 0, .null, .null, .null, .null, .null, .int 0, .null, .null, .null]) := by rw [← hg]; exact xg_eq
  have a22 : g4.2.2 (xb E + 22) = some (aI E 28 (fun _ => 0)) := by rw [← hg]; exact xg_ne (by omega) (xn_ne (by omega) a22)
  have a23 : g4.2.2 (xb E + 23) = some (aI E 30 (fun _ => 0)) := by rw [← hg]; exact xg_ne (by omega) (xn_ne (by omega) a23)
  have a24 : g4.2.2 (xb E + 24) = some (aI E 30 (fun _ => 0)) := by rw [← hg]; exact xg_ne (by omega) (xn_ne (by omega) a24)
  have a25 : g4.2.2 (xb E + 25) = some (aI E 14 (fun _ => 0)) := by rw [← hg]; exact xg_ne (by omega) (xn_eq (by omega))
  clear hg n3 s3 fr3
  refine wp_aload_n d_MO_init_36 rfl rfl ?_
  refine wp_bipush (v := 8) d_MO_init_37 (by rfl) ?_
  refine wp_newa (ty := .int) (N := 8) (a0 := (8, .inl (fun _ => 0))) rfl ka_int d_MO_init_39 hE.i rfl (fun _ h9 => h9) (by decide) (by decide) (by decide) ?_
  rw [show xb E + g4.1 = xb E + 26 from by rw [n4]]
  refine wp_put xf_MO_22 xg_MO (Or.inr ⟨rfl, rfl, rfl⟩) d_MO_init_41 (by repeat first | exact xg_eq | exact xn_eq (by first | rfl | omega) | refine xg_ne (by first | omega | assumption | (simp only [xput, xnew]; omega)) ?_ | refine xn_ne (by first | omega | assumption | (simp only [xput, xnew]; omega)) ?_ | assumption | exact rfl) (by first | rfl | assumption | exact bI_z _) (by first | rfl | assumption | exact bI_f _) (Nat.le_of_ble_eq_true rfl) ?_
  generalize hg : xput (xnew E g4 8 _) _ _ = g5
  have n5 : g5.1 = 27 := by rw [← hg]; show g4.1 + 1 = 27; omega
  have s5 : g5.2.1 = h.2.1 + 110 := by rw [← hg]; show g4.2.1 + 8 = _; omega
  have fr5 : ∀ q, q < xb E + 21 → g5.2.2 q = h.2.2 q := by intro q hq; rw [← hg]; exact xg_ne (by omega) (xn_ne (by omega) (fr4 q hq))
  have o21 : g5.2.2 (xb E + 21) = some (ob 10 [.ref (xb E + 22), .int 0, .ref (xb E + 23), .int 0, .ref (xb E + 24), .int 0, .int 0, .int 0, .ref (xb E + 25), .ref (xb E + 26), .null, .null, .null, .int 0, .int 0, .int 0, .int 0, .int 0, .null, .null, .null, .int 0, .null, .null, .null, .null, .null, .int 0, .null, .null, .null]) := by rw [← hg]; exact xg_eq
  have a22 : g5.2.2 (xb E + 22) = some (aI E 28 (fun _ => 0)) := by rw [← hg]; exact xg_ne (by omega) (xn_ne (by omega) a22)
  have a23 : g5.2.2 (xb E + 23) = some (aI E 30 (fun _ => 0)) := by rw [← hg]; exact xg_ne (by omega) (xn_ne (by omega) a23)
  have a24 : g5.2.2 (xb E + 24) = some (aI E 30 (fun _ => 0)) := by rw [← hg]; exact xg_ne (by omega) (xn_ne (by omega) a24)
  have a25 : g5.2.2 (xb E + 25) = some (aI E 14 (fun _ => 0)) := by rw [← hg]; exact xg_ne (by omega) (xn_ne (by omega) a25)
  have a26 : g5.2.2 (xb E + 26) = some (aI E 8 (fun _ => 0)) := by rw [← hg]; exact xg_ne (by omega) (xn_eq (by omega))
  clear hg n4 s4 fr4
  refine wp_aload_n d_MO_init_44 rfl rfl ?_
  refine wp_bipush (v := 8) d_MO_init_45 (by rfl) ?_
  refine wp_newa (ty := .int) (N := 8) (a0 := (8, .inl (fun _ => 0))) rfl ka_int d_MO_init_47 hE.i rfl (fun _ h9 => h9) (by decide) (by decide) (by decide) ?_
  rw [show xb E + g5.1 = xb E + 27 from by rw [n5]]
  refine wp_put xf_MO_25 xg_MO (Or.inr ⟨rfl, rfl, rfl⟩) d_MO_init_49 (by repeat first | exact xg_eq | exact xn_eq (by first | rfl | omega) | refine xg_ne (by first | omega | assumption | (simp only [xput, xnew]; omega)) ?_ | refine xn_ne (by first | omega | assumption | (simp only [xput, xnew]; omega)) ?_ | assumption | exact rfl) (by first | rfl | assumption | exact bI_z _) (by first | rfl | assumption | exact bI_f _) (Nat.le_of_ble_eq_true rfl) ?_
  generalize hg : xput (xnew E g5 8 _) _ _ = g6
  have n6 : g6.1 = 28 := by rw [← hg]; show g5.1 + 1 = 28; omega
  have s6 : g6.2.1 = h.2.1 + 118 := by rw [← hg]; show g5.2.1 + 8 = _; omega
  have fr6 : ∀ q, q < xb E + 21 → g6.2.2 q = h.2.2 q := by intro q hq; rw [← hg]; exact xg_ne (by omega) (xn_ne (by omega) (fr5 q hq))
  have o21 : g6.2.2 (xb E + 21) = some (ob 10 [.ref (xb E + 22), .int 0, .ref (xb E + 23), .int 0, .ref (xb E + 24), .int 0, .int 0, .int 0, .ref (xb E + 25), .ref (xb E + 26), .ref (xb E + 27), .null, .null, .int 0, .int 0, .int 0, .int 0, .int 0, .null, .null, .null, .int 0, .null, .null, .null, .null, .null, .int 0, .null, .null, .null]) := by rw [← hg]; exact xg_eq
  have a22 : g6.2.2 (xb E + 22) = some (aI E 28 (fun _ => 0)) := by rw [← hg]; exact xg_ne (by omega) (xn_ne (by omega) a22)
  have a23 : g6.2.2 (xb E + 23) = some (aI E 30 (fun _ => 0)) := by rw [← hg]; exact xg_ne (by omega) (xn_ne (by omega) a23)
  have a24 : g6.2.2 (xb E + 24) = some (aI E 30 (fun _ => 0)) := by rw [← hg]; exact xg_ne (by omega) (xn_ne (by omega) a24)
  have a25 : g6.2.2 (xb E + 25) = some (aI E 14 (fun _ => 0)) := by rw [← hg]; exact xg_ne (by omega) (xn_ne (by omega) a25)
  have a26 : g6.2.2 (xb E + 26) = some (aI E 8 (fun _ => 0)) := by rw [← hg]; exact xg_ne (by omega) (xn_ne (by omega) a26)
  have a27 : g6.2.2 (xb E + 27) = some (aI E 8 (fun _ => 0)) := by rw [← hg]; exact xg_ne (by omega) (xn_eq (by omega))
  clear hg n5 s5 fr5
  refine wp_aload_n d_MO_init_52 rfl rfl ?_
  refine wp_bipush (v := 8) d_MO_init_53 (by rfl) ?_
  refine wp_newa (ty := .boolean) (N := 8) (a0 := (8, .inl (fun _ => 0))) rfl ka_boolean d_MO_init_55 hE.z rfl (fun _ h9 => h9) (by decide) (by decide) (by decide) ?_
  rw [show xb E + g6.1 = xb E + 28 from by rw [n6]]
  refine wp_put xf_MO_28 xg_MO (Or.inr ⟨rfl, rfl, rfl⟩) d_MO_init_57 (by repeat first | exact xg_eq | exact xn_eq (by first | rfl | omega) | refine xg_ne (by first | omega | assumption | (simp only [xput, xnew]; omega)) ?_ | refine xn_ne (by first | omega | assumption | (simp only [xput, xnew]; omega)) ?_ | assumption | exact rfl) (by first | rfl | assumption | exact bI_z _) (by first | rfl | assumption | exact bI_f _) (Nat.le_of_ble_eq_true rfl) ?_
  generalize hg : xput (xnew E g6 8 _) _ _ = g7
  have n7 : g7.1 = 29 := by rw [← hg]; show g6.1 + 1 = 29; omega
  have s7 : g7.2.1 = h.2.1 + 126 := by rw [← hg]; show g6.2.1 + 8 = _; omega
  have fr7 : ∀ q, q < xb E + 21 → g7.2.2 q = h.2.2 q := by intro q hq; rw [← hg]; exact xg_ne (by omega) (xn_ne (by omega) (fr6 q hq))
  have o21 : g7.2.2 (xb E + 21) = some (ob 10 [.ref (xb E + 22), .int 0, .ref (xb E + 23), .int 0, .ref (xb E + 24), .int 0, .int 0, .int 0, .ref (xb E + 25), .ref (xb E + 26), .ref (xb E + 27), .ref (xb E + 28), .null, .int 0, .int 0, .int 0, .int 0, .int 0, .null, .null, .null, .int 0, .null, .null, .null, .null, .null, .int 0, .null, .null, .null]) := by rw [← hg]; exact xg_eq
  have a22 : g7.2.2 (xb E + 22) = some (aI E 28 (fun _ => 0)) := by rw [← hg]; exact xg_ne (by omega) (xn_ne (by omega) a22)
  have a23 : g7.2.2 (xb E + 23) = some (aI E 30 (fun _ => 0)) := by rw [← hg]; exact xg_ne (by omega) (xn_ne (by omega) a23)
  have a24 : g7.2.2 (xb E + 24) = some (aI E 30 (fun _ => 0)) := by rw [← hg]; exact xg_ne (by omega) (xn_ne (by omega) a24)
  have a25 : g7.2.2 (xb E + 25) = some (aI E 14 (fun _ => 0)) := by rw [← hg]; exact xg_ne (by omega) (xn_ne (by omega) a25)
  have a26 : g7.2.2 (xb E + 26) = some (aI E 8 (fun _ => 0)) := by rw [← hg]; exact xg_ne (by omega) (xn_ne (by omega) a26)
  have a27 : g7.2.2 (xb E + 27) = some (aI E 8 (fun _ => 0)) := by rw [← hg]; exact xg_ne (by omega) (xn_ne (by omega) a27)
  have a28 : g7.2.2 (xb E + 28) = some (aZ E 8 (fun _ => 0)) := by rw [← hg]; exact xg_ne (by omega) (xn_eq (by omega))
  clear hg n6 s6 fr6
  refine wp_aload_n d_MO_init_60 rfl rfl ?_
  refine wp_bipush (v := 8) d_MO_init_61 (by rfl) ?_
  refine wp_newa (ty := .boolean) (N := 8) (a0 := (8, .inl (fun _ => 0))) rfl ka_boolean d_MO_init_63 hE.z rfl (fun _ h9 => h9) (by decide) (by decide) (by decide) ?_
  rw [show xb E + g7.1 = xb E + 29 from by rw [n7]]
  refine wp_put xf_MO_32 xg_MO (Or.inr ⟨rfl, rfl, rfl⟩) d_MO_init_65 (by repeat first | exact xg_eq | exact xn_eq (by first | rfl | omega) | refine xg_ne (by first | omega | assumption | (simp only [xput, xnew]; omega)) ?_ | refine xn_ne (by first | omega | assumption | (simp only [xput, xnew]; omega)) ?_ | assumption | exact rfl) (by first | rfl | assumption | exact bI_z _) (by first | rfl | assumption | exact bI_f _) (Nat.le_of_ble_eq_true rfl) ?_
  generalize hg : xput (xnew E g7 8 _) _ _ = g8
  have n8 : g8.1 = 30 := by rw [← hg]; show g7.1 + 1 = 30; omega
  have s8 : g8.2.1 = h.2.1 + 134 := by rw [← hg]; show g7.2.1 + 8 = _; omega
  have fr8 : ∀ q, q < xb E + 21 → g8.2.2 q = h.2.2 q := by intro q hq; rw [← hg]; exact xg_ne (by omega) (xn_ne (by omega) (fr7 q hq))
  have o21 : g8.2.2 (xb E + 21) = some (ob 10 [.ref (xb E + 22), .int 0, .ref (xb E + 23), .int 0, .ref (xb E + 24), .int 0, .int 0, .int 0, .ref (xb E + 25), .ref (xb E + 26), .ref (xb E + 27), .ref (xb E + 28), .ref (xb E + 29), .int 0, .int 0, .int 0, .int 0, .int 0, .null, .null, .null, .int 0, .null, .null, .null, .null, .null, .int 0, .null, .null, .null]) := by rw [← hg]; exact xg_eq
  have a22 : g8.2.2 (xb E + 22) = some (aI E 28 (fun _ => 0)) := by rw [← hg]; exact xg_ne (by omega) (xn_ne (by omega) a22)
  have a23 : g8.2.2 (xb E + 23) = some (aI E 30 (fun _ => 0)) := by rw [← hg]; exact xg_ne (by omega) (xn_ne (by omega) a23)
  have a24 : g8.2.2 (xb E + 24) = some (aI E 30 (fun _ => 0)) := by rw [← hg]; exact xg_ne (by omega) (xn_ne (by omega) a24)
  have a25 : g8.2.2 (xb E + 25) = some (aI E 14 (fun _ => 0)) := by rw [← hg]; exact xg_ne (by omega) (xn_ne (by omega) a25)
  have a26 : g8.2.2 (xb E + 26) = some (aI E 8 (fun _ => 0)) := by rw [← hg]; exact xg_ne (by omega) (xn_ne (by omega) a26)
  have a27 : g8.2.2 (xb E + 27) = some (aI E 8 (fun _ => 0)) := by rw [← hg]; exact xg_ne (by omega) (xn_ne (by omega) a27)
  have a28 : g8.2.2 (xb E + 28) = some (aZ E 8 (fun _ => 0)) := by rw [← hg]; exact xg_ne (by omega) (xn_ne (by omega) a28)
  have a29 : g8.2.2 (xb E + 29) = some (aZ E 8 (fun _ => 0)) := by rw [← hg]; exact xg_ne (by omega) (xn_eq (by omega))
  clear hg n7 s7 fr7
  refine wp_aload_n d_MO_init_68 rfl rfl ?_
  refine wp_sipush (v := 130) d_MO_init_69 (by rfl) ?_
  refine wp_newa (ty := .int) (N := 130) (a0 := (130, .inl (fun _ => 0))) rfl ka_int d_MO_init_72 hE.i rfl (fun _ h9 => h9) (by decide) (by decide) (by decide) ?_
  rw [show xb E + g8.1 = xb E + 30 from by rw [n8]]
  refine wp_put xf_MO_35 xg_MO (Or.inr ⟨rfl, rfl, rfl⟩) d_MO_init_74 (by repeat first | exact xg_eq | exact xn_eq (by first | rfl | omega) | refine xg_ne (by first | omega | assumption | (simp only [xput, xnew]; omega)) ?_ | refine xn_ne (by first | omega | assumption | (simp only [xput, xnew]; omega)) ?_ | assumption | exact rfl) (by first | rfl | assumption | exact bI_z _) (by first | rfl | assumption | exact bI_f _) (Nat.le_of_ble_eq_true rfl) ?_
  generalize hg : xput (xnew E g8 130 _) _ _ = g9
  have n9 : g9.1 = 31 := by rw [← hg]; show g8.1 + 1 = 31; omega
  have s9 : g9.2.1 = h.2.1 + 264 := by rw [← hg]; show g8.2.1 + 130 = _; omega
  have fr9 : ∀ q, q < xb E + 21 → g9.2.2 q = h.2.2 q := by intro q hq; rw [← hg]; exact xg_ne (by omega) (xn_ne (by omega) (fr8 q hq))
  have o21 : g9.2.2 (xb E + 21) = some (ob 10 [.ref (xb E + 22), .int 0, .ref (xb E + 23), .int 0, .ref (xb E + 24), .int 0, .int 0, .int 0, .ref (xb E + 25), .ref (xb E + 26), .ref (xb E + 27), .ref (xb E + 28), .ref (xb E + 29), .int 0, .int 0, .int 0, .int 0, .int 0, .ref (xb E + 30), .null, .null, .int 0, .null, .null, .null, .null, .null, .int 0, .null, .null, .null]) := by rw [← hg]; exact xg_eq
  have a22 : g9.2.2 (xb E + 22) = some (aI E 28 (fun _ => 0)) := by rw [← hg]; exact xg_ne (by omega) (xn_ne (by omega) a22)
  have a23 : g9.2.2 (xb E + 23) = some (aI E 30 (fun _ => 0)) := by rw [← hg]; exact xg_ne (by omega) (xn_ne (by omega) a23)
  have a24 : g9.2.2 (xb E + 24) = some (aI E 30 (fun _ => 0)) := by rw [← hg]; exact xg_ne (by omega) (xn_ne (by omega) a24)
  have a25 : g9.2.2 (xb E + 25) = some (aI E 14 (fun _ => 0)) := by rw [← hg]; exact xg_ne (by omega) (xn_ne (by omega) a25)
  have a26 : g9.2.2 (xb E + 26) = some (aI E 8 (fun _ => 0)) := by rw [← hg]; exact xg_ne (by omega) (xn_ne (by omega) a26)
  have a27 : g9.2.2 (xb E + 27) = some (aI E 8 (fun _ => 0)) := by rw [← hg]; exact xg_ne (by omega) (xn_ne (by omega) a27)
  have a28 : g9.2.2 (xb E + 28) = some (aZ E 8 (fun _ => 0)) := by rw [← hg]; exact xg_ne (by omega) (xn_ne (by omega) a28)
  have a29 : g9.2.2 (xb E + 29) = some (aZ E 8 (fun _ => 0)) := by rw [← hg]; exact xg_ne (by omega) (xn_ne (by omega) a29)
  have a30 : g9.2.2 (xb E + 30) = some (aI E 130 (fun _ => 0)) := by rw [← hg]; exact xg_ne (by omega) (xn_eq (by omega))
  clear hg n8 s8 fr8
  refine wp_aload_n d_MO_init_77 rfl rfl ?_
  refine wp_sipush (v := 130) d_MO_init_78 (by rfl) ?_
  refine wp_newa (ty := .int) (N := 130) (a0 := (130, .inl (fun _ => 0))) rfl ka_int d_MO_init_81 hE.i rfl (fun _ h9 => h9) (by decide) (by decide) (by decide) ?_
  rw [show xb E + g9.1 = xb E + 31 from by rw [n9]]
  refine wp_put xf_MO_38 xg_MO (Or.inr ⟨rfl, rfl, rfl⟩) d_MO_init_83 (by repeat first | exact xg_eq | exact xn_eq (by first | rfl | omega) | refine xg_ne (by first | omega | assumption | (simp only [xput, xnew]; omega)) ?_ | refine xn_ne (by first | omega | assumption | (simp only [xput, xnew]; omega)) ?_ | assumption | exact rfl) (by first | rfl | assumption | exact bI_z _) (by first | rfl | assumption | exact bI_f _) (Nat.le_of_ble_eq_true rfl) ?_
  generalize hg : xput (xnew E g9 130 _) _ _ = g10
  have n10 : g10.1 = 32 := by rw [← hg]; show g9.1 + 1 = 32; omega
  have s10 : g10.2.1 = h.2.1 + 394 := by rw [← hg]; show g9.2.1 + 130 = _; omega
  have fr10 : ∀ q, q < xb E + 21 → g10.2.2 q = h.2.2 q := by intro q hq; rw [← hg]; exact xg_ne (by omega) (xn_ne (by omega) (fr9 q hq))
  have o21 : g10.2.2 (xb E + 21) = some (ob 10 [.ref (xb E + 22), .int 0, .ref (xb E + 23), .int 0, .ref (xb E + 24), .int 0, .int 0, .int 0, .ref (xb E + 25), .ref (xb E + 26), .ref (xb E + 27), .ref (xb E + 28), .ref (xb E + 29), .int 0, .int 0, .int 0, .int 0, .int 0, .ref (xb E + 30), .ref (xb E + 31), .null, .int 0, .null, .null, .null, .null, .null, .int 0, .null, .null, .null]) := by rw [← hg]; exact xg_eq
  have a22 : g10.2.2 (xb E + 22) = some (aI E 28 (fun _ => 0)) := by rw [← hg]; exact xg_ne (by omega) (xn_ne (by omega) a22)
  have a23 : g10.2.2 (xb E + 23) = some (aI E 30 (fun _ => 0)) := by rw [← hg]; exact xg_ne (by omega) (xn_ne (by omega) a23)
  have a24 : g10.2.2 (xb E + 24) = some (aI E 30 (fun _ => 0)) := by rw [← hg]; exact xg_ne (by omega) (xn_ne (by omega) a24)
  have a25 : g10.2.2 (xb E + 25) = some (aI E 14 (fun _ => 0)) := by rw [← hg]; exact xg_ne (by omega) (xn_ne (by omega) a25)
  have a26 : g10.2.2 (xb E + 26) = some (aI E 8 (fun _ => 0)) := by rw [← hg]; exact xg_ne (by omega) (xn_ne (by omega) a26)
  have a27 : g10.2.2 (xb E + 27) = some (aI E 8 (fun _ => 0)) := by rw [← hg]; exact xg_ne (by omega) (xn_ne (by omega) a27)
  have a28 : g10.2.2 (xb E + 28) = some (aZ E 8 (fun _ => 0)) := by rw [← hg]; exact xg_ne (by omega) (xn_ne (by omega) a28)
  have a29 : g10.2.2 (xb E + 29) = some (aZ E 8 (fun _ => 0)) := by rw [← hg]; exact xg_ne (by omega) (xn_ne (by omega) a29)
  have a30 : g10.2.2 (xb E + 30) = some (aI E 130 (fun _ => 0)) := by rw [← hg]; exact xg_ne (by omega) (xn_ne (by omega) a30)
  have a31 : g10.2.2 (xb E + 31) = some (aI E 130 (fun _ => 0)) := by rw [← hg]; exact xg_ne (by omega) (xn_eq (by omega))
  clear hg n9 s9 fr9
  refine wp_aload_n d_MO_init_86 rfl rfl ?_
  refine wp_sipush (v := 130) d_MO_init_87 (by rfl) ?_
  refine wp_newa (ty := .int) (N := 130) (a0 := (130, .inl (fun _ => 0))) rfl ka_int d_MO_init_90 hE.i rfl (fun _ h9 => h9) (by decide) (by decide) (by decide) ?_
  rw [show xb E + g10.1 = xb E + 32 from by rw [n10]]
  refine wp_put xf_MO_41 xg_MO (Or.inr ⟨rfl, rfl, rfl⟩) d_MO_init_92 (by repeat first | exact xg_eq | exact xn_eq (by first | rfl | omega) | refine xg_ne (by first | omega | assumption | (simp only [xput, xnew]; omega)) ?_ | refine xn_ne (by first | omega | assumption | (simp only [xput, xnew]; omega)) ?_ | assumption | exact rfl) (by first | rfl | assumption | exact bI_z _) (by first | rfl | assumption | exact bI_f _) (Nat.le_of_ble_eq_true rfl) ?_
  generalize hg : xput (xnew E g10 130 _) _ _ = g11
  have n11 : g11.1 = 33 := by rw [← hg]; show g10.1 + 1 = 33; omega
  have s11 : g11.2.1 = h.2.1 + 524 := by rw [← hg]; show g10.2.1 + 130 = _; omega
  have fr11 : ∀ q, q < xb E + 21 → g11.2.2 q = h.2.2 q := by intro q hq; rw [← hg]; exact xg_ne (by omega) (xn_ne (by omega) (fr10 q hq))
  have o21 : g11.2.2 (xb E + 21) = some (ob 10 [.ref (xb E + 22), .int 0, .ref (xb E + 23), .int 0, .ref (xb E + 24), .int 0, .int 0, .int 0, .ref (xb E + 25), .ref (xb E + 26), .ref (xb E + 27), .ref (xb E + 28), .ref (xb E + 29), .int 0, .int 0, .int 0, .int 0, .int 0, .ref (xb E + 30), .ref (xb E + 31), .ref (xb E + 32), .int 0, .null, .null, .null, .null, .null, .int 0, .null, .null, .null]) := by rw [← hg]; exact xg_eq
  have a22 : g11.2.2 (xb E + 22) = some (aI E 28 (fun _ => 0)) := by rw [← hg]; exact xg_ne (by omega) (xn_ne (by omega) a22)
  have a23 : g11.2.2 (xb E + 23) = some (aI E 30 (fun _ => 0)) := by rw [← hg]; exact xg_ne (by omega) (xn_ne (by omega) a23)
  have a24 : g11.2.2 (xb E + 24) = some (aI E 30 (fun _ => 0)) := by rw [← hg]; exact xg_ne (by omega) (xn_ne (by omega) a24)
  have a25 : g11.2.2 (xb E + 25) = some (aI E 14 (fun _ => 0)) := by rw [← hg]; exact xg_ne (by omega) (xn_ne (by omega) a25)
  have a26 : g11.2.2 (xb E + 26) = some (aI E 8 (fun _ => 0)) := by rw [← hg]; exact xg_ne (by omega) (xn_ne (by omega) a26)
  have a27 : g11.2.2 (xb E + 27) = some (aI E 8 (fun _ => 0)) := by rw [← hg]; exact xg_ne (by omega) (xn_ne (by omega) a27)
  have a28 : g11.2.2 (xb E + 28) = some (aZ E 8 (fun _ => 0)) := by rw [← hg]; exact xg_ne (by omega) (xn_ne (by omega) a28)
  have a29 : g11.2.2 (xb E + 29) = some (aZ E 8 (fun _ => 0)) := by rw [← hg]; exact xg_ne (by omega) (xn_ne (by omega) a29)
  have a30 : g11.2.2 (xb E + 30) = some (aI E 130 (fun _ => 0)) := by rw [← hg]; exact xg_ne (by omega) (xn_ne (by omega) a30)
  have a31 : g11.2.2 (xb E + 31) = some (aI E 130 (fun _ => 0)) := by rw [← hg]; exact xg_ne (by omega) (xn_ne (by omega) a31)
  have a32 : g11.2.2 (xb E + 32) = some (aI E 130 (fun _ => 0)) := by rw [← hg]; exact xg_ne (by omega) (xn_eq (by omega))
  clear hg n10 s10 fr10
  refine wp_aload_n d_MO_init_95 rfl rfl ?_
  refine wp_bipush (v := 8) d_MO_init_96 (by rfl) ?_
  refine wp_newa (ty := .int) (N := 8) (a0 := (8, .inl (fun _ => 0))) rfl ka_int d_MO_init_98 hE.i rfl (fun _ h9 => h9) (by decide) (by decide) (by decide) ?_
  rw [show xb E + g11.1 = xb E + 33 from by rw [n11]]
  refine wp_put xf_MO_44 xg_MO (Or.inr ⟨rfl, rfl, rfl⟩) d_MO_init_100 (by repeat first | exact xg_eq | exact xn_eq (by first | rfl | omega) | refine xg_ne (by first | omega | assumption | (simp only [xput, xnew]; omega)) ?_ | refine xn_ne (by first | omega | assumption | (simp only [xput, xnew]; omega)) ?_ | assumption | exact rfl) (by first | rfl | assumption | exact bI_z _) (by first | rfl | assumption | exact bI_f _) (Nat.le_of_ble_eq_true rfl) ?_
  generalize hg : xput (xnew E g11 8 _) _ _ = g12
  have n12 : g12.1 = 34 := by rw [← hg]; show g11.1 + 1 = 34; omega
  have s12 : g12.2.1 = h.2.1 + 532 := by rw [← hg]; show g11.2.1 + 8 = _; omega
  have fr12 : ∀ q, q < xb E + 21 → g12.2.2 q = h.2.2 q := by intro q hq; rw [← hg]; exact xg_ne (by omega) (xn_ne (by omega) (fr11 q hq))
  have o21 : g12.2.2 (xb E + 21) = some (ob 10 [.ref (xb E + 22), .int 0, .ref (xb E + 23), .int 0, .ref (xb E + 24), .int 0, .int 0, .int 0, .ref (xb E + 25), .ref (xb E + 26), .ref (xb E + 27), .ref (xb E + 28), .ref (xb E + 29), .int 0, .int 0, .int 0, .int 0, .int 0, .ref (xb E + 30), .ref (xb E + 31), .ref (xb E + 32), .int 0, .ref (xb E + 33), .null, .null, .null, .null, .int 0, .null, .null, .null]) := by rw [← hg]; exact xg_eq
  have a22 : g12.2.2 (xb E + 22) = some (aI E 28 (fun _ => 0)) := by rw [← hg]; exact xg_ne (by omega) (xn_ne (by omega) a22)
  have a23 : g12.2.2 (xb E + 23) = some (aI E 30 (fun _ => 0)) := by rw [← hg]; exact xg_ne (by omega) (xn_ne (by omega) a23)
  have a24 : g12.2.2 (xb E + 24) = some (aI E 30 (fun _ => 0)) := by rw [← hg]; exact xg_ne (by omega) (xn_ne (by omega) a24)
  have a25 : g12.2.2 (xb E + 25) = some (aI E 14 (fun _ => 0)) := by rw [← hg]; exact xg_ne (by omega) (xn_ne (by omega) a25)
  have a26 : g12.2.2 (xb E + 26) = some (aI E 8 (fun _ => 0)) := by rw [← hg]; exact xg_ne (by omega) (xn_ne (by omega) a26)
  have a27 : g12.2.2 (xb E + 27) = some (aI E 8 (fun _ => 0)) := by rw [← hg]; exact xg_ne (by omega) (xn_ne (by omega) a27)
  have a28 : g12.2.2 (xb E + 28) = some (aZ E 8 (fun _ => 0)) := by rw [← hg]; exact xg_ne (by omega) (xn_ne (by omega) a28)
  have a29 : g12.2.2 (xb E + 29) = some (aZ E 8 (fun _ => 0)) := by rw [← hg]; exact xg_ne (by omega) (xn_ne (by omega) a29)
  have a30 : g12.2.2 (xb E + 30) = some (aI E 130 (fun _ => 0)) := by rw [← hg]; exact xg_ne (by omega) (xn_ne (by omega) a30)
  have a31 : g12.2.2 (xb E + 31) = some (aI E 130 (fun _ => 0)) := by rw [← hg]; exact xg_ne (by omega) (xn_ne (by omega) a31)
  have a32 : g12.2.2 (xb E + 32) = some (aI E 130 (fun _ => 0)) := by rw [← hg]; exact xg_ne (by omega) (xn_ne (by omega) a32)
  have a33 : g12.2.2 (xb E + 33) = some (aI E 8 (fun _ => 0)) := by rw [← hg]; exact xg_ne (by omega) (xn_eq (by omega))
  clear hg n11 s11 fr11
  refine wp_aload_n d_MO_init_103 rfl rfl ?_
  refine wp_bipush (v := 8) d_MO_init_104 (by rfl) ?_
  refine wp_newa (ty := .int) (N := 8) (a0 := (8, .inl (fun _ => 0))) rfl ka_int d_MO_init_106 hE.i rfl (fun _ h9 => h9) (by decide) (by decide) (by decide) ?_
  rw [show xb E + g12.1 = xb E + 34 from by rw [n12]]
  refine wp_put xf_MO_47 xg_MO (Or.inr ⟨rfl, rfl, rfl⟩) d_MO_init_108 (by repeat first | exact xg_eq | exact xn_eq (by first | rfl | omega) | refine xg_ne (by first | omega | assumption | (simp only [xput, xnew]; omega)) ?_ | refine xn_ne (by first | omega | assumption | (simp only [xput, xnew]; omega)) ?_ | assumption | exact rfl) (by first | rfl | assumption | exact bI_z _) (by first | rfl | assumption | exact bI_f _) (Nat.le_of_ble_eq_true rfl) ?_
  generalize hg : xput (xnew E g12 8 _) _ _ = g13
  have n13 : g13.1 = 35 := by rw [← hg]; show g12.1 + 1 = 35; omega
  have s13 : g13.2.1 = h.2.1 + 540 := by rw [← hg]; show g12.2.1 + 8 = _; omega
  have fr13 : ∀ q, q < xb E + 21 → g13.2.2 q = h.2.2 q := by intro q hq; rw [← hg]; exact xg_ne (by omega) (xn_ne (by omega) (fr12 q hq))
  have o21 : g13.2.2 (xb E + 21) = some (ob 10 [.ref (xb E + 22), .int 0, .ref (xb E + 23), .int 0, .ref (xb E + 24), .int 0, .int 0, .int 0, .ref (xb E + 25), .ref (xb E + 26), .ref (xb E + 27), .ref (xb E + 28), .ref (xb E + 29), .int 0, .int 0, .int 0, .int 0, .int 0, .ref (xb E + 30), .ref (xb E + 31), .ref (xb E + 32), .int 0, .ref (xb E + 33), .ref (xb E + 34), .null, .null, .null, .int 0, .null, .null, .null]) := by rw [← hg]; exact xg_eq
  have a22 : g13.2.2 (xb E + 22) = some (aI E 28 (fun _ => 0)) := by rw [← hg]; exact xg_ne (by omega) (xn_ne (by omega) a22)
  have a23 : g13.2.2 (xb E + 23) = some (aI E 30 (fun _ => 0)) := by rw [← hg]; exact xg_ne (by omega) (xn_ne (by omega) a23)
  have a24 : g13.2.2 (xb E + 24) = some (aI E 30 (fun _ => 0)) := by rw [← hg]; exact xg_ne (by omega) (xn_ne (by omega) a24)
  have a25 : g13.2.2 (xb E + 25) = some (aI E 14 (fun _ => 0)) := by rw [← hg]; exact xg_ne (by omega) (xn_ne (by omega) a25)
  have a26 : g13.2.2 (xb E + 26) = some (aI E 8 (fun _ => 0)) := by rw [← hg]; exact xg_ne (by omega) (xn_ne (by omega) a26)
  have a27 : g13.2.2 (xb E + 27) = some (aI E 8 (fun _ => 0)) := by rw [← hg]; exact xg_ne (by omega) (xn_ne (by omega) a27)
  have a28 : g13.2.2 (xb E + 28) = some (aZ E 8 (fun _ => 0)) := by rw [← hg]; exact xg_ne (by omega) (xn_ne (by omega) a28)
  have a29 : g13.2.2 (xb E + 29) = some (aZ E 8 (fun _ => 0)) := by rw [← hg]; exact xg_ne (by omega) (xn_ne (by omega) a29)
  have a30 : g13.2.2 (xb E + 30) = some (aI E 130 (fun _ => 0)) := by rw [← hg]; exact xg_ne (by omega) (xn_ne (by omega) a30)
  have a31 : g13.2.2 (xb E + 31) = some (aI E 130 (fun _ => 0)) := by rw [← hg]; exact xg_ne (by omega) (xn_ne (by omega) a31)
  have a32 : g13.2.2 (xb E + 32) = some (aI E 130 (fun _ => 0)) := by rw [← hg]; exact xg_ne (by omega) (xn_ne (by omega) a32)
  have a33 : g13.2.2 (xb E + 33) = some (aI E 8 (fun _ => 0)) := by rw [← hg]; exact xg_ne (by omega) (xn_ne (by omega) a33)
  have a34 : g13.2.2 (xb E + 34) = some (aI E 8 (fun _ => 0)) := by rw [← hg]; exact xg_ne (by omega) (xn_eq (by omega))
  clear hg n12 s12 fr12
  refine wp_aload_n d_MO_init_111 rfl rfl ?_
  refine wp_bipush (v := 8) d_MO_init_112 (by rfl) ?_
  refine wp_newa (ty := .int) (N := 8) (a0 := (8, .inl (fun _ => 0))) rfl ka_int d_MO_init_114 hE.i rfl (fun _ h9 => h9) (by decide) (by decide) (by decide) ?_
  rw [show xb E + g13.1 = xb E + 35 from by rw [n13]]
  refine wp_put xf_MO_50 xg_MO (Or.inr ⟨rfl, rfl, rfl⟩) d_MO_init_116 (by repeat first | exact xg_eq | exact xn_eq (by first | rfl | omega) | refine xg_ne (by first | omega | assumption | (simp only [xput, xnew]; omega)) ?_ | refine xn_ne (by first | omega | assumption | (simp only [xput, xnew]; omega)) ?_ | assumption | exact rfl) (by first | rfl | assumption | exact bI_z _) (by first | rfl | assumption | exact bI_f _) (Nat.le_of_ble_eq_true rfl) ?_
  generalize hg : xput (xnew E g13 8 _) _ _ = g14
  have n14 : g14.1 = 36 := by rw [← hg]; show g13.1 + 1 = 36; omega
  have s14 : g14.2.1 = h.2.1 + 548 := by rw [← hg]; show g13.2.1 + 8 = _; omega
  have fr14 : ∀ q, q < xb E + 21 → g14.2.2 q = h.2.2 q := by intro q hq; rw [← hg]; exact xg_ne (by omega) (xn_ne (by omega) (fr13 q hq))
  have o21 : g14.2.2 (xb E + 21) = some (ob 10 [.ref (xb E + 22), .int 0, .ref (xb E + 23), .int 0, .ref (xb E + 24), .int 0, .int 0, .int 0, .ref (xb E + 25), .ref (xb E + 26), .ref (xb E + 27), .ref (xb E + 28), .ref (xb E + 29), .int 0, .int 0, .int 0, .int 0, .int 0, .ref (xb E + 30), .ref (xb E + 31), .ref (xb E + 32), .int 0, .ref (xb E + 33), .ref (xb E + 34), .ref (xb E + 35), .null, .null, .int 0, .null, .null, .null]) := by rw [← hg]; exact xg_eq
  have a22 : g14.2.2 (xb E + 22) = some (aI E 28 (fun _ => 0)) := by rw [← hg]; exact xg_ne (by omega) (xn_ne (by omega) a22)
  have a23 : g14.2.2 (xb E + 23) = some (aI E 30 (fun _ => 0)) := by rw [← hg]; exact xg_ne (by omega) (xn_ne (by omega) a23)
  have a24 : g14.2.2 (xb E + 24) = some (aI E 30 (fun _ => 0)) := by rw [← hg]; exact xg_ne (by omega) (xn_ne (by omega) a24)
  have a25 : g14.2.2 (xb E + 25) = some (aI E 14 (fun _ => 0)) := by rw [← hg]; exact xg_ne (by omega) (xn_ne (by omega) a25)
  have a26 : g14.2.2 (xb E + 26) = some (aI E 8 (fun _ => 0)) := by rw [← hg]; exact xg_ne (by omega) (xn_ne (by omega) a26)
  have a27 : g14.2.2 (xb E + 27) = some (aI E 8 (fun _ => 0)) := by rw [← hg]; exact xg_ne (by omega) (xn_ne (by omega) a27)
  have a28 : g14.2.2 (xb E + 28) = some (aZ E 8 (fun _ => 0)) := by rw [← hg]; exact xg_ne (by omega) (xn_ne (by omega) a28)
  have a29 : g14.2.2 (xb E + 29) = some (aZ E 8 (fun _ => 0)) := by rw [← hg]; exact xg_ne (by omega) (xn_ne (by omega) a29)
  have a30 : g14.2.2 (xb E + 30) = some (aI E 130 (fun _ => 0)) := by rw [← hg]; exact xg_ne (by omega) (xn_ne (by omega) a30)
  have a31 : g14.2.2 (xb E + 31) = some (aI E 130 (fun _ => 0)) := by rw [← hg]; exact xg_ne (by omega) (xn_ne (by omega) a31)
  have a32 : g14.2.2 (xb E + 32) = some (aI E 130 (fun _ => 0)) := by rw [← hg]; exact xg_ne (by omega) (xn_ne (by omega) a32)
  have a33 : g14.2.2 (xb E + 33) = some (aI E 8 (fun _ => 0)) := by rw [← hg]; exact xg_ne (by omega) (xn_ne (by omega) a33)
  have a34 : g14.2.2 (xb E + 34) = some (aI E 8 (fun _ => 0)) := by rw [← hg]; exact xg_ne (by omega) (xn_ne (by omega) a34)
  have a35 : g14.2.2 (xb E + 35) = some (aI E 8 (fun _ => 0)) := by rw [← hg]; exact xg_ne (by omega) (xn_eq (by omega))
  clear hg n13 s13 fr13
  refine wp_aload_n d_MO_init_119 rfl rfl ?_
  refine wp_bipush (v := 8) d_MO_init_120 (by rfl) ?_
  refine wp_newa (ty := .int) (N := 8) (a0 := (8, .inl (fun _ => 0))) rfl ka_int d_MO_init_122 hE.i rfl (fun _ h9 => h9) (by decide) (by decide) (by decide) ?_
  rw [show xb E + g14.1 = xb E + 36 from by rw [n14]]
  refine wp_put xf_MO_53 xg_MO (Or.inr ⟨rfl, rfl, rfl⟩) d_MO_init_124 (by repeat first | exact xg_eq | exact xn_eq (by first | rfl | omega) | refine xg_ne (by first | omega | assumption | (simp only [xput, xnew]; omega)) ?_ | refine xn_ne (by first | omega | assumption | (simp only [xput, xnew]; omega)) ?_ | assumption | exact rfl) (by first | rfl | assumption | exact bI_z _) (by first | rfl | assumption | exact bI_f _) (Nat.le_of_ble_eq_true rfl) ?_
  generalize hg : xput (xnew E g14 8 _) _ _ = g15
  have n15 : g15.1 = 37 := by rw [← hg]; show g14.1 + 1 = 37; omega
  have s15 : g15.2.1 = h.2.1 + 556 := by rw [← hg]; show g14.2.1 + 8 = _; omega
  have fr15 : ∀ q, q < xb E + 21 → g15.2.2 q = h.2.2 q := by intro q hq; rw [← hg]; exact xg_ne (by omega) (xn_ne (by omega) (fr14 q hq))
  have o21 : g15.2.2 (xb E + 21) = some (ob 10 [.ref (xb E + 22), .int 0, .ref (xb E + 23), .int 0, .ref (xb E + 24), .int 0, .int 0, .int 0, .ref (xb E + 25), .ref (xb E + 26), .ref (xb E + 27), .ref (xb E + 28), .ref (xb E + 29), .int 0, .int 0, .int 0, .int 0, .int 0, .ref (xb E + 30), .ref (xb E + 31), .ref (xb E + 32), .int 0, .ref (xb E + 33), .ref (xb E + 34), .ref (xb E + 35), .ref (xb E + 36), .null, .int 0, .null, .null, .null]) := by rw [← hg]; exact xg_eq
  have a22 : g15.2.2 (xb E + 22) = some (aI E 28 (fun _ => 0)) := by rw [← hg]; exact xg_ne (by omega) (xn_ne (by omega) a22)
  have a23 : g15.2.2 (xb E + 23) = some (aI E 30 (fun _ => 0)) := by rw [← hg]; exact xg_ne (by omega) (xn_ne (by omega) a23)
  have a24 : g15.2.2 (xb E + 24) = some (aI E 30 (fun _ => 0)) := by rw [← hg]; exact xg_ne (by omega) (xn_ne (by omega) a24)
  have a25 : g15.2.2 (xb E + 25) = some (aI E 14 (fun _ => 0)) := by rw [← hg]; exact xg_ne (by omega) (xn_ne (by omega) a25)
  have a26 : g15.2.2 (xb E + 26) = some (aI E 8 (fun _ => 0)) := by rw [← hg]; exact xg_ne (by omega) (xn_ne (by omega) a26)
  have a27 : g15.2.2 (xb E + 27) = some (aI E 8 (fun _ => 0)) := by rw [← hg]; exact xg_ne (by omega) (xn_ne (by omega) a27)
  have a28 : g15.2.2 (xb E + 28) = some (aZ E 8 (fun _ => 0)) := by rw [← hg]; exact xg_ne (by omega) (xn_ne (by omega) a28)
  have a29 : g15.2.2 (xb E + 29) = some (aZ E 8 (fun _ => 0)) := by rw [← hg]; exact xg_ne (by omega) (xn_ne (by omega) a29)
  have a30 : g15.2.2 (xb E + 30) = some (aI E 130 (fun _ => 0)) := by rw [← hg]; exact xg_ne (by omega) (xn_ne (by omega) a30)
  have a31 : g15.2.2 (xb E + 31) = some (aI E 130 (fun _ => 0)) := by rw [← hg]; exact xg_ne (by omega) (xn_ne (by omega) a31)
  have a32 : g15.2.2 (xb E + 32) = some (aI E 130 (fun _ => 0)) := by rw [← hg]; exact xg_ne (by omega) (xn_ne (by omega) a32)
  have a33 : g15.2.2 (xb E + 33) = some (aI E 8 (fun _ => 0)) := by rw [← hg]; exact xg_ne (by omega) (xn_ne (by omega) a33)
  have a34 : g15.2.2 (xb E + 34) = some (aI E 8 (fun _ => 0)) := by rw [← hg]; exact xg_ne (by omega) (xn_ne (by omega) a34)
  have a35 : g15.2.2 (xb E + 35) = some (aI E 8 (fun _ => 0)) := by rw [← hg]; exact xg_ne (by omega) (xn_ne (by omega) a35)
  have a36 : g15.2.2 (xb E + 36) = some (aI E 8 (fun _ => 0)) := by rw [← hg]; exact xg_ne (by omega) (xn_eq (by omega))
  clear hg n14 s14 fr14
  refine wp_aload_n d_MO_init_127 rfl rfl ?_
  refine wp_bipush (v := 30) d_MO_init_128 (by rfl) ?_
  refine wp_newa (ty := .int) (N := 30) (a0 := (30, .inl (fun _ => 0))) rfl ka_int d_MO_init_130 hE.i rfl (fun _ h9 => h9) (by decide) (by decide) (by decide) ?_
  rw [show xb E + g15.1 = xb E + 37 from by rw [n15]]
  refine wp_put xf_MO_56 xg_MO (Or.inr ⟨rfl, rfl, rfl⟩) d_MO_init_132 (by repeat first | exact xg_eq | exact xn_eq (by first | rfl | omega) | refine xg_ne (by first | omega | assumption | (simp only [xput, xnew]; omega)) ?_ | refine xn_ne (by first | omega | assumption | (simp only [xput, xnew]; omega)) ?_ | assumption | exact rfl) (by first | rfl | assumption | exact bI_z _) (by first | rfl | assumption | exact bI_f _) (Nat.le_of_ble_eq_true rfl) ?_
  generalize hg : xput (xnew E g15 30 _) _ _ = g16
  have n16 : g16.1 = 38 := by rw [← hg]; show g15.1 + 1 = 38; omega
  have s16 : g16.2.1 = h.2.1 + 586 := by rw [← hg]; show g15.2.1 + 30 = _; omega
  have fr16 : ∀ q, q < xb E + 21 → g16.2.2 q = h.2.2 q := by intro q hq; rw [← hg]; exact xg_ne (by omega) (xn_ne (by omega) (fr15 q hq))
  have o21 : g16.2.2 (xb E + 21) = some (ob 10 [.ref (xb E + 22), .int 0, .ref (xb E + 23), .int 0, .ref (xb E + 24), .int 0, .int 0, .int 0, .ref (xb E + 25), .ref (xb E + 26), .ref (xb E + 27), .ref (xb E + 28), .ref (xb E + 29), .int 0, .int 0, .int 0, .int 0, .int 0, .ref (xb E + 30), .ref (xb E + 31), .ref (xb E + 32), .int 0, .ref (xb E + 33), .ref (xb E + 34), .ref (xb E + 35), .ref (xb E + 36), .ref (xb E + 37), .int 0, .null, .null, .null]) := by rw [← hg]; exact xg_eq
  have a22 : g16.2.2 (xb E + 22) = some (aI E 28 (fun _ => 0)) := by rw [← hg]; exact xg_ne (by omega) (xn_ne (by omega) a22)
  have a23 : g16.2.2 (xb E + 23) = some (aI E 30 (fun _ => 0)) := by rw [← hg]; exact xg_ne (by omega) (xn_ne (by omega) a23)
  have a24 : g16.2.2 (xb E + 24) = some (aI E 30 (fun _ => 0)) := by rw [← hg]; exact xg_ne (by omega) (xn_ne (by omega) a24)
  have a25 : g16.2.2 (xb E + 25) = some (aI E 14 (fun _ => 0)) := by rw [← hg]; exact xg_ne (by omega) (xn_ne (by omega) a25)
  have a26 : g16.2.2 (xb E + 26) = some (aI E 8 (fun _ => 0)) := by rw [← hg]; exact xg_ne (by omega) (xn_ne (by omega) a26)
  have a27 : g16.2.2 (xb E + 27) = some (aI E 8 (fun _ => 0)) := by rw [← hg]; exact xg_ne (by omega) (xn_ne (by omega) a27)
  have a28 : g16.2.2 (xb E + 28) = some (aZ E 8 (fun _ => 0)) := by rw [← hg]; exact xg_ne (by omega) (xn_ne (by omega) a28)
  have a29 : g16.2.2 (xb E + 29) = some (aZ E 8 (fun _ => 0)) := by rw [← hg]; exact xg_ne (by omega) (xn_ne (by omega) a29)
  have a30 : g16.2.2 (xb E + 30) = some (aI E 130 (fun _ => 0)) := by rw [← hg]; exact xg_ne (by omega) (xn_ne (by omega) a30)
  have a31 : g16.2.2 (xb E + 31) = some (aI E 130 (fun _ => 0)) := by rw [← hg]; exact xg_ne (by omega) (xn_ne (by omega) a31)
  have a32 : g16.2.2 (xb E + 32) = some (aI E 130 (fun _ => 0)) := by rw [← hg]; exact xg_ne (by omega) (xn_ne (by omega) a32)
  have a33 : g16.2.2 (xb E + 33) = some (aI E 8 (fun _ => 0)) := by rw [← hg]; exact xg_ne (by omega) (xn_ne (by omega) a33)
  have a34 : g16.2.2 (xb E + 34) = some (aI E 8 (fun _ => 0)) := by rw [← hg]; exact xg_ne (by omega) (xn_ne (by omega) a34)
  have a35 : g16.2.2 (xb E + 35) = some (aI E 8 (fun _ => 0)) := by rw [← hg]; exact xg_ne (by omega) (xn_ne (by omega) a35)
  have a36 : g16.2.2 (xb E + 36) = some (aI E 8 (fun _ => 0)) := by rw [← hg]; exact xg_ne (by omega) (xn_ne (by omega) a36)
  have a37 : g16.2.2 (xb E + 37) = some (aI E 30 (fun _ => 0)) := by rw [← hg]; exact xg_ne (by omega) (xn_eq (by omega))
  clear hg n15 s15 fr15
  refine wp_aload_n d_MO_init_135 rfl rfl ?_
  refine wp_sipush (v := 4030) d_MO_init_136 (by rfl) ?_
  refine wp_newa (ty := .boolean) (N := 4030) (a0 := (4030, .inl (fun _ => 0))) rfl ka_boolean d_MO_init_139 hE.z rfl (fun _ h9 => h9) (by decide) (by decide) (by decide) ?_
  rw [show xb E + g16.1 = xb E + 38 from by rw [n16]]
  refine wp_put xf_MO_59 xg_MO (Or.inr ⟨rfl, rfl, rfl⟩) d_MO_init_141 (by repeat first | exact xg_eq | exact xn_eq (by first | rfl | omega) | refine xg_ne (by first | omega | assumption | (simp only [xput, xnew]; omega)) ?_ | refine xn_ne (by first | omega | assumption | (simp only [xput, xnew]; omega)) ?_ | assumption | exact rfl) (by first | rfl | assumption | exact bI_z _) (by first | rfl | assumption | exact bI_f _) (Nat.le_of_ble_eq_true rfl) ?_
  generalize hg : xput (xnew E g16 4030 _) _ _ = g17
  have n17 : g17.1 = 39 := by rw [← hg]; show g16.1 + 1 = 39; omega
  have s17 : g17.2.1 = h.2.1 + 4616 := by rw [← hg]; show g16.2.1 + 4030 = _; omega
  have fr17 : ∀ q, q < xb E + 21 → g17.2.2 q = h.2.2 q := by intro q hq; rw [← hg]; exact xg_ne (by omega) (xn_ne (by omega) (fr16 q hq))
  have o21 : g17.2.2 (xb E + 21) = some (ob 10 [.ref (xb E + 22), .int 0, .ref (xb E + 23), .int 0, .ref (xb E + 24), .int 0, .int 0, .int 0, .ref (xb E + 25), .ref (xb E + 26), .ref (xb E + 27), .ref (xb E + 28), .ref (xb E + 29), .int 0, .int 0, .int 0, .int 0, .int 0, .ref (xb E + 30), .ref (xb E + 31), .ref (xb E + 32), .int 0, .ref (xb E + 33), .ref (xb E + 34), .ref (xb E + 35), .ref (xb E + 36), .ref (xb E + 37), .int 0, .ref (xb E + 38), .null, .null]) := by rw [← hg]; exact xg_eq
  have a22 : g17.2.2 (xb E + 22) = some (aI E 28 (fun _ => 0)) := by rw [← hg]; exact xg_ne (by omega) (xn_ne (by omega) a22)
  have a23 : g17.2.2 (xb E + 23) = some (aI E 30 (fun _ => 0)) := by rw [← hg]; exact xg_ne (by omega) (xn_ne (by omega) a23)
  have a24 : g17.2.2 (xb E + 24) = some (aI E 30 (fun _ => 0)) := by rw [← hg]; exact xg_ne (by omega) (xn_ne (by omega) a24)
  have a25 : g17.2.2 (xb E + 25) = some (aI E 14 (fun _ => 0)) := by rw [← hg]; exact xg_ne (by omega) (xn_ne (by omega) a25)
  have a26 : g17.2.2 (xb E + 26) = some (aI E 8 (fun _ => 0)) := by rw [← hg]; exact xg_ne (by omega) (xn_ne (by omega) a26)
  have a27 : g17.2.2 (xb E + 27) = some (aI E 8 (fun _ => 0)) := by rw [← hg]; exact xg_ne (by omega) (xn_ne (by omega) a27)
  have a28 : g17.2.2 (xb E + 28) = some (aZ E 8 (fun _ => 0)) := by rw [← hg]; exact xg_ne (by omega) (xn_ne (by omega) a28)
  have a29 : g17.2.2 (xb E + 29) = some (aZ E 8 (fun _ => 0)) := by rw [← hg]; exact xg_ne (by omega) (xn_ne (by omega) a29)
  have a30 : g17.2.2 (xb E + 30) = some (aI E 130 (fun _ => 0)) := by rw [← hg]; exact xg_ne (by omega) (xn_ne (by omega) a30)
  have a31 : g17.2.2 (xb E + 31) = some (aI E 130 (fun _ => 0)) := by rw [← hg]; exact xg_ne (by omega) (xn_ne (by omega) a31)
  have a32 : g17.2.2 (xb E + 32) = some (aI E 130 (fun _ => 0)) := by rw [← hg]; exact xg_ne (by omega) (xn_ne (by omega) a32)
  have a33 : g17.2.2 (xb E + 33) = some (aI E 8 (fun _ => 0)) := by rw [← hg]; exact xg_ne (by omega) (xn_ne (by omega) a33)
  have a34 : g17.2.2 (xb E + 34) = some (aI E 8 (fun _ => 0)) := by rw [← hg]; exact xg_ne (by omega) (xn_ne (by omega) a34)
  have a35 : g17.2.2 (xb E + 35) = some (aI E 8 (fun _ => 0)) := by rw [← hg]; exact xg_ne (by omega) (xn_ne (by omega) a35)
  have a36 : g17.2.2 (xb E + 36) = some (aI E 8 (fun _ => 0)) := by rw [← hg]; exact xg_ne (by omega) (xn_ne (by omega) a36)
  have a37 : g17.2.2 (xb E + 37) = some (aI E 30 (fun _ => 0)) := by rw [← hg]; exact xg_ne (by omega) (xn_ne (by omega) a37)
  have a38 : g17.2.2 (xb E + 38) = some (aZ E 4030 (fun _ => 0)) := by rw [← hg]; exact xg_ne (by omega) (xn_eq (by omega))
  clear hg n16 s16 fr16
  refine wp_aload_n d_MO_init_144 rfl rfl ?_
  refine wp_sipush (v := 4030) d_MO_init_145 (by rfl) ?_
  refine wp_newa (ty := .int) (N := 4030) (a0 := (4030, .inl (fun _ => 0))) rfl ka_int d_MO_init_148 hE.i rfl (fun _ h9 => h9) (by decide) (by decide) (by decide) ?_
  rw [show xb E + g17.1 = xb E + 39 from by rw [n17]]
  refine wp_put xf_MO_62 xg_MO (Or.inr ⟨rfl, rfl, rfl⟩) d_MO_init_150 (by repeat first | exact xg_eq | exact xn_eq (by first | rfl | omega) | refine xg_ne (by first | omega | assumption | (simp only [xput, xnew]; omega)) ?_ | refine xn_ne (by first | omega | assumption | (simp only [xput, xnew]; omega)) ?_ | assumption | exact rfl) (by first | rfl | assumption | exact bI_z _) (by first | rfl | assumption | exact bI_f _) (Nat.le_of_ble_eq_true rfl) ?_
  generalize hg : xput (xnew E g17 4030 _) _ _ = g18
  have n18 : g18.1 = 40 := by rw [← hg]; show g17.1 + 1 = 40; omega
  have s18 : g18.2.1 = h.2.1 + 8646 := by rw [← hg]; show g17.2.1 + 4030 = _; omega
  have fr18 : ∀ q, q < xb E + 21 → g18.2.2 q = h.2.2 q := by intro q hq; rw [← hg]; exact xg_ne (by omega) (xn_ne (by omega) (fr17 q hq))
  have o21 : g18.2.2 (xb E + 21) = some (ob 10 [.ref (xb E + 22), .int 0, .ref (xb E + 23), .int 0, .ref (xb E + 24), .int 0, .int 0, .int 0, .ref (xb E + 25), .ref (xb E + 26), .ref (xb E + 27), .ref (xb E + 28), .ref (xb E + 29), .int 0, .int 0, .int 0, .int 0, .int 0, .ref (xb E + 30), .ref (xb E + 31), .ref (xb E + 32), .int 0, .ref (xb E + 33), .ref (xb E + 34), .ref (xb E + 35), .ref (xb E + 36), .ref (xb E + 37), .int 0, .ref (xb E + 38), .ref (xb E + 39), .null]) := by rw [← hg]; exact xg_eq
  have a22 : g18.2.2 (xb E + 22) = some (aI E 28 (fun _ => 0)) := by rw [← hg]; exact xg_ne (by omega) (xn_ne (by omega) a22)
  have a23 : g18.2.2 (xb E + 23) = some (aI E 30 (fun _ => 0)) := by rw [← hg]; exact xg_ne (by omega) (xn_ne (by omega) a23)
  have a24 : g18.2.2 (xb E + 24) = some (aI E 30 (fun _ => 0)) := by rw [← hg]; exact xg_ne (by omega) (xn_ne (by omega) a24)
  have a25 : g18.2.2 (xb E + 25) = some (aI E 14 (fun _ => 0)) := by rw [← hg]; exact xg_ne (by omega) (xn_ne (by omega) a25)
  have a26 : g18.2.2 (xb E + 26) = some (aI E 8 (fun _ => 0)) := by rw [← hg]; exact xg_ne (by omega) (xn_ne (by omega) a26)
  have a27 : g18.2.2 (xb E + 27) = some (aI E 8 (fun _ => 0)) := by rw [← hg]; exact xg_ne (by omega) (xn_ne (by omega) a27)
  have a28 : g18.2.2 (xb E + 28) = some (aZ E 8 (fun _ => 0)) := by rw [← hg]; exact xg_ne (by omega) (xn_ne (by omega) a28)
  have a29 : g18.2.2 (xb E + 29) = some (aZ E 8 (fun _ => 0)) := by rw [← hg]; exact xg_ne (by omega) (xn_ne (by omega) a29)
  have a30 : g18.2.2 (xb E + 30) = some (aI E 130 (fun _ => 0)) := by rw [← hg]; exact xg_ne (by omega) (xn_ne (by omega) a30)
  have a31 : g18.2.2 (xb E + 31) = some (aI E 130 (fun _ => 0)) := by rw [← hg]; exact xg_ne (by omega) (xn_ne (by omega) a31)
  have a32 : g18.2.2 (xb E + 32) = some (aI E 130 (fun _ => 0)) := by rw [← hg]; exact xg_ne (by omega) (xn_ne (by omega) a32)
  have a33 : g18.2.2 (xb E + 33) = some (aI E 8 (fun _ => 0)) := by rw [← hg]; exact xg_ne (by omega) (xn_ne (by omega) a33)
  have a34 : g18.2.2 (xb E + 34) = some (aI E 8 (fun _ => 0)) := by rw [← hg]; exact xg_ne (by omega) (xn_ne (by omega) a34)
  have a35 : g18.2.2 (xb E + 35) = some (aI E 8 (fun _ => 0)) := by rw [← hg]; exact xg_ne (by omega) (xn_ne (by omega) a35)
  have a36 : g18.2.2 (xb E + 36) = some (aI E 8 (fun _ => 0)) := by rw [← hg]; exact xg_ne (by omega) (xn_ne (by omega) a36)
  have a37 : g18.2.2 (xb E + 37) = some (aI E 30 (fun _ => 0)) := by rw [← hg]; exact xg_ne (by omega) (xn_ne (by omega) a37)
  have a38 : g18.2.2 (xb E + 38) = some (aZ E 4030 (fun _ => 0)) := by rw [← hg]; exact xg_ne (by omega) (xn_ne (by omega) a38)
  have a39 : g18.2.2 (xb E + 39) = some (aI E 4030 (fun _ => 0)) := by rw [← hg]; exact xg_ne (by omega) (xn_eq (by omega))
  clear hg n17 s17 fr17
  refine wp_aload_n d_MO_init_153 rfl rfl ?_
  refine wp_bipush (v := 14) d_MO_init_154 (by rfl) ?_
  refine wp_newa (ty := .int) (N := 14) (a0 := (14, .inl (fun _ => 0))) rfl ka_int d_MO_init_156 hE.i rfl (fun _ h9 => h9) (by decide) (by decide) (by decide) ?_
  rw [show xb E + g18.1 = xb E + 40 from by rw [n18]]
  refine wp_put xf_MO_65 xg_MO (Or.inr ⟨rfl, rfl, rfl⟩) d_MO_init_158 (by repeat first | exact xg_eq | exact xn_eq (by first | rfl | omega) | refine xg_ne (by first | omega | assumption | (simp only [xput, xnew]; omega)) ?_ | refine xn_ne (by first | omega | assumption | (simp only [xput, xnew]; omega)) ?_ | assumption | exact rfl) (by first | rfl | assumption | exact bI_z _) (by first | rfl | assumption | exact bI_f _) (Nat.le_of_ble_eq_true rfl) ?_
  generalize hg : xput (xnew E g18 14 _) _ _ = g19
  have n19 : g19.1 = 41 := by rw [← hg]; show g18.1 + 1 = 41; omega
  have s19 : g19.2.1 = h.2.1 + 8660 := by rw [← hg]; show g18.2.1 + 14 = _; omega
  have fr19 : ∀ q, q < xb E + 21 → g19.2.2 q = h.2.2 q := by intro q hq; rw [← hg]; exact xg_ne (by omega) (xn_ne (by omega) (fr18 q hq))
  have o21 : g19.2.2 (xb E + 21) = some (ob 10 [.ref (xb E + 22), .int 0, .ref (xb E + 23), .int 0, .ref (xb E + 24), .int 0, .int 0, .int 0, .ref (xb E + 25), .ref (xb E + 26), .ref (xb E + 27), .ref (xb E + 28), .ref (xb E + 29), .int 0, .int 0, .int 0, .int 0, .int 0, .ref (xb E + 30), .ref (xb E + 31), .ref (xb E + 32), .int 0, .ref (xb E + 33), .ref (xb E + 34), .ref (xb E + 35), .ref (xb E + 36), .ref (xb E + 37), .int 0, .ref (xb E + 38), .ref (xb E + 39), .ref (xb E + 40)]) := by rw [← hg]; exact xg_eq
  have a22 : g19.2.2 (xb E + 22) = some (aI E 28 (fun _ => 0)) := by rw [← hg]; exact xg_ne (by omega) (xn_ne (by omega) a22)
  have a23 : g19.2.2 (xb E + 23) = some (aI E 30 (fun _ => 0)) := by rw [← hg]; exact xg_ne (by omega) (xn_ne (by omega) a23)
  have a24 : g19.2.2 (xb E + 24) = some (aI E 30 (fun _ => 0)) := by rw [← hg]; exact xg_ne (by omega) (xn_ne (by omega) a24)
  have a25 : g19.2.2 (xb E + 25) = some (aI E 14 (fun _ => 0)) := by rw [← hg]; exact xg_ne (by omega) (xn_ne (by omega) a25)
  have a26 : g19.2.2 (xb E + 26) = some (aI E 8 (fun _ => 0)) := by rw [← hg]; exact xg_ne (by omega) (xn_ne (by omega) a26)
  have a27 : g19.2.2 (xb E + 27) = some (aI E 8 (fun _ => 0)) := by rw [← hg]; exact xg_ne (by omega) (xn_ne (by omega) a27)
  have a28 : g19.2.2 (xb E + 28) = some (aZ E 8 (fun _ => 0)) := by rw [← hg]; exact xg_ne (by omega) (xn_ne (by omega) a28)
  have a29 : g19.2.2 (xb E + 29) = some (aZ E 8 (fun _ => 0)) := by rw [← hg]; exact xg_ne (by omega) (xn_ne (by omega) a29)
  have a30 : g19.2.2 (xb E + 30) = some (aI E 130 (fun _ => 0)) := by rw [← hg]; exact xg_ne (by omega) (xn_ne (by omega) a30)
  have a31 : g19.2.2 (xb E + 31) = some (aI E 130 (fun _ => 0)) := by rw [← hg]; exact xg_ne (by omega) (xn_ne (by omega) a31)
  have a32 : g19.2.2 (xb E + 32) = some (aI E 130 (fun _ => 0)) := by rw [← hg]; exact xg_ne (by omega) (xn_ne (by omega) a32)
  have a33 : g19.2.2 (xb E + 33) = some (aI E 8 (fun _ => 0)) := by rw [← hg]; exact xg_ne (by omega) (xn_ne (by omega) a33)
  have a34 : g19.2.2 (xb E + 34) = some (aI E 8 (fun _ => 0)) := by rw [← hg]; exact xg_ne (by omega) (xn_ne (by omega) a34)
  have a35 : g19.2.2 (xb E + 35) = some (aI E 8 (fun _ => 0)) := by rw [← hg]; exact xg_ne (by omega) (xn_ne (by omega) a35)
  have a36 : g19.2.2 (xb E + 36) = some (aI E 8 (fun _ => 0)) := by rw [← hg]; exact xg_ne (by omega) (xn_ne (by omega) a36)
  have a37 : g19.2.2 (xb E + 37) = some (aI E 30 (fun _ => 0)) := by rw [← hg]; exact xg_ne (by omega) (xn_ne (by omega) a37)
  have a38 : g19.2.2 (xb E + 38) = some (aZ E 4030 (fun _ => 0)) := by rw [← hg]; exact xg_ne (by omega) (xn_ne (by omega) a38)
  have a39 : g19.2.2 (xb E + 39) = some (aI E 4030 (fun _ => 0)) := by rw [← hg]; exact xg_ne (by omega) (xn_ne (by omega) a39)
  have a40 : g19.2.2 (xb E + 40) = some (aI E 14 (fun _ => 0)) := by rw [← hg]; exact xg_ne (by omega) (xn_eq (by omega))
  clear hg n18 s18 fr18
  refine wp_return d_MO_init_161 rfl ?_
  refine ⟨rfl, n19, s19, fr19, fun _ => 0, fun _ => 0, fun _ => 0, fun k hk => absurd hk (Nat.not_lt_zero k), Nat.zero_le _, fun _ => 0, fun _ => 0, fun _ => 0, ⟨fun k hk => absurd hk (Nat.not_lt_zero k), fun k hk => absurd hk (Nat.not_lt_zero k), fun k hk => absurd hk (Nat.not_lt_zero k), Nat.zero_le _, Nat.zero_le _, Nat.zero_le _⟩, o21, a22, a23, a24, a25, a26, a27, a28, a29, a30, a31, a32, a33, a34, a35, a36, a37, a38, a39, a40⟩
end M17
