def xgc (E : xE) (S : List Nat) (k : Nat) (h h' : xH) : Prop := h.1 ≤ h'.1 ∧ h'.1 ≤ h.1 + k ∧ h.2.1 ≤ h'.2.1 ∧ h'.2.1 ≤ h.2.1 + 6 * k ∧ ∀ q : Nat, q < xb E + h.1 → q ∉ S → h'.2.2 q = h.2.2 q
theorem Cl.get2 {E : xE} {h : xH} {c : CS} (hc : Cl E h c) {S : List Nat} {h' : xH} (f : ∀ q, q ≤ xb E + 20 → q ∉ S → h'.2.2 q = h.2.2 q) : (xb E ∉ S → h'.2.2 (xb E) = some (ob 9 [.ref (xb E + 1), .ref (xb E + 3), .ref (xb E + 5), .ref (xb E + 7), .ref (xb E + 17), .ref (xb E + 19), .int (bI c.2.2.2.2.2.2.1), .int (nI c.2.2.2.2.2.2.2)])) ∧ (xb E + 1 ∉ S → xb E + 2 ∉ S → SgL E h' (xb E + 1) (xb E + 2) 28 c.1) ∧ (xb E + 3 ∉ S → xb E + 4 ∉ S → SgL E h' (xb E + 3) (xb E + 4) 30 c.2.1) ∧ (xb E + 5 ∉ S → xb E + 6 ∉ S → SgL E h' (xb E + 5) (xb E + 6) 30 c.2.2.1) ∧
    ((∀ z, xb E + 7 ≤ z → z ≤ xb E + 16 → z ∉ S) → Ma E h' (xb E + 7) c.2.2.2.1.1 c.2.2.2.1.2.1 c.2.2.2.1.2.2.1 c.2.2.2.1.2.2.2.1 c.2.2.2.1.2.2.2.2) ∧ (xb E + 17 ∉ S → xb E + 18 ∉ S → Bd E h' (xb E + 17) (xb E + 18) c.2.2.2.2.1) ∧ (xb E + 19 ∉ S → xb E + 20 ∉ S → Bd E h' (xb E + 19) (xb E + 20) c.2.2.2.2.2.1) := by
  obtain ⟨h1, h2, h3, h4, h5, h6, h7, h8⟩ := hc
  exact ⟨fun a => (f _ (by omega) a).trans h1, fun a b => h2.mv (f _ (by omega) a) (f _ (by omega) b), fun a b => h3.mv (f _ (by omega) a) (f _ (by omega) b), fun a b => h4.mv (f _ (by omega) a) (f _ (by omega) b), fun a => h5.mv (fun z z1 z2 => f z (by omega) (a z z1 (by omega))), fun a b => ⟨(f _ (by omega) a).trans h6.1, (f _ (by omega) b).trans h6.2.1, h6.2.2⟩, fun a b => ⟨(f _ (by omega) a).trans h7.1, (f _ (by omega) b).trans h7.2.1, h7.2.2⟩⟩
def rdA (xs : List Int32) : Ch 7 × RS := pCh xs 7 (0, 0, false, false)
def fltB (xs : List Int32) : Bool := (rdA xs).2.2.2.2 || decide ((rdA xs).2.1 < xs.length)
def fltA (xs : List Int32) : Int32 := if fltB xs then nI (rdA xs).2.1 else -2
section CO
variable {E : xE} {h : xH} {c : CS} {kA kV : Nat → Nat}
theorem c_RE_init {a sa : Nat} (h1 : h.2.2 a = some (ob 6 [.null, .int 0, .int 0, .int 0, .int 0])) : wpc E 1 m_RE_init [.ref a, .ref sa] h (fun r' h' => r' = none ∧ h' = xput h a (ob 6 [.ref sa, .int 0, .int 0, .int 0, .int 0])) := by
  refine wpc_of rfl (Nat.le_of_ble_eq_true rfl) ?_
  refine wp_aload_n d_RE_init_0 rfl rfl ?_
  refine wp_objInit xo_RE_3 d_RE_init_1 (Nat.le_of_ble_eq_true rfl) (by omega) ?_
  refine wp_aload_n d_RE_init_4 rfl rfl ?_
  refine wp_aload_n d_RE_init_5 rfl rfl ?_
  refine wp_put xf_RE_9 xg_RE (Or.inr ⟨rfl, rfl, rfl⟩) d_RE_init_6 (by repeat first | assumption | exact xg_eq | exact xn_eq (by first | rfl | omega) | refine xg_ne (by first | assumption | omega | (simp only [xput, xnew]; omega)) ?_ | refine xn_ne (by first | assumption | omega | (simp only [xput, xnew]; omega)) ?_ | exact rfl) (by first | rfl | assumption | exact bI_z _) (by first | rfl | assumption | exact bI_f _) (Nat.le_of_ble_eq_true rfl) ?_
  refine wp_return d_RE_init_9 rfl ?_
  exact ⟨rfl, rfl⟩
theorem c_RE_faultPlace (hE : xOK E) {ra sa sr n : Nat} {xs : List Int32} {s : RS} (hr : Rd E h ra sa sr n xs s) : wpc E 1 m_RE_faultPlace [.ref ra] h (fun r' h' => r' = some (.int (if (s.2.2.2 || decide (s.1 < xs.length)) then nI s.1 else -2)) ∧ h' = h) := by
  have hl := hr.len
  obtain ⟨h1, h2, h3, h4, h5⟩ := hr
  have o2 := h2.obj
  refine wpc_of rfl (Nat.le_of_ble_eq_true rfl) ?_
  refine wp_aload_n d_RE_faultPlace_0 rfl rfl ?_
  refine wp_get xf_RE_15 d_RE_faultPlace_1 (by repeat first | assumption | exact xg_eq | exact xn_eq (by first | rfl | omega) | refine xg_ne (by first | assumption | omega | (simp only [xput, xnew]; omega)) ?_ | refine xn_ne (by first | assumption | omega | (simp only [xput, xnew]; omega)) ?_ | exact rfl) (by rfl) ?_
  refine wp_if_ne (tgt := 21) d_RE_faultPlace_4 (by decide) (fun hc => ?_) (fun hc => ?_)
  · rw [bI_0] at hc
    refine wp_aload_n d_RE_faultPlace_21 rfl rfl ?_
    refine wp_get xf_RE_19 d_RE_faultPlace_22 (by repeat first | assumption | exact xg_eq | exact xn_eq (by first | rfl | omega) | refine xg_ne (by first | assumption | omega | (simp only [xput, xnew]; omega)) ?_ | refine xn_ne (by first | assumption | omega | (simp only [xput, xnew]; omega)) ?_ | exact rfl) (by rfl) ?_
    refine wp_goto (tgt := 30) d_RE_faultPlace_25 (by decide) ?_
    refine wp_ireturn d_RE_faultPlace_30 rfl (by first | rfl | assumption) ?_
    rw [b_t hc]
    exact ⟨rfl, rfl⟩
  · rw [bI_0] at hc
    refine wp_aload_n d_RE_faultPlace_7 rfl rfl ?_
    refine wp_get xf_RE_19 d_RE_faultPlace_8 (by repeat first | assumption | exact xg_eq | exact xn_eq (by first | rfl | omega) | refine xg_ne (by first | assumption | omega | (simp only [xput, xnew]; omega)) ?_ | refine xn_ne (by first | assumption | omega | (simp only [xput, xnew]; omega)) ?_ | exact rfl) (by rfl) ?_
    refine wp_aload_n d_RE_faultPlace_11 rfl rfl ?_
    refine wp_get xf_RE_9 d_RE_faultPlace_12 (by repeat first | assumption | exact xg_eq | exact xn_eq (by first | rfl | omega) | refine xg_ne (by first | assumption | omega | (simp only [xput, xnew]; omega)) ?_ | refine xn_ne (by first | assumption | omega | (simp only [xput, xnew]; omega)) ?_ | exact rfl) (by rfl) ?_
    refine wp_callV0 xc_RE_23 d_RE_faultPlace_15 (Nat.le_of_ble_eq_true rfl) (by repeat first | assumption | exact xg_eq | exact xn_eq (by first | rfl | omega) | refine xg_ne (by first | assumption | omega | (simp only [xput, xnew]; omega)) ?_ | refine xn_ne (by first | assumption | omega | (simp only [xput, xnew]; omega)) ?_ | exact rfl) (c_SI_lengthL h2) (by omega) (fun r hh hp => ?_)
    obtain ⟨rfl, hz0⟩ := hp; have hz0 := hz0.symm; subst hz0
    refine wp_icmp_ge (tgt := 28) d_RE_faultPlace_18 (by decide) (fun hc2 => ?_) (fun hc2 => ?_)
    · have z : ¬ s.1 < xs.length := Nat.not_lt.mpr ((nI_leI (by omega) (by omega)).mp hc2)
      refine wp_bipush (v := (-2)) d_RE_faultPlace_28 (by rfl) ?_
      refine wp_ireturn d_RE_faultPlace_30 rfl (by first | rfl | assumption) ?_
      rw [hc, decide_eq_false z]
      exact ⟨rfl, rfl⟩
    · have z : s.1 < xs.length := Nat.not_le.mp (fun z => hc2 ((nI_leI (by omega) (by omega)).mpr z))
      refine wp_aload_n d_RE_faultPlace_21 rfl rfl ?_
      refine wp_get xf_RE_19 d_RE_faultPlace_22 (by repeat first | assumption | exact xg_eq | exact xn_eq (by first | rfl | omega) | refine xg_ne (by first | assumption | omega | (simp only [xput, xnew]; omega)) ?_ | refine xn_ne (by first | assumption | omega | (simp only [xput, xnew]; omega)) ?_ | exact rfl) (by rfl) ?_
      refine wp_goto (tgt := 30) d_RE_faultPlace_25 (by decide) ?_
      refine wp_ireturn d_RE_faultPlace_30 rfl (by first | rfl | assumption) ?_
      rw [hc, decide_eq_true z]
      exact ⟨rfl, rfl⟩
theorem c_RE_isEndless {ra sa sr n : Nat} {xs : List Int32} {s : RS} (hr : Rd E h ra sa sr n xs s) : wpc E 0 m_RE_isEndless [.ref ra] h (fun r' h' => r' = some (.int (bI s.2.2.1)) ∧ h' = h) := by
  have h1 := hr.1
  have z := bI_z s.2.2.1
  refine wpc_of rfl (Nat.le_of_ble_eq_true rfl) ?_
  refine wp_aload_n d_RE_isEndless_0 rfl rfl ?_
  refine wp_get xf_RE_29 d_RE_isEndless_1 (by repeat first | assumption | exact xg_eq | exact xn_eq (by first | rfl | omega) | refine xg_ne (by first | assumption | omega | (simp only [xput, xnew]; omega)) ?_ | refine xn_ne (by first | assumption | omega | (simp only [xput, xnew]; omega)) ?_ | exact rfl) (by rfl) ?_
  refine wp_ireturn d_RE_isEndless_4 rfl (by first | rfl | assumption) ?_
  exact ⟨rfl, rfl⟩
theorem c_RE_groupCount {ra sa sr n : Nat} {xs : List Int32} {s : RS} (hr : Rd E h ra sa sr n xs s) : wpc E 0 m_RE_groupCount [.ref ra] h (fun r' h' => r' = some (.int (nI s.2.1)) ∧ h' = h) := by
  have h1 := hr.1
  refine wpc_of rfl (Nat.le_of_ble_eq_true rfl) ?_
  refine wp_aload_n d_RE_groupCount_0 rfl rfl ?_
  refine wp_get xf_RE_32 d_RE_groupCount_1 (by repeat first | assumption | exact xg_eq | exact xn_eq (by first | rfl | omega) | refine xg_ne (by first | assumption | omega | (simp only [xput, xnew]; omega)) ?_ | refine xn_ne (by first | assumption | omega | (simp only [xput, xnew]; omega)) ?_ | exact rfl) (by rfl) ?_
  refine wp_ireturn d_RE_groupCount_4 rfl (by first | rfl | assumption) ?_
  exact ⟨rfl, rfl⟩
theorem c_PS_fault (hE : xOK E) (hX : xStr E kA kV) (hc0 : Cl E h c) (hn : 21 ≤ h.1) : wpc E 44 m_PS_fault [.ref (xb E)] h (fun r' h' => r' = some (.int (fltA c.1)) ∧ xgc E [] 115 h h' ∧ Cl E h' c) := by
  obtain ⟨h1, h2, h3, h4, h5, h6, h7, h8⟩ := id hc0
  have hl := h2.len
  refine wpc_of rfl (Nat.le_of_ble_eq_true rfl) ?_
  refine wp_new xw_PS_67 d_PS_fault_0 ?_
  refine wp_dup d_PS_fault_3 rfl ?_
  refine wp_aload_n d_PS_fault_4 rfl rfl ?_
  refine wp_get xf_PS_14 d_PS_fault_5 (by repeat first | assumption | exact xg_eq | exact xn_eq (by first | rfl | omega) | refine xg_ne (by first | assumption | omega | (simp only [xput, xnew]; omega)) ?_ | refine xn_ne (by first | assumption | omega | (simp only [xput, xnew]; omega)) ?_ | exact rfl) (by rfl) ?_
  refine wp_callI1 xc_PS_69 d_PS_fault_8 (Nat.le_of_ble_eq_true rfl) (c_RE_init (by repeat first | assumption | exact xg_eq | exact xn_eq (by first | rfl | omega) | refine xg_ne (by first | assumption | omega | (simp only [xput, xnew]; omega)) ?_ | refine xn_ne (by first | assumption | omega | (simp only [xput, xnew]; omega)) ?_ | exact rfl)) (by omega) (fun r hh hp => ?_)
  obtain ⟨rfl, rfl⟩ := hp
  generalize hg : xput (xnew E h 5 _) _ _ = g2
  have e0 : g2.1 = h.1 + 1 := by rw [← hg]; rfl
  have e1 : g2.2.1 = h.2.1 + 5 := by rw [← hg]; rfl
  have q2 : ∀ q, q < xb E + h.1 → g2.2.2 q = h.2.2 q := fun q hq => by rw [← hg]; exact (by repeat first | assumption | exact xg_eq | exact xn_eq (by first | rfl | omega) | refine xg_ne (by first | assumption | omega | (simp only [xput, xnew]; omega)) ?_ | refine xn_ne (by first | assumption | omega | (simp only [xput, xnew]; omega)) ?_ | exact rfl)
  have r2 : Rd E g2 (xb E + h.1) (xb E + 1) (xb E + 2) 28 c.1 (0, 0, false, false) := ⟨by rw [← hg]; exact (by repeat first | assumption | exact xg_eq | exact xn_eq (by first | rfl | omega) | refine xg_ne (by first | assumption | omega | (simp only [xput, xnew]; omega)) ?_ | refine xn_ne (by first | assumption | omega | (simp only [xput, xnew]; omega)) ?_ | exact rfl), h2.mv (q2 _ (by omega)) (q2 _ (by omega)), by omega, by omega, Nat.zero_le _⟩
  clear hg
  have w2 := r2.1
  refine wp_astore_n d_PS_fault_11 rfl (by decide) rfl ?_
  refine wp_aload_n d_PS_fault_12 rfl rfl ?_
  refine wp_callV0 xc_PS_72 d_PS_fault_13 (Nat.le_of_ble_eq_true rfl) (by repeat first | assumption | exact xg_eq | exact xn_eq (by first | rfl | omega) | refine xg_ne (by first | assumption | omega | (simp only [xput, xnew]; omega)) ?_ | refine xn_ne (by first | assumption | omega | (simp only [xput, xnew]; omega)) ?_ | exact rfl) (c_RE_readChoice hE hX 7 g2 _ r2 (by omega) (by omega) (by omega) (by decide) (by decide)) (by omega) (fun r g3 hp => ?_)
  obtain ⟨rfl, g3w, r3, p1, p2, p3, t3⟩ := hp
  have w3 := r3.1
  refine wp_pop d_PS_fault_16 rfl ?_
  refine wp_aload_n d_PS_fault_17 rfl rfl ?_
  refine wp_callV0 xc_PS_76 d_PS_fault_18 (Nat.le_of_ble_eq_true rfl) (by repeat first | assumption | exact xg_eq | exact xn_eq (by first | rfl | omega) | refine xg_ne (by first | assumption | omega | (simp only [xput, xnew]; omega)) ?_ | refine xn_ne (by first | assumption | omega | (simp only [xput, xnew]; omega)) ?_ | exact rfl) (c_RE_faultPlace hE r3) (by omega) (fun r hh hp => ?_)
  obtain ⟨rfl, hz0⟩ := hp; have hz0 := hz0.symm; subst hz0
  refine wp_ireturn d_PS_fault_21 rfl (by first | rfl | assumption) ?_
  obtain ⟨a1, a2, a3, a4, a5⟩ := g3w
  have hs : (pCh c.1 7 (0, 0, false, false)).2.1 ≤ 28 := by have := r3.2.2.2.2; omega
  have q3 : ∀ q, q < xb E + h.1 → g3.2.2 q = h.2.2 q := fun q hq => (a5 q (by omega) (by omega)).trans (q2 q hq)
  have G := hc0.get2 (S := []) (h' := g3) (fun q hq _ => q3 q (by omega))
  refine ⟨rfl, ⟨by omega, ?_, by omega, ?_, fun q hq _ => q3 q hq⟩, G.1 (by simp), G.2.1 (by simp) (by simp), G.2.2.1 (by simp) (by simp), G.2.2.2.1 (by simp) (by simp), G.2.2.2.2.1 (fun z _ _ => by simp), G.2.2.2.2.2.1 (by simp) (by simp), G.2.2.2.2.2.2 (by simp) (by simp), h8⟩
  · omega
  · omega
def cpM (m : MS) (xs : List Int32) : MS := ((gBld 7 (rdA xs).1 m.1).2, (gBld 7 (rdA xs).1 m.1).1, m.2.2)
def cpOk (xs : List Int32) : Prop := fltB xs = false ∧ (rdA xs).2.2.2.1 = false ∧ nI (szT 7 (rdA xs).1) ≤ 120
def cpA (xs : List Int32) : Int32 := if fltB xs then -3 else if (rdA xs).2.2.2.1 then -4 else if nI (szT 7 (rdA xs).1) ≤ 120 then nI (rdA xs).2.2.1 else -5
end CO
