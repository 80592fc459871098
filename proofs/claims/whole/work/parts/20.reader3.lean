def xgw (E : xE) (ra k : Nat) (h h' : xH) : Prop := h.1 ≤ h'.1 ∧ h'.1 ≤ h.1 + k ∧ h.2.1 ≤ h'.2.1 ∧ h'.2.1 + 6 * h.1 ≤ h.2.1 + 6 * h'.1 ∧ ∀ q : Nat, q < xb E + h.1 → q ≠ ra → h'.2.2 q = h.2.2 q
theorem xgw.rf {E : xE} {ra : Nat} {h : xH} : xgw E ra 0 h h := ⟨Nat.le_refl _, Nat.le_refl _, Nat.le_refl _, Nat.le_refl _, fun _ _ _ => rfl⟩
theorem xgw.tr {E : xE} {ra k1 k2 : Nat} {h h1 h2 : xH} (a : xgw E ra k1 h h1) (b : xgw E ra k2 h1 h2) : xgw E ra (k1 + k2) h h2 := by
  obtain ⟨a1, a2, a3, a4, a5⟩ := a
  obtain ⟨b1, b2, b3, b4, b5⟩ := b
  exact ⟨by omega, by omega, by omega, by omega, fun q q1 q2 => (b5 q (by omega) q2).trans (a5 q q1 q2)⟩
theorem xgw.le {E : xE} {ra k1 k2 : Nat} {h h1 : xH} (a : xgw E ra k1 h h1) (hk : k1 ≤ k2) : xgw E ra k2 h h1 := ⟨a.1, Nat.le_trans a.2.1 (by omega), a.2.2⟩
theorem xgw.fr {E : xE} {ra k : Nat} {h0 h h1 : xH} {S : List Nat} (a : xgw E ra k h0 h) (b : xfr S h h1) (hS : ∀ q ∈ S, q = ra ∨ xb E + h0.1 ≤ q) : xgw E ra k h0 h1 := by
  obtain ⟨a1, a2, a3, a4, a5⟩ := a
  obtain ⟨b1, b2, b3⟩ := b
  refine ⟨by omega, by omega, by omega, by omega, fun q q1 q2 => (b3 q (fun z => ?_)).trans (a5 q q1 q2)⟩
  rcases hS q z with e | e
  · exact q2 e
  · omega
theorem xgw.put {E : xE} {ra k : Nat} {h0 h : xH} {b : Nat} {e : va_E} (a : xgw E ra k h0 h) (hb : b = ra ∨ xb E + h0.1 ≤ b) : xgw E ra k h0 (xput h b e) :=
  a.fr (S := [b]) (xfr.rf.put (by simp)) (fun q hq => by rw [List.mem_singleton.mp hq]; exact hb)
theorem xgw.new {E : xE} {ra k n : Nat} {h0 h : xH} {e : va_E} (a : xgw E ra k h0 h) (hn : n ≤ 6) : xgw E ra (k + 1) h0 (xnew E h n e) := by
  obtain ⟨a1, a2, a3, a4, a5⟩ := a
  refine ⟨by show h0.1 ≤ h.1 + 1; omega, by show h.1 + 1 ≤ _; omega, by show h0.2.1 ≤ h.2.1 + n; omega, by show h.2.1 + n + _ ≤ _ + 6 * (h.1 + 1); omega, fun q q1 q2 => xn_ne (by omega) (a5 q q1 q2)⟩
theorem Rd.gw {E : xE} {h h' : xH} {ra sa sr n : Nat} {xs : List Int32} {s s' : RS} (hr : Rd E h ra sa sr n xs s) (h2 : sa < xb E + h.1) (h3 : sr < xb E + h.1) (q : ∀ q : Nat, q < xb E + h.1 → q ≠ ra → h'.2.2 q = h.2.2 q) (h1 : h'.2.2 ra = some (ob 6 [.ref sa, .int (nI s'.1), .int (nI s'.2.1), .int (bI s'.2.2.1), .int (bI s'.2.2.2)])) (hl : s'.1 ≤ xs.length) : Rd E h' ra sa sr n xs s' :=
  ⟨h1, hr.2.1.mv (q sa h2 hr.2.2.1.symm) (q sr h3 hr.2.2.2.1.symm), hr.2.2.1, hr.2.2.2.1, hl⟩
theorem lk_def0 : ∀ k : Nat, k < 127 → (k = 36 ∨ k = 40 ∨ k = 46 ∨ k = 91 ∨ k = 94 ∨ Op.lookupswitch.offset [(36, 71), (40, 52), (46, 80), (91, 57), (94, 62)] 88 (k : Int) = 88) := by decide
theorem lk_def (k : Nat) (h : k < 127) (h1 : k ≠ 36) (h2 : k ≠ 40) (h3 : k ≠ 46) (h4 : k ≠ 91) (h5 : k ≠ 94) : Op.lookupswitch.offset [(36, 71), (40, 52), (46, 80), (91, 57), (94, 62)] 88 (k : Int) = 88 := by
  rcases lk_def0 k h with q | q | q | q | q | q
  · exact absurd q h1
  · exact absurd q h2
  · exact absurd q h3
  · exact absurd q h4
  · exact absurd q h5
  · exact q
section RG
variable {E : xE} {kA kV : Nat → Nat} {ra sa sr n : Nat} {xs : List Int32} {X : Type} {sX : X → Nat} {eX : X → Bool} {tX : xH → Nat → Nat → Nat → X → Prop} {inn : RS → X × RS} {N D : Nat}
def rIH (E : xE) (ra sa sr n : Nat) (xs : List Int32) (tX : xH → Nat → Nat → Nat → X → Prop) (inn : RS → X × RS) (N D : Nat) : Prop :=
  ∀ (h : xH) (s : RS), Rd E h ra sa sr n xs s → ra < xb E + h.1 → sa < xb E + h.1 → sr < xb E + h.1 → s.2.1 ≤ 6 → 7 ≤ N + s.2.1 →
    wpc E D m_RE_readChoice [.ref ra] h (fun r' h' => r' = some (.ref (xb E + h.1)) ∧ xgw E ra (2 + 4 * ((inn s).2.1 - s.1)) h h' ∧ Rd E h' ra sa sr n xs (inn s).2 ∧ s.1 ≤ (inn s).2.1 ∧ s.2.1 ≤ (inn s).2.2.1 ∧ (inn s).2.2.1 ≤ 6 ∧ tX h' (xb E + h.1) (xb E + h'.1) (xb E + h.1) (inn s).1)
variable (hE : xOK E) (hX : xStr E kA kV) (hm : tMv tX) (hcell : tCell sX eX tX) (ih : rIH E ra sa sr n xs tX inn N D) (hD : 8 ≤ D)
theorem c_RE_readGroup (hE : xOK E) (hm : tMv tX) (ih : rIH E ra sa sr n xs tX inn N D) (hD : 8 ≤ D) {h : xH} {s : RS} (hr : Rd E h ra sa sr n xs s) (l1 : ra < xb E + h.1) (l2 : sa < xb E + h.1) (l3 : sr < xb E + h.1) (hg : s.2.1 < 6) (hN : 7 ≤ N + 1 + s.2.1) :
    wpc E (D + 1) m_RE_readGroup [.ref ra] h (fun r' h' => r' = some (.ref (xb E + h.1)) ∧ xgw E ra (3 + 4 * ((inn (s.1, s.2.1 + 1, s.2.2)).2.1 - s.1)) h h' ∧ Rd E h' ra sa sr n xs (rEx xs 41 (inn (s.1, s.2.1 + 1, s.2.2)).2) ∧ s.1 ≤ (inn (s.1, s.2.1 + 1, s.2.2)).2.1 ∧ s.2.1 ≤ (inn (s.1, s.2.1 + 1, s.2.2)).2.2.1 ∧ (inn (s.1, s.2.1 + 1, s.2.2)).2.2.1 ≤ 6 ∧ tAt tX h' (xb E + h.1) (xb E + h'.1) (xb E + h.1) (.inr (s.2.1 + 1, (inn (s.1, s.2.1 + 1, s.2.2)).1))) := by
  obtain ⟨k1, k2, k3, k4, k5⟩ := id hr
  refine wpc_of rfl (Nat.le_of_ble_eq_true rfl) ?_
  refine wp_aload_n d_RE_readGroup_0 rfl rfl ?_
  refine wp_dup d_RE_readGroup_1 rfl ?_
  refine wp_get xf_RE_32 d_RE_readGroup_2 (by repeat first | assumption | exact xg_eq | exact xn_eq (by first | rfl | omega) | refine xg_ne (by first | assumption | omega | (simp only [xput, xnew]; omega)) ?_ | refine xn_ne (by first | assumption | omega | (simp only [xput, xnew]; omega)) ?_ | exact rfl) (by rfl) ?_
  refine wp_iconst (v := 1) d_RE_readGroup_5 (by rfl) ?_
  refine wp_iadd d_RE_readGroup_6 ?_
  refine wp_put xf_RE_32 xg_RE (Or.inl rfl) d_RE_readGroup_7 (by repeat first | assumption | exact xg_eq | exact xn_eq (by first | rfl | omega) | refine xg_ne (by first | assumption | omega | (simp only [xput, xnew]; omega)) ?_ | refine xn_ne (by first | assumption | omega | (simp only [xput, xnew]; omega)) ?_ | exact rfl) (by first | rfl | assumption | exact bI_z _) (by first | rfl | assumption | exact bI_f _) (Nat.le_of_ble_eq_true rfl) ?_
  refine wp_aload_n d_RE_readGroup_10 rfl rfl ?_
  refine wp_get xf_RE_32 d_RE_readGroup_11 (by repeat first | assumption | exact xg_eq | exact xn_eq (by first | rfl | omega) | refine xg_ne (by first | assumption | omega | (simp only [xput, xnew]; omega)) ?_ | refine xn_ne (by first | assumption | omega | (simp only [xput, xnew]; omega)) ?_ | exact rfl) (by rfl) ?_
  refine wp_istore_n d_RE_readGroup_14 rfl (by decide) rfl ?_
  refine wp_new xw_RE_116 d_RE_readGroup_15 ?_
  refine wp_dup d_RE_readGroup_18 rfl ?_
  refine wp_iconst (v := 4) d_RE_readGroup_19 (by rfl) ?_
  refine wp_callI1 xc_RE_120 d_RE_readGroup_20 (Nat.le_of_ble_eq_true rfl) (c_AT_init _ (by repeat first | assumption | exact xg_eq | exact xn_eq (by first | rfl | omega) | refine xg_ne (by first | assumption | omega | (simp only [xput, xnew]; omega)) ?_ | refine xn_ne (by first | assumption | omega | (simp only [xput, xnew]; omega)) ?_ | exact rfl)) (by omega) (fun r hh hp => ?_)
  obtain ⟨rfl, rfl⟩ := hp
  rw [show nI s.2.1 + 1 = nI (s.2.1 + 1) from (nI_succ _).symm]
  refine wp_astore_n d_RE_readGroup_23 rfl (by decide) rfl ?_
  refine wp_aload_n d_RE_readGroup_24 rfl rfl ?_
  refine wp_iload_n d_RE_readGroup_25 rfl rfl ?_
  refine wp_aload_n d_RE_readGroup_26 rfl rfl ?_
  generalize hh2 : xput (xnew E (xput h ra _) 5 _) _ _ = h2
  have e0 : h2.1 = h.1 + 1 := by rw [← hh2]; rfl
  have g2 : xgw E ra 1 h h2 := by rw [← hh2]; exact (((xgw.rf (ra := ra)).put (Or.inl rfl)).new (by decide)).put (Or.inr (Nat.le_refl _))
  have o2 : h2.2.2 (xb E + h.1) = some (ob 0 [.int 4, .long 0, .long 0, .int 0, .null]) := by rw [← hh2]; exact (by repeat first | assumption | exact xg_eq | exact xn_eq (by first | rfl | omega) | refine xg_ne (by first | assumption | omega | (simp only [xput, xnew]; omega)) ?_ | refine xn_ne (by first | assumption | omega | (simp only [xput, xnew]; omega)) ?_ | exact rfl)
  have r2 : Rd E h2 ra sa sr n xs (s.1, s.2.1 + 1, s.2.2) := hr.gw l2 l3 g2.2.2.2.2 (by rw [← hh2]; exact (by repeat first | assumption | exact xg_eq | exact xn_eq (by first | rfl | omega) | refine xg_ne (by first | assumption | omega | (simp only [xput, xnew]; omega)) ?_ | refine xn_ne (by first | assumption | omega | (simp only [xput, xnew]; omega)) ?_ | exact rfl)) k5
  clear hh2
  have w1 := r2.1
  refine wp_callV0 xc_RE_129 d_RE_readGroup_27 (Nat.le_of_ble_eq_true rfl) (by repeat first | assumption | exact xg_eq | exact xn_eq (by first | rfl | omega) | refine xg_ne (by first | assumption | omega | (simp only [xput, xnew]; omega)) ?_ | refine xn_ne (by first | assumption | omega | (simp only [xput, xnew]; omega)) ?_ | exact rfl) (ih h2 _ r2 (by omega) (by omega) (by omega) (by show s.2.1 + 1 ≤ 6; omega) (by show 7 ≤ N + (s.2.1 + 1); omega)) (by omega) (fun r hh hp => ?_)
  obtain ⟨rfl, g3, r3, p1, p2, p3, t3⟩ := hp
  have o3 : hh.2.2 (xb E + h.1) = some (ob 0 [.int 4, .long 0, .long 0, .int 0, .null]) := (g3.2.2.2.2 _ (by omega) (by omega)).trans o2
  refine wp_callV2 xc_RE_133 d_RE_readGroup_30 (Nat.le_of_ble_eq_true rfl) (by repeat first | assumption | exact xg_eq | exact xn_eq (by first | rfl | omega) | refine xg_ne (by first | assumption | omega | (simp only [xput, xnew]; omega)) ?_ | refine xn_ne (by first | assumption | omega | (simp only [xput, xnew]; omega)) ?_ | exact rfl) (c_AT_enclose o3) (by omega) (fun r hh hp => ?_)
  obtain ⟨rfl, rfl⟩ := hp
  have r4 : Rd E (xput hh (xb E + h.1) (ob 0 [.int 4, .long 0, .long 0, .int (nI (s.2.1 + 1)), .ref (xb E + h2.1)])) ra sa sr n xs (inn (s.1, s.2.1 + 1, s.2.2)).2 := ⟨xg_ne (by omega) r3.1, r3.2.1.mv (xg_ne (by omega) rfl) (xg_ne (by omega) rfl), r3.2.2⟩
  have w4 := r4.1
  refine wp_aload_n d_RE_readGroup_33 rfl rfl ?_
  refine wp_bipush (v := 41) d_RE_readGroup_34 (by rfl) ?_
  refine wp_callV1 xc_RE_107 d_RE_readGroup_36 (Nat.le_of_ble_eq_true rfl) (by repeat first | assumption | exact xg_eq | exact xn_eq (by first | rfl | omega) | refine xg_ne (by first | assumption | omega | (simp only [xput, xnew]; omega)) ?_ | refine xn_ne (by first | assumption | omega | (simp only [xput, xnew]; omega)) ?_ | exact rfl) (c_RE_expect hE r4 (by decide)) (by omega) (fun r hh hp => ?_)
  obtain ⟨rfl, f5, r5⟩ := hp
  rename_i h4
  refine wp_aload_n d_RE_readGroup_39 rfl rfl ?_
  refine wp_areturn d_RE_readGroup_40 rfl (Or.inl ⟨_, rfl⟩) (Or.inr ⟨_, rfl⟩) ?_
  have o5 : hh.2.2 (xb E + h.1) = some (ob 0 [.int 4, .long 0, .long 0, .int (nI (s.2.1 + 1)), .ref (xb E + h2.1)]) := f5.at (by simp; omega) xg_eq
  have e5 : hh.1 = h4.1 := f5.1
  have q5 : ∀ q, xb E + h2.1 ≤ q → hh.2.2 q = h4.2.2 q := fun q hq => f5.at (by simp; omega) (xg_ne (by omega) rfl)
  refine ⟨rfl, (((g2.tr g3).put (Or.inr (Nat.le_refl _))).fr f5 (by simp)).le (by show 1 + (2 + 4 * ((inn (s.1, s.2.1 + 1, s.2.2)).2.1 - s.1)) ≤ _; omega), r5, p1, Nat.le_of_succ_le p2, p3, Nat.le_refl _, by have := g3.1; omega, xb E + h2.1, o5, ?_⟩
  exact hm _ _ _ _ _ _ _ _ (fun q q1 q2 => q5 q q1) (by omega) (by omega) t3
theorem c_RE_readAtom (hE : xOK E) (hX : xStr E kA kV) (hm : tMv tX) (ih : rIH E ra sa sr n xs tX inn N D) (hD : 8 ≤ D) {h : xH} {s : RS} (hr : Rd E h ra sa sr n xs s) (l1 : ra < xb E + h.1) (l2 : sa < xb E + h.1) (l3 : sr < xb E + h.1) (hg : s.2.1 ≤ 6) (hN : 7 ≤ N + 1 + s.2.1) (hb : rBg s.2.1 (rPk xs s) = true) :
    wpc E (D + 2) m_RE_readAtom [.ref ra] h (fun r' h' => r' = some (.ref (xb E + h.1)) ∧ xgw E ra (4 * ((rAt xs inn s).2.1 - s.1) - 1) h h' ∧ Rd E h' ra sa sr n xs (rAt xs inn s).2 ∧ s.1 < (rAt xs inn s).2.1 ∧ s.2.1 ≤ (rAt xs inn s).2.2.1 ∧ (rAt xs inn s).2.2.1 ≤ 6 ∧ tAt tX h' (xb E + h.1) (xb E + h'.1) (xb E + h.1) (rAt xs inn s).1) := by
  obtain ⟨k1, k2, k3, k4, k5⟩ := id hr
  have hne : rPk xs s ≠ -2 := fun q => by rw [q] at hb; exact absurd hb (by rw [rBg, if_neg (by decide)]; decide)
  have hlt := rPk_lt hne
  refine wpc_of rfl (Nat.le_of_ble_eq_true rfl) ?_
  refine wp_aload_n d_RE_readAtom_0 rfl rfl ?_
  refine wp_callV0 xc_RE_53 d_RE_readAtom_1 (Nat.le_of_ble_eq_true rfl) (by repeat first | assumption | exact xg_eq | exact xn_eq (by first | rfl | omega) | refine xg_ne (by first | assumption | omega | (simp only [xput, xnew]; omega)) ?_ | refine xn_ne (by first | assumption | omega | (simp only [xput, xnew]; omega)) ?_ | exact rfl) (c_RE_peek hE hr) (by omega) (fun r hh hp => ?_)
  obtain ⟨rfl, hz0⟩ := hp; have hz0 := hz0.symm; subst hz0
  refine wp_istore_n d_RE_readAtom_4 rfl (by decide) rfl ?_
  refine wp_aload_n d_RE_readAtom_5 rfl rfl ?_
  refine wp_dup d_RE_readAtom_6 rfl ?_
  refine wp_get xf_RE_19 d_RE_readAtom_7 (by repeat first | assumption | exact xg_eq | exact xn_eq (by first | rfl | omega) | refine xg_ne (by first | assumption | omega | (simp only [xput, xnew]; omega)) ?_ | refine xn_ne (by first | assumption | omega | (simp only [xput, xnew]; omega)) ?_ | exact rfl) (by rfl) ?_
  refine wp_iconst (v := 1) d_RE_readAtom_10 (by rfl) ?_
  refine wp_iadd d_RE_readAtom_11 ?_
  refine wp_put xf_RE_19 xg_RE (Or.inl rfl) d_RE_readAtom_12 (by repeat first | assumption | exact xg_eq | exact xn_eq (by first | rfl | omega) | refine xg_ne (by first | assumption | omega | (simp only [xput, xnew]; omega)) ?_ | refine xn_ne (by first | assumption | omega | (simp only [xput, xnew]; omega)) ?_ | exact rfl) (by first | rfl | assumption | exact bI_z _) (by first | rfl | assumption | exact bI_f _) (Nat.le_of_ble_eq_true rfl) ?_
  refine wp_iload_n d_RE_readAtom_15 rfl rfl ?_
  generalize hh2 : xput h ra _ = h2
  have e0 : h2.1 = h.1 := by rw [← hh2]; rfl
  have g2 : xgw E ra 0 h h2 := by rw [← hh2]; exact (xgw.rf (ra := ra)).put (Or.inl rfl)
  have r2 : Rd E h2 ra sa sr n xs (rInc s) := hr.gw l2 l3 g2.2.2.2.2 (by rw [← hh2, rInc, nI_succ]; exact (by repeat first | assumption | exact xg_eq | exact xn_eq (by first | rfl | omega) | refine xg_ne (by first | assumption | omega | (simp only [xput, xnew]; omega)) ?_ | refine xn_ne (by first | assumption | omega | (simp only [xput, xnew]; omega)) ?_ | exact rfl)) hlt
  clear hh2
  have w1 := r2.1
  have leaf : ∀ (x : Lf) (s' : RS) (h' : xH), rAt xs inn s = (.inl x, s') → x.1 ≤ 3 → sLe (rInc s) s' → xgr E [ra] 1 5 h2 h' → Rd E h' ra sa sr n xs s' → h'.2.2 (xb E + h.1) = some (ob 0 [.int (nI x.1), .long x.2.1, .long x.2.2, .int 0, .null]) →
      xgw E ra (4 * ((rAt xs inn s).2.1 - s.1) - 1) h h' ∧ Rd E h' ra sa sr n xs (rAt xs inn s).2 ∧ s.1 < (rAt xs inn s).2.1 ∧ s.2.1 ≤ (rAt xs inn s).2.2.1 ∧ (rAt xs inn s).2.2.1 ≤ 6 ∧ tAt tX h' (xb E + h.1) (xb E + h'.1) (xb E + h.1) (rAt xs inn s).1 := by
    intro x s' h' he hx hs gg rr oo
    rw [he]
    obtain ⟨a1, a2, a3⟩ := gg
    obtain ⟨b1, b2, b3, b4, b5⟩ := g2
    have c1 : s.1 + 1 ≤ s'.1 := hs.1
    have c2 : s'.2.1 = s.2.1 := hs.2
    refine ⟨⟨by omega, by show h'.1 ≤ h.1 + (4 * (s'.1 - s.1) - 1); omega, by omega, by omega, fun q q1 q2 => (a3 q (by omega) (by simpa using q2)).trans (b5 q q1 q2)⟩, rr, c1, by show s.2.1 ≤ s'.2.1; omega, by show s'.2.1 ≤ 6; omega, Nat.le_refl _, by omega, hx, oo⟩
  by_cases q40 : rPk xs s = 40
  · rw [q40]
    refine wp_lookup (off := 52) (tgt := 68) d_RE_readAtom_16 (by decide) (by decide) (by decide) ?_
    have hg6 : s.2.1 < 6 := by rw [rBg, if_pos q40] at hb; exact of_decide_eq_true hb
    refine wp_aload_n d_RE_readAtom_68 rfl rfl ?_
    refine wp_callV0 xc_RE_110 d_RE_readAtom_69 (Nat.le_of_ble_eq_true rfl) (by repeat first | assumption | exact xg_eq | exact xn_eq (by first | rfl | omega) | refine xg_ne (by first | assumption | omega | (simp only [xput, xnew]; omega)) ?_ | refine xn_ne (by first | assumption | omega | (simp only [xput, xnew]; omega)) ?_ | exact rfl) (c_RE_readGroup hE hm ih hD r2 (by omega) (by omega) (by omega) hg6 hN) (by omega) (fun r hh hp => ?_)
    obtain ⟨rfl, g3, r3, p1, p2, p3, t3⟩ := hp
    refine wp_areturn d_RE_readAtom_72 rfl (Or.inl ⟨_, rfl⟩) (Or.inr ⟨_, rfl⟩) ?_
    have he : rAt xs inn s = (.inr (s.2.1 + 1, (inn (s.1 + 1, s.2.1 + 1, s.2.2)).1), rEx xs 41 (inn (s.1 + 1, s.2.1 + 1, s.2.2)).2) := by rw [rAt, if_pos q40]; rfl
    have hx := rEx_le xs 41 (inn (s.1 + 1, s.2.1 + 1, s.2.2)).2
    have p1' : s.1 + 1 ≤ (inn (s.1 + 1, s.2.1 + 1, s.2.2)).2.1 := p1
    have p2' : s.2.1 ≤ (inn (s.1 + 1, s.2.1 + 1, s.2.2)).2.2.1 := p2
    rw [he, e0]
    refine ⟨rfl, ((g2.tr g3).le ?_), r3, ?_, ?_, ?_, ?_⟩
    · show 0 + (3 + 4 * ((inn (s.1 + 1, s.2.1 + 1, s.2.2)).2.1 - (s.1 + 1))) ≤ 4 * ((rEx xs 41 (inn (s.1 + 1, s.2.1 + 1, s.2.2)).2).1 - s.1) - 1
      have := hx.1
      omega
    · exact Nat.lt_of_lt_of_le p1' hx.1
    · show s.2.1 ≤ (rEx xs 41 _).2.1; rw [hx.2]; exact p2'
    · show (rEx xs 41 _).2.1 ≤ 6; rw [hx.2]; exact p3
    · rw [e0] at t3; exact t3
  by_cases q91 : rPk xs s = 91
  · rw [q91]
    refine wp_lookup (off := 57) (tgt := 73) d_RE_readAtom_16 (by decide) (by decide) (by decide) ?_
    refine wp_aload_n d_RE_readAtom_73 rfl rfl ?_
    refine wp_callV0 xc_RE_113 d_RE_readAtom_74 (Nat.le_of_ble_eq_true rfl) (by repeat first | assumption | exact xg_eq | exact xn_eq (by first | rfl | omega) | refine xg_ne (by first | assumption | omega | (simp only [xput, xnew]; omega)) ?_ | refine xn_ne (by first | assumption | omega | (simp only [xput, xnew]; omega)) ?_ | exact rfl) (c_RE_readClass hE hX r2 (by omega) (by omega) (by omega)) (by omega) (fun r hh hp => ?_)
    obtain ⟨rfl, g3, r3, o3⟩ := hp
    refine wp_areturn d_RE_readAtom_77 rfl (Or.inl ⟨_, rfl⟩) (Or.inr ⟨_, rfl⟩) ?_
    rw [e0]
    exact ⟨rfl, leaf (1, (rCl xs (rInc s)).1) (rCl xs (rInc s)).2 hh (by rw [rAt, if_neg q40, if_pos q91]) (Nat.le_of_ble_eq_true rfl) (rCl_le xs _) g3 r3 (by rw [← e0]; exact o3)⟩
  by_cases q94 : rPk xs s = 94
  · rw [q94]
    refine wp_lookup (off := 62) (tgt := 78) d_RE_readAtom_16 (by decide) (by decide) (by decide) ?_
    refine wp_new xw_RE_116 d_RE_readAtom_78 ?_
    refine wp_dup d_RE_readAtom_81 rfl ?_
    refine wp_iconst (v := 2) d_RE_readAtom_82 (by rfl) ?_
    refine wp_callI1 xc_RE_120 d_RE_readAtom_83 (Nat.le_of_ble_eq_true rfl) (c_AT_init _ (by repeat first | assumption | exact xg_eq | exact xn_eq (by first | rfl | omega) | refine xg_ne (by first | assumption | omega | (simp only [xput, xnew]; omega)) ?_ | refine xn_ne (by first | assumption | omega | (simp only [xput, xnew]; omega)) ?_ | exact rfl)) (by omega) (fun r hh hp => ?_)
    obtain ⟨rfl, rfl⟩ := hp
    refine wp_areturn d_RE_readAtom_86 rfl (Or.inl ⟨_, rfl⟩) (Or.inr ⟨_, rfl⟩) ?_
    rw [e0]
    exact ⟨rfl, leaf (2, 0, 0) (rInc s) _ (by rw [rAt, if_neg q40, if_neg q91, if_pos q94]) (by decide) sLe.rf ⟨rfl, rfl, fun q q1 _ => (by repeat first | assumption | exact xg_eq | exact xn_eq (by first | rfl | omega) | refine xg_ne (by first | assumption | omega | (simp only [xput, xnew]; omega)) ?_ | refine xn_ne (by first | assumption | omega | (simp only [xput, xnew]; omega)) ?_ | exact rfl)⟩ (r2.gw (by omega) (by omega) (fun q q1 _ => (by repeat first | assumption | exact xg_eq | exact xn_eq (by first | rfl | omega) | refine xg_ne (by first | assumption | omega | (simp only [xput, xnew]; omega)) ?_ | refine xn_ne (by first | assumption | omega | (simp only [xput, xnew]; omega)) ?_ | exact rfl)) (by repeat first | assumption | exact xg_eq | exact xn_eq (by first | rfl | omega) | refine xg_ne (by first | assumption | omega | (simp only [xput, xnew]; omega)) ?_ | refine xn_ne (by first | assumption | omega | (simp only [xput, xnew]; omega)) ?_ | exact rfl) hlt) (by repeat first | assumption | exact xg_eq | exact xn_eq (by first | rfl | omega) | refine xg_ne (by first | assumption | omega | (simp only [xput, xnew]; omega)) ?_ | refine xn_ne (by first | assumption | omega | (simp only [xput, xnew]; omega)) ?_ | exact rfl)⟩
  by_cases q36 : rPk xs s = 36
  · rw [q36]
    refine wp_lookup (off := 71) (tgt := 87) d_RE_readAtom_16 (by decide) (by decide) (by decide) ?_
    refine wp_new xw_RE_116 d_RE_readAtom_87 ?_
    refine wp_dup d_RE_readAtom_90 rfl ?_
    refine wp_iconst (v := 3) d_RE_readAtom_91 (by rfl) ?_
    refine wp_callI1 xc_RE_120 d_RE_readAtom_92 (Nat.le_of_ble_eq_true rfl) (c_AT_init _ (by repeat first | assumption | exact xg_eq | exact xn_eq (by first | rfl | omega) | refine xg_ne (by first | assumption | omega | (simp only [xput, xnew]; omega)) ?_ | refine xn_ne (by first | assumption | omega | (simp only [xput, xnew]; omega)) ?_ | exact rfl)) (by omega) (fun r hh hp => ?_)
    obtain ⟨rfl, rfl⟩ := hp
    refine wp_areturn d_RE_readAtom_95 rfl (Or.inl ⟨_, rfl⟩) (Or.inr ⟨_, rfl⟩) ?_
    rw [e0]
    exact ⟨rfl, leaf (3, 0, 0) (rInc s) _ (by rw [rAt, if_neg q40, if_neg q91, if_neg q94, if_pos q36]) (by decide) sLe.rf ⟨rfl, rfl, fun q q1 _ => (by repeat first | assumption | exact xg_eq | exact xn_eq (by first | rfl | omega) | refine xg_ne (by first | assumption | omega | (simp only [xput, xnew]; omega)) ?_ | refine xn_ne (by first | assumption | omega | (simp only [xput, xnew]; omega)) ?_ | exact rfl)⟩ (r2.gw (by omega) (by omega) (fun q q1 _ => (by repeat first | assumption | exact xg_eq | exact xn_eq (by first | rfl | omega) | refine xg_ne (by first | assumption | omega | (simp only [xput, xnew]; omega)) ?_ | refine xn_ne (by first | assumption | omega | (simp only [xput, xnew]; omega)) ?_ | exact rfl)) (by repeat first | assumption | exact xg_eq | exact xn_eq (by first | rfl | omega) | refine xg_ne (by first | assumption | omega | (simp only [xput, xnew]; omega)) ?_ | refine xn_ne (by first | assumption | omega | (simp only [xput, xnew]; omega)) ?_ | exact rfl) hlt) (by repeat first | assumption | exact xg_eq | exact xn_eq (by first | rfl | omega) | refine xg_ne (by first | assumption | omega | (simp only [xput, xnew]; omega)) ?_ | refine xn_ne (by first | assumption | omega | (simp only [xput, xnew]; omega)) ?_ | exact rfl)⟩
  by_cases q46 : rPk xs s = 46
  · rw [q46]
    refine wp_lookup (off := 80) (tgt := 96) d_RE_readAtom_16 (by decide) (by decide) (by decide) ?_
    refine wp_bipush (v := 32) d_RE_readAtom_96 (by rfl) ?_
    refine wp_bipush (v := 126) d_RE_readAtom_98 (by rfl) ?_
    refine wp_callS2 xc_RE_122 d_RE_readAtom_100 (Nat.le_of_ble_eq_true rfl) (c_RE_signAtom hE (i := 32) (j := 126) (by decide) (by decide)) (by omega) (fun r hh hp => ?_)
    obtain ⟨rfl, g3, o3⟩ := hp
    refine wp_areturn d_RE_readAtom_103 rfl (Or.inl ⟨_, rfl⟩) (Or.inr ⟨_, rfl⟩) ?_
    rw [e0]
    exact ⟨rfl, leaf (1, tkS 95 32 (0, 0)) (rInc s) hh (by rw [rAt, if_neg q40, if_neg q91, if_neg q94, if_neg q36, if_pos q46]) (by decide) sLe.rf ⟨g3.1, g3.2.1, fun q q1 _ => g3.2.2 q q1 (by simp)⟩ (r2.gw (by omega) (by omega) (fun q q1 _ => g3.2.2 q q1 (by simp)) ((g3.2.2 ra (by omega) (by simp)).trans w1) hlt) (by rw [← e0]; exact o3)⟩
  · have hp : plainB (rPk xs s) = true := by
      rw [rBg, if_neg q40, decide_eq_false q91, decide_eq_false q46, decide_eq_false q94, decide_eq_false q36] at hb
      simpa using hb
    obtain ⟨c, c1, c2, c3⟩ := isSg_n (x := rPk xs s) (by rw [plainB, Bool.and_eq_true] at hp; exact hp.1)
    rw [c3]
    refine wp_lookup (off := 88) (tgt := 104) d_RE_readAtom_16 (by decide) (by rw [nI_toInt (by omega)]; exact lk_def c (by omega) (fun e => q36 (by rw [c3, e]; rfl)) (fun e => q40 (by rw [c3, e]; rfl)) (fun e => q46 (by rw [c3, e]; rfl)) (fun e => q91 (by rw [c3, e]; rfl)) (fun e => q94 (by rw [c3, e]; rfl))) (by decide) ?_
    refine wp_iload_n d_RE_readAtom_104 rfl rfl ?_
    refine wp_iload_n d_RE_readAtom_105 rfl rfl ?_
    refine wp_callS2 xc_RE_122 d_RE_readAtom_106 (Nat.le_of_ble_eq_true rfl) (c_RE_signAtom hE (i := c) (j := c) (by omega) (by omega)) (by omega) (fun r hh hp => ?_)
    obtain ⟨rfl, g3, o3⟩ := hp
    refine wp_areturn d_RE_readAtom_109 rfl (Or.inl ⟨_, rfl⟩) (Or.inr ⟨_, rfl⟩) ?_
    rw [e0]
    rw [show c + 1 - c = 1 by omega] at o3
    exact ⟨rfl, leaf (1, tkS 1 c (0, 0)) (rInc s) hh (by rw [rAt, if_neg q40, if_neg q91, if_neg q94, if_neg q36, if_neg q46, c3, nI_clamp (by omega)]) (Nat.le_of_ble_eq_true rfl) sLe.rf ⟨g3.1, g3.2.1, fun q q1 _ => g3.2.2 q q1 (by simp)⟩ (r2.gw (by omega) (by omega) (fun q q1 _ => g3.2.2 q q1 (by simp)) ((g3.2.2 ra (by omega) (by simp)).trans w1) hlt) (by rw [← e0]; exact o3)⟩
end RG
