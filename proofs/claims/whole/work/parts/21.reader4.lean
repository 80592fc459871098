theorem clamp_le {x : Int32} {n : Nat} (M : Int32) (hM : M.toInt = n) (h : ¬ M < x) : x.toNatClampNeg ≤ n := by
  by_cases h0 : x < 0
  · have : x.toInt < 0 := Int32.lt_iff_toInt_lt.mp h0
    have e : x.toNatClampNeg = x.toInt.toNat := rfl
    omega
  · obtain ⟨j, h1, rfl⟩ := nI_of2 hM h0 (Int32.not_lt.mp h)
    by_cases hj : j < 2 ^ 31
    · rw [nI_clamp hj]; exact h1
    · have := M.toInt_lt
      omega
theorem rDg_6 (xs : List Int32) {l : Nat} (hl : l ≤ 6) (s : RS) : (rDg xs l s).1 ≤ 6 := by
  rw [rDg]; split
  · exact hl
  · rename_i h
    exact clamp_le 6 rfl (fun q => h (Or.inr q))
theorem rRp_6 (xs : List Int32) (s : RS) : (rRp xs s).2.1.1 ≤ 6 := by
  rw [rRp]; split
  · exact Nat.zero_le _
  · split
    · exact Nat.le_of_ble_eq_true rfl
    · split
      · exact Nat.zero_le _
      · split
        · exact rDg_6 xs (by decide) _
        · exact Nat.le_of_ble_eq_true rfl
theorem rRp_6m (xs : List Int32) (s : RS) : (rRp xs s).2.1.2.1 ≤ 6 := by
  rw [rRp]; split
  · exact Nat.le_of_ble_eq_true rfl
  · split
    · exact Nat.le_of_ble_eq_true rfl
    · split
      · exact Nat.le_of_ble_eq_true rfl
      · split
        · simp only [rBr]
          split
          · exact rDg_6 xs (by have := rDg_6 xs (l := 0) (by decide) (rInc s); omega) _
          · exact rDg_6 xs (by decide) _
        · exact Nat.le_of_ble_eq_true rfl
section RH
variable {E : xE} {kA kV : Nat → Nat} {ra sa sr n : Nat} {xs : List Int32} {X : Type} {sX : X → Nat} {eX : X → Bool} {tX : xH → Nat → Nat → Nat → X → Prop} {inn : RS → X × RS} {N D : Nat}
theorem pc_sz (p : Pc X) (hl : p.2.1 ≤ p.2.2.1) : (if p.2.2.2.1 then nI (atS sX p.1) + 2 else nI p.2.2.1 * nI (atS sX p.1) + 2 * (nI p.2.2.1 - nI p.2.1)) = nI (pcS sX p) := by
  rw [pcS]
  by_cases hu : p.2.2.2.1
  · rw [if_pos hu, if_pos hu, ← nI_add]; rfl
  · rw [if_neg hu, if_neg hu, pk_sub hl, pk_mul, ← nI_add, ← pk_mul 2]; rfl
def tPc (tX : xH → Nat → Nat → Nat → X → Prop) (h : xH) (a hi : Nat) (p : Pc X) : Prop := h.2.2 a = some (ob 4 [.ref (a + 1), .null, .int (nI p.2.1), .int (nI p.2.2.1), .int (bI p.2.2.2.1), .int (bI p.2.2.2.2)]) ∧ tAt tX h (a + 1) hi (a + 1) p.1 ∧ (p.2.1 ≤ p.2.2.1 ∧ p.2.2.1 ≤ 6) ∧ p.2.1 ≤ 6
theorem c_RE_readPiece (hE : xOK E) (hX : xStr E kA kV) (hm : tMv tX) (hcell : tCell sX eX tX) (ih : rIH E ra sa sr n xs tX inn N D) (hD : 8 ≤ D) {h : xH} {s : RS} (hr : Rd E h ra sa sr n xs s) (l1 : ra < xb E + h.1) (l2 : sa < xb E + h.1) (l3 : sr < xb E + h.1) (hg : s.2.1 ≤ 6) (hN : 7 ≤ N + 1 + s.2.1) (hb : rBg s.2.1 (rPk xs s) = true) :
    wpc E (D + 3) m_RE_readPiece [.ref ra] h (fun r' h' => r' = some (.ref (xb E + h.1)) ∧ xgw E ra (4 * ((rPc xs eX inn s).2.1 - s.1)) h h' ∧ Rd E h' ra sa sr n xs (rPc xs eX inn s).2 ∧ s.1 < (rPc xs eX inn s).2.1 ∧ s.2.1 ≤ (rPc xs eX inn s).2.2.1 ∧ (rPc xs eX inn s).2.2.1 ≤ 6 ∧ xb E + h.1 + 1 < xb E + h'.1 ∧ tPc tX h' (xb E + h.1) (xb E + h'.1) (rPc xs eX inn s).1) := by
  obtain ⟨k1, k2, k3, k4, k5⟩ := id hr
  refine wpc_of rfl (Nat.le_of_ble_eq_true rfl) ?_
  refine wp_new xw_RE_66 d_RE_readPiece_0 ?_
  refine wp_dup d_RE_readPiece_3 rfl ?_
  refine wp_aload_n d_RE_readPiece_4 rfl rfl ?_
  generalize hh2 : xnew E h 6 _ = h2
  have e0 : h2.1 = h.1 + 1 := by rw [← hh2]; rfl
  have g2 : xgw E ra 1 h h2 := by rw [← hh2]; exact (xgw.rf (ra := ra)).new (by decide)
  have o2 : h2.2.2 (xb E + h.1) = some (ob 4 [.null, .null, .int 0, .int 0, .int 0, .int 0]) := by rw [← hh2]; exact (by repeat first | assumption | exact xg_eq | exact xn_eq (by first | rfl | omega) | refine xg_ne (by first | assumption | omega | (simp only [xput, xnew]; omega)) ?_ | refine xn_ne (by first | assumption | omega | (simp only [xput, xnew]; omega)) ?_ | exact rfl)
  have r2 : Rd E h2 ra sa sr n xs s := hr.gw l2 l3 g2.2.2.2.2 (by rw [← hh2]; exact (by repeat first | assumption | exact xg_eq | exact xn_eq (by first | rfl | omega) | refine xg_ne (by first | assumption | omega | (simp only [xput, xnew]; omega)) ?_ | refine xn_ne (by first | assumption | omega | (simp only [xput, xnew]; omega)) ?_ | exact rfl)) k5
  clear hh2
  have w1 := r2.1
  refine wp_callV0 xc_RE_68 d_RE_readPiece_5 (Nat.le_of_ble_eq_true rfl) (by repeat first | assumption | exact xg_eq | exact xn_eq (by first | rfl | omega) | refine xg_ne (by first | assumption | omega | (simp only [xput, xnew]; omega)) ?_ | refine xn_ne (by first | assumption | omega | (simp only [xput, xnew]; omega)) ?_ | exact rfl) (c_RE_readAtom hE hX hm ih hD r2 (by omega) (by omega) (by omega) hg hN hb) (by omega) (fun r h3 hp => ?_)
  obtain ⟨rfl, g3, r3, p1, p2, p3, t3⟩ := hp
  have ea : xb E + h2.1 = xb E + h.1 + 1 := by omega
  rw [ea] at t3 ⊢
  have b3 := g3.1
  have c3 := t3
  have o3 : h3.2.2 (xb E + h.1) = some (ob 4 [.null, .null, .int 0, .int 0, .int 0, .int 0]) := (g3.2.2.2.2 _ (by omega) (by omega)).trans o2
  have hi3 : xb E + h.1 + 1 < xb E + h3.1 := by
    cases hx : (rAt xs inn s).1 <;> (rw [hx] at c3; obtain ⟨-, q, -⟩ := c3; exact q)
  refine wp_callI1 xc_RE_72 d_RE_readPiece_8 (Nat.le_of_ble_eq_true rfl) (c_PI_init _ o3) (by omega) (fun r hh hp => ?_)
  obtain ⟨rfl, rfl⟩ := hp
  generalize hh4 : xput h3 (xb E + h.1) _ = h4
  have o4 : h4.2.2 (xb E + h.1) = some (ob 4 [.ref (xb E + h.1 + 1), .null, .int 1, .int 1, .int 0, .int 0]) := by rw [← hh4]; exact xg_eq
  have f4 : xfr [xb E + h.1] h3 h4 := by rw [← hh4]; exact xfr.rf.put (by simp)
  have r4 : Rd E h4 ra sa sr n xs (rAt xs inn s).2 := by rw [← hh4]; exact ⟨xg_ne (by omega) r3.1, r3.2.1.mv (xg_ne (by omega) rfl) (xg_ne (by omega) rfl), r3.2.2⟩
  clear hh4
  have w4 := r4.1
  refine wp_astore_n d_RE_readPiece_11 rfl (by decide) rfl ?_
  refine wp_aload_n d_RE_readPiece_12 rfl rfl ?_
  refine wp_aload_n d_RE_readPiece_13 rfl rfl ?_
  refine wp_callV1 xc_RE_75 d_RE_readPiece_14 (Nat.le_of_ble_eq_true rfl) (by repeat first | assumption | exact xg_eq | exact xn_eq (by first | rfl | omega) | refine xg_ne (by first | assumption | omega | (simp only [xput, xnew]; omega)) ?_ | refine xn_ne (by first | assumption | omega | (simp only [xput, xnew]; omega)) ?_ | exact rfl) (c_RE_readRepetition hE r4 o4 (by omega) (by omega) (by omega)) (by omega) (fun r h5 hp => ?_)
  obtain ⟨rfl, f5, r5, o5, b5⟩ := hp
  have w5 := r5.1
  have b6 := rRp_6 xs (rAt xs inn s).2
  have b6m := rRp_6m xs (rAt xs inn s).2
  have l5 := rRp_le xs (rAt xs inn s).2
  have fin : ∀ (h6 : xH) (t : Bool × RS), (if (rRp xs (rAt xs inn s).2).1 then rTk xs 63 (rRp xs (rAt xs inn s).2).2.2 else (false, (rRp xs (rAt xs inn s).2).2.2)) = t → sLe (rRp xs (rAt xs inn s).2).2.2 t.2 → xfr [ra, xb E + h.1] h5 h6 → Rd E h6 ra sa sr n xs t.2 → h6.2.2 (xb E + h.1) = some (ob 4 [.ref (xb E + h.1 + 1), .null, .int (nI (rRp xs (rAt xs inn s).2).2.1.1), .int (nI (rRp xs (rAt xs inn s).2).2.1.2.1), .int (bI (rRp xs (rAt xs inn s).2).2.1.2.2), .int (bI t.1)]) →
      wp E (D + 3) m_RE_readPiece 30 [(0, .ref ra), (1, .ref (xb E + h.1))] [] h6 (fun r' h' => r' = some (.ref (xb E + h.1)) ∧ xgw E ra (4 * ((rPc xs eX inn s).2.1 - s.1)) h h' ∧ Rd E h' ra sa sr n xs (rPc xs eX inn s).2 ∧ s.1 < (rPc xs eX inn s).2.1 ∧ s.2.1 ≤ (rPc xs eX inn s).2.2.1 ∧ (rPc xs eX inn s).2.2.1 ≤ 6 ∧ xb E + h.1 + 1 < xb E + h'.1 ∧ tPc tX h' (xb E + h.1) (xb E + h'.1) (rPc xs eX inn s).1) := by
    intro h6 t ht hle f6 r6 o6
    have w6 := r6.1
    have he : rPc xs eX inn s = (((rAt xs inn s).1, ((rRp xs (rAt xs inn s).2).2.1.1, (rRp xs (rAt xs inn s).2).2.1.2.1, (rRp xs (rAt xs inn s).2).2.1.2.2, t.1)), rEnd ((rRp xs (rAt xs inn s).2).2.1.2.2 && atE eX (rAt xs inn s).1) t.2) := by simp only [rPc, ht]
    have q6 : ∀ q, xb E + h.1 + 1 ≤ q → h6.2.2 q = h3.2.2 q := fun q hq => (f6.2.2 q (by simp; omega)).trans ((f5.2.2 q (by simp; omega)).trans (f4.2.2 q (by simp; omega)))
    have e6 : h6.1 = h3.1 := f6.1.trans (f5.1.trans f4.1)
    have t6 : tAt tX h6 (xb E + h.1 + 1) (xb E + h3.1) (xb E + h.1 + 1) (rAt xs inn s).1 := t3.mv hm (fun q q1 _ => q6 q q1) (Nat.le_refl _) (Nat.le_refl _)
    have last : ∀ (h7 : xH) (eb : Bool), eb = (t.2.2.2.1 || ((rRp xs (rAt xs inn s).2).2.1.2.2 && atE eX (rAt xs inn s).1)) → h7 = xput h6 ra (ob 6 [.ref sa, .int (nI t.2.1), .int (nI t.2.2.1), .int (bI eb), .int (bI t.2.2.2.2)]) →
        wp E (D + 3) m_RE_readPiece 53 [(0, .ref ra), (1, .ref (xb E + h.1))] [] h7 (fun r' h' => r' = some (.ref (xb E + h.1)) ∧ xgw E ra (4 * ((rPc xs eX inn s).2.1 - s.1)) h h' ∧ Rd E h' ra sa sr n xs (rPc xs eX inn s).2 ∧ s.1 < (rPc xs eX inn s).2.1 ∧ s.2.1 ≤ (rPc xs eX inn s).2.2.1 ∧ (rPc xs eX inn s).2.2.1 ≤ 6 ∧ xb E + h.1 + 1 < xb E + h'.1 ∧ tPc tX h' (xb E + h.1) (xb E + h'.1) (rPc xs eX inn s).1) := by
      intro h7 eb heb hh7
      subst hh7
      subst heb
      refine wp_aload_n d_RE_readPiece_53 rfl rfl ?_
      refine wp_areturn d_RE_readPiece_54 rfl (Or.inl ⟨_, rfl⟩) (Or.inr ⟨_, rfl⟩) ?_
      have hle2 := l5.tr hle
      have x1 : (rAt xs inn s).2.1 ≤ t.2.1 := hle2.1
      have x2 : t.2.2.1 = (rAt xs inn s).2.2.1 := hle2.2
      have gw : xgw E ra (1 + (4 * ((rAt xs inn s).2.1 - s.1) - 1)) h (xput h6 ra (ob 6 [.ref sa, .int (nI t.2.1), .int (nI t.2.2.1), .int (bI (t.2.2.2.1 || ((rRp xs (rAt xs inn s).2).2.1.2.2 && atE eX (rAt xs inn s).1))), .int (bI t.2.2.2.2)])) :=
        ((((g2.tr g3).fr f4 (by simp)).fr f5 (by simp)).fr f6 (by simp)).put (Or.inl rfl)
      rw [he]
      refine ⟨rfl, gw.le (by show _ ≤ 4 * (t.2.1 - s.1); omega), ⟨xg_eq, r6.2.1.mv (xg_ne r6.2.2.1.symm rfl) (xg_ne r6.2.2.2.1.symm rfl), r6.2.2⟩, by show s.1 < t.2.1; omega, by show s.2.1 ≤ t.2.2.1; omega, by show t.2.2.1 ≤ 6; omega, by show _ < xb E + h6.1; omega, xg_ne (by omega) o6, ?_, ⟨b5, b6m⟩, b6⟩
      rw [show (xput h6 ra (ob 6 [.ref sa, .int (nI t.2.1), .int (nI t.2.2.1), .int (bI (t.2.2.2.1 || ((rRp xs (rAt xs inn s).2).2.1.2.2 && atE eX (rAt xs inn s).1))), .int (bI t.2.2.2.2)])).1 = h3.1 from e6]
      exact t6.mv hm (fun q q1 _ => xg_ne (by omega) rfl) (Nat.le_refl _) (Nat.le_refl _)
    have hq := t6.q (E := E) hcell
    have endput : ∀ eb : Bool, eb = (t.2.2.2.1 || ((rRp xs (rAt xs inn s).2).2.1.2.2 && atE eX (rAt xs inn s).1)) → wp E (D + 3) m_RE_readPiece 50 [(0, .ref ra), (1, .ref (xb E + h.1))] [.int (bI eb), .ref ra] h6 (fun r' h' => r' = some (.ref (xb E + h.1)) ∧ xgw E ra (4 * ((rPc xs eX inn s).2.1 - s.1)) h h' ∧ Rd E h' ra sa sr n xs (rPc xs eX inn s).2 ∧ s.1 < (rPc xs eX inn s).2.1 ∧ s.2.1 ≤ (rPc xs eX inn s).2.2.1 ∧ (rPc xs eX inn s).2.2.1 ≤ 6 ∧ xb E + h.1 + 1 < xb E + h'.1 ∧ tPc tX h' (xb E + h.1) (xb E + h'.1) (rPc xs eX inn s).1) := by
      intro eb heb
      have z1 := bI_z eb
      have z2 := bI_f eb
      refine wp_put xf_RE_29 xg_RE (Or.inl rfl) d_RE_readPiece_50 (by repeat first | assumption | exact xg_eq | exact xn_eq (by first | rfl | omega) | refine xg_ne (by first | assumption | omega | (simp only [xput, xnew]; omega)) ?_ | refine xn_ne (by first | assumption | omega | (simp only [xput, xnew]; omega)) ?_ | exact rfl) (by first | rfl | assumption | exact bI_z _) (by first | rfl | assumption | exact bI_f _) (Nat.le_of_ble_eq_true rfl) ?_
      exact last _ eb heb rfl
    refine wp_aload_n d_RE_readPiece_30 rfl rfl ?_
    refine wp_aload_n d_RE_readPiece_31 rfl rfl ?_
    refine wp_get xf_RE_29 d_RE_readPiece_32 (by repeat first | assumption | exact xg_eq | exact xn_eq (by first | rfl | omega) | refine xg_ne (by first | assumption | omega | (simp only [xput, xnew]; omega)) ?_ | refine xn_ne (by first | assumption | omega | (simp only [xput, xnew]; omega)) ?_ | exact rfl) (by rfl) ?_
    refine wp_if_ne (tgt := 45) d_RE_readPiece_35 (by decide) (fun hc => ?_) (fun hc => ?_)
    · rw [bI_0] at hc
      refine wp_iconst (v := 1) d_RE_readPiece_45 (by rfl) ?_
      refine wp_goto (tgt := 50) d_RE_readPiece_46 (by decide) ?_
      exact endput true (by rw [b_t hc]; rfl)
    · rw [bI_0] at hc
      refine wp_aload_n d_RE_readPiece_38 rfl rfl ?_
      refine wp_callV0 xc_RE_82 d_RE_readPiece_39 (Nat.le_of_ble_eq_true rfl) (by repeat first | assumption | exact xg_eq | exact xn_eq (by first | rfl | omega) | refine xg_ne (by first | assumption | omega | (simp only [xput, xnew]; omega)) ?_ | refine xn_ne (by first | assumption | omega | (simp only [xput, xnew]; omega)) ?_ | exact rfl) (c_PI_isEndless o6 hq) (by omega) (fun r hh hp => ?_)
      obtain ⟨rfl, hz0⟩ := hp; have hz0 := hz0.symm; subst hz0
      refine wp_if_eq (tgt := 49) d_RE_readPiece_42 (by decide) (fun hc2 => ?_) (fun hc2 => ?_)
      · rw [bI_0] at hc2
        refine wp_iconst (v := 0) d_RE_readPiece_49 (by rfl) ?_
        exact endput false (by rw [hc, hc2]; rfl)
      · rw [bI_0] at hc2
        refine wp_iconst (v := 1) d_RE_readPiece_45 (by rfl) ?_
        refine wp_goto (tgt := 50) d_RE_readPiece_46 (by decide) ?_
        exact endput true (by rw [hc, b_t hc2]; rfl)
  refine wp_if_eq (tgt := 30) d_RE_readPiece_17 (by decide) (fun hc => ?_) (fun hc => ?_)
  · rw [bI_0] at hc
    exact fin h5 (false, (rRp xs (rAt xs inn s).2).2.2) (by rw [hc]; rfl) sLe.rf xfr.rf r5 o5
  · rw [bI_0] at hc
    refine wp_aload_n d_RE_readPiece_20 rfl rfl ?_
    refine wp_aload_n d_RE_readPiece_21 rfl rfl ?_
    refine wp_bipush (v := 63) d_RE_readPiece_22 (by rfl) ?_
    refine wp_callV1 xc_RE_46 d_RE_readPiece_24 (Nat.le_of_ble_eq_true rfl) (by repeat first | assumption | exact xg_eq | exact xn_eq (by first | rfl | omega) | refine xg_ne (by first | assumption | omega | (simp only [xput, xnew]; omega)) ?_ | refine xn_ne (by first | assumption | omega | (simp only [xput, xnew]; omega)) ?_ | exact rfl) (c_RE_take hE r5 (by decide)) (by omega) (fun r h6 hp => ?_)
    obtain ⟨rfl, f6, r6⟩ := hp
    have o6 := f6.at (by simp; omega) o5
    have z1 := bI_z (rTk xs 63 (rRp xs (rAt xs inn s).2).2.2).1
    have z2 := bI_f (rTk xs 63 (rRp xs (rAt xs inn s).2).2.2).1
    refine wp_put xf_RE_79 xg_PI (Or.inl rfl) d_RE_readPiece_27 (by repeat first | assumption | exact xg_eq | exact xn_eq (by first | rfl | omega) | refine xg_ne (by first | assumption | omega | (simp only [xput, xnew]; omega)) ?_ | refine xn_ne (by first | assumption | omega | (simp only [xput, xnew]; omega)) ?_ | exact rfl) (by first | rfl | assumption | exact bI_z _) (by first | rfl | assumption | exact bI_f _) (Nat.le_of_ble_eq_true rfl) ?_
    exact fin _ (rTk xs 63 (rRp xs (rAt xs inn s).2).2.2) (by rw [b_t hc]; rfl) (rTk_le xs 63 _) ((f6.sub (by simp)).put (by simp)) ⟨xg_ne (by omega) r6.1, r6.2.1.mv (xg_ne (by omega) rfl) (xg_ne (by omega) rfl), r6.2.2⟩ xg_eq
end RH
