section RI
variable {E : xE} {kA kV : Nat → Nat} {ra sa sr n : Nat} {xs : List Int32} {X : Type} {sX : X → Nat} {eX : X → Bool} {tX : xH → Nat → Nat → Nat → X → Prop} {inn : RS → X × RS} {N D : Nat}
theorem rwS_add (ps : List (Pc X)) (p : Pc X) : rwS sX (ps ++ [p]) = rwS sX ps + pcS sX p := by simp [rwS]
theorem rwE_add (ps : List (Pc X)) (p : Pc X) : rwE eX (ps ++ [p]) = (rwE eX ps && pcE eX p) := by simp [rwE]
def tRo (sX : X → Nat) (eX : X → Bool) (tX : xH → Nat → Nat → Nat → X → Prop) (h : xH) (a hi : Nat) (ps : List (Pc X)) : Prop := ∃ lp : Option Nat, h.2.2 a = some (ob 7 [.null, va_rf lp, .int (nI (rwS sX ps)), .int (bI (rwE eX ps))]) ∧ tPl tX h (a + 1) hi lp ps.reverse
theorem c_RE_readRow (hE : xOK E) (hX : xStr E kA kV) (hm : tMv tX) (hcell : tCell sX eX tX) (ih : rIH E ra sa sr n xs tX inn N D) (hD : 8 ≤ D) {h : xH} {s : RS} (hr : Rd E h ra sa sr n xs s) (l1 : ra < xb E + h.1) (l2 : sa < xb E + h.1) (l3 : sr < xb E + h.1) (hg : s.2.1 ≤ 6) (hN : 7 ≤ N + 1 + s.2.1) :
    wpc E (D + 4) m_RE_readRow [.ref ra] h (fun r' h' => r' = some (.ref (xb E + h.1)) ∧ xgw E ra (1 + 4 * ((rRw xs eX inn 28 ([], s)).2.1 - s.1)) h h' ∧ Rd E h' ra sa sr n xs (rRw xs eX inn 28 ([], s)).2 ∧ s.1 ≤ (rRw xs eX inn 28 ([], s)).2.1 ∧ s.2.1 ≤ (rRw xs eX inn 28 ([], s)).2.2.1 ∧ (rRw xs eX inn 28 ([], s)).2.2.1 ≤ 6 ∧ xb E + h.1 < xb E + h'.1 ∧ tRo sX eX tX h' (xb E + h.1) (xb E + h'.1) (rRw xs eX inn 28 ([], s)).1) := by
  obtain ⟨k1, k2, k3, k4, k5⟩ := id hr
  have fin : ∀ (h2 : xH) (q : List (Pc X) × RS) (i : Int32), rRw xs eX inn 28 ([], s) = q → xgw E ra (1 + 4 * (q.2.1 - s.1)) h h2 → Rd E h2 ra sa sr n xs q.2 → s.1 ≤ q.2.1 → s.2.1 ≤ q.2.2.1 → q.2.2.1 ≤ 6 → h.1 < h2.1 → tRo sX eX tX h2 (xb E + h.1) (xb E + h2.1) q.1 →
      wp E (D + 4) m_RE_readRow 41 [(0, .ref ra), (1, .ref (xb E + h.1)), (2, .int i)] [] h2 (fun r' h' => r' = some (.ref (xb E + h.1)) ∧ xgw E ra (1 + 4 * ((rRw xs eX inn 28 ([], s)).2.1 - s.1)) h h' ∧ Rd E h' ra sa sr n xs (rRw xs eX inn 28 ([], s)).2 ∧ s.1 ≤ (rRw xs eX inn 28 ([], s)).2.1 ∧ s.2.1 ≤ (rRw xs eX inn 28 ([], s)).2.2.1 ∧ (rRw xs eX inn 28 ([], s)).2.2.1 ≤ 6 ∧ xb E + h.1 < xb E + h'.1 ∧ tRo sX eX tX h' (xb E + h.1) (xb E + h'.1) (rRw xs eX inn 28 ([], s)).1) := by
    intro h2 q i hq g2 r2 a1 a2 a3 a4 t2
    refine wp_aload_n d_RE_readRow_41 rfl rfl ?_
    refine wp_areturn d_RE_readRow_42 rfl (Or.inl ⟨_, rfl⟩) (Or.inr ⟨_, rfl⟩) ?_
    rw [hq]
    exact ⟨rfl, g2, r2, a1, a2, a3, by omega, t2⟩
  have lp : ∀ (k : Nat) (h2 : xH) (q : List (Pc X) × RS), k ≤ 28 → rRw xs eX inn 28 ([], s) = rRw xs eX inn k q → xgw E ra (1 + 4 * (q.2.1 - s.1)) h h2 → Rd E h2 ra sa sr n xs q.2 → s.1 ≤ q.2.1 → s.2.1 ≤ q.2.2.1 → q.2.2.1 ≤ 6 → h.1 < h2.1 → tRo sX eX tX h2 (xb E + h.1) (xb E + h2.1) q.1 →
      wp E (D + 4) m_RE_readRow 10 [(0, .ref ra), (1, .ref (xb E + h.1)), (2, .int (nI (28 - k)))] [] h2 (fun r' h' => r' = some (.ref (xb E + h.1)) ∧ xgw E ra (1 + 4 * ((rRw xs eX inn 28 ([], s)).2.1 - s.1)) h h' ∧ Rd E h' ra sa sr n xs (rRw xs eX inn 28 ([], s)).2 ∧ s.1 ≤ (rRw xs eX inn 28 ([], s)).2.1 ∧ s.2.1 ≤ (rRw xs eX inn 28 ([], s)).2.2.1 ∧ (rRw xs eX inn 28 ([], s)).2.2.1 ≤ 6 ∧ xb E + h.1 < xb E + h'.1 ∧ tRo sX eX tX h' (xb E + h.1) (xb E + h'.1) (rRw xs eX inn 28 ([], s)).1) := by
    intro k
    induction k with
    | zero =>
      intro h2 q hk hq g2 r2 a1 a2 a3 a4 t2
      refine wp_iload_n d_RE_readRow_10 rfl rfl ?_
      refine wp_bipush (v := 28) d_RE_readRow_11 (by rfl) ?_
      refine wp_icmp_ge (tgt := 41) d_RE_readRow_13 (by decide) (fun hc => ?_) (fun hc => ?_)
      · exact fin h2 q _ hq g2 r2 a1 a2 a3 a4 t2
      · exact absurd (show (28 : Int32) ≤ nI (28 - 0) by decide) hc
    | succ k ihk =>
      intro h2 q hk hq g2 r2 a1 a2 a3 a4 t2
      have w2 := r2.1
      refine wp_iload_n d_RE_readRow_10 rfl rfl ?_
      refine wp_bipush (v := 28) d_RE_readRow_11 (by rfl) ?_
      refine wp_icmp_ge (tgt := 41) d_RE_readRow_13 (by decide) (fun hc => ?_) (fun hc => ?_)
      · exact absurd ((nI_leI (a := 28) (by decide) (by omega)).mp hc) (by omega)
      · refine wp_aload_n d_RE_readRow_16 rfl rfl ?_
        refine wp_aload_n d_RE_readRow_17 rfl rfl ?_
        refine wp_callV0 xc_RE_53 d_RE_readRow_18 (Nat.le_of_ble_eq_true rfl) (by repeat first | assumption | exact xg_eq | exact xn_eq (by first | rfl | omega) | refine xg_ne (by first | assumption | omega | (simp only [xput, xnew]; omega)) ?_ | refine xn_ne (by first | assumption | omega | (simp only [xput, xnew]; omega)) ?_ | exact rfl) (c_RE_peek hE r2) (by omega) (fun r hh hp => ?_)
        obtain ⟨rfl, hz0⟩ := hp; have hz0 := hz0.symm; subst hz0
        refine wp_callV1 xc_RE_56 d_RE_readRow_21 (Nat.le_of_ble_eq_true rfl) (by repeat first | assumption | exact xg_eq | exact xn_eq (by first | rfl | omega) | refine xg_ne (by first | assumption | omega | (simp only [xput, xnew]; omega)) ?_ | refine xn_ne (by first | assumption | omega | (simp only [xput, xnew]; omega)) ?_ | exact rfl) (c_RE_beginsAtom hE hX r2 (by omega) _) (by omega) (fun r hh hp => ?_)
        obtain ⟨rfl, hz0⟩ := hp; have hz0 := hz0.symm; subst hz0
        refine wp_if_eq (tgt := 41) d_RE_readRow_24 (by decide) (fun hc2 => ?_) (fun hc2 => ?_)
        · rw [bI_0] at hc2
          have hq := hq.trans (show rRw xs eX inn (k + 1) q = q by rw [rRw, hc2]; rfl)
          exact fin h2 q _ hq g2 r2 a1 a2 a3 a4 t2
        · rw [bI_0] at hc2
          have hc2 := b_t hc2
          have hq := hq.trans (show rRw xs eX inn (k + 1) q = rRw xs eX inn k (q.1 ++ [(rPc xs eX inn q.2).1], (rPc xs eX inn q.2).2) by rw [rRw, hc2]; rfl)
          obtain ⟨lp, o2, c2⟩ := t2
          refine wp_aload_n d_RE_readRow_27 rfl rfl ?_
          refine wp_aload_n d_RE_readRow_28 rfl rfl ?_
          refine wp_callV0 xc_RE_59 d_RE_readRow_29 (Nat.le_of_ble_eq_true rfl) (by repeat first | assumption | exact xg_eq | exact xn_eq (by first | rfl | omega) | refine xg_ne (by first | assumption | omega | (simp only [xput, xnew]; omega)) ?_ | refine xn_ne (by first | assumption | omega | (simp only [xput, xnew]; omega)) ?_ | exact rfl) (c_RE_readPiece (sX := sX) (eX := eX) hE hX hm hcell ih hD r2 (by have := g2.1; omega) (by have := g2.1; omega) (by have := g2.1; omega) a3 (by omega) hc2) (by omega) (fun r h3 hp => ?_)
          obtain ⟨rfl, g3, r3, p1, p2, p3, p4, q1, q2, q3, q4⟩ := hp
          have o3 : h3.2.2 (xb E + h.1) = some (ob 7 [.null, va_rf lp, .int (nI (rwS sX q.1)), .int (bI (rwE eX q.1))]) := (g3.2.2.2.2 _ (by omega) (by omega)).trans o2
          have hq3 := q2.q (E := E) hcell
          refine wp_callV1 xc_RE_63 d_RE_readRow_32 (Nat.le_of_ble_eq_true rfl) (by repeat first | assumption | exact xg_eq | exact xn_eq (by first | rfl | omega) | refine xg_ne (by first | assumption | omega | (simp only [xput, xnew]; omega)) ?_ | refine xn_ne (by first | assumption | omega | (simp only [xput, xnew]; omega)) ?_ | exact rfl) (c_RO_add (a := xb E + h.1) (p := xb E + h2.1) (c := xb E + h2.1 + 1) (by omega) (by omega) (by omega) o3 q1 hq3 (fun h' hh' => (q2.mv hm (fun z z1 _ => hh' z (by omega)) (Nat.le_refl _) (Nat.le_refl _)).q (E := E) hcell)) (by omega) (fun r h4 hp => ?_)
          obtain ⟨rfl, f4, o4, o5⟩ := hp
          rw [pc_sz _ q3.1] at o4
          have e4 : h4.1 = h3.1 := f4.1
          have b3 := g3.1
          have g4 : xgw E ra (1 + 4 * (q.2.1 - s.1) + 4 * ((rPc xs eX inn q.2).2.1 - q.2.1)) h h4 := (g2.tr g3).fr f4 (by have := g2.1; simp; omega)
          refine wp_iinc d_RE_readRow_35 rfl rfl (by decide) rfl ?_
          refine wp_goto (tgt := 10) d_RE_readRow_38 (by decide) ?_
          rw [show nI (28 - (k + 1)) + Int32.ofInt 1 = nI (28 - k) from by rw [show 28 - k = (28 - (k + 1)) + 1 by omega, nI_succ]; rfl]
          refine ihk h4 (q.1 ++ [(rPc xs eX inn q.2).1], (rPc xs eX inn q.2).2) (by omega) hq (g4.le (by show _ ≤ 1 + 4 * ((rPc xs eX inn q.2).2.1 - s.1); omega)) ⟨f4.at (by have := g2.1; simp; omega) r3.1, r3.2.1.mv (f4.2.2 _ (by have := g2.1; simp; omega)) (f4.2.2 _ (by have := g2.1; simp; omega)), r3.2.2⟩ (by show s.1 ≤ (rPc xs eX inn q.2).2.1; omega) (by show s.2.1 ≤ (rPc xs eX inn q.2).2.2.1; omega) p3 (by omega) ⟨some (xb E + h2.1), ?_, ?_⟩
          · rw [o4, rwS_add, rwE_add, ← nI_add, pcE, show decide (nI (rPc xs eX inn q.2).1.2.1 = 0) = decide ((rPc xs eX inn q.2).1.2.1 = 0) from decide_eq_decide.mpr (nI_eq (b := 0) (by omega) (by decide))]
            rfl
          · rw [List.reverse_append, List.reverse_singleton, List.singleton_append]
            refine ⟨xb E + h2.1, xb E + h2.1 + 1, lp, rfl, by omega, by omega, o5, q2.mv hm (fun z z1 _ => f4.2.2 z (by simp; omega)) (by omega) (by omega), q3, c2.mv hm (fun z z1 z2 => (f4.2.2 z (by simp; omega)).trans (g3.2.2.2.2 z (by omega) (by have := g2.1; omega))) (Nat.le_refl _) (by omega)⟩
  refine wpc_of rfl (Nat.le_of_ble_eq_true rfl) ?_
  refine wp_new xw_RE_50 d_RE_readRow_0 ?_
  refine wp_dup d_RE_readRow_3 rfl ?_
  refine wp_callI0 xc_RE_52 d_RE_readRow_4 (Nat.le_of_ble_eq_true rfl) (c_RO_init (by repeat first | assumption | exact xg_eq | exact xn_eq (by first | rfl | omega) | refine xg_ne (by first | assumption | omega | (simp only [xput, xnew]; omega)) ?_ | refine xn_ne (by first | assumption | omega | (simp only [xput, xnew]; omega)) ?_ | exact rfl)) (by omega) (fun r hh hp => ?_)
  obtain ⟨rfl, rfl⟩ := hp
  generalize hh2 : xput (xnew E h 4 _) _ _ = h2
  have e0 : h2.1 = h.1 + 1 := by rw [← hh2]; rfl
  have g2 : xgw E ra 1 h h2 := by rw [← hh2]; exact ((xgw.rf (ra := ra)).new (by decide)).put (Or.inr (Nat.le_refl _))
  have o2 : h2.2.2 (xb E + h.1) = some (ob 7 [.null, .null, .int 0, .int 1]) := by rw [← hh2]; exact (by repeat first | assumption | exact xg_eq | exact xn_eq (by first | rfl | omega) | refine xg_ne (by first | assumption | omega | (simp only [xput, xnew]; omega)) ?_ | refine xn_ne (by first | assumption | omega | (simp only [xput, xnew]; omega)) ?_ | exact rfl)
  have r2 : Rd E h2 ra sa sr n xs s := hr.gw l2 l3 g2.2.2.2.2 (by rw [← hh2]; exact (by repeat first | assumption | exact xg_eq | exact xn_eq (by first | rfl | omega) | refine xg_ne (by first | assumption | omega | (simp only [xput, xnew]; omega)) ?_ | refine xn_ne (by first | assumption | omega | (simp only [xput, xnew]; omega)) ?_ | exact rfl)) k5
  clear hh2
  refine wp_astore_n d_RE_readRow_7 rfl (by decide) rfl ?_
  refine wp_iconst (v := 0) d_RE_readRow_8 (by rfl) ?_
  refine wp_istore_n d_RE_readRow_9 rfl (by decide) rfl ?_
  exact lp 28 h2 ([], s) (Nat.le_refl _) rfl (g2.le (by omega)) r2 (Nat.le_refl _) (Nat.le_refl _) hg (by omega) ⟨none, o2, rfl⟩
theorem ccS_add (rs : Cc X) (r : List (Pc X)) (h : rs ≠ []) : ccS sX (rs ++ [r]) = ccS sX rs + (rwS sX r + 2) := by
  have : 0 < rs.length := List.length_pos_iff.mpr h
  simp only [ccS, List.map_append, List.sum_append, List.map_cons, List.map_nil, List.sum_cons, List.sum_nil, List.length_append, List.length_singleton]
  omega
theorem ccE_add (rs : Cc X) (r : List (Pc X)) : ccE eX (rs ++ [r]) = (ccE eX rs || rwE eX r) := by simp [ccE]
def tCo (sX : X → Nat) (eX : X → Bool) (tX : xH → Nat → Nat → Nat → X → Prop) (h : xH) (c hi : Nat) (rs : Cc X) : Prop := ∃ lr : Option Nat, h.2.2 c = some (ob 2 [va_rf lr, .int (nI (ccS sX rs)), .int (bI (ccE eX rs))]) ∧ tRl sX eX tX h (c + 1) hi lr rs.reverse
theorem tCo_add (hm : tMv tX) {h h' h2 : xH} {c r hi : Nat} {rs : Cc X} {ps : List (Pc X)} {lr lp : Option Nat} (hc : c < r) (hr : r < hi) (h1 : tRl sX eX tX h (c + 1) r lr rs.reverse) (hk : ∀ q, c < q → q < r → h2.2.2 q = h.2.2 q)
    (p1 : tPl tX h' (r + 1) hi lp ps.reverse) (f : xfr [c, r] h' h2) (o1 : h2.2.2 r = some (ob 7 [va_rf lr, va_rf lp, .int (nI (rwS sX ps)), .int (bI (rwE eX ps))])) : tRl sX eX tX h2 (c + 1) hi (some r) (rs ++ [ps]).reverse := by
  rw [List.reverse_append, List.reverse_singleton, List.singleton_append]
  exact ⟨r, lr, rfl, ⟨by omega, hr, lp, o1, p1.mv hm (fun q q1 q2 => f.2.2 q (by simp; omega)) (by omega) (Nat.le_refl _)⟩, h1.mv hm (Nat.le_refl _) (fun q q1 q2 => hk q (by omega) q2) (Nat.le_refl _)⟩
theorem c_RE_readChoice0 (hE : xOK E) (hX : xStr E kA kV) (hm : tMv tX) (hcell : tCell sX eX tX) (ih : rIH E ra sa sr n xs tX inn N D) (hD : 8 ≤ D) : rIH E ra sa sr n xs (tCc sX eX tX) (rCh xs eX inn) (N + 1) (D + 5) := by
  intro h s hr l1 l2 l3 hg hN
  obtain ⟨k1, k2, k3, k4, k5⟩ := id hr
  have fin : ∀ (h2 : xH) (q : Cc X × RS) (i : Int32), rCh xs eX inn s = q → xgw E ra (2 + 4 * (q.2.1 - s.1)) h h2 → Rd E h2 ra sa sr n xs q.2 → s.1 ≤ q.2.1 → s.2.1 ≤ q.2.2.1 → q.2.2.1 ≤ 6 → h.1 < h2.1 → tCo sX eX tX h2 (xb E + h.1) (xb E + h2.1) q.1 →
      wp E (D + 5) m_RE_readChoice 47 [(0, .ref ra), (1, .ref (xb E + h.1)), (2, .int i)] [] h2 (fun r' h' => r' = some (.ref (xb E + h.1)) ∧ xgw E ra (2 + 4 * ((rCh xs eX inn s).2.1 - s.1)) h h' ∧ Rd E h' ra sa sr n xs (rCh xs eX inn s).2 ∧ s.1 ≤ (rCh xs eX inn s).2.1 ∧ s.2.1 ≤ (rCh xs eX inn s).2.2.1 ∧ (rCh xs eX inn s).2.2.1 ≤ 6 ∧ tCc sX eX tX h' (xb E + h.1) (xb E + h'.1) (xb E + h.1) (rCh xs eX inn s).1) := by
    intro h2 q i hq g2 r2 a1 a2 a3 a4 t2
    refine wp_aload_n d_RE_readChoice_47 rfl rfl ?_
    refine wp_areturn d_RE_readChoice_48 rfl (Or.inl ⟨_, rfl⟩) (Or.inr ⟨_, rfl⟩) ?_
    obtain ⟨lr, o2, c2⟩ := t2
    rw [hq]
    exact ⟨rfl, g2, r2, a1, a2, a3, Nat.le_refl _, by omega, lr, o2, c2.mv hm (by omega) (fun _ _ _ => rfl) (Nat.le_refl _)⟩
  have add : ∀ (h2 : xH) (rs : Cc X) (s2 : RS) (lr : Option Nat) (sz : Nat) (st : List Value) (lo : List (Nat × Value)) (pc : Nat) (P : Option Value → xH → Prop), (pc = 10 ∨ pc = 35) → (lr = none ↔ rs = []) → sz = ccS sX rs → xgw E ra (1 + 4 * (s2.1 - s.1)) h h2 → Rd E h2 ra sa sr n xs s2 → s.1 ≤ s2.1 → s.2.1 ≤ s2.2.1 → s2.2.1 ≤ 6 → h.1 < h2.1 → h2.2.2 (xb E + h.1) = some (ob 2 [va_rf lr, .int (nI sz), .int (bI (ccE eX rs))]) → tRl sX eX tX h2 (xb E + h.1 + 1) (xb E + h2.1) lr rs.reverse →
      (∀ h4, xgw E ra (2 + 4 * ((rRw xs eX inn 28 ([], s2)).2.1 - s.1)) h h4 → Rd E h4 ra sa sr n xs (rRw xs eX inn 28 ([], s2)).2 → s.1 ≤ (rRw xs eX inn 28 ([], s2)).2.1 → s.2.1 ≤ (rRw xs eX inn 28 ([], s2)).2.2.1 → (rRw xs eX inn 28 ([], s2)).2.2.1 ≤ 6 → h.1 < h4.1 → tCo sX eX tX h4 (xb E + h.1) (xb E + h4.1) (rs ++ [(rRw xs eX inn 28 ([], s2)).1]) → wp E (D + 5) m_RE_readChoice (pc + 3 + 3) lo [] h4 P) →
      wp E (D + 5) m_RE_readChoice pc lo [.ref ra, .ref (xb E + h.1)] h2 P := by
    intro h2 rs s2 lr sz st lo pc P hpc hlr hsz g2 r2 a1 a2 a3 a4 o2 c2 K
    have w2 := r2.1
    have b2 := g2.1
    have d1 : decode m_RE_readChoice.2.1 pc = .ok (.invokevirtual 38, 3) := by rcases hpc with rfl | rfl; exact d_RE_readChoice_10; exact d_RE_readChoice_35
    have d2 : decode m_RE_readChoice.2.1 (pc + 3) = .ok (.invokevirtual 42, 3) := by rcases hpc with rfl | rfl; exact d_RE_readChoice_13; exact d_RE_readChoice_38
    refine wp_callV0 xc_RE_38 d1 (Nat.le_of_ble_eq_true rfl) (by repeat first | assumption | exact xg_eq | exact xn_eq (by first | rfl | omega) | refine xg_ne (by first | assumption | omega | (simp only [xput, xnew]; omega)) ?_ | refine xn_ne (by first | assumption | omega | (simp only [xput, xnew]; omega)) ?_ | exact rfl) (c_RE_readRow (sX := sX) (eX := eX) hE hX hm hcell ih hD r2 (by omega) (by omega) (by omega) a3 (by omega)) (by omega) (fun r h3 hp => ?_)
    obtain ⟨rfl, g3, r3, p1, p2, p3, p4, lp, o3, c3⟩ := hp
    have b3 := g3.1
    have o3' : h3.2.2 (xb E + h.1) = some (ob 2 [va_rf lr, .int (nI sz), .int (bI (ccE eX rs))]) := (g3.2.2.2.2 _ (by omega) (by omega)).trans o2
    refine wp_callV1 xc_RE_42 d2 (Nat.le_of_ble_eq_true rfl) (by repeat first | assumption | exact xg_eq | exact xn_eq (by first | rfl | omega) | refine xg_ne (by first | assumption | omega | (simp only [xput, xnew]; omega)) ?_ | refine xn_ne (by first | assumption | omega | (simp only [xput, xnew]; omega)) ?_ | exact rfl) (c_CH_add (a := xb E + h.1) (r := xb E + h2.1) (by omega) o3' o3) (by omega) (fun r h4 hp => ?_)
    obtain ⟨rfl, f4, o4, o5⟩ := hp
    have e4 : h4.1 = h3.1 := f4.1
    refine K h4 (((g2.tr g3).fr f4 (by simp; omega)).le (by omega)) ⟨f4.at (by simp; omega) r3.1, r3.2.1.mv (f4.2.2 _ (by simp; omega)) (f4.2.2 _ (by simp; omega)), r3.2.2⟩ (by omega) (by omega) p3 (by omega) ⟨some (xb E + h2.1), ?_, ?_⟩
    · rw [o4, ccE_add]
      congr 5
      by_cases hrs : rs = []
      · subst hrs
        rw [if_pos (hlr.mpr rfl), hsz]
        show nI 0 + (nI _ + 0) = nI (ccS sX [_])
        rw [ccS]
        simp [nI_0]
      · rw [if_neg (fun z => hrs (hlr.mp z)), ccS_add _ _ hrs, hsz, ← nI_add, ← nI_add]; rfl
    · rw [e4]
      exact tCo_add hm (by omega) (by omega) c2 (fun q q1 q2 => (f4.2.2 q (by simp; omega)).trans (g3.2.2.2.2 q (by omega) (by omega))) c3 f4 o5
  have lp : ∀ (k : Nat) (h2 : xH) (q : Cc X × RS), k ≤ 28 → rCh xs eX inn s = rCc xs eX inn k q → q.1 ≠ [] → xgw E ra (2 + 4 * (q.2.1 - s.1)) h h2 → Rd E h2 ra sa sr n xs q.2 → s.1 ≤ q.2.1 → s.2.1 ≤ q.2.2.1 → q.2.2.1 ≤ 6 → h.1 < h2.1 → tCo sX eX tX h2 (xb E + h.1) (xb E + h2.1) q.1 →
      wp E (D + 5) m_RE_readChoice 18 [(0, .ref ra), (1, .ref (xb E + h.1)), (2, .int (nI (28 - k)))] [] h2 (fun r' h' => r' = some (.ref (xb E + h.1)) ∧ xgw E ra (2 + 4 * ((rCh xs eX inn s).2.1 - s.1)) h h' ∧ Rd E h' ra sa sr n xs (rCh xs eX inn s).2 ∧ s.1 ≤ (rCh xs eX inn s).2.1 ∧ s.2.1 ≤ (rCh xs eX inn s).2.2.1 ∧ (rCh xs eX inn s).2.2.1 ≤ 6 ∧ tCc sX eX tX h' (xb E + h.1) (xb E + h'.1) (xb E + h.1) (rCh xs eX inn s).1) := by
    intro k
    induction k with
    | zero =>
      intro h2 q hk hq hne g2 r2 a1 a2 a3 a4 t2
      refine wp_iload_n d_RE_readChoice_18 rfl rfl ?_
      refine wp_bipush (v := 28) d_RE_readChoice_19 (by rfl) ?_
      refine wp_icmp_ge (tgt := 47) d_RE_readChoice_21 (by decide) (fun hc => ?_) (fun hc => ?_)
      · exact fin h2 q _ hq g2 r2 a1 a2 a3 a4 t2
      · exact absurd (show (28 : Int32) ≤ nI (28 - 0) by decide) hc
    | succ k ihk =>
      intro h2 q hk hq hne g2 r2 a1 a2 a3 a4 t2
      have w2 := r2.1
      refine wp_iload_n d_RE_readChoice_18 rfl rfl ?_
      refine wp_bipush (v := 28) d_RE_readChoice_19 (by rfl) ?_
      refine wp_icmp_ge (tgt := 47) d_RE_readChoice_21 (by decide) (fun hc => ?_) (fun hc => ?_)
      · exact absurd ((nI_leI (a := 28) (by decide) (by omega)).mp hc) (by omega)
      · refine wp_aload_n d_RE_readChoice_24 rfl rfl ?_
        refine wp_bipush (v := 124) d_RE_readChoice_25 (by rfl) ?_
        refine wp_callV1 xc_RE_46 d_RE_readChoice_27 (Nat.le_of_ble_eq_true rfl) (by repeat first | assumption | exact xg_eq | exact xn_eq (by first | rfl | omega) | refine xg_ne (by first | assumption | omega | (simp only [xput, xnew]; omega)) ?_ | refine xn_ne (by first | assumption | omega | (simp only [xput, xnew]; omega)) ?_ | exact rfl) (c_RE_take hE r2 (by decide)) (by omega) (fun r h3 hp => ?_)
        obtain ⟨rfl, f3, r3⟩ := hp
        have e3 : h3.1 = h2.1 := f3.1
        have g3 : xgw E ra (2 + 4 * (q.2.1 - s.1)) h h3 := g2.fr f3 (by simp)
        obtain ⟨lr, o2, c2⟩ := t2
        have o3 := f3.at (by simp; omega) o2
        have c3 : tRl sX eX tX h3 (xb E + h.1 + 1) (xb E + h3.1) lr q.1.reverse := by rw [e3]; exact c2.mv hm (Nat.le_refl _) (fun z z1 z2 => f3.2.2 z (by simp; omega)) (Nat.le_refl _)
        by_cases hb : rPk xs q.2 = 124
        · rw [rTk, if_pos hb] at r3 ⊢
          have hq := hq.trans (show rCc xs eX inn (k + 1) q = rCc xs eX inn k (q.1 ++ [(rRw xs eX inn 28 ([], rInc q.2)).1], (rRw xs eX inn 28 ([], rInc q.2)).2) by rw [rCc, if_pos hb])
          refine wp_if_eq (tgt := 47) d_RE_readChoice_30 (by decide) (fun hc2 => ?_) (fun hc2 => ?_)
          · exact absurd hc2 (show ¬ (1 : Int32) = 0 by decide)
          · refine wp_aload_n d_RE_readChoice_33 rfl rfl ?_
            refine wp_aload_n d_RE_readChoice_34 rfl rfl ?_
            refine add h3 q.1 (rInc q.2) lr (ccS sX q.1) [] _ 35 _ (Or.inr rfl) ?_ rfl (g3.le (by show _ ≤ 1 + 4 * (q.2.1 + 1 - s.1); omega)) r3 (by show s.1 ≤ q.2.1 + 1; omega) a2 a3 (by omega) o3 c3 (fun h4 g4 r4 p1 p2 p3 p4 t4 => ?_)
            · constructor
              · intro z; subst z
                exact absurd (List.reverse_eq_nil_iff.mp (by cases hrv : q.1.reverse with | nil => rfl | cons x y => rw [hrv] at c3; obtain ⟨_, _, z, _⟩ := c3; cases z)) hne
              · intro z; exact absurd z hne
            · refine wp_iinc d_RE_readChoice_41 rfl rfl (by decide) rfl ?_
              refine wp_goto (tgt := 18) d_RE_readChoice_44 (by decide) ?_
              rw [show nI (28 - (k + 1)) + Int32.ofInt 1 = nI (28 - k) from by rw [show 28 - k = (28 - (k + 1)) + 1 by omega, nI_succ]; rfl]
              exact ihk h4 (q.1 ++ [(rRw xs eX inn 28 ([], rInc q.2)).1], (rRw xs eX inn 28 ([], rInc q.2)).2) (by omega) hq (by simp) g4 r4 p1 p2 p3 p4 t4
        · rw [rTk, if_neg hb] at r3 ⊢
          have hq := hq.trans (show rCc xs eX inn (k + 1) q = q by rw [rCc, if_neg hb])
          refine wp_if_eq (tgt := 47) d_RE_readChoice_30 (by decide) (fun hc2 => ?_) (fun hc2 => ?_)
          · exact fin h3 q _ hq g3 r3 a1 a2 a3 (by omega) ⟨lr, o3, c3⟩
          · exact absurd rfl hc2
  refine wpc_of rfl (Nat.le_of_ble_eq_true rfl) ?_
  refine wp_new xw_RE_35 d_RE_readChoice_0 ?_
  refine wp_dup d_RE_readChoice_3 rfl ?_
  refine wp_callI0 xc_RE_37 d_RE_readChoice_4 (Nat.le_of_ble_eq_true rfl) (c_CH_init (by repeat first | assumption | exact xg_eq | exact xn_eq (by first | rfl | omega) | refine xg_ne (by first | assumption | omega | (simp only [xput, xnew]; omega)) ?_ | refine xn_ne (by first | assumption | omega | (simp only [xput, xnew]; omega)) ?_ | exact rfl)) (by omega) (fun r hh hp => ?_)
  obtain ⟨rfl, hz0⟩ := hp; have hz0 := hz0.symm; subst hz0
  generalize hh2 : xnew E h 3 _ = h2
  have e0 : h2.1 = h.1 + 1 := by rw [← hh2]; rfl
  have g2 : xgw E ra 1 h h2 := by rw [← hh2]; exact (xgw.rf (ra := ra)).new (by decide)
  have o2 : h2.2.2 (xb E + h.1) = some (ob 2 [.null, .int 0, .int 0]) := by rw [← hh2]; exact (by repeat first | assumption | exact xg_eq | exact xn_eq (by first | rfl | omega) | refine xg_ne (by first | assumption | omega | (simp only [xput, xnew]; omega)) ?_ | refine xn_ne (by first | assumption | omega | (simp only [xput, xnew]; omega)) ?_ | exact rfl)
  have r2 : Rd E h2 ra sa sr n xs s := hr.gw l2 l3 g2.2.2.2.2 (by rw [← hh2]; exact (by repeat first | assumption | exact xg_eq | exact xn_eq (by first | rfl | omega) | refine xg_ne (by first | assumption | omega | (simp only [xput, xnew]; omega)) ?_ | refine xn_ne (by first | assumption | omega | (simp only [xput, xnew]; omega)) ?_ | exact rfl)) k5
  clear hh2
  refine wp_astore_n d_RE_readChoice_7 rfl (by decide) rfl ?_
  refine wp_aload_n d_RE_readChoice_8 rfl rfl ?_
  refine wp_aload_n d_RE_readChoice_9 rfl rfl ?_
  refine add h2 [] s none 0 [] _ 10 _ (Or.inl rfl) (by simp) (by simp [ccS]) (g2.le (by omega)) r2 (Nat.le_refl _) (Nat.le_refl _) hg (by omega) o2 rfl (fun h4 g4 r4 p1 p2 p3 p4 t4 => ?_)
  refine wp_iconst (v := 0) d_RE_readChoice_16 (by rfl) ?_
  refine wp_istore_n d_RE_readChoice_17 rfl (by decide) rfl ?_
  exact lp 28 h4 ([(rRw xs eX inn 28 ([], s)).1], (rRw xs eX inn 28 ([], s)).2) (Nat.le_refl _) rfl (by simp) g4 r4 p1 p2 p3 p4 t4
end RI
theorem c_RE_readChoice {E : xE} {kA kV : Nat → Nat} {ra sa sr n : Nat} {xs : List Int32} (hE : xOK E) (hX : xStr E kA kV) : ∀ N, rIH E ra sa sr n xs (tT N) (pCh xs N) N (8 + 5 * N)
  | 0 => fun h s _ _ _ _ h1 h2 => absurd h2 (by omega)
  | N + 1 => (c_RE_readChoice0 (sX := szT N) (eX := emT N) hE hX (tT.mv N) (tT.cell N) (c_RE_readChoice hE hX N) (by omega) : rIH E ra sa sr n xs (tT (N + 1)) (pCh xs (N + 1)) (N + 1) (8 + 5 * N + 5))
