def wkR (q : PS0) (G : Nat → Int32) : Nat → Nat × Nat × (Nat → Int32) → Nat × Nat × (Nat → Int32)
  | 0, s => s
  | k + 1, s => if q.2.1 s.2.1 = 0 then s else
    let pl := if q.2.1 s.2.1 = 1 then s.1 + 1 else s.1
    let f := if q.2.1 s.2.1 = 4 then bdSet s.2.2 (nI (q.2.2.2.2.1 s.2.1)) (nI s.1) else s.2.2
    wkR q G k (pl, if q.2.1 s.2.1 = 5 ∧ lof G (q.2.2.1 s.2.1) (nI pl) = false then q.2.2.2.1 s.2.1 else q.2.2.1 s.2.1, f)
def wkB (q : PS0) (G : Nat → Int32) (fi b : Nat) (f : Nat → Int32) : Nat → Int32 :=
  let s := wkR q G 3751 (b, fi, f)
  bdSet (bdSet s.2.2 0 (nI b)) 1 (nI s.1)
section MC
variable {E : xE} {h : xH} {m fi len : Nat} {q : PS0} {F G : Nat → Int32}
theorem c_MA_walk (hE : xOK E) (hm : Ma E h m q fi F G len) (hw : pWf q) {bo br b : Nat} {f : Nat → Int32} (hb : Bd E h bo br f) (l1 : bo < m ∨ m + 9 < bo) (l2 : br < m ∨ m + 9 < br) :
    wpc E 1 m_MA_walk [.ref m, .int (nI b), .ref bo] h (fun r' h' => r' = none ∧ xfr [br] h h' ∧ Bd E h' bo br (wkB q G fi b f)) := by
  have hbr : br ∉ [m, m + 1, m + 2, m + 3, m + 4, m + 5, m + 6, m + 7, m + 8, m + 9] := by
    simp only [List.mem_cons, List.not_mem_nil, or_false, not_or]; omega
  have fin : ∀ (h2 : xH) (s : Nat × Nat × (Nat → Int32)) (i : Int32) (z : List (Nat × Value)), wkR q G 3751 (b, fi, f) = s → xfr [br] h h2 → Bd E h2 bo br s.2.2 →
      wp E 1 m_MA_walk 147 ([(0, .ref m), (1, .int (nI b)), (2, .ref bo), (3, .int (nI s.1)), (4, .int (nI s.2.1)), (5, .int i)] ++ z) [] h2 (fun r' h' => r' = none ∧ xfr [br] h h' ∧ Bd E h' bo br (wkB q G fi b f)) := by
    intro h2 s i z hs f2 b2
    have e1 := b2.1
    have b22 := b2.2.2
    refine wp_lo (lo' := [(0, .ref m), (1, .int (nI b)), (2, .ref bo), (3, .int (nI s.1)), (4, .int (nI s.2.1)), (5, .int i)]) (fun z hz => List.mem_append_left _ hz) ?_
    refine wp_aload_n d_MA_walk_147 rfl rfl ?_
    refine wp_iconst (v := 0) d_MA_walk_148 (by rfl) ?_
    refine wp_callS1 xc_MA_99 d_MA_walk_149 (Nat.le_of_ble_eq_true rfl) (c_BO_beginSlot _) (by omega) (fun r hh hp => ?_)
    obtain ⟨rfl, hz0⟩ := hp; have hz0 := hz0.symm; subst hz0
    refine wp_iload_n d_MA_walk_152 rfl rfl ?_
    refine wp_callV2 xc_MA_95 d_MA_walk_153 (Nat.le_of_ble_eq_true rfl) (by repeat first | assumption | exact xg_eq | exact xn_eq (by first | rfl | omega) | refine xg_ne (by first | assumption | omega | (simp only [xput, xnew]; omega)) ?_ | refine xn_ne (by first | assumption | omega | (simp only [xput, xnew]; omega)) ?_ | exact rfl) (c_BO_mark hE b2 _ _) (by omega) (fun r hh hp => ?_)
    obtain ⟨rfl, rfl⟩ := hp
    have b3 : Bd E (xput h2 br (aI E 14 (bdSet s.2.2 0 (nI b)))) bo br (bdSet s.2.2 0 (nI b)) := ⟨xg_ne b22 e1, xg_eq, b22⟩
    have e3 := b3.1
    refine wp_aload_n d_MA_walk_156 rfl rfl ?_
    refine wp_iconst (v := 0) d_MA_walk_157 (by rfl) ?_
    refine wp_callS1 xc_MA_102 d_MA_walk_158 (Nat.le_of_ble_eq_true rfl) (c_BO_endSlot _) (by omega) (fun r hh hp => ?_)
    obtain ⟨rfl, hz0⟩ := hp; have hz0 := hz0.symm; subst hz0
    refine wp_iload_n d_MA_walk_161 rfl rfl ?_
    refine wp_callV2 xc_MA_95 d_MA_walk_162 (Nat.le_of_ble_eq_true rfl) (by repeat first | assumption | exact xg_eq | exact xn_eq (by first | rfl | omega) | refine xg_ne (by first | assumption | omega | (simp only [xput, xnew]; omega)) ?_ | refine xn_ne (by first | assumption | omega | (simp only [xput, xnew]; omega)) ?_ | exact rfl) (c_BO_mark hE b3 _ _) (by omega) (fun r hh hp => ?_)
    obtain ⟨rfl, rfl⟩ := hp
    refine wp_return d_MA_walk_165 rfl ?_
    refine ⟨rfl, (f2.put (by simp)).put (by simp), xg_ne b22 e3, ?_, b22⟩
    rw [wkB, hs]
    exact xg_eq
  have lp : ∀ (k : Nat) (h2 : xH) (s : Nat × Nat × (Nat → Int32)) (z : List (Nat × Value)), k ≤ 3751 → wkR q G 3751 (b, fi, f) = wkR q G k s → s.2.1 ≤ 120 → xfr [br] h h2 → Bd E h2 bo br s.2.2 →
      wp E 1 m_MA_walk 14 ([(0, .ref m), (1, .int (nI b)), (2, .ref bo), (3, .int (nI s.1)), (4, .int (nI s.2.1)), (5, .int (nI (3751 - k)))] ++ z) [] h2 (fun r' h' => r' = none ∧ xfr [br] h h' ∧ Bd E h' bo br (wkB q G fi b f)) := by
    intro k
    induction k with
    | zero =>
      intro h2 s z hk hs hst f2 b2
      refine wp_lo (lo' := [(0, .ref m), (1, .int (nI b)), (2, .ref bo), (3, .int (nI s.1)), (4, .int (nI s.2.1)), (5, .int (nI (3751 - 0)))]) (fun z hz => List.mem_append_left _ hz) ?_
      refine wp_iload d_MA_walk_14 rfl ?_
      refine wp_sipush (v := 3751) d_MA_walk_16 (by rfl) ?_
      refine wp_icmp_ge (tgt := 147) d_MA_walk_19 (by decide) (fun hc => ?_) (fun hc => ?_)
      · exact fin h2 s _ [] hs f2 b2
      · exact absurd (show (3751 : Int32) ≤ nI (3751 - 0) by decide) hc
    | succ k ih =>
      intro h2 s z hk hs hst f2 b2
      have m2 : Ma E h2 m q fi F G len := hm.mv (fun z z1 z2 => f2.2.2 z (fun e => hbr (by rw [← List.mem_singleton.mp e]; simp only [List.mem_cons, List.not_mem_nil, or_false]; omega)))
      obtain ⟨k1, ⟨g1, g2, g3, g4, g5, g6, g7, g8⟩, k3, k4, k5⟩ := id m2
      have c1 := hw.1 s.2.1
      have c2 := hw.2.1 s.2.1
      have c3 := hw.2.2.1 s.2.1
      have e1 := b2.1
      have b22 := b2.2.2
      refine wp_lo (lo' := [(0, .ref m), (1, .int (nI b)), (2, .ref bo), (3, .int (nI s.1)), (4, .int (nI s.2.1)), (5, .int (nI (3751 - (k + 1))))]) (fun z hz => List.mem_append_left _ hz) ?_
      refine wp_iload d_MA_walk_14 rfl ?_
      refine wp_sipush (v := 3751) d_MA_walk_16 (by rfl) ?_
      refine wp_icmp_ge (tgt := 147) d_MA_walk_19 (by decide) (fun hc => ?_) (fun hc => ?_)
      · exact absurd hc (nI_ge (a := 3751 - (k + 1)) (b := 3751) (by omega) (by decide))
      · refine wp_aload_n d_MA_walk_22 rfl rfl ?_
        refine wp_get xf_MA_12 d_MA_walk_23 (by repeat first | assumption | exact xg_eq | exact xn_eq (by first | rfl | omega) | refine xg_ne (by first | assumption | omega | (simp only [xput, xnew]; omega)) ?_ | refine xn_ne (by first | assumption | omega | (simp only [xput, xnew]; omega)) ?_ | exact rfl) (by rfl) ?_
        refine wp_get xf_MA_65 d_MA_walk_26 (by repeat first | assumption | exact xg_eq | exact xn_eq (by first | rfl | omega) | refine xg_ne (by first | assumption | omega | (simp only [xput, xnew]; omega)) ?_ | refine xn_ne (by first | assumption | omega | (simp only [xput, xnew]; omega)) ?_ | exact rfl) (by rfl) ?_
        refine wp_iload d_MA_walk_29 rfl ?_
        refine wp_iald d_MA_walk_31 (by repeat first | assumption | exact xg_eq | exact xn_eq (by first | rfl | omega) | refine xg_ne (by first | assumption | omega | (simp only [xput, xnew]; omega)) ?_ | refine xn_ne (by first | assumption | omega | (simp only [xput, xnew]; omega)) ?_ | exact rfl) hE.i (vp_in_nI (by omega) (by omega)) ?_
        rw [nI_clamp (n := s.2.1) (by omega)]
        refine wp_if_eq (tgt := 147) d_MA_walk_32 (by decide) (fun hc2 => ?_) (fun hc2 => ?_)
        · have e0 : q.2.1 s.2.1 = 0 := (nI_eq (b := 0) (by omega) (by decide)).mp hc2
          exact fin h2 s _ [] (hs.trans (by rw [wkR, if_pos e0])) f2 b2
        · have e0 : ¬ q.2.1 s.2.1 = 0 := fun z => hc2 (by rw [z]; rfl)
          refine wp_aload_n d_MA_walk_35 rfl rfl ?_
          refine wp_get xf_MA_12 d_MA_walk_36 (by repeat first | assumption | exact xg_eq | exact xn_eq (by first | rfl | omega) | refine xg_ne (by first | assumption | omega | (simp only [xput, xnew]; omega)) ?_ | refine xn_ne (by first | assumption | omega | (simp only [xput, xnew]; omega)) ?_ | exact rfl) (by rfl) ?_
          refine wp_get xf_MA_65 d_MA_walk_39 (by repeat first | assumption | exact xg_eq | exact xn_eq (by first | rfl | omega) | refine xg_ne (by first | assumption | omega | (simp only [xput, xnew]; omega)) ?_ | refine xn_ne (by first | assumption | omega | (simp only [xput, xnew]; omega)) ?_ | exact rfl) (by rfl) ?_
          refine wp_iload d_MA_walk_42 rfl ?_
          refine wp_iald d_MA_walk_44 (by repeat first | assumption | exact xg_eq | exact xn_eq (by first | rfl | omega) | refine xg_ne (by first | assumption | omega | (simp only [xput, xnew]; omega)) ?_ | refine xn_ne (by first | assumption | omega | (simp only [xput, xnew]; omega)) ?_ | exact rfl) hE.i (vp_in_nI (by omega) (by omega)) ?_
          rw [nI_clamp (n := s.2.1) (by omega)]
          refine wp_istore d_MA_walk_45 (by decide) rfl ?_
          refine wp_iload d_MA_walk_47 rfl ?_
          refine wp_iconst (v := 1) d_MA_walk_49 (by rfl) ?_
          have nx : ∀ (h3 : xH) (pl : Nat) (f3 : Nat → Int32), pl = (if q.2.1 s.2.1 = 1 then s.1 + 1 else s.1) → f3 = (if q.2.1 s.2.1 = 4 then bdSet s.2.2 (nI (q.2.2.2.2.1 s.2.1)) (nI s.1) else s.2.2) → xfr [br] h h3 → Bd E h3 bo br f3 →
              wp E 1 m_MA_walk 80 [(0, .ref m), (1, .int (nI b)), (2, .ref bo), (3, .int (nI pl)), (4, .int (nI s.2.1)), (5, .int (nI (3751 - (k + 1)))), (6, .int (nI (q.2.1 s.2.1)))] [] h3 (fun r' h' => r' = none ∧ xfr [br] h h' ∧ Bd E h' bo br (wkB q G fi b f)) := by
            intro h3 pl f3 hpl hf3 x3 b3
            have m3 : Ma E h3 m q fi F G len := hm.mv (fun z z1 z2 => x3.2.2 z (fun e => hbr (by rw [← List.mem_singleton.mp e]; simp only [List.mem_cons, List.not_mem_nil, or_false]; omega)))
            obtain ⟨k1, ⟨g1, g2, g3, g4, g5, g6, g7, g8⟩, k3, k4, k5⟩ := id m3
            have go : ∀ (t : Bool), t = decide (q.2.1 s.2.1 = 5 ∧ lof G (q.2.2.1 s.2.1) (nI pl) = false) → wp E 1 m_MA_walk 109 [(0, .ref m), (1, .int (nI b)), (2, .ref bo), (3, .int (nI pl)), (4, .int (nI s.2.1)), (5, .int (nI (3751 - (k + 1)))), (6, .int (nI (q.2.1 s.2.1)))] [.int (bI t)] h3 (fun r' h' => r' = none ∧ xfr [br] h h' ∧ Bd E h' bo br (wkB q G fi b f)) := by
              intro t ht
              have hs2 : wkR q G 3751 (b, fi, f) = wkR q G k (pl, if q.2.1 s.2.1 = 5 ∧ lof G (q.2.2.1 s.2.1) (nI pl) = false then q.2.2.2.1 s.2.1 else q.2.2.1 s.2.1, f3) := by
                rw [hs, wkR, if_neg e0, hf3, hpl]
              refine wp_istore d_MA_walk_109 (by decide) rfl ?_
              refine wp_iload d_MA_walk_111 rfl ?_
              refine wp_if_eq (tgt := 129) d_MA_walk_113 (by decide) (fun hc3 => ?_) (fun hc3 => ?_)
              · rw [bI_0] at hc3
                rw [hc3] at ht
                rw [if_neg (of_decide_eq_false ht.symm)] at hs2
                refine wp_aload_n d_MA_walk_129 rfl rfl ?_
                refine wp_get xf_MA_12 d_MA_walk_130 (by repeat first | assumption | exact xg_eq | exact xn_eq (by first | rfl | omega) | refine xg_ne (by first | assumption | omega | (simp only [xput, xnew]; omega)) ?_ | refine xn_ne (by first | assumption | omega | (simp only [xput, xnew]; omega)) ?_ | exact rfl) (by rfl) ?_
                refine wp_get xf_MA_86 d_MA_walk_133 (by repeat first | assumption | exact xg_eq | exact xn_eq (by first | rfl | omega) | refine xg_ne (by first | assumption | omega | (simp only [xput, xnew]; omega)) ?_ | refine xn_ne (by first | assumption | omega | (simp only [xput, xnew]; omega)) ?_ | exact rfl) (by rfl) ?_
                refine wp_iload d_MA_walk_136 rfl ?_
                refine wp_iald d_MA_walk_138 (by repeat first | assumption | exact xg_eq | exact xn_eq (by first | rfl | omega) | refine xg_ne (by first | assumption | omega | (simp only [xput, xnew]; omega)) ?_ | refine xn_ne (by first | assumption | omega | (simp only [xput, xnew]; omega)) ?_ | exact rfl) hE.i (vp_in_nI (by omega) (by omega)) ?_
                rw [nI_clamp (n := s.2.1) (by omega)]
                refine wp_istore d_MA_walk_139 (by decide) rfl ?_
                refine wp_iinc d_MA_walk_141 rfl rfl (by decide) rfl ?_
                refine wp_goto (tgt := 14) d_MA_walk_144 (by decide) ?_
                rw [show nI (3751 - (k + 1)) + Int32.ofInt 1 = nI (3751 - k) from by rw [show 3751 - k = (3751 - (k + 1)) + 1 by omega, nI_succ]; rfl]
                exact ih h3 _ [(6, _), (7, _)] (by omega) hs2 c2 x3 b3
              · rw [bI_0] at hc3
                rw [b_t hc3] at ht
                rw [if_pos (of_decide_eq_true ht.symm)] at hs2
                refine wp_aload_n d_MA_walk_116 rfl rfl ?_
                refine wp_get xf_MA_12 d_MA_walk_117 (by repeat first | assumption | exact xg_eq | exact xn_eq (by first | rfl | omega) | refine xg_ne (by first | assumption | omega | (simp only [xput, xnew]; omega)) ?_ | refine xn_ne (by first | assumption | omega | (simp only [xput, xnew]; omega)) ?_ | exact rfl) (by rfl) ?_
                refine wp_get xf_MA_89 d_MA_walk_120 (by repeat first | assumption | exact xg_eq | exact xn_eq (by first | rfl | omega) | refine xg_ne (by first | assumption | omega | (simp only [xput, xnew]; omega)) ?_ | refine xn_ne (by first | assumption | omega | (simp only [xput, xnew]; omega)) ?_ | exact rfl) (by rfl) ?_
                refine wp_iload d_MA_walk_123 rfl ?_
                refine wp_iald d_MA_walk_125 (by repeat first | assumption | exact xg_eq | exact xn_eq (by first | rfl | omega) | refine xg_ne (by first | assumption | omega | (simp only [xput, xnew]; omega)) ?_ | refine xn_ne (by first | assumption | omega | (simp only [xput, xnew]; omega)) ?_ | exact rfl) hE.i (vp_in_nI (by omega) (by omega)) ?_
                rw [nI_clamp (n := s.2.1) (by omega)]
                refine wp_goto (tgt := 139) d_MA_walk_126 (by decide) ?_
                refine wp_istore d_MA_walk_139 (by decide) rfl ?_
                refine wp_iinc d_MA_walk_141 rfl rfl (by decide) rfl ?_
                refine wp_goto (tgt := 14) d_MA_walk_144 (by decide) ?_
                rw [show nI (3751 - (k + 1)) + Int32.ofInt 1 = nI (3751 - k) from by rw [show 3751 - k = (3751 - (k + 1)) + 1 by omega, nI_succ]; rfl]
                exact ih h3 _ [(6, _), (7, _)] (by omega) hs2 c3 x3 b3
            refine wp_iload d_MA_walk_80 rfl ?_
            refine wp_iconst (v := 5) d_MA_walk_82 (by rfl) ?_
            refine wp_icmp_ne (tgt := 108) d_MA_walk_83 (by decide) (fun hc3 => ?_) (fun hc3 => ?_)
            · have e5 : ¬ q.2.1 s.2.1 = 5 := fun z => hc3 (by rw [z]; rfl)
              refine wp_iconst (v := 0) d_MA_walk_108 (by rfl) ?_
              exact go false (by rw [decide_eq_false (fun z => e5 z.1)])
            · have e5 : q.2.1 s.2.1 = 5 := (nI_eq (b := 5) (by omega) (by decide)).mp hc3
              refine wp_aload_n d_MA_walk_86 rfl rfl ?_
              refine wp_aload_n d_MA_walk_87 rfl rfl ?_
              refine wp_get xf_MA_12 d_MA_walk_88 (by repeat first | assumption | exact xg_eq | exact xn_eq (by first | rfl | omega) | refine xg_ne (by first | assumption | omega | (simp only [xput, xnew]; omega)) ?_ | refine xn_ne (by first | assumption | omega | (simp only [xput, xnew]; omega)) ?_ | exact rfl) (by rfl) ?_
              refine wp_get xf_MA_86 d_MA_walk_91 (by repeat first | assumption | exact xg_eq | exact xn_eq (by first | rfl | omega) | refine xg_ne (by first | assumption | omega | (simp only [xput, xnew]; omega)) ?_ | refine xn_ne (by first | assumption | omega | (simp only [xput, xnew]; omega)) ?_ | exact rfl) (by rfl) ?_
              refine wp_iload d_MA_walk_94 rfl ?_
              refine wp_iald d_MA_walk_96 (by repeat first | assumption | exact xg_eq | exact xn_eq (by first | rfl | omega) | refine xg_ne (by first | assumption | omega | (simp only [xput, xnew]; omega)) ?_ | refine xn_ne (by first | assumption | omega | (simp only [xput, xnew]; omega)) ?_ | exact rfl) hE.i (vp_in_nI (by omega) (by omega)) ?_
              rw [nI_clamp (n := s.2.1) (by omega)]
              refine wp_iload_n d_MA_walk_97 rfl rfl ?_
              refine wp_callV2 xc_MA_37 d_MA_walk_98 (Nat.le_of_ble_eq_true rfl) (by repeat first | assumption | exact xg_eq | exact xn_eq (by first | rfl | omega) | refine xg_ne (by first | assumption | omega | (simp only [xput, xnew]; omega)) ?_ | refine xn_ne (by first | assumption | omega | (simp only [xput, xnew]; omega)) ?_ | exact rfl) (c_MA_leadsOnFrom hE m3 c2 _) (by omega) (fun r hh hp => ?_)
              obtain ⟨rfl, hz0⟩ := hp; have hz0 := hz0.symm; subst hz0
              refine wp_if_ne (tgt := 108) d_MA_walk_101 (by decide) (fun hc4 => ?_) (fun hc4 => ?_)
              · rw [bI_0] at hc4
                refine wp_iconst (v := 0) d_MA_walk_108 (by rfl) ?_
                exact go false (by rw [decide_eq_false (fun z => hc4 z.2)])
              · rw [bI_0] at hc4
                refine wp_iconst (v := 1) d_MA_walk_104 (by rfl) ?_
                refine wp_goto (tgt := 109) d_MA_walk_105 (by decide) ?_
                exact go true (by rw [decide_eq_true ⟨e5, hc4⟩])
          refine wp_icmp_ne (tgt := 59) d_MA_walk_50 (by decide) (fun hc3 => ?_) (fun hc3 => ?_)
          · have e1' : ¬ q.2.1 s.2.1 = 1 := fun z => hc3 (by rw [z]; rfl)
            refine wp_iload d_MA_walk_59 rfl ?_
            refine wp_iconst (v := 4) d_MA_walk_61 (by rfl) ?_
            refine wp_icmp_ne (tgt := 80) d_MA_walk_62 (by decide) (fun hc4 => ?_) (fun hc4 => ?_)
            · have e4 : ¬ q.2.1 s.2.1 = 4 := fun z => hc4 (by rw [z]; rfl)
              exact nx h2 s.1 s.2.2 (by rw [if_neg e1']) (by rw [if_neg e4]) f2 b2
            · have e4 : q.2.1 s.2.1 = 4 := (nI_eq (b := 4) (by omega) (by decide)).mp hc4
              refine wp_aload_n d_MA_walk_65 rfl rfl ?_
              refine wp_aload_n d_MA_walk_66 rfl rfl ?_
              refine wp_get xf_MA_12 d_MA_walk_67 (by repeat first | assumption | exact xg_eq | exact xn_eq (by first | rfl | omega) | refine xg_ne (by first | assumption | omega | (simp only [xput, xnew]; omega)) ?_ | refine xn_ne (by first | assumption | omega | (simp only [xput, xnew]; omega)) ?_ | exact rfl) (by rfl) ?_
              refine wp_get xf_MA_92 d_MA_walk_70 (by repeat first | assumption | exact xg_eq | exact xn_eq (by first | rfl | omega) | refine xg_ne (by first | assumption | omega | (simp only [xput, xnew]; omega)) ?_ | refine xn_ne (by first | assumption | omega | (simp only [xput, xnew]; omega)) ?_ | exact rfl) (by rfl) ?_
              refine wp_iload d_MA_walk_73 rfl ?_
              refine wp_iald d_MA_walk_75 (by repeat first | assumption | exact xg_eq | exact xn_eq (by first | rfl | omega) | refine xg_ne (by first | assumption | omega | (simp only [xput, xnew]; omega)) ?_ | refine xn_ne (by first | assumption | omega | (simp only [xput, xnew]; omega)) ?_ | exact rfl) hE.i (vp_in_nI (by omega) (by omega)) ?_
              rw [nI_clamp (n := s.2.1) (by omega)]
              refine wp_iload_n d_MA_walk_76 rfl rfl ?_
              refine wp_callV2 xc_MA_95 d_MA_walk_77 (Nat.le_of_ble_eq_true rfl) (by repeat first | assumption | exact xg_eq | exact xn_eq (by first | rfl | omega) | refine xg_ne (by first | assumption | omega | (simp only [xput, xnew]; omega)) ?_ | refine xn_ne (by first | assumption | omega | (simp only [xput, xnew]; omega)) ?_ | exact rfl) (c_BO_mark hE b2 _ _) (by omega) (fun r hh hp => ?_)
              obtain ⟨rfl, rfl⟩ := hp
              exact nx _ s.1 _ (by rw [if_neg e1']) (by rw [if_pos e4]) (f2.put (by simp)) ⟨xg_ne b22 e1, xg_eq, b22⟩
          · have e1' : q.2.1 s.2.1 = 1 := (nI_eq (b := 1) (by omega) (by decide)).mp hc3
            refine wp_iinc d_MA_walk_53 rfl rfl (by decide) rfl ?_
            refine wp_goto (tgt := 80) d_MA_walk_56 (by decide) ?_
            rw [show nI s.1 + Int32.ofInt 1 = nI (s.1 + 1) from (nI_succ s.1).symm]
            exact nx h2 (s.1 + 1) s.2.2 (by rw [if_pos e1']) (by rw [if_neg (by omega)]) f2 b2
  obtain ⟨k1, k2, k3, k4, k5⟩ := id hm
  have w2 := k2.1
  refine wpc_of rfl (Nat.le_of_ble_eq_true rfl) ?_
  refine wp_iload_n d_MA_walk_0 rfl rfl ?_
  refine wp_istore_n d_MA_walk_1 rfl (by decide) rfl ?_
  refine wp_aload_n d_MA_walk_2 rfl rfl ?_
  refine wp_get xf_MA_12 d_MA_walk_3 (by repeat first | assumption | exact xg_eq | exact xn_eq (by first | rfl | omega) | refine xg_ne (by first | assumption | omega | (simp only [xput, xnew]; omega)) ?_ | refine xn_ne (by first | assumption | omega | (simp only [xput, xnew]; omega)) ?_ | exact rfl) (by rfl) ?_
  refine wp_get xf_MA_33 d_MA_walk_6 (by repeat first | assumption | exact xg_eq | exact xn_eq (by first | rfl | omega) | refine xg_ne (by first | assumption | omega | (simp only [xput, xnew]; omega)) ?_ | refine xn_ne (by first | assumption | omega | (simp only [xput, xnew]; omega)) ?_ | exact rfl) (by rfl) ?_
  refine wp_istore d_MA_walk_9 (by decide) rfl ?_
  refine wp_iconst (v := 0) d_MA_walk_11 (by rfl) ?_
  refine wp_istore d_MA_walk_12 (by decide) rfl ?_
  exact lp 3751 h (b, fi, f) [] (Nat.le_refl _) rfl k5 xfr.rf hb
end MC
