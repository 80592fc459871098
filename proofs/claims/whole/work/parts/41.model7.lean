def fkE (sp : Bool) (sk : Nat) : Ins := if sp then (6, nI sk, 1) else (6, 1, nI sk)
def tmA (s n : Nat) : Nat → Cd → Cd
  | 0, l => l
  | k + 1, l => tmA s n k (cpF s n l)
def tmB (fr n : Nat) (sp : Bool) : Nat → Cd → Cd
  | 0, l => l
  | r + 1, l => tmB fr n sp r (cpF fr n (l ++ [fkE sp ((r + 1) * (n + 1))]))
def tmW (s m n : Nat) (sp : Bool) (l : Cd) : Cd := if m = 0 then tmB (s + 1) (l.length - s) sp (n - 1) (cInsert s (fkE sp (n * (l.length - s + 1))) l) else tmB s (l.length - s) sp (n - m) (tmA s (l.length - s) (m - 1) l)
theorem cpF_len {f n : Nat} {l : Cd} (h : f + n ≤ l.length) : (cpF f n l).length = l.length + n := by
  rw [cpF, List.length_append, List.length_take, List.length_drop, Nat.min_eq_left (by omega)]
theorem tmA_len {s n : Nat} : ∀ {k : Nat} {l : Cd}, s + n ≤ l.length → (tmA s n k l).length = l.length + k * n
  | 0, l, _ => by rw [tmA]; omega
  | k + 1, l, h => by
    have h2 := cpF_len h
    rw [tmA, tmA_len (by omega), h2, Nat.succ_mul]
    omega
section M7
variable {E : xE} {h : xH} {A : MA3} {B : MB} {w : WS} {D : MD}
abbrev tL (E : xE) (s m n : Nat) (sp : Bool) (L fr ex k : Nat) : List (Nat × Value) := [(0, .ref (xb E + 21)), (1, .int (nI s)), (2, .int (nI m)), (3, .int (nI n)), (4, .int (bI sp)), (5, .int (nI L)), (6, .int (nI fr)), (7, .int (nI ex)), (8, .int (nI k))]
theorem tm_ab {g : xH} {Post : Option Value → xH → Prop} {s m n L fr ex k r : Nat} {sp : Bool} (hk : k + r = ex) (k2 : wp E 2 m_MO_times 86 (tL E s m n sp L fr ex k ++ [(9, .int (nI (r * (L + 1)))), (10, .int (fkE sp (r * (L + 1))).2.1), (11, .int (fkE sp (r * (L + 1))).2.2)]) [] g Post) (h0 : 0 < r) (lo : List (Nat × Value)) (hlo : lo = tL E s m n sp L fr ex k) (h1 : ex < 1000) : wp E 2 m_MO_times 41 lo [] g Post := by
  subst hlo
  refine wp_iload d_MO_times_41 rfl ?_
  refine wp_iload d_MO_times_43 rfl ?_
  refine wp_icmp_ge (tgt := 136) d_MO_times_45 (by decide) (fun hc => ?_) (fun hc => ?_)
  · exact absurd ((nI_leI (by omega) (by omega)).mp hc) (by omega)
  clear hc
  refine wp_iload d_MO_times_48 rfl ?_
  refine wp_iload d_MO_times_50 rfl ?_
  refine wp_isub d_MO_times_52 ?_
  refine wp_iload d_MO_times_53 rfl ?_
  refine wp_iconst (v := 1) d_MO_times_55 (by rfl) ?_
  refine wp_iadd d_MO_times_56 ?_
  refine wp_imul d_MO_times_57 ?_
  rw [pk_sub (a := ex) (b := k) (by omega), show nI L + 1 = nI (L + 1) from (nI_succ L).symm, pk_mul, show (ex - k) = r by omega]
  refine wp_istore d_MO_times_58 (by decide) rfl ?_
  refine wp_iload d_MO_times_60 rfl ?_
  cases sp with
  | true =>
    refine wp_if_eq (tgt := 70) d_MO_times_62 (by decide) (fun hc => ?_) (fun hc => ?_)
    · exact absurd hc (by decide)
    refine wp_iload d_MO_times_65 rfl ?_
    refine wp_goto (tgt := 71) d_MO_times_67 (by decide) ?_
    refine wp_istore d_MO_times_71 (by decide) rfl ?_
    refine wp_iload d_MO_times_73 rfl ?_
    refine wp_if_eq (tgt := 82) d_MO_times_75 (by decide) (fun hc2 => ?_) (fun hc2 => ?_)
    · exact absurd hc2 (by decide)
    refine wp_iconst (v := 1) d_MO_times_78 (by rfl) ?_
    refine wp_goto (tgt := 84) d_MO_times_79 (by decide) ?_
    refine wp_istore d_MO_times_84 (by decide) rfl ?_
    exact k2
  | false =>
    refine wp_if_eq (tgt := 70) d_MO_times_62 (by decide) (fun hc => ?_) (fun hc => ?_)
    rotate_left
    · exact absurd rfl hc
    refine wp_iconst (v := 1) d_MO_times_70 (by rfl) ?_
    refine wp_istore d_MO_times_71 (by decide) rfl ?_
    refine wp_iload d_MO_times_73 rfl ?_
    refine wp_if_eq (tgt := 82) d_MO_times_75 (by decide) (fun hc2 => ?_) (fun hc2 => ?_)
    rotate_left
    · exact absurd rfl hc2
    refine wp_iload d_MO_times_82 rfl ?_
    refine wp_istore d_MO_times_84 (by decide) rfl ?_
    exact k2
theorem fkE_6 (sp : Bool) (sk : Nat) : (6, (fkE sp sk).2.1, (fkE sp sk).2.2) = fkE sp sk := by cases sp <;> rfl
theorem c_MO_times (hE : xOK E) (hm : MoW E h A B w D) {s m n : Nat} {sp : Bool} (hs : s ≤ w.1.length) (hmn : m ≤ n) (hn : n ≤ 6) (h1 : 1 ≤ n) (hl : s + n * (w.1.length - s) + (n - m) ≤ 130) :
    wpc E 2 m_MO_times [.ref (xb E + 21), .int (nI s), .int (nI m), .int (nI n), .int (bI sp)] h (fun r' h' => r' = none ∧ mfr E h h' ∧ MoW E h' A B (tmW s m n sp w.1, w.2) D) := by
  generalize hL : w.1.length - s = L at *
  have hw0 : w.1.length = s + L := by omega
  have hL2 : L ≤ 130 := by
    have : 1 * L ≤ n * L := Nat.mul_le_mul_right _ h1
    omega
  have lp2 : ∀ (r k fr : Nat) (l : Cd) (g : xH), k + r = n - m → (¬ m = 0 ∨ ¬ k = 0) → fr + L ≤ l.length → l.length + r * (L + 1) ≤ 130 → mfr E h g → MoW E g A B (l, w.2) D → tmB fr L sp r l = tmW s m n sp w.1 → wp E 2 m_MO_times 41 (tL E s m n sp L fr (n - m) k) [] g (fun r' h' => r' = none ∧ mfr E h h' ∧ MoW E h' A B (tmW s m n sp w.1, w.2) D) := by
    intro r
    induction r with
    | zero =>
      intro k fr l g hk _ _ _ fg mg ht
      refine wp_iload d_MO_times_41 rfl ?_
      refine wp_iload d_MO_times_43 rfl ?_
      refine wp_icmp_ge (tgt := 136) d_MO_times_45 (by decide) (fun hc => ?_) (fun hc => ?_)
      · refine wp_return d_MO_times_136 rfl ?_
        rw [← ht]
        exact ⟨rfl, fg, mg⟩
      · exact absurd ((nI_leI (by omega) (by omega)).mpr (by omega)) hc
    | succ r ih =>
      intro k fr l g hk h0 hfr hb fg mg ht
      rw [Nat.succ_mul] at hb
      refine tm_ab (r := r + 1) hk ?_ (by omega) _ rfl (by omega)
      have hgo : wp E 2 m_MO_times 112 (tL E s m n sp L fr (n - m) k ++ [(9, .int (nI ((r + 1) * (L + 1)))), (10, .int (fkE sp ((r + 1) * (L + 1))).2.1), (11, .int (fkE sp ((r + 1) * (L + 1))).2.2)]) [] g (fun r' h' => r' = none ∧ mfr E h h' ∧ MoW E h' A B (tmW s m n sp w.1, w.2) D) := by
        have og := mg.obj
        refine wp_aload_n d_MO_times_112 rfl rfl ?_
        refine wp_bipush (v := 6) d_MO_times_113 (by rfl) ?_
        refine wp_iload d_MO_times_115 rfl ?_
        refine wp_iload d_MO_times_117 rfl ?_
        refine wp_callV3 xc_MO_129 d_MO_times_119 (Nat.le_of_ble_eq_true rfl) (by repeat first | exact xg_eq | exact xn_eq (by first | rfl | omega) | refine xg_ne (by first | omega | assumption | (simp only [xput, xnew]; omega)) ?_ | refine xn_ne (by first | omega | assumption | (simp only [xput, xnew]; omega)) ?_ | assumption | exact rfl) (c_MO_add hE mg (by show l.length < 130; omega) 6 (fkE sp ((r + 1) * (L + 1))).2.1 (fkE sp ((r + 1) * (L + 1))).2.2) (by omega) (fun r g2 hp => ?_)
        obtain ⟨rfl, f2, m2⟩ := hp
        rw [fkE_6] at m2
        have l2 : (l ++ [fkE sp ((r + 1) * (L + 1))]).length = l.length + 1 := by rw [List.length_append, List.length_singleton]
        have o2 := m2.obj
        refine wp_aload_n d_MO_times_122 rfl rfl ?_
        refine wp_iload d_MO_times_123 rfl ?_
        refine wp_iload d_MO_times_125 rfl ?_
        refine wp_callV2 xc_MO_139 d_MO_times_127 (Nat.le_of_ble_eq_true rfl) (by repeat first | exact xg_eq | exact xn_eq (by first | rfl | omega) | refine xg_ne (by first | omega | assumption | (simp only [xput, xnew]; omega)) ?_ | refine xn_ne (by first | omega | assumption | (simp only [xput, xnew]; omega)) ?_ | assumption | exact rfl) (c_MO_copy hE m2 (f := fr) (n := L) (by show fr + L ≤ (l ++ [fkE sp ((r + 1) * (L + 1))]).length; omega) (by show (l ++ [fkE sp ((r + 1) * (L + 1))]).length + L ≤ 130; omega)) (by omega) (fun r g3 hp => ?_)
        obtain ⟨rfl, f3, m3⟩ := hp
        have l3 : (cpF fr L (l ++ [fkE sp ((r + 1) * (L + 1))])).length = l.length + 1 + L := by rw [cpF_len (by omega), l2]
        refine wp_iinc d_MO_times_130 rfl rfl (by decide) rfl ?_
        refine wp_goto (tgt := 41) d_MO_times_133 (by decide) ?_
        refine wp_leq (lo' := tL E s m n sp L fr (n - m) (k + 1) ++ [(9, .int (nI ((r + 1) * (L + 1)))), (10, .int (fkE sp ((r + 1) * (L + 1))).2.1), (11, .int (fkE sp ((r + 1) * (L + 1))).2.2)]) (by rw [show nI k + Int32.ofInt 1 = nI (k + 1) from (nI_succ k).symm]; rfl) ?_
        refine wp_lo (fun z hz => List.mem_append_left _ hz) ?_
        exact ih (k + 1) fr _ g3 (by omega) (Or.inr (by omega)) (by rw [l3]; omega) (by rw [l3]; omega) ((fg.tr f2).tr f3) m3 ht
      refine wp_iload_n d_MO_times_86 rfl rfl ?_
      refine wp_if_ne (tgt := 112) d_MO_times_87 (by decide) (fun hc => ?_) (fun hc => ?_)
      · exact hgo
      · have hm0 : m = 0 := (nI_eq (b := 0) (by omega) (by omega)).mp hc
        refine wp_iload d_MO_times_90 rfl ?_
        refine wp_if_ne (tgt := 112) d_MO_times_92 (by decide) (fun hc2 => ?_) (fun hc2 => ?_)
        · exact hgo
        · have hk0 : k = 0 := (nI_eq (b := 0) (by omega) (by omega)).mp hc2
          rcases h0 with z | z
          · exact absurd hm0 z
          · exact absurd hk0 z
  have lp1 : ∀ (q k : Nat) (l : Cd) (g : xH), 1 ≤ k → k ≤ 10 → q = m - k → s + L ≤ l.length → l.length + q * L + (n - m) * (L + 1) ≤ 130 → 0 < m → mfr E h g → MoW E g A B (l, w.2) D → tmB s L sp (n - m) (tmA s L q l) = tmW s m n sp w.1 → wp E 2 m_MO_times 19 (tL E s m n sp L s (n - m) k) [] g (fun r' h' => r' = none ∧ mfr E h h' ∧ MoW E h' A B (tmW s m n sp w.1, w.2) D) := by
    intro q
    induction q with
    | zero =>
      intro k l g hk _ hq hll hb hm0 fg mg ht
      refine wp_iload d_MO_times_19 rfl ?_
      refine wp_iload_n d_MO_times_21 rfl rfl ?_
      refine wp_icmp_ge (tgt := 38) d_MO_times_22 (by decide) (fun hc => ?_) (fun hc => ?_)
      · refine wp_iconst (v := 0) d_MO_times_38 (by rfl) ?_
        refine wp_istore d_MO_times_39 (by decide) rfl ?_
        exact lp2 (n - m) 0 s l g (by omega) (Or.inl (by omega)) hll (by omega) fg mg ht
      · exact absurd ((nI_leI (by omega) (by omega)).mpr (by omega)) hc
    | succ q ih =>
      intro k l g hk hk10 hq hll hb hm0 fg mg ht
      rw [Nat.succ_mul] at hb
      have og := mg.obj
      have l2 := cpF_len hll
      refine wp_iload d_MO_times_19 rfl ?_
      refine wp_iload_n d_MO_times_21 rfl rfl ?_
      refine wp_icmp_ge (tgt := 38) d_MO_times_22 (by decide) (fun hc => ?_) (fun hc => ?_)
      · exact absurd ((nI_leI (by omega) (by omega)).mp hc) (by omega)
      refine wp_aload_n d_MO_times_25 rfl rfl ?_
      refine wp_iload_n d_MO_times_26 rfl rfl ?_
      refine wp_iload d_MO_times_27 rfl ?_
      refine wp_callV2 xc_MO_139 d_MO_times_29 (Nat.le_of_ble_eq_true rfl) (by repeat first | exact xg_eq | exact xn_eq (by first | rfl | omega) | refine xg_ne (by first | omega | assumption | (simp only [xput, xnew]; omega)) ?_ | refine xn_ne (by first | omega | assumption | (simp only [xput, xnew]; omega)) ?_ | assumption | exact rfl) (c_MO_copy hE mg (f := s) (n := L) hll (by show l.length + L ≤ 130; omega)) (by omega) (fun r g2 hp => ?_)
      obtain ⟨rfl, f2, m2⟩ := hp
      refine wp_iinc d_MO_times_32 rfl rfl (by decide) rfl ?_
      refine wp_goto (tgt := 19) d_MO_times_35 (by decide) ?_
      rw [show nI k + Int32.ofInt 1 = nI (k + 1) from (nI_succ k).symm]
      exact ih (k + 1) (cpF s L l) g2 (by omega) (by omega) (by omega) (by omega) (by omega) hm0 (fg.tr f2) m2 ht
  have ho := hm.obj
  refine wpc_of rfl (Nat.le_of_ble_eq_true rfl) ?_
  refine wp_aload_n d_MO_times_0 rfl rfl ?_
  refine wp_get xf_MO_126 d_MO_times_1 (by repeat first | exact xg_eq | exact xn_eq (by first | rfl | omega) | refine xg_ne (by first | omega | assumption | (simp only [xput, xnew]; omega)) ?_ | refine xn_ne (by first | omega | assumption | (simp only [xput, xnew]; omega)) ?_ | assumption | exact rfl) (by rfl) ?_
  refine wp_iload_n d_MO_times_4 rfl rfl ?_
  refine wp_isub d_MO_times_5 ?_
  refine wp_istore d_MO_times_6 (by decide) rfl ?_
  refine wp_iload_n d_MO_times_8 rfl rfl ?_
  refine wp_istore d_MO_times_9 (by decide) rfl ?_
  refine wp_iload_n d_MO_times_11 rfl rfl ?_
  refine wp_iload_n d_MO_times_12 rfl rfl ?_
  refine wp_isub d_MO_times_13 ?_
  refine wp_istore d_MO_times_14 (by decide) rfl ?_
  refine wp_iconst (v := 1) d_MO_times_16 (by rfl) ?_
  refine wp_istore d_MO_times_17 (by decide) rfl ?_
  rw [show nI w.1.length - nI s = nI L from by rw [pk_sub hs, hL], pk_sub hmn]
  by_cases hm0 : m = 0
  · subst hm0
    refine wp_iload d_MO_times_19 rfl ?_
    refine wp_iload_n d_MO_times_21 rfl rfl ?_
    refine wp_icmp_ge (tgt := 38) d_MO_times_22 (by decide) (fun hc => ?_) (fun hc => ?_)
    rotate_left
    · exact absurd (show nI 0 ≤ (1 : Int32) by decide) hc
    refine wp_iconst (v := 0) d_MO_times_38 (by rfl) ?_
    refine wp_istore d_MO_times_39 (by decide) rfl ?_
    obtain ⟨r, rfl⟩ : ∃ r, n = r + 1 := ⟨n - 1, by omega⟩
    have ht : tmW s 0 (r + 1) sp w.1 = tmB (s + 1) L sp r (cInsert s (fkE sp ((r + 1) * (L + 1))) w.1) := by rw [tmW, if_pos rfl, hL]; rfl
    refine tm_ab (r := r + 1) (m := 0) (s := s) (n := r + 1) (sp := sp) (L := L) (fr := s) (ex := r + 1) (k := 0) (by omega) ?_ (by omega) _ rfl (by omega)
    refine wp_iload_n d_MO_times_86 rfl rfl ?_
    refine wp_if_ne (tgt := 112) d_MO_times_87 (by decide) (fun hc3 => ?_) (fun hc3 => ?_)
    · exact absurd rfl hc3
    refine wp_iload d_MO_times_90 rfl ?_
    refine wp_if_ne (tgt := 112) d_MO_times_92 (by decide) (fun hc4 => ?_) (fun hc4 => ?_)
    · exact absurd rfl hc4
    refine wp_aload_n d_MO_times_95 rfl rfl ?_
    refine wp_iload_n d_MO_times_96 rfl rfl ?_
    refine wp_iload d_MO_times_97 rfl ?_
    refine wp_iload d_MO_times_99 rfl ?_
    rw [Nat.succ_mul] at hl
    have hl' : s + r * L + L + (r + 1) ≤ 130 := by omega
    have e9 : r * (L + 1) = r * L + r := Nat.mul_succ r L
    have e8 := cInsert_len (x := fkE sp ((r + 1) * (L + 1))) hs
    refine wp_callV3 xc_MO_136 d_MO_times_101 (Nat.le_of_ble_eq_true rfl) (by repeat first | exact xg_eq | exact xn_eq (by first | rfl | omega) | refine xg_ne (by first | omega | assumption | (simp only [xput, xnew]; omega)) ?_ | refine xn_ne (by first | omega | assumption | (simp only [xput, xnew]; omega)) ?_ | assumption | exact rfl) (c_MO_insert hE hm (by omega) (p := s) hs _ _) (by omega) (fun r g2 hp => ?_)
    obtain ⟨rfl, f2, m2⟩ := hp
    rw [fkE_6] at m2
    refine wp_iload_n d_MO_times_104 rfl rfl ?_
    refine wp_iconst (v := 1) d_MO_times_105 (by rfl) ?_
    refine wp_iadd d_MO_times_106 ?_
    refine wp_istore d_MO_times_107 (by decide) rfl ?_
    refine wp_goto (tgt := 130) d_MO_times_109 (by decide) ?_
    refine wp_iinc d_MO_times_130 rfl rfl (by decide) rfl ?_
    refine wp_goto (tgt := 41) d_MO_times_133 (by decide) ?_
    refine wp_leq (lo' := tL E s 0 (r + 1) sp L (s + 1) (r + 1 - 0) 1 ++ [(9, .int (nI ((r + 1) * (L + 1)))), (10, .int (fkE sp ((r + 1) * (L + 1))).2.1), (11, .int (fkE sp ((r + 1) * (L + 1))).2.2)]) (by rw [show nI s + 1 = nI (s + 1) from (nI_succ s).symm]; rfl) ?_
    refine wp_lo (fun z hz => List.mem_append_left _ hz) ?_
    exact lp2 r 1 (s + 1) _ g2 (by omega) (Or.inr (by omega)) (by omega) (by omega) f2 m2 ht.symm
  · have ht : tmB s L sp (n - m) (tmA s L (m - 1) w.1) = tmW s m n sp w.1 := by rw [tmW, if_neg hm0, hL]
    have e9 : (n - m) * (L + 1) = (n - m) * L + (n - m) := Nat.mul_succ _ _
    have e8 : n * L = (m - 1) * L + (n - m) * L + L := by
      rw [← Nat.add_mul, ← Nat.succ_mul]
      congr 1
      omega
    exact lp1 (m - 1) 1 w.1 h (by omega) (by omega) rfl (by omega) (by omega) (by omega) mfr.rf hm ht
end M7
