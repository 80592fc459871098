def wRp (P : List Int32) (i s q0 : Nat) (l : Cd) : Cd :=
  if pat P i = 63 then cInsert s (fkE (decide (pat P q0 = 63)) (l.length - s + 1)) l
  else if pat P i = 42 then cInsert s (fkE (decide (pat P q0 = 63)) (l.length - s + 2)) l ++ [(7, -nI (l.length - s) - 1, 0)]
  else if pat P i = 43 then l ++ [if pat P q0 = 63 then (6, 1, -nI (l.length - s)) else (6, -nI (l.length - s), 1)]
  else tmW s (pat P (i + 1) - 48).toNatClampNeg (pat P (q0 - 2) - 48).toNatClampNeg (decide (pat P q0 = 63)) l
theorem mBr_ok {P : List Int32} {i : Nat} {q : Nat × Nat × Nat × Bool} (h : mBr P i = .inr q) : (∃ m n : Nat, m ≤ n ∧ 1 ≤ n ∧ n ≤ 6 ∧ pat P (i + 1) - 48 = nI m ∧ pat P (q.1 - 2) - 48 = nI n ∧ q.2.1 = n ∧ q.2.2.1 = 2 * (n - m) ∧ q.2.2.2 = decide (m = 0)) ∧ i + 3 ≤ q.1 ∧ q.1 ≤ i + 5 ∧ pat P (q.1 - 1) = 125 ∧ (∀ j, i < j → j + 1 < q.1 → pat P j ≠ 125) := by
  rw [mBr] at h
  split at h
  · cases h
  rename_i h1
  have h1a : ¬ pat P (i + 1) < 48 := fun z => h1 (Or.inr (Or.inl z))
  have h1b : pat P (i + 1) ≤ 54 := Int32.not_lt.mp (fun z => h1 (Or.inr (Or.inr z)))
  have h1c : pat P (i + 1) ≠ 125 := fun z => by rw [z] at h1b; exact absurd h1b (by decide)
  obtain ⟨m, hm6, em⟩ := dg_of h1a h1b
  rw [em, nI_clamp (by omega)] at h
  split at h
  · rename_i h2
    injection h with h
    subst h
    refine ⟨⟨m, m, Nat.le_refl _, h2.2, hm6, em, em, rfl, by rw [Nat.sub_self], (decide_eq_false (by omega)).symm⟩, Nat.le_refl _, by show i + 3 ≤ i + 5; omega, h2.1, ?_⟩
    intro j j1 j2
    have : j = i + 1 := by
      have j2 : j + 1 < i + 3 := j2
      omega
    rw [this]
    exact h1c
  · split at h
    · rename_i h2 h3
      split at h
      · cases h
      · rename_i h4
        split at h
        · rename_i h5
          have h4a : ¬ pat P (i + 3) - 48 < 1 := fun z => h4 (Or.inr (Or.inl z))
          have h4b : pat P (i + 3) - 48 ≤ 6 := Int32.not_lt.mp (fun z => h4 (Or.inr (Or.inr (Or.inl z))))
          have h4c : nI m ≤ pat P (i + 3) - 48 := Int32.not_lt.mp (fun z => h4 (Or.inr (Or.inr (Or.inr z))))
          obtain ⟨n, hn6, en⟩ := nI_of2 (x := pat P (i + 3) - 48) (M := 6) (n := 6) rfl (fun z => h4a (Int32.lt_trans z (by decide))) h4b
          rw [en, nI_clamp (by omega)] at h
          injection h with h
          subst h
          have hn1 : 1 ≤ n := Nat.pos_of_ne_zero (fun z => h4a (by rw [en, z]; decide))
          refine ⟨⟨m, n, (nI_leI (by omega) (by omega)).mp (by rw [← en]; exact h4c), hn1, hn6, em, en, rfl, rfl, rfl⟩, by show i + 3 ≤ i + 5; omega, Nat.le_refl _, h5, ?_⟩
          intro j j1 j2
          have j2 : j + 1 < i + 5 := j2
          have : j = i + 1 ∨ j = i + 2 ∨ j = i + 3 := by omega
          rcases this with rfl | rfl | rfl
          · exact h1c
          · rw [h3]; decide
          · intro z
            rw [z] at h4b
            exact absurd h4b (by decide)
        · cases h
    · cases h
section M8
variable {E : xE} {h : xH} {A : MA3} {B : MB} {w : WS} {D : MD}
theorem MoW.at (hE : xOK E) (hm : MoW E h A B w D) {i : Nat} (hi : i < 100000) : wpc E 0 m_MO_at [.ref (xb E + 21), .int (nI i)] h (fun r' h' => r' = some (.int (pat A.1 i)) ∧ h' = h) := by
  obtain ⟨s, o, t, -, -, m⟩ := hm
  exact c_MO_at hE m hi
abbrev rL (E : xE) (i s : Nat) (c : Int32) (q0 : Nat) (sp : Bool) (n : Nat) : List (Nat × Value) := [(0, .ref (xb E + 21)), (1, .int (nI i)), (2, .int (nI s)), (3, .int c), (4, .int (nI q0)), (5, .int (bI sp)), (6, .int (nI n))]
variable {g : xH} {Post : Option Value → xH → Prop} {i s q0 n : Nat} {sp : Bool} {c : Int32}
theorem wr_63 (hE : xOK E) (mg : MoW E g A B w D) (hl : w.1.length < 130) (hs : s ≤ w.1.length) (hn : n = w.1.length - s) (hc0 : c = 63) (k : ∀ g', mfr E g g' → MoW E g' A B (cInsert s (fkE sp (n + 1)) w.1, w.2) D → wp E 3 m_MO_writeRepetition 99 (rL E i s c q0 sp n) [] g' Post) : wp E 3 m_MO_writeRepetition 62 (rL E i s c q0 sp n) [] g Post := by
  have og := mg.obj
  have e1 : nI n + 1 = nI (n + 1) := (nI_succ n).symm
  refine wp_iload_n d_MO_writeRepetition_62 rfl rfl ?_
  refine wp_bipush (v := 63) d_MO_writeRepetition_63 (by rfl) ?_
  refine wp_icmp_ne (tgt := 99) d_MO_writeRepetition_65 (by decide) (fun hc => ?_) (fun hc => ?_)
  · exact absurd hc0 hc
  cases sp with
  | true =>
    refine wp_aload_n d_MO_writeRepetition_68 rfl rfl ?_
    refine wp_iload_n d_MO_writeRepetition_69 rfl rfl ?_
    refine wp_iload d_MO_writeRepetition_70 rfl ?_
    refine wp_if_eq (tgt := 82) d_MO_writeRepetition_72 (by decide) (fun hc2 => ?_) (fun hc2 => ?_)
    · exact absurd hc2 (by decide)
    refine wp_iload d_MO_writeRepetition_75 rfl ?_
    refine wp_iconst (v := 1) d_MO_writeRepetition_77 (by rfl) ?_
    refine wp_iadd d_MO_writeRepetition_78 ?_
    refine wp_goto (tgt := 83) d_MO_writeRepetition_79 (by decide) ?_
    refine wp_iload d_MO_writeRepetition_83 rfl ?_
    refine wp_if_eq (tgt := 92) d_MO_writeRepetition_85 (by decide) (fun hc3 => ?_) (fun hc3 => ?_)
    · exact absurd hc3 (by decide)
    refine wp_iconst (v := 1) d_MO_writeRepetition_88 (by rfl) ?_
    refine wp_goto (tgt := 96) d_MO_writeRepetition_89 (by decide) ?_
    rw [e1]
    refine wp_callV3 xc_MO_136 d_MO_writeRepetition_96 (Nat.le_of_ble_eq_true rfl) (by repeat first | exact xg_eq | exact xn_eq (by first | rfl | omega) | refine xg_ne (by first | omega | assumption | (simp only [xput, xnew]; omega)) ?_ | refine xn_ne (by first | omega | assumption | (simp only [xput, xnew]; omega)) ?_ | assumption | exact rfl) (c_MO_insert hE mg hl hs _ _) (by omega) (fun r g2 hp => ?_)
    obtain ⟨rfl, f2, m2⟩ := hp
    exact k g2 f2 m2
  | false =>
    refine wp_aload_n d_MO_writeRepetition_68 rfl rfl ?_
    refine wp_iload_n d_MO_writeRepetition_69 rfl rfl ?_
    refine wp_iload d_MO_writeRepetition_70 rfl ?_
    refine wp_if_eq (tgt := 82) d_MO_writeRepetition_72 (by decide) (fun hc2 => ?_) (fun hc2 => ?_)
    rotate_left
    · exact absurd rfl hc2
    refine wp_iconst (v := 1) d_MO_writeRepetition_82 (by rfl) ?_
    refine wp_iload d_MO_writeRepetition_83 rfl ?_
    refine wp_if_eq (tgt := 92) d_MO_writeRepetition_85 (by decide) (fun hc3 => ?_) (fun hc3 => ?_)
    rotate_left
    · exact absurd rfl hc3
    refine wp_iload d_MO_writeRepetition_92 rfl ?_
    refine wp_iconst (v := 1) d_MO_writeRepetition_94 (by rfl) ?_
    refine wp_iadd d_MO_writeRepetition_95 ?_
    rw [e1]
    refine wp_callV3 xc_MO_136 d_MO_writeRepetition_96 (Nat.le_of_ble_eq_true rfl) (by repeat first | exact xg_eq | exact xn_eq (by first | rfl | omega) | refine xg_ne (by first | omega | assumption | (simp only [xput, xnew]; omega)) ?_ | refine xn_ne (by first | omega | assumption | (simp only [xput, xnew]; omega)) ?_ | assumption | exact rfl) (c_MO_insert hE mg hl hs _ _) (by omega) (fun r g2 hp => ?_)
    obtain ⟨rfl, f2, m2⟩ := hp
    exact k g2 f2 m2
theorem wr_42 (hE : xOK E) (mg : MoW E g A B w D) (hl : w.1.length + 2 ≤ 130) (hs : s ≤ w.1.length) (hn : n = w.1.length - s) (hc0 : c = 42) (k : ∀ g', mfr E g g' → MoW E g' A B (cInsert s (fkE sp (n + 2)) w.1 ++ [(7, -nI n - 1, 0)], w.2) D → wp E 3 m_MO_writeRepetition 148 (rL E i s c q0 sp n) [] g' Post) : wp E 3 m_MO_writeRepetition 99 (rL E i s c q0 sp n) [] g Post := by
  have og := mg.obj
  have e1 : nI n + 2 = nI (n + 2) := nI_add n 2
  have fin : ∀ g2 : xH, mfr E g g2 → MoW E g2 A B (cInsert s (fkE sp (n + 2)) w.1, w.2) D → wp E 3 m_MO_writeRepetition 136 (rL E i s c q0 sp n) [] g2 Post := by
    intro g2 f2 m2
    have o2 := m2.obj
    have l2 := cInsert_len (x := fkE sp (n + 2)) hs
    refine wp_aload_n d_MO_writeRepetition_136 rfl rfl ?_
    refine wp_bipush (v := 7) d_MO_writeRepetition_137 (by rfl) ?_
    refine wp_iload d_MO_writeRepetition_139 rfl ?_
    refine wp_ineg d_MO_writeRepetition_141 ?_
    refine wp_iconst (v := 1) d_MO_writeRepetition_142 (by rfl) ?_
    refine wp_isub d_MO_writeRepetition_143 ?_
    refine wp_iconst (v := 0) d_MO_writeRepetition_144 (by rfl) ?_
    refine wp_callV3 xc_MO_129 d_MO_writeRepetition_145 (Nat.le_of_ble_eq_true rfl) (by repeat first | exact xg_eq | exact xn_eq (by first | rfl | omega) | refine xg_ne (by first | omega | assumption | (simp only [xput, xnew]; omega)) ?_ | refine xn_ne (by first | omega | assumption | (simp only [xput, xnew]; omega)) ?_ | assumption | exact rfl) (c_MO_add hE m2 (by show (cInsert s (fkE sp (n + 2)) w.1).length < 130; omega) 7 _ 0) (by omega) (fun r g3 hp => ?_)
    obtain ⟨rfl, f3, m3⟩ := hp
    exact k g3 (f2.tr f3) m3
  refine wp_iload_n d_MO_writeRepetition_99 rfl rfl ?_
  refine wp_bipush (v := 42) d_MO_writeRepetition_100 (by rfl) ?_
  refine wp_icmp_ne (tgt := 148) d_MO_writeRepetition_102 (by decide) (fun hc => ?_) (fun hc => ?_)
  · exact absurd hc0 hc
  cases sp with
  | true =>
    refine wp_aload_n d_MO_writeRepetition_105 rfl rfl ?_
    refine wp_iload_n d_MO_writeRepetition_106 rfl rfl ?_
    refine wp_iload d_MO_writeRepetition_107 rfl ?_
    refine wp_if_eq (tgt := 119) d_MO_writeRepetition_109 (by decide) (fun hc2 => ?_) (fun hc2 => ?_)
    · exact absurd hc2 (by decide)
    refine wp_iload d_MO_writeRepetition_112 rfl ?_
    refine wp_iconst (v := 2) d_MO_writeRepetition_114 (by rfl) ?_
    refine wp_iadd d_MO_writeRepetition_115 ?_
    refine wp_goto (tgt := 120) d_MO_writeRepetition_116 (by decide) ?_
    refine wp_iload d_MO_writeRepetition_120 rfl ?_
    refine wp_if_eq (tgt := 129) d_MO_writeRepetition_122 (by decide) (fun hc3 => ?_) (fun hc3 => ?_)
    · exact absurd hc3 (by decide)
    refine wp_iconst (v := 1) d_MO_writeRepetition_125 (by rfl) ?_
    refine wp_goto (tgt := 133) d_MO_writeRepetition_126 (by decide) ?_
    rw [e1]
    refine wp_callV3 xc_MO_136 d_MO_writeRepetition_133 (Nat.le_of_ble_eq_true rfl) (by repeat first | exact xg_eq | exact xn_eq (by first | rfl | omega) | refine xg_ne (by first | omega | assumption | (simp only [xput, xnew]; omega)) ?_ | refine xn_ne (by first | omega | assumption | (simp only [xput, xnew]; omega)) ?_ | assumption | exact rfl) (c_MO_insert hE mg (by omega) hs _ _) (by omega) (fun r g2 hp => ?_)
    obtain ⟨rfl, f2, m2⟩ := hp
    exact fin g2 f2 m2
  | false =>
    refine wp_aload_n d_MO_writeRepetition_105 rfl rfl ?_
    refine wp_iload_n d_MO_writeRepetition_106 rfl rfl ?_
    refine wp_iload d_MO_writeRepetition_107 rfl ?_
    refine wp_if_eq (tgt := 119) d_MO_writeRepetition_109 (by decide) (fun hc2 => ?_) (fun hc2 => ?_)
    rotate_left
    · exact absurd rfl hc2
    refine wp_iconst (v := 1) d_MO_writeRepetition_119 (by rfl) ?_
    refine wp_iload d_MO_writeRepetition_120 rfl ?_
    refine wp_if_eq (tgt := 129) d_MO_writeRepetition_122 (by decide) (fun hc3 => ?_) (fun hc3 => ?_)
    rotate_left
    · exact absurd rfl hc3
    refine wp_iload d_MO_writeRepetition_129 rfl ?_
    refine wp_iconst (v := 2) d_MO_writeRepetition_131 (by rfl) ?_
    refine wp_iadd d_MO_writeRepetition_132 ?_
    rw [e1]
    refine wp_callV3 xc_MO_136 d_MO_writeRepetition_133 (Nat.le_of_ble_eq_true rfl) (by repeat first | exact xg_eq | exact xn_eq (by first | rfl | omega) | refine xg_ne (by first | omega | assumption | (simp only [xput, xnew]; omega)) ?_ | refine xn_ne (by first | omega | assumption | (simp only [xput, xnew]; omega)) ?_ | assumption | exact rfl) (c_MO_insert hE mg (by omega) hs _ _) (by omega) (fun r g2 hp => ?_)
    obtain ⟨rfl, f2, m2⟩ := hp
    exact fin g2 f2 m2
theorem wr_43 (hE : xOK E) (mg : MoW E g A B w D) (hl : w.1.length < 130) (hc0 : c = 43) (k : ∀ g', mfr E g g' → MoW E g' A B (w.1 ++ [if sp then (6, 1, -nI n) else (6, -nI n, 1)], w.2) D → wp E 3 m_MO_writeRepetition 184 (rL E i s c q0 sp n) [] g' Post) : wp E 3 m_MO_writeRepetition 148 (rL E i s c q0 sp n) [] g Post := by
  have og := mg.obj
  refine wp_iload_n d_MO_writeRepetition_148 rfl rfl ?_
  refine wp_bipush (v := 43) d_MO_writeRepetition_149 (by rfl) ?_
  refine wp_icmp_ne (tgt := 184) d_MO_writeRepetition_151 (by decide) (fun hc => ?_) (fun hc => ?_)
  · exact absurd hc0 hc
  cases sp with
  | true =>
    refine wp_aload_n d_MO_writeRepetition_154 rfl rfl ?_
    refine wp_bipush (v := 6) d_MO_writeRepetition_155 (by rfl) ?_
    refine wp_iload d_MO_writeRepetition_157 rfl ?_
    refine wp_if_eq (tgt := 166) d_MO_writeRepetition_159 (by decide) (fun hc2 => ?_) (fun hc2 => ?_)
    · exact absurd hc2 (by decide)
    refine wp_iconst (v := 1) d_MO_writeRepetition_162 (by rfl) ?_
    refine wp_goto (tgt := 169) d_MO_writeRepetition_163 (by decide) ?_
    refine wp_iload d_MO_writeRepetition_169 rfl ?_
    refine wp_if_eq (tgt := 180) d_MO_writeRepetition_171 (by decide) (fun hc3 => ?_) (fun hc3 => ?_)
    · exact absurd hc3 (by decide)
    refine wp_iload d_MO_writeRepetition_174 rfl ?_
    refine wp_ineg d_MO_writeRepetition_176 ?_
    refine wp_goto (tgt := 181) d_MO_writeRepetition_177 (by decide) ?_
    refine wp_callV3 xc_MO_129 d_MO_writeRepetition_181 (Nat.le_of_ble_eq_true rfl) (by repeat first | exact xg_eq | exact xn_eq (by first | rfl | omega) | refine xg_ne (by first | omega | assumption | (simp only [xput, xnew]; omega)) ?_ | refine xn_ne (by first | omega | assumption | (simp only [xput, xnew]; omega)) ?_ | assumption | exact rfl) (c_MO_add hE mg hl 6 _ _) (by omega) (fun r g2 hp => ?_)
    obtain ⟨rfl, f2, m2⟩ := hp
    exact k g2 f2 m2
  | false =>
    refine wp_aload_n d_MO_writeRepetition_154 rfl rfl ?_
    refine wp_bipush (v := 6) d_MO_writeRepetition_155 (by rfl) ?_
    refine wp_iload d_MO_writeRepetition_157 rfl ?_
    refine wp_if_eq (tgt := 166) d_MO_writeRepetition_159 (by decide) (fun hc2 => ?_) (fun hc2 => ?_)
    rotate_left
    · exact absurd rfl hc2
    refine wp_iload d_MO_writeRepetition_166 rfl ?_
    refine wp_ineg d_MO_writeRepetition_168 ?_
    refine wp_iload d_MO_writeRepetition_169 rfl ?_
    refine wp_if_eq (tgt := 180) d_MO_writeRepetition_171 (by decide) (fun hc3 => ?_) (fun hc3 => ?_)
    rotate_left
    · exact absurd rfl hc3
    refine wp_iconst (v := 1) d_MO_writeRepetition_180 (by rfl) ?_
    refine wp_callV3 xc_MO_129 d_MO_writeRepetition_181 (Nat.le_of_ble_eq_true rfl) (by repeat first | exact xg_eq | exact xn_eq (by first | rfl | omega) | refine xg_ne (by first | omega | assumption | (simp only [xput, xnew]; omega)) ?_ | refine xn_ne (by first | omega | assumption | (simp only [xput, xnew]; omega)) ?_ | assumption | exact rfl) (c_MO_add hE mg hl 6 _ _) (by omega) (fun r g2 hp => ?_)
    obtain ⟨rfl, f2, m2⟩ := hp
    exact k g2 f2 m2
theorem wr_n63 (hc0 : ¬ c = 63) (k : wp E 3 m_MO_writeRepetition 99 (rL E i s c q0 sp n) [] g Post) : wp E 3 m_MO_writeRepetition 62 (rL E i s c q0 sp n) [] g Post := by
  refine wp_iload_n d_MO_writeRepetition_62 rfl rfl ?_
  refine wp_bipush (v := 63) d_MO_writeRepetition_63 (by rfl) ?_
  refine wp_icmp_ne (tgt := 99) d_MO_writeRepetition_65 (by decide) (fun hc => ?_) (fun hc => ?_)
  · exact k
  · exact absurd hc hc0
theorem wr_n42 (hc0 : ¬ c = 42) (k : wp E 3 m_MO_writeRepetition 148 (rL E i s c q0 sp n) [] g Post) : wp E 3 m_MO_writeRepetition 99 (rL E i s c q0 sp n) [] g Post := by
  refine wp_iload_n d_MO_writeRepetition_99 rfl rfl ?_
  refine wp_bipush (v := 42) d_MO_writeRepetition_100 (by rfl) ?_
  refine wp_icmp_ne (tgt := 148) d_MO_writeRepetition_102 (by decide) (fun hc => ?_) (fun hc => ?_)
  · exact k
  · exact absurd hc hc0
theorem wr_n43 (hc0 : ¬ c = 43) (k : wp E 3 m_MO_writeRepetition 184 (rL E i s c q0 sp n) [] g Post) : wp E 3 m_MO_writeRepetition 148 (rL E i s c q0 sp n) [] g Post := by
  refine wp_iload_n d_MO_writeRepetition_148 rfl rfl ?_
  refine wp_bipush (v := 43) d_MO_writeRepetition_149 (by rfl) ?_
  refine wp_icmp_ne (tgt := 184) d_MO_writeRepetition_151 (by decide) (fun hc => ?_) (fun hc => ?_)
  · exact k
  · exact absurd hc hc0
theorem wr_n123 (hc0 : ¬ c = 123) (k : wp E 3 m_MO_writeRepetition 218 (rL E i s c q0 sp n) [] g Post) : wp E 3 m_MO_writeRepetition 184 (rL E i s c q0 sp n) [] g Post := by
  refine wp_iload_n d_MO_writeRepetition_184 rfl rfl ?_
  refine wp_bipush (v := 123) d_MO_writeRepetition_185 (by rfl) ?_
  refine wp_icmp_ne (tgt := 218) d_MO_writeRepetition_187 (by decide) (fun hc => ?_) (fun hc => ?_)
  · exact k
  · exact absurd hc hc0
def wrB (P : List Int32) (i s q0 : Nat) (l : Cd) : Prop := s ≤ l.length ∧ l.length + 2 ≤ 130 ∧ (pat P i = 123 → s + (pat P (q0 - 2) - 48).toNatClampNeg * (l.length - s) + ((pat P (q0 - 2) - 48).toNatClampNeg - (pat P (i + 1) - 48).toNatClampNeg) ≤ 130)
theorem c_MO_writeRepetition (hE : xOK E) (hm : MoW E h A B w D) (hi : i ≤ 40) {q : Nat × Nat × Nat × Bool × Bool} (hq : mRq A.1 i = .inr q) (hc0 : isB (pat A.1 i) 42 43 63 123 = true) (hb : wrB A.1 i s q.1 w.1) :
    wpc E 3 m_MO_writeRepetition [.ref (xb E + 21), .int (nI i), .int (nI s)] h (fun r' h' => r' = some (.int (nI (if pat A.1 q.1 = 63 then q.1 + 1 else q.1))) ∧ mfr E h h' ∧ MoW E h' A B (wRp A.1 i s q.1 w.1, w.2) D) := by
  obtain ⟨hs, hl, h123⟩ := hb
  have ho := hm.obj
  generalize hP0 : (fun (r' : Option Value) (h' : xH) => r' = some (.int (nI (if pat A.1 q.1 = 63 then q.1 + 1 else q.1))) ∧ mfr E h h' ∧ MoW E h' A B (wRp A.1 i s q.1 w.1, w.2) D) = Post
  have fin : ∀ g : xH, q.1 ≤ 50 → mfr E h g → MoW E g A B (wRp A.1 i s q.1 w.1, w.2) D → wp E 3 m_MO_writeRepetition 218 (rL E i s (pat A.1 i) q.1 (decide (pat A.1 q.1 = 63)) (w.1.length - s)) [] g Post := by
    intro g hq50 fg mg
    refine wp_iload d_MO_writeRepetition_218 rfl ?_
    refine wp_if_eq (tgt := 230) d_MO_writeRepetition_220 (by decide) (fun hc => ?_) (fun hc => ?_)
    · have hc := of_decide_eq_false (bI_0.mp hc)
      refine wp_iload d_MO_writeRepetition_230 rfl ?_
      refine wp_ireturn d_MO_writeRepetition_232 rfl (by first | rfl | assumption) ?_
      rw [← hP0]
      show _ ∧ _
      rw [if_neg hc]
      exact ⟨rfl, fg, mg⟩
    · have hc := of_decide_eq_true (b_t (fun z => hc (bI_0.mpr z)))
      refine wp_iload d_MO_writeRepetition_223 rfl ?_
      refine wp_iconst (v := 1) d_MO_writeRepetition_225 (by rfl) ?_
      refine wp_iadd d_MO_writeRepetition_226 ?_
      refine wp_goto (tgt := 232) d_MO_writeRepetition_227 (by decide) ?_
      rw [show nI q.1 + 1 = nI (q.1 + 1) from (nI_succ _).symm]
      refine wp_ireturn d_MO_writeRepetition_232 rfl (by first | rfl | assumption) ?_
      rw [← hP0]
      show _ ∧ _
      rw [if_pos hc]
      exact ⟨rfl, fg, mg⟩
  have mid : q.1 ≤ 50 → i + 1 ≤ q.1 → ∀ g : xH, g = h → wp E 3 m_MO_writeRepetition 36 [(0, .ref (xb E + 21)), (1, .int (nI i)), (2, .int (nI s)), (3, .int (pat A.1 i)), (4, .int (nI q.1))] [] g Post := by
    intro hq50 hqi g hg
    subst hg
    have go : wp E 3 m_MO_writeRepetition 62 (rL E i s (pat A.1 i) q.1 (decide (pat A.1 q.1 = 63)) (w.1.length - s)) [] g Post := by
      by_cases c1 : pat A.1 i = 63
      · have hw : wRp A.1 i s q.1 w.1 = cInsert s (fkE (decide (pat A.1 q.1 = 63)) (w.1.length - s + 1)) w.1 := by rw [wRp, if_pos c1]
        refine wr_63 hE hm (by omega) hs rfl c1 (fun g' f' m' => ?_)
        refine wr_n42 (by rw [c1]; decide) (wr_n43 (by rw [c1]; decide) (wr_n123 (by rw [c1]; decide) ?_))
        exact fin g' hq50 f' (by rw [hw]; exact m')
      · refine wr_n63 c1 ?_
        by_cases c2 : pat A.1 i = 42
        · have hw : wRp A.1 i s q.1 w.1 = cInsert s (fkE (decide (pat A.1 q.1 = 63)) (w.1.length - s + 2)) w.1 ++ [(7, -nI (w.1.length - s) - 1, 0)] := by rw [wRp, if_neg c1, if_pos c2]
          refine wr_42 hE hm (by omega) hs rfl c2 (fun g' f' m' => ?_)
          refine wr_n43 (by rw [c2]; decide) (wr_n123 (by rw [c2]; decide) ?_)
          exact fin g' hq50 f' (by rw [hw]; exact m')
        · refine wr_n42 c2 ?_
          by_cases c3 : pat A.1 i = 43
          · have hw : wRp A.1 i s q.1 w.1 = w.1 ++ [if decide (pat A.1 q.1 = 63) then (6, 1, -nI (w.1.length - s)) else (6, -nI (w.1.length - s), 1)] := by
              rw [wRp, if_neg c1, if_neg c2, if_pos c3]
              simp
            refine wr_43 hE hm (by omega) c3 (fun g' f' m' => ?_)
            refine wr_n123 (by rw [c3]; decide) ?_
            exact fin g' hq50 f' (by rw [hw]; exact m')
          · refine wr_n43 c3 ?_
            have c4 : pat A.1 i = 123 := by
              simp only [isB, Bool.or_eq_true, decide_eq_true_eq] at hc0
              rcases hc0 with ((z | z) | z) | z
              · exact absurd z c2
              · exact absurd z c3
              · exact absurd z c1
              · exact z
            have hw : wRp A.1 i s q.1 w.1 = tmW s (pat A.1 (i + 1) - 48).toNatClampNeg (pat A.1 (q.1 - 2) - 48).toNatClampNeg (decide (pat A.1 q.1 = 63)) w.1 := by rw [wRp, if_neg c1, if_neg c2, if_neg c3]
            have h123 := h123 c4
            rw [mRq, if_pos c4] at hq
            cases hM : mBr A.1 i with
            | inl k => rw [hM] at hq; cases hq
            | inr q' =>
              rw [hM] at hq
              have hq : (Sum.inr (q'.1, q'.2.1, q'.2.2.1, q'.2.2.2, false) : Nat ⊕ (Nat × Nat × Nat × Bool × Bool)) = .inr q := hq
              injection hq with hq
              have hq1 : q.1 = q'.1 := by rw [← hq]
              obtain ⟨⟨m, n, k1, k2, k3, k4, k5, k6⟩, k7, k8, k9, k10⟩ := mBr_ok hM
              rw [hq1, k4, k5, nI_clamp (by omega), nI_clamp (by omega)] at h123
              rw [hq1, k4, k5, nI_clamp (by omega), nI_clamp (by omega)] at hw
              refine wp_iload_n d_MO_writeRepetition_184 rfl rfl ?_
              refine wp_bipush (v := 123) d_MO_writeRepetition_185 (by rfl) ?_
              refine wp_icmp_ne (tgt := 218) d_MO_writeRepetition_187 (by decide) (fun hc => ?_) (fun hc => ?_)
              · exact absurd c4 hc
              refine wp_aload_n d_MO_writeRepetition_190 rfl rfl ?_
              refine wp_iload_n d_MO_writeRepetition_191 rfl rfl ?_
              refine wp_aload_n d_MO_writeRepetition_192 rfl rfl ?_
              refine wp_iload_n d_MO_writeRepetition_193 rfl rfl ?_
              refine wp_iconst (v := 1) d_MO_writeRepetition_194 (by rfl) ?_
              refine wp_iadd d_MO_writeRepetition_195 ?_
              rw [show nI i + 1 = nI (i + 1) from (nI_succ i).symm]
              refine wp_callV1 xc_MO_90 d_MO_writeRepetition_196 (Nat.le_of_ble_eq_true rfl) (by repeat first | exact xg_eq | exact xn_eq (by first | rfl | omega) | refine xg_ne (by first | omega | assumption | (simp only [xput, xnew]; omega)) ?_ | refine xn_ne (by first | omega | assumption | (simp only [xput, xnew]; omega)) ?_ | assumption | exact rfl) (MoW.at hE hm (i := i + 1) (by omega)) (by omega) (fun r hh hp => ?_)
              obtain ⟨rfl, hz0⟩ := hp; have hz0 := hz0.symm; subst hz0
              refine wp_bipush (v := 48) d_MO_writeRepetition_199 (by rfl) ?_
              refine wp_isub d_MO_writeRepetition_201 ?_
              refine wp_aload_n d_MO_writeRepetition_202 rfl rfl ?_
              refine wp_iload d_MO_writeRepetition_203 rfl ?_
              refine wp_iconst (v := 2) d_MO_writeRepetition_205 (by rfl) ?_
              refine wp_isub d_MO_writeRepetition_206 ?_
              rw [k4, hq1, show nI q'.1 - 2 = nI (q'.1 - 2) from pk_sub (b := 2) (by omega)]
              refine wp_callV1 xc_MO_90 d_MO_writeRepetition_207 (Nat.le_of_ble_eq_true rfl) (by repeat first | exact xg_eq | exact xn_eq (by first | rfl | omega) | refine xg_ne (by first | omega | assumption | (simp only [xput, xnew]; omega)) ?_ | refine xn_ne (by first | omega | assumption | (simp only [xput, xnew]; omega)) ?_ | assumption | exact rfl) (MoW.at hE hm (i := q'.1 - 2) (by omega)) (by omega) (fun r hh hp => ?_)
              obtain ⟨rfl, hz0⟩ := hp; have hz0 := hz0.symm; subst hz0
              refine wp_bipush (v := 48) d_MO_writeRepetition_210 (by rfl) ?_
              refine wp_isub d_MO_writeRepetition_212 ?_
              refine wp_iload d_MO_writeRepetition_213 rfl ?_
              rw [k5]
              refine wp_callV4 xc_MO_143 d_MO_writeRepetition_215 (Nat.le_of_ble_eq_true rfl) (by repeat first | exact xg_eq | exact xn_eq (by first | rfl | omega) | refine xg_ne (by first | omega | assumption | (simp only [xput, xnew]; omega)) ?_ | refine xn_ne (by first | omega | assumption | (simp only [xput, xnew]; omega)) ?_ | assumption | exact rfl) (c_MO_times hE hm (s := s) (m := m) (n := n) hs k1 k3 k2 h123) (by omega) (fun r g2 hp => ?_)
              obtain ⟨rfl, f2, m2⟩ := hp
              rw [hq1] at fin
              exact fin g2 (by omega) f2 (by first | (rw [hw]; exact m2) | (rw [hq1, hw]; exact m2))
    refine wp_aload_n d_MO_writeRepetition_36 rfl rfl ?_
    refine wp_iload d_MO_writeRepetition_37 rfl ?_
    refine wp_callV1 xc_MO_90 d_MO_writeRepetition_39 (Nat.le_of_ble_eq_true rfl) (by repeat first | exact xg_eq | exact xn_eq (by first | rfl | omega) | refine xg_ne (by first | omega | assumption | (simp only [xput, xnew]; omega)) ?_ | refine xn_ne (by first | omega | assumption | (simp only [xput, xnew]; omega)) ?_ | assumption | exact rfl) (MoW.at hE hm (i := q.1) (by omega)) (by omega) (fun r hh hp => ?_)
    obtain ⟨rfl, hz0⟩ := hp; have hz0 := hz0.symm; subst hz0
    refine wp_bipush (v := 63) d_MO_writeRepetition_42 (by rfl) ?_
    refine wp_icmp_ne (tgt := 51) d_MO_writeRepetition_44 (by decide) (fun hc => ?_) (fun hc => ?_)
    · refine wp_iconst (v := 0) d_MO_writeRepetition_51 (by rfl) ?_
      refine wp_istore d_MO_writeRepetition_52 (by decide) rfl ?_
      refine wp_aload_n d_MO_writeRepetition_54 rfl rfl ?_
      refine wp_get xf_MO_126 d_MO_writeRepetition_55 (by repeat first | exact xg_eq | exact xn_eq (by first | rfl | omega) | refine xg_ne (by first | omega | assumption | (simp only [xput, xnew]; omega)) ?_ | refine xn_ne (by first | omega | assumption | (simp only [xput, xnew]; omega)) ?_ | assumption | exact rfl) (by rfl) ?_
      refine wp_iload_n d_MO_writeRepetition_58 rfl rfl ?_
      refine wp_isub d_MO_writeRepetition_59 ?_
      refine wp_istore d_MO_writeRepetition_60 (by decide) rfl ?_
      rw [pk_sub hs]
      rw [decide_eq_false hc] at go
      exact go
    · refine wp_iconst (v := 1) d_MO_writeRepetition_47 (by rfl) ?_
      refine wp_goto (tgt := 52) d_MO_writeRepetition_48 (by decide) ?_
      refine wp_istore d_MO_writeRepetition_52 (by decide) rfl ?_
      refine wp_aload_n d_MO_writeRepetition_54 rfl rfl ?_
      refine wp_get xf_MO_126 d_MO_writeRepetition_55 (by repeat first | exact xg_eq | exact xn_eq (by first | rfl | omega) | refine xg_ne (by first | omega | assumption | (simp only [xput, xnew]; omega)) ?_ | refine xn_ne (by first | omega | assumption | (simp only [xput, xnew]; omega)) ?_ | assumption | exact rfl) (by rfl) ?_
      refine wp_iload_n d_MO_writeRepetition_58 rfl rfl ?_
      refine wp_isub d_MO_writeRepetition_59 ?_
      refine wp_istore d_MO_writeRepetition_60 (by decide) rfl ?_
      rw [pk_sub hs]
      rw [decide_eq_true hc] at go
      exact go
  refine wpc_of rfl (Nat.le_of_ble_eq_true rfl) ?_
  refine wp_aload_n d_MO_writeRepetition_0 rfl rfl ?_
  refine wp_iload_n d_MO_writeRepetition_1 rfl rfl ?_
  refine wp_callV1 xc_MO_90 d_MO_writeRepetition_2 (Nat.le_of_ble_eq_true rfl) (by repeat first | exact xg_eq | exact xn_eq (by first | rfl | omega) | refine xg_ne (by first | omega | assumption | (simp only [xput, xnew]; omega)) ?_ | refine xn_ne (by first | omega | assumption | (simp only [xput, xnew]; omega)) ?_ | assumption | exact rfl) (MoW.at hE hm (i := i) (by omega)) (by omega) (fun r hh hp => ?_)
  obtain ⟨rfl, hz0⟩ := hp; have hz0 := hz0.symm; subst hz0
  refine wp_istore_n d_MO_writeRepetition_5 rfl (by decide) rfl ?_
  refine wp_iload_n d_MO_writeRepetition_6 rfl rfl ?_
  refine wp_iconst (v := 1) d_MO_writeRepetition_7 (by rfl) ?_
  refine wp_iadd d_MO_writeRepetition_8 ?_
  refine wp_istore d_MO_writeRepetition_9 (by decide) rfl ?_
  refine wp_iload_n d_MO_writeRepetition_11 rfl rfl ?_
  refine wp_bipush (v := 123) d_MO_writeRepetition_12 (by rfl) ?_
  rw [show nI i + 1 = nI (i + 1) from (nI_succ i).symm]
  by_cases c4 : pat A.1 i = 123
  · refine wp_icmp_ne (tgt := 36) d_MO_writeRepetition_14 (by decide) (fun hc => ?_) (fun hc => ?_)
    · exact absurd c4 hc
    have hq' := hq
    rw [mRq, if_pos c4] at hq'
    cases hM : mBr A.1 i with
    | inl k => rw [hM] at hq'; cases hq'
    | inr q' =>
      rw [hM] at hq'
      have hq' : (Sum.inr (q'.1, q'.2.1, q'.2.2.1, q'.2.2.2, false) : Nat ⊕ (Nat × Nat × Nat × Bool × Bool)) = .inr q := hq'
      injection hq' with hq'
      have hq1 : q.1 = q'.1 := by rw [← hq']
      obtain ⟨-, k7, k8, k9, k10⟩ := mBr_ok hM
      have lp : ∀ (f k : Nat), k + f = q'.1 → i < k → wp E 3 m_MO_writeRepetition 17 [(0, .ref (xb E + 21)), (1, .int (nI i)), (2, .int (nI s)), (3, .int (pat A.1 i)), (4, .int (nI k))] [] h Post := by
        intro f
        induction f with
        | zero =>
          intro k hk hik
          have hk : k = q'.1 := hk
          subst hk
          refine wp_aload_n d_MO_writeRepetition_17 rfl rfl ?_
          refine wp_iload d_MO_writeRepetition_18 rfl ?_
          refine wp_iconst (v := 1) d_MO_writeRepetition_20 (by rfl) ?_
          refine wp_isub d_MO_writeRepetition_21 ?_
          rw [show nI q'.1 - 1 = nI (q'.1 - 1) from pk_sub (b := 1) (by omega)]
          refine wp_callV1 xc_MO_90 d_MO_writeRepetition_22 (Nat.le_of_ble_eq_true rfl) (by repeat first | exact xg_eq | exact xn_eq (by first | rfl | omega) | refine xg_ne (by first | omega | assumption | (simp only [xput, xnew]; omega)) ?_ | refine xn_ne (by first | omega | assumption | (simp only [xput, xnew]; omega)) ?_ | assumption | exact rfl) (MoW.at hE hm (i := q'.1 - 1) (by omega)) (by omega) (fun r hh hp => ?_)
          obtain ⟨rfl, hz0⟩ := hp; have hz0 := hz0.symm; subst hz0
          refine wp_bipush (v := 125) d_MO_writeRepetition_25 (by rfl) ?_
          refine wp_icmp_eq (tgt := 36) d_MO_writeRepetition_27 (by decide) (fun hc5 => ?_) (fun hc5 => ?_)
          · rw [← hq1]
            exact mid (by omega) (by omega) h rfl
          · exact absurd k9 hc5
        | succ f ih =>
          intro k hk hik
          refine wp_aload_n d_MO_writeRepetition_17 rfl rfl ?_
          refine wp_iload d_MO_writeRepetition_18 rfl ?_
          refine wp_iconst (v := 1) d_MO_writeRepetition_20 (by rfl) ?_
          refine wp_isub d_MO_writeRepetition_21 ?_
          rw [show nI k - 1 = nI (k - 1) from pk_sub (b := 1) (by omega)]
          refine wp_callV1 xc_MO_90 d_MO_writeRepetition_22 (Nat.le_of_ble_eq_true rfl) (by repeat first | exact xg_eq | exact xn_eq (by first | rfl | omega) | refine xg_ne (by first | omega | assumption | (simp only [xput, xnew]; omega)) ?_ | refine xn_ne (by first | omega | assumption | (simp only [xput, xnew]; omega)) ?_ | assumption | exact rfl) (MoW.at hE hm (i := k - 1) (by omega)) (by omega) (fun r hh hp => ?_)
          obtain ⟨rfl, hz0⟩ := hp; have hz0 := hz0.symm; subst hz0
          refine wp_bipush (v := 125) d_MO_writeRepetition_25 (by rfl) ?_
          refine wp_icmp_eq (tgt := 36) d_MO_writeRepetition_27 (by decide) (fun hc5 => ?_) (fun hc5 => ?_)
          · by_cases hki : k - 1 = i
            · rw [hki, c4] at hc5
              exact absurd hc5 (by decide)
            · exact absurd hc5 (k10 (k - 1) (by omega) (by omega))
          · refine wp_iinc d_MO_writeRepetition_30 rfl rfl (by decide) rfl ?_
            refine wp_goto (tgt := 17) d_MO_writeRepetition_33 (by decide) ?_
            rw [show nI k + Int32.ofInt 1 = nI (k + 1) from (nI_succ k).symm]
            exact ih (k + 1) (by omega) (by omega)
      exact lp (q'.1 - (i + 1)) (i + 1) (by omega) (by omega)
  · refine wp_icmp_ne (tgt := 36) d_MO_writeRepetition_14 (by decide) (fun hc => ?_) (fun hc => ?_)
    · have hq' := hq
      rw [mRq, if_neg c4] at hq'
      injection hq' with hq'
      have hq1 : q.1 = i + 1 := by rw [← hq']
      rw [hq1] at mid
      exact mid (by omega) (by omega) h rfl
    · exact absurd hc c4
end M8
