def SgL (E : xE) (h : xH) (a r n : Nat) (xs : List Int32) : Prop := ∃ f : Nat → Int32, Sg E h a r n f xs.length ∧ ∀ k : Nat, k < xs.length → f k = xs.getD k (-2)
def lAt (xs : List Int32) (p : Int32) : Int32 := if p < 0 then -2 else xs.getD p.toNatClampNeg (-2)
theorem lAt_nI (xs : List Int32) {i : Nat} (hi : i < 2 ^ 31) : lAt xs (nI i) = xs.getD i (-2) := by
  rw [lAt, if_neg (nI_pos hi), nI_clamp hi]
section SL
variable {E : xE} {h : xH} {a r n : Nat} {xs : List Int32}
theorem SgL.len (hs : SgL E h a r n xs) : xs.length ≤ n ∧ n ≤ 1000 := by
  obtain ⟨f, hf, -⟩ := hs
  exact ⟨hf.2.2.2.1, hf.2.2.2.2⟩
theorem SgL.obj (hs : SgL E h a r n xs) : h.2.2 a = some (ob 8 [.ref r, .int (nI xs.length)]) := by
  obtain ⟨f, hf, -⟩ := hs
  exact hf.1
theorem SgL.ne (hs : SgL E h a r n xs) : a ≠ r := by
  obtain ⟨f, hf, -⟩ := hs
  exact hf.2.2.1
theorem SgL.mv {h' : xH} (hs : SgL E h a r n xs) (h1 : h'.2.2 a = h.2.2 a) (h2 : h'.2.2 r = h.2.2 r) : SgL E h' a r n xs := by
  obtain ⟨f, ⟨q1, q2, q3⟩, hf⟩ := hs
  exact ⟨f, ⟨h1.trans q1, h2.trans q2, q3⟩, hf⟩
theorem c_SI_lengthL (hs : SgL E h a r n xs) : wpc E 0 m_SI_length [.ref a] h (fun r' h' => r' = some (.int (nI xs.length)) ∧ h' = h) := by
  obtain ⟨f, hf, -⟩ := hs
  exact c_SI_length hf
theorem c_SI_isFullL (hE : xOK E) (hs : SgL E h a r n xs) : wpc E 0 m_SI_isFull [.ref a] h (fun r' h' => r' = some (.int (if n ≤ xs.length then 1 else 0)) ∧ h' = h) := by
  obtain ⟨f, hf, -⟩ := hs
  exact c_SI_isFull hE hf
theorem c_SI_atL (hE : xOK E) (hs : SgL E h a r n xs) (p : Int32) : wpc E 0 m_SI_at [.ref a, .int p] h (fun r' h' => r' = some (.int (lAt xs p)) ∧ h' = h) := by
  have hl := hs.len
  obtain ⟨f, hf, hx⟩ := hs
  refine (c_SI_at hE hf p).mono ?_
  rintro r' h' ⟨rfl, rfl⟩
  refine ⟨?_, rfl⟩
  rw [sgAt, lAt]
  by_cases h1 : p < 0
  · rw [if_pos h1, if_pos h1]
  · rw [if_neg h1, if_neg h1]
    obtain ⟨j, hj, rfl⟩ := nI_of h1
    rw [nI_clamp hj]
    by_cases h2 : xs.length ≤ j
    · rw [if_pos (nI_le h2 hj), List.getD_eq_getElem?_getD, List.getElem?_eq_none h2]; rfl
    · rw [if_neg (by rw [nI_leI (by omega) hj]; exact h2), hx j (by omega)]
theorem c_SI_clearL (hs : SgL E h a r n xs) : wpc E 0 m_SI_clear [.ref a] h (fun r' h' => r' = none ∧ xfr [a] h h' ∧ SgL E h' a r n []) := by
  obtain ⟨f, hf, hx⟩ := hs
  refine (c_SI_clear hf).mono ?_
  rintro r' h' ⟨rfl, rfl⟩
  obtain ⟨h1, h2, h3, h4, h5⟩ := hf
  exact ⟨rfl, xfr.rf.put (by simp), f, ⟨(by repeat first | assumption | exact xg_eq | exact xn_eq (by first | rfl | omega) | refine xg_ne (by first | assumption | omega | (simp only [xput, xnew]; omega)) ?_ | refine xn_ne (by first | assumption | omega | (simp only [xput, xnew]; omega)) ?_ | exact rfl), (by repeat first | assumption | exact xg_eq | exact xn_eq (by first | rfl | omega) | refine xg_ne (by first | assumption | omega | (simp only [xput, xnew]; omega)) ?_ | refine xn_ne (by first | assumption | omega | (simp only [xput, xnew]; omega)) ?_ | exact rfl), h3, Nat.zero_le _, h5⟩, fun k hk => absurd hk (Nat.not_lt_zero k)⟩
theorem c_SI_addL (hE : xOK E) (hs : SgL E h a r n xs) (hlt : xs.length < n) (v : Int32) : wpc E 1 m_SI_add [.ref a, .int v] h (fun r' h' => r' = none ∧ xfr [a, r] h h' ∧ SgL E h' a r n (xs ++ [v])) := by
  obtain ⟨f, hf, hx⟩ := hs
  refine (c_SI_add hE hf v).mono ?_
  rintro r' h' ⟨rfl, rfl⟩
  rw [if_neg (by omega)]
  obtain ⟨h1, h2, h3, h4, h5⟩ := hf
  refine ⟨rfl, (xfr.rf.put (by simp)).put (by simp), upd f xs.length v, ⟨?_, (by repeat first | assumption | exact xg_eq | exact xn_eq (by first | rfl | omega) | refine xg_ne (by first | assumption | omega | (simp only [xput, xnew]; omega)) ?_ | refine xn_ne (by first | assumption | omega | (simp only [xput, xnew]; omega)) ?_ | exact rfl), h3, by rw [List.length_append]; exact hlt, h5⟩, fun k hk => ?_⟩
  · rw [List.length_append]
    exact (by repeat first | assumption | exact xg_eq | exact xn_eq (by first | rfl | omega) | refine xg_ne (by first | assumption | omega | (simp only [xput, xnew]; omega)) ?_ | refine xn_ne (by first | assumption | omega | (simp only [xput, xnew]; omega)) ?_ | exact rfl)
  · rw [List.length_append, List.length_singleton] at hk
    by_cases hk2 : k = xs.length
    · subst hk2
      rw [List.getD_eq_getElem?_getD, List.getElem?_concat_length]
      exact pk_us
    · rw [pk_un hk2, hx k (by omega), List.getD_eq_getElem?_getD, List.getD_eq_getElem?_getD, List.getElem?_append_left (by omega)]
theorem c_SI_init (hE : xOK E) (hn : n ≤ 1000) (h1 : h.2.2 a = some (ob 8 [.null, .int 0])) (h2 : a < xb E + h.1) : wpc E 1 m_SI_init [.ref a, .int (nI n)] h (fun r' h' => r' = none ∧ xgr E [a] 1 n h h' ∧ SgL E h' a (xb E + h.1) n []) := by
  refine wpc_of rfl (Nat.le_of_ble_eq_true rfl) ?_
  refine wp_aload_n d_SI_init_0 rfl rfl ?_
  refine wp_objInit xo_SI_3 d_SI_init_1 (Nat.le_of_ble_eq_true rfl) (by omega) ?_
  refine wp_aload_n d_SI_init_4 rfl rfl ?_
  refine wp_iload_n d_SI_init_5 rfl rfl ?_
  refine wp_newa (ty := .int) (N := n) (a0 := (n, .inl (fun _ => 0))) rfl ka_int d_SI_init_6 hE.i rfl (fun _ h9 => h9) (nI_pos (by omega)) (nI_clamp (by omega)) (by show n * 4 ≤ _; omega) ?_
  refine wp_put xf_SI_9 xg_SI (Or.inr ⟨rfl, rfl, rfl⟩) d_SI_init_8 (by repeat first | assumption | exact xg_eq | exact xn_eq (by first | rfl | omega) | refine xg_ne (by first | assumption | omega | (simp only [xput, xnew]; omega)) ?_ | refine xn_ne (by first | assumption | omega | (simp only [xput, xnew]; omega)) ?_ | exact rfl) (by first | rfl | assumption | exact bI_z _) (by first | rfl | assumption | exact bI_f _) (Nat.le_of_ble_eq_true rfl) ?_
  refine wp_aload_n d_SI_init_11 rfl rfl ?_
  refine wp_iconst (v := 0) d_SI_init_12 (by rfl) ?_
  refine wp_put xf_SI_15 xg_SI (Or.inl rfl) d_SI_init_13 (by repeat first | assumption | exact xg_eq | exact xn_eq (by first | rfl | omega) | refine xg_ne (by first | assumption | omega | (simp only [xput, xnew]; omega)) ?_ | refine xn_ne (by first | assumption | omega | (simp only [xput, xnew]; omega)) ?_ | exact rfl) (by first | rfl | assumption | exact bI_z _) (by first | rfl | assumption | exact bI_f _) (Nat.le_of_ble_eq_true rfl) ?_
  refine wp_return d_SI_init_16 rfl ?_
  refine ⟨rfl, ⟨rfl, rfl, fun q q1 q2 => ?_⟩, fun _ => 0, ⟨(by repeat first | assumption | exact xg_eq | exact xn_eq (by first | rfl | omega) | refine xg_ne (by first | assumption | omega | (simp only [xput, xnew]; omega)) ?_ | refine xn_ne (by first | assumption | omega | (simp only [xput, xnew]; omega)) ?_ | exact rfl), (by repeat first | assumption | exact xg_eq | exact xn_eq (by first | rfl | omega) | refine xg_ne (by first | assumption | omega | (simp only [xput, xnew]; omega)) ?_ | refine xn_ne (by first | assumption | omega | (simp only [xput, xnew]; omega)) ?_ | exact rfl), by omega, Nat.zero_le _, hn⟩, fun k hk => absurd hk (Nat.not_lt_zero k)⟩
  have q3 : q ≠ a := fun e => q2 (by rw [e]; exact List.mem_singleton.mpr rfl)
  exact (by repeat first | assumption | exact xg_eq | exact xn_eq (by first | rfl | omega) | refine xg_ne (by first | assumption | omega | (simp only [xput, xnew]; omega)) ?_ | refine xn_ne (by first | assumption | omega | (simp only [xput, xnew]; omega)) ?_ | exact rfl)
theorem getD_take_succ {ys : List Int32} {i k : Nat} (h : i + k < ys.length) : (ys.drop i).take k ++ [ys.getD (i + k) (-2)] = (ys.drop i).take (k + 1) := by
  rw [List.take_succ, List.getElem?_drop, List.getD_eq_getElem?_getD, List.getElem?_eq_getElem h]
  rfl
theorem c_SI_addStretch (hE : xOK E) {a2 r2 n2 : Nat} {ys : List Int32} (hs : SgL E h a r n xs) (ht : SgL E h a2 r2 n2 ys) (h1 : a2 ≠ a) (h2 : a2 ≠ r) (h3 : r2 ≠ a) (h4 : r2 ≠ r) {i j : Nat} (hij : i ≤ j) (hj : j ≤ ys.length) (hroom : xs.length + (j - i) ≤ n) :
    wpc E 2 m_SI_addStretch [.ref a, .ref a2, .int (nI i), .int (nI j)] h (fun r' h' => r' = none ∧ xfr [a, r] h h' ∧ SgL E h' a r n (xs ++ (ys.drop i).take (j - i))) := by
  have hl := hs.len
  have hl2 := ht.len
  have key : ∀ (q k : Nat) (h' : xH), q + k = j - i → xfr [a, r] h h' → SgL E h' a r n (xs ++ (ys.drop i).take k) → wp E 2 m_SI_addStretch 3 [(0, .ref a), (1, .ref a2), (2, .int (nI i)), (3, .int (nI j)), (4, .int (nI (i + k)))] [] h' (fun r' h' => r' = none ∧ xfr [a, r] h h' ∧ SgL E h' a r n (xs ++ (ys.drop i).take (j - i))) := by
    intro q
    induction q with
    | zero =>
      intro k h' hk hf hg
      have : k = j - i := by omega
      subst this
      refine wp_iload d_SI_addStretch_3 rfl ?_
      refine wp_iload_n d_SI_addStretch_5 rfl rfl ?_
      refine wp_icmp_ge (tgt := 25) d_SI_addStretch_6 (by decide) (fun hc => ?_) (fun hc => ?_)
      · refine wp_return d_SI_addStretch_25 rfl ?_
        exact ⟨rfl, hf, hg⟩
      · exact absurd (nI_le (by omega) (by omega)) hc
    | succ q ih =>
      intro k h' hk hf hg
      have ht' : SgL E h' a2 r2 n2 ys := ht.mv (hf.2.2 _ (by simp [h1, h2])) (hf.2.2 _ (by simp [h3, h4]))
      have o1 := hg.obj
      have o2 := ht'.obj
      refine wp_iload d_SI_addStretch_3 rfl ?_
      refine wp_iload_n d_SI_addStretch_5 rfl rfl ?_
      refine wp_icmp_ge (tgt := 25) d_SI_addStretch_6 (by decide) (fun hc => ?_) (fun hc => ?_)
      · exact absurd hc (nI_ge (by omega) (by omega))
      · refine wp_aload_n d_SI_addStretch_9 rfl rfl ?_
        refine wp_aload_n d_SI_addStretch_10 rfl rfl ?_
        refine wp_iload d_SI_addStretch_11 rfl ?_
        refine wp_callV1 xc_SI_23 d_SI_addStretch_13 (Nat.le_of_ble_eq_true rfl) (by repeat first | assumption | exact xg_eq | exact xn_eq (by first | rfl | omega) | refine xg_ne (by first | assumption | omega | (simp only [xput, xnew]; omega)) ?_ | refine xn_ne (by first | assumption | omega | (simp only [xput, xnew]; omega)) ?_ | exact rfl) (c_SI_atL hE ht' _) (by omega) (fun r hh hp => ?_)
        obtain ⟨rfl, rfl⟩ := hp
        rw [lAt_nI _ (by omega)]
        refine wp_callV1 xc_SI_27 d_SI_addStretch_16 (Nat.le_of_ble_eq_true rfl) (by repeat first | assumption | exact xg_eq | exact xn_eq (by first | rfl | omega) | refine xg_ne (by first | assumption | omega | (simp only [xput, xnew]; omega)) ?_ | refine xn_ne (by first | assumption | omega | (simp only [xput, xnew]; omega)) ?_ | exact rfl) (c_SI_addL hE hg (by rw [List.length_append, List.length_take]; omega) _) (by omega) (fun r hh hp => ?_)
        obtain ⟨rfl, hf2, hg2⟩ := hp
        rw [List.append_assoc, getD_take_succ (by omega)] at hg2
        refine wp_iinc d_SI_addStretch_19 rfl rfl (by decide) rfl ?_
        refine wp_goto (tgt := 3) d_SI_addStretch_22 (by decide) ?_
        rw [show nI (i + k) + Int32.ofInt 1 = nI (i + (k + 1)) from (nI_succ (i + k)).symm]
        exact ih (k + 1) hh (by omega) (hf.tr hf2) hg2
  refine wpc_of rfl (Nat.le_of_ble_eq_true rfl) ?_
  refine wp_iload_n d_SI_addStretch_0 rfl rfl ?_
  refine wp_istore d_SI_addStretch_1 (by decide) rfl ?_
  exact key (j - i) 0 h rfl xfr.rf (by simpa using hs)
theorem c_SI_addStretchN {a2 : Nat} {x y : Int32} (hxy : ¬ x < y) : wpc E 2 m_SI_addStretch [.ref a, .ref a2, .int x, .int y] h (fun r' h' => r' = none ∧ h' = h) := by
  refine wpc_of rfl (Nat.le_of_ble_eq_true rfl) ?_
  refine wp_iload_n d_SI_addStretch_0 rfl rfl ?_
  refine wp_istore d_SI_addStretch_1 (by decide) rfl ?_
  refine wp_iload d_SI_addStretch_3 rfl ?_
  refine wp_iload_n d_SI_addStretch_5 rfl rfl ?_
  refine wp_icmp_ge (tgt := 25) d_SI_addStretch_6 (by decide) (fun hc => ?_) (fun hc => ?_)
  · refine wp_return d_SI_addStretch_25 rfl ?_
    exact ⟨rfl, rfl⟩
  · exact absurd (Int32.not_lt.mp hxy) hc
end SL
