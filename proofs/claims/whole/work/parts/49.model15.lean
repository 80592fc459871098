def gdS (sm : SM) : Prop := ∀ x q, sm x = some q → ∀ g, 1 ≤ g → g ≤ 6 → (q.2 (2 * g + 1) = 0 ∨ ∃ i j : Nat, q.2 (2 * g) = i + 1 ∧ q.2 (2 * g + 1) = j + 1 ∧ x ≤ i ∧ i ≤ j ∧ j ≤ q.1)
def rrG (T : List Int32) (mk : Nat → Nat) (g : Nat) : List Int32 := if mk (2 * g + 1) = 0 then [] else strI T (nI (mk (2 * g)) - 1) (nI (mk (2 * g + 1)) - 1)
def rrR (sm : SM) (T : List Int32) (g : Nat) : Nat → Nat → Nat → List Int32 → Nat × List Int32
  | 0, _, cp, o => (cp, o)
  | k + 1, fr, cp, o => (match srR sm (T.length + 1 - fr) fr with
    | none => (cp, o)
    | some q => rrR sm T g k (nxF q.1 q.2.1) q.2.1 (o ++ (T.drop cp).take (q.1 - cp) ++ rrG T q.2.2 g))
section M15
variable {E : xE} {h : xH} {A : MA3} {B : MB} {w : WS} {D : MD} {sm : SM}
theorem c_MO_put (hE : xOK E) (hm : MoW E h A B w D) {x y : Int32} (hxy : ¬ x < y ∨ ∃ i j : Nat, x = nI i ∧ y = nI j ∧ i ≤ j ∧ j ≤ A.2.1.length ∧ A.2.2.length + (j - i) ≤ 30) : wpc E 0 m_MO_put [.ref (xb E + 21), .int x, .int y] h (fun r' h' => r' = none ∧ mfr E h h' ∧ MoW E h' (A.1, A.2.1, A.2.2 ++ strI A.2.1 x y) B w D) := by
  have hl := hm.len
  by_cases hlt : x < y
  · obtain ⟨i, j, rfl, rfl, hij, hj, hr⟩ := hxy.resolve_left (fun z => z hlt)
    rw [strI, if_pos hlt, nI_clamp (by omega), nI_clamp (by omega)]
    have lp : ∀ (q k : Nat) (g : xH), q + k = j - i → mfr E h g → MoW E g (A.1, A.2.1, A.2.2 ++ (A.2.1.drop i).take k) B w D → wp E 0 m_MO_put 2 [(0, .ref (xb E + 21)), (1, .int (nI i)), (2, .int (nI j)), (3, .int (nI (i + k)))] [] g (fun r' h' => r' = none ∧ mfr E h h' ∧ MoW E h' (A.1, A.2.1, A.2.2 ++ (A.2.1.drop i).take (j - i)) B w D) := by
      intro q
      induction q with
      | zero =>
        intro k g hk fg mg
        have hk : k = j - i := by omega
        subst hk
        refine wp_iload_n d_MO_put_2 rfl rfl ?_
        refine wp_iload_n d_MO_put_3 rfl rfl ?_
        refine wp_icmp_ge (tgt := 38) d_MO_put_4 (by decide) (fun h1 => ?_) (fun h1 => ?_)
        · refine wp_return d_MO_put_38 rfl ?_
          exact ⟨rfl, fg, mg⟩
        · exact absurd ((nI_leI (by omega) (by omega)).mpr (by omega)) h1
      | succ q ih =>
        intro k g hk fg mg
        have hlen : (A.2.2 ++ (A.2.1.drop i).take k).length = A.2.2.length + k := by
          rw [List.length_append, List.length_take, List.length_drop, Nat.min_eq_left (by omega)]
        obtain ⟨s, o, t, hcd, hl0, hm1⟩ := mg
        obtain ⟨fp, ft, fo, qq, o21, a22, a23, a24, a25, a26, a27, a28, a29, a30, a31, a32, a33, a34, a35, a36, a37, a38, a39, a40⟩ := hm1
        refine wp_iload_n d_MO_put_2 rfl rfl ?_
        refine wp_iload_n d_MO_put_3 rfl rfl ?_
        refine wp_icmp_ge (tgt := 38) d_MO_put_4 (by decide) (fun h1 => ?_) (fun h1 => ?_)
        · exact absurd ((nI_leI (by omega) (by omega)).mp h1) (by omega)
        refine wp_aload_n d_MO_put_7 rfl rfl ?_
        refine wp_get xf_MO_16 d_MO_put_8 (by repeat first | exact xg_eq | exact xn_eq (by first | rfl | omega) | refine xg_ne (by first | omega | assumption | (simp only [xput, xnew]; omega)) ?_ | refine xn_ne (by first | omega | assumption | (simp only [xput, xnew]; omega)) ?_ | assumption | exact rfl) (by rfl) ?_
        refine wp_aload_n d_MO_put_11 rfl rfl ?_
        refine wp_get xf_MO_189 d_MO_put_12 (by repeat first | exact xg_eq | exact xn_eq (by first | rfl | omega) | refine xg_ne (by first | omega | assumption | (simp only [xput, xnew]; omega)) ?_ | refine xn_ne (by first | omega | assumption | (simp only [xput, xnew]; omega)) ?_ | assumption | exact rfl) (by rfl) ?_
        refine wp_aload_n d_MO_put_15 rfl rfl ?_
        refine wp_get xf_MO_13 d_MO_put_16 (by repeat first | exact xg_eq | exact xn_eq (by first | rfl | omega) | refine xg_ne (by first | omega | assumption | (simp only [xput, xnew]; omega)) ?_ | refine xn_ne (by first | omega | assumption | (simp only [xput, xnew]; omega)) ?_ | assumption | exact rfl) (by rfl) ?_
        refine wp_iload_n d_MO_put_19 rfl rfl ?_
        refine wp_iald d_MO_put_20 (by repeat first | exact xg_eq | exact xn_eq (by first | rfl | omega) | refine xg_ne (by first | omega | assumption | (simp only [xput, xnew]; omega)) ?_ | refine xn_ne (by first | omega | assumption | (simp only [xput, xnew]; omega)) ?_ | assumption | exact rfl) hE.i (vp_in_nI (by omega) (by omega)) ?_
        rw [nI_clamp (by omega), show ft (i + k) = pat A.2.1 (i + k) from qq.2.1 (i + k) (by show i + k < A.2.1.length; omega)]
        refine wp_iast d_MO_put_21 (by repeat first | exact xg_eq | exact xn_eq (by first | rfl | omega) | refine xg_ne (by first | omega | assumption | (simp only [xput, xnew]; omega)) ?_ | refine xn_ne (by first | omega | assumption | (simp only [xput, xnew]; omega)) ?_ | assumption | exact rfl) hE.i (vp_in_nI (by show (A.2.2 ++ (A.2.1.drop i).take k).length < 30; omega) (by omega)) ?_
        rw [nI_clamp (by show (A.2.2 ++ (A.2.1.drop i).take k).length < 2 ^ 31; omega)]
        refine wp_aload_n d_MO_put_22 rfl rfl ?_
        refine wp_dup d_MO_put_23 rfl ?_
        refine wp_get xf_MO_189 d_MO_put_24 (by repeat first | exact xg_eq | exact xn_eq (by first | rfl | omega) | refine xg_ne (by first | omega | assumption | (simp only [xput, xnew]; omega)) ?_ | refine xn_ne (by first | omega | assumption | (simp only [xput, xnew]; omega)) ?_ | assumption | exact rfl) (by rfl) ?_
        refine wp_iconst (v := 1) d_MO_put_27 (by rfl) ?_
        refine wp_iadd d_MO_put_28 ?_
        rw [show nI (A.1, A.2.1, A.2.2 ++ (A.2.1.drop i).take k).2.2.length + 1 = nI ((A.2.2 ++ (A.2.1.drop i).take k).length + 1) from (nI_succ _).symm]
        refine wp_put xf_MO_189 xg_MO (Or.inl rfl) d_MO_put_29 (by repeat first | exact xg_eq | exact xn_eq (by first | rfl | omega) | refine xg_ne (by first | omega | assumption | (simp only [xput, xnew]; omega)) ?_ | refine xn_ne (by first | omega | assumption | (simp only [xput, xnew]; omega)) ?_ | assumption | exact rfl) (by first | rfl | assumption | exact bI_z _) (by first | rfl | assumption | exact bI_f _) (Nat.le_of_ble_eq_true rfl) ?_
        refine wp_iinc d_MO_put_32 rfl rfl (by decide) rfl ?_
        refine wp_goto (tgt := 2) d_MO_put_35 (by decide) ?_
        rw [show nI (i + k) + Int32.ofInt 1 = nI (i + (k + 1)) from (nI_succ _).symm]
        refine ih (k + 1) _ (by omega) ((fg.put (by omega)).put (by omega)) ?_
        have e2 : (A.2.1.drop i).take (k + 1) = (A.2.1.drop i).take k ++ [pat A.2.1 (i + k)] := by
          rw [List.take_succ, List.getElem?_drop, pat, List.getD_eq_getElem?_getD, List.getElem?_eq_getElem (show i + k < A.2.1.length by omega)]
          rfl
        rw [e2, ← List.append_assoc]
        refine ⟨s, o, t, hcd, hl0, ?_⟩
        obtain ⟨q1, q2, q3, q4, q5, q6⟩ := qq
        have e1 : (A.2.2 ++ (A.2.1.drop i).take k ++ [pat A.2.1 (i + k)]).length = (A.2.2 ++ (A.2.1.drop i).take k).length + 1 := by rw [List.length_append (as := A.2.2 ++ (A.2.1.drop i).take k), List.length_singleton]
        have qq : moQ (A.1, A.2.1, A.2.2 ++ (A.2.1.drop i).take k ++ [pat A.2.1 (i + k)]) fp ft (upd fo (A.2.2 ++ (A.2.1.drop i).take k).length (pat A.2.1 (i + k))) := ⟨q1, q2, lsA_app q3 _, q4, q5, by show (A.2.2 ++ (A.2.1.drop i).take k ++ [pat A.2.1 (i + k)]).length ≤ 30; omega⟩
        refine ⟨fp, ft, _, qq, ?_, (by repeat first | exact xg_eq | exact xn_eq (by first | rfl | omega) | refine xg_ne (by first | omega | assumption | (simp only [xput, xnew]; omega)) ?_ | refine xn_ne (by first | omega | assumption | (simp only [xput, xnew]; omega)) ?_ | assumption | exact rfl), (by repeat first | exact xg_eq | exact xn_eq (by first | rfl | omega) | refine xg_ne (by first | omega | assumption | (simp only [xput, xnew]; omega)) ?_ | refine xn_ne (by first | omega | assumption | (simp only [xput, xnew]; omega)) ?_ | assumption | exact rfl), (by repeat first | exact xg_eq | exact xn_eq (by first | rfl | omega) | refine xg_ne (by first | omega | assumption | (simp only [xput, xnew]; omega)) ?_ | refine xn_ne (by first | omega | assumption | (simp only [xput, xnew]; omega)) ?_ | assumption | exact rfl), (by repeat first | exact xg_eq | exact xn_eq (by first | rfl | omega) | refine xg_ne (by first | omega | assumption | (simp only [xput, xnew]; omega)) ?_ | refine xn_ne (by first | omega | assumption | (simp only [xput, xnew]; omega)) ?_ | assumption | exact rfl), (by repeat first | exact xg_eq | exact xn_eq (by first | rfl | omega) | refine xg_ne (by first | omega | assumption | (simp only [xput, xnew]; omega)) ?_ | refine xn_ne (by first | omega | assumption | (simp only [xput, xnew]; omega)) ?_ | assumption | exact rfl), (by repeat first | exact xg_eq | exact xn_eq (by first | rfl | omega) | refine xg_ne (by first | omega | assumption | (simp only [xput, xnew]; omega)) ?_ | refine xn_ne (by first | omega | assumption | (simp only [xput, xnew]; omega)) ?_ | assumption | exact rfl), (by repeat first | exact xg_eq | exact xn_eq (by first | rfl | omega) | refine xg_ne (by first | omega | assumption | (simp only [xput, xnew]; omega)) ?_ | refine xn_ne (by first | omega | assumption | (simp only [xput, xnew]; omega)) ?_ | assumption | exact rfl), (by repeat first | exact xg_eq | exact xn_eq (by first | rfl | omega) | refine xg_ne (by first | omega | assumption | (simp only [xput, xnew]; omega)) ?_ | refine xn_ne (by first | omega | assumption | (simp only [xput, xnew]; omega)) ?_ | assumption | exact rfl), (by repeat first | exact xg_eq | exact xn_eq (by first | rfl | omega) | refine xg_ne (by first | omega | assumption | (simp only [xput, xnew]; omega)) ?_ | refine xn_ne (by first | omega | assumption | (simp only [xput, xnew]; omega)) ?_ | assumption | exact rfl), (by repeat first | exact xg_eq | exact xn_eq (by first | rfl | omega) | refine xg_ne (by first | omega | assumption | (simp only [xput, xnew]; omega)) ?_ | refine xn_ne (by first | omega | assumption | (simp only [xput, xnew]; omega)) ?_ | assumption | exact rfl), (by repeat first | exact xg_eq | exact xn_eq (by first | rfl | omega) | refine xg_ne (by first | omega | assumption | (simp only [xput, xnew]; omega)) ?_ | refine xn_ne (by first | omega | assumption | (simp only [xput, xnew]; omega)) ?_ | assumption | exact rfl), (by repeat first | exact xg_eq | exact xn_eq (by first | rfl | omega) | refine xg_ne (by first | omega | assumption | (simp only [xput, xnew]; omega)) ?_ | refine xn_ne (by first | omega | assumption | (simp only [xput, xnew]; omega)) ?_ | assumption | exact rfl), (by repeat first | exact xg_eq | exact xn_eq (by first | rfl | omega) | refine xg_ne (by first | omega | assumption | (simp only [xput, xnew]; omega)) ?_ | refine xn_ne (by first | omega | assumption | (simp only [xput, xnew]; omega)) ?_ | assumption | exact rfl), (by repeat first | exact xg_eq | exact xn_eq (by first | rfl | omega) | refine xg_ne (by first | omega | assumption | (simp only [xput, xnew]; omega)) ?_ | refine xn_ne (by first | omega | assumption | (simp only [xput, xnew]; omega)) ?_ | assumption | exact rfl), (by repeat first | exact xg_eq | exact xn_eq (by first | rfl | omega) | refine xg_ne (by first | omega | assumption | (simp only [xput, xnew]; omega)) ?_ | refine xn_ne (by first | omega | assumption | (simp only [xput, xnew]; omega)) ?_ | assumption | exact rfl), (by repeat first | exact xg_eq | exact xn_eq (by first | rfl | omega) | refine xg_ne (by first | omega | assumption | (simp only [xput, xnew]; omega)) ?_ | refine xn_ne (by first | omega | assumption | (simp only [xput, xnew]; omega)) ?_ | assumption | exact rfl), (by repeat first | exact xg_eq | exact xn_eq (by first | rfl | omega) | refine xg_ne (by first | omega | assumption | (simp only [xput, xnew]; omega)) ?_ | refine xn_ne (by first | omega | assumption | (simp only [xput, xnew]; omega)) ?_ | assumption | exact rfl), (by repeat first | exact xg_eq | exact xn_eq (by first | rfl | omega) | refine xg_ne (by first | omega | assumption | (simp only [xput, xnew]; omega)) ?_ | refine xn_ne (by first | omega | assumption | (simp only [xput, xnew]; omega)) ?_ | assumption | exact rfl), (by repeat first | exact xg_eq | exact xn_eq (by first | rfl | omega) | refine xg_ne (by first | omega | assumption | (simp only [xput, xnew]; omega)) ?_ | refine xn_ne (by first | omega | assumption | (simp only [xput, xnew]; omega)) ?_ | assumption | exact rfl)⟩
        show _ = some (moO E _ _ (A.2.2 ++ (A.2.1.drop i).take k ++ [pat A.2.1 (i + k)]).length _ _ _ _ _ _ _ _ _)
        rw [e1]
        exact xg_eq
    refine wpc_of rfl (Nat.le_of_ble_eq_true rfl) ?_
    refine wp_iload_n d_MO_put_0 rfl rfl ?_
    refine wp_istore_n d_MO_put_1 rfl (by decide) rfl ?_
    exact lp (j - i) 0 h rfl mfr.rf (by rw [List.take_zero, List.append_nil]; exact hm)
  · rw [strI, if_neg hlt, List.append_nil]
    refine wpc_of rfl (Nat.le_of_ble_eq_true rfl) ?_
    refine wp_iload_n d_MO_put_0 rfl rfl ?_
    refine wp_istore_n d_MO_put_1 rfl (by decide) rfl ?_
    refine wp_iload_n d_MO_put_2 rfl rfl ?_
    refine wp_iload_n d_MO_put_3 rfl rfl ?_
    refine wp_icmp_ge (tgt := 38) d_MO_put_4 (by decide) (fun h1 => ?_) (fun h1 => ?_)
    · refine wp_return d_MO_put_38 rfl ?_
      exact ⟨rfl, mfr.rf, hm⟩
    · exact absurd (Int32.not_lt.mp hlt) h1
end M15
