abbrev Ins : Type := Int32 × Int32 × Int32
abbrev Cd : Type := List Ins
abbrev WS : Type := Cd × (Nat → Nat) × (Nat → Nat) × (Nat → Nat) × (Nat → Nat) × (Nat → Nat) × Nat
def cIn (l : Cd) (k : Nat) : Ins := l.getD k (0, 0, 0)
def cdF (s o t : Nat → Int32) (l : Cd) : Prop := ∀ k, k < l.length → (s k, o k, t k) = cIn l k
def MoW (E : xE) (h : xH) (A : MA3) (B : MB) (w : WS) (D : MD) : Prop := ∃ s o t, cdF s o t w.1 ∧ w.1.length ≤ 130 ∧ Mo E h A B (s, o, t, w.1.length, w.2) D
theorem MoW.obj {E : xE} {h : xH} {A : MA3} {B : MB} {w : WS} {D : MD} (hm : MoW E h A B w D) : h.2.2 (xb E + 21) = some (moO E A.1.length A.2.1.length A.2.2.length D.2.2.2.2.1 D.2.2.2.2.2 B.2.2.2.2.1 B.2.2.2.2.2.1 B.2.2.2.2.2.2.1 B.2.2.2.2.2.2.2.1 B.2.2.2.2.2.2.2.2 w.1.length w.2.2.2.2.2.2) := by
  obtain ⟨s, o, t, -, -, m⟩ := hm
  exact m.obj
theorem cIn_app {l l2 : Cd} {k : Nat} (h : k < l.length) : cIn (l ++ l2) k = cIn l k := by
  rw [cIn, cIn, List.getD_eq_getElem?_getD, List.getD_eq_getElem?_getD, List.getElem?_append_left h]
theorem cIn_app2 {l l2 : Cd} {k : Nat} (h : l.length ≤ k) : cIn (l ++ l2) k = cIn l2 (k - l.length) := by
  rw [cIn, cIn, List.getD_eq_getElem?_getD, List.getD_eq_getElem?_getD, List.getElem?_append_right h]
theorem cdF.add {s o t : Nat → Int32} {l : Cd} (h : cdF s o t l) (x : Ins) : cdF (upd s l.length x.1) (upd o l.length x.2.1) (upd t l.length x.2.2) (l ++ [x]) := by
  intro k hk
  rw [List.length_append, List.length_singleton] at hk
  by_cases hk2 : k = l.length
  · subst hk2
    rw [pk_us, pk_us, pk_us, cIn_app2 (Nat.le_refl _), Nat.sub_self]
    rfl
  · rw [pk_un hk2, pk_un hk2, pk_un hk2, cIn_app (by omega)]
    exact h k (by omega)
def cInsert (p : Nat) (x : Ins) (l : Cd) : Cd := l.take p ++ x :: l.drop p
theorem cInsert_len {p : Nat} {x : Ins} {l : Cd} (hp : p ≤ l.length) : (cInsert p x l).length = l.length + 1 := by
  rw [cInsert, List.length_append, List.length_cons, List.length_take, List.length_drop, Nat.min_eq_left hp]
  omega
def shf (f : Nat → Int32) (k n : Nat) (j : Nat) : Int32 := if k < j ∧ j ≤ n then f (j - 1) else f j
theorem shf_0 (f : Nat → Int32) (n : Nat) : shf f n n = f := by
  funext j
  rw [shf, if_neg (by omega)]
theorem shf_step {f : Nat → Int32} {k n : Nat} (h : k < n) : upd (shf f (k + 1) n) (k + 1) (shf f (k + 1) n k) = shf f k n := by
  funext j
  by_cases hj : j = k + 1
  · subst hj
    rw [pk_us, shf, shf, if_neg (by omega), if_pos (by omega)]
    rfl
  · rw [pk_un hj, shf, shf]
    by_cases h2 : k + 1 < j ∧ j ≤ n
    · rw [if_pos h2, if_pos (by omega)]
    · rw [if_neg h2, if_neg (by omega)]
theorem cdF.ins {s o t : Nat → Int32} {l : Cd} (h : cdF s o t l) {p : Nat} (hp : p ≤ l.length) (x : Ins) : cdF (upd (shf s p l.length) p x.1) (upd (shf o p l.length) p x.2.1) (upd (shf t p l.length) p x.2.2) (cInsert p x l) := by
  intro k hk
  rw [cInsert_len hp] at hk
  have hlt : (l.take p).length = p := by rw [List.length_take, Nat.min_eq_left hp]
  by_cases h1 : k = p
  · subst h1
    rw [pk_us, pk_us, pk_us, cInsert, cIn_app2 (by omega), hlt, Nat.sub_self]
    rfl
  · rw [pk_un h1, pk_un h1, pk_un h1, cInsert]
    by_cases h2 : k < p
    · rw [cIn_app (by omega), shf, shf, shf, if_neg (by omega), if_neg (by omega), if_neg (by omega), h k (by omega), cIn, cIn, List.getD_eq_getElem?_getD, List.getD_eq_getElem?_getD, List.getElem?_take, if_pos h2]
    · rw [cIn_app2 (by omega), hlt, shf, shf, shf, if_pos (by omega), if_pos (by omega), if_pos (by omega), h (k - 1) (by omega)]
      obtain ⟨j, rfl⟩ : ∃ j, k = p + (j + 1) := ⟨k - p - 1, by omega⟩
      rw [show p + (j + 1) - p = j + 1 by omega, cIn, cIn, List.getD_eq_getElem?_getD, List.getD_eq_getElem?_getD, List.getElem?_cons_succ, List.getElem?_drop]
      rfl
section M5
variable {E : xE} {h : xH} {A : MA3} {B : MB} {w : WS} {D : MD}
theorem c_MO_add (hE : xOK E) (hm : MoW E h A B w D) (hl : w.1.length < 130) (x a b : Int32) : wpc E 0 m_MO_add [.ref (xb E + 21), .int x, .int a, .int b] h (fun r' h' => r' = none ∧ mfr E h h' ∧ MoW E h' A B (w.1 ++ [(x, a, b)], w.2) D) := by
  obtain ⟨s, o, t, hc, hl0, hm⟩ := hm
  obtain ⟨fp, ft, fo, qq, o21, a22, a23, a24, a25, a26, a27, a28, a29, a30, a31, a32, a33, a34, a35, a36, a37, a38, a39, a40⟩ := hm
  refine wpc_of rfl (Nat.le_of_ble_eq_true rfl) ?_
  refine wp_aload_n d_MO_add_0 rfl rfl ?_
  refine wp_get xf_MO_35 d_MO_add_1 (by repeat first | exact xg_eq | exact xn_eq (by first | rfl | omega) | refine xg_ne (by first | omega | assumption | (simp only [xput, xnew]; omega)) ?_ | refine xn_ne (by first | omega | assumption | (simp only [xput, xnew]; omega)) ?_ | assumption | exact rfl) (by rfl) ?_
  refine wp_aload_n d_MO_add_4 rfl rfl ?_
  refine wp_get xf_MO_126 d_MO_add_5 (by repeat first | exact xg_eq | exact xn_eq (by first | rfl | omega) | refine xg_ne (by first | omega | assumption | (simp only [xput, xnew]; omega)) ?_ | refine xn_ne (by first | omega | assumption | (simp only [xput, xnew]; omega)) ?_ | assumption | exact rfl) (by rfl) ?_
  refine wp_iload_n d_MO_add_8 rfl rfl ?_
  refine wp_iast d_MO_add_9 (by repeat first | exact xg_eq | exact xn_eq (by first | rfl | omega) | refine xg_ne (by first | omega | assumption | (simp only [xput, xnew]; omega)) ?_ | refine xn_ne (by first | omega | assumption | (simp only [xput, xnew]; omega)) ?_ | assumption | exact rfl) hE.i (vp_in_nI hl (by omega)) ?_
  rw [nI_clamp (by first | omega | (dsimp only; omega))]
  refine wp_aload_n d_MO_add_10 rfl rfl ?_
  refine wp_get xf_MO_38 d_MO_add_11 (by repeat first | exact xg_eq | exact xn_eq (by first | rfl | omega) | refine xg_ne (by first | omega | assumption | (simp only [xput, xnew]; omega)) ?_ | refine xn_ne (by first | omega | assumption | (simp only [xput, xnew]; omega)) ?_ | assumption | exact rfl) (by rfl) ?_
  refine wp_aload_n d_MO_add_14 rfl rfl ?_
  refine wp_get xf_MO_126 d_MO_add_15 (by repeat first | exact xg_eq | exact xn_eq (by first | rfl | omega) | refine xg_ne (by first | omega | assumption | (simp only [xput, xnew]; omega)) ?_ | refine xn_ne (by first | omega | assumption | (simp only [xput, xnew]; omega)) ?_ | assumption | exact rfl) (by rfl) ?_
  refine wp_iload_n d_MO_add_18 rfl rfl ?_
  refine wp_iast d_MO_add_19 (by repeat first | exact xg_eq | exact xn_eq (by first | rfl | omega) | refine xg_ne (by first | omega | assumption | (simp only [xput, xnew]; omega)) ?_ | refine xn_ne (by first | omega | assumption | (simp only [xput, xnew]; omega)) ?_ | assumption | exact rfl) hE.i (vp_in_nI hl (by omega)) ?_
  rw [nI_clamp (by first | omega | (dsimp only; omega))]
  refine wp_aload_n d_MO_add_20 rfl rfl ?_
  refine wp_get xf_MO_41 d_MO_add_21 (by repeat first | exact xg_eq | exact xn_eq (by first | rfl | omega) | refine xg_ne (by first | omega | assumption | (simp only [xput, xnew]; omega)) ?_ | refine xn_ne (by first | omega | assumption | (simp only [xput, xnew]; omega)) ?_ | assumption | exact rfl) (by rfl) ?_
  refine wp_aload_n d_MO_add_24 rfl rfl ?_
  refine wp_get xf_MO_126 d_MO_add_25 (by repeat first | exact xg_eq | exact xn_eq (by first | rfl | omega) | refine xg_ne (by first | omega | assumption | (simp only [xput, xnew]; omega)) ?_ | refine xn_ne (by first | omega | assumption | (simp only [xput, xnew]; omega)) ?_ | assumption | exact rfl) (by rfl) ?_
  refine wp_iload_n d_MO_add_28 rfl rfl ?_
  refine wp_iast d_MO_add_29 (by repeat first | exact xg_eq | exact xn_eq (by first | rfl | omega) | refine xg_ne (by first | omega | assumption | (simp only [xput, xnew]; omega)) ?_ | refine xn_ne (by first | omega | assumption | (simp only [xput, xnew]; omega)) ?_ | assumption | exact rfl) hE.i (vp_in_nI hl (by omega)) ?_
  rw [nI_clamp (by first | omega | (dsimp only; omega))]
  refine wp_aload_n d_MO_add_30 rfl rfl ?_
  refine wp_dup d_MO_add_31 rfl ?_
  refine wp_get xf_MO_126 d_MO_add_32 (by repeat first | exact xg_eq | exact xn_eq (by first | rfl | omega) | refine xg_ne (by first | omega | assumption | (simp only [xput, xnew]; omega)) ?_ | refine xn_ne (by first | omega | assumption | (simp only [xput, xnew]; omega)) ?_ | assumption | exact rfl) (by rfl) ?_
  refine wp_iconst (v := 1) d_MO_add_35 (by rfl) ?_
  refine wp_iadd d_MO_add_36 ?_
  rw [show nI (s, o, t, w.1.length, w.2).2.2.2.1 + 1 = nI (w.1.length + 1) from (nI_succ _).symm]
  refine wp_put xf_MO_126 xg_MO (Or.inl rfl) d_MO_add_37 (by repeat first | exact xg_eq | exact xn_eq (by first | rfl | omega) | refine xg_ne (by first | omega | assumption | (simp only [xput, xnew]; omega)) ?_ | refine xn_ne (by first | omega | assumption | (simp only [xput, xnew]; omega)) ?_ | assumption | exact rfl) (by first | rfl | assumption | exact bI_z _) (by first | rfl | assumption | exact bI_f _) (Nat.le_of_ble_eq_true rfl) ?_
  refine wp_return d_MO_add_40 rfl ?_
  have e1 : (w.1 ++ [(x, a, b)]).length = w.1.length + 1 := by rw [List.length_append, List.length_singleton]
  refine ⟨rfl, (((mfr.rf.put (by omega)).put (by omega)).put (by omega)).put (by omega), _, _, _, hc.add (x, a, b), (by first | omega | (dsimp only; omega)), ?_⟩
  show Mo E _ A B (_, _, _, (w.1 ++ [(x, a, b)]).length, w.2) D
  rw [e1]
  exact ⟨fp, ft, fo, qq, (by first | (repeat (refine xg_ne (by omega) ?_)); first | exact xg_eq | exact o21), (by first | (repeat (refine xg_ne (by omega) ?_)); first | exact xg_eq | exact a22), (by first | (repeat (refine xg_ne (by omega) ?_)); first | exact xg_eq | exact a23), (by first | (repeat (refine xg_ne (by omega) ?_)); first | exact xg_eq | exact a24), (by first | (repeat (refine xg_ne (by omega) ?_)); first | exact xg_eq | exact a25), (by first | (repeat (refine xg_ne (by omega) ?_)); first | exact xg_eq | exact a26), (by first | (repeat (refine xg_ne (by omega) ?_)); first | exact xg_eq | exact a27), (by first | (repeat (refine xg_ne (by omega) ?_)); first | exact xg_eq | exact a28), (by first | (repeat (refine xg_ne (by omega) ?_)); first | exact xg_eq | exact a29), (by first | (repeat (refine xg_ne (by omega) ?_)); first | exact xg_eq | exact a30), (by first | (repeat (refine xg_ne (by omega) ?_)); first | exact xg_eq | exact a31), (by first | (repeat (refine xg_ne (by omega) ?_)); first | exact xg_eq | exact a32), (by first | (repeat (refine xg_ne (by omega) ?_)); first | exact xg_eq | exact a33), (by first | (repeat (refine xg_ne (by omega) ?_)); first | exact xg_eq | exact a34), (by first | (repeat (refine xg_ne (by omega) ?_)); first | exact xg_eq | exact a35), (by first | (repeat (refine xg_ne (by omega) ?_)); first | exact xg_eq | exact a36), (by first | (repeat (refine xg_ne (by omega) ?_)); first | exact xg_eq | exact a37), (by first | (repeat (refine xg_ne (by omega) ?_)); first | exact xg_eq | exact a38), (by first | (repeat (refine xg_ne (by omega) ?_)); first | exact xg_eq | exact a39), (by first | (repeat (refine xg_ne (by omega) ?_)); first | exact xg_eq | exact a40)⟩
theorem c_MO_insert (hE : xOK E) (hm : MoW E h A B w D) (hl : w.1.length < 130) {p : Nat} (hp0 : p ≤ w.1.length) (a b : Int32) : wpc E 0 m_MO_insert [.ref (xb E + 21), .int (nI p), .int a, .int b] h (fun r' h' => r' = none ∧ mfr E h h' ∧ MoW E h' A B (cInsert p (6, a, b) w.1, w.2) D) := by
  obtain ⟨s, o, t, hc, hl0, hm⟩ := hm
  have fin : ∀ (g : xH) (k : Int32), mfr E h g → Mo E g A B (shf s p w.1.length, shf o p w.1.length, shf t p w.1.length, w.1.length, w.2) D → wp E 0 m_MO_insert 66 [(0, .ref (xb E + 21)), (1, .int (nI p)), (2, .int a), (3, .int b), (4, .int k)] [] g (fun r' h' => r' = none ∧ mfr E h h' ∧ MoW E h' A B (cInsert p (6, a, b) w.1, w.2) D) := by
    intro g k fg mg
    obtain ⟨fp, ft, fo, qq, o21, a22, a23, a24, a25, a26, a27, a28, a29, a30, a31, a32, a33, a34, a35, a36, a37, a38, a39, a40⟩ := mg
    refine wp_aload_n d_MO_insert_66 rfl rfl ?_
    refine wp_dup d_MO_insert_67 rfl ?_
    refine wp_get xf_MO_126 d_MO_insert_68 (by repeat first | exact xg_eq | exact xn_eq (by first | rfl | omega) | refine xg_ne (by first | omega | assumption | (simp only [xput, xnew]; omega)) ?_ | refine xn_ne (by first | omega | assumption | (simp only [xput, xnew]; omega)) ?_ | assumption | exact rfl) (by rfl) ?_
    refine wp_iconst (v := 1) d_MO_insert_71 (by rfl) ?_
    refine wp_iadd d_MO_insert_72 ?_
    rw [show nI (shf s p w.1.length, shf o p w.1.length, shf t p w.1.length, w.1.length, w.2).2.2.2.1 + 1 = nI (w.1.length + 1) from (nI_succ _).symm]
    refine wp_put xf_MO_126 xg_MO (Or.inl rfl) d_MO_insert_73 (by repeat first | exact xg_eq | exact xn_eq (by first | rfl | omega) | refine xg_ne (by first | omega | assumption | (simp only [xput, xnew]; omega)) ?_ | refine xn_ne (by first | omega | assumption | (simp only [xput, xnew]; omega)) ?_ | assumption | exact rfl) (by first | rfl | assumption | exact bI_z _) (by first | rfl | assumption | exact bI_f _) (Nat.le_of_ble_eq_true rfl) ?_
    refine wp_aload_n d_MO_insert_76 rfl rfl ?_
    refine wp_get xf_MO_35 d_MO_insert_77 (by repeat first | exact xg_eq | exact xn_eq (by first | rfl | omega) | refine xg_ne (by first | omega | assumption | (simp only [xput, xnew]; omega)) ?_ | refine xn_ne (by first | omega | assumption | (simp only [xput, xnew]; omega)) ?_ | assumption | exact rfl) (by rfl) ?_
    refine wp_iload_n d_MO_insert_80 rfl rfl ?_
    refine wp_bipush (v := 6) d_MO_insert_81 (by rfl) ?_
    refine wp_iast d_MO_insert_83 (by repeat first | exact xg_eq | exact xn_eq (by first | rfl | omega) | refine xg_ne (by first | omega | assumption | (simp only [xput, xnew]; omega)) ?_ | refine xn_ne (by first | omega | assumption | (simp only [xput, xnew]; omega)) ?_ | assumption | exact rfl) hE.i (vp_in_nI (by omega) (by omega)) ?_
    rw [nI_clamp (by omega)]
    refine wp_aload_n d_MO_insert_84 rfl rfl ?_
    refine wp_get xf_MO_38 d_MO_insert_85 (by repeat first | exact xg_eq | exact xn_eq (by first | rfl | omega) | refine xg_ne (by first | omega | assumption | (simp only [xput, xnew]; omega)) ?_ | refine xn_ne (by first | omega | assumption | (simp only [xput, xnew]; omega)) ?_ | assumption | exact rfl) (by rfl) ?_
    refine wp_iload_n d_MO_insert_88 rfl rfl ?_
    refine wp_iload_n d_MO_insert_89 rfl rfl ?_
    refine wp_iast d_MO_insert_90 (by repeat first | exact xg_eq | exact xn_eq (by first | rfl | omega) | refine xg_ne (by first | omega | assumption | (simp only [xput, xnew]; omega)) ?_ | refine xn_ne (by first | omega | assumption | (simp only [xput, xnew]; omega)) ?_ | assumption | exact rfl) hE.i (vp_in_nI (by omega) (by omega)) ?_
    rw [nI_clamp (by omega)]
    refine wp_aload_n d_MO_insert_91 rfl rfl ?_
    refine wp_get xf_MO_41 d_MO_insert_92 (by repeat first | exact xg_eq | exact xn_eq (by first | rfl | omega) | refine xg_ne (by first | omega | assumption | (simp only [xput, xnew]; omega)) ?_ | refine xn_ne (by first | omega | assumption | (simp only [xput, xnew]; omega)) ?_ | assumption | exact rfl) (by rfl) ?_
    refine wp_iload_n d_MO_insert_95 rfl rfl ?_
    refine wp_iload_n d_MO_insert_96 rfl rfl ?_
    refine wp_iast d_MO_insert_97 (by repeat first | exact xg_eq | exact xn_eq (by first | rfl | omega) | refine xg_ne (by first | omega | assumption | (simp only [xput, xnew]; omega)) ?_ | refine xn_ne (by first | omega | assumption | (simp only [xput, xnew]; omega)) ?_ | assumption | exact rfl) hE.i (vp_in_nI (by omega) (by omega)) ?_
    rw [nI_clamp (by omega)]
    refine wp_return d_MO_insert_98 rfl ?_
    have e1 := cInsert_len (x := (6, a, b)) hp0
    refine ⟨rfl, (((fg.put (by omega)).put (by omega)).put (by omega)).put (by omega), _, _, _, hc.ins hp0 (6, a, b), (by first | omega | (dsimp only; omega)), ?_⟩
    show Mo E _ A B (_, _, _, (cInsert p (6, a, b) w.1).length, w.2) D
    rw [e1]
    exact ⟨fp, ft, fo, qq, (by first | (repeat (refine xg_ne (by omega) ?_)); first | exact xg_eq | exact o21), (by first | (repeat (refine xg_ne (by omega) ?_)); first | exact xg_eq | exact a22), (by first | (repeat (refine xg_ne (by omega) ?_)); first | exact xg_eq | exact a23), (by first | (repeat (refine xg_ne (by omega) ?_)); first | exact xg_eq | exact a24), (by first | (repeat (refine xg_ne (by omega) ?_)); first | exact xg_eq | exact a25), (by first | (repeat (refine xg_ne (by omega) ?_)); first | exact xg_eq | exact a26), (by first | (repeat (refine xg_ne (by omega) ?_)); first | exact xg_eq | exact a27), (by first | (repeat (refine xg_ne (by omega) ?_)); first | exact xg_eq | exact a28), (by first | (repeat (refine xg_ne (by omega) ?_)); first | exact xg_eq | exact a29), (by first | (repeat (refine xg_ne (by omega) ?_)); first | exact xg_eq | exact a30), (by first | (repeat (refine xg_ne (by omega) ?_)); first | exact xg_eq | exact a31), (by first | (repeat (refine xg_ne (by omega) ?_)); first | exact xg_eq | exact a32), (by first | (repeat (refine xg_ne (by omega) ?_)); first | exact xg_eq | exact a33), (by first | (repeat (refine xg_ne (by omega) ?_)); first | exact xg_eq | exact a34), (by first | (repeat (refine xg_ne (by omega) ?_)); first | exact xg_eq | exact a35), (by first | (repeat (refine xg_ne (by omega) ?_)); first | exact xg_eq | exact a36), (by first | (repeat (refine xg_ne (by omega) ?_)); first | exact xg_eq | exact a37), (by first | (repeat (refine xg_ne (by omega) ?_)); first | exact xg_eq | exact a38), (by first | (repeat (refine xg_ne (by omega) ?_)); first | exact xg_eq | exact a39), (by first | (repeat (refine xg_ne (by omega) ?_)); first | exact xg_eq | exact a40)⟩
  have lp : ∀ (q k : Nat) (g : xH), k = p + q → k ≤ w.1.length → mfr E h g → Mo E g A B (shf s k w.1.length, shf o k w.1.length, shf t k w.1.length, w.1.length, w.2) D → wp E 0 m_MO_insert 6 [(0, .ref (xb E + 21)), (1, .int (nI p)), (2, .int a), (3, .int b), (4, .int (nI k))] [] g (fun r' h' => r' = none ∧ mfr E h h' ∧ MoW E h' A B (cInsert p (6, a, b) w.1, w.2) D) := by
    intro q
    induction q with
    | zero =>
      intro k g hk hkl fg mg
      have hk : k = p := hk
      subst hk
      refine wp_iload d_MO_insert_6 rfl ?_
      refine wp_iload_n d_MO_insert_8 rfl rfl ?_
      refine wp_icmp_le (tgt := 66) d_MO_insert_9 (by decide) (fun hc => ?_) (fun hc => ?_)
      · exact fin g _ fg mg
      · exact absurd (Int32.le_refl _) hc
    | succ q ih =>
      intro k g hk hkl fg mg
      obtain ⟨k, rfl⟩ : ∃ k', k = k' + 1 := ⟨p + q, by omega⟩
      obtain ⟨fp, ft, fo, qq, o21, a22, a23, a24, a25, a26, a27, a28, a29, a30, a31, a32, a33, a34, a35, a36, a37, a38, a39, a40⟩ := mg
      refine wp_iload d_MO_insert_6 rfl ?_
      refine wp_iload_n d_MO_insert_8 rfl rfl ?_
      refine wp_icmp_le (tgt := 66) d_MO_insert_9 (by decide) (fun hc => ?_) (fun hc => ?_)
      · exact absurd ((nI_leI (by omega) (by omega)).mp hc) (by omega)
      refine wp_aload_n d_MO_insert_12 rfl rfl ?_
      refine wp_get xf_MO_35 d_MO_insert_13 (by repeat first | exact xg_eq | exact xn_eq (by first | rfl | omega) | refine xg_ne (by first | omega | assumption | (simp only [xput, xnew]; omega)) ?_ | refine xn_ne (by first | omega | assumption | (simp only [xput, xnew]; omega)) ?_ | assumption | exact rfl) (by rfl) ?_
      refine wp_iload d_MO_insert_16 rfl ?_
      refine wp_aload_n d_MO_insert_18 rfl rfl ?_
      refine wp_get xf_MO_35 d_MO_insert_19 (by repeat first | exact xg_eq | exact xn_eq (by first | rfl | omega) | refine xg_ne (by first | omega | assumption | (simp only [xput, xnew]; omega)) ?_ | refine xn_ne (by first | omega | assumption | (simp only [xput, xnew]; omega)) ?_ | assumption | exact rfl) (by rfl) ?_
      refine wp_iload d_MO_insert_22 rfl ?_
      refine wp_iconst (v := 1) d_MO_insert_24 (by rfl) ?_
      refine wp_isub d_MO_insert_25 ?_
      rw [show nI (k + 1) - 1 = nI k from nI_pred k]
      refine wp_iald d_MO_insert_26 (by repeat first | exact xg_eq | exact xn_eq (by first | rfl | omega) | refine xg_ne (by first | omega | assumption | (simp only [xput, xnew]; omega)) ?_ | refine xn_ne (by first | omega | assumption | (simp only [xput, xnew]; omega)) ?_ | assumption | exact rfl) hE.i (vp_in_nI (by omega) (by omega)) ?_
      rw [nI_clamp (by omega)]
      refine wp_iast d_MO_insert_27 (by repeat first | exact xg_eq | exact xn_eq (by first | rfl | omega) | refine xg_ne (by first | omega | assumption | (simp only [xput, xnew]; omega)) ?_ | refine xn_ne (by first | omega | assumption | (simp only [xput, xnew]; omega)) ?_ | assumption | exact rfl) hE.i (vp_in_nI (by omega) (by omega)) ?_
      rw [nI_clamp (by omega)]
      refine wp_aload_n d_MO_insert_28 rfl rfl ?_
      refine wp_get xf_MO_38 d_MO_insert_29 (by repeat first | exact xg_eq | exact xn_eq (by first | rfl | omega) | refine xg_ne (by first | omega | assumption | (simp only [xput, xnew]; omega)) ?_ | refine xn_ne (by first | omega | assumption | (simp only [xput, xnew]; omega)) ?_ | assumption | exact rfl) (by rfl) ?_
      refine wp_iload d_MO_insert_32 rfl ?_
      refine wp_aload_n d_MO_insert_34 rfl rfl ?_
      refine wp_get xf_MO_38 d_MO_insert_35 (by repeat first | exact xg_eq | exact xn_eq (by first | rfl | omega) | refine xg_ne (by first | omega | assumption | (simp only [xput, xnew]; omega)) ?_ | refine xn_ne (by first | omega | assumption | (simp only [xput, xnew]; omega)) ?_ | assumption | exact rfl) (by rfl) ?_
      refine wp_iload d_MO_insert_38 rfl ?_
      refine wp_iconst (v := 1) d_MO_insert_40 (by rfl) ?_
      refine wp_isub d_MO_insert_41 ?_
      rw [show nI (k + 1) - 1 = nI k from nI_pred k]
      refine wp_iald d_MO_insert_42 (by repeat first | exact xg_eq | exact xn_eq (by first | rfl | omega) | refine xg_ne (by first | omega | assumption | (simp only [xput, xnew]; omega)) ?_ | refine xn_ne (by first | omega | assumption | (simp only [xput, xnew]; omega)) ?_ | assumption | exact rfl) hE.i (vp_in_nI (by omega) (by omega)) ?_
      rw [nI_clamp (by omega)]
      refine wp_iast d_MO_insert_43 (by repeat first | exact xg_eq | exact xn_eq (by first | rfl | omega) | refine xg_ne (by first | omega | assumption | (simp only [xput, xnew]; omega)) ?_ | refine xn_ne (by first | omega | assumption | (simp only [xput, xnew]; omega)) ?_ | assumption | exact rfl) hE.i (vp_in_nI (by omega) (by omega)) ?_
      rw [nI_clamp (by omega)]
      refine wp_aload_n d_MO_insert_44 rfl rfl ?_
      refine wp_get xf_MO_41 d_MO_insert_45 (by repeat first | exact xg_eq | exact xn_eq (by first | rfl | omega) | refine xg_ne (by first | omega | assumption | (simp only [xput, xnew]; omega)) ?_ | refine xn_ne (by first | omega | assumption | (simp only [xput, xnew]; omega)) ?_ | assumption | exact rfl) (by rfl) ?_
      refine wp_iload d_MO_insert_48 rfl ?_
      refine wp_aload_n d_MO_insert_50 rfl rfl ?_
      refine wp_get xf_MO_41 d_MO_insert_51 (by repeat first | exact xg_eq | exact xn_eq (by first | rfl | omega) | refine xg_ne (by first | omega | assumption | (simp only [xput, xnew]; omega)) ?_ | refine xn_ne (by first | omega | assumption | (simp only [xput, xnew]; omega)) ?_ | assumption | exact rfl) (by rfl) ?_
      refine wp_iload d_MO_insert_54 rfl ?_
      refine wp_iconst (v := 1) d_MO_insert_56 (by rfl) ?_
      refine wp_isub d_MO_insert_57 ?_
      rw [show nI (k + 1) - 1 = nI k from nI_pred k]
      refine wp_iald d_MO_insert_58 (by repeat first | exact xg_eq | exact xn_eq (by first | rfl | omega) | refine xg_ne (by first | omega | assumption | (simp only [xput, xnew]; omega)) ?_ | refine xn_ne (by first | omega | assumption | (simp only [xput, xnew]; omega)) ?_ | assumption | exact rfl) hE.i (vp_in_nI (by omega) (by omega)) ?_
      rw [nI_clamp (by omega)]
      refine wp_iast d_MO_insert_59 (by repeat first | exact xg_eq | exact xn_eq (by first | rfl | omega) | refine xg_ne (by first | omega | assumption | (simp only [xput, xnew]; omega)) ?_ | refine xn_ne (by first | omega | assumption | (simp only [xput, xnew]; omega)) ?_ | assumption | exact rfl) hE.i (vp_in_nI (by omega) (by omega)) ?_
      rw [nI_clamp (by omega)]
      refine wp_iinc d_MO_insert_60 rfl rfl (by decide) rfl ?_
      refine wp_goto (tgt := 6) d_MO_insert_63 (by decide) ?_
      rw [show nI (k + 1) + Int32.ofInt (-1) = nI k from pk_m1 k]
      refine ih k _ (by omega) (by omega) (((fg.put (by omega)).put (by omega)).put (by omega)) ?_
      rw [← shf_step (f := s) (k := k) (by omega), ← shf_step (f := o) (k := k) (by omega), ← shf_step (f := t) (k := k) (by omega)]
      exact ⟨fp, ft, fo, qq, (by first | (repeat (refine xg_ne (by omega) ?_)); first | exact xg_eq | exact o21), (by first | (repeat (refine xg_ne (by omega) ?_)); first | exact xg_eq | exact a22), (by first | (repeat (refine xg_ne (by omega) ?_)); first | exact xg_eq | exact a23), (by first | (repeat (refine xg_ne (by omega) ?_)); first | exact xg_eq | exact a24), (by first | (repeat (refine xg_ne (by omega) ?_)); first | exact xg_eq | exact a25), (by first | (repeat (refine xg_ne (by omega) ?_)); first | exact xg_eq | exact a26), (by first | (repeat (refine xg_ne (by omega) ?_)); first | exact xg_eq | exact a27), (by first | (repeat (refine xg_ne (by omega) ?_)); first | exact xg_eq | exact a28), (by first | (repeat (refine xg_ne (by omega) ?_)); first | exact xg_eq | exact a29), (by first | (repeat (refine xg_ne (by omega) ?_)); first | exact xg_eq | exact a30), (by first | (repeat (refine xg_ne (by omega) ?_)); first | exact xg_eq | exact a31), (by first | (repeat (refine xg_ne (by omega) ?_)); first | exact xg_eq | exact a32), (by first | (repeat (refine xg_ne (by omega) ?_)); first | exact xg_eq | exact a33), (by first | (repeat (refine xg_ne (by omega) ?_)); first | exact xg_eq | exact a34), (by first | (repeat (refine xg_ne (by omega) ?_)); first | exact xg_eq | exact a35), (by first | (repeat (refine xg_ne (by omega) ?_)); first | exact xg_eq | exact a36), (by first | (repeat (refine xg_ne (by omega) ?_)); first | exact xg_eq | exact a37), (by first | (repeat (refine xg_ne (by omega) ?_)); first | exact xg_eq | exact a38), (by first | (repeat (refine xg_ne (by omega) ?_)); first | exact xg_eq | exact a39), (by first | (repeat (refine xg_ne (by omega) ?_)); first | exact xg_eq | exact a40)⟩
  have ho := hm.obj
  refine wpc_of rfl (Nat.le_of_ble_eq_true rfl) ?_
  refine wp_aload_n d_MO_insert_0 rfl rfl ?_
  refine wp_get xf_MO_126 d_MO_insert_1 (by repeat first | exact xg_eq | exact xn_eq (by first | rfl | omega) | refine xg_ne (by first | omega | assumption | (simp only [xput, xnew]; omega)) ?_ | refine xn_ne (by first | omega | assumption | (simp only [xput, xnew]; omega)) ?_ | assumption | exact rfl) (by rfl) ?_
  refine wp_istore d_MO_insert_4 (by decide) rfl ?_
  exact lp (w.1.length - p) w.1.length h (by omega) (Nat.le_refl _) mfr.rf (by rw [shf_0, shf_0, shf_0]; exact hm)
def cpF (f n : Nat) (l : Cd) : Cd := l ++ (l.drop f).take n
theorem cIn_take {l : Cd} {f j : Nat} (h : f + j < l.length) : (l.drop f).take j ++ [cIn l (f + j)] = (l.drop f).take (j + 1) := by
  rw [List.take_succ, List.getElem?_drop, cIn, List.getD_eq_getElem?_getD, List.getElem?_eq_getElem h]
  rfl
theorem c_MO_copy (hE : xOK E) (hm : MoW E h A B w D) {f n : Nat} (h1 : f + n ≤ w.1.length) (h2 : w.1.length + n ≤ 130) : wpc E 1 m_MO_copy [.ref (xb E + 21), .int (nI f), .int (nI n)] h (fun r' h' => r' = none ∧ mfr E h h' ∧ MoW E h' A B (cpF f n w.1, w.2) D) := by
  have lp : ∀ (q j : Nat) (g : xH), q + j = n → mfr E h g → MoW E g A B (w.1 ++ (w.1.drop f).take j, w.2) D → wp E 1 m_MO_copy 2 [(0, .ref (xb E + 21)), (1, .int (nI f)), (2, .int (nI n)), (3, .int (nI (f + j)))] [] g (fun r' h' => r' = none ∧ mfr E h h' ∧ MoW E h' A B (cpF f n w.1, w.2) D) := by
    intro q
    induction q with
    | zero =>
      intro j g hj fg mg
      have hj : j = n := by omega
      subst hj
      refine wp_iload_n d_MO_copy_2 rfl rfl ?_
      refine wp_iload_n d_MO_copy_3 rfl rfl ?_
      refine wp_iload_n d_MO_copy_4 rfl rfl ?_
      refine wp_iadd d_MO_copy_5 ?_
      rw [nI_add]
      refine wp_icmp_ge (tgt := 37) d_MO_copy_6 (by decide) (fun hc => ?_) (fun hc => ?_)
      · refine wp_return d_MO_copy_37 rfl ?_
        exact ⟨rfl, fg, mg⟩
      · exact absurd (Int32.le_refl _) hc
    | succ q ih =>
      intro j g hj fg mg
      refine wp_iload_n d_MO_copy_2 rfl rfl ?_
      refine wp_iload_n d_MO_copy_3 rfl rfl ?_
      refine wp_iload_n d_MO_copy_4 rfl rfl ?_
      refine wp_iadd d_MO_copy_5 ?_
      rw [nI_add]
      refine wp_icmp_ge (tgt := 37) d_MO_copy_6 (by decide) (fun hc => ?_) (fun hc => ?_)
      · exact absurd ((nI_leI (by omega) (by omega)).mp hc) (by omega)
      have hlen : (w.1 ++ (w.1.drop f).take j).length = w.1.length + j := by
        rw [List.length_append, List.length_take, List.length_drop, Nat.min_eq_left (by omega)]
      obtain ⟨s, o, t, hcd, hl0, hm2⟩ := id mg
      have hel := hcd (f + j) (by first | omega | (dsimp only; omega))
      rw [cIn_app (by omega)] at hel
      obtain ⟨fp, ft, fo, qq, o21, a22, a23, a24, a25, a26, a27, a28, a29, a30, a31, a32, a33, a34, a35, a36, a37, a38, a39, a40⟩ := hm2
      refine wp_aload_n d_MO_copy_9 rfl rfl ?_
      refine wp_aload_n d_MO_copy_10 rfl rfl ?_
      refine wp_get xf_MO_35 d_MO_copy_11 (by repeat first | exact xg_eq | exact xn_eq (by first | rfl | omega) | refine xg_ne (by first | omega | assumption | (simp only [xput, xnew]; omega)) ?_ | refine xn_ne (by first | omega | assumption | (simp only [xput, xnew]; omega)) ?_ | assumption | exact rfl) (by rfl) ?_
      refine wp_iload_n d_MO_copy_14 rfl rfl ?_
      refine wp_iald d_MO_copy_15 (by repeat first | exact xg_eq | exact xn_eq (by first | rfl | omega) | refine xg_ne (by first | omega | assumption | (simp only [xput, xnew]; omega)) ?_ | refine xn_ne (by first | omega | assumption | (simp only [xput, xnew]; omega)) ?_ | assumption | exact rfl) hE.i (vp_in_nI (by omega) (by omega)) ?_
      rw [nI_clamp (by omega)]
      refine wp_aload_n d_MO_copy_16 rfl rfl ?_
      refine wp_get xf_MO_38 d_MO_copy_17 (by repeat first | exact xg_eq | exact xn_eq (by first | rfl | omega) | refine xg_ne (by first | omega | assumption | (simp only [xput, xnew]; omega)) ?_ | refine xn_ne (by first | omega | assumption | (simp only [xput, xnew]; omega)) ?_ | assumption | exact rfl) (by rfl) ?_
      refine wp_iload_n d_MO_copy_20 rfl rfl ?_
      refine wp_iald d_MO_copy_21 (by repeat first | exact xg_eq | exact xn_eq (by first | rfl | omega) | refine xg_ne (by first | omega | assumption | (simp only [xput, xnew]; omega)) ?_ | refine xn_ne (by first | omega | assumption | (simp only [xput, xnew]; omega)) ?_ | assumption | exact rfl) hE.i (vp_in_nI (by omega) (by omega)) ?_
      rw [nI_clamp (by omega)]
      refine wp_aload_n d_MO_copy_22 rfl rfl ?_
      refine wp_get xf_MO_41 d_MO_copy_23 (by repeat first | exact xg_eq | exact xn_eq (by first | rfl | omega) | refine xg_ne (by first | omega | assumption | (simp only [xput, xnew]; omega)) ?_ | refine xn_ne (by first | omega | assumption | (simp only [xput, xnew]; omega)) ?_ | assumption | exact rfl) (by rfl) ?_
      refine wp_iload_n d_MO_copy_26 rfl rfl ?_
      refine wp_iald d_MO_copy_27 (by repeat first | exact xg_eq | exact xn_eq (by first | rfl | omega) | refine xg_ne (by first | omega | assumption | (simp only [xput, xnew]; omega)) ?_ | refine xn_ne (by first | omega | assumption | (simp only [xput, xnew]; omega)) ?_ | assumption | exact rfl) hE.i (vp_in_nI (by omega) (by omega)) ?_
      rw [nI_clamp (by omega)]
      refine wp_callV3 xc_MO_129 d_MO_copy_28 (Nat.le_of_ble_eq_true rfl) (by repeat first | exact xg_eq | exact xn_eq (by first | rfl | omega) | refine xg_ne (by first | omega | assumption | (simp only [xput, xnew]; omega)) ?_ | refine xn_ne (by first | omega | assumption | (simp only [xput, xnew]; omega)) ?_ | assumption | exact rfl) (c_MO_add hE mg (by show (w.1 ++ (w.1.drop f).take j).length < 130; omega) _ _ _) (by omega) (fun r g2 hp => ?_)
      obtain ⟨rfl, f2, m2⟩ := hp
      refine wp_iinc d_MO_copy_31 rfl rfl (by decide) rfl ?_
      refine wp_goto (tgt := 2) d_MO_copy_34 (by decide) ?_
      rw [show nI (f + j) + Int32.ofInt 1 = nI (f + (j + 1)) from (nI_succ (f + j)).symm]
      refine ih (j + 1) g2 (by omega) (fg.tr f2) ?_
      have hel2 : ((s (f + j), o (f + j), t (f + j)) : Ins) = cIn w.1 (f + j) := hel
      rw [← cIn_take (by omega), ← List.append_assoc, ← hel2]
      exact m2
  refine wpc_of rfl (Nat.le_of_ble_eq_true rfl) ?_
  refine wp_iload_n d_MO_copy_0 rfl rfl ?_
  refine wp_istore_n d_MO_copy_1 rfl (by decide) rfl ?_
  exact lp n 0 h rfl mfr.rf (by rw [List.take_zero, List.append_nil]; exact hm)
end M5
