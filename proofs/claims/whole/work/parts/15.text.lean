def xLen : List Nat := [13, 4]
def xByt : List (List Int32) := [[46, 91, 93, 94, 36, 124, 40, 41, 42, 43, 63, 123, 125], [91, 93, 94, 45]]
def xStr (E : xE) (kA kV : Nat → Nat) : Prop := vk_S 2 xLen xByt kA kV (xfree E) E.1 E.1.heap ∧ vk_R "PatternSearch$Reader" 155 ".[]^$|()*+?{}" (kA 0) E.1 ∧ vk_R "PatternSearch$Reader" 162 "[]^-" (kA 1) E.1 ∧ va_Z "java/lang/String" "COMPACT_STRINGS" "Z" (.int 1) (xfree E) E.1 E.1.heap
theorem xHR.low {E : xE} {h : xH} {H : Heap} (hR : xHR E h H) : ∀ a : Nat, a < E.1.heap.size → ¬ xfree E a → H[a]? = E.1.heap[a]? := fun a ha _ => hR.2.2 a ha
section XX
variable {E : xE} {d : Nat} {M : xM} {pc : Nat} {lo : List (Nat × Value)} {st : List Value} {h : xH} {P P' : Option Value → xH → Prop} {kA kV : Nat → Nat}
theorem wp_ldcS {tx : String} {idx q : Nat} (hZ : vk_R M.1.cls idx tx q E.1) (hd : decode M.2.1 pc = .ok (.ldc idx, 2)) (k : wp E d M (pc + 2) lo (.ref q :: st) h P) : wp E d M pc lo st h P :=
  wp_go (fun p l e R s m args below meth c Q cells slots H locs ls C _ _ _ hl kk => va_ldcS C.1 C.2.1 C.2.2.2.2.1 (hZ.warm C.2.2.2.2.2.2.1.2.1) hd (kk ls hl)) k
theorem wp_getX {o n ds : String} {idx q : Nat} {v : Value} (hZ : va_OF o n ds v q (xfree E) E.1 E.1.heap) (hl : Cond.fieldLink M.1.cls idx o n ds ∈ xGT) (hd : decode M.2.1 pc = .ok (.getfield idx, 3)) (k : wp E d M (pc + 3) lo (v :: st) h P) : wp E d M pc lo (.ref q :: st) h P :=
  wp_go (fun p l e R s m args below meth c Q cells slots H locs ls C _ _ hR hls kk => by
    obtain ⟨hx, hb, hr, hml, hown, hlk, hK, hnm⟩ := C
    obtain ⟨cf, k, fi, f, cell, h1, h2, h3, h4, h5, h6⟩ := (hZ.moved hK.2.1.alike).kept hR.low
    exact W.getf hx hb hown (x_hts hK _ hl) h1 h2 h3 h4 (v := v) h5 rfl rfl hd (kk ls hls)) k
theorem wp_getZ {o n ds : String} {idx : Nat} {v : Value} (hZ : va_Z o n ds v (xfree E) E.1 E.1.heap) (hl : Cond.fieldLink M.1.cls idx o n ds ∈ xGT) (hd : decode M.2.1 pc = .ok (.getstatic idx, 3)) (k : wp E d M (pc + 3) lo (v :: st) h P) : wp E d M pc lo st h P :=
  wp_go (fun p l e R s m args below meth c Q cells slots H locs ls C _ _ hR hls kk => by
    obtain ⟨hx, hb, hr, hml, hown, hlk, hK, hnm⟩ := C
    obtain ⟨cf, kf, fi, f, a, cell, h1, h2, h3, h4, h5, h6, h7, h8⟩ := (hZ.moved hK.2.1.alike).kept hR.low
    exact W.gets hx hb hown (x_hts hK _ hl) h1 h2 h3 h4 h5 (fun e => by rw [e] at h6; cases h6) h7 rfl hd (kk ls hls)) k
theorem wp_lenX {t N : Nat} {f : Nat → Value} (hT : va_T .byte t N f (xfree E) E.1 E.1.heap) (hd : decode M.2.1 pc = .ok (.arraylength, 1)) (k : wp E d M (pc + 1) lo (.int (nI N) :: st) h P) : wp E d M pc lo (.ref t :: st) h P :=
  wp_go (fun p l e R s m args below meth c Q cells slots H locs ls C _ _ hR hls kk => by
    obtain ⟨hx, hb, hr, hml, hown, hlk, hK, hnm⟩ := C
    obtain ⟨cell, h1, h2, h3, h4, h5, h6, h7⟩ := (hT.moved hK.2.1.alike).kept hR.low
    exact W.alen hx hb h1 h2 h5 rfl rfl hd (kk ls hls)) k
theorem wp_baldX {t N : Nat} {f : Nat → Value} {i : Nat} {v : Value} (hT : va_T .byte t N f (xfree E) E.1 E.1.heap) (hi : i < N) (hN : N < 2 ^ 31) (hv : f i = v) (hd : decode M.2.1 pc = .ok (.baload, 1)) (k : wp E d M (pc + 1) lo (v :: st) h P) : wp E d M pc lo (.int (nI i) :: .ref t :: st) h P :=
  wp_go (fun p l e R s m args below meth c Q cells slots H locs ls C _ _ hR hls kk => by
    obtain ⟨hx, hb, hr, hml, hown, hlk, hK, hnm⟩ := C
    obtain ⟨cell, h1, h2, h3, h4, h5, h6, h7⟩ := (hT.moved hK.2.1.alike).kept hR.low
    exact W.bald hx hb h1 h2 h3 (by rw [nI_clamp (by omega)]; rintro (q | q); exact nI_pos (by omega) q; omega) (by rw [nI_clamp (by omega), h6 i hi, hv]) rfl rfl hd (kk ls hls)) k
theorem wp_callX {M' : xM} {As rest : List Value} {a idx n dc : Nat} {C : String} (hc : xCall M.1.cls idx M' n) (hi : Cond.instanceMethod M'.1 ∈ xGT) (hsel : Cond.selects C M'.1 M'.1 ∈ xGT) (hd : decode M.2.1 pc = .ok (.invokevirtual idx, 3)) (hst : As.reverse ++ .ref a :: rest = st) (hn : As.length = n) (hcat : (rest.map fun v => v.category).sum ≤ 8)
    (ha : va_O C a (xfree E) E.1 E.1.heap) (k : wpc E dc M' (.ref a :: As) h P') (hdd : dc + 1 ≤ d) (kk : ∀ r h1, P' r h1 → wp E d M (pc + 3) lo (r.toList ++ rest) h1 P) : wp E d M pc lo st h P := by
  subst hst
  refine wp_call hdd k kk (fun r h1 p l e R s m args below meth c cells slots H locs ls Cx a1 a2 a3 a4 hR hls hM => ?_)
  obtain ⟨hx, hb, hr, hml, hown, hlk, hK, hnm⟩ := Cx
  have hts := x_hts hK (args := args)
  have hpre := x_pre (As := .ref a :: As) hK hR
  have hpv : PreV s H C a (xPc E (.ref a :: As) h) As := ⟨hpre.1, by
    obtain ⟨cell, q1, q2, q3, -⟩ := (ha.moved hK.2.1.alike).kept hR.low
    exact ⟨cell, q1, q2, q3⟩, hpre.2⟩
  rcases x_cw (mc := h1.1 - h.1) (ms := h1.2.1 - h.2.1) (args := args) hc hK a1 a2 with cw | ⟨host, cw⟩
  · exact va_runV ⟨hx, hb, hml, hown, hts⟩ hM ⟨cw, hts _ hi, hts _ hsel⟩ hpv rfl hn hls.1 rfl (lv_room hcat) hd ⟨a3, a4⟩
  · exact va_runVN ⟨hx, hb, hml, hown, hts⟩ hM ⟨cw, hts _ hi, hts _ hsel⟩ hpv rfl hn hls.1 rfl (lv_room hcat) hd ⟨a3, a4⟩
end XX
theorem fl_JS_15 : Cond.fieldLink "java/lang/String" 15 "java/lang/String" "coder" "B" ∈ xGT := x_in (i := 1009) (by decide +kernel) rfl
theorem fl_JS_9 : Cond.fieldLink "java/lang/String" 9 "java/lang/String" "value" "[B" ∈ xGT := x_in (i := 1010) (by decide +kernel) rfl
theorem fl_JS_38 : Cond.fieldLink "java/lang/String" 38 "java/lang/String" "COMPACT_STRINGS" "Z" ∈ xGT := x_in (i := 320) (by decide +kernel) rfl
theorem xc_JS_633 : xCall "java/lang/String" 633 m_JS_indexOf2 2 := ⟨Or.inl (x_in (i := 312) (by decide +kernel) rfl), kz_JS, kc_JS_indexOf2, kd_JS_indexOf2, by decide⟩
theorem xc_JS_492 : xCall "java/lang/String" 492 m_JS_isLatin1 0 := ⟨Or.inl (x_in (i := 316) (by decide +kernel) rfl), kz_JS, kc_JS_isLatin1, kd_JS_isLatin1, by decide⟩
theorem xc_JS_505 : xCall "java/lang/String" 505 m_JS_length 0 := ⟨Or.inl (x_in (i := 322) (by decide +kernel) rfl), kz_JS, kc_JS_length, kd_JS_length, by decide⟩
theorem xc_JS_335 : xCall "java/lang/String" 335 m_JS_coder 0 := ⟨Or.inl (x_in (i := 326) (by decide +kernel) rfl), kz_JS, kc_JS_coder, kd_JS_coder, by decide⟩
theorem xc_JS_637 : xCS "java/lang/String" 637 m_JL_indexOf 4 := ⟨⟨Or.inl (x_in (i := 330) (by decide +kernel) rfl), kz_JL, kc_JL_indexOf, kd_JL_indexOf, by decide⟩, ki_JL_indexOf⟩
theorem xc_JL_88 : xCS "java/lang/StringLatin1" 88 m_JL_canEncode 1 := ⟨⟨Or.inl (x_in (i := 333) (by decide +kernel) rfl), kz_JL, kc_JL_canEncode, kd_JL_canEncode, by decide⟩, ki_JL_canEncode⟩
theorem xc_JL_95 : xCS "java/lang/StringLatin1" 95 m_JL_indexOfChar 4 := ⟨⟨Or.inl (x_in (i := 342) (by decide +kernel) rfl), kz_JL, kc_JL_indexOfChar, kd_JL_indexOfChar, by decide⟩, ki_JL_indexOfChar⟩
theorem ml_JL_92 : Cond.methodLink "java/lang/StringLatin1" 92 m_JM_max.1 ∈ xGT := x_in (i := 336) (by decide +kernel) rfl
theorem ml_JL_38 : Cond.methodLink "java/lang/StringLatin1" 38 m_JM_min.1 ∈ xGT := x_in (i := 339) (by decide +kernel) rfl
theorem b_i8 : ∀ c : Nat, c < 128 → (nI c).toInt8.toInt32 = nI c := by decide
section JSX
variable {E : xE} {h : xH} {kA kV : Nat → Nat}
theorem c_JL_canEncode {c : Nat} (hc0 : c < 256) : wpc E 0 m_JL_canEncode [.int (nI c)] h (fun r' h' => r' = some (.int 1) ∧ h' = h) := by
  refine wpc_of rfl (Nat.le_of_ble_eq_true rfl) ?_
  refine wp_iload_n d_JL_canEncode_0 rfl rfl ?_
  refine wp_if_lt (tgt := 15) d_JL_canEncode_1 (by decide) (fun hc => ?_) (fun hc => ?_)
  · exact absurd hc (nI_pos (by omega))
  · refine wp_iload_n d_JL_canEncode_4 rfl rfl ?_
    refine wp_sipush (v := 255) d_JL_canEncode_5 (by rfl) ?_
    refine wp_icmp_gt (tgt := 15) d_JL_canEncode_8 (by decide) (fun hc2 => ?_) (fun hc2 => ?_)
    · exact absurd hc2 (nI_nlt (b := c) (a := 255) (by omega) (by omega))
    · refine wp_iconst (v := 1) d_JL_canEncode_11 (by rfl) ?_
      refine wp_goto (tgt := 16) d_JL_canEncode_12 (by decide) ?_
      refine wp_ireturn d_JL_canEncode_16 rfl (by first | rfl | assumption) ?_
      exact ⟨rfl, rfl⟩
theorem c_JL_indexOfChar {t N c : Nat} {bs : List Int32} (hT : va_T .byte t N (fun j => .int (bs.getD j 0)) (xfree E) E.1 E.1.heap) (hN : bs.length = N) (hN2 : N < 1000) (hc0 : c < 128) :
    wpc E 0 m_JL_indexOfChar [.ref t, .int (nI c), .int 0, .int (nI N)] h (fun r' h' => (∃ v : Int32, r' = some (.int v) ∧ (0 ≤ v ↔ nI c ∈ bs)) ∧ h' = h) := by
  have key : ∀ (k i : Nat), k + i = N → (∀ j, j < i → bs.getD j 0 ≠ nI c) → wp E 0 m_JL_indexOfChar 7 [(0, .ref t), (1, .int (nI c)), (2, .int 0), (3, .int (nI N)), (4, .int (nI c)), (5, .int (nI i))] [] h (fun r' h' => (∃ v : Int32, r' = some (.int v) ∧ (0 ≤ v ↔ nI c ∈ bs)) ∧ h' = h) := by
    intro k
    induction k with
    | zero =>
      intro i hi hb
      refine wp_iload d_JL_indexOfChar_7 rfl ?_
      refine wp_iload_n d_JL_indexOfChar_9 rfl rfl ?_
      refine wp_icmp_ge (tgt := 31) d_JL_indexOfChar_10 (by decide) (fun hc => ?_) (fun hc => ?_)
      · refine wp_iconst (v := (-1)) d_JL_indexOfChar_31 (by rfl) ?_
        refine wp_ireturn d_JL_indexOfChar_32 rfl (by first | rfl | assumption) ?_
        refine ⟨⟨_, rfl, ?_⟩, rfl⟩
        constructor
        · intro q; exact absurd q (by decide)
        · intro q
          obtain ⟨j, hj⟩ := List.getElem?_of_mem q
          have hl := (List.getElem?_eq_some_iff.mp hj).1
          exact absurd (by rw [List.getD_eq_getElem?_getD, hj]; rfl) (hb j (by omega))
      · exact absurd (nI_le (by omega) (by omega)) hc
    | succ k ih =>
      intro i hi hb
      refine wp_iload d_JL_indexOfChar_7 rfl ?_
      refine wp_iload_n d_JL_indexOfChar_9 rfl rfl ?_
      refine wp_icmp_ge (tgt := 31) d_JL_indexOfChar_10 (by decide) (fun hc => ?_) (fun hc => ?_)
      · exact absurd hc (nI_ge (by omega) (by omega))
      · refine wp_aload_n d_JL_indexOfChar_13 rfl rfl ?_
        refine wp_iload d_JL_indexOfChar_14 rfl ?_
        refine wp_baldX (v := .int (bs.getD i 0)) hT (by omega) (by omega) rfl d_JL_indexOfChar_16 ?_
        refine wp_iload d_JL_indexOfChar_17 rfl ?_
        refine wp_icmp_ne (tgt := 25) d_JL_indexOfChar_19 (by decide) (fun hc2 => ?_) (fun hc2 => ?_)
        · refine wp_iinc d_JL_indexOfChar_25 rfl rfl (by decide) rfl ?_
          refine wp_goto (tgt := 7) d_JL_indexOfChar_28 (by decide) ?_
          rw [show nI i + Int32.ofInt 1 = nI (i + 1) from (nI_succ i).symm]
          refine ih (i + 1) (by omega) (fun j hj => ?_)
          by_cases hji : j = i
          · rw [hji]; exact hc2
          · exact hb j (by omega)
        · refine wp_iload d_JL_indexOfChar_22 rfl ?_
          refine wp_ireturn d_JL_indexOfChar_24 rfl (by first | rfl | assumption) ?_
          refine ⟨⟨_, rfl, ?_⟩, rfl⟩
          constructor
          · intro _
            rw [← hc2, List.getD_eq_getElem?_getD, List.getElem?_eq_getElem (by omega)]
            exact List.getElem_mem _
          · intro _; exact nI_pos' (by omega)
  refine wpc_of rfl (Nat.le_of_ble_eq_true rfl) ?_
  refine wp_iload_n d_JL_indexOfChar_0 rfl rfl ?_
  refine wp_i2b d_JL_indexOfChar_1 ?_
  refine wp_istore d_JL_indexOfChar_2 (by decide) rfl ?_
  refine wp_iload_n d_JL_indexOfChar_4 rfl rfl ?_
  refine wp_istore d_JL_indexOfChar_5 (by decide) rfl ?_
  rw [b_i8 c hc0]
  exact key N 0 rfl (fun j hj => absurd hj (Nat.not_lt_zero j))
theorem c_JL_indexOf {t N c : Nat} {bs : List Int32} (hT : va_T .byte t N (fun j => .int (bs.getD j 0)) (xfree E) E.1 E.1.heap) (hN : bs.length = N) (hN0 : 0 < N) (hN2 : N < 1000) (hc0 : c < 128) :
    wpc E 1 m_JL_indexOf [.ref t, .int (nI c), .int 0, .int (nI N)] h (fun r' h' => (∃ v : Int32, r' = some (.int v) ∧ (0 ≤ v ↔ nI c ∈ bs)) ∧ h' = h) := by
  refine wpc_of rfl (Nat.le_of_ble_eq_true rfl) ?_
  refine wp_iload_n d_JL_indexOf_0 rfl rfl ?_
  refine wp_callS1 xc_JL_88 d_JL_indexOf_1 (Nat.le_of_ble_eq_true rfl) (c_JL_canEncode (by omega)) (by omega) (fun r hh hp => ?_)
  obtain ⟨rfl, hz0⟩ := hp; have hz0 := hz0.symm; subst hz0
  refine wp_if_ne (tgt := 9) d_JL_indexOf_4 (by decide) (fun hc => ?_) (fun hc => ?_)
  · refine wp_iload_n d_JL_indexOf_9 rfl rfl ?_
    refine wp_iconst (v := 0) d_JL_indexOf_10 (by rfl) ?_
    refine wp_mmax ml_JL_92 d_JL_indexOf_11 (Nat.le_of_ble_eq_true rfl) (by omega) ?_
    rw [if_neg (by decide)]
    refine wp_istore_n d_JL_indexOf_14 rfl (by decide) rfl ?_
    refine wp_iload_n d_JL_indexOf_15 rfl rfl ?_
    refine wp_aload_n d_JL_indexOf_16 rfl rfl ?_
    refine wp_lenX hT d_JL_indexOf_17 ?_
    refine wp_mmin ml_JL_38 d_JL_indexOf_18 (Nat.le_of_ble_eq_true rfl) (by omega) ?_
    rw [if_neg (Int32.lt_irrefl)]
    refine wp_istore_n d_JL_indexOf_21 rfl (by decide) rfl ?_
    refine wp_iload_n d_JL_indexOf_22 rfl rfl ?_
    refine wp_iload_n d_JL_indexOf_23 rfl rfl ?_
    refine wp_icmp_lt (tgt := 29) d_JL_indexOf_24 (by decide) (fun hc2 => ?_) (fun hc2 => ?_)
    · refine wp_aload_n d_JL_indexOf_29 rfl rfl ?_
      refine wp_iload_n d_JL_indexOf_30 rfl rfl ?_
      refine wp_iload_n d_JL_indexOf_31 rfl rfl ?_
      refine wp_iload_n d_JL_indexOf_32 rfl rfl ?_
      refine wp_callS4 xc_JL_95 d_JL_indexOf_33 (Nat.le_of_ble_eq_true rfl) (c_JL_indexOfChar hT hN hN2 hc0) (by omega) (fun r hh hp => ?_)
      obtain ⟨⟨v, rfl, hv⟩, hz0⟩ := hp
      refine wp_ireturn d_JL_indexOf_36 rfl (by first | rfl | assumption) ?_
      exact ⟨⟨v, rfl, hv⟩, hz0⟩
    · exact absurd (nI_lt (a := 0) hN0 (by omega)) hc2
  · exact absurd hc (by decide)
theorem c_JS_isLatin1 (hX : xStr E kA kV) {i : Nat} (hi : i < 2) : wpc E 0 m_JS_isLatin1 [.ref (kA i)] h (fun r' h' => r' = some (.int 1) ∧ h' = h) := by
  refine wpc_of rfl (Nat.le_of_ble_eq_true rfl) ?_
  refine wp_getZ hX.2.2.2 fl_JS_38 d_JS_isLatin1_0 ?_
  refine wp_if_eq (tgt := 17) d_JS_isLatin1_3 (by decide) (fun hc => ?_) (fun hc => ?_)
  · exact absurd hc (by decide)
  · refine wp_aload_n d_JS_isLatin1_6 rfl rfl ?_
    refine wp_getX (hX.1.1 i hi).2.1 fl_JS_15 d_JS_isLatin1_7 ?_
    refine wp_if_ne (tgt := 17) d_JS_isLatin1_10 (by decide) (fun hc2 => ?_) (fun hc2 => ?_)
    · exact absurd rfl hc2
    · refine wp_iconst (v := 1) d_JS_isLatin1_13 (by rfl) ?_
      refine wp_goto (tgt := 18) d_JS_isLatin1_14 (by decide) ?_
      refine wp_ireturn d_JS_isLatin1_18 rfl (by first | rfl | assumption) ?_
      exact ⟨rfl, rfl⟩
theorem c_JS_coder (hX : xStr E kA kV) {i : Nat} (hi : i < 2) : wpc E 0 m_JS_coder [.ref (kA i)] h (fun r' h' => r' = some (.int 0) ∧ h' = h) := by
  refine wpc_of rfl (Nat.le_of_ble_eq_true rfl) ?_
  refine wp_getZ hX.2.2.2 fl_JS_38 d_JS_coder_0 ?_
  refine wp_if_eq (tgt := 13) d_JS_coder_3 (by decide) (fun hc => ?_) (fun hc => ?_)
  · exact absurd hc (by decide)
  · refine wp_aload_n d_JS_coder_6 rfl rfl ?_
    refine wp_getX (hX.1.1 i hi).2.1 fl_JS_15 d_JS_coder_7 ?_
    refine wp_goto (tgt := 14) d_JS_coder_10 (by decide) ?_
    refine wp_ireturn d_JS_coder_14 rfl (by first | rfl | assumption) ?_
    exact ⟨rfl, rfl⟩
theorem c_JS_length (hX : xStr E kA kV) {i : Nat} (hi : i < 2) : wpc E 1 m_JS_length [.ref (kA i)] h (fun r' h' => r' = some (.int (nI (xLen.getD i 0))) ∧ h' = h) := by
  refine wpc_of rfl (Nat.le_of_ble_eq_true rfl) ?_
  refine wp_aload_n d_JS_length_0 rfl rfl ?_
  refine wp_getX (hX.1.1 i hi).2.2.1 fl_JS_9 d_JS_length_1 ?_
  refine wp_lenX (hX.1.1 i hi).2.2.2 d_JS_length_4 ?_
  refine wp_aload_n d_JS_length_5 rfl rfl ?_
  refine wp_callX (As := []) xc_JS_335 ki_JS_coder ks_JS_coder d_JS_length_6 rfl rfl (Nat.le_of_ble_eq_true rfl) (hX.1.1 i hi).1 (c_JS_coder hX hi) (by omega) (fun r hh hp => ?_)
  obtain ⟨rfl, hz0⟩ := hp; have hz0 := hz0.symm; subst hz0
  refine wp_ishr d_JS_length_9 ?_
  refine wp_ireturn d_JS_length_10 rfl (by first | rfl | assumption) ?_
  refine ⟨?_, rfl⟩
  rw [sc_shr0]
  rcases (show i = 0 ∨ i = 1 by omega) with rfl | rfl <;> decide
theorem c_JS_indexOf2 (hX : xStr E kA kV) {i : Nat} (hi : i < 2) {c : Nat} (hc0 : c < 128) : wpc E 2 m_JS_indexOf2 [.ref (kA i), .int (nI c), .int 0] h (fun r' h' => (∃ v : Int32, r' = some (.int v) ∧ (0 ≤ v ↔ nI c ∈ xByt.getD i [])) ∧ h' = h) := by
  refine wpc_of rfl (Nat.le_of_ble_eq_true rfl) ?_
  refine wp_aload_n d_JS_indexOf2_0 rfl rfl ?_
  refine wp_callX (As := []) xc_JS_492 ki_JS_isLatin1 ks_JS_isLatin1 d_JS_indexOf2_1 rfl rfl (Nat.le_of_ble_eq_true rfl) (hX.1.1 i hi).1 (c_JS_isLatin1 hX hi) (by omega) (fun r hh hp => ?_)
  obtain ⟨rfl, hz0⟩ := hp; have hz0 := hz0.symm; subst hz0
  refine wp_if_eq (tgt := 23) d_JS_indexOf2_4 (by decide) (fun hc => ?_) (fun hc => ?_)
  · exact absurd hc (by decide)
  · refine wp_aload_n d_JS_indexOf2_7 rfl rfl ?_
    refine wp_getX (hX.1.1 i hi).2.2.1 fl_JS_9 d_JS_indexOf2_8 ?_
    refine wp_iload_n d_JS_indexOf2_11 rfl rfl ?_
    refine wp_iload_n d_JS_indexOf2_12 rfl rfl ?_
    refine wp_aload_n d_JS_indexOf2_13 rfl rfl ?_
    refine wp_callX (As := []) xc_JS_505 ki_JS_length ks_JS_length d_JS_indexOf2_14 rfl rfl (Nat.le_of_ble_eq_true rfl) (hX.1.1 i hi).1 (c_JS_length hX hi) (by omega) (fun r hh hp => ?_)
    obtain ⟨rfl, hz0⟩ := hp; have hz0 := hz0.symm; subst hz0
    refine wp_callS4 xc_JS_637 d_JS_indexOf2_17 (Nat.le_of_ble_eq_true rfl) (c_JL_indexOf (hX.1.1 i hi).2.2.2 (by rcases (show i = 0 ∨ i = 1 by omega) with rfl | rfl <;> rfl) (by rcases (show i = 0 ∨ i = 1 by omega) with rfl | rfl <;> decide) (by rcases (show i = 0 ∨ i = 1 by omega) with rfl | rfl <;> decide) hc0) (by omega) (fun r hh hp => ?_)
    obtain ⟨⟨v, rfl, hv⟩, hz0⟩ := hp
    refine wp_goto (tgt := 36) d_JS_indexOf2_20 (by decide) ?_
    refine wp_ireturn d_JS_indexOf2_36 rfl (by first | rfl | assumption) ?_
    exact ⟨⟨v, rfl, hv⟩, hz0⟩
theorem c_JS_indexOf1 (hX : xStr E kA kV) {i : Nat} (hi : i < 2) {c : Nat} (hc0 : c < 128) : wpc E 3 m_JS_indexOf1 [.ref (kA i), .int (nI c)] h (fun r' h' => (∃ v : Int32, r' = some (.int v) ∧ (0 ≤ v ↔ nI c ∈ xByt.getD i [])) ∧ h' = h) := by
  refine wpc_of rfl (Nat.le_of_ble_eq_true rfl) ?_
  refine wp_aload_n d_JS_indexOf1_0 rfl rfl ?_
  refine wp_iload_n d_JS_indexOf1_1 rfl rfl ?_
  refine wp_iconst (v := 0) d_JS_indexOf1_2 (by rfl) ?_
  refine wp_callX (As := [.int (nI c), .int 0]) xc_JS_633 ki_JS_indexOf2 ks_JS_indexOf2 d_JS_indexOf1_3 rfl rfl (Nat.le_of_ble_eq_true rfl) (hX.1.1 i hi).1 (c_JS_indexOf2 hX hi hc0) (by omega) (fun r hh hp => ?_)
  obtain ⟨⟨v, rfl, hv⟩, hz0⟩ := hp
  refine wp_ireturn d_JS_indexOf1_6 rfl (by first | rfl | assumption) ?_
  exact ⟨⟨v, rfl, hv⟩, hz0⟩
end JSX
