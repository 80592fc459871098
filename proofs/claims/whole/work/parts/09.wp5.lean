section XQ
variable {E : xE} {d : Nat} {M : xM} {pc : Nat} {lo : List (Nat × Value)} {st : List Value} {h : xH} {P P' : Option Value → xH → Prop} {M' : xM} {rest : List Value} {a ci idx dc : Nat} {fs : List Value} {v1 v2 v3 v4 v5 : Value}
theorem wp_callV0 (hc : xCV M.1.cls idx M' 0 ci) (hd : decode M.2.1 pc = .ok (.invokevirtual idx, 3)) (hcat : (rest.map fun v => v.category).sum ≤ 8) (ha : h.2.2 a = some (.inr (ci, fs))) (k : wpc E dc M' [.ref a] h P') (hdd : dc + 1 ≤ d) (kk : ∀ r h1, P' r h1 → wp E d M (pc + 3) lo (r.toList ++ rest) h1 P) : wp E d M pc lo (.ref a :: rest) h P := wp_callV (As := []) hc hd rfl rfl hcat ha k hdd kk
theorem wp_callV1 (hc : xCV M.1.cls idx M' 1 ci) (hd : decode M.2.1 pc = .ok (.invokevirtual idx, 3)) (hcat : (rest.map fun v => v.category).sum ≤ 8) (ha : h.2.2 a = some (.inr (ci, fs))) (k : wpc E dc M' [.ref a, v1] h P') (hdd : dc + 1 ≤ d) (kk : ∀ r h1, P' r h1 → wp E d M (pc + 3) lo (r.toList ++ rest) h1 P) : wp E d M pc lo (v1 :: .ref a :: rest) h P := wp_callV (As := [v1]) hc hd rfl rfl hcat ha k hdd kk
theorem wp_callV2 (hc : xCV M.1.cls idx M' 2 ci) (hd : decode M.2.1 pc = .ok (.invokevirtual idx, 3)) (hcat : (rest.map fun v => v.category).sum ≤ 8) (ha : h.2.2 a = some (.inr (ci, fs))) (k : wpc E dc M' [.ref a, v1, v2] h P') (hdd : dc + 1 ≤ d) (kk : ∀ r h1, P' r h1 → wp E d M (pc + 3) lo (r.toList ++ rest) h1 P) : wp E d M pc lo (v2 :: v1 :: .ref a :: rest) h P := wp_callV (As := [v1, v2]) hc hd rfl rfl hcat ha k hdd kk
theorem wp_callV3 (hc : xCV M.1.cls idx M' 3 ci) (hd : decode M.2.1 pc = .ok (.invokevirtual idx, 3)) (hcat : (rest.map fun v => v.category).sum ≤ 8) (ha : h.2.2 a = some (.inr (ci, fs))) (k : wpc E dc M' [.ref a, v1, v2, v3] h P') (hdd : dc + 1 ≤ d) (kk : ∀ r h1, P' r h1 → wp E d M (pc + 3) lo (r.toList ++ rest) h1 P) : wp E d M pc lo (v3 :: v2 :: v1 :: .ref a :: rest) h P := wp_callV (As := [v1, v2, v3]) hc hd rfl rfl hcat ha k hdd kk
theorem wp_callV4 (hc : xCV M.1.cls idx M' 4 ci) (hd : decode M.2.1 pc = .ok (.invokevirtual idx, 3)) (hcat : (rest.map fun v => v.category).sum ≤ 8) (ha : h.2.2 a = some (.inr (ci, fs))) (k : wpc E dc M' [.ref a, v1, v2, v3, v4] h P') (hdd : dc + 1 ≤ d) (kk : ∀ r h1, P' r h1 → wp E d M (pc + 3) lo (r.toList ++ rest) h1 P) : wp E d M pc lo (v4 :: v3 :: v2 :: v1 :: .ref a :: rest) h P := wp_callV (As := [v1, v2, v3, v4]) hc hd rfl rfl hcat ha k hdd kk
theorem wp_callS1 (hc : xCS M.1.cls idx M' 1) (hd : decode M.2.1 pc = .ok (.invokestatic idx, 3)) (hcat : (rest.map fun v => v.category).sum ≤ 8) (k : wpc E dc M' [v1] h P') (hdd : dc + 1 ≤ d) (kk : ∀ r h1, P' r h1 → wp E d M (pc + 3) lo (r.toList ++ rest) h1 P) : wp E d M pc lo (v1 :: rest) h P := wp_callS (As := [v1]) hc hd rfl rfl hcat k hdd kk
theorem wp_callS2 (hc : xCS M.1.cls idx M' 2) (hd : decode M.2.1 pc = .ok (.invokestatic idx, 3)) (hcat : (rest.map fun v => v.category).sum ≤ 8) (k : wpc E dc M' [v1, v2] h P') (hdd : dc + 1 ≤ d) (kk : ∀ r h1, P' r h1 → wp E d M (pc + 3) lo (r.toList ++ rest) h1 P) : wp E d M pc lo (v2 :: v1 :: rest) h P := wp_callS (As := [v1, v2]) hc hd rfl rfl hcat k hdd kk
theorem wp_callS4 (hc : xCS M.1.cls idx M' 4) (hd : decode M.2.1 pc = .ok (.invokestatic idx, 3)) (hcat : (rest.map fun v => v.category).sum ≤ 8) (k : wpc E dc M' [v1, v2, v3, v4] h P') (hdd : dc + 1 ≤ d) (kk : ∀ r h1, P' r h1 → wp E d M (pc + 3) lo (r.toList ++ rest) h1 P) : wp E d M pc lo (v4 :: v3 :: v2 :: v1 :: rest) h P := wp_callS (As := [v1, v2, v3, v4]) hc hd rfl rfl hcat k hdd kk
theorem wp_callS5 (hc : xCS M.1.cls idx M' 5) (hd : decode M.2.1 pc = .ok (.invokestatic idx, 3)) (hcat : (rest.map fun v => v.category).sum ≤ 8) (k : wpc E dc M' [v1, v2, v3, v4, v5] h P') (hdd : dc + 1 ≤ d) (kk : ∀ r h1, P' r h1 → wp E d M (pc + 3) lo (r.toList ++ rest) h1 P) : wp E d M pc lo (v5 :: v4 :: v3 :: v2 :: v1 :: rest) h P := wp_callS (As := [v1, v2, v3, v4, v5]) hc hd rfl rfl hcat k hdd kk
theorem wp_callI0 (hc : xCI M.1.cls idx M' 0) (hd : decode M.2.1 pc = .ok (.invokespecial idx, 3)) (hcat : (rest.map fun v => v.category).sum ≤ 8) (k : wpc E dc M' [.ref a] h P') (hdd : dc + 1 ≤ d) (kk : ∀ r h1, P' r h1 → wp E d M (pc + 3) lo (r.toList ++ rest) h1 P) : wp E d M pc lo (.ref a :: rest) h P := wp_callI (As := []) hc hd rfl rfl hcat k hdd kk
theorem wp_callI1 (hc : xCI M.1.cls idx M' 1) (hd : decode M.2.1 pc = .ok (.invokespecial idx, 3)) (hcat : (rest.map fun v => v.category).sum ≤ 8) (k : wpc E dc M' [.ref a, v1] h P') (hdd : dc + 1 ≤ d) (kk : ∀ r h1, P' r h1 → wp E d M (pc + 3) lo (r.toList ++ rest) h1 P) : wp E d M pc lo (v1 :: .ref a :: rest) h P := wp_callI (As := [v1]) hc hd rfl rfl hcat k hdd kk
theorem wp_aln {t n : Nat} {cA : ClassId} {x : (Nat → Int32) ⊕ (Nat → Int64) ⊕ (Nat → UInt32) ⊕ (Nat → UInt64) ⊕ (Nat → Option Nat)} {ty : FieldType} (hd : decode M.2.1 pc = .ok (.arraylength, 1)) (ha : h.2.2 a = some (.inl (cA, n, x))) (ht : E.2.2[t]? = some (cA, ty))
    (kk : wp E d M (pc + 1) lo (.int (nI n) :: st) h P) : wp E d M pc lo (.ref a :: st) h P := wp_alen hd ha ht kk
theorem wp_zast {t n : Nat} {cA : ClassId} {f : Nat → Int32} {i x : Int32} (hd : decode M.2.1 pc = .ok (.bastore, 1)) (ha : h.2.2 a = some (.inl (cA, n, .inl f))) (ht : E.2.2[t]? = some (cA, .boolean)) (hi : vp_in i n) (hx01 : x = 0 ∨ x = 1)
    (kk : wp E d M (pc + 1) lo st (xput h a (.inl (cA, n, .inl (upd f i.toNatClampNeg x)))) P) : wp E d M pc lo (.int x :: .int i :: .ref a :: st) h P := by
  refine wp_al (h2 := xput h a (.inl (cA, n, .inl (upd f i.toNatClampNeg x)))) 0 0 rfl rfl (fun p l e R s m args below meth c Q cells slots H locs ls C _ _ _ _ hR hlo hls kk => ?_) kk
  have hK := C.2.2.2.2.2.2.1.1
  have hn2 : narrow .boolean (.int x) = .int x := by rcases hx01 with rfl | rfl <;> rfl
  refine W.zast C.1 C.2.1 (hR.2.1 a _ ha).2 ((hK.2 t _ ht).1 n (fun j => .int (f j))) (fun q => by cases q) (by show ¬ (i < 0 ∨ (arrV _ _ _).slots.size ≤ _); rw [arrV_size]; exact hi) rfl rfl hd fun H1 e z oq => ?_
  rw [hn2] at e
  refine kk H1 _ (hR.put (hR.2.1 a _ ha).1 ?_ z oq) (fun q hq => ?_)
  · show H1[a]? = some (vp_cell _ _)
    rw [e]
    rw [vp_cell_i, vp_cell_i, arrV_store]
    congr 2
    funext q
    by_cases hq : q = i.toNatClampNeg
    · subst hq
      simp [updV, upd]
    · simp [updV, upd, hq]
  · rcases List.mem_append.mp hq with h9 | h9
    · exact hlo q h9
    · rw [List.mem_singleton.mp h9]
      exact (hR.2.1 a _ ha).1
end XQ
def xgr (E : xE) (S : List Nat) (k s : Nat) (h h' : xH) : Prop := h'.1 = h.1 + k ∧ h'.2.1 = h.2.1 + s ∧ ∀ q : Nat, q < xb E + h.1 → q ∉ S → h'.2.2 q = h.2.2 q
theorem xgr.at {E : xE} {S : List Nat} {k s : Nat} {h h' : xH} (a : xgr E S k s h h') {q : Nat} (h1 : q < xb E + h.1) (hq : q ∉ S) {v : Option va_E} (hv : h.2.2 q = v) : h'.2.2 q = v := (a.2.2 q h1 hq).trans hv
def xfr (S : List Nat) (h h' : xH) : Prop := h'.1 = h.1 ∧ h'.2.1 = h.2.1 ∧ ∀ q : Nat, q ∉ S → h'.2.2 q = h.2.2 q
theorem xfr.rf {S : List Nat} {h : xH} : xfr S h h := ⟨rfl, rfl, fun _ _ => rfl⟩
theorem xfr.tr {S : List Nat} {h h' h'' : xH} (a : xfr S h h') (b : xfr S h' h'') : xfr S h h'' := ⟨b.1.trans a.1, b.2.1.trans a.2.1, fun q hq => (b.2.2 q hq).trans (a.2.2 q hq)⟩
theorem xfr.put {S : List Nat} {h h' : xH} (a : xfr S h h') {b : Nat} {e : va_E} (hb : b ∈ S) : xfr S h (xput h' b e) := ⟨a.1, a.2.1, fun q hq => by
  rw [← a.2.2 q hq]
  exact xg_ne (fun e => hq (e ▸ hb)) rfl⟩
theorem xfr.sub {S S' : List Nat} {h h' : xH} (a : xfr S h h') (hs : ∀ q ∈ S, q ∈ S') : xfr S' h h' := ⟨a.1, a.2.1, fun q hq => a.2.2 q (fun z => hq (hs q z))⟩
theorem xfr.at {S : List Nat} {h h' : xH} (a : xfr S h h') {q : Nat} (hq : q ∉ S) {v : Option va_E} (hv : h.2.2 q = v) : h'.2.2 q = v := (a.2.2 q hq).trans hv
