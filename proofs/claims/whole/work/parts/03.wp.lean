abbrev xM : Type := MethodName × ByteArray × Nat × Option FieldType
abbrev xE : Type := State × va_G × List (ClassId × FieldType)
abbrev xH : Type := Nat × Nat × (Nat → Option va_E)
def xb (E : xE) : Nat := E.1.heap.size
def xGT : List Cond := lw_tbl.filter goodWord
def xws (M : xM) : List Cond := [Cond.code M.1 M.2.1 M.2.2.1 M.2.2.2]
def xHR (E : xE) (h : xH) (H : Heap) : Prop := H.size = xb E + h.1 ∧ (∀ (a : Nat) (e : va_E), h.2.2 a = some e → xb E ≤ a ∧ va_at E.2.1 vwCl (a, e) H) ∧ ∀ q : Nat, q < xb E → H[q]? = E.1.heap[q]?
def xK (E : xE) (U : State) : Prop := va_K E.2.1 vwCl E.2.2 U ∧ E.1.WarmedH U.vm ∧ ∃ A : Array Value, ∀ w ∈ lw_tbl, w.before A E.1 = true
def xPc (E : xE) (As : List Value) (h : xH) : Array Value → State → Prop := fun a U => a = As.toArray ∧ xHR E h U.heap ∧ xK E U
def xQc (E : xE) (r : Option Value) (h' : xH) : Array Value → State → Outcome → State → Prop := fun _ _ o t => o = .returned r ∧ xHR E h' t.heap
def xfree (E : xE) : Addr → Prop := fun q => xb E ≤ q
def xC (E : xE) (M : xM) (p : Program) (s : State) (m : MethodId) (meth : Method) (c : Code) : Prop :=
  p.tables.exec = Jvm.exec ∧ c.code = M.2.1 ∧ meth.sig.returnType = M.2.2.2 ∧ c.maxLocals = M.2.2.1 ∧ s.vm.findClass M.1.cls = some m.cls ∧ meth.locks = false ∧ xK E s ∧ meth.name = M.1.name
def xRet (M : xM) (pc : Nat) (r : Option Value) : Prop :=
  (∃ v, r = some (.int v) ∧ decode M.2.1 pc = .ok (.ireturn, 1) ∧ ∃ ty, M.2.2.2 = some ty ∧ narrow ty (.int v) = .int v) ∨
  (r = none ∧ decode M.2.1 pc = .ok (.return_, 1) ∧ M.2.2.2 = none) ∨
  (∃ v, r = some v ∧ (v = .null ∨ ∃ a, v = .ref a) ∧ decode M.2.1 pc = .ok (.areturn, 1) ∧ ∃ rt, M.2.2.2 = some rt ∧ ((∃ n, rt = .object n) ∨ ∃ t, rt = .array t))
def wp (E : xE) (d : Nat) (M : xM) (pc : Nat) (lo : List (Nat × Value)) (st : List Value) (h : xH) (P : Option Value → xH → Prop) : Prop :=
  ∃ (r : Option Value) (h' : xH), P r h' ∧ h.1 ≤ h'.1 ∧ h.2.1 ≤ h'.2.1 ∧
    ∀ (p : Program) (l : Launch) (e : Env) (R : Room) (s : State) (m : MethodId) (args : Array Value) (below : List Frame) (meth : Method) (c : Code) (Q : State → Prop) (cells slots : Nat) (H : Heap) (locs : List Loc) (ls : Array Slot),
      xC E M p s m meth c → d ≤ R.frames → 48 * d ≤ R.locals → cells + (h'.1 - h.1) ≤ R.cells → slots + (h'.2.1 - h.2.1) ≤ R.slots →
      xHR E h H → (∀ q ∈ locs, xb E ≤ q.base) → lv_has ls M.2.2.1 lo →
      (∀ (pc' : Nat) (ls' : Array Slot) (H' : Heap) (locs' : List Loc), xRet M pc' r → xHR E h' H' → (∀ q ∈ locs', xb E ≤ q.base) →
        W p l e R s m args below meth c H' locs' (cells + (h'.1 - h.1)) (slots + (h'.2.1 - h.2.1)) Q (F0 m pc' ls' r.toList)) →
      W p l e R s m args below meth c H locs cells slots Q (F0 m pc ls st)
def wpc (E : xE) (d : Nat) (M : xM) (As : List Value) (h : xH) (P : Option Value → xH → Prop) : Prop :=
  ∃ (r : Option Value) (h' : xH), P r h' ∧ h.1 ≤ h'.1 ∧ h.2.1 ≤ h'.2.1 ∧
    ∀ (D : Nat) (l : Launch), d ≤ D → Met l M.1 (xws M) ({ frames := D, cells := h'.1 - h.1, slots := h'.2.1 - h.2.1, locals := 48 * D }) (xPc E As h) (xQc E r h') (h'.1 - h.1) (h'.2.1 - h.2.1) (xfree E)
theorem wp.mono {E : xE} {d : Nat} {M : xM} {pc : Nat} {lo : List (Nat × Value)} {st : List Value} {h : xH} {P P' : Option Value → xH → Prop} (k : wp E d M pc lo st h P) (hp : ∀ r h', P r h' → P' r h') : wp E d M pc lo st h P' := by
  obtain ⟨r, h', hP, k⟩ := k
  exact ⟨r, h', hp r h' hP, k⟩
theorem wpc.mono {E : xE} {d : Nat} {M : xM} {As : List Value} {h : xH} {P P' : Option Value → xH → Prop} (k : wpc E d M As h P) (hp : ∀ r h', P r h' → P' r h') : wpc E d M As h P' := by
  obtain ⟨r, h', hP, k⟩ := k
  exact ⟨r, h', hp r h' hP, k⟩
theorem wpc.up {E : xE} {d d' : Nat} {M : xM} {As : List Value} {h : xH} {P : Option Value → xH → Prop} (k : wpc E d M As h P) (hd : d ≤ d') : wpc E d' M As h P := by
  obtain ⟨r, h', hP, h1, h2, k⟩ := k
  exact ⟨r, h', hP, h1, h2, fun D l hD => k D l (Nat.le_trans hd hD)⟩
theorem wp.up {E : xE} {d d' : Nat} {M : xM} {pc : Nat} {lo : List (Nat × Value)} {st : List Value} {h : xH} {P : Option Value → xH → Prop} (k : wp E d M pc lo st h P) (hd : d ≤ d') : wp E d' M pc lo st h P := by
  obtain ⟨r, h', hP, h1, h2, K⟩ := k
  exact ⟨r, h', hP, h1, h2, fun p l e R s m args below meth c Q cells slots H locs ls C a1 a2 => K p l e R s m args below meth c Q cells slots H locs ls C (Nat.le_trans hd a1) (by omega)⟩
theorem x_hts {E : xE} {s : State} (hK : xK E s) {args : Array Value} : ∀ w ∈ xGT, w.before args s = true := fun w hw => by
  obtain ⟨h1, h2⟩ := List.mem_filter.mp hw
  obtain ⟨A, hA⟩ := hK.2.2
  exact word_at hK.2.1 (good_of_word h2) (hA w h1)
theorem x_htsU {E : xE} {s U : State} (hK : xK E s) (hW : s.WarmedH U.vm) {args : Array Value} : ∀ w ∈ xGT, w.before args U = true := fun w hw => by
  obtain ⟨h1, h2⟩ := List.mem_filter.mp hw
  obtain ⟨A, hA⟩ := hK.2.2
  exact word_at (State.WarmedH.trans hK.2.1 hW) (good_of_word h2) (hA w h1)
theorem xK.moved {E : xE} {s U : State} (hK : xK E s) (hW : s.WarmedH U.vm) : xK E U := ⟨va_K.moved hW.alike hK.1, State.WarmedH.trans hK.2.1 hW, hK.2.2⟩
theorem xPc.blind {E : xE} {As : List Value} {h : xH} : FrameBlind (xPc E As h) := fun a U g mk q =>
  ⟨q.1, q.2.1, va_K.moved (u := U) (U := U.calling g mk a) (Vm.Alike.refl U.vm) q.2.2.1, q.2.2.2.1, q.2.2.2.2⟩
theorem x_look {ls : Array Slot} {n : Nat} {lo : List (Nat × Value)} (h : lv_has ls n lo) {i : Nat} {v : Value} (hl : lo.lookup i = some v) : ls[i]? = some (.val v) := by
  refine h.2.2 (i, v) ?_
  clear h
  induction lo with
  | nil => cases hl
  | cons q lo ih =>
    obtain ⟨j, w⟩ := q
    rw [List.lookup_cons] at hl
    by_cases hj : i = j
    · subst hj
      simp at hl
      subst hl
      exact List.mem_cons_self
    · have : (i == j) = false := by simp [hj]
      rw [this] at hl
      exact List.mem_cons_of_mem _ (ih hl)
def xst (lo : List (Nat × Value)) (i : Nat) (v : Value) : List (Nat × Value) :=
  lo.filter (fun q => decide (q.1 < i) && !(q.1 + 1 == i && q.2.category == 2)) ++ (i, v) :: lo.filter (fun q => decide (i < q.1))
def xst2 (lo : List (Nat × Value)) (i : Nat) (v : Value) : List (Nat × Value) :=
  lo.filter (fun q => decide (q.1 < i) && !(q.1 + 1 == i && q.2.category == 2)) ++ (i, v) :: lo.filter (fun q => decide (i + 1 < q.1))
theorem xst_ok {ls : Array Slot} {n : Nat} {lo : List (Nat × Value)} {i : Nat} {v : Value} (h : lv_has ls n ((i, v) :: lo.filter (fun q => !(q.1 == i) && !(q.1 + 1 == i && q.2.category == 2)))) : lv_has ls n (xst lo i v) := by
  refine ⟨h.1, h.2.1, fun q hq => h.2.2 q ?_⟩
  simp only [xst, List.mem_append, List.mem_cons, List.mem_filter, Bool.and_eq_true, decide_eq_true_eq] at hq
  rcases hq with ⟨h1, h2, h3⟩ | rfl | ⟨h1, h2⟩
  · refine List.mem_cons_of_mem _ (List.mem_filter.mpr ⟨h1, ?_⟩)
    rw [Bool.and_eq_true]
    exact ⟨by simp; omega, h3⟩
  · exact List.mem_cons_self
  · refine List.mem_cons_of_mem _ (List.mem_filter.mpr ⟨h1, ?_⟩)
    have e1 : (q.1 == i) = false := by simp; omega
    have e2 : (q.1 + 1 == i) = false := by simp; omega
    simp [e1, e2]
theorem xst2_ok {ls : Array Slot} {n : Nat} {lo : List (Nat × Value)} {i : Nat} {v : Value} (h : lv_has ls n ((i, v) :: lo.filter (fun q => !(q.1 == i) && (!(q.1 == i + 1) && !(q.1 + 1 == i && q.2.category == 2))))) : lv_has ls n (xst2 lo i v) := by
  refine ⟨h.1, h.2.1, fun q hq => h.2.2 q ?_⟩
  simp only [xst2, List.mem_append, List.mem_cons, List.mem_filter, Bool.and_eq_true, decide_eq_true_eq] at hq
  rcases hq with ⟨h1, h2, h3⟩ | rfl | ⟨h1, h2⟩
  · refine List.mem_cons_of_mem _ (List.mem_filter.mpr ⟨h1, ?_⟩)
    have e1 : (q.1 == i) = false := by simp; omega
    have e2 : (q.1 == i + 1) = false := by simp; omega
    rw [e1, e2]
    simpa using h3
  · exact List.mem_cons_self
  · refine List.mem_cons_of_mem _ (List.mem_filter.mpr ⟨h1, ?_⟩)
    have e1 : (q.1 == i) = false := by simp; omega
    have e2 : (q.1 + 1 == i) = false := by simp; omega
    have e3 : (q.1 == i + 1) = false := by simp; omega
    simp [e1, e2, e3]
def xput (h : xH) (a : Nat) (e : va_E) : xH := (h.1, h.2.1, va_up h.2.2 a (some e))
def xnew (E : xE) (h : xH) (n : Nat) (e : va_E) : xH := (h.1 + 1, h.2.1 + n, va_up h.2.2 (xb E + h.1) (some e))
theorem xHR.put {E : xE} {h : xH} {H H' : Heap} {a : Nat} {e : va_E} (hR : xHR E h H) (ha : xb E ≤ a) (hat : va_at E.2.1 vwCl (a, e) H') (hz : H'.size = H.size) (ho : ∀ q : Nat, q ≠ a → H'[q]? = H[q]?) : xHR E (xput h a e) H' := by
  refine ⟨hz.trans hR.1, fun b e' hb => ?_, fun q hq => (ho q (by omega)).trans (hR.2.2 q hq)⟩
  by_cases hba : b = a
  · subst hba
    have : some e = some e' := by rw [← hb]; simp [xput, va_up]
    cases this
    exact ⟨ha, hat⟩
  · have hb' : h.2.2 b = some e' := by rw [← hb]; simp [xput, va_up, hba]
    exact ⟨(hR.2.1 b e' hb').1, (hR.2.1 b e' hb').2.kept (ho b hba)⟩
theorem xHR.new {E : xE} {h : xH} {H H' : Heap} {e : va_E} {n : Nat} (hR : xHR E h H) (hat : va_at E.2.1 vwCl (H.size, e) H') (hz : H'.size = H.size + 1) (ho : ∀ q : Nat, q < H.size → H'[q]? = H[q]?) : xHR E (xnew E h n e) H' := by
  have hsz := hR.1
  refine ⟨by rw [hz, hsz]; show _ = xb E + (h.1 + 1); omega, fun b e' hb => ?_, fun q hq => (ho q (by omega)).trans (hR.2.2 q hq)⟩
  by_cases hba : b = xb E + h.1
  · subst hba
    have : some e = some e' := by rw [← hb]; simp [xnew, va_up]
    cases this
    exact ⟨by omega, by rw [← hsz]; exact hat⟩
  · have hb' : h.2.2 b = some e' := by rw [← hb]; simp [xnew, va_up, hba]
    obtain ⟨h1, h2⟩ := hR.2.1 b e' hb'
    exact ⟨h1, h2.kept (ho b h2.lt)⟩
theorem xHR.P {E : xE} {h : xH} {H : Heap} {a : Nat} {e : va_E} (hR : xHR E h H) (ha : h.2.2 a = some e) : va_P E.2.1 vwCl [(a, e)] H := fun k q hk => by
  have hz : k < 1 := (List.getElem?_eq_some_iff.mp hk).1
  rw [show k = 0 by omega] at hk
  cases hk
  exact (hR.2.1 a e ha).2
section XP
variable {E : xE} {d : Nat} {M : xM} {pc pc' : Nat} {lo lo' : List (Nat × Value)} {st st' : List Value} {h : xH} {P : Option Value → xH → Prop}
theorem wp_go (hs : ∀ (p : Program) (l : Launch) (e : Env) (R : Room) (s : State) (m : MethodId) (args : Array Value) (below : List Frame) (meth : Method) (c : Code) (Q : State → Prop) (cells slots : Nat) (H : Heap) (locs : List Loc) (ls : Array Slot),
      xC E M p s m meth c → d ≤ R.frames → 48 * d ≤ R.locals → xHR E h H → lv_has ls M.2.2.1 lo →
      (∀ ls' : Array Slot, lv_has ls' M.2.2.1 lo' → W p l e R s m args below meth c H locs cells slots Q (F0 m pc' ls' st')) → W p l e R s m args below meth c H locs cells slots Q (F0 m pc ls st))
    (k : wp E d M pc' lo' st' h P) : wp E d M pc lo st h P := by
  obtain ⟨r, h', hP, h1, h2, K⟩ := k
  refine ⟨r, h', hP, h1, h2, fun p l e R s m args below meth c Q cells slots H locs ls C a1 a2 a3 a4 hR hl hls hk => ?_⟩
  exact hs p l e R s m args below meth c Q cells slots H locs ls C a1 a2 hR hls (fun ls' hl' => K p l e R s m args below meth c Q cells slots H locs ls' C a1 a2 a3 a4 hR hl hl' hk)
theorem wp_br {A : Prop} {pc2 : Nat} (hs : ∀ (p : Program) (l : Launch) (e : Env) (R : Room) (s : State) (m : MethodId) (args : Array Value) (below : List Frame) (meth : Method) (c : Code) (Q : State → Prop) (cells slots : Nat) (H : Heap) (locs : List Loc) (ls : Array Slot),
      xC E M p s m meth c → (A → W p l e R s m args below meth c H locs cells slots Q (F0 m pc' ls st')) → (¬ A → W p l e R s m args below meth c H locs cells slots Q (F0 m pc2 ls st')) → W p l e R s m args below meth c H locs cells slots Q (F0 m pc ls st))
    (k1 : A → wp E d M pc' lo st' h P) (k2 : ¬ A → wp E d M pc2 lo st' h P) : wp E d M pc lo st h P := by
  by_cases hA : A
  · obtain ⟨r, h', hP, h1, h2, K⟩ := k1 hA
    refine ⟨r, h', hP, h1, h2, fun p l e R s m args below meth c Q cells slots H locs ls C a1 a2 a3 a4 hR hl hls hk => ?_⟩
    exact hs p l e R s m args below meth c Q cells slots H locs ls C (fun _ => K p l e R s m args below meth c Q cells slots H locs ls C a1 a2 a3 a4 hR hl hls hk) (fun n => absurd hA n)
  · obtain ⟨r, h', hP, h1, h2, K⟩ := k2 hA
    refine ⟨r, h', hP, h1, h2, fun p l e R s m args below meth c Q cells slots H locs ls C a1 a2 a3 a4 hR hl hls hk => ?_⟩
    exact hs p l e R s m args below meth c Q cells slots H locs ls C (fun n => absurd n hA) (fun _ => K p l e R s m args below meth c Q cells slots H locs ls C a1 a2 a3 a4 hR hl hls hk)
theorem wp_al {h2 : xH} (dn ds : Nat) (hn : h2.1 = h.1 + dn) (hm : h2.2.1 = h.2.1 + ds)
    (hs : ∀ (p : Program) (l : Launch) (e : Env) (R : Room) (s : State) (m : MethodId) (args : Array Value) (below : List Frame) (meth : Method) (c : Code) (Q : State → Prop) (cells slots : Nat) (H : Heap) (locs : List Loc) (ls : Array Slot),
      xC E M p s m meth c → d ≤ R.frames → 48 * d ≤ R.locals → cells + dn ≤ R.cells → slots + ds ≤ R.slots → xHR E h H → (∀ q ∈ locs, xb E ≤ q.base) → lv_has ls M.2.2.1 lo →
      (∀ (H2 : Heap) (locs2 : List Loc), xHR E h2 H2 → (∀ q ∈ locs2, xb E ≤ q.base) → W p l e R s m args below meth c H2 locs2 (cells + dn) (slots + ds) Q (F0 m pc' ls st')) → W p l e R s m args below meth c H locs cells slots Q (F0 m pc ls st))
    (k : wp E d M pc' lo st' h2 P) : wp E d M pc lo st h P := by
  obtain ⟨r, h', hP, h1, h3, K⟩ := k
  refine ⟨r, h', hP, by omega, by omega, fun p l e R s m args below meth c Q cells slots H locs ls C a1 a2 a3 a4 hR hl hls hk => ?_⟩
  refine hs p l e R s m args below meth c Q cells slots H locs ls C a1 a2 (by omega) (by omega) hR hl hls (fun H2 locs2 hR2 hl2 => ?_)
  refine K p l e R s m args below meth c Q (cells + dn) (slots + ds) H2 locs2 ls C a1 a2 (by omega) (by omega) hR2 hl2 hls (fun pc' ls' H' locs' x1 x2 x3 => ?_)
  have e1 : cells + dn + (h'.1 - h2.1) = cells + (h'.1 - h.1) := by omega
  have e2 : slots + ds + (h'.2.1 - h2.2.1) = slots + (h'.2.1 - h.2.1) := by omega
  rw [e1, e2]
  exact hk pc' ls' H' locs' x1 x2 x3
theorem wp_lo (hsub : ∀ q ∈ lo', q ∈ lo) (k : wp E d M pc lo' st h P) : wp E d M pc lo st h P :=
  wp_go (fun p l e R s m args below meth c Q cells slots H locs ls C _ _ _ hl kk => kk ls ⟨hl.1, hl.2.1, fun q hq => hl.2.2 q (hsub q hq)⟩) k
theorem wp_pick (ks : List Nat) (hl : lv_pick lo ks = lo') (k : wp E d M pc lo' st h P) : wp E d M pc lo st h P :=
  wp_go (fun p l e R s m args below meth c Q cells slots H locs ls C _ _ _ hl0 kk => kk ls (lv_sub hl0 ks hl)) k
theorem wp_iconst {n : Int} {v : Int32} (hd : decode M.2.1 pc = .ok (.iconst n, 1)) (hv : Int32.ofInt n = v) (k : wp E d M (pc + 1) lo (.int v :: st) h P) : wp E d M pc lo (st) h P :=
  wp_go (fun p l e R s m args below meth c Q cells slots H locs ls C _ _ _ hl kk => lv_iconst C.1 C.2.1 hd hv (kk ls hl)) k
theorem wp_bipush {n : Int} {v : Int32} (hd : decode M.2.1 pc = .ok (.bipush n, 2)) (hv : (Int8.ofInt n).toInt32 = v) (k : wp E d M (pc + 2) lo (.int v :: st) h P) : wp E d M pc lo (st) h P :=
  wp_go (fun p l e R s m args below meth c Q cells slots H locs ls C _ _ _ hl kk => lv_bipush C.1 C.2.1 hd hv (kk ls hl)) k
theorem wp_sipush {n : Int} {v : Int32} (hd : decode M.2.1 pc = .ok (.sipush n, 3)) (hv : (Int16.ofInt n).toInt32 = v) (k : wp E d M (pc + 3) lo (.int v :: st) h P) : wp E d M pc lo (st) h P :=
  wp_go (fun p l e R s m args below meth c Q cells slots H locs ls C _ _ _ hl kk => lv_sipush C.1 C.2.1 hd hv (kk ls hl)) k
theorem wp_lconst {n : Fin 2} {v : Int64} (hd : decode M.2.1 pc = .ok (.lconst n, 1)) (hv : Int64.ofNat (n : Nat) = v) (k : wp E d M (pc + 1) lo (.long v :: st) h P) : wp E d M pc lo (st) h P :=
  wp_go (fun p l e R s m args below meth c Q cells slots H locs ls C _ _ _ hl kk => lv_lconst C.1 C.2.1 hd hv (kk ls hl)) k
theorem wp_null  (hd : decode M.2.1 pc = .ok (.aconst_null, 1)) (k : wp E d M (pc + 1) lo (.null :: st) h P) : wp E d M pc lo (st) h P :=
  wp_go (fun p l e R s m args below meth c Q cells slots H locs ls C _ _ _ hl kk => lv_null C.1 C.2.1 hd (kk ls hl)) k
theorem wp_iload_n {k : Fin 4} {i : Nat} {x : Int32} (hd : decode M.2.1 pc = .ok (.iload_n k, 1)) (hi : (k : Nat) = i) (hlo : lo.lookup i = some (.int x)) (k : wp E d M (pc + 1) lo (.int x :: st) h P) : wp E d M pc lo (st) h P :=
  wp_go (fun p l e R s m args below meth c Q cells slots H locs ls C _ _ _ hl kk => lv_iload_n C.1 C.2.1 hd hi (x_look hl hlo) (kk ls hl)) k
theorem wp_iload {i : Nat} {x : Int32} (hd : decode M.2.1 pc = .ok (.iload i, 2)) (hlo : lo.lookup i = some (.int x)) (k : wp E d M (pc + 2) lo (.int x :: st) h P) : wp E d M pc lo (st) h P :=
  wp_go (fun p l e R s m args below meth c Q cells slots H locs ls C _ _ _ hl kk => lv_iload C.1 C.2.1 hd (x_look hl hlo) (kk ls hl)) k
theorem wp_istore_n {k : Fin 4} {i : Nat} {x : Int32} (hd : decode M.2.1 pc = .ok (.istore_n k, 1)) (hi : (k : Nat) = i) (hn : i < M.2.2.1) (hlo : xst lo i (.int x) = lo') (k : wp E d M (pc + 1) lo' (st) h P) : wp E d M pc lo (.int x :: st) h P :=
  wp_go (fun p l e R s m args below meth c Q cells slots H locs ls C _ _ _ hl kk => lv_istore_n C.1 C.2.1 hd hi hl hn rfl (fun ls' hl' => kk ls' (hlo ▸ xst_ok hl'))) k
theorem wp_istore {i : Nat} {x : Int32} (hd : decode M.2.1 pc = .ok (.istore i, 2)) (hn : i < M.2.2.1) (hlo : xst lo i (.int x) = lo') (k : wp E d M (pc + 2) lo' (st) h P) : wp E d M pc lo (.int x :: st) h P :=
  wp_go (fun p l e R s m args below meth c Q cells slots H locs ls C _ _ _ hl kk => lv_istore C.1 C.2.1 hd hl hn rfl (fun ls' hl' => kk ls' (hlo ▸ xst_ok hl'))) k
theorem wp_lload_n {k : Fin 4} {i : Nat} {x : Int64} (hd : decode M.2.1 pc = .ok (.lload_n k, 1)) (hi : (k : Nat) = i) (hlo : lo.lookup i = some (.long x)) (k : wp E d M (pc + 1) lo (.long x :: st) h P) : wp E d M pc lo (st) h P :=
  wp_go (fun p l e R s m args below meth c Q cells slots H locs ls C _ _ _ hl kk => lv_lload_n C.1 C.2.1 hd hi (x_look hl hlo) (kk ls hl)) k
theorem wp_lload {i : Nat} {x : Int64} (hd : decode M.2.1 pc = .ok (.lload i, 2)) (hlo : lo.lookup i = some (.long x)) (k : wp E d M (pc + 2) lo (.long x :: st) h P) : wp E d M pc lo (st) h P :=
  wp_go (fun p l e R s m args below meth c Q cells slots H locs ls C _ _ _ hl kk => lv_lload C.1 C.2.1 hd (x_look hl hlo) (kk ls hl)) k
theorem wp_lstore_n {k : Fin 4} {i : Nat} {x : Int64} (hd : decode M.2.1 pc = .ok (.lstore_n k, 1)) (hi : (k : Nat) = i) (hn : i + 1 < M.2.2.1) (hlo : xst2 lo i (.long x) = lo') (k : wp E d M (pc + 1) lo' (st) h P) : wp E d M pc lo (.long x :: st) h P :=
  wp_go (fun p l e R s m args below meth c Q cells slots H locs ls C _ _ _ hl kk => lv_lstore_n C.1 C.2.1 hd hi hl hn rfl (fun ls' hl' => kk ls' (hlo ▸ xst2_ok hl'))) k
theorem wp_lstore {i : Nat} {x : Int64} (hd : decode M.2.1 pc = .ok (.lstore i, 2)) (hn : i + 1 < M.2.2.1) (hlo : xst2 lo i (.long x) = lo') (k : wp E d M (pc + 2) lo' (st) h P) : wp E d M pc lo (.long x :: st) h P :=
  wp_go (fun p l e R s m args below meth c Q cells slots H locs ls C _ _ _ hl kk => lv_lstore C.1 C.2.1 hd hl hn rfl (fun ls' hl' => kk ls' (hlo ▸ xst2_ok hl'))) k
theorem wp_aload_n {k : Fin 4} {i : Nat} {x : Nat} (hd : decode M.2.1 pc = .ok (.aload_n k, 1)) (hi : (k : Nat) = i) (hlo : lo.lookup i = some (.ref x)) (k : wp E d M (pc + 1) lo (.ref x :: st) h P) : wp E d M pc lo (st) h P :=
  wp_go (fun p l e R s m args below meth c Q cells slots H locs ls C _ _ _ hl kk => lv_aload_n C.1 C.2.1 hd hi (x_look hl hlo) (kk ls hl)) k
theorem wp_aload {i : Nat} {x : Nat} (hd : decode M.2.1 pc = .ok (.aload i, 2)) (hlo : lo.lookup i = some (.ref x)) (k : wp E d M (pc + 2) lo (.ref x :: st) h P) : wp E d M pc lo (st) h P :=
  wp_go (fun p l e R s m args below meth c Q cells slots H locs ls C _ _ _ hl kk => lv_aload C.1 C.2.1 hd (x_look hl hlo) (kk ls hl)) k
theorem wp_astore_n {k : Fin 4} {i : Nat} {x : Nat} (hd : decode M.2.1 pc = .ok (.astore_n k, 1)) (hi : (k : Nat) = i) (hn : i < M.2.2.1) (hlo : xst lo i (.ref x) = lo') (k : wp E d M (pc + 1) lo' (st) h P) : wp E d M pc lo (.ref x :: st) h P :=
  wp_go (fun p l e R s m args below meth c Q cells slots H locs ls C _ _ _ hl kk => lv_astore_n C.1 C.2.1 hd hi hl hn rfl (fun ls' hl' => kk ls' (hlo ▸ xst_ok hl'))) k
theorem wp_astore {i : Nat} {x : Nat} (hd : decode M.2.1 pc = .ok (.astore i, 2)) (hn : i < M.2.2.1) (hlo : xst lo i (.ref x) = lo') (k : wp E d M (pc + 2) lo' (st) h P) : wp E d M pc lo (.ref x :: st) h P :=
  wp_go (fun p l e R s m args below meth c Q cells slots H locs ls C _ _ _ hl kk => lv_astore C.1 C.2.1 hd hl hn rfl (fun ls' hl' => kk ls' (hlo ▸ xst_ok hl'))) k
theorem wp_aload_nN {k : Fin 4} {i : Nat} (hd : decode M.2.1 pc = .ok (.aload_n k, 1)) (hi : (k : Nat) = i) (hlo : lo.lookup i = some .null) (k : wp E d M (pc + 1) lo (.null :: st) h P) : wp E d M pc lo (st) h P :=
  wp_go (fun p l e R s m args below meth c Q cells slots H locs ls C _ _ _ hl kk => lv_aload_nN C.1 C.2.1 hd hi (x_look hl hlo) (kk ls hl)) k
theorem wp_aloadN {i : Nat} (hd : decode M.2.1 pc = .ok (.aload i, 2)) (hlo : lo.lookup i = some .null) (k : wp E d M (pc + 2) lo (.null :: st) h P) : wp E d M pc lo (st) h P :=
  wp_go (fun p l e R s m args below meth c Q cells slots H locs ls C _ _ _ hl kk => lv_aloadN C.1 C.2.1 hd (x_look hl hlo) (kk ls hl)) k
theorem wp_astore_nN {k : Fin 4} {i : Nat} (hd : decode M.2.1 pc = .ok (.astore_n k, 1)) (hi : (k : Nat) = i) (hn : i < M.2.2.1) (hlo : xst lo i .null = lo') (k : wp E d M (pc + 1) lo' (st) h P) : wp E d M pc lo (.null :: st) h P :=
  wp_go (fun p l e R s m args below meth c Q cells slots H locs ls C _ _ _ hl kk => lv_astore_nN C.1 C.2.1 hd hi hl hn rfl (fun ls' hl' => kk ls' (hlo ▸ xst_ok hl'))) k
theorem wp_astoreN {i : Nat} (hd : decode M.2.1 pc = .ok (.astore i, 2)) (hn : i < M.2.2.1) (hlo : xst lo i .null = lo') (k : wp E d M (pc + 2) lo' (st) h P) : wp E d M pc lo (.null :: st) h P :=
  wp_go (fun p l e R s m args below meth c Q cells slots H locs ls C _ _ _ hl kk => lv_astoreN C.1 C.2.1 hd hl hn rfl (fun ls' hl' => kk ls' (hlo ▸ xst_ok hl'))) k
theorem x_place {lo : List (Nat × Value)} {i : Nat} {v : Value} (hl : lo.lookup i = some v) : ∃ k : Nat, lo[k]? = some (i, v) := by
  apply List.getElem?_of_mem
  induction lo with
  | nil => cases hl
  | cons q lo ih =>
    obtain ⟨j, w⟩ := q
    rw [List.lookup_cons] at hl
    by_cases hj : i = j
    · subst hj
      simp at hl
      subst hl
      exact List.mem_cons_self
    · have : (i == j) = false := by simp [hj]
      rw [this] at hl
      exact List.mem_cons_of_mem _ (ih hl)
theorem wp_iinc {i : Nat} {n : Int} {x v : Int32} (hd : decode M.2.1 pc = .ok (.iinc i n, 3)) (hlx : lo.lookup i = some (.int x)) (hv : x + Int32.ofInt n = v) (hn : i < M.2.2.1) (hlo : xst lo i (.int v) = lo') (k : wp E d M (pc + 3) lo' st h P) : wp E d M pc lo st h P := by
  obtain ⟨q, hq⟩ := x_place hlx
  exact wp_go (fun p l e R s m args below meth c Q cells slots H locs ls C _ _ _ hl kk => lv_iinc C.1 C.2.1 hd hl hq hv hn rfl (fun ls' hl' => kk ls' (hlo ▸ xst_ok hl'))) k
theorem wp_iadd {x y : Int32} (hd : decode M.2.1 pc = .ok (.iadd, 1)) (k : wp E d M (pc + 1) lo (.int (x + y) :: st) h P) : wp E d M pc lo (.int y :: .int x :: st) h P :=
  wp_go (fun p l e R s m args below meth c Q cells slots H locs ls C _ _ _ hl kk => lv_iadd C.1 C.2.1 hd (kk ls hl)) k
theorem wp_isub {x y : Int32} (hd : decode M.2.1 pc = .ok (.isub, 1)) (k : wp E d M (pc + 1) lo (.int (x - y) :: st) h P) : wp E d M pc lo (.int y :: .int x :: st) h P :=
  wp_go (fun p l e R s m args below meth c Q cells slots H locs ls C _ _ _ hl kk => lv_isub C.1 C.2.1 hd (kk ls hl)) k
theorem wp_imul {x y : Int32} (hd : decode M.2.1 pc = .ok (.imul, 1)) (k : wp E d M (pc + 1) lo (.int (x * y) :: st) h P) : wp E d M pc lo (.int y :: .int x :: st) h P :=
  wp_go (fun p l e R s m args below meth c Q cells slots H locs ls C _ _ _ hl kk => lv_imul C.1 C.2.1 hd (kk ls hl)) k
theorem wp_iand {x y : Int32} (hd : decode M.2.1 pc = .ok (.iand, 1)) (k : wp E d M (pc + 1) lo (.int (x &&& y) :: st) h P) : wp E d M pc lo (.int y :: .int x :: st) h P :=
  wp_go (fun p l e R s m args below meth c Q cells slots H locs ls C _ _ _ hl kk => lv_iand C.1 C.2.1 hd (kk ls hl)) k
theorem wp_ior {x y : Int32} (hd : decode M.2.1 pc = .ok (.ior, 1)) (k : wp E d M (pc + 1) lo (.int (x ||| y) :: st) h P) : wp E d M pc lo (.int y :: .int x :: st) h P :=
  wp_go (fun p l e R s m args below meth c Q cells slots H locs ls C _ _ _ hl kk => lv_ior C.1 C.2.1 hd (kk ls hl)) k
theorem wp_ixor {x y : Int32} (hd : decode M.2.1 pc = .ok (.ixor, 1)) (k : wp E d M (pc + 1) lo (.int (x ^^^ y) :: st) h P) : wp E d M pc lo (.int y :: .int x :: st) h P :=
  wp_go (fun p l e R s m args below meth c Q cells slots H locs ls C _ _ _ hl kk => lv_ixor C.1 C.2.1 hd (kk ls hl)) k
theorem wp_ishl {x y : Int32} (hd : decode M.2.1 pc = .ok (.ishl, 1)) (k : wp E d M (pc + 1) lo (.int (x <<< (y &&& 31)) :: st) h P) : wp E d M pc lo (.int y :: .int x :: st) h P :=
  wp_go (fun p l e R s m args below meth c Q cells slots H locs ls C _ _ _ hl kk => lv_ishl C.1 C.2.1 hd (kk ls hl)) k
theorem wp_ishr {x y : Int32} (hd : decode M.2.1 pc = .ok (.ishr, 1)) (k : wp E d M (pc + 1) lo (.int (x >>> (y &&& 31)) :: st) h P) : wp E d M pc lo (.int y :: .int x :: st) h P :=
  wp_go (fun p l e R s m args below meth c Q cells slots H locs ls C _ _ _ hl kk => lv_ishr C.1 C.2.1 hd (kk ls hl)) k
theorem wp_ladd {x y : Int64} (hd : decode M.2.1 pc = .ok (.ladd, 1)) (k : wp E d M (pc + 1) lo (.long (x + y) :: st) h P) : wp E d M pc lo (.long y :: .long x :: st) h P :=
  wp_go (fun p l e R s m args below meth c Q cells slots H locs ls C _ _ _ hl kk => lv_ladd C.1 C.2.1 hd (kk ls hl)) k
theorem wp_lsub {x y : Int64} (hd : decode M.2.1 pc = .ok (.lsub, 1)) (k : wp E d M (pc + 1) lo (.long (x - y) :: st) h P) : wp E d M pc lo (.long y :: .long x :: st) h P :=
  wp_go (fun p l e R s m args below meth c Q cells slots H locs ls C _ _ _ hl kk => lv_lsub C.1 C.2.1 hd (kk ls hl)) k
theorem wp_lmul {x y : Int64} (hd : decode M.2.1 pc = .ok (.lmul, 1)) (k : wp E d M (pc + 1) lo (.long (x * y) :: st) h P) : wp E d M pc lo (.long y :: .long x :: st) h P :=
  wp_go (fun p l e R s m args below meth c Q cells slots H locs ls C _ _ _ hl kk => lv_lmul C.1 C.2.1 hd (kk ls hl)) k
theorem wp_land {x y : Int64} (hd : decode M.2.1 pc = .ok (.land, 1)) (k : wp E d M (pc + 1) lo (.long (x &&& y) :: st) h P) : wp E d M pc lo (.long y :: .long x :: st) h P :=
  wp_go (fun p l e R s m args below meth c Q cells slots H locs ls C _ _ _ hl kk => lv_land C.1 C.2.1 hd (kk ls hl)) k
theorem wp_lor {x y : Int64} (hd : decode M.2.1 pc = .ok (.lor, 1)) (k : wp E d M (pc + 1) lo (.long (x ||| y) :: st) h P) : wp E d M pc lo (.long y :: .long x :: st) h P :=
  wp_go (fun p l e R s m args below meth c Q cells slots H locs ls C _ _ _ hl kk => lv_lor C.1 C.2.1 hd (kk ls hl)) k
theorem wp_lxor {x y : Int64} (hd : decode M.2.1 pc = .ok (.lxor, 1)) (k : wp E d M (pc + 1) lo (.long (x ^^^ y) :: st) h P) : wp E d M pc lo (.long y :: .long x :: st) h P :=
  wp_go (fun p l e R s m args below meth c Q cells slots H locs ls C _ _ _ hl kk => lv_lxor C.1 C.2.1 hd (kk ls hl)) k
theorem wp_idiv {x y : Int32} (hd : decode M.2.1 pc = .ok (.idiv, 1)) (hne : ¬ y = 0) (k : wp E d M (pc + 1) lo (.int (x / y) :: st) h P) : wp E d M pc lo (.int y :: .int x :: st) h P :=
  wp_go (fun p l e R s m args below meth c Q cells slots H locs ls C _ _ _ hl kk => lv_idiv C.1 C.2.1 hd hne (kk ls hl)) k
theorem wp_irem {x y : Int32} (hd : decode M.2.1 pc = .ok (.irem, 1)) (hne : ¬ y = 0) (k : wp E d M (pc + 1) lo (.int (x - x / y * y) :: st) h P) : wp E d M pc lo (.int y :: .int x :: st) h P :=
  wp_go (fun p l e R s m args below meth c Q cells slots H locs ls C _ _ _ hl kk => lv_irem C.1 C.2.1 hd hne (kk ls hl)) k
theorem wp_ineg {x : Int32} (hd : decode M.2.1 pc = .ok (.ineg, 1)) (k : wp E d M (pc + 1) lo (.int (-x) :: st) h P) : wp E d M pc lo (.int x :: st) h P :=
  wp_go (fun p l e R s m args below meth c Q cells slots H locs ls C _ _ _ hl kk => lv_ineg C.1 C.2.1 hd (kk ls hl)) k
theorem wp_iushr {x y : Int32} (hd : decode M.2.1 pc = .ok (.iushr, 1)) (k : wp E d M (pc + 1) lo (.int ((x.toUInt32 >>> (y.toUInt32 &&& Int32.toUInt32 31)).toInt32) :: st) h P) : wp E d M pc lo (.int y :: .int x :: st) h P :=
  wp_go (fun p l e R s m args below meth c Q cells slots H locs ls C _ _ _ hl kk => lv_iushr C.1 C.2.1 hd rfl (kk ls hl)) k
theorem wp_lushr {x : Int64} {y : Int32} (hd : decode M.2.1 pc = .ok (.lushr, 1)) (k : wp E d M (pc + 1) lo (.long ((x.toUInt64 >>> (y.toInt64.toUInt64 &&& Int64.toUInt64 63)).toInt64) :: st) h P) : wp E d M pc lo (.int y :: .long x :: st) h P :=
  wp_go (fun p l e R s m args below meth c Q cells slots H locs ls C _ _ _ hl kk => lv_lushr C.1 C.2.1 hd rfl (kk ls hl)) k
theorem wp_lshl {x : Int64} {y : Int32} (hd : decode M.2.1 pc = .ok (.lshl, 1)) (k : wp E d M (pc + 1) lo (.long (x <<< (y.toInt64 &&& 63)) :: st) h P) : wp E d M pc lo (.int y :: .long x :: st) h P :=
  wp_go (fun p l e R s m args below meth c Q cells slots H locs ls C _ _ _ hl kk => lv_lshl C.1 C.2.1 hd rfl (kk ls hl)) k
theorem wp_lshr {x : Int64} {y : Int32} (hd : decode M.2.1 pc = .ok (.lshr, 1)) (k : wp E d M (pc + 1) lo (.long (x >>> (y.toInt64 &&& 63)) :: st) h P) : wp E d M pc lo (.int y :: .long x :: st) h P :=
  wp_go (fun p l e R s m args below meth c Q cells slots H locs ls C _ _ _ hl kk => lv_lshr C.1 C.2.1 hd rfl (kk ls hl)) k
theorem wp_i2l {x : Int32} (hd : decode M.2.1 pc = .ok (.i2l, 1)) (k : wp E d M (pc + 1) lo (.long x.toInt64 :: st) h P) : wp E d M pc lo (.int x :: st) h P :=
  wp_go (fun p l e R s m args below meth c Q cells slots H locs ls C _ _ _ hl kk => lv_i2l C.1 C.2.1 hd rfl (kk ls hl)) k
theorem wp_l2i {x : Int64} (hd : decode M.2.1 pc = .ok (.l2i, 1)) (k : wp E d M (pc + 1) lo (.int x.toInt32 :: st) h P) : wp E d M pc lo (.long x :: st) h P :=
  wp_go (fun p l e R s m args below meth c Q cells slots H locs ls C _ _ _ hl kk => lv_l2i C.1 C.2.1 hd rfl (kk ls hl)) k
theorem wp_i2c {x : Int32} (hd : decode M.2.1 pc = .ok (.i2c, 1)) (k : wp E d M (pc + 1) lo (.int ((x.toUInt32 % 65536).toInt32) :: st) h P) : wp E d M pc lo (.int x :: st) h P :=
  wp_go (fun p l e R s m args below meth c Q cells slots H locs ls C _ _ _ hl kk => lv_i2c C.1 C.2.1 hd rfl (kk ls hl)) k
theorem wp_i2b {x : Int32} (hd : decode M.2.1 pc = .ok (.i2b, 1)) (k : wp E d M (pc + 1) lo (.int (x.toInt8.toInt32) :: st) h P) : wp E d M pc lo (.int x :: st) h P :=
  wp_go (fun p l e R s m args below meth c Q cells slots H locs ls C _ _ _ hl kk => lv_i2b C.1 C.2.1 hd rfl (kk ls hl)) k
theorem wp_lcmp {x y : Int64} (hd : decode M.2.1 pc = .ok (.lcmp, 1)) (k : wp E d M (pc + 1) lo (.int (lg_cmp x y) :: st) h P) : wp E d M pc lo (.long y :: .long x :: st) h P :=
  wp_go (fun p l e R s m args below meth c Q cells slots H locs ls C _ _ _ hl kk => W.lcmp C.1 C.2.1 hd (kk ls hl)) k
theorem wp_dup {v : Value} (hd : decode M.2.1 pc = .ok (.dup, 1)) (hv : v.category = 1) (k : wp E d M (pc + 1) lo (v :: v :: st) h P) : wp E d M pc lo (v :: st) h P :=
  wp_go (fun p l e R s m args below meth c Q cells slots H locs ls C _ _ _ hl kk => lv_dup C.1 C.2.1 hd hv (kk ls hl)) k
theorem wp_pop {v : Value} (hd : decode M.2.1 pc = .ok (.pop, 1)) (hv : v.category = 1) (k : wp E d M (pc + 1) lo (st) h P) : wp E d M pc lo (v :: st) h P :=
  wp_go (fun p l e R s m args below meth c Q cells slots H locs ls C _ _ _ hl kk => lv_pop C.1 C.2.1 hd hv (kk ls hl)) k
theorem wp_dup_x1 {v w : Value} (hd : decode M.2.1 pc = .ok (.dup_x1, 1)) (hv : v.category = 1) (hw : w.category = 1) (k : wp E d M (pc + 1) lo (v :: w :: v :: st) h P) : wp E d M pc lo (v :: w :: st) h P :=
  wp_go (fun p l e R s m args below meth c Q cells slots H locs ls C _ _ _ hl kk => lv_dup_x1 C.1 C.2.1 hd hv hw (kk ls hl)) k
theorem wp_dup_x2 {v w z : Value} (hd : decode M.2.1 pc = .ok (.dup_x2, 1)) (hv : v.category = 1) (hw : w.category = 1) (hz : z.category = 1) (k : wp E d M (pc + 1) lo (v :: w :: z :: v :: st) h P) : wp E d M pc lo (v :: w :: z :: st) h P :=
  wp_go (fun p l e R s m args below meth c Q cells slots H locs ls C _ _ _ hl kk => lv_dup_x2 C.1 C.2.1 hd hv hw hz (kk ls hl)) k
theorem wp_dup2 {v w : Value} (hd : decode M.2.1 pc = .ok (.dup2, 1)) (hv : v.category = 1) (hw : w.category = 1) (k : wp E d M (pc + 1) lo (v :: w :: v :: w :: st) h P) : wp E d M pc lo (v :: w :: st) h P :=
  wp_go (fun p l e R s m args below meth c Q cells slots H locs ls C _ _ _ hl kk => lv_dup2_11 C.1 C.2.1 hd hv hw (kk ls hl)) k
theorem wp_dup2L {v : Value} (hd : decode M.2.1 pc = .ok (.dup2, 1)) (hv : v.category = 2) (k : wp E d M (pc + 1) lo (v :: v :: st) h P) : wp E d M pc lo (v :: st) h P :=
  wp_go (fun p l e R s m args below meth c Q cells slots H locs ls C _ _ _ hl kk => lv_dup2_2 C.1 C.2.1 hd hv (kk ls hl)) k
theorem wp_goto {off : Int} {tgt : Nat} (hd : decode M.2.1 pc = .ok (.goto off, 3)) (ht : (pc : Int) + off = (tgt : Int)) (k : wp E d M tgt lo (st) h P) : wp E d M pc lo (st) h P :=
  wp_go (fun p l e R s m args below meth c Q cells slots H locs ls C _ _ _ hl kk => lv_goto C.1 C.2.1 hd ht (kk ls hl)) k
theorem wp_ifnonnull {off : Int} {tgt x : Nat} (hd : decode M.2.1 pc = .ok (.ifnonnull off, 3)) (ht : (pc : Int) + off = (tgt : Int)) (k : wp E d M tgt lo (st) h P) : wp E d M pc lo (.ref x :: st) h P :=
  wp_go (fun p l e R s m args below meth c Q cells slots H locs ls C _ _ _ hl kk => lv_ifnonnull C.1 C.2.1 hd ht (kk ls hl)) k
theorem wp_ifnull {off : Int} {x : Nat} (hd : decode M.2.1 pc = .ok (.ifnull off, 3)) (k : wp E d M (pc + 3) lo (st) h P) : wp E d M pc lo (.ref x :: st) h P :=
  wp_go (fun p l e R s m args below meth c Q cells slots H locs ls C _ _ _ hl kk => lv_ifnull C.1 C.2.1 hd (kk ls hl)) k
theorem wp_ifnullN {off : Int} {tgt : Nat} (hd : decode M.2.1 pc = .ok (.ifnull off, 3)) (ht : (pc : Int) + off = (tgt : Int)) (k : wp E d M tgt lo (st) h P) : wp E d M pc lo (.null :: st) h P :=
  wp_go (fun p l e R s m args below meth c Q cells slots H locs ls C _ _ _ hl kk => lv_ifnullN C.1 C.2.1 hd ht (kk ls hl)) k
theorem wp_ifnonnullN {off : Int} (hd : decode M.2.1 pc = .ok (.ifnonnull off, 3)) (k : wp E d M (pc + 3) lo (st) h P) : wp E d M pc lo (.null :: st) h P :=
  wp_go (fun p l e R s m args below meth c Q cells slots H locs ls C _ _ _ hl kk => lv_ifnonnullN C.1 C.2.1 hd (kk ls hl)) k
theorem wp_lookup {dflt : Int} {ps : Array (Int × Int)} {len : Nat} {x : Int32} {off : Int} {tgt : Nat} (hd : decode M.2.1 pc = .ok (.lookupswitch dflt ps, len)) (hp : (ps.toList.zip (ps.toList.drop 1)).all (fun (a, next) => a.1 < next.1) = true) (ho : Op.lookupswitch.offset ps.toList dflt x.toInt = off) (ht : (pc : Int) + off = (tgt : Int)) (k : wp E d M tgt lo (st) h P) : wp E d M pc lo (.int x :: st) h P :=
  wp_go (fun p l e R s m args below meth c Q cells slots H locs ls C _ _ _ hl kk => lv_lookup C.1 C.2.1 hd hp ho ht (kk ls hl)) k
theorem wp_tableIn {dflt lo0 hi0 : Int} {offs : Array Int} {len : Nat} {x : Int32} {off : Int} {tgt : Nat} (hd : decode M.2.1 pc = .ok (.tableswitch dflt lo0 hi0 offs, len)) (h1 : ¬ x.toInt < lo0) (h2 : ¬ hi0 < x.toInt) (ho : offs[(x.toInt - lo0).toNat]? = some off) (ht : (pc : Int) + off = (tgt : Int)) (k : wp E d M tgt lo (st) h P) : wp E d M pc lo (.int x :: st) h P :=
  wp_go (fun p l e R s m args below meth c Q cells slots H locs ls C _ _ _ hl kk => lv_tableIn C.1 C.2.1 hd h1 h2 ho ht (kk ls hl)) k
theorem wp_tableOut {dflt lo0 hi0 : Int} {offs : Array Int} {len : Nat} {x : Int32} {tgt : Nat} (hd : decode M.2.1 pc = .ok (.tableswitch dflt lo0 hi0 offs, len)) (hx : x.toInt < lo0 ∨ hi0 < x.toInt) (ht : (pc : Int) + dflt = (tgt : Int)) (k : wp E d M tgt lo (st) h P) : wp E d M pc lo (.int x :: st) h P :=
  wp_go (fun p l e R s m args below meth c Q cells slots H locs ls C _ _ _ hl kk => lv_tableOut C.1 C.2.1 hd hx ht (kk ls hl)) k
theorem wp_if_eq {x : Int32} {off : Int} {tgt : Nat} (hd : decode M.2.1 pc = .ok (.ifCond .eq off, 3)) (ht : (pc : Int) + off = (tgt : Int)) (k1 : (x = 0) → wp E d M tgt lo st h P) (k2 : ¬ (x = 0) → wp E d M (pc + 3) lo st h P) : wp E d M pc lo (.int x :: st) h P :=
  wp_br (fun p l e R s m args below meth c Q cells slots H locs ls C k1 k2 => lv_if_eq C.1 C.2.1 hd ht k1 k2) k1 k2
theorem wp_if_lt {x : Int32} {off : Int} {tgt : Nat} (hd : decode M.2.1 pc = .ok (.ifCond .lt off, 3)) (ht : (pc : Int) + off = (tgt : Int)) (k1 : (x < 0) → wp E d M tgt lo st h P) (k2 : ¬ (x < 0) → wp E d M (pc + 3) lo st h P) : wp E d M pc lo (.int x :: st) h P :=
  wp_br (fun p l e R s m args below meth c Q cells slots H locs ls C k1 k2 => lv_if_lt C.1 C.2.1 hd ht k1 k2) k1 k2
theorem wp_if_ge {x : Int32} {off : Int} {tgt : Nat} (hd : decode M.2.1 pc = .ok (.ifCond .ge off, 3)) (ht : (pc : Int) + off = (tgt : Int)) (k1 : (0 ≤ x) → wp E d M tgt lo st h P) (k2 : ¬ (0 ≤ x) → wp E d M (pc + 3) lo st h P) : wp E d M pc lo (.int x :: st) h P :=
  wp_br (fun p l e R s m args below meth c Q cells slots H locs ls C k1 k2 => lv_if_ge C.1 C.2.1 hd ht k1 k2) k1 k2
theorem wp_if_gt {x : Int32} {off : Int} {tgt : Nat} (hd : decode M.2.1 pc = .ok (.ifCond .gt off, 3)) (ht : (pc : Int) + off = (tgt : Int)) (k1 : (0 < x) → wp E d M tgt lo st h P) (k2 : ¬ (0 < x) → wp E d M (pc + 3) lo st h P) : wp E d M pc lo (.int x :: st) h P :=
  wp_br (fun p l e R s m args below meth c Q cells slots H locs ls C k1 k2 => lv_if_gt C.1 C.2.1 hd ht k1 k2) k1 k2
theorem wp_if_le {x : Int32} {off : Int} {tgt : Nat} (hd : decode M.2.1 pc = .ok (.ifCond .le off, 3)) (ht : (pc : Int) + off = (tgt : Int)) (k1 : (x ≤ 0) → wp E d M tgt lo st h P) (k2 : ¬ (x ≤ 0) → wp E d M (pc + 3) lo st h P) : wp E d M pc lo (.int x :: st) h P :=
  wp_br (fun p l e R s m args below meth c Q cells slots H locs ls C k1 k2 => lv_if_le C.1 C.2.1 hd ht k1 k2) k1 k2
theorem wp_icmp_eq {x y : Int32} {off : Int} {tgt : Nat} (hd : decode M.2.1 pc = .ok (.if_icmp .eq off, 3)) (ht : (pc : Int) + off = (tgt : Int)) (k1 : (x = y) → wp E d M tgt lo st h P) (k2 : ¬ (x = y) → wp E d M (pc + 3) lo st h P) : wp E d M pc lo (.int y :: .int x :: st) h P :=
  wp_br (fun p l e R s m args below meth c Q cells slots H locs ls C k1 k2 => lv_icmp_eq C.1 C.2.1 hd ht k1 k2) k1 k2
theorem wp_icmp_lt {x y : Int32} {off : Int} {tgt : Nat} (hd : decode M.2.1 pc = .ok (.if_icmp .lt off, 3)) (ht : (pc : Int) + off = (tgt : Int)) (k1 : (x < y) → wp E d M tgt lo st h P) (k2 : ¬ (x < y) → wp E d M (pc + 3) lo st h P) : wp E d M pc lo (.int y :: .int x :: st) h P :=
  wp_br (fun p l e R s m args below meth c Q cells slots H locs ls C k1 k2 => lv_icmp_lt C.1 C.2.1 hd ht k1 k2) k1 k2
theorem wp_icmp_ge {x y : Int32} {off : Int} {tgt : Nat} (hd : decode M.2.1 pc = .ok (.if_icmp .ge off, 3)) (ht : (pc : Int) + off = (tgt : Int)) (k1 : (y ≤ x) → wp E d M tgt lo st h P) (k2 : ¬ (y ≤ x) → wp E d M (pc + 3) lo st h P) : wp E d M pc lo (.int y :: .int x :: st) h P :=
  wp_br (fun p l e R s m args below meth c Q cells slots H locs ls C k1 k2 => lv_icmp_ge C.1 C.2.1 hd ht k1 k2) k1 k2
theorem wp_icmp_gt {x y : Int32} {off : Int} {tgt : Nat} (hd : decode M.2.1 pc = .ok (.if_icmp .gt off, 3)) (ht : (pc : Int) + off = (tgt : Int)) (k1 : (y < x) → wp E d M tgt lo st h P) (k2 : ¬ (y < x) → wp E d M (pc + 3) lo st h P) : wp E d M pc lo (.int y :: .int x :: st) h P :=
  wp_br (fun p l e R s m args below meth c Q cells slots H locs ls C k1 k2 => lv_icmp_gt C.1 C.2.1 hd ht k1 k2) k1 k2
theorem wp_icmp_le {x y : Int32} {off : Int} {tgt : Nat} (hd : decode M.2.1 pc = .ok (.if_icmp .le off, 3)) (ht : (pc : Int) + off = (tgt : Int)) (k1 : (x ≤ y) → wp E d M tgt lo st h P) (k2 : ¬ (x ≤ y) → wp E d M (pc + 3) lo st h P) : wp E d M pc lo (.int y :: .int x :: st) h P :=
  wp_br (fun p l e R s m args below meth c Q cells slots H locs ls C k1 k2 => lv_icmp_le C.1 C.2.1 hd ht k1 k2) k1 k2
theorem wp_if_ne {x : Int32} {off : Int} {tgt : Nat} (hd : decode M.2.1 pc = .ok (.ifCond .ne off, 3)) (ht : (pc : Int) + off = (tgt : Int)) (k1 : ¬ (x = 0) → wp E d M tgt lo st h P) (k2 : (x = 0) → wp E d M (pc + 3) lo st h P) : wp E d M pc lo (.int x :: st) h P :=
  wp_br (A := (x = 0)) (fun p l e R s m args below meth c Q cells slots H locs ls C k1 k2 => lv_if_ne C.1 C.2.1 hd ht k2 k1) k2 k1
theorem wp_icmp_ne {x y : Int32} {off : Int} {tgt : Nat} (hd : decode M.2.1 pc = .ok (.if_icmp .ne off, 3)) (ht : (pc : Int) + off = (tgt : Int)) (k1 : ¬ (x = y) → wp E d M tgt lo st h P) (k2 : (x = y) → wp E d M (pc + 3) lo st h P) : wp E d M pc lo (.int y :: .int x :: st) h P :=
  wp_br (A := (x = y)) (fun p l e R s m args below meth c Q cells slots H locs ls C k1 k2 => lv_icmp_ne C.1 C.2.1 hd ht k2 k1) k2 k1
theorem wp_acmp_ne {x y : Option Nat} {off : Int} {tgt : Nat} (hd : decode M.2.1 pc = .ok (.if_acmp .ne off, 3)) (ht : (pc : Int) + off = (tgt : Int)) (k1 : ¬ (x = y) → wp E d M tgt lo st h P) (k2 : (x = y) → wp E d M (pc + 3) lo st h P) : wp E d M pc lo (va_rf y :: va_rf x :: st) h P :=
  wp_br (A := (x = y)) (fun p l e R s m args below meth c Q cells slots H locs ls C k1 k2 => lv_acmp_ne C.1 C.2.1 hd ht k2 k1) k2 k1
theorem wp_acmp_eq {x y : Option Nat} {off : Int} {tgt : Nat} (hd : decode M.2.1 pc = .ok (.if_acmp .eq off, 3)) (ht : (pc : Int) + off = (tgt : Int)) (k1 : (x = y) → wp E d M tgt lo st h P) (k2 : ¬ (x = y) → wp E d M (pc + 3) lo st h P) : wp E d M pc lo (va_rf y :: va_rf x :: st) h P :=
  wp_br (fun p l e R s m args below meth c Q cells slots H locs ls C k1 k2 => lv_acmp_eq C.1 C.2.1 hd ht k1 k2) k1 k2
theorem wp_ireturn {v : Int32} {ty : FieldType} (hd : decode M.2.1 pc = .ok (.ireturn, 1)) (ht : M.2.2.2 = some ty) (hn : narrow ty (.int v) = .int v) (hP : P (some (.int v)) h) : wp E d M pc lo [.int v] h P := by
  refine ⟨_, h, hP, Nat.le_refl _, Nat.le_refl _, fun p l e R s m args below meth c Q cells slots H locs ls C a1 a2 a3 a4 hR hl hls hk => ?_⟩
  have := hk pc ls H locs (Or.inl ⟨v, rfl, hd, ty, ht, hn⟩) hR hl
  rw [Nat.sub_self, Nat.sub_self] at this
  exact this
theorem wp_return (hd : decode M.2.1 pc = .ok (.return_, 1)) (ht : M.2.2.2 = none) (hP : P none h) : wp E d M pc lo [] h P := by
  refine ⟨_, h, hP, Nat.le_refl _, Nat.le_refl _, fun p l e R s m args below meth c Q cells slots H locs ls C a1 a2 a3 a4 hR hl hls hk => ?_⟩
  have := hk pc ls H locs (Or.inr (Or.inl ⟨rfl, hd, ht⟩)) hR hl
  rw [Nat.sub_self, Nat.sub_self] at this
  exact this
theorem wp_areturn {v : Value} {rt : FieldType} (hd : decode M.2.1 pc = .ok (.areturn, 1)) (ht : M.2.2.2 = some rt) (hrt : (∃ n, rt = .object n) ∨ ∃ t, rt = .array t) (hv : v = .null ∨ ∃ a, v = .ref a) (hP : P (some v) h) : wp E d M pc lo [v] h P := by
  refine ⟨_, h, hP, Nat.le_refl _, Nat.le_refl _, fun p l e R s m args below meth c Q cells slots H locs ls C a1 a2 a3 a4 hR hl hls hk => ?_⟩
  have := hk pc ls H locs (Or.inr (Or.inr ⟨v, rfl, hv, hd, rt, ht, hrt⟩)) hR hl
  rw [Nat.sub_self, Nat.sub_self] at this
  exact this
def xF (own : String) (idx ci k : Nat) (C : String) (T : u_T) (N : Nat) : Prop :=
  vwCl[ci]? = some (C, T, N) ∧ k < N ∧ (∀ w ∈ u_ws C T N, w ∈ xGT) ∧
  (Cond.fieldLink own idx (T k).1 (T k).2.1 (T k).2.2.1 ∈ xGT ∨ ∃ host, Cond.fieldLinkNest own idx (T k).1 (T k).2.1 (T k).2.2.1 host ∈ lw_tbl)
theorem x_nestF {E : xE} {s : State} (hK : xK E s) {args : Array Value} {a b n t o : String} {i : Nat} (h : Cond.fieldLinkNest a i b n t o ∈ lw_tbl) : (Cond.fieldLinkNest a i b n t o).before args s = true := by
  obtain ⟨A, hA⟩ := hK.2.2
  exact va_Nw.use rfl (va_Nw.warmF hK.2.1 (va_Nw.of rfl (hA _ h)))
theorem x_nestM {E : xE} {s : State} (hK : xK E s) {a o : String} {i : Nat} {y : MethodName} (h : Cond.methodLinkNest a i y o ∈ lw_tbl) : va_Nw (.methodLinkNest a i y o) s := by
  obtain ⟨A, hA⟩ := hK.2.2
  exact va_Nw.warmM hK.2.1 (va_Nw.of rfl (hA _ h))
theorem wp_get {a ci k idx N : Nat} {fs : List Value} {v : Value} {C : String} {T : u_T} (hf : xF M.1.cls idx ci k C T N) (hd : decode M.2.1 pc = .ok (.getfield idx, 3)) (ha : h.2.2 a = some (.inr (ci, fs))) (hv : fs[k]? = some v)
    (kk : wp E d M (pc + 3) lo (v :: st) h P) : wp E d M pc lo (.ref a :: st) h P := by
  obtain ⟨f1, f2, f3, f4⟩ := hf
  refine wp_go (fun p l e R s m args below meth c Q cells slots H locs ls C _ _ hR hl kk => ?_) kk
  obtain ⟨hx, hb, hr, hml, hown, hlk, hK, hnm⟩ := C
  rcases f4 with f4 | ⟨host, f4⟩
  · exact va_get hx hb (x_hts hK) f3 hown hK.1 (hR.P ha) 0 rfl f1 k f2 (x_hts hK _ f4) (fun _ h9 => h9) hv hd (kk ls hl)
  · exact va_getN hx hb (x_hts hK) f3 hown hK.1 (hR.P ha) 0 rfl f1 k f2 (x_nestF hK f4) (fun _ h9 => h9) hv hd (kk ls hl)
def xG (T : u_T) (N : Nat) (ty0 : Nat → FieldType) : Prop :=
  (∀ k, k < N → parseFieldDescriptor (T k).2.2.1 = some (ty0 k)) ∧ (∀ a, a < N → ∀ b, b < N → a ≠ b → (T a).2.1 ≠ (T b).2.1)
def xW (M : xM) (k : Nat) (T : u_T) : Prop := (T k).2.2.2 = false ∨ ((T k).2.2.2 = true ∧ M.1.name = "<init>" ∧ (T k).1 = M.1.cls)
theorem wp_put {a ci k idx N : Nat} {fs : List Value} {v : Value} {C : String} {T : u_T} {ty0 : Nat → FieldType} (hf : xF M.1.cls idx ci k C T N) (hg : xG T N ty0) (hw : xW M k T) (hd : decode M.2.1 pc = .ok (.putfield idx, 3)) (ha : h.2.2 a = some (.inr (ci, fs)))
    (hn : narrow (ty0 k) v = v) (hfit : fits (ty0 k) v = true) (hl : k < fs.length) (kk : wp E d M (pc + 3) lo st (xput h a (.inr (ci, fs.set k v))) P) : wp E d M pc lo (v :: .ref a :: st) h P := by
  obtain ⟨f1, f2, f3, f4⟩ := hf
  obtain ⟨g1, g2⟩ := hg
  have g3 := hw
  refine wp_al (h2 := xput h a (.inr (ci, fs.set k v))) 0 0 rfl rfl (fun p l e R s m args below meth c Q cells slots H locs ls C _ _ _ _ hR hlo hls kk => ?_) kk
  obtain ⟨hx, hb, hr, hml, hown, hlk, hK, hnm⟩ := C
  have hts := x_hts hK (args := args)
  have hap := va_apart (own := M.1.cls) hts f3 ty0 g1 g2 hK.1 f1
  obtain ⟨r, h1, cell, q1, q2, q3, q4⟩ := (hR.2.1 a _ ha).2
  have hr : r = _ := Option.some.inj (h1.symm.trans f1)
  subst hr
  obtain ⟨hS, hfc, kC, hkC, hkind⟩ := hK.1.1 ci _ f1
  obtain ⟨cf, kf, fi, f, hi, hsl⟩ := hS k f2
  have hlay := hts _ (f3 _ (u_in_lay f2))
  unfold u_lay at hlay
  have hst := (u_facts hfc hkC (u_lays hts f3 f2) hi).1
  have fin : ∀ H' : Heap, H'[a]? = some (cell.setSlot f.slot v) → H'.size = H.size → (∀ q, q ≠ a → H'[q]? = H[q]?) → W p l e R s m args below meth c H' (locs ++ [⟨a, f.slot⟩]) cells slots Q (F0 m (pc + 3) ls st) := by
    intro H' e1 e2 e3
    rw [hsl] at e1
    refine kk H' _ (hR.put (hR.2.1 a _ ha).1 ⟨_, f1, t_OB.to (V := updV (vp_V fs) k v) ⟨_, e1, q2, q3, t_set q4 hap f2 v⟩ (fun j _ => vp_updV_set hl v j)⟩ e2 e3) (fun q hq => ?_)
    rcases List.mem_append.mp hq with h9 | h9
    · exact hlo q h9
    · rw [List.mem_singleton.mp h9]
      exact (hR.2.1 a _ ha).1
  rcases g3 with g3 | ⟨g3, g4, g5⟩
  · rw [if_neg (by rw [g3]; decide)] at hlay
    have h6 := u_store hfc hkC hkind hlay hi (g1 k f2) hn hfit
    rcases f4 with f4 | ⟨host, f4⟩
    · exact W.putK hx hb (f := f) ⟨hown, hts _ f4, ⟨_, _, _, hi⟩, hst⟩ (by rw [q2]; exact h6) q1 q3 (by rw [hsl]; exact k2_hasslot (q4 k f2)) rfl rfl hd fin
    · exact va_WputK hx hb (f := f) hown (x_nestF hK f4) hi hst (by rw [q2]; exact h6) q1 q3 (by rw [hsl]; exact k2_hasslot (q4 k f2)) rfl rfl hd fin
  · rw [if_pos g3] at hlay
    have hcf : m.cls = cf := by
      obtain ⟨_, _, c', _, _, _, -, -, hf', -, -, -, hown2, -⟩ := Cond.laysFinal_spec hlay
      have e1 : c' = cf := by have := hi.symm.trans hf'; simp at this; exact this.1.symm
      rw [g5] at hown2
      rw [← e1]; exact Option.some.inj (hown.symm.trans hown2)
    have h6 := u_fits hfc hkC hkind (Or.inr hlay) hi (g1 k f2) hn hfit
    rcases f4 with f4 | ⟨host, f4⟩
    · exact W.putFinK hx hb hown (hts _ f4) hi hst hcf (hnm.trans g4) (by rw [q2]; exact h6) q1 q3 (by rw [hsl]; exact k2_hasslot (q4 k f2)) rfl rfl hd fin
    · refine va_Wputf hx hb hown (x_nestF hK f4) hi hst (Or.inr ⟨hcf, hnm.trans g4⟩) q1 (by rw [q3]; exact fun h => by cases h) (by rw [hsl]; exact k2_hasslot (q4 k f2)) h6.1 (by rw [q3, q2]; exact h6.2) rfl rfl hd (fin _ ?_ ?_ ?_)
      · have ha' : a < H.size := (Array.getElem?_eq_some_iff.mp q1).1
        simp [Array.getElem?_setIfInBounds, ha']
      · simp
      · intro q hq
        simp [Array.getElem?_setIfInBounds, Ne.symm hq]
theorem wp_iald {a t n : Nat} {cA : ClassId} {f : Nat → Int32} {i : Int32} (hd : decode M.2.1 pc = .ok (.iaload, 1)) (ha : h.2.2 a = some (.inl (cA, n, .inl f))) (ht : E.2.2[t]? = some (cA, .int)) (hi : vp_in i n)
    (kk : wp E d M (pc + 1) lo (.int (f i.toNatClampNeg) :: st) h P) : wp E d M pc lo (.int i :: .ref a :: st) h P :=
  wp_go (fun p l e R s m args below meth c Q cells slots H locs ls C _ _ hR hl kk => va_iald C.1 C.2.1 C.2.2.2.2.2.2.1.1 (hR.P ha) 0 t rfl ht hi hd (kk ls hl)) kk
theorem wp_lald {a t n : Nat} {cA : ClassId} {f : Nat → Int64} {i : Int32} (hd : decode M.2.1 pc = .ok (.laload, 1)) (ha : h.2.2 a = some (.inl (cA, n, .inr (.inl f)))) (ht : E.2.2[t]? = some (cA, .long)) (hi : vp_in i n)
    (kk : wp E d M (pc + 1) lo (.long (f i.toNatClampNeg) :: st) h P) : wp E d M pc lo (.int i :: .ref a :: st) h P :=
  wp_go (fun p l e R s m args below meth c Q cells slots H locs ls C _ _ hR hl kk => va_lald C.1 C.2.1 C.2.2.2.2.2.2.1.1 (hR.P ha) 0 t rfl ht hi hd (kk ls hl)) kk
theorem wp_zald {a t n : Nat} {cA : ClassId} {f : Nat → Int32} {i : Int32} (hd : decode M.2.1 pc = .ok (.baload, 1)) (ha : h.2.2 a = some (.inl (cA, n, .inl f))) (ht : E.2.2[t]? = some (cA, .boolean)) (hi : vp_in i n)
    (kk : wp E d M (pc + 1) lo (.int (f i.toNatClampNeg) :: st) h P) : wp E d M pc lo (.int i :: .ref a :: st) h P :=
  wp_go (fun p l e R s m args below meth c Q cells slots H locs ls C _ _ hR hl kk => va_zald C.1 C.2.1 C.2.2.2.2.2.2.1.1 (hR.P ha) 0 t rfl ht hi hd (kk ls hl)) kk
theorem wp_alen {a t : Nat} {cA : ClassId} {x : vp_A} {ty : FieldType} (hd : decode M.2.1 pc = .ok (.arraylength, 1)) (ha : h.2.2 a = some (.inl (cA, x))) (ht : E.2.2[t]? = some (cA, ty))
    (kk : wp E d M (pc + 1) lo (.int (nI x.1) :: st) h P) : wp E d M pc lo (.ref a :: st) h P :=
  wp_go (fun p l e R s m args below meth c Q cells slots H locs ls C _ _ hR hl kk => va_alen C.1 C.2.1 C.2.2.2.2.2.2.1.1 (hR.P ha) 0 t rfl ht rfl hd (kk ls hl)) kk
theorem wp_iast {a t n : Nat} {cA : ClassId} {f : Nat → Int32} {i x : Int32} (hd : decode M.2.1 pc = .ok (.iastore, 1)) (ha : h.2.2 a = some (.inl (cA, n, .inl f))) (ht : E.2.2[t]? = some (cA, .int)) (hi : vp_in i n)
    (kk : wp E d M (pc + 1) lo st (xput h a (.inl (cA, n, .inl (upd f i.toNatClampNeg x)))) P) : wp E d M pc lo (.int x :: .int i :: .ref a :: st) h P := by
  refine wp_al (h2 := xput h a (.inl (cA, n, .inl (upd f i.toNatClampNeg x)))) 0 0 rfl rfl (fun p l e R s m args below meth c Q cells slots H locs ls C _ _ _ _ hR hlo hls kk => ?_) kk
  have hK := C.2.2.2.2.2.2.1.1
  refine W.iast C.1 C.2.1 (hR.2.1 a _ ha).2 ((hK.2 t _ ht).1 n (fun j => .int (f j))) (fun q => by cases q) (by show ¬ (i < 0 ∨ (arrV _ _ _).slots.size ≤ _); rw [arrV_size]; exact hi) rfl rfl hd fun H1 e z oq => ?_
  refine kk H1 _ (hR.put (hR.2.1 a _ ha).1 ?_ z oq) (fun q hq => ?_)
  · show H1[a]? = some (vp_cell _ _)
    rw [e]
    rw [vp_cell_i, vp_cell_i, arrV_store]
    congr 2
    funext q
    by_cases hq : q = i.toNatClampNeg
    · subst hq
      simp [updV, upd]
    · simp [updV, upd, hq]
  · rcases List.mem_append.mp hq with h9 | h9
    · exact hlo q h9
    · rw [List.mem_singleton.mp h9]
      exact (hR.2.1 a _ ha).1
theorem wp_last {a t n : Nat} {cA : ClassId} {f : Nat → Int64} {i : Int32} {x : Int64} (hd : decode M.2.1 pc = .ok (.lastore, 1)) (ha : h.2.2 a = some (.inl (cA, n, .inr (.inl f)))) (ht : E.2.2[t]? = some (cA, .long)) (hi : vp_in i n)
    (kk : wp E d M (pc + 1) lo st (xput h a (.inl (cA, n, .inr (.inl (vp_updL f i.toNatClampNeg x))))) P) : wp E d M pc lo (.long x :: .int i :: .ref a :: st) h P := by
  refine wp_al (h2 := xput h a (.inl (cA, n, .inr (.inl (vp_updL f i.toNatClampNeg x))))) 0 0 rfl rfl (fun p l e R s m args below meth c Q cells slots H locs ls C _ _ _ _ hR hlo hls kk => ?_) kk
  have hK := C.2.2.2.2.2.2.1.1
  refine W.last C.1 C.2.1 (hR.2.1 a _ ha).2 ((hK.2 t _ ht).1 n (fun j => .long (f j))) (fun q => by cases q) (by show ¬ (i < 0 ∨ (arrV _ _ _).slots.size ≤ _); rw [arrV_size]; exact hi) rfl rfl hd fun H1 e z oq => ?_
  refine kk H1 _ (hR.put (hR.2.1 a _ ha).1 ?_ z oq) (fun q hq => ?_)
  · show H1[a]? = some (vp_cell _ _)
    rw [e]
    rw [vp_cell_l, vp_cell_l, arrV_store]
    congr 2
    funext q
    by_cases hq : q = i.toNatClampNeg
    · subst hq
      simp [updV, vp_updL]
    · simp [updV, vp_updL, hq]
  · rcases List.mem_append.mp hq with h9 | h9
    · exact hlo q h9
    · rw [List.mem_singleton.mp h9]
      exact (hR.2.1 a _ ha).1
theorem x_newi (cA : ClassId) (N : Nat) : vp_cell cA (N, .inl (fun _ => 0)) = arrV cA N (fun _ => defaultValue .int) := rfl
theorem x_newl (cA : ClassId) (N : Nat) : vp_cell cA (N, .inr (.inl (fun _ => 0))) = arrV cA N (fun _ => defaultValue .long) := rfl
theorem x_newz (cA : ClassId) (N : Nat) : vp_cell cA (N, .inl (fun _ => 0)) = arrV cA N (fun _ => defaultValue .boolean) := rfl
theorem wp_newa {atype : ArrayType} {ty : FieldType} {t N : Nat} {cA : ClassId} {n : Int32} {a0 : vp_A} (hty : newarray.typeOf atype = ty) (hw : Cond.arrayClass ty ∈ xGT) (hd : decode M.2.1 pc = .ok (.newarray atype, 2)) (ht : E.2.2[t]? = some (cA, ty)) (ha : vp_cell cA a0 = arrV cA N (fun _ => defaultValue ty))
    (hra : ∀ U : State, va_RA U cA ty → U.vm.findClass ("[" ++ ty.toString) = some cA) (hn : ¬ n < 0) (hN : n.toNatClampNeg = N) (hbytes : N * componentBytes ty ≤ 536870912)
    (kk : wp E d M (pc + 2) lo (.ref (xb E + h.1) :: st) (xnew E h N (.inl (cA, a0))) P) : wp E d M pc lo (.int n :: st) h P := by
  subst hty
  refine wp_al (h2 := xnew E h N (.inl (cA, a0))) 1 N rfl rfl (fun p l e R s m args below meth c Q cells slots H locs ls C _ _ b1 b2 hR hlo hls kk => ?_) kk
  have hK := C.2.2.2.2.2.2.1
  refine va_newaK C.1 C.2.1 (x_hts hK _ hw) rfl hd rfl hn hN hbytes b1 b2 rfl fun H1 cA' e1 z1 o1 hAr hNm => ?_
  have hcA : cA' = cA := Option.some.inj (hNm.symm.trans (hra s (hK.1.2 t _ ht).2))
  subst hcA
  have hsz := hR.1
  rw [show (F0 m pc ls (.int n :: st)).pc = pc from rfl]
  have := kk H1 locs (hR.new (by show H1[H.size]? = some (vp_cell _ _); rw [ha]; exact e1) z1 o1) hlo
  rw [← hsz] at this
  exact this
def xN (own : String) (idx ci N : Nat) (fs : List Value) : Prop := ∃ (C : String) (T : u_T) (ty0 : Nat → FieldType), vwCl[ci]? = some (C, T, N) ∧ (∀ w ∈ u_ws C T N, w ∈ xGT) ∧ (∀ k, k < N → parseFieldDescriptor (T k).2.2.1 = some (ty0 k)) ∧ Cond.classLink own idx C ∈ xGT ∧ Cond.instantiable C N ∈ xGT ∧ Cond.initialized C ∈ xGT ∧ ∀ j, j < N → defaultValue (ty0 j) = vp_V fs j
theorem wp_new {ci idx N : Nat} {fs : List Value} (hN : xN M.1.cls idx ci N fs) (hd : decode M.2.1 pc = .ok (.new idx, 3))
    (kk : wp E d M (pc + 3) lo (.ref (xb E + h.1) :: st) (xnew E h N (.inr (ci, fs))) P) : wp E d M pc lo st h P := by
  obtain ⟨C, T, ty0, hc, hin, hty, hcl, hinst, hini, hfs⟩ := hN
  refine wp_al (h2 := xnew E h N (.inr (ci, fs))) 1 N rfl rfl (fun p l e R s m args below meth c Q cells slots H locs ls C _ _ b1 b2 hR hlo hls kk => ?_) kk
  obtain ⟨hx, hb, hr, hml, hown, hlk, hK, hnm⟩ := C
  have hts := x_hts hK (args := args)
  have hKn := hK.1.1 ci _ hc
  refine W.newcK hx hb hown (hts _ hcl) (hts _ hinst) (hts _ hini) rfl hd b1 b2 hKn.2.1 rfl fun H1 kC hkC e1 z1 o1 => ?_
  have hsz := hR.1
  have := kk H1 locs (hR.new ⟨_, hc, (u_born ty0 hts hin hKn hkC e1 hty).to hfs⟩ z1 o1) hlo
  rw [← hsz] at this
  exact this
def xO (own : String) (idx : Nat) : Prop := Cond.methodLink own idx Lib.objectInit ∈ xGT ∧ Cond.instanceMethod Lib.objectInit ∈ xGT ∧ Cond.code Lib.objectInit ⟨#[0xb1]⟩ 1 none ∈ xGT
theorem wp_objInit {idx a : Nat} (hO : xO M.1.cls idx) (hd : decode M.2.1 pc = .ok (.invokespecial idx, 3)) (hcat : (st.map fun v => v.category).sum ≤ 8)
    (hdd : 1 ≤ d) (kk : wp E d M (pc + 3) lo st h P) : wp E d M pc lo (.ref a :: st) h P := by
  obtain ⟨hl, hi, hc⟩ := hO
  refine wp_go (fun p l e R s m args below meth c Q cells slots H locs ls C a1 a2 hR hls kk => ?_) kk
  obtain ⟨hx, hb, hr, hml, hown, hlk, hK, hnm⟩ := C
  have hts := x_hts hK (args := args)
  refine W.objInit hx hb hown (hts _ hl) (hts _ hi) (hts _ hc) rfl (by rw [hml]; exact hls.1) rfl hd (by omega) ?_ (kk ls hls)
  have := lv_room (m := m) (pc := pc) (ls := ls) (rest := .ref a :: st) hcat
  omega
def xCall (own : String) (idx : Nat) (M' : xM) (n : Nat) : Prop :=
  (Cond.methodLink own idx M'.1 ∈ xGT ∨ ∃ host, Cond.methodLinkNest own idx M'.1 host ∈ lw_tbl) ∧ Cond.initialized M'.1.cls ∈ xGT ∧ Cond.code M'.1 M'.2.1 M'.2.2.1 M'.2.2.2 ∈ xGT ∧
  (M'.1.cls ≠ "java/lang/invoke/MethodHandle" ∧ M'.1.cls ≠ "java/lang/invoke/VarHandle" ∧ (parseMethodDescriptor M'.1.desc).map (fun d => d.parameters.length) = some n) ∧ M'.2.2.1 ≤ 29
theorem x_pre {E : xE} {s : State} {H : Heap} {As : List Value} {h : xH} (hK : xK E s) (hR : xHR E h H) : PreS s H (xPc E As h) As :=
  ⟨xPc.blind, fun U hU hW => ⟨rfl, by rw [hU]; exact hR, hK.moved hW⟩⟩
theorem x_good {E : xE} {s : State} {M' : xM} {args : Array Value} (hc : Cond.code M'.1 M'.2.1 M'.2.2.1 M'.2.2.2 ∈ xGT) : GoodIn xGT (xws M') := fun w hw => by
  rw [xws, List.mem_singleton] at hw
  subst hw
  exact ⟨hc, good_of_word (List.mem_filter.mp hc).2⟩
theorem wp_call {P' : Option Value → xH → Prop} {M' : xM} {As rest : List Value} {dc : Nat} (hdd : dc + 1 ≤ d) (k : wpc E dc M' As h P') (kk : ∀ r h1, P' r h1 → wp E d M (pc + 3) lo (r.toList ++ rest) h1 P)
    (hs : ∀ (r : Option Value) (h1 : xH) (p : Program) (l : Launch) (e : Env) (R : Room) (s : State) (m : MethodId) (args : Array Value) (below : List Frame) (meth : Method) (c : Code) (cells slots : Nat) (H : Heap) (locs : List Loc) (ls : Array Slot),
      xC E M p s m meth c → d - 1 + 1 ≤ R.frames → 48 * (d - 1 + 1) ≤ R.locals → cells + (h1.1 - h.1) ≤ R.cells → slots + (h1.2.1 - h.2.1) ≤ R.slots → xHR E h H → lv_has ls M.2.2.1 lo →
      Met l M'.1 (xws M') ({ frames := d - 1, cells := h1.1 - h.1, slots := h1.2.1 - h.2.1, locals := 48 * (d - 1) }) (xPc E As h) (xQc E r h1) (h1.1 - h.1) (h1.2.1 - h.2.1) (xfree E) →
      va_Run p l e R s m args below meth c H locs cells slots (h1.1 - h.1) (h1.2.1 - h.2.1) (F0 m pc ls st) rest (xQc E r h1 As.toArray) (xfree E)) : wp E d M pc lo st h P := by
  obtain ⟨r, h1, hP', n1, n2, hM⟩ := k
  obtain ⟨r2, h2, hP, m1, m2, K⟩ := kk r h1 hP'
  refine ⟨r2, h2, hP, by omega, by omega, fun p l e R s m args below meth c Q cells slots H locs ls C a1 a2 a3 a4 hR hl hls hk => ?_⟩
  intro T hT X
  obtain ⟨v, st₀, t, T', L, h0, X', hL, e1, -, ⟨hv, hR'⟩, hst⟩ := hs r h1 p l e R s m args below meth c cells slots H locs ls C (by omega) (by omega) (by omega) (by omega) hR hls (hM (d - 1) l (by omega)) T hT X
  cases hv
  obtain ⟨t2, b1, b2⟩ := K p l e R s m args below meth c Q (cells + (h1.1 - h.1)) (slots + (h1.2.1 - h.2.1)) T'.heap (locs ++ L) ls C a1 a2 (by omega) (by omega) (by rw [e1]; exact hR') (fun q hq => by
    rcases List.mem_append.mp hq with h9 | h9
    · exact hl q h9
    · exact hL q h9) hls (fun pc' ls' H' locs' x1 x2 x3 => by
      have f1 : cells + (h1.1 - h.1) + (h2.1 - h1.1) = cells + (h2.1 - h.1) := by omega
      have f2 : slots + (h1.2.1 - h.2.1) + (h2.2.1 - h1.2.1) = slots + (h2.2.1 - h.2.1) := by omega
      rw [f1, f2]
      exact hk pc' ls' H' locs' x1 x2 x3) T' rfl X'
  exact ⟨t2, hst t2 b1, b2⟩
theorem x_cw {E : xE} {M M' : xM} {idx n d : Nat} {R : Room} {s : State} {args : Array Value} {mc ms : Nat} (hc : xCall M.1.cls idx M' n) (hK : xK E s) (hf : d + 1 ≤ R.frames) (hl : 48 * (d + 1) ≤ R.locals) :
    CallB R s args M.1.cls idx M'.1 M'.2.1 M'.2.2.1 M'.2.2.2 (xws M') ({ frames := d, cells := mc, slots := ms, locals := 48 * d }) mc ms n ∨ ∃ host, va_CN R s args M.1.cls idx M'.1 host M'.2.1 M'.2.2.1 M'.2.2.2 (xws M') ({ frames := d, cells := mc, slots := ms, locals := 48 * d }) mc ms n := by
  obtain ⟨c1, c2, c3, c4, c5⟩ := hc
  have hts := x_hts hK (args := args)
  have hr : 8 + (M'.2.2.1 + 11) + 48 * d ≤ R.locals := by omega
  rcases c1 with c1 | ⟨host, c1⟩
  · exact Or.inl (callB_of n hts (x_good (E := E) (s := s) (args := args) c3) rfl rfl rfl (hts _ c2) (hts _ c1) c4 ⟨hf, hr⟩)
  · exact Or.inr ⟨host, va_cnB n hts (x_good (E := E) (s := s) (args := args) c3) rfl rfl rfl (x_nestM hK c1) (hts _ c2) c4 ⟨hf, hr⟩⟩
def xCV (own : String) (idx : Nat) (M' : xM) (n ci : Nat) : Prop := xCall own idx M' n ∧ (∃ (C : String) (T : u_T) (N : Nat), vwCl[ci]? = some (C, T, N) ∧ Cond.selects C M'.1 M'.1 ∈ xGT) ∧ Cond.instanceMethod M'.1 ∈ xGT
def xCS (own : String) (idx : Nat) (M' : xM) (n : Nat) : Prop := xCall own idx M' n ∧ Cond.static M'.1 ∈ xGT
def xCI (own : String) (idx : Nat) (M' : xM) (n : Nat) : Prop := xCall own idx M' n ∧ Cond.instanceMethod M'.1 ∈ xGT ∧ M'.1.name = "<init>" ∧ M'.2.2.2 = none
theorem wp_callV {P' : Option Value → xH → Prop} {M' : xM} {As rest : List Value} {a ci idx n dc : Nat} {fs : List Value} (hc : xCV M.1.cls idx M' n ci) (hd : decode M.2.1 pc = .ok (.invokevirtual idx, 3)) (hst : As.reverse ++ .ref a :: rest = st) (hn : As.length = n) (hcat : (rest.map fun v => v.category).sum ≤ 8)
    (ha : h.2.2 a = some (.inr (ci, fs))) (k : wpc E dc M' (.ref a :: As) h P') (hdd : dc + 1 ≤ d) (kk : ∀ r h1, P' r h1 → wp E d M (pc + 3) lo (r.toList ++ rest) h1 P) : wp E d M pc lo st h P := by
  subst hst
  obtain ⟨hc, ⟨C, T, N, hcl, hsel⟩, hi⟩ := hc
  refine wp_call hdd k kk (fun r h1 p l e R s m args below meth c cells slots H locs ls Cx a1 a2 a3 a4 hR hls hM => ?_)
  obtain ⟨hx, hb, hr, hml, hown, hlk, hK, hnm⟩ := Cx
  have hts := x_hts hK (args := args)
  have hpre := x_pre (As := .ref a :: As) hK hR
  have hpv : PreV s H C a (xPc E (.ref a :: As) h) As := ⟨hpre.1, va_recv hK.1 (hR.P ha) hcl (q0 := 0) rfl, hpre.2⟩
  rcases x_cw (mc := h1.1 - h.1) (ms := h1.2.1 - h.2.1) (args := args) hc hK a1 a2 with cw | ⟨host, cw⟩
  · exact va_runV ⟨hx, hb, hml, hown, hts⟩ hM ⟨cw, hts _ hi, hts _ hsel⟩ hpv rfl hn hls.1 rfl (lv_room hcat) hd ⟨a3, a4⟩
  · exact va_runVN ⟨hx, hb, hml, hown, hts⟩ hM ⟨cw, hts _ hi, hts _ hsel⟩ hpv rfl hn hls.1 rfl (lv_room hcat) hd ⟨a3, a4⟩
theorem wp_callS {P' : Option Value → xH → Prop} {M' : xM} {As rest : List Value} {idx n dc : Nat} (hc : xCS M.1.cls idx M' n) (hd : decode M.2.1 pc = .ok (.invokestatic idx, 3)) (hst : As.reverse ++ rest = st) (hn : As.length = n) (hcat : (rest.map fun v => v.category).sum ≤ 8)
    (k : wpc E dc M' As h P') (hdd : dc + 1 ≤ d) (kk : ∀ r h1, P' r h1 → wp E d M (pc + 3) lo (r.toList ++ rest) h1 P) : wp E d M pc lo st h P := by
  subst hst
  obtain ⟨hc, hi⟩ := hc
  refine wp_call hdd k kk (fun r h1 p l e R s m args below meth c cells slots H locs ls Cx a1 a2 a3 a4 hR hls hM => ?_)
  obtain ⟨hx, hb, hr, hml, hown, hlk, hK, hnm⟩ := Cx
  have hts := x_hts hK (args := args)
  have hpre := x_pre (As := As) hK hR
  rcases x_cw (mc := h1.1 - h.1) (ms := h1.2.1 - h.2.1) (args := args) hc hK a1 a2 with cw | ⟨host, cw⟩
  · exact va_runS ⟨hx, hb, hml, hown, hts⟩ hM ⟨cw, hts _ hi⟩ hpre rfl hn hls.1 rfl (lv_room hcat) hd ⟨a3, a4⟩
  · exact va_runSN ⟨hx, hb, hml, hown, hts⟩ hM ⟨cw, hts _ hi, trivial⟩ hpre rfl hn hls.1 rfl (lv_room hcat) hd ⟨a3, a4⟩
theorem wp_callI {P' : Option Value → xH → Prop} {M' : xM} {As rest : List Value} {a idx n dc : Nat} (hc : xCI M.1.cls idx M' n) (hd : decode M.2.1 pc = .ok (.invokespecial idx, 3)) (hst : As.reverse ++ .ref a :: rest = st) (hn : As.length = n) (hcat : (rest.map fun v => v.category).sum ≤ 8)
    (k : wpc E dc M' (.ref a :: As) h P') (hdd : dc + 1 ≤ d) (kk : ∀ r h1, P' r h1 → wp E d M (pc + 3) lo (r.toList ++ rest) h1 P) : wp E d M pc lo st h P := by
  subst hst
  obtain ⟨hc, hi, hnm, hret⟩ := hc
  refine wp_call hdd k kk (fun r h1 p l e R s m args below meth c cells slots H locs ls Cx a1 a2 a3 a4 hR hls hM => ?_)
  obtain ⟨hx, hb, hr, hml, hown, hlk, hK, hnm'⟩ := Cx
  have hts := x_hts hK (args := args)
  have hpre := x_pre (As := .ref a :: As) hK hR
  obtain ⟨y', cc', maxL', ret'⟩ := M'
  dsimp only at hret hnm hi
  subst hret
  rcases x_cw (mc := h1.1 - h.1) (ms := h1.2.1 - h.2.1) (args := args) hc hK a1 a2 with cw | ⟨host, cw⟩
  · exact va_runI ⟨hx, hb, hml, hown, hts⟩ hM ⟨cw, hnm, hts _ hi⟩ hpre rfl hn hls.1 rfl (lv_room hcat) hd ⟨a3, a4⟩
  · exact va_runIN ⟨hx, hb, hml, hown, hts⟩ hM ⟨cw, hnm, hts _ hi⟩ hpre rfl hn hls.1 rfl (lv_room hcat) hd ⟨a3, a4⟩
end XP
theorem wpc_of {E : xE} {d : Nat} {M : xM} {As : List Value} {h : xH} {P : Option Value → xH → Prop} (hp : plainName M.1.cls = true) (hlen : (lg_sl As).length ≤ M.2.2.1) (k : wp E d M 0 (lv_args 0 As) [] h P) : wpc E d M As h P := by
  obtain ⟨r, h', hP, h1, h2, K⟩ := k
  refine ⟨r, h', hP, h1, h2, fun D l hD => ?_⟩
  refine Met.ofW (cc := M.2.1) (maxL := M.2.2.1) (ret := M.2.2.2) (ws' := []) hp rfl ?_
  intro p e s m args below meth c s₁ B hml hv
  obtain ⟨rfl, hR, hK⟩ := hv
  have hlocks := B.notSynchronized
  have C : xC E M p s m meth c := ⟨B.exec, B.bytes, B.returns, hml, findClass_of_methodNamed B.named, hlocks, hK, (name_of_methodNamed B.named B.method).1⟩
  rw [lg_entry_eq]
  refine K p l e _ s m _ below meth c _ 0 0 s.heap [] _ C hD (Nat.mul_le_mul_left 48 hD) (by rw [Nat.zero_add]; exact Nat.le_refl _) (by rw [Nat.zero_add]; exact Nat.le_refl _) hR (fun q hq => by cases hq) (lv_entry As hlen) ?_
  intro pc' ls' H' locs' hret hR' hl'
  rw [Nat.zero_add, Nat.zero_add]
  rcases hret with ⟨v, rfl, hd, ty, ht, hn⟩ | ⟨rfl, hd, ht⟩ | ⟨v, rfl, hv, hd, rt, ht, hrt⟩
  · exact W.zret (v := v) B.exec B.bytes (B.returns.trans ht) hn (fun t ht hW => ⟨rfl, by rw [ht]; exact hR'⟩) hl' hd
  · exact W.vret B.exec B.bytes (B.returns.trans ht) (fun t ht hW => ⟨rfl, by rw [ht]; exact hR'⟩) hl' hd
  · exact W.aret (v := v) B.exec B.bytes (B.returns.trans ht) hrt hv (fun t ht hW => ⟨rfl, by rw [ht]; exact hR'⟩) hl' hd
theorem xg_eq {h : xH} {a : Nat} {e : va_E} : (xput h a e).2.2 a = some e := by simp [xput, va_up]
theorem xg_ne {h : xH} {a b : Nat} {e : va_E} {v : Option va_E} (hab : b ≠ a) (hb : h.2.2 b = v) : (xput h a e).2.2 b = v := by simp [xput, va_up, hab, hb]
theorem xn_eq {E : xE} {h : xH} {a n : Nat} {e : va_E} (ha : a = xb E + h.1) : (xnew E h n e).2.2 a = some e := by simp [xnew, va_up, ha]
theorem xn_ne {E : xE} {h : xH} {b n : Nat} {e : va_E} {v : Option va_E} (hab : b ≠ xb E + h.1) (hb : h.2.2 b = v) : (xnew E h n e).2.2 b = v := by simp [xnew, va_up, hab, hb]
def xcI (E : xE) : ClassId := (E.2.2.getD 0 (0, .int)).1
def xcJ (E : xE) : ClassId := (E.2.2.getD 1 (0, .int)).1
def xcZ (E : xE) : ClassId := (E.2.2.getD 2 (0, .int)).1
def xOK (E : xE) : Prop := E.2.2 = [(xcI E, .int), (xcJ E, .long), (xcZ E, .boolean)]
theorem xOK.i {E : xE} (h : xOK E) : E.2.2[0]? = some (xcI E, .int) := by rw [h]; rfl
theorem xOK.j {E : xE} (h : xOK E) : E.2.2[1]? = some (xcJ E, .long) := by rw [h]; rfl
theorem xOK.z {E : xE} (h : xOK E) : E.2.2[2]? = some (xcZ E, .boolean) := by rw [h]; rfl
abbrev aI (E : xE) (n : Nat) (f : Nat → Int32) : va_E := .inl (xcI E, n, .inl f)
abbrev aJ (E : xE) (n : Nat) (f : Nat → Int64) : va_E := .inl (xcJ E, n, .inr (.inl f))
abbrev aZ (E : xE) (n : Nat) (f : Nat → Int32) : va_E := .inl (xcZ E, n, .inl f)
abbrev ob (ci : Nat) (fs : List Value) : va_E := .inr (ci, fs)
