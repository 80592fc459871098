def R_law : String := "PatternSearchLaw"
def lw_P (b : Addr) (xs : List Int32) (args : Array Value) (s : State) : Prop := args = #[.ref b] ∧ s.IntsAt b xs ∧ xs.length ≤ 1536 ∧ (Jvm.Cond.and given_1 narrow_1).before args s = true
def lw_Q (_ : Array Value) (s : State) (o : Outcome) (t : State) : Prop := o = .returned (some (.int 1)) ∧ Framed s o t [] 600000 7302250
def lw_Z (below : List Frame) (a : Array Value) (s : State) : State → Prop := fun t => ∃ o, t.status = .running ∧ Ended t below o ∧ lw_Q a s o t
theorem lw_ret {p : Program} {l : Launch} {e : Env} {s : State} {m : MethodId} {below : List Frame} {meth : Method} {c : Code} {b : Nat} (hx : p.tables.exec = Jvm.exec) (hb : c.code = code) (hr : meth.sig.returnType = ret) (hlocks : meth.locks = false) {pc : Nat} {H : Heap} {ls : Array Slot} (hdg : decode code pc = .ok (.ireturn, 1)) : W p l e room_1 s m #[Value.ref b] below meth c H [] 600000 7302250 (lw_Z below #[Value.ref b] s) (F0 m pc ls [.int 1]) := by
  intro T hT X
  obtain ⟨fs, hret, hrun, hended, hW, hframe⟩ := X.leave (v := some (.int 1)) (hlocks := hlocks) (fun h => by rw [hr] at h; cases h)
  have hmeth' : T.vm.method? m = some meth := X.method'
  refine ⟨T.setFrames fs, ?_, .returned (some (.int 1)), hrun, hended, rfl, ⟨_, rfl⟩, hW, hframe⟩
  jvm_step X.here [X.here.top, hx, hb, hdg, hmeth', hr, ret, narrow_b1]
  (try refine ⟨rfl, ?_⟩); (try refine ⟨rfl, ?_⟩)
  first | (intro acts; rw [hret _ acts rfl rfl rfl]) | rw [hret _ _ rfl rfl rfl]
  exact Steps.refl _
def lw_At (p : Program) (s : State) (m : MethodId) (meth : Method) (c : Code) (b L : Nat) (xs : Nat → Int32) : Prop :=
  p.tables.exec = Jvm.exec ∧ c.code = code ∧ meth.sig.returnType = ret ∧ c.maxLocals = 4 ∧ s.vm.findClass R_law = some m.cls ∧ (∀ w ∈ lw_tbl, w.before #[Value.ref b] s = true) ∧ va_X b L xs s s.heap ∧ b < s.heap.size ∧ meth.locks = false ∧ (Jvm.Cond.and given_1 narrow_1).before #[Value.ref b] s = true ∧ meth.name = x.name
theorem whole_start {p : Program} {e : Env} {s : State} {m : MethodId} {below : List Frame} {meth : Method} {c : Code} (l : Launch) {b L : Nat} {xs : Nat → Int32} (hL : L ≤ 1536) (C0 : lw_At p s m meth c b L xs) : W p l e room_1 s m #[Value.ref b] below meth c s.heap [] 0 0 (lw_Z below #[Value.ref b] s) (entryFrame m ([Value.ref b] : List Value).toArray 4) := by
  obtain ⟨hx, hb, hr, hml, hown, hts, hX, hbl, hlocks, hgv, hnm⟩ := C0
  have htsG : ∀ w ∈ xGT, w.before #[Value.ref b] s = true := fun w hw => hts w (List.mem_filter.mp hw).1
  have hcl := cls_known htsG
  obtain ⟨cI, i1, i2⟩ := arr_known (htsG _ ka_int)
  obtain ⟨cJ, j1, j2⟩ := arr_known (htsG _ ka_long)
  obtain ⟨cZ, z1, z2⟩ := arr_known (htsG _ ka_boolean)
  have hD : ∃ (dC : Nat → ClassId) (dI : Nat → Nat → Nat), ∀ (k : Nat) (q : vw_C), vwCl[k]? = some q → u_Kn s q.1 q.2.1 q.2.2 (dC k) (dI k) := by
    have h0 : ∀ k : Nat, ∃ d : ClassId × (Nat → Nat), ∀ q : vw_C, vwCl[k]? = some q → u_Kn s q.1 q.2.1 q.2.2 d.1 d.2 := by
      intro k
      cases hk : vwCl[k]? with
      | none => exact ⟨(0, fun _ => 0), fun q hq => (by cases hq)⟩
      | some q =>
        obtain ⟨cC, iS, h⟩ := hcl k q hk
        exact ⟨(cC, iS), fun q' hq => by cases hq; exact h⟩
    exact ⟨fun k => (Classical.choose (h0 k)).1, fun k => (Classical.choose (h0 k)).2, fun k => Classical.choose_spec (h0 k)⟩
  obtain ⟨dC, dI, hD⟩ := hD
  have hKv : va_K (dC, dI) vwCl [(cI, .int), (cJ, .long), (cZ, .boolean)] s := by
    refine ⟨hD, fun k q hq => ?_⟩
    match k, hq with
    | 0, hq => cases hq; exact ⟨i1, i2⟩
    | 1, hq => cases hq; exact ⟨j1, j2⟩
    | 2, hq => cases hq; exact ⟨z1, z2⟩
    | k + 3, hq => simp at hq
  have hE : xOK (s, (dC, dI), [(cI, .int), (cJ, .long), (cZ, .boolean)]) := rfl
  obtain ⟨kA, kV, hStr⟩ := str_known (E := (s, (dC, dI), [(cI, .int), (cJ, .long), (cZ, .boolean)])) hts hgv
  have hScr : xScr (s, (dC, dI), [(cI, .int), (cJ, .long), (cZ, .boolean)]) b L xs := ⟨hX, hbl⟩
  have hK : xK (s, (dC, dI), [(cI, .int), (cJ, .long), (cZ, .boolean)]) s := ⟨hKv, State.WarmedH.refl s, _, hts⟩
  obtain ⟨r, h', ⟨hr1, p2, p3⟩, -, -, K⟩ := lw_body hE hStr hScr hL
  subst hr1
  rw [lg_entry_eq]
  refine K p l e room_1 s m _ below meth c _ 0 0 s.heap [] _ ⟨hx, hb, hr, hml, hown, hlocks, hK, hnm⟩ (Nat.le_of_ble_eq_true rfl) (Nat.le_of_ble_eq_true rfl) (by show 0 + (h'.1 - 0) ≤ 600000; omega) (by show 0 + (h'.2.1 - 0) ≤ 7302250; omega) ⟨rfl, fun a e h => (by cases h), fun q _ => rfl⟩ (fun q hq => (by cases hq)) (lv_entry [.ref b] (Nat.le_of_ble_eq_true rfl)) ?_
  intro pc' ls' H' locs' hret hR' hl'
  rcases hret with ⟨v, hv, hd, -⟩ | ⟨hv, -⟩ | ⟨v, hv, hv2, -⟩
  · cases hv
    exact va_forget hl' (W.widen (k := 600000) (n := 7302250) (by show 0 + (h'.1 - 0) ≤ 600000; omega) (by show 0 + (h'.2.1 - 0) ≤ 7302250; omega) (lw_ret hx hb hr hlocks hd))
  · cases hv
  · cases hv
    rcases hv2 with z | ⟨a, z⟩ <;> cases z
