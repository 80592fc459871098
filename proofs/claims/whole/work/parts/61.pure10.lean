def lm : List (Nat × Nat) → Nat → Option Nat
  | [], _ => none
  | w :: ms, sl => match lm ms sl with
    | some y => some y
    | none => if w.1 = sl then some w.2 else none
theorem lm_ne {w : Nat × Nat} {ms : List (Nat × Nat)} {sl : Nat} (h : w.1 ≠ sl) : lm (w :: ms) sl = lm ms sl := by
  rw [lm]
  cases lm ms sl with
  | some y => rfl
  | none => exact if_neg h
theorem lm_some {w : Nat × Nat} {ms : List (Nat × Nat)} {sl y : Nat} (h : lm ms sl = some y) : lm (w :: ms) sl = some y := by rw [lm, h]
theorem lm_new {w : Nat × Nat} {ms : List (Nat × Nat)} {sl : Nat} (h : lm ms sl = none) (hw : w.1 = sl) : lm (w :: ms) sl = some w.2 := by rw [lm, h]; exact if_pos hw
theorem lm_mem : ∀ {ms : List (Nat × Nat)} {sl y : Nat}, lm ms sl = some y → (sl, y) ∈ ms
  | [], sl, y, h => by cases h
  | w :: ms, sl, y, h => by
    cases hl : lm ms sl with
    | some z =>
      rw [lm_some hl] at h; cases h
      exact List.mem_cons_of_mem _ (lm_mem hl)
    | none =>
      by_cases hw : w.1 = sl
      · rw [lm_new hl hw] at h; cases h; subst hw; exact List.mem_cons_self
      · rw [lm_ne hw, hl] at h; cases h
def oM (o : Option Nat) (z : Nat) : Nat := match o with
  | some y => y + 1
  | none => z
def oB (o : Option Nat) (z : Int32) : Int32 := match o with
  | some y => nI y
  | none => z
theorem wM_lm : ∀ (ms : List (Nat × Nat)) (ma : Nat → Nat) (sl : Nat), wM ms ma sl = oM (lm ms sl) (ma sl)
  | [], ma, sl => rfl
  | w :: ms, ma, sl => by
    show wM ms (va_up ma w.1 (w.2 + 1)) sl = _
    rw [wM_lm ms]
    cases hl : lm ms sl with
    | some y => rw [lm_some hl]; rfl
    | none =>
      by_cases hw : w.1 = sl
      · rw [lm_new hl hw]; subst hw; exact va_up_self _ _ _
      · rw [lm_ne hw, hl]; exact va_up_ne _ _ (fun z => hw z.symm)
theorem bdSet_n {f : Nat → Int32} {s : Nat} (hs : s ≤ 13) (v : Int32) : bdSet f (nI s) v = upd f s v := by
  rw [bdSet, if_neg (nI_pos (by omega)), if_neg (nI_ge (by omega) (by decide)), nI_clamp (by omega)]
theorem wB_lm : ∀ (ms : List (Nat × Nat)) (f : Nat → Int32) (sl : Nat), (∀ w ∈ ms, w.1 ≤ 13) → wB ms f sl = oB (lm ms sl) (f sl)
  | [], f, sl, _ => rfl
  | w :: ms, f, sl, h => by
    show wB ms (bdSet f (nI w.1) (nI w.2)) sl = _
    rw [bdSet_n (h w List.mem_cons_self), wB_lm ms _ _ (fun z hz => h z (List.mem_cons_of_mem _ hz))]
    cases hl : lm ms sl with
    | some y => rw [lm_some hl]; rfl
    | none =>
      by_cases hw : w.1 = sl
      · rw [lm_new hl hw]; subst hw; exact pk_us
      · rw [lm_ne hw, hl]; exact pk_un (fun z => hw z.symm)
def QF (tl : Nat) (O : List Nat) (x e : Nat) (ms : List (Nat × Nat)) : Prop := x ≤ e ∧ e ≤ tl ∧ (∀ w ∈ ms, w.1 ≤ 13 ∧ x ≤ w.2 ∧ w.2 ≤ e) ∧ ∀ g : Nat, (lm ms (2 * g) = none → lm ms (2 * g + 1) ≠ none → g ∈ O) ∧ (lm ms (2 * g + 1) = none → lm ms (2 * g) = none ∧ g ∉ O) ∧ (∀ i j, lm ms (2 * g) = some i → lm ms (2 * g + 1) = some j → i ≤ j)
theorem QF_c (tl : Nat) : qC (QF tl) := by
  refine ⟨fun O x x' e ms h1 h2 => ?_, fun O x e ms g' hg h => ?_, fun O x e ms g' hg h => ?_⟩
  · obtain ⟨k1, k2, k3, k4⟩ := h2
    exact ⟨by omega, k2, fun w hw => ⟨(k3 w hw).1, by have := (k3 w hw).2.1; omega, (k3 w hw).2.2⟩, k4⟩
  · obtain ⟨k1, k2, k3, k4⟩ := h
    refine ⟨k1, k2, fun w hw => ?_, fun g => ?_⟩
    · rcases List.mem_cons.mp hw with rfl | hw
      · exact ⟨by show 2 * g' + 1 ≤ 13; omega, Nat.le_refl _, k1⟩
      · exact k3 w hw
    · obtain ⟨a1, a2, a3⟩ := k4 g
      have e1 : lm ((2 * g' + 1, x) :: ms) (2 * g) = lm ms (2 * g) := lm_ne (by show 2 * g' + 1 ≠ 2 * g; omega)
      by_cases hgg : g = g'
      · subst hgg
        rw [e1]
        cases hl : lm ms (2 * g + 1) with
        | some j =>
          rw [lm_some hl]
          exact ⟨fun _ _ => List.mem_cons_self, fun z => (by cases z), fun i j' z1 z2 => by cases z2; exact a3 i j z1 hl⟩
        | none =>
          rw [lm_new hl rfl]
          refine ⟨fun _ _ => List.mem_cons_self, fun z => (by cases z), fun i j z1 z2 => ?_⟩
          rw [(a2 hl).1] at z1; cases z1
      · have e2 : lm ((2 * g' + 1, x) :: ms) (2 * g + 1) = lm ms (2 * g + 1) := lm_ne (by show 2 * g' + 1 ≠ 2 * g + 1; omega)
        rw [e1, e2]
        exact ⟨fun z1 z2 => List.mem_cons_of_mem _ (a1 z1 z2), fun z => ⟨(a2 z).1, fun y => by
          rcases List.mem_cons.mp y with y | y
          · exact hgg y
          · exact (a2 z).2 y⟩, a3⟩
  · obtain ⟨k1, k2, k3, k4⟩ := h
    refine ⟨k1, k2, fun w hw => ?_, fun g => ?_⟩
    · rcases List.mem_cons.mp hw with rfl | hw
      · exact ⟨by show 2 * g' ≤ 13; omega, Nat.le_refl _, k1⟩
      · exact k3 w hw
    · obtain ⟨a1, a2, a3⟩ := k4 g
      have e1 : lm ((2 * g', x) :: ms) (2 * g + 1) = lm ms (2 * g + 1) := lm_ne (by show 2 * g' ≠ 2 * g + 1; omega)
      by_cases hgg : g = g'
      · subst hgg
        rw [e1]
        have hns : lm ms (2 * g + 1) ≠ none := fun z => (a2 z).2 List.mem_cons_self
        refine ⟨fun z => ?_, fun z => absurd z hns, fun i j z1 z2 => ?_⟩
        · cases hl : lm ms (2 * g) with
          | some y => rw [lm_some hl] at z; cases z
          | none => rw [lm_new hl rfl] at z; cases z
        · cases hl : lm ms (2 * g) with
          | some y => rw [lm_some hl] at z1; cases z1; exact a3 _ j hl z2
          | none => rw [lm_new hl rfl] at z1; cases z1; exact (k3 _ (lm_mem z2)).2.1
      · have e2 : lm ((2 * g', x) :: ms) (2 * g) = lm ms (2 * g) := lm_ne (by show 2 * g' ≠ 2 * g; omega)
        rw [e1, e2]
        refine ⟨fun z1 z2 => ?_, fun z => ⟨(a2 z).1, fun y => (a2 z).2 (List.mem_cons_of_mem _ y)⟩, a3⟩
        rcases List.mem_cons.mp (a1 z1 z2) with y | y
        · exact absurd y hgg
        · exact y
theorem QF_0 {tl x : Nat} (h : x ≤ tl) : QF tl [] x x [] := ⟨Nat.le_refl _, h, fun w hw => (by cases hw), fun g => ⟨fun _ z => absurd rfl z, fun _ => ⟨rfl, fun z => (by cases z)⟩, fun i j z => (by cases z)⟩⟩
def cpl (P : List Int32) (q : PS0) (fi : Nat) (l : Cd) : Prop := ∃ (x : Ch 7) (c : Cd), vT 7 0 x ∧ eT 7 q 1 q.1 x 0 fi ∧ q.2.1 0 = 0 ∧ pCl q ∧ fi < q.1 ∧ q.1 ≤ 121 ∧ sT P 7 x c ∧ c.length ≤ 120 ∧ l = c ++ [(8, 0, 0)]
theorem cpl.ok {P : List Int32} {q : PS0} {fi : Nat} {l : Cd} (h : cpl P q fi l) : cdOK P l := by
  obtain ⟨x, c, h1, -, -, -, -, -, h7, h8, h9⟩ := h
  exact cd_ok (ok_T 7 0 x c h1 h7) h8 h9
theorem cpl.run {P : List Int32} {q : PS0} {fi : Nat} {l : Cd} (h : cpl P q fi l) {T : List Int32} (hS : ∀ x ∈ T, isSg x = true) (K : Nat → Bool) : ∃ R : Nat → Rs, ∀ x, x ≤ T.length → (∃ n, Ev (acC q T K) n (fi, x) (R x)) ∧ (∃ m, Ev (acM P T l K) m (0, x) (R x)) ∧ ∀ e ms, R x = some (e, ms) → QF T.length [] x e ms := by
  obtain ⟨x, c, h1, h2, h3, h4, h5, h6, h7, h8, h9⟩ := h
  have hl : l.length ≤ 130 := by rw [h9, List.length_append]; show c.length + 1 ≤ 130; omega
  have key : ∀ y, ∃ r, y ≤ T.length → (∃ n, Ev (acC q T K) n (fi, y) r) ∧ (∃ m, Ev (acM P T l K) m (0, y) r) ∧ ∀ e ms, r = some (e, ms) → QF T.length [] y e ms := fun y => by
    by_cases hy : y ≤ T.length
    · obtain ⟨r, n, m, k1, k2, k3⟩ := u_all (K := K) (O := []) hl hS (QF_c T.length) (fun x hx => QF_0 hx) h1 h2 h3 h7 h9 hy
      exact ⟨r, fun _ => ⟨⟨n, k1⟩, ⟨m, k2⟩, k3⟩⟩
    · exact ⟨none, fun z => absurd z hy⟩
  exact ⟨fun y => Classical.choose (key y), fun y => Classical.choose_spec (key y)⟩
theorem cp_ok {P : List Int32} (hP : sgs P) (h1 : fltB P = false) (h2 : (rdA P).2.2.2.1 = false) (h3 : szT 7 (rdA P).1 ≤ 120) (q : PS0) (w : WS) : wrV P 28 (wrI w) ∧ cpl P (gBld 7 (rdA P).1 q).2 (gBld 7 (rdA P).1 q).1 (wrZ (wrR P 28 (wrI w))).1 := by
  obtain ⟨k1, k2, k3, -⟩ := (ck_rd hP (fun _ => 0, fun _ => 0, fun _ => false, fun _ => false, 0, false, false, 0, 0)).2 h1
  obtain ⟨v, -, -⟩ := g_T 7 _ _ _ 0 k1 (Nat.zero_le _) h2
  obtain ⟨w1, c, w2, w3, w4⟩ := wr_all hP.2 k1 k2 h3 w
  obtain ⟨e1, e2, e3, e4, e5⟩ := gBld_e (q := q) v h3
  exact ⟨w1, _, c, v, e1, e2, e3, e4, e5, w2, w3, w4⟩
section FC
variable {P T : List Int32} {q : PS0} {fi : Nat} {l : Cd} {K : Nat → Bool} {R : Nat → Rs} {ends : Int32}
def runs (P T : List Int32) (q : PS0) (fi : Nat) (l : Cd) (K : Nat → Bool) (R : Nat → Rs) : Prop := ∀ x, x ≤ T.length → (∃ n, Ev (acC q T K) n (fi, x) (R x)) ∧ (∃ m, Ev (acM P T l K) m (0, x) (R x)) ∧ ∀ e ms, R x = some (e, ms) → QF T.length [] x e ms
theorem runs.lof (h : cpl P q fi l) (hR : runs P T q fi l K R) (hT : T.length ≤ 30) (hK : ∀ x, x ≤ T.length → ib ends x = K x) (F G : Nat → Int32) {x : Nat} (hx : x ≤ T.length) : lof (aimG q T F G ends) fi (nI x) = (R x).isSome := by
  obtain ⟨-, -, -, -, -, h4, h5, h6, -⟩ := h
  obtain ⟨n, hn⟩ := (hR x hx).1
  exact aim_ok h4 h6 hT hK F G ⟨h5, hx⟩ hn
theorem runs.walk (h : cpl P q fi l) (hw : pWf q) (hR : runs P T q fi l K R) (hT : T.length ≤ 30) (hK : ∀ x, x ≤ T.length → ib ends x = K x) (F G : Nat → Int32) {x e : Nat} {ms : List (Nat × Nat)} (hx : x ≤ T.length) (hr : R x = some (e, ms)) (f : Nat → Int32) : wkE q (aimG q T F G ends) fi x f = e ∧ wkB q (aimG q T F G ends) fi x f = upd (upd (wB ms f) 0 (nI x)) 1 (nI e) := by
  obtain ⟨-, -, -, -, -, h4, h5, h6, -⟩ := h
  obtain ⟨n, hn⟩ := (hR x hx).1
  have hb := cEv_lt h4 h6 hT hn ⟨h5, hx⟩
  obtain ⟨w1, w2⟩ := wk_ev h4 hw (fun st x n r hs he => aim_ok h4 h6 hT hK F G hs he) hn ⟨h5, hx⟩ (e, ms) hr 3751 f (by omega)
  refine ⟨w1, ?_⟩
  show bdSet (bdSet (wkR q (aimG q T F G ends) 3751 (x, fi, f)).2.2 0 (nI x)) 1 (nI (wkR q (aimG q T F G ends) 3751 (x, fi, f)).1) = _
  rw [show (wkR q (aimG q T F G ends) 3751 (x, fi, f)).2.2 = wB ms f from w2, show (wkR q (aimG q T F G ends) 3751 (x, fi, f)).1 = e from w1]
  rw [show (0 : Int32) = nI 0 from rfl, bdSet_n (by decide), show (1 : Int32) = nI 1 from rfl, bdSet_n (by decide)]
def smR (tl : Nat) (R : Nat → Rs) : SM := fun x => if x ≤ tl then (R x).map (fun q => (q.1, wM q.2 (fun _ => 0))) else none
theorem runs.sm (h : cpl P q fi l) (hR : runs P T q fi l (toB (-1)) R) (hT : T.length ≤ 30) : smOK P T l (smR T.length R) := by
  intro fr tr hfr htr
  obtain ⟨-, ⟨m, hm⟩, hQ⟩ := hR fr hfr
  obtain ⟨w1, w2⟩ := wyR_ev (to := -1) h.ok hT hfr htr hm
  simp only [smR, if_pos hfr]
  cases hr : R fr with
  | none => exact ⟨fun q z => (by cases z), fun _ => w2 hr⟩
  | some w =>
    refine ⟨fun q z => ?_, fun z => (by cases z)⟩
    cases z
    have e := w1 w hr
    rw [e]
    obtain ⟨k1, k2, -⟩ := hQ w.1 w.2 hr
    exact ⟨rfl, fun _ _ => rfl, k1, k2⟩
theorem QF.m {tl x e : Nat} {ms : List (Nat × Nat)} (h : QF tl [] x e ms) (g : Nat) : (lm ms (2 * g) = none ∧ lm ms (2 * g + 1) = none) ∨ ∃ i j, lm ms (2 * g) = some i ∧ lm ms (2 * g + 1) = some j ∧ x ≤ i ∧ i ≤ j ∧ j ≤ e := by
  obtain ⟨h1, h2, h3, h4⟩ := h
  obtain ⟨a1, a2, a3⟩ := h4 g
  cases hi : lm ms (2 * g) with
  | none =>
    cases hj : lm ms (2 * g + 1) with
    | none => exact Or.inl ⟨rfl, rfl⟩
    | some j => exact absurd (a1 hi (by rw [hj]; simp)) (by simp)
  | some i =>
    cases hj : lm ms (2 * g + 1) with
    | none => rw [(a2 hj).1] at hi; cases hi
    | some j => exact Or.inr ⟨i, j, rfl, rfl, (h3 _ (lm_mem hi)).2.1, a3 i j hi hj, (h3 _ (lm_mem hj)).2.2⟩
theorem runs.gdS (hR : runs P T q fi l K R) : gdS (smR T.length R) := by
  intro x w hw g hg1 hg2
  rw [smR] at hw
  by_cases hx : x ≤ T.length
  · rw [if_pos hx] at hw
    obtain ⟨-, -, hQ⟩ := hR x hx
    cases hr : R x with
    | none => rw [hr] at hw; cases hw
    | some v =>
      rw [hr] at hw; cases hw
      have hq := hQ v.1 v.2 hr
      show wM v.2 (fun _ => 0) (2 * g + 1) = 0 ∨ ∃ i j, wM v.2 (fun _ => 0) (2 * g) = i + 1 ∧ wM v.2 (fun _ => 0) (2 * g + 1) = j + 1 ∧ x ≤ i ∧ i ≤ j ∧ j ≤ v.1
      rw [wM_lm, wM_lm]
      rcases hq.m g with ⟨k1, k2⟩ | ⟨i, j, k1, k2, k3, k4, k5⟩
      · rw [k2]; exact Or.inl rfl
      · rw [k1, k2]; exact Or.inr ⟨i, j, rfl, rfl, k3, k4, k5⟩
  · rw [if_neg hx] at hw; cases hw
end FC
