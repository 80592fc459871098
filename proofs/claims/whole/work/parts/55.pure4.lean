theorem eAg.sub {q q' : PS0} {lo hi lo' hi' : Nat} (h : eAg q q' lo hi) (h1 : lo ≤ lo') (h2 : hi' ≤ hi) : eAg q q' lo' hi' := fun k z1 z2 => h k (by omega) (by omega)
theorem eAg.tr {q q' q'' : PS0} {lo hi : Nat} (h1 : eAg q q' lo hi) (h2 : eAg q' q'' lo hi) : eAg q q'' lo hi := fun k z1 z2 => by
  obtain ⟨a1, a2, a3, a4, a5, a6⟩ := h1 k z1 z2
  obtain ⟨b1, b2, b3, b4, b5, b6⟩ := h2 k z1 z2
  exact ⟨b1.trans a1, b2.trans a2, b3.trans a3, b4.trans a4, b5.trans a5, b6.trans a6⟩
theorem eSt.mv {q q' : PS0} {lo hi lo' hi' e k nx : Nat} (h : eSt q lo hi e k nx) (ha : eAg q q' lo hi) (h1 : lo' ≤ lo) (h2 : hi ≤ hi') : eSt q' lo' hi' e k nx := by
  obtain ⟨k1, k2, k3, k4⟩ := h
  obtain ⟨a1, a2, -⟩ := ha e k1 k2
  exact ⟨by omega, by omega, a1.trans k3, a2.trans k4⟩
theorem eFk.mv {q q' : PS0} {lo hi lo' hi' e a b : Nat} (h : eFk q lo hi e a b) (ha : eAg q q' lo hi) (h1 : lo' ≤ lo) (h2 : hi ≤ hi') : eFk q' lo' hi' e a b :=
  ⟨h.1.mv ha h1 h2, (ha e h.1.1 h.1.2.1).2.2.1.trans h.2⟩
theorem eMk.mv {q q' : PS0} {lo hi lo' hi' e a b : Nat} (h : eMk q lo hi e a b) (ha : eAg q q' lo hi) (h1 : lo' ≤ lo) (h2 : hi ≤ hi') : eMk q' lo' hi' e a b :=
  ⟨h.1.mv ha h1 h2, (ha e h.1.1 h.1.2.1).2.2.2.1.trans h.2⟩
theorem eFs.mv {q q' : PS0} {lo hi lo' hi' e a b : Nat} {sp : Bool} (h : eFs q lo hi sp e a b) (ha : eAg q q' lo hi) (h1 : lo' ≤ lo) (h2 : hi ≤ hi') : eFs q' lo' hi' sp e a b := by
  cases sp
  · exact eFk.mv h ha h1 h2
  · exact eFk.mv h ha h1 h2
def eMv {X : Type} (eX : PS0 → Nat → Nat → X → Nat → Nat → Prop) : Prop := ∀ (q q' : PS0) (lo hi lo' hi' : Nat) (x : X) (nx e : Nat), eAg q q' lo hi → lo' ≤ lo → hi ≤ hi' → eX q lo hi x nx e → eX q' lo' hi' x nx e
section MV
variable {X : Type} {eX : PS0 → Nat → Nat → X → Nat → Nat → Prop}
theorem eAt_mv (hm : eMv eX) : eMv (eAt eX) := fun q q' lo hi lo' hi' x nx e ha h1 h2 h => by
  cases x with
  | inl l =>
    obtain ⟨k1, k2, k3⟩ := h
    obtain ⟨-, -, -, -, a5, a6⟩ := ha e k1.1 k1.2.1
    exact ⟨k1.mv ha h1 h2, a5.trans k2, a6.trans k3⟩
  | inr g =>
    obtain ⟨en, b, k1, k2, k3⟩ := h
    exact ⟨en, b, k1.mv ha h1 h2, hm _ _ _ _ _ _ _ _ _ ha h1 h2 k2, k3.mv ha h1 h2⟩
theorem eTm_mv (hm : eMv eX) {q q' : PS0} {lo hi lo' hi' : Nat} {a : At X} {nx : Nat} (ha : eAg q q' lo hi) (h1 : lo' ≤ lo) (h2 : hi ≤ hi') : ∀ (k e : Nat), eTm eX q lo hi a k nx e → eTm eX q' lo' hi' a k nx e
  | 0, e, h => h
  | k + 1, e, h => by
    obtain ⟨b, k1, k2⟩ := h
    exact ⟨b, eAt_mv hm _ _ _ _ _ _ _ _ _ ha h1 h2 k1, eTm_mv hm ha h1 h2 k b k2⟩
theorem eCp_mv (hm : eMv eX) {q q' : PS0} {lo hi lo' hi' : Nat} {a : At X} {nx : Nat} {sp : Bool} (ha : eAg q q' lo hi) (h1 : lo' ≤ lo) (h2 : hi ≤ hi') : ∀ (k e : Nat), eCp eX q lo hi a sp nx k e → eCp eX q' lo' hi' a sp nx k e
  | 0, e, h => h
  | k + 1, e, h => by
    obtain ⟨b, e', k1, k2, k3⟩ := h
    exact ⟨b, e', k1.mv ha h1 h2, eAt_mv hm _ _ _ _ _ _ _ _ _ ha h1 h2 k2, eCp_mv hm ha h1 h2 k e' k3⟩
theorem ePc_mv (hm : eMv eX) : eMv (ePc eX) := fun q q' lo hi lo' hi' y nx e ha h1 h2 h => by
  obtain ⟨a, m, n, ub, sp⟩ := y
  cases ub with
  | true =>
    obtain ⟨f, b, k1, k2, k3⟩ := h
    exact ⟨f, b, eFs.mv k1 ha h1 h2, eAt_mv hm _ _ _ _ _ _ _ _ _ ha h1 h2 k2, k3⟩
  | false =>
    obtain ⟨c, k1, k2⟩ := h
    exact ⟨c, eCp_mv hm ha h1 h2 _ _ k1, eTm_mv hm ha h1 h2 _ _ k2⟩
theorem eRw_mv (hm : eMv eX) {q q' : PS0} {lo hi lo' hi' : Nat} {nx : Nat} (ha : eAg q q' lo hi) (h1 : lo' ≤ lo) (h2 : hi ≤ hi') : ∀ (ys : List (Pc X)) (e : Nat), eRw eX q lo hi ys nx e → eRw eX q' lo' hi' ys nx e
  | [], e, h => h
  | y :: ys, e, h => by
    obtain ⟨b, k1, k2⟩ := h
    exact ⟨b, ePc_mv hm _ _ _ _ _ _ _ _ _ ha h1 h2 k1, eRw_mv hm ha h1 h2 ys b k2⟩
theorem eCc_mv0 (hm : eMv eX) {q q' : PS0} {lo hi lo' hi' : Nat} {nx : Nat} (ha : eAg q q' lo hi) (h1 : lo' ≤ lo) (h2 : hi ≤ hi') : ∀ (rs : Cc X) (e : Nat), eCc eX q lo hi rs nx e → eCc eX q' lo' hi' rs nx e
  | [], e, h => h
  | [r], e, h => eRw_mv hm ha h1 h2 r e h
  | r :: r' :: rs, e, h => by
    obtain ⟨a, b, k1, k2, k3⟩ := h
    exact ⟨a, b, k1.mv ha h1 h2, eRw_mv hm ha h1 h2 r a k2, eCc_mv0 hm ha h1 h2 (r' :: rs) b k3⟩
end MV
theorem eT_mv : ∀ n, eMv (eT n)
  | 0 => fun _ _ _ _ _ _ _ _ _ _ _ _ h => h.elim
  | n + 1 => fun _ _ _ _ _ _ x _ e ha h1 h2 h => eCc_mv0 (eT_mv n) ha h1 h2 x e h
def gS (q0 : PS0) (B : Nat) (emb : PS0 → Nat → Nat → Nat → Prop) (e : Nat × PS0) : Prop := q0.1 ≤ e.2.1 ∧ e.2.1 ≤ q0.1 + B ∧ eAg q0 e.2 0 q0.1 ∧ emb e.2 q0.1 e.2.1 e.1 ∧ pCl e.2 ∧ e.1 < e.2.1
theorem eAg.rf {q : PS0} {lo hi : Nat} : eAg q q lo hi := fun _ _ _ => ⟨rfl, rfl, rfl, rfl, rfl, rfl⟩
theorem gS.st {q : PS0} {nx : Nat} (hq : pCl q) (hn : nx < q.1) : gS q 0 (fun _ _ _ e => e = nx) (nx, q) := ⟨Nat.le_refl _, Nat.le_refl _, eAg.rf, rfl, hq, hn⟩
theorem pStp_e (k nx : Nat) {q : PS0} (h : q.1 ≤ 120) : pStp k nx q = (q.1, (q.1 + 1, va_up q.2.1 q.1 k, va_up q.2.2.1 q.1 nx, q.2.2.2)) := by
  rw [pStp, Nat.min_eq_left h]
theorem up_lt {α : Type} (f : Nat → α) {i k : Nat} (v : α) (h : k < i) : va_up f i v k = f k := va_up_ne f v (by omega)
theorem gS_leaf {q : PS0} {nx : Nat} (l : Lf) (hq : pCl q) (hn : nx < q.1) (h : q.1 ≤ 120) (hl : l.1 ≤ 3) : gS q 1 (fun q' lo hi e => eSt q' lo hi e l.1 nx ∧ q'.2.2.2.2.2.1 e = l.2.1 ∧ q'.2.2.2.2.2.2 e = l.2.2) ((pStp l.1 nx q).1, pBt (pStp l.1 nx q).1 l.2.1 l.2.2 (pStp l.1 nx q).2) := by
  rw [pStp_e _ _ h]
  refine ⟨Nat.le_succ _, Nat.le_refl _, fun k _ z => ⟨up_lt _ _ z, up_lt _ _ z, rfl, rfl, up_lt _ _ z, up_lt _ _ z⟩, ⟨⟨Nat.le_refl _, Nat.lt_succ_self _, va_up_self _ _ _, va_up_self _ _ _⟩, va_up_self _ _ _, va_up_self _ _ _⟩, fun k z => ?_, Nat.lt_succ_self _⟩
  have z : k < q.1 + 1 := z
  show va_up q.2.2.1 q.1 nx k < q.1 + 1 ∧ (va_up q.2.1 q.1 l.1 k = 5 → q.2.2.2.1 k < q.1 + 1)
  by_cases hk : k = q.1
  · subst hk
    rw [va_up_self, va_up_self]
    exact ⟨by omega, fun z => by omega⟩
  · have := hq k (by omega)
    rw [va_up_ne _ _ hk, va_up_ne _ _ hk]
    exact ⟨by omega, fun z => by have := this.2 z; omega⟩
theorem gS_fk {q : PS0} {a b : Nat} (hq : pCl q) (ha : a < q.1) (hb : b < q.1) (h : q.1 ≤ 120) : gS q 1 (fun q' lo hi e => eFk q' lo hi e a b ∧ e = q.1) (pFk a b q) := by
  rw [pFk, pStp_e _ _ h]
  refine ⟨Nat.le_succ _, Nat.le_refl _, fun k _ z => ⟨up_lt _ _ z, up_lt _ _ z, up_lt _ _ z, rfl, rfl, rfl⟩, ⟨⟨⟨Nat.le_refl _, Nat.lt_succ_self _, va_up_self _ _ _, va_up_self _ _ _⟩, va_up_self _ _ _⟩, rfl⟩, fun k z => ?_, Nat.lt_succ_self _⟩
  have z : k < q.1 + 1 := z
  show va_up q.2.2.1 q.1 a k < q.1 + 1 ∧ (va_up q.2.1 q.1 5 k = 5 → va_up q.2.2.2.1 q.1 b k < q.1 + 1)
  by_cases hk : k = q.1
  · subst hk
    rw [va_up_self, va_up_self, va_up_self]
    exact ⟨by omega, fun _ => by omega⟩
  · have := hq k (by omega)
    rw [va_up_ne _ _ hk, va_up_ne _ _ hk, va_up_ne _ _ hk]
    exact ⟨by omega, fun z => by have := this.2 z; omega⟩
theorem gS_mk {q : PS0} {sl nx : Nat} (hq : pCl q) (hn : nx < q.1) (h : q.1 ≤ 120) : gS q 1 (fun q' lo hi e => eMk q' lo hi e sl nx) (pMk sl nx q) := by
  rw [pMk, pStp_e _ _ h]
  refine ⟨Nat.le_succ _, Nat.le_refl _, fun k _ z => ⟨up_lt _ _ z, up_lt _ _ z, rfl, up_lt _ _ z, rfl, rfl⟩, ⟨⟨Nat.le_refl _, Nat.lt_succ_self _, va_up_self _ _ _, va_up_self _ _ _⟩, va_up_self _ _ _⟩, fun k z => ?_, Nat.lt_succ_self _⟩
  have z : k < q.1 + 1 := z
  show va_up q.2.2.1 q.1 nx k < q.1 + 1 ∧ (va_up q.2.1 q.1 4 k = 5 → q.2.2.2.1 k < q.1 + 1)
  by_cases hk : k = q.1
  · subst hk
    rw [va_up_self, va_up_self]
    exact ⟨by omega, fun z => by omega⟩
  · have := hq k (by omega)
    rw [va_up_ne _ _ hk, va_up_ne _ _ hk]
    exact ⟨by omega, fun z => by have := this.2 z; omega⟩
theorem gS.sq {q0 : PS0} {B B' : Nat} {emb emb' emb'' : PS0 → Nat → Nat → Nat → Prop} {e e' : Nat × PS0} (h1 : gS q0 B emb e) (h2 : gS e.2 B' emb' e') (hmv : ∀ q' hi', eAg e.2 q' q0.1 e.2.1 → e.2.1 ≤ hi' → emb e.2 q0.1 e.2.1 e.1 → emb q' q0.1 hi' e.1) (hc : emb e'.2 q0.1 e'.2.1 e.1 → emb' e'.2 e.2.1 e'.2.1 e'.1 → emb'' e'.2 q0.1 e'.2.1 e'.1) : gS q0 (B + B') emb'' e' := by
  obtain ⟨a1, a2, a3, a4, a5, a6⟩ := h1
  obtain ⟨b1, b2, b3, b4, b5, b6⟩ := h2
  exact ⟨by omega, by omega, a3.tr (b3.sub (Nat.le_refl _) a1), hc (hmv _ _ (b3.sub (Nat.zero_le _) (Nat.le_refl _)) b1 a4) b4, b5, b6⟩
theorem gS.le {q0 : PS0} {B B' : Nat} {emb emb' : PS0 → Nat → Nat → Nat → Prop} {e : Nat × PS0} (h : gS q0 B emb e) (hB : B ≤ B') (he : emb e.2 q0.1 e.2.1 e.1 → emb' e.2 q0.1 e.2.1 e.1) : gS q0 B' emb' e := by
  obtain ⟨a1, a2, a3, a4, a5, a6⟩ := h
  exact ⟨a1, by omega, a3, he a4, a5, a6⟩
def gG {X : Type} (sX : X → Nat) (vX : Nat → X → Prop) (eX : PS0 → Nat → Nat → X → Nat → Nat → Prop) (cX : Nat → X → Nat → PS0 → Nat × PS0) : Prop := ∀ (d : Nat) (x : X) (nx : Nat) (q : PS0), vX d x → q.1 + sX x ≤ 121 → nx < q.1 → pCl q → gS q (sX x) (fun q' lo hi e => eX q' lo hi x nx e) (cX d x nx q)
section GG
variable {X : Type} {sX : X → Nat} {mX : X → Bool} {vX : Nat → X → Prop} {eX : PS0 → Nat → Nat → X → Nat → Nat → Prop} {cX : Nat → X → Nat → PS0 → Nat × PS0}
theorem gG_at (hm : eMv eX) (ih : gG sX vX eX cX) : gG (atS sX) (vAt vX) (eAt eX) (gAt cX) := by
  intro d a nx q hv hs hn hq
  cases a with
  | inl l => exact gS_leaf l hq hn (by have hs : q.1 + 1 ≤ 121 := hs; omega) hv.2
  | inr g =>
    have hs : q.1 + (sX g.2 + 2) ≤ 121 := hs
    obtain ⟨v1, v2, v3⟩ := hv
    rw [gAt, if_neg (by omega)]
    have h1 := gS_mk (sl := 2 * g.1 + 1) hq hn (by omega)
    have h2 := ih (d + 1) g.2 _ _ v3 (by have := h1.2.1; omega) h1.2.2.2.2.2 h1.2.2.2.2.1
    have h3 := gS_mk (sl := 2 * g.1) h2.2.2.2.2.1 h2.2.2.2.2.2 (by have := h1.2.1; have := h2.2.1; omega)
    have h12 := h1.sq h2 (emb'' := fun q' lo hi e => ∃ en, eMk q' lo hi en (2 * g.1 + 1) nx ∧ eX q' lo hi g.2 en e) (fun q' hi' ha hh he => he.mv ha (Nat.le_refl _) hh) (fun k1 k2 => ⟨_, k1, hm _ _ _ _ _ _ _ _ _ eAg.rf h1.1 (Nat.le_refl _) k2⟩)
    refine (h12.sq h3 (emb'' := fun q' lo hi e => eAt eX q' lo hi (.inr g) nx e) (fun q' hi' ha hh he => ?_) (fun k1 k2 => ?_)).le (by show 1 + sX g.2 + 1 ≤ sX g.2 + 2; omega) id
    · obtain ⟨en, k1, k2⟩ := he
      exact ⟨en, k1.mv ha (Nat.le_refl _) hh, hm _ _ _ _ _ _ _ _ _ ha (Nat.le_refl _) hh k2⟩
    · obtain ⟨en, k3, k4⟩ := k1
      exact ⟨en, _, k3, k4, k2.mv eAg.rf h12.1 (Nat.le_refl _)⟩
theorem gG_tm (hm : eMv eX) (ha : gG (atS sX) (vAt vX) (eAt eX) (gAt cX)) {d nx : Nat} {a : At X} (hv : vAt vX d a) {q0 : PS0} : ∀ (k j B : Nat) (e : Nat × PS0), gS q0 B (fun q' lo hi e => eTm eX q' lo hi a j nx e) e → q0.1 + B + k * atS sX a ≤ 121 → gS q0 (B + k * atS sX a) (fun q' lo hi e => eTm eX q' lo hi a (j + k) nx e) (gTm cX d a k e)
  | 0, j, B, e, h, hB => h.le (by omega) id
  | k + 1, j, B, e, h, hB => by
    rw [Nat.add_mul, Nat.one_mul] at hB ⊢
    have h1 := ha d a e.1 e.2 hv (by have := h.2.1; omega) h.2.2.2.2.2 h.2.2.2.2.1
    have h2 := h.sq h1 (emb'' := fun q' lo hi e => eTm eX q' lo hi a (j + 1) nx e) (fun q' hi' ha' hh he => eTm_mv hm ha' (Nat.le_refl _) hh _ _ he) (fun k1 k2 => ⟨_, eAt_mv hm _ _ _ _ _ _ _ _ _ eAg.rf h.1 (Nat.le_refl _) k2, k1⟩)
    have := gG_tm hm ha hv k (j + 1) _ _ h2 (by omega)
    rw [gTm]
    refine this.le (by omega) (fun z => ?_)
    rw [show j + (k + 1) = j + 1 + k by omega]
    exact z
theorem gG_cp (hm : eMv eX) (ha : gG (atS sX) (vAt vX) (eAt eX) (gAt cX)) {d nx : Nat} {a : At X} {sp : Bool} (hv : vAt vX d a) {q0 : PS0} (hn : nx < q0.1) : ∀ (k j B : Nat) (e : Nat × PS0), gS q0 B (fun q' lo hi e => eCp eX q' lo hi a sp nx j e) e → q0.1 + B + k * (atS sX a + 1) ≤ 121 → gS q0 (B + k * (atS sX a + 1)) (fun q' lo hi e => eCp eX q' lo hi a sp nx (j + k) e) (gCp cX d a sp nx k e)
  | 0, j, B, e, h, hB => h.le (by omega) id
  | k + 1, j, B, e, h, hB => by
    rw [Nat.add_mul, Nat.one_mul] at hB ⊢
    have h1 := ha d a e.1 e.2 hv (by have := h.2.1; omega) h.2.2.2.2.2 h.2.2.2.2.1
    have h2 := h.sq h1 (emb'' := fun q' lo hi b => ∃ e', eAt eX q' lo hi a e' b ∧ eCp eX q' lo hi a sp nx j e') (fun q' hi' ha' hh he => eCp_mv hm ha' (Nat.le_refl _) hh _ _ he) (fun k1 k2 => ⟨_, eAt_mv hm _ _ _ _ _ _ _ _ _ eAg.rf h.1 (Nat.le_refl _) k2, k1⟩)
    have hmv : ∀ (q' : PS0) (hi' : Nat), eAg (gAt cX d a e.1 e.2).2 q' q0.1 (gAt cX d a e.1 e.2).2.1 → (gAt cX d a e.1 e.2).2.1 ≤ hi' → (∃ e', eAt eX (gAt cX d a e.1 e.2).2 q0.1 (gAt cX d a e.1 e.2).2.1 a e' (gAt cX d a e.1 e.2).1 ∧ eCp eX (gAt cX d a e.1 e.2).2 q0.1 (gAt cX d a e.1 e.2).2.1 a sp nx j e') → (∃ e', eAt eX q' q0.1 hi' a e' (gAt cX d a e.1 e.2).1 ∧ eCp eX q' q0.1 hi' a sp nx j e') := by
      rintro q' hi' ha' hh ⟨e', k1, k2⟩
      exact ⟨e', eAt_mv hm _ _ _ _ _ _ _ _ _ ha' (Nat.le_refl _) hh k1, eCp_mv hm ha' (Nat.le_refl _) hh _ _ k2⟩
    have hk : (gAt cX d a e.1 e.2).2.1 ≤ 120 := by have := h2.2.1; omega
    have hnx : nx < (gAt cX d a e.1 e.2).2.1 := by have := h2.1; omega
    have h4 : gS q0 (B + atS sX a + 1) (fun q' lo hi e => eCp eX q' lo hi a sp nx (j + 1) e) (if sp then pFk nx (gAt cX d a e.1 e.2).1 (gAt cX d a e.1 e.2).2 else pFk (gAt cX d a e.1 e.2).1 nx (gAt cX d a e.1 e.2).2) := by
      cases sp with
      | true =>
        have h3 := gS_fk h2.2.2.2.2.1 hnx h2.2.2.2.2.2 hk
        refine h2.sq h3 hmv (fun k1 k2 => ?_)
        obtain ⟨e', k3, k4⟩ := k1
        exact ⟨_, e', k2.1.mv eAg.rf h2.1 (Nat.le_refl _), k3, k4⟩
      | false =>
        have h3 := gS_fk h2.2.2.2.2.1 h2.2.2.2.2.2 hnx hk
        refine h2.sq h3 hmv (fun k1 k2 => ?_)
        obtain ⟨e', k3, k4⟩ := k1
        exact ⟨_, e', k2.1.mv eAg.rf h2.1 (Nat.le_refl _), k3, k4⟩
    have := gG_cp hm ha hv hn k (j + 1) _ _ h4 (by omega)
    rw [gCp]
    refine this.le (by omega) (fun z => ?_)
    rw [show j + (k + 1) = j + 1 + k by omega]
    exact z
theorem gG_pc (hm : eMv eX) (ha : gG (atS sX) (vAt vX) (eAt eX) (gAt cX)) : gG (pcS sX) (vPc mX vX) (ePc eX) (gPc cX) := by
  intro d y nx q hv hs hn hq
  obtain ⟨a, m, n, ub, sp⟩ := y
  obtain ⟨v1, v2, v3, v4, v5⟩ := hv
  have v2 : m ≤ n := v2
  have v1 : vAt vX d a := v1
  cases ub with
  | false =>
    have hs : q.1 + (n * atS sX a + 2 * (n - m)) ≤ 121 := hs
    have e1 : (n - m) * (atS sX a + 1) + m * atS sX a = n * atS sX a + (n - m) := by
      rw [Nat.mul_add, Nat.mul_one]
      have : (n - m) * atS sX a + m * atS sX a = n * atS sX a := by rw [← Nat.add_mul, Nat.sub_add_cancel v2]
      omega
    have h1 := gG_cp hm ha (d := d) (a := a) (sp := sp) v1 hn (n - m) 0 0 (nx, q) ((gS.st hq hn).le (Nat.le_refl _) id) (by omega)
    have h2 : gS q (0 + (n - m) * (atS sX a + 1)) (fun q' lo hi e => ∃ c, eCp eX q' lo hi a sp nx (n - m) c ∧ eTm eX q' lo hi a 0 c e) (gCp cX d a sp nx (n - m) (nx, q)) := h1.le (Nat.le_refl _) (fun z => ⟨_, by rw [Nat.zero_add] at z; exact z, rfl⟩)
    generalize hC : (gCp cX d a sp nx (n - m) (nx, q)) = C at h1 h2
    have h3 := gG_tm hm ha (d := d) (a := a) (nx := C.1) v1 m 0 0 C (gS.st h1.2.2.2.2.1 h1.2.2.2.2.2 |>.le (Nat.le_refl _) id) (by have := h1.2.1; omega)
    have h4 := h1.sq h3 (emb'' := fun q' lo hi e => ∃ c, eCp eX q' lo hi a sp nx (n - m) c ∧ eTm eX q' lo hi a m c e) (fun q' hi' ha' hh he => eCp_mv hm ha' (Nat.le_refl _) hh _ _ he) (fun k1 k2 => ⟨C.1, by rw [Nat.zero_add] at k1; exact k1, by rw [Nat.zero_add] at k2; exact eTm_mv hm eAg.rf h1.1 (Nat.le_refl _) _ _ k2⟩)
    show gS q (n * atS sX a + 2 * (n - m)) _ (gTm cX d a m (gCp cX d a sp nx (n - m) (nx, q)))
    rw [hC]
    exact h4.le (by omega) id
  | true =>
    have hs : q.1 + (atS sX a + 2) ≤ 121 := hs
    have h1 := gS_fk hq hn hn (by omega)
    have hf : (pFk nx nx q).1 = q.1 := h1.2.2.2.1.2
    have hf2 : (pFk nx nx q).2.1 = q.1 + 1 := by have := h1.2.1; have := h1.2.2.2.2.2; omega
    have h2 := ha d a (pFk nx nx q).1 (pFk nx nx q).2 v1 (by omega) h1.2.2.2.2.2 h1.2.2.2.2.1
    have hfk := h1.2.2.2.1.1
    have hag1 := h1.2.2.1
    generalize hF : pFk nx nx q = F at *
    generalize hB : gAt cX d a F.1 F.2 = b at *
    obtain ⟨b1, b2, b3, b4, b5, b6⟩ := h2
    have hbf := b3 F.1 (Nat.zero_le _) (by omega)
    obtain ⟨⟨-, -, k1, k2⟩, k3⟩ := hfk
    show gS q (atS sX a + 2) _ (gLp cX d (a, m, n, true, sp) nx q)
    have hgl : gLp cX d (a, m, n, true, sp) nx q = (if m = 0 then F.1 else b.1, if sp then pOt F.1 b.1 b.2 else pNx F.1 b.1 b.2) := by
      show (if m = 0 then (pFk nx nx q).1 else (gAt cX d a (pFk nx nx q).1 (pFk nx nx q).2).1, if sp then pOt (pFk nx nx q).1 (gAt cX d a (pFk nx nx q).1 (pFk nx nx q).2).1 (gAt cX d a (pFk nx nx q).1 (pFk nx nx q).2).2 else pNx (pFk nx nx q).1 (gAt cX d a (pFk nx nx q).1 (pFk nx nx q).2).1 (gAt cX d a (pFk nx nx q).1 (pFk nx nx q).2).2) = _
      rw [hF, hB]
    rw [hgl]
    have hen : (if m = 0 then F.1 else b.1) < b.2.1 := by split <;> omega
    cases sp with
    | true =>
      have hag : eAg b.2 (pOt F.1 b.1 b.2) F.2.1 b.2.1 := fun k z1 z2 => ⟨rfl, rfl, va_up_ne _ _ (by omega), rfl, rfl, rfl⟩
      refine ⟨by show q.1 ≤ b.2.1; omega, by show b.2.1 ≤ _; omega, ?_, ⟨F.1, b.1, ?_, ?_, rfl⟩, ?_, hen⟩
      · refine (hag1.tr (b3.sub (Nat.le_refl _) (by omega))).tr (fun k z1 z2 => ⟨rfl, rfl, va_up_ne _ _ (by omega), rfl, rfl, rfl⟩)
      · exact ⟨⟨by omega, by show F.1 < b.2.1; omega, hbf.1.trans k1, hbf.2.1.trans k2⟩, va_up_self _ _ _⟩
      · exact eAt_mv hm _ _ _ _ _ _ _ _ _ hag (by omega) (Nat.le_refl _) b4
      · intro k z
        have z : k < b.2.1 := z
        have := b5 k z
        refine ⟨this.1, fun z5 => ?_⟩
        show va_up b.2.2.2.2.1 F.1 b.1 k < b.2.1
        by_cases hk : k = F.1
        · rw [hk, va_up_self]; exact b6
        · rw [va_up_ne _ _ hk]; exact this.2 z5
    | false =>
      have hag : eAg b.2 (pNx F.1 b.1 b.2) F.2.1 b.2.1 := fun k z1 z2 => ⟨rfl, va_up_ne _ _ (by omega), rfl, rfl, rfl, rfl⟩
      refine ⟨by show q.1 ≤ b.2.1; omega, by show b.2.1 ≤ _; omega, ?_, ⟨F.1, b.1, ?_, ?_, rfl⟩, ?_, hen⟩
      · refine (hag1.tr (b3.sub (Nat.le_refl _) (by omega))).tr (fun k z1 z2 => ⟨rfl, va_up_ne _ _ (by omega), rfl, rfl, rfl, rfl⟩)
      · exact ⟨⟨by omega, by show F.1 < b.2.1; omega, hbf.1.trans k1, va_up_self _ _ _⟩, hbf.2.2.1.trans k3⟩
      · exact eAt_mv hm _ _ _ _ _ _ _ _ _ hag (by omega) (Nat.le_refl _) b4
      · intro k z
        have z : k < b.2.1 := z
        have := b5 k z
        refine ⟨?_, this.2⟩
        show va_up b.2.2.2.1 F.1 b.1 k < b.2.1
        by_cases hk : k = F.1
        · rw [hk, va_up_self]; exact b6
        · rw [va_up_ne _ _ hk]; exact this.1
theorem gG_pl (hm : eMv eX) (hp : gG (pcS sX) (vPc mX vX) (ePc eX) (gPc cX)) {d nx : Nat} {q0 : PS0} : ∀ (ps done : List (Pc X)) (B : Nat) (e : Nat × PS0), (∀ y ∈ ps, vPc mX vX d y) → gS q0 B (fun q' lo hi e => eRw eX q' lo hi done nx e) e → q0.1 + B + rwS sX ps ≤ 121 → gS q0 (B + rwS sX ps) (fun q' lo hi e => eRw eX q' lo hi (ps.reverse ++ done) nx e) (gPl cX d ps e)
  | [], done, B, e, hv, h, hB => h.le (by omega) id
  | y :: ps, done, B, e, hv, h, hB => by
    have hsz : rwS sX (y :: ps) = pcS sX y + rwS sX ps := by simp [rwS]
    rw [hsz] at hB ⊢
    have h1 := hp d y e.1 e.2 (hv y List.mem_cons_self) (by have := h.2.1; omega) h.2.2.2.2.2 h.2.2.2.2.1
    have h2 := h.sq h1 (emb'' := fun q' lo hi e => eRw eX q' lo hi (y :: done) nx e) (fun q' hi' ha' hh he => eRw_mv hm ha' (Nat.le_refl _) hh _ _ he) (fun k1 k2 => ⟨_, ePc_mv hm _ _ _ _ _ _ _ _ _ eAg.rf h.1 (Nat.le_refl _) k2, k1⟩)
    have := gG_pl hm hp ps (y :: done) _ _ (fun z hz => hv z (List.mem_cons_of_mem _ hz)) h2 (by omega)
    rw [gPl, List.reverse_cons, List.append_assoc]
    exact this.le (by omega) id
theorem rwS_rev (ps : List (Pc X)) : rwS sX ps.reverse = rwS sX ps := by
  simp only [rwS, List.map_reverse, List.sum_reverse]
theorem gG_rw (hm : eMv eX) (hp : gG (pcS sX) (vPc mX vX) (ePc eX) (gPc cX)) {d nx : Nat} {q : PS0} {r : List (Pc X)} (hv : ∀ y ∈ r, vPc mX vX d y) (hs : q.1 + rwS sX r ≤ 121) (hn : nx < q.1) (hq : pCl q) : gS q (rwS sX r) (fun q' lo hi e => eRw eX q' lo hi r nx e) (gRw cX d r nx q) := by
  have := gG_pl hm hp (d := d) r.reverse [] 0 (nx, q) (fun y hy => hv y (List.mem_reverse.mp hy)) ((gS.st hq hn).le (Nat.le_refl _) id) (by rw [rwS_rev]; omega)
  rw [rwS_rev, List.reverse_reverse, List.append_nil] at this
  exact this.le (by omega) id
theorem gG_rl (hm : eMv eX) (hp : gG (pcS sX) (vPc mX vX) (ePc eX) (gPc cX)) {d nx : Nat} {q0 : PS0} (hn : nx < q0.1) : ∀ (rs done : Cc X) (B : Nat) (e : Nat × PS0), (∀ r ∈ rs, ∀ y ∈ r, vPc mX vX d y) → done ≠ [] → gS q0 B (fun q' lo hi e => eCc eX q' lo hi done nx e) e → q0.1 + B + (rs.map (rwS sX)).sum + rs.length ≤ 121 → gS q0 (B + (rs.map (rwS sX)).sum + rs.length) (fun q' lo hi e => eCc eX q' lo hi (rs.reverse ++ done) nx e) (gRl cX d nx rs e)
  | [], done, B, e, hv, hd, h, hB => h.le (by simp) id
  | r :: rs, done, B, e, hv, hd, h, hB => by
    rw [List.map_cons, List.sum_cons, List.length_cons] at hB ⊢
    have h1 := gG_rw hm hp (hv r List.mem_cons_self) (by have := h.2.1; omega) (show nx < e.2.1 by have := h.1; omega) h.2.2.2.2.1
    have hb1 := h.2.1; have hb2 := h1.2.1; have hb3 := h1.1
    have h2 := h.sq h1 (emb'' := fun q' lo hi a => eRw eX q' lo hi r nx a ∧ eCc eX q' lo hi done nx e.1) (fun q' hi' ha' hh he => eCc_mv0 hm ha' (Nat.le_refl _) hh _ _ he) (fun k1 k2 => ⟨eRw_mv hm eAg.rf h.1 (Nat.le_refl _) _ _ k2, k1⟩)
    have h3 := gS_fk h2.2.2.2.2.1 h2.2.2.2.2.2 (show e.1 < _ by have := h.2.2.2.2.2; omega) (by omega)
    have h4 := h2.sq h3 (emb'' := fun q' lo hi e => eCc eX q' lo hi (r :: done) nx e) (fun q' hi' ha' hh he => ⟨eRw_mv hm ha' (Nat.le_refl _) hh _ _ he.1, eCc_mv0 hm ha' (Nat.le_refl _) hh _ _ he.2⟩) (fun k1 k2 => by
      obtain ⟨r0, dn, rfl⟩ : ∃ r0 dn, done = r0 :: dn := by cases done with | nil => exact absurd rfl hd | cons a b => exact ⟨a, b, rfl⟩
      exact ⟨_, _, k2.1.mv eAg.rf h2.1 (Nat.le_refl _), k1.1, k1.2⟩)
    have := gG_rl hm hp hn rs (r :: done) _ _ (fun z hz => hv z (List.mem_cons_of_mem _ hz)) (by simp) h4 (by omega)
    rw [gRl, List.reverse_cons, List.append_assoc]
    exact this.le (by omega) id
theorem gG_cc (hm : eMv eX) (hp : gG (pcS sX) (vPc mX vX) (ePc eX) (gPc cX)) : gG (ccS sX) (vCc mX vX) (fun q lo hi x nx e => eCc eX q lo hi x nx e) (gCc cX) := by
  intro d rs nx q hv hs hn hq
  obtain ⟨h0, hv⟩ := hv
  have hv' : ∀ r ∈ rs.reverse, ∀ y ∈ r, vPc mX vX d y := fun r hr => hv r (List.mem_reverse.mp hr)
  have hlen : rs.reverse.length = rs.length := List.length_reverse
  have hsum : (rs.reverse.map (rwS sX)).sum = (rs.map (rwS sX)).sum := by rw [List.map_reverse, List.sum_reverse]
  unfold gCc
  have hs : q.1 + ((rs.map (rwS sX)).sum + 2 * (rs.length - 1)) ≤ 121 := hs
  have hrv : rs = rs.reverse.reverse := (List.reverse_reverse rs).symm
  cases hr : rs.reverse with
  | nil => rw [hr] at hrv; exact absurd hrv h0
  | cons r rs' =>
    rw [hr] at hv' hlen hsum hrv
    rw [List.map_cons, List.sum_cons] at hsum
    rw [List.length_cons] at hlen
    have h1 := gG_rw hm hp (hv' r List.mem_cons_self) (by omega) hn hq
    have := gG_rl hm hp hn (d := d) rs' [r] _ _ (fun z hz => hv' z (List.mem_cons_of_mem _ hz)) (by simp) (h1.le (emb' := fun q' lo hi e => eCc eX q' lo hi [r] nx e) (Nat.le_refl _) id) (by omega)
    refine this.le (by show _ ≤ (rs.map (rwS sX)).sum + 2 * (rs.length - 1); omega) (fun z => ?_)
    rw [hrv, List.reverse_cons]
    exact z
end GG
theorem gG_T : ∀ n, gG (szT n) (vT n) (eT n) (gCh n)
  | 0 => fun d x nx q hv => hv.elim
  | n + 1 => gG_cc (eT_mv n) (gG_pc (eT_mv n) (gG_at (eT_mv n) (gG_T n)))
theorem gBld_e {n : Nat} {x : Ch n} {q : PS0} (hv : vT n 0 x) (hs : szT n x ≤ 120) : eT n (gBld n x q).2 1 (gBld n x q).2.1 x 0 (gBld n x q).1 ∧ (gBld n x q).2.2.1 0 = 0 ∧ pCl (gBld n x q).2 ∧ (gBld n x q).1 < (gBld n x q).2.1 ∧ (gBld n x q).2.1 ≤ 121 := by
  have e0 : pStp 0 0 (0, q.2) = (0, (1, va_up q.2.1 0 0, va_up q.2.2.1 0 0, q.2.2.2)) := pStp_e 0 0 (q := (0, q.2)) (Nat.zero_le _)
  have hcl : pCl (1, va_up q.2.1 0 0, va_up q.2.2.1 0 0, q.2.2.2) := fun k z => by
    have z : k < 1 := z
    have : k = 0 := by omega
    subst this
    show va_up q.2.2.1 0 0 0 < 1 ∧ (va_up q.2.1 0 0 0 = 5 → _)
    rw [va_up_self, va_up_self]
    exact ⟨by decide, fun z => by cases z⟩
  have h := gG_T n 0 x 0 (1, va_up q.2.1 0 0, va_up q.2.2.1 0 0, q.2.2.2) hv (by show 1 + szT n x ≤ 121; omega) Nat.zero_lt_one hcl
  have hb : gBld n x q = gCh n 0 x 0 (1, va_up q.2.1 0 0, va_up q.2.2.1 0 0, q.2.2.2) := by
    show gCh n 0 x (pStp 0 0 (0, q.2)).1 (pStp 0 0 (0, q.2)).2 = _
    rw [e0]
  rw [hb]
  obtain ⟨a1, a2, a3, a4, a5, a6⟩ := h
  refine ⟨a4, (a3 0 (Nat.le_refl _) Nat.zero_lt_one).1.trans (va_up_self q.2.1 0 0), a5, a6, ?_⟩
  have a2 : _ ≤ 1 + szT n x := a2
  omega
