section GT
variable {P : List Int32} {X : Type} {szX : X → Nat} {mX : X → Bool} {vX : Nat → X → Prop} {iX : LI → X → LI → Prop}
def gX (iX : LI → X → LI → Prop) (vX : Nat → X → Prop) : Prop := ∀ s x s' d, iX s x s' → d ≤ s.2.1 → s'.2.2 = false → vX d x ∧ s.2.1 ≤ s'.2.1 ∧ s.2.2 = false
theorem g_at (ih : gX iX vX) : gX (fun s x s' => lAtm P iX s x s') (vAt vX) := by
  intro s a s' d hl hd he
  cases a with
  | inl l =>
    obtain ⟨-, -, -, -, -, -, k7, k8⟩ := hl
    rw [k7] at he ⊢
    refine ⟨?_, Nat.le_refl _, he⟩
    show 1 ≤ l.1 ∧ l.1 ≤ 3
    rcases k8.2 with ⟨h, -⟩ | ⟨h, -⟩ | ⟨h, -⟩ <;> omega
  | inr g =>
    obtain ⟨k1, k2, k3, t, k4, k5, rfl⟩ := hl
    have := ih _ _ _ (d + 1) k4 (by show d + 1 ≤ s.2.1 + 1; omega) he
    obtain ⟨j1, j2, j3⟩ := this
    have j2 : s.2.1 + 1 ≤ t.2.1 := j2
    exact ⟨⟨by omega, by omega, j1⟩, by show s.2.1 ≤ t.2.1; omega, j3⟩
theorem g_pc (ih : gX iX vX) : gX (fun s x s' => lPce P mX iX s x s') (vPc mX vX) := by
  intro s y s' d hl hd he
  obtain ⟨t, k1, k2, k3⟩ := hl
  obtain ⟨a, y⟩ := y
  rw [k2] at he
  have he : (t.2.2 || (y.2.2.1 && atE mX a)) = false := he
  rw [Bool.or_eq_false_iff] at he
  obtain ⟨j1, j2, j3⟩ := g_at ih s a t d k1 hd he.1
  have h5 : y.1 ≤ y.2.1 ∧ 1 ≤ y.2.1 ∧ y.2.1 ≤ 6 ∧ (y.2.2.1 = true → y.1 ≤ 1) := by
    rcases k3 with ⟨k3, -⟩ | ⟨-, q, -, -, -, -, k7⟩
    · have k3 : y = (1, 1, false, false) := k3
      subst k3
      exact ⟨Nat.le_refl _, Nat.le_refl _, by decide, fun z => (by cases z)⟩
    · have k7 : rpK P t.1 q.1 y := k7
      rcases k7 with ⟨-, z1, z2, z3⟩ | ⟨-, z1, z2, z3⟩ | ⟨-, z1, z2, z3⟩ | ⟨-, z1, z2, z3, z4, z5, z6⟩
      · exact ⟨by omega, by omega, by omega, fun _ => by omega⟩
      · exact ⟨by omega, by omega, by omega, fun _ => by omega⟩
      · exact ⟨by omega, by omega, by omega, fun _ => by omega⟩
      · exact ⟨z4, z5, z6, fun z => by rw [z3] at z; cases z⟩
  refine ⟨⟨j1, h5.1, h5.2.1, h5.2.2.1, fun z => ⟨h5.2.2.2 z, ?_⟩⟩, by rw [k2]; exact j2, j3⟩
  have z : y.2.2.1 = true := z
  have := he.2
  rw [z] at this
  exact this
theorem g_rw (ih : gX iX vX) {d : Nat} : ∀ (ys : List (Pc X)) (s s' : LI), lRow P mX iX s ys s' → d ≤ s.2.1 → s'.2.2 = false → (∀ y ∈ ys, vPc mX vX d y) ∧ s.2.1 ≤ s'.2.1 ∧ s.2.2 = false
  | [], s, s', h, hd, he => by
    have h : s' = s := h
    subst h
    exact ⟨fun y hy => (by cases hy), Nat.le_refl _, he⟩
  | y :: ys, s, s', h, hd, he => by
    obtain ⟨t, k1, k2⟩ := h
    have hmono : ∀ (ys : List (Pc X)) (s s' : LI), lRow P mX iX s ys s' → s'.2.2 = false → s.2.2 = false := by
      intro ys
      induction ys with
      | nil => intro s s' h he; rw [show s' = s from h] at he; exact he
      | cons y ys ihy =>
        intro s s' h he
        obtain ⟨t, k1, k2⟩ := h
        have h1 := ihy t s' k2 he
        obtain ⟨a, y⟩ := y
        exact (g_pc (mX := mX) ih s (a, y) t 0 k1 (Nat.zero_le _) h1).2.2
    have ht := hmono ys t s' k2 he
    obtain ⟨j1, j2, j3⟩ := g_pc ih s y t d k1 hd ht
    obtain ⟨i1, i2, i3⟩ := g_rw ih (d := d) ys t s' k2 (by omega) he
    exact ⟨fun z hz => by
      rcases List.mem_cons.mp hz with rfl | hz
      · exact j1
      · exact i1 z hz, by omega, j3⟩
theorem g_cc (ih : gX iX vX) {d : Nat} : ∀ (rs : Cc X) (s s' : LI), lChc P mX iX s rs s' → d ≤ s.2.1 → s'.2.2 = false → (rs ≠ [] ∧ ∀ r ∈ rs, ∀ y ∈ r, vPc mX vX d y) ∧ s.2.1 ≤ s'.2.1 ∧ s.2.2 = false
  | [], s, s', h, hd, he => h.elim
  | [r], s, s', h, hd, he => by
    obtain ⟨i1, i2, i3⟩ := g_rw ih (d := d) r s s' h hd he
    exact ⟨⟨by simp, fun z hz => by rw [List.mem_singleton.mp hz]; exact i1⟩, i2, i3⟩
  | r :: r' :: rs, s, s', h, hd, he => by
    obtain ⟨t, k1, k2, k3⟩ := h
    have h0 := (g_cc ih (d := 0) (r' :: rs) (t.1 + 1, t.2) s' k3 (Nat.zero_le _) he).2.2
    obtain ⟨i1, i2, i3⟩ := g_rw ih (d := d) r s t k1 hd h0
    obtain ⟨j1, j2, j3⟩ := g_cc ih (d := d) (r' :: rs) (t.1 + 1, t.2) s' k3 (by show d ≤ t.2.1; omega) he
    have j2 : t.2.1 ≤ s'.2.1 := j2
    exact ⟨⟨by simp, fun z hz => by
      rcases List.mem_cons.mp hz with rfl | hz
      · exact i1
      · exact j1.2 z hz⟩, by omega, i3⟩
end GT
theorem g_T {P : List Int32} : ∀ n, gX (lT P n) (vT n)
  | 0 => fun _ _ _ _ h => h.elim
  | n + 1 => fun s x s' d h hd he => g_cc (g_T n) x s s' h hd he
section SZ
variable {P : List Int32} {X : Type} {szX : X → Nat} {mX : X → Bool} {iX : LI → X → LI → Prop}
def zX (iX : LI → X → LI → Prop) (szX : X → Nat) : Prop := ∀ s x s', iX s x s' → ∃ c, s'.1 = s.1 + c ∧ szX x + 2 ≤ 2 * 2 ^ c
theorem pw_1 (c : Nat) : 1 ≤ 2 ^ c := Nat.one_le_two_pow
theorem pw_m {a b : Nat} (h : a ≤ b) : 2 ^ a ≤ 2 ^ b := Nat.pow_le_pow_right (by decide) h
theorem pw_a (A B : Nat) (ha : 1 ≤ A) (hb : 1 ≤ B) : A + B ≤ A * B + 1 := by
  obtain ⟨a, rfl⟩ : ∃ a, A = a + 1 := ⟨A - 1, by omega⟩
  obtain ⟨b, rfl⟩ : ∃ b, B = b + 1 := ⟨B - 1, by omega⟩
  rw [Nat.add_mul, Nat.mul_add]
  omega
theorem z_at (ih : zX iX szX) : zX (fun s x s' => lAtm P iX s x s') (atS szX) := by
  intro s a s' hl
  cases a with
  | inl l =>
    obtain ⟨-, -, -, -, -, k6, -⟩ := hl
    have hgt : s.1 < s'.1 := by
      rw [atN] at k6
      by_cases h91 : pat P s.1 = 91
      · rw [if_pos h91] at k6; exact mPC_gt k6
      · rw [if_neg h91] at k6; have := Sum.inr.inj k6; omega
    refine ⟨s'.1 - s.1, by omega, ?_⟩
    have := pw_m (show 1 ≤ s'.1 - s.1 by omega)
    show 1 + 2 ≤ _
    omega
  | inr g =>
    obtain ⟨-, -, -, t, k4, -, rfl⟩ := hl
    obtain ⟨c, h1, h2⟩ := ih _ _ _ k4
    have h1 : t.1 = s.1 + 1 + c := h1
    refine ⟨c + 2, by show t.1 + 1 = _; omega, ?_⟩
    show szX g.2 + 2 + 2 ≤ _
    have := pw_1 c
    rw [Nat.pow_add]
    omega
theorem z_pc (ih : zX iX szX) : zX (fun s x s' => lPce P mX iX s x s') (pcS szX) := by
  intro s y s' hl
  obtain ⟨t, k1, k2, k3⟩ := hl
  obtain ⟨a, y⟩ := y
  obtain ⟨c, h1, h2⟩ := z_at ih s a t k1
  have hp := pw_1 c
  rcases k3 with ⟨k3, k4⟩ | ⟨k3, q, k4, k5, k6, k60, k7⟩
  · have k3 : y = (1, 1, false, false) := k3
    subst k3
    refine ⟨c, by omega, ?_⟩
    show 1 * atS szX a + 2 * 0 + 2 ≤ _
    omega
  · have k7 : rpK P t.1 q.1 y := k7
    have hq : q.1 ≤ s'.1 := by rw [k6]; split <;> omega
    show ∃ c, s'.1 = s.1 + c ∧ (if y.2.2.1 then atS szX a + 2 else y.2.1 * atS szX a + 2 * (y.2.1 - y.1)) + 2 ≤ 2 * 2 ^ c
    refine ⟨s'.1 - s.1, by split at k60 <;> omega, ?_⟩
    rcases k7 with ⟨z0, z1, z2, z3⟩ | ⟨z0, z1, z2, z3⟩ | ⟨z0, z1, z2, z3⟩ | ⟨z0, z1, z2, z3, z4, z5, z6⟩
    · have := pw_m (show c + 1 ≤ s'.1 - s.1 by rw [if_neg (by rw [z0]; decide)] at k60; omega)
      rw [Nat.pow_add] at this
      rw [z3, z1, z2]
      show 1 * atS szX a + 2 * (1 - 0) + 2 ≤ _
      omega
    · have := pw_m (show c + 1 ≤ s'.1 - s.1 by rw [if_neg (by rw [z0]; decide)] at k60; omega)
      rw [Nat.pow_add] at this
      rw [z3]
      show atS szX a + 2 + 2 ≤ _
      omega
    · have := pw_m (show c + 1 ≤ s'.1 - s.1 by rw [if_neg (by rw [z0]; decide)] at k60; omega)
      rw [Nat.pow_add] at this
      rw [z3]
      show atS szX a + 2 + 2 ≤ _
      omega
    · have := pw_m (show c + 3 ≤ s'.1 - s.1 by rw [if_pos z0] at k60; omega)
      rw [Nat.pow_add] at this
      rw [z3]
      show y.2.1 * atS szX a + 2 * (y.2.1 - y.1) + 2 ≤ _
      have := Nat.mul_le_mul_right (atS szX a) z6
      omega
theorem z_rw (ih : zX iX szX) : ∀ (ys : List (Pc X)) (s s' : LI), lRow P mX iX s ys s' → ∃ c, s'.1 = s.1 + c ∧ rwS szX ys + 2 ≤ 2 * 2 ^ c
  | [], s, s', h => by
    have h : s' = s := h
    subst h
    exact ⟨0, rfl, by simp [rwS]⟩
  | y :: ys, s, s', h => by
    obtain ⟨t, k1, k2⟩ := h
    obtain ⟨a, h1, h2⟩ := z_pc (mX := mX) ih s y t k1
    obtain ⟨b, h3, h4⟩ := z_rw ih ys t s' k2
    have hsz : rwS szX (y :: ys) = pcS szX y + rwS szX ys := by simp [rwS]
    refine ⟨a + b, by omega, ?_⟩
    rw [hsz, Nat.pow_add]
    have := pw_a _ _ (pw_1 a) (pw_1 b)
    omega
theorem z_cc (ih : zX iX szX) : ∀ (rs : Cc X) (s s' : LI), lChc P mX iX s rs s' → ∃ c, s'.1 = s.1 + c ∧ ccS szX rs + 2 ≤ 2 * 2 ^ c
  | [], s, s', h => h.elim
  | [r], s, s', h => by
    obtain ⟨c, h1, h2⟩ := z_rw ih r s s' h
    exact ⟨c, h1, by simpa [ccS] using h2⟩
  | r :: r' :: rs, s, s', h => by
    obtain ⟨t, k1, k2, k3⟩ := h
    obtain ⟨a, h1, h2⟩ := z_rw ih r s t k1
    obtain ⟨b, h3, h4⟩ := z_cc ih (r' :: rs) (t.1 + 1, t.2) s' k3
    have h3 : s'.1 = t.1 + 1 + b := h3
    have hsz : ccS szX (r :: r' :: rs) = rwS szX r + 2 + ccS szX (r' :: rs) := by
      simp only [ccS, List.map_cons, List.sum_cons, List.length_cons]; omega
    refine ⟨a + b + 1, by omega, ?_⟩
    rw [hsz, Nat.pow_add, Nat.pow_add]
    have := pw_a _ _ (pw_1 a) (pw_1 b)
    have := Nat.mul_le_mul (pw_1 a) (pw_1 b)
    omega
end SZ
theorem z_T {P : List Int32} : ∀ n, zX (lT P n) (szT n)
  | 0 => fun _ _ _ h => h.elim
  | n + 1 => fun s x s' h => z_cc (z_T n) x s s' h
theorem sz_lt {P : List Int32} (hP : P.length ≤ 28) {n : Nat} {x : Ch n} {s' : LI} (h : lT P n (0, 0, false) x s') (he : s'.1 ≤ P.length) : szT n x < 2 ^ 31 := by
  obtain ⟨c, h1, h2⟩ := z_T n _ _ _ h
  have h1 : s'.1 = 0 + c := h1
  have := pw_m (show c ≤ 28 by omega)
  omega
def okI (P : List Int32) (n p : Nat) (x : Ins) : Prop := clOK P x ∧ (x.1 = 5 → ∃ m, m ≤ 13 ∧ x.2.1 = nI m) ∧ (x.1 = 6 → (∃ t, t ≤ n ∧ nI p + x.2.1 = nI t) ∧ ∃ t, t ≤ n ∧ nI p + x.2.2 = nI t) ∧ (x.1 = 7 → ∃ t, t ≤ n ∧ nI p + x.2.1 = nI t)
def okW (P : List Int32) (n k : Nat) (c : Cd) : Prop := ∀ p x, c[p]? = some x → okI P n (k + p) x
def okS (P : List Int32) (c : Cd) : Prop := okW P c.length 0 c
section OK
variable {P : List Int32} {n k : Nat} {a b c : Cd} {x : Ins}
theorem okW.nil : okW P n k [] := fun p x h => by cases h
theorem okW.cons (h1 : okI P n k x) (h2 : okW P n (k + 1) c) : okW P n k (x :: c) := fun p y h => by
  cases p with
  | zero => cases h; exact h1
  | succ p => rw [show k + (p + 1) = k + 1 + p by omega]; exact h2 p y h
theorem okW.app (h1 : okW P n k a) (h2 : okW P n (k + a.length) b) : okW P n k (a ++ b) := fun p y h => by
  rcases Nat.lt_or_ge p a.length with z | z
  · rw [List.getElem?_append_left z] at h; exact h1 p y h
  · rw [List.getElem?_append_right z] at h
    have := h2 _ y h
    rw [show k + a.length + (p - a.length) = k + p by omega] at this
    exact this
theorem okI.sh {m p : Nat} (h : okI P m p x) (hn : k + m ≤ n) : okI P n (k + p) x := by
  obtain ⟨h1, h2, h3, h4⟩ := h
  have key : ∀ {v : Int32}, (∃ t, t ≤ m ∧ nI p + v = nI t) → ∃ t, t ≤ n ∧ nI (k + p) + v = nI t := by
    rintro v ⟨t, z1, z2⟩
    exact ⟨k + t, by omega, by rw [← nI_add, Int32.add_assoc, z2, nI_add]⟩
  exact ⟨h1, h2, fun z => ⟨key (h3 z).1, key (h3 z).2⟩, fun z => key (h4 z)⟩
theorem okS.w (h : okS P c) (hn : k + c.length ≤ n) : okW P n k c := fun p y hp => by
  have := h p y hp
  rw [Nat.zero_add] at this
  exact this.sh hn
theorem okI_mk {m : Nat} (hm : m ≤ 13) : okI P n k (5, nI m, 0) := ⟨fun z => (by cases z), fun _ => ⟨m, hm, rfl⟩, fun z => (by cases z), fun z => (by cases z)⟩
theorem okI_fk {sp : Bool} {j : Nat} (hj : k + j ≤ n) (h1 : k + 1 ≤ n) : okI P n k (fkE sp j) := by
  have e1 : ∃ t, t ≤ n ∧ nI k + 1 = nI t := ⟨k + 1, h1, nI_1 k⟩
  have e2 : ∃ t, t ≤ n ∧ nI k + nI j = nI t := ⟨k + j, hj, nI_add k j⟩
  cases sp with
  | true => exact ⟨fun z => (by cases z), fun z => (by cases z), fun _ => ⟨e2, e1⟩, fun z => (by cases z)⟩
  | false => exact ⟨fun z => (by cases z), fun z => (by cases z), fun _ => ⟨e1, e2⟩, fun z => (by cases z)⟩
theorem okI_j {j : Nat} (hj : k + j ≤ n) : okI P n k (7, nI j, 0) := ⟨fun z => (by cases z), fun z => (by cases z), fun z => (by cases z), fun _ => ⟨k + j, hj, nI_add k j⟩⟩
theorem nI_bk {p j : Nat} (h : j ≤ p) : nI p + -nI j = nI (p - j) := by rw [← Int32.sub_eq_add_neg, pk_sub h]
theorem okI_b {j : Nat} (hj : j + 1 ≤ k) (hn : k ≤ n) : okI P n k (7, -nI j - 1, 0) := ⟨fun z => (by cases z), fun z => (by cases z), fun z => (by cases z), fun _ => ⟨k - (j + 1), by omega, by
  rw [show (-nI j - 1 : Int32) = -nI (j + 1) by rw [nI_succ, Int32.neg_add]]
  exact nI_bk hj⟩⟩
theorem okS_tm (h : okS P a) : ∀ j, okS P (tmC a j)
  | 0 => okW.nil
  | j + 1 => by
    show okW P (a ++ tmC a j).length 0 (a ++ tmC a j)
    rw [List.length_append]
    exact okW.app (h.w (by omega)) ((okS_tm h j).w (by omega))
theorem okS_op {sp : Bool} (h : okS P a) : ∀ j, okS P (opC a sp j)
  | 0 => okW.nil
  | j + 1 => by
    have hl := opC_len a sp (j + 1)
    have hl0 := opC_len a sp j
    have e : (j + 1) * (a.length + 1) = j * (a.length + 1) + (a.length + 1) := by rw [Nat.add_mul, Nat.one_mul]
    show okW P (opC a sp (j + 1)).length 0 (opC a sp (j + 1))
    rw [hl, opC]
    refine okW.cons (okI_fk (by omega) (by omega)) (okW.app (h.w (by omega)) ((okS_op h j).w (by omega)))
theorem okS_rp (y : Rp) (h : okS P a) : okS P (rpC y a) := by
  obtain ⟨m, n, ub, sp⟩ := y
  cases ub with
  | false =>
    show okW P (tmC a m ++ opC a sp (n - m)).length 0 (tmC a m ++ opC a sp (n - m))
    rw [List.length_append]
    exact okW.app ((okS_tm h m).w (by omega)) ((okS_op h (n - m)).w (by omega))
  | true =>
    show okS P (if m = 0 then fkE sp (a.length + 2) :: (a ++ [(7, -nI a.length - 1, 0)]) else a ++ [if sp = true then (6, 1, -nI a.length) else (6, -nI a.length, 1)])
    split
    · show okW P (fkE sp (a.length + 2) :: (a ++ [((7 : Int32), -nI a.length - 1, (0 : Int32))])).length 0 _
      have : (fkE sp (a.length + 2) :: (a ++ [((7 : Int32), -nI a.length - 1, (0 : Int32))])).length = a.length + 2 := by simp
      rw [this]
      exact okW.cons (okI_fk (by omega) (by omega)) (okW.app (h.w (by omega)) (okW.cons (okI_b (by omega) (by omega)) okW.nil))
    · show okW P (a ++ [if sp = true then ((6 : Int32), (1 : Int32), -nI a.length) else (6, -nI a.length, 1)]).length 0 _
      rw [List.length_append]
      refine okW.app (h.w (by omega)) (okW.cons ?_ okW.nil)
      have e1 : ∃ t, t ≤ a.length + 1 ∧ nI (0 + a.length) + 1 = nI t := ⟨a.length + 1, by omega, by rw [Nat.zero_add]; exact nI_1 _⟩
      have e2 : ∃ t, t ≤ a.length + 1 ∧ nI (0 + a.length) + -nI a.length = nI t := ⟨0, by omega, by rw [Nat.zero_add, nI_bk (Nat.le_refl _), Nat.sub_self]⟩
      cases sp with
      | true => exact ⟨fun z => (by cases z), fun z => (by cases z), fun _ => ⟨e1, e2⟩, fun z => (by cases z)⟩
      | false => exact ⟨fun z => (by cases z), fun z => (by cases z), fun _ => ⟨e2, e1⟩, fun z => (by cases z)⟩
variable {X : Type} {mX : X → Bool} {sX : X → Cd → Prop} {vX : Nat → X → Prop}
theorem ok_at (ih : ∀ d x c, vX d x → sX x c → okS P c) {d : Nat} {a : At X} {c : Cd} (hv : vAt vX d a) (hs : sAt P sX a c) : okS P c := by
  cases a with
  | inl l =>
    obtain ⟨x, rfl, h1, h2⟩ := hs
    have h5 : x.1 ≠ 5 ∧ x.1 ≠ 6 ∧ x.1 ≠ 7 := by
      rcases h2 with ⟨-, h | h | h, -⟩ | ⟨-, h⟩ | ⟨-, h⟩ <;> rw [h] <;> decide
    exact okW.cons ⟨h1, fun z => absurd z h5.1, fun z => absurd z h5.2.1, fun z => absurd z h5.2.2⟩ okW.nil
  | inr g =>
    obtain ⟨c', h1, rfl⟩ := hs
    obtain ⟨v1, v2, v3⟩ := hv
    have h2 := ih _ _ _ v3 h1
    show okW P ((5, nI (2 * g.1), 0) :: (c' ++ [((5 : Int32), nI (2 * g.1 + 1), (0 : Int32))])).length 0 _
    have : ((5, nI (2 * g.1), 0) :: (c' ++ [((5 : Int32), nI (2 * g.1 + 1), (0 : Int32))])).length = c'.length + 2 := by simp
    rw [this]
    exact okW.cons (okI_mk (by omega)) (okW.app (h2.w (by omega)) (okW.cons (okI_mk (by omega)) okW.nil))
theorem ok_rw (ih : ∀ d x c, vX d x → sX x c → okS P c) {d : Nat} : ∀ (ys : List (Pc X)) (c : Cd), (∀ y ∈ ys, vPc mX vX d y) → sRw P sX ys c → okS P c
  | [], c, hv, hs => by rw [show c = [] from hs]; exact okW.nil
  | y :: ys, c, hv, hs => by
    obtain ⟨c1, c2, ⟨a, h1, rfl⟩, h2, rfl⟩ := hs
    have h3 := okS_rp y.2 (ok_at ih (hv y List.mem_cons_self).1 h1)
    have h4 := ok_rw ih ys c2 (fun z hz => hv z (List.mem_cons_of_mem _ hz)) h2
    show okW P (rpC y.2 a ++ c2).length 0 _
    rw [List.length_append]
    exact okW.app (h3.w (by omega)) (h4.w (by omega))
theorem ok_cc (ih : ∀ d x c, vX d x → sX x c → okS P c) {d : Nat} : ∀ (rs : Cc X) (c : Cd), (∀ r ∈ rs, ∀ y ∈ r, vPc mX vX d y) → sCc P sX rs c → okS P c
  | [], c, hv, hs => by rw [show c = [] from hs]; exact okW.nil
  | [r], c, hv, hs => ok_rw ih r c (hv r List.mem_cons_self) hs
  | r :: r' :: rs, c, hv, hs => by
    obtain ⟨c1, c2, h1, h2, rfl⟩ := hs
    have h3 := ok_rw ih r c1 (hv r List.mem_cons_self) h1
    have h4 := ok_cc ih (r' :: rs) c2 (fun z hz => hv z (List.mem_cons_of_mem _ hz)) h2
    show okW P ((6, 1, nI (c1.length + 2)) :: (c1 ++ ((7 : Int32), nI (c2.length + 1), (0 : Int32)) :: c2)).length 0 _
    have : ((6, 1, nI (c1.length + 2)) :: (c1 ++ ((7 : Int32), nI (c2.length + 1), (0 : Int32)) :: c2)).length = c1.length + c2.length + 2 := by simp; omega
    rw [this]
    exact okW.cons (okI_fk (sp := false) (by omega) (by omega)) (okW.app (h3.w (by omega)) (okW.cons (okI_j (by omega)) (h4.w (by omega))))
end OK
theorem ok_T {P : List Int32} : ∀ (n d : Nat) (x : Ch n) (c : Cd), vT n d x → sT P n x c → okS P c
  | 0, _, _, _, h, _ => h.elim
  | n + 1, d, x, c, h, hs => ok_cc (ok_T n) x c h.2 hs
theorem cd_ok {P : List Int32} {c l : Cd} (h : okS P c) (hl : c.length ≤ 120) (he : l = c ++ [(8, 0, 0)]) : cdOK P l := by
  have hlen : l.length = c.length + 1 := by rw [he]; simp
  refine ⟨by omega, by omega, fun p hp => ?_⟩
  by_cases hpc : p < c.length
  · have hx : c[p]? = some (cIn l p) := by
      rw [cIn, he, List.getD_eq_getElem?_getD, List.getElem?_append_left hpc, List.getElem?_eq_getElem hpc]; rfl
    obtain ⟨h1, h2, h3, h4⟩ := h p _ hx
    rw [Nat.zero_add] at h3 h4
    have key : ∀ {v : Int32}, (∃ t, t ≤ c.length ∧ nI p + v = nI t) → ∃ t, t < l.length ∧ nI p + v = nI t := by
      rintro v ⟨t, z1, z2⟩
      exact ⟨t, by omega, z2⟩
    exact ⟨h1, fun z => ⟨h2 z, by omega⟩, fun z => ⟨key (h3 z).1, key (h3 z).2⟩, fun z => key (h4 z), fun _ _ _ _ => by omega⟩
  · have hp2 : p = c.length := by omega
    have hx : cIn l p = (8, 0, 0) := by
      rw [cIn, he, hp2, List.getD_eq_getElem?_getD, List.getElem?_append_right (Nat.le_refl _), Nat.sub_self]; rfl
    rw [hx]
    exact ⟨fun z => (by cases z), fun z => (by cases z), fun z => (by cases z), fun z => (by cases z), fun _ _ _ z => absurd rfl z⟩
