abbrev Act (σ : Type) : Type := Option Nat ⊕ ((Option (Nat × Nat) × σ) ⊕ (σ × σ))
abbrev Rs : Type := Option (Nat × List (Nat × Nat))
def rCs (m : Option (Nat × Nat)) (r : Rs) : Rs := match m with
  | none => r
  | some w => r.map (fun q => (q.1, w :: q.2))
def rFn (r : Option Nat) : Rs := r.map (fun e => (e, []))
def Ev {σ : Type} (act : σ → Act σ) (n : Nat) (s : σ) (r : Rs) : Prop := ∀ C : Nat → σ → Rs → Prop,
  (∀ s r q, act s = .inl r → q = rFn r → C 0 s q) → (∀ s s' m n r q, act s = .inr (.inl (m, s')) → C n s' r → q = rCs m r → C (n + 1) s q) →
  (∀ s a b n w r, act s = .inr (.inr (a, b)) → C n a (some w) → r = some w → C (n + 1) s r) → (∀ s a b n k j r, act s = .inr (.inr (a, b)) → C n a none → C k b r → j = max n k + 1 → C j s r) → C n s r
section EV
variable {σ : Type} {act : σ → Act σ}
theorem Ev.fin {s : σ} {r : Option Nat} {q : Rs} (h : act s = .inl r) (hq : q = rFn r) : Ev act 0 s q := fun C c1 _ _ _ => c1 s r q h hq
theorem Ev.go {s s' : σ} {m : Option (Nat × Nat)} {n : Nat} {r q : Rs} (h : act s = .inr (.inl (m, s'))) (h1 : Ev act n s' r) (hq : q = rCs m r) : Ev act (n + 1) s q := fun C c1 c2 c3 c4 => c2 s s' m n r q h (h1 C c1 c2 c3 c4) hq
theorem Ev.forkL {s a b : σ} {n : Nat} {w : Nat × List (Nat × Nat)} {r : Rs} (h : act s = .inr (.inr (a, b))) (h1 : Ev act n a (some w)) (hq : r = some w) : Ev act (n + 1) s r := fun C c1 c2 c3 c4 => c3 s a b n w r h (h1 C c1 c2 c3 c4) hq
theorem Ev.forkR {s a b : σ} {n k j : Nat} {r : Rs} (h : act s = .inr (.inr (a, b))) (h1 : Ev act n a none) (h2 : Ev act k b r) (hj : j = max n k + 1) : Ev act j s r := fun C c1 c2 c3 c4 => c4 s a b n k j r h (h1 C c1 c2 c3 c4) (h2 C c1 c2 c3 c4) hj
theorem Ev.ind {motive : Nat → σ → Rs → Prop} {n : Nat} {s : σ} {r : Rs} (h : Ev act n s r)
    (fin : ∀ (s : σ) (r : Option Nat) (q : Rs), act s = .inl r → q = rFn r → motive 0 s q)
    (go : ∀ (s s' : σ) (m : Option (Nat × Nat)) (n : Nat) (r q : Rs), act s = .inr (.inl (m, s')) → Ev act n s' r → q = rCs m r → motive n s' r → motive (n + 1) s q)
    (forkL : ∀ (s a b : σ) (n : Nat) (w : Nat × List (Nat × Nat)) (r : Rs), act s = .inr (.inr (a, b)) → Ev act n a (some w) → r = some w → motive n a (some w) → motive (n + 1) s r)
    (forkR : ∀ (s a b : σ) (n k j : Nat) (r : Rs), act s = .inr (.inr (a, b)) → Ev act n a none → Ev act k b r → j = max n k + 1 → motive n a none → motive k b r → motive j s r) : motive n s r :=
  (h (fun n s r => Ev act n s r ∧ motive n s r) (fun s r q h hq => ⟨Ev.fin h hq, fin s r q h hq⟩) (fun s s' m n r q h h1 hq => ⟨Ev.go h h1.1 hq, go s s' m n r q h h1.1 hq h1.2⟩)
    (fun s a b n w r h h1 hq => ⟨Ev.forkL h h1.1 hq, forkL s a b n w r h h1.1 hq h1.2⟩) (fun s a b n k j r h h1 h2 hj => ⟨Ev.forkR h h1.1 h2.1 hj, forkR s a b n k j r h h1.1 h2.1 hj h1.2 h2.2⟩)).2
theorem Ev.inv {n : Nat} {s : σ} {r : Rs} (h : Ev act n s r) : (∃ r0, act s = .inl r0 ∧ r = rFn r0 ∧ n = 0) ∨ (∃ m s' n' r', act s = .inr (.inl (m, s')) ∧ Ev act n' s' r' ∧ r = rCs m r' ∧ n = n' + 1) ∨ (∃ a b n' w, act s = .inr (.inr (a, b)) ∧ Ev act n' a (some w) ∧ r = some w ∧ n = n' + 1) ∨ (∃ a b n' k, act s = .inr (.inr (a, b)) ∧ Ev act n' a none ∧ Ev act k b r ∧ n = max n' k + 1) := by
  refine Ev.ind (motive := fun n s r => (∃ r0, act s = .inl r0 ∧ r = rFn r0 ∧ n = 0) ∨ (∃ m s' n' r', act s = .inr (.inl (m, s')) ∧ Ev act n' s' r' ∧ r = rCs m r' ∧ n = n' + 1) ∨ (∃ a b n' w, act s = .inr (.inr (a, b)) ∧ Ev act n' a (some w) ∧ r = some w ∧ n = n' + 1) ∨ (∃ a b n' k, act s = .inr (.inr (a, b)) ∧ Ev act n' a none ∧ Ev act k b r ∧ n = max n' k + 1)) h ?_ ?_ ?_ ?_
  · intro s r q h hq; exact Or.inl ⟨r, h, hq, rfl⟩
  · intro s s' m n r q h h1 hq _; exact Or.inr (Or.inl ⟨m, s', n, r, h, h1, hq, rfl⟩)
  · intro s a b n w r h h1 hq _; exact Or.inr (Or.inr (Or.inl ⟨a, b, n, w, h, h1, hq, rfl⟩))
  · intro s a b n k j r h h1 h2 hj _ _; exact Or.inr (Or.inr (Or.inr ⟨a, b, n, k, h, h1, h2, hj⟩))
end EV
theorem Ev.det {σ : Type} {act : σ → Act σ} {n : Nat} {s : σ} {r : Rs} (h : Ev act n s r) : ∀ {n' : Nat} {r' : Rs}, Ev act n' s r' → n = n' ∧ r = r' := by
  refine Ev.ind (motive := fun n s r => ∀ {n' : Nat} {r' : Rs}, Ev act n' s r' → n = n' ∧ r = r') h ?_ ?_ ?_ ?_
  · intro s r q h hq n' r' h'
    rcases h'.inv with ⟨r0, z1, z2, z3⟩ | ⟨m, s', n1, r1, z1, -⟩ | ⟨a, b, n1, w, z1, -⟩ | ⟨a, b, n1, k, z1, -⟩
    · rw [h] at z1; cases z1; exact ⟨z3.symm, hq.trans z2.symm⟩
    · rw [h] at z1; cases z1
    · rw [h] at z1; cases z1
    · rw [h] at z1; cases z1
  · intro s s' m n r q h h1 hq ih n' r' h'
    rcases h'.inv with ⟨r0, z1, -⟩ | ⟨m', s1, n1, r1, z1, z2, z3, z4⟩ | ⟨a, b, n1, w, z1, -⟩ | ⟨a, b, n1, k, z1, -⟩
    · rw [h] at z1; cases z1
    · rw [h] at z1; cases z1
      obtain ⟨q1, q2⟩ := ih z2
      subst q1; subst q2
      exact ⟨z4.symm, hq.trans z3.symm⟩
    · rw [h] at z1; cases z1
    · rw [h] at z1; cases z1
  · intro s a b n w r h h1 hq ih n' r' h'
    rcases h'.inv with ⟨r0, z1, -⟩ | ⟨m', s1, n1, r1, z1, -⟩ | ⟨a', b', n1, w', z1, z2, z3, z4⟩ | ⟨a', b', n1, k, z1, z2, -⟩
    · rw [h] at z1; cases z1
    · rw [h] at z1; cases z1
    · rw [h] at z1; cases z1
      obtain ⟨q1, q2⟩ := ih z2
      subst q1; cases q2
      exact ⟨z4.symm, hq.trans z3.symm⟩
    · rw [h] at z1; cases z1
      obtain ⟨q1, q2⟩ := ih z2
      cases q2
  · intro s a b n k j r h h1 h2 hj ih1 ih2 n' r' h'
    rcases h'.inv with ⟨r0, z1, -⟩ | ⟨m', s1, n1, r1, z1, -⟩ | ⟨a', b', n1, w', z1, z2, z3, z4⟩ | ⟨a', b', n1, k1, z1, z2, z3, z4⟩
    · rw [h] at z1; cases z1
    · rw [h] at z1; cases z1
    · rw [h] at z1; cases z1
      obtain ⟨q1, q2⟩ := ih1 z2
      cases q2
    · rw [h] at z1; cases z1
      obtain ⟨q1, q2⟩ := ih1 z2
      obtain ⟨q3, q4⟩ := ih2 z3
      subst q1; subst q3
      exact ⟨hj.trans z4.symm, q4⟩
def aCl {σ : Type} (act : σ → Act σ) (D : σ → Prop) : Prop := ∀ s, D s → (∀ m s', act s = .inr (.inl (m, s')) → D s') ∧ (∀ a b, act s = .inr (.inr (a, b)) → D a ∧ D b)
theorem Ev.bel {σ : Type} {act : σ → Act σ} {D : σ → Prop} (hD : aCl act D) {n : Nat} {s : σ} {r : Rs} (h : Ev act n s r) : D s → ∀ m, m ≤ n → ∃ s' r', D s' ∧ Ev act m s' r' := by
  refine Ev.ind (motive := fun n s r => D s → ∀ m, m ≤ n → ∃ s' r', D s' ∧ Ev act m s' r') h ?_ ?_ ?_ ?_
  · intro s r q h hq hs m hm
    cases Nat.le_zero.mp hm
    exact ⟨_, _, hs, Ev.fin h hq⟩
  · intro s s' mm n r q h h1 hq ih hs m hm
    by_cases h2 : m = n + 1
    · subst h2; exact ⟨_, _, hs, Ev.go h h1 hq⟩
    · exact ih ((hD _ hs).1 _ _ h) m (by omega)
  · intro s a b n q r h h1 hq ih hs m hm
    by_cases h2 : m = n + 1
    · subst h2; exact ⟨_, _, hs, Ev.forkL h h1 hq⟩
    · exact ih ((hD _ hs).2 _ _ h).1 m (by omega)
  · intro s a b n k j r h h1 h2 hj ih1 ih2 hs m hm
    by_cases h3 : m = j
    · subst h3; exact ⟨_, _, hs, Ev.forkR h h1 h2 hj⟩
    · by_cases h4 : m ≤ n
      · exact ih1 ((hD _ hs).2 _ _ h).1 m h4
      · exact ih2 ((hD _ hs).2 _ _ h).2 m (by omega)
theorem php : ∀ (N n : Nat) (f : Nat → Nat), (∀ i, i < n → f i < N) → (∀ i j, i < n → j < n → f i = f j → i = j) → n ≤ N
  | 0, n, f, h1, _ => by
    by_cases h : n = 0
    · omega
    · have := h1 0 (by omega); omega
  | N + 1, 0, f, _, _ => by omega
  | N + 1, n + 1, f, h1, h2 => by
    have := php N n (fun i => if f i = N then f n else f i) (fun i hi => by
      by_cases h : f i = N
      · show (if f i = N then f n else f i) < N
        rw [if_pos h]
        have q1 := h1 n (by omega)
        have q2 : f n ≠ N := fun z => by have := h2 i n (by omega) (by omega) (h.trans z.symm); omega
        omega
      · show (if f i = N then f n else f i) < N
        rw [if_neg h]
        have q1 := h1 i (by omega)
        omega) (fun i j hi hj he => by
      have he : (if f i = N then f n else f i) = (if f j = N then f n else f j) := he
      by_cases h : f i = N
      · by_cases h' : f j = N
        · exact h2 i j (by omega) (by omega) (h.trans h'.symm)
        · rw [if_pos h, if_neg h'] at he
          have := h2 n j (by omega) (by omega) he; omega
      · by_cases h' : f j = N
        · rw [if_neg h, if_pos h'] at he
          have := h2 i n (by omega) (by omega) he; omega
        · rw [if_neg h, if_neg h'] at he
          exact h2 i j (by omega) (by omega) he)
    omega
theorem Ev.bound {σ : Type} {act : σ → Act σ} {D : σ → Prop} (hD : aCl act D) (c : σ → Nat) (N : Nat) (hc : ∀ s, D s → c s < N) (hi : ∀ s t, D s → D t → c s = c t → s = t) {n : Nat} {s : σ} {r : Rs} (h : Ev act n s r) (hs : D s) : n < N := by
  have hb := h.bel hD hs
  have hf : ∀ m, ∃ t, m ≤ n → D t ∧ ∃ r', Ev act m t r' := fun m => by
    by_cases hm : m ≤ n
    · obtain ⟨t, r', q1, q2⟩ := hb m hm
      exact ⟨t, fun _ => ⟨q1, r', q2⟩⟩
    · exact ⟨s, fun z => absurd z hm⟩
  have hg : ∃ g : Nat → σ, ∀ m, m ≤ n → D (g m) ∧ ∃ r', Ev act m (g m) r' := ⟨fun m => Classical.choose (hf m), fun m => Classical.choose_spec (hf m)⟩
  obtain ⟨g, hg⟩ := hg
  have := php N (n + 1) (fun m => c (g m)) (fun i hi' => hc _ (hg i (by omega)).1) (fun i j hi' hj' he => by
    have e := hi _ _ (hg i (by omega)).1 (hg j (by omega)).1 he
    obtain ⟨-, r1, e1⟩ := hg i (by omega)
    obtain ⟨-, r2, e2⟩ := hg j (by omega)
    rw [e] at e1
    exact (e1.det e2).1)
  omega
def acC (q : PS0) (T : List Int32) (K : Nat → Bool) (s : Nat × Nat) : Act (Nat × Nat) :=
  if q.2.1 s.1 = 0 then .inl (if K s.2 = true then some s.2 else none)
  else if q.2.1 s.1 = 1 then (if s.2 < T.length ∧ pTk q s.1 (T.getD s.2 (-2)) = true then .inr (.inl (none, (q.2.2.1 s.1, s.2 + 1))) else .inl none)
  else if q.2.1 s.1 = 2 then (if s.2 = 0 then .inr (.inl (none, (q.2.2.1 s.1, s.2))) else .inl none)
  else if q.2.1 s.1 = 3 then (if s.2 = T.length then .inr (.inl (none, (q.2.2.1 s.1, s.2))) else .inl none)
  else if q.2.1 s.1 = 5 then .inr (.inr ((q.2.2.1 s.1, s.2), (q.2.2.2.1 s.1, s.2)))
  else .inr (.inl ((some (q.2.2.2.2.1 s.1, s.2)), (q.2.2.1 s.1, s.2)))
def acM (P T : List Int32) (l : Cd) (K : Nat → Bool) (s : Nat × Nat) : Act (Nat × Nat) :=
  if (cIn l s.1).1 = 8 then .inl (if K s.2 = true then some s.2 else none)
  else if (cIn l s.1).1 = 5 then .inr (.inl ((some (cMk l s.1, s.2)), (s.1 + 1, s.2)))
  else if (cIn l s.1).1 = 6 then .inr (.inr ((cN1 l s.1, s.2), (cN2 l s.1, s.2)))
  else if (cIn l s.1).1 = 7 then .inr (.inl (none, (cN1 l s.1, s.2)))
  else if ¬ (cIn l s.1).1 < 3 then (if (if (cIn l s.1).1 = 3 then s.2 = 0 else s.2 = T.length) then .inr (.inl (none, (s.1 + 1, s.2))) else .inl none)
  else (if s.2 < T.length ∧ tkI P (cIn l s.1) (pat T s.2) = true then .inr (.inl (none, (s.1 + 1, s.2 + 1))) else .inl none)
def wM (ms : List (Nat × Nat)) (ma : Nat → Nat) : Nat → Nat := ms.foldl (fun f w => va_up f w.1 (w.2 + 1)) ma
def wB (ms : List (Nat × Nat)) (f : Nat → Int32) : Nat → Int32 := ms.foldl (fun f w => bdSet f (nI w.1) (nI w.2)) f
section DF
variable {P T : List Int32} {l : Cd} {to : Int32}
theorem dfs_act {f : Nat} {s : Nat × Nat} {st : List SE} {tr : Nat → Bool} {ma : Nat → Nat} : dfs P T l to (f + 1) (some s) st tr ma = if tr (s.1 * 31 + s.2) = true then dfs P T l to f none st tr ma else (match acM P T l (toB to) s with
    | .inl (some e) => (some e, ma)
    | .inl none => dfs P T l to f none st (va_up tr (s.1 * 31 + s.2) true) ma
    | .inr (.inl (none, s')) => dfs P T l to f (some s') st (va_up tr (s.1 * 31 + s.2) true) ma
    | .inr (.inl ((some w), s')) => dfs P T l to f (some s') (.inr (w.1, ma w.1) :: st) (va_up tr (s.1 * 31 + s.2) true) (va_up ma w.1 (w.2 + 1))
    | .inr (.inr (a, b)) => dfs P T l to f (some a) (.inl b :: st) (va_up tr (s.1 * 31 + s.2) true) ma) := by
  rw [dfs, acM]
  by_cases h0 : tr (s.1 * 31 + s.2) = true
  · rw [if_pos h0, if_pos h0]
  · rw [if_neg h0, if_neg h0]
    by_cases h8 : (cIn l s.1).1 = 8
    · rw [if_pos h8, if_pos h8]
      by_cases hb : toB to s.2 = true
      · rw [if_pos hb, if_pos hb]
      · rw [if_neg hb, if_neg hb]
    · rw [if_neg h8, if_neg h8]
      by_cases h5 : (cIn l s.1).1 = 5
      · rw [if_pos h5, if_pos h5]
      · rw [if_neg h5, if_neg h5]
        by_cases h6 : (cIn l s.1).1 = 6
        · rw [if_pos h6, if_pos h6]
        · rw [if_neg h6, if_neg h6]
          by_cases h7 : (cIn l s.1).1 = 7
          · rw [if_pos h7, if_pos h7]
          · rw [if_neg h7, if_neg h7]
            by_cases h3 : ¬ (cIn l s.1).1 < 3
            · rw [if_pos h3, if_pos h3]
              by_cases hx : (if (cIn l s.1).1 = 3 then s.2 = 0 else s.2 = T.length)
              · rw [if_pos hx, if_pos hx]
              · rw [if_neg hx, if_neg hx]
            · rw [if_neg h3, if_neg h3]
              by_cases hx : s.2 < T.length ∧ tkI P (cIn l s.1) (pat T s.2) = true
              · rw [if_pos hx, if_pos hx]
              · rw [if_neg hx, if_neg hx]
def dD (l : Cd) (T : List Int32) (s : Nat × Nat) : Prop := s.1 < l.length ∧ s.2 ≤ T.length
def dIv (P T : List Int32) (l : Cd) (K : Nat → Bool) (n : Nat) (tr : Nat → Bool) : Prop := ∀ s : Nat × Nat, dD l T s → tr (s.1 * 31 + s.2) = true → (∃ k, Ev (acM P T l K) k s none) ∨ (∃ k r, Ev (acM P T l K) k s r ∧ n < k)
def dGr (P T : List Int32) (l : Cd) (K : Nat → Bool) (tr tr' : Nat → Bool) : Prop := ∀ s : Nat × Nat, dD l T s → tr' (s.1 * 31 + s.2) = true → tr (s.1 * 31 + s.2) = true ∨ (∃ k, Ev (acM P T l K) k s none)
theorem dIv.up {K : Nat → Bool} {n m : Nat} {tr : Nat → Bool} {s : Nat × Nat} {r : Rs} (h : dIv P T l K n tr) (hT : T.length ≤ 30) (hs : dD l T s) (he : Ev (acM P T l K) n s r) (hm : m < n) : dIv P T l K m (va_up tr (s.1 * 31 + s.2) true) := fun t ht htr => by
  by_cases hq : t.1 * 31 + t.2 = s.1 * 31 + s.2
  · have ht' := ht.2; have hs' := hs.2; have h1 : t = s := Prod.ext (by omega) (by omega)
    subst h1
    exact Or.inr ⟨n, r, he, hm⟩
  · rw [va_up, if_neg hq] at htr
    rcases h t ht htr with h1 | ⟨k, r', h1, h2⟩
    · exact Or.inl h1
    · exact Or.inr ⟨k, r', h1, by omega⟩
theorem dIv.gr {K : Nat → Bool} {n : Nat} {tr tr' : Nat → Bool} (h : dIv P T l K n tr) (hg : dGr P T l K tr tr') : dIv P T l K n tr' := fun t ht htr => by
  rcases hg t ht htr with h1 | h1
  · exact h t ht h1
  · exact Or.inl h1
theorem dGr.up {K : Nat → Bool} {n : Nat} {tr tr' : Nat → Bool} {s : Nat × Nat} (hT : T.length ≤ 30) (hs : dD l T s) (he : Ev (acM P T l K) n s none) (hg : dGr P T l K (va_up tr (s.1 * 31 + s.2) true) tr') : dGr P T l K tr tr' := fun t ht htr => by
  rcases hg t ht htr with h1 | h1
  · by_cases hq : t.1 * 31 + t.2 = s.1 * 31 + s.2
    · have ht' := ht.2; have hs' := hs.2; have h1 : t = s := Prod.ext (by omega) (by omega)
      subst h1
      exact Or.inr ⟨n, he⟩
    · rw [va_up, if_neg hq] at h1
      exact Or.inl h1
  · exact Or.inr h1
theorem up_back {ma : Nat → Nat} {i v : Nat} : va_up (va_up ma i v) i (ma i) = ma := by
  funext j
  simp only [va_up]
  by_cases h : j = i
  · rw [if_pos h, h]
  · rw [if_neg h, if_neg h]
def dOut (P T : List Int32) (l : Cd) (to : Int32) (s : Nat × Nat) (st : List SE) (tr : Nat → Bool) (ma : Nat → Nat) (r : Rs) : Prop := match r with
  | some q => ∃ k, ∀ f, dfs P T l to (f + k) (some s) st tr ma = (some q.1, wM q.2 ma)
  | none => ∃ k tr', dGr P T l (toB to) tr tr' ∧ ∀ f, dfs P T l to (f + k) (some s) st tr ma = dfs P T l to f none st tr' ma
theorem dGr.rf {K : Nat → Bool} {tr : Nat → Bool} : dGr P T l K tr tr := fun _ _ h => Or.inl h
theorem dfs_ev (hT : T.length ≤ 30) (hD : aCl (acM P T l (toB to)) (dD l T)) {n : Nat} {s : Nat × Nat} {r : Rs} (h : Ev (acM P T l (toB to)) n s r) : dD l T s → ∀ (st : List SE) (tr : Nat → Bool) (ma : Nat → Nat), dIv P T l (toB to) n tr → dOut P T l to s st tr ma r := by
  have htried : ∀ {n : Nat} {s : Nat × Nat} {r : Rs}, Ev (acM P T l (toB to)) n s r → dD l T s → ∀ (st : List SE) (tr : Nat → Bool) (ma : Nat → Nat), dIv P T l (toB to) n tr → tr (s.1 * 31 + s.2) = true → dOut P T l to s st tr ma r := by
    intro n s r h hs st tr ma hI h0
    rcases hI s hs h0 with ⟨k, h1⟩ | ⟨k, r', h1, h2⟩
    · have := (h.det h1).2
      subst this
      exact ⟨1, tr, dGr.rf, fun f => by rw [dfs_act, if_pos h0]⟩
    · have := (h.det h1).1
      omega
  refine Ev.ind (motive := fun n s r => dD l T s → ∀ (st : List SE) (tr : Nat → Bool) (ma : Nat → Nat), dIv P T l (toB to) n tr → dOut P T l to s st tr ma r) h ?_ ?_ ?_ ?_
  · intro s r q h hq hs st tr ma hI
    by_cases h0 : tr (s.1 * 31 + s.2) = true
    · exact htried (Ev.fin h hq) hs st tr ma hI h0
    · subst hq
      cases r with
      | some e => exact ⟨1, fun f => by rw [dfs_act, if_neg h0, h]; rfl⟩
      | none => exact ⟨1, _, dGr.up hT hs (Ev.fin h rfl) dGr.rf, fun f => by rw [dfs_act, if_neg h0, h]⟩
  · intro s s' m n r q h h1 hq ih hs st tr ma hI
    by_cases h0 : tr (s.1 * 31 + s.2) = true
    · exact htried (Ev.go h h1 hq) hs st tr ma hI h0
    · have hs' := (hD s hs).1 _ _ h
      have hI' := hI.up hT hs (Ev.go h h1 hq) (Nat.lt_succ_self n)
      cases m with
      | none =>
        have hq : r = q := hq.symm
        subst hq
        have := ih hs' st _ ma hI'
        cases r with
        | some q =>
          obtain ⟨k, hk⟩ := this
          exact ⟨k + 1, fun f => by rw [← Nat.add_assoc, dfs_act, if_neg h0, h]; exact hk f⟩
        | none =>
          obtain ⟨k, tr', hg, hk⟩ := this
          exact ⟨k + 1, tr', dGr.up hT hs (Ev.go h h1 rfl) hg, fun f => by rw [← Nat.add_assoc, dfs_act, if_neg h0, h]; exact hk f⟩
      | some w =>
        subst hq
        have := ih hs' (.inr (w.1, ma w.1) :: st) _ (va_up ma w.1 (w.2 + 1)) hI'
        cases r with
        | some q =>
          obtain ⟨k, hk⟩ := this
          exact ⟨k + 1, fun f => by rw [← Nat.add_assoc, dfs_act, if_neg h0, h]; exact hk f⟩
        | none =>
          obtain ⟨k, tr', hg, hk⟩ := this
          refine ⟨1 + k + 1, tr', dGr.up hT hs (Ev.go h h1 rfl) hg, fun f => ?_⟩
          rw [show f + (1 + k + 1) = (f + 1 + k) + 1 by omega, dfs_act, if_neg h0, h]
          show dfs P T l to (f + 1 + k) (some s') (.inr (w.1, ma w.1) :: st) _ _ = _
          rw [hk (f + 1), dfs]
          show dfs P T l to f none st tr' (va_up (va_up ma w.1 (w.2 + 1)) w.1 (ma w.1)) = _
          rw [up_back]
  · intro s a b n q r h h1 hq ih hs st tr ma hI
    by_cases h0 : tr (s.1 * 31 + s.2) = true
    · exact htried (Ev.forkL h h1 hq) hs st tr ma hI h0
    · have hs' := ((hD s hs).2 _ _ h).1
      have hI' := hI.up hT hs (Ev.forkL h h1 hq) (Nat.lt_succ_self n)
      subst hq
      obtain ⟨k, hk⟩ := ih hs' (.inl b :: st) _ ma hI'
      exact ⟨k + 1, fun f => by rw [← Nat.add_assoc, dfs_act, if_neg h0, h]; exact hk f⟩
  · intro s a b n k j r h h1 h2 hj ih1 ih2 hs st tr ma hI
    by_cases h0 : tr (s.1 * 31 + s.2) = true
    · exact htried (Ev.forkR h h1 h2 hj) hs st tr ma hI h0
    · have hs' := ((hD s hs).2 _ _ h)
      obtain ⟨k1, tr1, hg1, hk1⟩ := ih1 hs'.1 (.inl b :: st) _ ma (hI.up hT hs (Ev.forkR h h1 h2 hj) (by omega))
      have := ih2 hs'.2 st tr1 ma ((hI.up hT hs (Ev.forkR h h1 h2 hj) (by omega)).gr hg1)
      cases r with
      | some q =>
        obtain ⟨k2, hk2⟩ := this
        refine ⟨k2 + 1 + k1 + 1, fun f => ?_⟩
        rw [show f + (k2 + 1 + k1 + 1) = (f + k2 + 1 + k1) + 1 by omega, dfs_act, if_neg h0, h]
        show dfs P T l to (f + k2 + 1 + k1) (some a) (.inl b :: st) _ _ = _
        rw [hk1 (f + k2 + 1), dfs]
        exact hk2 f
      | none =>
        obtain ⟨k2, tr2, hg2, hk2⟩ := this
        refine ⟨k2 + 1 + k1 + 1, tr2, fun t ht htr => ?_, fun f => ?_⟩
        · rcases hg2 t ht htr with z | z
          · exact dGr.up hT hs (Ev.forkR h h1 h2 hj) hg1 t ht z
          · exact Or.inr z
        · rw [show f + (k2 + 1 + k1 + 1) = (f + k2 + 1 + k1) + 1 by omega, dfs_act, if_neg h0, h]
          show dfs P T l to (f + k2 + 1 + k1) (some a) (.inl b :: st) _ _ = _
          rw [hk1 (f + k2 + 1), dfs]
          exact hk2 f
def dSt (l : Cd) (T : List Int32) : List SE → Prop
  | [] => True
  | .inl q :: st => (q.1 < l.length ∧ q.2 ≤ T.length) ∧ dSt l T st
  | .inr _ :: st => dSt l T st
def dCu (l : Cd) (T : List Int32) : Option (Nat × Nat) → Prop
  | none => True
  | some q => q.1 < l.length ∧ q.2 ≤ T.length
def cu4 (tr : Nat → Bool) : Nat := cuN tr 4030
theorem cu4_up {tr : Nat → Bool} {j : Nat} (h0 : tr j = false) (h : j < 4030) : cu4 (va_up tr j true) + 1 = cu4 tr := cuN_up h0 h
theorem cu4_le (tr : Nat → Bool) : cu4 tr ≤ 4030 := cuN_le tr 4030
def dMu (c : Option (Nat × Nat)) (st : List SE) (tr : Nat → Bool) : Nat := 3 * cu4 tr + 2 * st.length + (if c.isSome then 1 else 0)
theorem dfs_fuel (hl : l.length ≤ 130) (hT : T.length ≤ 30) (hD : aCl (acM P T l (toB to)) (dD l T)) : ∀ (f : Nat) (c : Option (Nat × Nat)) (st : List SE) (tr : Nat → Bool) (ma : Nat → Nat), dCu l T c → dSt l T st → dMu c st tr ≤ f → dfs P T l to (f + 1) c st tr ma = dfs P T l to f c st tr ma
  := by
  intro f
  induction f with
  | zero =>
    intro c st tr ma h1 h2 h
    cases c with
    | none =>
      cases st with
      | nil => rw [dfs, dfs]
      | cons e st => simp only [dMu, List.length_cons] at h; omega
    | some s => simp [dMu] at h
  | succ f ih =>
    intro c st tr ma h1 h2 h
    cases c with
    | none =>
      cases st with
      | nil => rw [dfs, dfs]
      | cons e st =>
        cases e with
        | inr q =>
          rw [dfs, dfs]
          show dfs P T l to (f + 1) none st tr _ = dfs P T l to f none st tr _
          exact ih _ _ _ _ h1 h2 (by simp only [dMu, List.length_cons, Option.isSome] at h ⊢; simp at h ⊢; omega)
        | inl q =>
          rw [dfs, dfs]
          show dfs P T l to (f + 1) (some q) st tr _ = dfs P T l to f (some q) st tr _
          exact ih _ _ _ _ h2.1 h2.2 (by simp only [dMu, List.length_cons, Option.isSome] at h ⊢; simp at h ⊢; omega)
    | some s =>
        rw [dfs_act, dfs_act]
        have h3 : dMu none st tr ≤ f := by simp [dMu] at h ⊢; omega
        by_cases h0 : tr (s.1 * 31 + s.2) = true
        · rw [if_pos h0, if_pos h0]
          exact ih _ _ _ _ trivial h2 h3
        · rw [if_neg h0, if_neg h0]
          have h1 : s.1 < l.length ∧ s.2 ≤ T.length := h1
          have hu := cu4_up (eq_false_of_ne_true h0) (by omega)
          have h4 : ∀ c st', st'.length ≤ st.length + 1 → dMu c st' (va_up tr (s.1 * 31 + s.2) true) ≤ f := fun c st' hst => by
            simp [dMu] at h ⊢
            have : (if c.isSome = true then 1 else 0) ≤ 1 := by split <;> omega
            omega
          rcases hA : acM P T l (toB to) s with r | ⟨m, s'⟩ | ⟨a, b⟩
          · cases r with
            | some e => rfl
            | none => exact ih _ _ _ _ trivial h2 (h4 _ _ (by omega))
          · have h5 := (hD s h1).1 _ _ hA
            cases m with
            | none => exact ih _ _ _ _ h5 h2 (h4 _ _ (by omega))
            | some w => exact ih _ _ _ _ h5 (show dSt l T (.inr (w.1, ma w.1) :: st) from h2) (h4 _ _ (by simp))
          · have h5 := (hD s h1).2 _ _ hA
            exact ih _ _ _ _ h5.1 (show dSt l T (.inl b :: st) from ⟨h5.2, h2⟩) (h4 _ _ (by simp))
theorem acM_cl (hok : cdOK P l) (K : Nat → Bool) : aCl (acM P T l K) (dD l T) := fun s hs => by
  obtain ⟨h1, h2, h3⟩ := hok
  obtain ⟨k0, k5, k6, k7, k1⟩ := h3 s.1 hs.1
  have hcl : ∀ {t : Nat}, t < l.length → (nI t).toNatClampNeg = t := fun h => nI_clamp (by omega)
  constructor
  · intro m s' h
    rw [acM] at h
    by_cases h8 : (cIn l s.1).1 = 8
    · rw [if_pos h8] at h; cases h
    rw [if_neg h8] at h
    by_cases h5 : (cIn l s.1).1 = 5
    · rw [if_pos h5] at h; cases h; exact ⟨(k5 h5).2, hs.2⟩
    rw [if_neg h5] at h
    by_cases h6 : (cIn l s.1).1 = 6
    · rw [if_pos h6] at h; cases h
    rw [if_neg h6] at h
    by_cases h7 : (cIn l s.1).1 = 7
    · rw [if_pos h7] at h; cases h
      obtain ⟨t, z1, z2⟩ := k7 h7
      refine ⟨?_, hs.2⟩
      show cN1 l s.1 < l.length
      rw [cN1, z2, hcl z1]; exact z1
    rw [if_neg h7] at h
    by_cases hk : ¬ (cIn l s.1).1 < 3
    · rw [if_pos hk] at h
      by_cases hx : (if (cIn l s.1).1 = 3 then s.2 = 0 else s.2 = T.length)
      · rw [if_pos hx] at h; cases h; exact ⟨k1 h5 h6 h7 h8, hs.2⟩
      · rw [if_neg hx] at h; cases h
    · rw [if_neg hk] at h
      split at h
      · rename_i hx
        cases h; exact ⟨k1 h5 h6 h7 h8, hx.1⟩
      · cases h
  · intro a b h
    rw [acM] at h
    by_cases h8 : (cIn l s.1).1 = 8
    · rw [if_pos h8] at h; cases h
    rw [if_neg h8] at h
    by_cases h5 : (cIn l s.1).1 = 5
    · rw [if_pos h5] at h; cases h
    rw [if_neg h5] at h
    by_cases h6 : (cIn l s.1).1 = 6
    · rw [if_pos h6] at h; cases h
      obtain ⟨⟨t, z1, z2⟩, ⟨u, z3, z4⟩⟩ := k6 h6
      refine ⟨⟨?_, hs.2⟩, ⟨?_, hs.2⟩⟩
      · show cN1 l s.1 < l.length
        rw [cN1, z2, hcl z1]; exact z1
      · show cN2 l s.1 < l.length
        rw [cN2, z4, hcl z3]; exact z3
    rw [if_neg h6] at h
    by_cases h7 : (cIn l s.1).1 = 7
    · rw [if_pos h7] at h; cases h
    rw [if_neg h7] at h
    by_cases hk : ¬ (cIn l s.1).1 < 3
    · rw [if_pos hk] at h
      by_cases hx : (if (cIn l s.1).1 = 3 then s.2 = 0 else s.2 = T.length)
      · rw [if_pos hx] at h; cases h
      · rw [if_neg hx] at h; cases h
    · rw [if_neg hk] at h; split at h <;> cases h
theorem wyR_ev (hok : cdOK P l) (hT : T.length ≤ 30) {fr n : Nat} {r : Rs} {tr : Nat → Bool} (hfr : fr ≤ T.length) (htr : ∀ j, j < 4030 → tr j = false) (h : Ev (acM P T l (toB to)) n (0, fr) r) : (∀ q, r = some q → wyR P T l to fr tr = (some q.1, wM q.2 (fun _ => 0))) ∧ (r = none → (wyR P T l to fr tr).1 = none) := by
  have hcl := acM_cl (T := T) hok (toB to)
  have hl := hok.2.1
  have hF : ∀ k, dfs P T l to (12099 + k) (some (0, fr)) [] tr (fun _ => 0) = dfs P T l to 12099 (some (0, fr)) [] tr (fun _ => 0) := by
    intro k
    induction k with
    | zero => rfl
    | succ k ih =>
      rw [← ih]
      exact dfs_fuel hl hT hcl (12099 + k) _ _ _ _ ⟨hok.1, hfr⟩ trivial (by have := cu4_le tr; simp [dMu]; omega)
  have hz : wyR P T l to fr tr = dfs P T l to 12099 (some (0, fr)) [] tr (fun _ => 0) := rfl
  have hI : dIv P T l (toB to) n tr := fun s hs hs2 => by
    have h1 := hs.1; have h2 := hs.2
    rw [htr _ (by omega)] at hs2; cases hs2
  have ho := dfs_ev hT hcl h ⟨hok.1, hfr⟩ [] tr (fun _ => 0) hI
  refine ⟨fun q hq => ?_, fun hq => ?_⟩
  · subst hq
    obtain ⟨k, hk⟩ := ho
    rw [hz, ← hF k]
    exact hk 12099
  · subst hq
    obtain ⟨k, tr', -, hk⟩ := ho
    rw [hz, ← hF k, hk 12099]
    rfl
end DF
