theorem MoW.mv {E : xE} {h h' : xH} {A : MA3} {B : MB} {w : WS} {D : MD} (hm : MoW E h A B w D) (hq : ∀ z, xb E + 21 ≤ z → z ≤ xb E + 40 → h'.2.2 z = h.2.2 z) : MoW E h' A B w D := by
  obtain ⟨s, o, t, k1, k2, fp, ft, fo, qq, o21, a22, a23, a24, a25, a26, a27, a28, a29, a30, a31, a32, a33, a34, a35, a36, a37, a38, a39, a40⟩ := hm
  exact ⟨s, o, t, k1, k2, fp, ft, fo, qq, (hq _ (by omega) (by omega)).trans o21, (hq _ (by omega) (by omega)).trans a22, (hq _ (by omega) (by omega)).trans a23, (hq _ (by omega) (by omega)).trans a24, (hq _ (by omega) (by omega)).trans a25, (hq _ (by omega) (by omega)).trans a26, (hq _ (by omega) (by omega)).trans a27, (hq _ (by omega) (by omega)).trans a28, (hq _ (by omega) (by omega)).trans a29, (hq _ (by omega) (by omega)).trans a30, (hq _ (by omega) (by omega)).trans a31, (hq _ (by omega) (by omega)).trans a32, (hq _ (by omega) (by omega)).trans a33, (hq _ (by omega) (by omega)).trans a34, (hq _ (by omega) (by omega)).trans a35, (hq _ (by omega) (by omega)).trans a36, (hq _ (by omega) (by omega)).trans a37, (hq _ (by omega) (by omega)).trans a38, (hq _ (by omega) (by omega)).trans a39, (hq _ (by omega) (by omega)).trans a40⟩
theorem Cl.mv {E : xE} {h h' : xH} {c : CS} (hc : Cl E h c) (hq : ∀ z, xb E ≤ z → z ≤ xb E + 20 → h'.2.2 z = h.2.2 z) : Cl E h' c := by
  obtain ⟨h1, h2, h3, h4, h5, h6, h7, h8⟩ := hc
  exact ⟨(hq _ (by omega) (by omega)).trans h1, h2.mv (hq _ (by omega) (by omega)) (hq _ (by omega) (by omega)), h3.mv (hq _ (by omega) (by omega)) (hq _ (by omega) (by omega)), h4.mv (hq _ (by omega) (by omega)) (hq _ (by omega) (by omega)), h5.mv (fun z z1 z2 => hq z (by omega) (by omega)), ⟨(hq _ (by omega) (by omega)).trans h6.1, (hq _ (by omega) (by omega)).trans h6.2.1, h6.2.2⟩, ⟨(hq _ (by omega) (by omega)).trans h7.1, (hq _ (by omega) (by omega)).trans h7.2.1, h7.2.2⟩, h8⟩
def Rl (c : CS) (A : MA3) (B : MB) (w : WS) (D : MD) : Prop := A = (c.1, c.2.1, c.2.2.1) ∧ sgs c.1 ∧ (∀ x ∈ c.2.1, isSg x = true) ∧ c.2.1.length ≤ 30 ∧ bOk B ∧ D.2.2.2.2.1 = c.2.2.2.2.2.2.1 ∧ (c.2.2.2.2.2.2.1 = true → cpl c.1 c.2.2.2.1.1 c.2.2.2.1.2.1 w.1 ∧ fltB c.1 = false ∧ szT 7 (rdA c.1).1 ≤ 120 ∧ c.2.2.2.2.2.2.2 = szT 7 (rdA c.1).1 ∧ B.2.2.2.2.2.2.2.2 = szT 7 (rdA c.1).1 ∧ fnd c.2.2.2.2.1 D.2.2.2.1 D.2.2.2.2.2)
def Jt (E : xE) (h : xH) : Prop := ∃ c A B w D, Cl E h c ∧ MoW E h A B w D ∧ Rl c A B w D ∧ 41 ≤ h.1
def bnd (k : Nat) (h h' : xH) : Prop := h.1 ≤ h'.1 ∧ h'.1 ≤ h.1 + k ∧ h.2.1 ≤ h'.2.1 ∧ h'.2.1 ≤ h.2.1 + 6 * k
theorem bnd.rf {k : Nat} {h : xH} : bnd k h h := ⟨Nat.le_refl _, Nat.le_add_right _ _, Nat.le_refl _, Nat.le_add_right _ _⟩
def mO (E : xE) (h : xH) : Prop := ∃ fs, h.2.2 (xb E + 21) = some (ob 10 fs)
def cO (E : xE) (h : xH) : Prop := ∃ fs, h.2.2 (xb E) = some (ob 9 fs)
def jP (E : xE) (d : Nat) (M : xM) (As : List Value) (h : xH) (r : Option Value) (h1 : xH) : Prop := ∃ v, r = some (.int v) ∧ bnd 115 h h1 ∧ mO E h1 ∧ wpc E d M As h1 (fun r2 h2 => r2 = some (.int v) ∧ bnd 0 h1 h2 ∧ Jt E h2 ∧ cO E h2)
section JN
variable {E : xE} {h : xH} {c : CS} {A : MA3} {B : MB} {w : WS} {D : MD}
theorem fr_m {h1 : xH} (hm : MoW E h A B w D) (f : xfr (cA E) h h1) : MoW E h1 A B w D := hm.mv (fun z z1 z2 => f.2.2 z (by simp [cA]; omega))
theorem fr_b {h1 : xH} (f : xfr (cA E) h h1) : bnd 115 h h1 := ⟨by rw [f.1]; exact Nat.le_refl _, by rw [f.1]; omega, by rw [f.2.1]; exact Nat.le_refl _, by rw [f.2.1]; omega⟩
theorem gc_m {h1 : xH} {S : List Nat} (hm : MoW E h A B w D) (hn : 41 ≤ h.1) (f : xgc E S 115 h h1) (hS : ∀ z, xb E + 21 ≤ z → z ≤ xb E + 40 → z ∉ S) : MoW E h1 A B w D := hm.mv (fun z z1 z2 => f.2.2.2.2 z (by omega) (hS z z1 z2))
theorem gc_b {h1 : xH} {S : List Nat} (f : xgc E S 115 h h1) : bnd 115 h h1 := ⟨f.1, f.2.1, f.2.2.1, f.2.2.2.1⟩
theorem md_c {h1 h2 : xH} (hc : Cl E h1 c) (f : mfr E h1 h2) : Cl E h2 c := hc.mv (fun z z1 z2 => f.2.2 z (Or.inl (by omega)))
theorem md_b {h1 h2 : xH} (f : mfr E h1 h2) : bnd 0 h1 h2 := ⟨by rw [f.1]; exact Nat.le_refl _, by rw [f.1]; omega, by rw [f.2.1]; exact Nat.le_refl _, by rw [f.2.1]; omega⟩
theorem MoW.o (hm : MoW E h A B w D) : mO E h := ⟨_, hm.obj⟩
theorem Cl.o (hc : Cl E h c) : cO E h := ⟨_, hc.1⟩
theorem jt_mk {h1 h2 : xH} {c' : CS} {A' : MA3} {B' : MB} {w' : WS} {D' : MD} (hc : Cl E h1 c') (f : mfr E h1 h2) (hm : MoW E h2 A' B' w' D') (hr : Rl c' A' B' w' D') (hn : 41 ≤ h1.1) : Jt E h2 ∧ cO E h2 := ⟨⟨c', A', B', w', D', md_c hc f, hm, hr, by rw [f.1]; exact hn⟩, (md_c hc f).o⟩
theorem jt_id (hc : Cl E h c) (hm : MoW E h A B w D) (hr : Rl c A B w D) (hn : 41 ≤ h.1) : Jt E h ∧ cO E h := ⟨⟨c, A, B, w, D, hc, hm, hr, hn⟩, hc.o⟩
theorem sgs.snoc {P : List Int32} (hP : sgs P) {x : Int32} (hx : isSg x = true) (hl : P.length < 28) : sgs (P ++ [x]) := ⟨fun y hy => by
  rcases List.mem_append.mp hy with z | z
  · exact hP.1 y z
  · rw [List.mem_singleton.mp z]; exact hx, by rw [List.length_append]; show P.length + 1 ≤ 28; omega⟩
theorem j_pattern (hE : xOK E) (hJ : Jt E h) (x : Int32) : wpc E 2 m_PS_pattern [.ref (xb E), .int x] h (jP E 0 m_MO_pattern [.ref (xb E + 21), .int x] h) := by
  obtain ⟨c, A, B, w, D, hc, hm, hr, hn⟩ := hJ
  obtain ⟨rfl, r1, r2, r3, r4, r5, r6⟩ := id hr
  refine (c_PS_pattern hE hc x).mono (fun r h1 hp => ?_)
  by_cases hk : isSg x = true ∧ c.1.length < 28
  · rw [if_pos hk] at hp
    obtain ⟨p1, p2, p3⟩ := hp
    have hm1 := fr_m hm p2
    refine ⟨_, p1, fr_b p2, hm1.o, (c_MO_pattern hE hm1 x).mono (fun r2' h2 hp2 => ?_)⟩
    rw [if_pos hk] at hp2
    obtain ⟨q1, q2, q3⟩ := hp2
    exact ⟨q1, md_b q2, jt_mk p3 q2 q3 ⟨rfl, r1.snoc hk.1 hk.2, r2, r3, r4, rfl, fun z => by cases z⟩ (by rw [p2.1]; exact hn)⟩
  · rw [if_neg hk] at hp
    obtain ⟨p1, rfl⟩ := hp
    refine ⟨_, p1, bnd.rf, hm.o, (c_MO_pattern hE hm x).mono (fun r2' h2 hp2 => ?_)⟩
    rw [if_neg hk] at hp2
    obtain ⟨q1, rfl⟩ := hp2
    exact ⟨q1, bnd.rf, jt_id hc hm hr hn⟩
theorem j_newPattern (hE : xOK E) (hJ : Jt E h) : wpc E 1 m_PS_newPattern [.ref (xb E)] h (jP E 0 m_MO_newPattern [.ref (xb E + 21)] h) := by
  obtain ⟨c, A, B, w, D, hc, hm, hr, hn⟩ := hJ
  obtain ⟨rfl, r1, r2, r3, r4, r5, r6⟩ := id hr
  refine (c_PS_newPattern hE hc).mono (fun r h1 hp => ?_)
  obtain ⟨p1, p2, p3⟩ := hp
  have hm1 := fr_m hm p2
  refine ⟨_, p1, fr_b p2, hm1.o, (c_MO_newPattern hE hm1).mono (fun r2' h2 hp2 => ?_)⟩
  obtain ⟨q1, q2, q3⟩ := hp2
  exact ⟨q1, md_b q2, jt_mk p3 q2 q3 ⟨rfl, ⟨fun y hy => (by cases hy), Nat.zero_le _⟩, r2, r3, r4, rfl, fun z => by cases z⟩ (by rw [p2.1]; exact hn)⟩
theorem fnd_fl (f K : Nat → Int32) : fnd (filled 14 (-2) f) K false := Or.inl ⟨rfl, fun k hk => fl_14 hk⟩
theorem j_text (hE : xOK E) (hJ : Jt E h) (x : Int32) : wpc E 2 m_PS_text [.ref (xb E), .int x] h (jP E 0 m_MO_text [.ref (xb E + 21), .int x] h) := by
  obtain ⟨c, A, B, w, D, hc, hm, hr, hn⟩ := hJ
  obtain ⟨rfl, r1, r2, r3, r4, r5, r6⟩ := id hr
  refine (c_PS_text hE hc x).mono (fun r h1 hp => ?_)
  by_cases hk : isSg x = true ∧ c.2.1.length < 30
  · rw [if_pos hk] at hp
    obtain ⟨p1, p2, p3⟩ := hp
    have hm1 := fr_m hm p2
    refine ⟨_, p1, fr_b p2, hm1.o, (c_MO_text hE hm1 x).mono (fun r2' h2 hp2 => ?_)⟩
    rw [if_pos hk] at hp2
    obtain ⟨q1, q2, q3⟩ := hp2
    refine ⟨q1, md_b q2, jt_mk p3 q2 q3 ⟨rfl, r1, fun y hy => ?_, ?_, r4, r5, fun z => ?_⟩ (by rw [p2.1]; exact hn)⟩
    · rcases List.mem_append.mp hy with z | z
      · exact r2 y z
      · rw [List.mem_singleton.mp z]; exact hk.1
    · show (c.2.1 ++ [x]).length ≤ 30
      rw [List.length_append]; show c.2.1.length + 1 ≤ 30; omega
    · obtain ⟨k1, k2, k3, k4, k5, k6⟩ := r6 z
      exact ⟨k1, k2, k3, k4, k5, fnd_fl _ _⟩
  · rw [if_neg hk] at hp
    obtain ⟨p1, rfl⟩ := hp
    refine ⟨_, p1, bnd.rf, hm.o, (c_MO_text hE hm x).mono (fun r2' h2 hp2 => ?_)⟩
    rw [if_neg hk] at hp2
    obtain ⟨q1, rfl⟩ := hp2
    exact ⟨q1, bnd.rf, jt_id hc hm hr hn⟩
theorem j_newText (hE : xOK E) (hJ : Jt E h) : wpc E 2 m_PS_newText [.ref (xb E)] h (jP E 0 m_MO_newText [.ref (xb E + 21)] h) := by
  obtain ⟨c, A, B, w, D, hc, hm, hr, hn⟩ := hJ
  obtain ⟨rfl, r1, r2, r3, r4, r5, r6⟩ := id hr
  refine (c_PS_newText hE hc).mono (fun r h1 hp => ?_)
  obtain ⟨p1, p2, p3⟩ := hp
  have hm1 := fr_m hm p2
  refine ⟨_, p1, fr_b p2, hm1.o, (c_MO_newText hE hm1).mono (fun r2' h2 hp2 => ?_)⟩
  obtain ⟨q1, q2, q3⟩ := hp2
  refine ⟨q1, md_b q2, jt_mk p3 q2 q3 ⟨rfl, r1, fun y hy => (by cases hy), Nat.zero_le _, r4, r5, fun z => ?_⟩ (by rw [p2.1]; exact hn)⟩
  obtain ⟨k1, k2, k3, k4, k5, k6⟩ := r6 z
  exact ⟨k1, k2, k3, k4, k5, fnd_fl _ _⟩
theorem j_output (hE : xOK E) (hJ : Jt E h) (x : Int32) : wpc E 1 m_PS_output [.ref (xb E), .int x] h (jP E 0 m_MO_output [.ref (xb E + 21), .int x] h) := by
  obtain ⟨c, A, B, w, D, hc, hm, hr, hn⟩ := hJ
  obtain ⟨rfl, r1, r2, r3, r4, r5, r6⟩ := id hr
  refine (c_PS_output hE hc x).mono (fun r h1 hp => ?_)
  obtain ⟨p1, rfl⟩ := hp
  refine ⟨_, p1, bnd.rf, hm.o, (c_MO_output hE hm x).mono (fun r2' h2 hp2 => ?_)⟩
  obtain ⟨q1, rfl⟩ := hp2
  exact ⟨q1, bnd.rf, jt_id hc hm hr hn⟩
theorem j_state (hE : xOK E) (hJ : Jt E h) (x : Int32) : wpc E 1 m_PS_state [.ref (xb E), .int x] h (jP E 0 m_MO_state [.ref (xb E + 21), .int x] h) := by
  obtain ⟨c, A, B, w, D, hc, hm, hr, hn⟩ := hJ
  obtain ⟨rfl, r1, r2, r3, r4, r5, r6⟩ := id hr
  refine (c_PS_state hE hc x).mono (fun r h1 hp => ?_)
  obtain ⟨p1, rfl⟩ := hp
  refine ⟨_, p1, bnd.rf, hm.o, (c_MO_state hm x).mono (fun r2' h2 hp2 => ?_)⟩
  obtain ⟨q1, rfl⟩ := hp2
  refine ⟨?_, bnd.rf, jt_id hc hm hr hn⟩
  rw [q1]
  have : stM (c.1, c.2.1, c.2.2.1) B D x = stA c x := by
    simp only [stM, stA]
    rw [r5]
    cases hb : c.2.2.2.2.2.2.1 with
    | false => rfl
    | true =>
      obtain ⟨k1, k2, k3, k4, k5, k6⟩ := r6 hb
      rw [k5, k4]
  rw [this]
theorem j_group (hE : xOK E) (hJ : Jt E h) (x : Int32) (e : Bool) : wpc E 2 m_PS_group [.ref (xb E), .int x, .int (bI e)] h (jP E 0 m_MO_group [.ref (xb E + 21), .int x, .int (bI e)] h) := by
  obtain ⟨c, A, B, w, D, hc, hm, hr, hn⟩ := hJ
  obtain ⟨rfl, r1, r2, r3, r4, r5, r6⟩ := id hr
  refine (c_PS_group hE hc x e).mono (fun r h1 hp => ?_)
  obtain ⟨p1, rfl⟩ := hp
  refine ⟨_, p1, bnd.rf, hm.o, (c_MO_group hE hm x e).mono (fun r2' h2 hp2 => ?_)⟩
  obtain ⟨rfl, q1⟩ := hp2
  refine ⟨?_, bnd.rf, jt_id hc hm hr hn⟩
  rw [r5] at q1
  by_cases hk : isGr x = true ∧ c.2.2.2.2.2.2.1 = true
  · rw [if_pos hk] at q1
    obtain ⟨g, hg, rfl, q1⟩ := q1
    obtain ⟨k1, k2, k3, k4, k5, k6⟩ := r6 hk.2
    rw [q1, grA, if_pos hk, fnd_gr k6 hg e]
  · rw [if_neg hk] at q1
    rw [q1, grA, if_neg hk]
theorem j_fault {kA kV : Nat → Nat} (hE : xOK E) (hX : xStr E kA kV) (hJ : Jt E h) : wpc E 44 m_PS_fault [.ref (xb E)] h (jP E 5 m_MO_fault [.ref (xb E + 21)] h) := by
  obtain ⟨c, A, B, w, D, hc, hm, hr, hn⟩ := hJ
  obtain ⟨rfl, r1, r2, r3, r4, r5, r6⟩ := id hr
  refine (c_PS_fault hE hX hc (by omega)).mono (fun r h1 hp => ?_)
  obtain ⟨p1, p2, p3⟩ := hp
  have hm1 := gc_m hm hn p2 (fun z _ _ => by simp)
  refine ⟨_, p1, gc_b p2, hm1.o, (c_MO_fault hE hm1 r4).mono (fun r2' h2 hp2 => ?_)⟩
  have hn1 : 41 ≤ h1.1 := Nat.le_trans hn p2.1
  have hck := ck_rd r1 B
  have hp2 : mfP E h1 (c.1, c.2.1, c.2.2.1) w D (ckF c.1 B) r2' h2 := hp2
  cases hf : fltB c.1 with
  | true =>
    rw [hck.1 hf] at hp2
    obtain ⟨q1, q2, B', q3, q4⟩ := hp2
    refine ⟨by rw [q1, fltA, hf]; rfl, md_b q2, jt_mk p3 q2 q4 ⟨rfl, r1, r2, r3, q3, r5, fun z => ?_⟩ hn1⟩
    rw [(r6 z).2.1] at hf; cases hf
  | false =>
    obtain ⟨-, -, -, e⟩ := hck.2 hf
    rw [e] at hp2
    obtain ⟨q1, q2, B', q3, q4, q5⟩ := hp2
    refine ⟨by rw [q1, fltA, hf]; rfl, md_b q2, jt_mk p3 q2 q4 ⟨rfl, r1, r2, r3, q3, r5, fun z => ?_⟩ hn1⟩
    obtain ⟨k1, k2, k3, k4, k5, k6⟩ := r6 z
    refine ⟨k1, k2, k3, k4, ?_, k6⟩
    rw [q5]
    show lst (szT 7 (rdA c.1).1) = _
    rw [lst_min]; omega
theorem j_compile {kA kV : Nat → Nat} (hE : xOK E) (hX : xStr E kA kV) (hJ : Jt E h) : wpc E 44 m_PS_compile [.ref (xb E)] h (jP E 5 m_MO_compile [.ref (xb E + 21)] h) := by
  obtain ⟨c, A, B, w, D, hc, hm, hr, hn⟩ := hJ
  obtain ⟨rfl, r1, r2, r3, r4, r5, r6⟩ := id hr
  refine (c_PS_compile hE hX hc (by omega)).mono (fun r h1 hp => ?_)
  obtain ⟨p1, p2, p3⟩ := hp
  have hm1 := gc_m hm hn p2 (fun z z1 z2 => by simp [cA]; omega)
  have hck := ck_rd r1 B
  have hn1 : 41 ≤ h1.1 := Nat.le_trans hn p2.1
  refine ⟨_, p1, gc_b p2, hm1.o, (c_MO_compile hE hm1 r4 (fun q z1 z2 z3 => ?_) (fun q z => ?_)).mono (fun r2' h2 hp2 => ?_)⟩
  · have z1 : ckF c.1 B = .inr q := z1
    cases hf : fltB c.1 with
    | true => rw [hck.1 hf] at z1; cases z1
    | false =>
      obtain ⟨-, -, -, e⟩ := hck.2 hf
      rw [e] at z1; cases z1
      have z3 : lst (szT 7 (rdA c.1).1) ≤ 120 := z3
      rw [lst_min] at z3
      exact (cp_ok r1 hf z2 (by omega) c.2.2.2.1.1 w).1
  · have z : ckF c.1 B = .inr q := z
    cases hf : fltB c.1 with
    | true => rw [hck.1 hf] at z; cases z
    | false =>
      obtain ⟨-, -, -, e⟩ := hck.2 hf
      rw [e] at z; cases z
      show lst (szT 7 (rdA c.1).1) ≤ 1000
      rw [lst_min]; omega
  · have hp2 : cmP E h1 (c.1, c.2.1, c.2.2.1) w D (ckF c.1 B) r2' h2 := hp2
    obtain ⟨q2, B', q3, q4⟩ := hp2
    cases hf : fltB c.1 with
    | true =>
      rw [hck.1 hf] at q4
      obtain ⟨q1, q4⟩ := q4
      have hcp : cpC c = (c.1, c.2.1, c.2.2.1, c.2.2.2.1, c.2.2.2.2.1, c.2.2.2.2.2.1, false, c.2.2.2.2.2.2.2) := by
        rw [cpC, if_neg (fun z => by rw [hf] at z; cases z.1)]
      rw [hcp] at p3
      refine ⟨by rw [q1, cpA, hf]; rfl, md_b q2, jt_mk p3 q2 q4 ⟨rfl, r1, r2, r3, q3, rfl, fun z => by cases z⟩ hn1⟩
    | false =>
      obtain ⟨-, -, hlt, e⟩ := hck.2 hf
      rw [e] at q4
      cases he : (rdA c.1).2.2.2.1 with
      | true =>
        have q4 : if (rdA c.1).2.2.2.1 = true then r2' = some (.int (-4)) ∧ MoW E h2 (c.1, c.2.1, c.2.2.1) B' w (dR false D) else _ := q4
        rw [if_pos he] at q4
        obtain ⟨q1, q4⟩ := q4
        have hcp : cpC c = (c.1, c.2.1, c.2.2.1, c.2.2.2.1, c.2.2.2.2.1, c.2.2.2.2.2.1, false, c.2.2.2.2.2.2.2) := by
          rw [cpC, if_neg (fun z => by rw [he] at z; cases z.2.1)]
        rw [hcp] at p3
        refine ⟨by rw [q1, cpA, hf, he]; rfl, md_b q2, jt_mk p3 q2 q4 ⟨rfl, r1, r2, r3, q3, rfl, fun z => by cases z⟩ hn1⟩
      | false =>
        have q4 : if (rdA c.1).2.2.2.1 = true then _ else if 120 < lst (szT 7 (rdA c.1).1) then r2' = some (.int (-5)) ∧ MoW E h2 (c.1, c.2.1, c.2.2.1) B' w (dR false D) else r2' = some (.int (nI (rdA c.1).2.2.1)) ∧ MoW E h2 (c.1, c.2.1, c.2.2.1) B' (wrZ (wrR c.1 28 (wrI w))) (dF false (dR true D)) ∧ B'.2.2.2.2.2.2.2.2 = lst (szT 7 (rdA c.1).1) := q4
        rw [if_neg (by rw [he]; decide)] at q4
        have hle : nI (szT 7 (rdA c.1).1) ≤ 120 ↔ szT 7 (rdA c.1).1 ≤ 120 := nI_leI (b := 120) hlt (by decide)
        by_cases h120 : szT 7 (rdA c.1).1 ≤ 120
        · rw [if_neg (by rw [lst_min]; omega)] at q4
          obtain ⟨q1, q4, q5⟩ := q4
          have hcp : cpC c = (c.1, c.2.1, c.2.2.1, cpM c.2.2.2.1 c.1, filled 14 (-2) c.2.2.2.2.1, c.2.2.2.2.2.1, true, szT 7 (rdA c.1).1) := by
            rw [cpC, if_pos ⟨hf, he, hle.mpr h120⟩]
          rw [hcp] at p3
          refine ⟨?_, md_b q2, jt_mk p3 q2 q4 ⟨rfl, r1, r2, r3, q3, rfl, fun _ => ⟨(cp_ok r1 hf he h120 c.2.2.2.1.1 w).2, hf, h120, rfl, ?_, fnd_fl _ _⟩⟩ hn1⟩
          · rw [q1, cpA, hf, he]
            show _ = some (Value.int (if nI (szT 7 (rdA c.1).1) ≤ 120 then nI (rdA c.1).2.2.1 else -5))
            rw [if_pos (hle.mpr h120)]
          · show B'.2.2.2.2.2.2.2.2 = szT 7 (rdA c.1).1
            rw [q5, lst_min]; omega
        · rw [if_pos (by rw [lst_min]; omega)] at q4
          obtain ⟨q1, q4⟩ := q4
          have hcp : cpC c = (c.1, c.2.1, c.2.2.1, c.2.2.2.1, c.2.2.2.2.1, c.2.2.2.2.2.1, false, c.2.2.2.2.2.2.2) := by
            rw [cpC, if_neg (fun z => h120 (hle.mp z.2.2))]
          rw [hcp] at p3
          refine ⟨?_, md_b q2, jt_mk p3 q2 q4 ⟨rfl, r1, r2, r3, q3, rfl, fun z => by cases z⟩ hn1⟩
          rw [q1, cpA, hf, he]
          show _ = some (Value.int (if nI (szT 7 (rdA c.1).1) ≤ 120 then nI (rdA c.1).2.2.1 else -5))
          rw [if_neg (fun z => h120 (hle.mp z))]
theorem fil_lo {tr : Nat → Bool} : ∀ j, j < 4030 → filB 4030 tr j = false := fun j hj => by rw [filB, if_pos hj]
theorem j_find (hE : xOK E) (hJ : Jt E h) (x : Int32) : wpc E 4 m_PS_find [.ref (xb E), .int x] h (jP E 5 m_MO_find [.ref (xb E + 21), .int x] h) := by
  obtain ⟨c, A, B, w, D, hc, hm, hr, hn⟩ := hJ
  obtain ⟨rfl, r1, r2, r3, r4, r5, r6⟩ := id hr
  have hw := hc.2.2.2.2.2.2.2
  refine (c_PS_find hE hc x).mono (fun r h1 hp => ?_)
  by_cases hk : (¬ x < 0 ∧ ¬ nI c.2.1.length < x) ∧ c.2.2.2.2.2.2.1 = true
  · rw [if_pos hk] at hp
    obtain ⟨i, rfl, hi, p1, p2, p3⟩ := hp
    have hm1 := fr_m hm p2
    obtain ⟨k1, k2, k3, k4, k5, k6⟩ := r6 hk.2
    obtain ⟨R, hR⟩ := k1.run r2 (toB (-1))
    have hR : runs c.1 c.2.1 c.2.2.2.1.1 c.2.2.2.1.2.1 w.1 (toB (-1)) R := hR
    refine ⟨_, p1, fr_b p2, hm1.o, (c_MO_find (sm := smR c.2.1.length R) hE hm1 (fun _ => ⟨k1.ok, hR.sm k1 r3⟩) (nI i)).mono (fun r2' h2 hp2 => ?_)⟩
    rw [if_pos ⟨hk.1, by rw [r5]; exact hk.2⟩] at hp2
    obtain ⟨i', hi', hi'2, q1, q2, tr, S, M, K, q3, q4⟩ := hp2
    have hii : i = i' := (nI_eq (by omega) (by have hi'2 : i' ≤ c.2.1.length := hi'2; omega)).mp hi'
    subst hii
    have hskB : (fdC c i).2.2.2.2.1 = skB c.2.2.2.1.1 (aimG c.2.2.2.1.1 c.2.1 c.2.2.2.1.2.2.1 c.2.2.2.1.2.2.2.1 (-1)) c.2.2.2.1.2.1 c.2.1.length i c.2.2.2.2.1 := rfl
    have key : r2' = some (.int ((fdC c i).2.2.2.2.1 0)) ∧ fnd (fdC c i).2.2.2.2.1 K (srR (smR c.2.1.length R) (c.2.1.length + 1 - i) i).isSome := by
      rw [hskB, skB]
      rcases sk_all k1 hR r3 c.2.2.2.1.2.2.1 c.2.2.2.1.2.2.2.1 i with ⟨z1, z2⟩ | ⟨b, e, ms, z1, z2, z3, z4, z5⟩
      · rw [z1]
        rw [show srR (smR c.2.1.length R) ((c.1, c.2.1, c.2.2.1).2.1.length + 1 - i) i = none from z2] at q1
        rw [z2]
        exact ⟨q1, fnd_fl _ _⟩
      · rw [z3]
        have z5' : srR (smR c.2.1.length R) ((c.1, c.2.1, c.2.2.1).2.1.length + 1 - i) i = some (b, e, srM b (e, wM ms (fun _ => 0))) := z5
        rw [z5'] at q1
        rw [z5]
        have hQ := (hR b z2).2.2 e ms z4
        obtain ⟨w1, w2⟩ := hR.walk k1 hw r3 (hK_any r3) c.2.2.2.1.2.2.1 c.2.2.2.1.2.2.2.1 z2 z4 (filled 14 (-2) c.2.2.2.2.1)
        show r2' = some (.int (wkB c.2.2.2.1.1 (aimG c.2.2.2.1.1 c.2.1 c.2.2.2.1.2.2.1 c.2.2.2.1.2.2.2.1 (-1)) c.2.2.2.1.2.1 b (filled 14 (-2) c.2.2.2.2.1) 0)) ∧ fnd (wkB c.2.2.2.1.1 (aimG c.2.2.2.1.1 c.2.1 c.2.2.2.1.2.2.1 c.2.2.2.1.2.2.2.1 (-1)) c.2.2.2.1.2.1 b (filled 14 (-2) c.2.2.2.2.1)) K true
        rw [w2]
        refine ⟨?_, Or.inr ⟨rfl, _, q3 _ z5', fun k hk => mk_f hQ _ hk, fun g hg => ⟨?_, mk_31 hQ r3 _, mk_31 hQ r3 _⟩⟩⟩
        · rw [q1, if_neg (by simp)]
          show some (Value.int (nI b)) = some (Value.int (upd (upd _ 0 (nI b)) 1 (nI e) 0))
          rw [pk_un (by decide), pk_us]
        · rcases mk_g hQ g with ⟨y1, y2⟩ | ⟨i, j, y1, y2, -⟩
          · exact ⟨fun _ => y1, fun _ => y2⟩
          · exact ⟨fun y => absurd (y2.symm.trans y) (by omega), fun y => absurd (y1.symm.trans y) (by omega)⟩
    refine ⟨key.1, md_b q2, jt_mk p3 q2 q4 ⟨rfl, r1, r2, r3, r4, r5, fun _ => ⟨k1, k2, k3, k4, k5, key.2⟩⟩ (by rw [p2.1]; exact hn)⟩
  · rw [if_neg hk] at hp
    obtain ⟨p1, rfl⟩ := hp
    obtain ⟨sm, hsm⟩ : ∃ sm : SM, D.2.2.2.2.1 = true → cdOK c.1 w.1 ∧ smOK c.1 c.2.1 w.1 sm := by
      by_cases z : D.2.2.2.2.1 = true
      · rw [r5] at z
        obtain ⟨k1, -⟩ := r6 z
        obtain ⟨R, hR⟩ := k1.run r2 (toB (-1))
        have hR : runs c.1 c.2.1 c.2.2.2.1.1 c.2.2.2.1.2.1 w.1 (toB (-1)) R := hR
        exact ⟨smR c.2.1.length R, fun _ => ⟨k1.ok, hR.sm k1 r3⟩⟩
      · exact ⟨fun _ => none, fun y => absurd y z⟩
    refine ⟨_, p1, bnd.rf, hm.o, (c_MO_find hE hm hsm x).mono (fun r2' h2 hp2 => ?_)⟩
    rw [if_neg (fun z => hk ⟨z.1, by rw [← r5]; exact z.2⟩)] at hp2
    obtain ⟨q1, rfl⟩ := hp2
    exact ⟨q1, bnd.rf, jt_id hc hm hr hn⟩
theorem j_whole (hE : xOK E) (hJ : Jt E h) (x y : Int32) : wpc E 4 m_PS_whole [.ref (xb E), .int x, .int y] h (jP E 4 m_MO_whole [.ref (xb E + 21), .int x, .int y] h) := by
  obtain ⟨c, A, B, w, D, hc, hm, hr, hn⟩ := hJ
  obtain ⟨rfl, r1, r2, r3, r4, r5, r6⟩ := id hr
  refine (c_PS_whole hE hc x y).mono (fun r h1 hp => ?_)
  have hok : D.2.2.2.2.1 = true → cdOK c.1 w.1 := fun z => (r6 (by rw [← r5]; exact z)).1.ok
  have htop : ∀ i j : Nat, i ≤ c.2.1.length → ∀ z, (wyR c.1 c.2.1 w.1 (nI j) i (filB 4030 D.1)).1 = some z → z < 1000 := fun i j hi z hz => by
    have := wyR_le hi hz; omega
  by_cases hk : (¬ x < 0 ∧ ¬ y < x ∧ ¬ nI c.2.1.length < y) ∧ c.2.2.2.2.2.2.1 = true
  · rw [if_pos hk] at hp
    obtain ⟨p1, p2, p3⟩ := hp
    have hm1 := fr_m hm p2
    obtain ⟨k1, k2, k3, k4, k5, k6⟩ := r6 hk.2
    refine ⟨_, p1, fr_b p2, hm1.o, (c_MO_whole hE hm1 hok x y htop).mono (fun r2' h2 hp2 => ?_)⟩
    rw [if_pos ⟨hk.1, by rw [r5]; exact hk.2⟩] at hp2
    obtain ⟨i, j, rfl, rfl, hij, hj, q1, q2, tr, S, M, q3⟩ := hp2
    have hj : j ≤ c.2.1.length := hj
    obtain ⟨R, hR⟩ := k1.run r2 (toB (nI j))
    have hR : runs c.1 c.2.1 c.2.2.2.1.1 c.2.2.2.1.2.1 w.1 (toB (nI j)) R := hR
    have hl := hR.lof k1 r3 (hK_at r3 hj) c.2.2.2.1.2.2.1 c.2.2.2.1.2.2.2.1 (show i ≤ c.2.1.length by omega)
    obtain ⟨m, hm'⟩ := (hR i (by omega)).2.1
    have hy := wyR_ev (to := nI j) k1.ok r3 (show i ≤ c.2.1.length by omega) (fil_lo (tr := D.1)) hm'
    refine ⟨?_, md_b q2, jt_mk p3 q2 q3 ⟨rfl, r1, r2, r3, r4, r5, fun _ => ⟨k1, k2, k3, k4, k5, k6⟩⟩ (by rw [p2.1]; exact hn)⟩
    rw [q1]
    have hl : lof (aimM c.2.2.2.1 c.2.1 ((1 : Int32) <<< (nI j &&& 31))).2.2.2.1 c.2.2.2.1.2.1 (nI i) = (R i).isSome := hl
    rw [hl]
    cases hRi : R i with
    | none => rw [show (wyR (c.1, c.2.1, c.2.2.1).1 (c.1, c.2.1, c.2.2.1).2.1 w.1 (nI j) i (filB 4030 D.1)).1 = none from hy.2 hRi]; rfl
    | some v => rw [show wyR (c.1, c.2.1, c.2.2.1).1 (c.1, c.2.1, c.2.2.1).2.1 w.1 (nI j) i (filB 4030 D.1) = _ from hy.1 v hRi]; rfl
  · rw [if_neg hk] at hp
    obtain ⟨p1, rfl⟩ := hp
    refine ⟨_, p1, bnd.rf, hm.o, (c_MO_whole hE hm hok x y htop).mono (fun r2' h2 hp2 => ?_)⟩
    rw [if_neg (fun z => hk ⟨z.1, by rw [← r5]; exact z.2⟩)] at hp2
    obtain ⟨q1, rfl⟩ := hp2
    exact ⟨q1, bnd.rf, jt_id hc hm hr hn⟩
theorem j_matches (hE : xOK E) (hJ : Jt E h) : wpc E 4 m_PS_matches [.ref (xb E)] h (jP E 5 m_MO_matches [.ref (xb E + 21)] h) := by
  obtain ⟨c, A, B, w, D, hc, hm, hr, hn⟩ := hJ
  obtain ⟨rfl, r1, r2, r3, r4, r5, r6⟩ := id hr
  have hw := hc.2.2.2.2.2.2.2
  refine (c_PS_matches hE hc).mono (fun r h1 hp => ?_)
  by_cases hk : c.2.2.2.2.2.2.1 = true
  · rw [if_pos hk] at hp
    obtain ⟨p1, p2, p3⟩ := hp
    have hm1 := fr_m hm p2
    obtain ⟨k1, k2, k3, k4, k5, k6⟩ := r6 hk
    obtain ⟨R, hR⟩ := k1.run r2 (toB (-1))
    have hR : runs c.1 c.2.1 c.2.2.2.1.1 c.2.2.2.1.2.1 w.1 (toB (-1)) R := hR
    refine ⟨_, p1, fr_b p2, hm1.o, (c_MO_matches (sm := smR c.2.1.length R) hE hm1 (fun _ => ⟨k1.ok, hR.sm k1 r3⟩)).mono (fun r2' h2 hp2 => ?_)⟩
    rw [if_pos (by rw [r5]; exact hk)] at hp2
    obtain ⟨q1, q2, tr, S, M, q3⟩ := hp2
    refine ⟨?_, md_b q2, jt_mk p3 q2 q3 ⟨rfl, r1, r2, r3, r4, r5, fun _ => ⟨k1, k2, k3, k4, k5, k6⟩⟩ (by rw [p2.1]; exact hn)⟩
    rw [q1]
    have := mt_mm k1 hw hR r3 c.2.2.2.1.2.2.1 c.2.2.2.1.2.2.2.1 31 0 0 c.2.2.2.2.2.1
    exact congrArg (fun v => some (Value.int (nI v))) this.symm
  · rw [if_neg hk] at hp
    obtain ⟨p1, rfl⟩ := hp
    refine ⟨_, p1, bnd.rf, hm.o, (c_MO_matches (sm := fun _ => none) hE hm (fun z => absurd (by rw [← r5]; exact z) hk)).mono (fun r2' h2 hp2 => ?_)⟩
    rw [if_neg (fun z => hk (by rw [← r5]; exact z))] at hp2
    obtain ⟨q1, rfl⟩ := hp2
    exact ⟨q1, bnd.rf, jt_id hc hm hr hn⟩
theorem j_replace (hE : xOK E) (hJ : Jt E h) (x : Int32) : wpc E 4 m_PS_replace [.ref (xb E), .int x] h (jP E 5 m_MO_replace [.ref (xb E + 21), .int x] h) := by
  obtain ⟨c, A, B, w, D, hc, hm, hr, hn⟩ := hJ
  obtain ⟨rfl, r1, r2, r3, r4, r5, r6⟩ := id hr
  have hw := hc.2.2.2.2.2.2.2
  by_cases hk0 : c.2.2.2.2.2.2.1 = true
  · obtain ⟨k1, k2, k3, k4, k5, k6⟩ := r6 hk0
    obtain ⟨R, hR⟩ := k1.run r2 (toB (-1))
    have hR : runs c.1 c.2.1 c.2.2.2.1.1 c.2.2.2.1.2.1 w.1 (toB (-1)) R := hR
    refine (c_PS_replace hE hc x (fun _ => gd_M k1 hw hR r3 c.2.2.2.1.2.2.1 c.2.2.2.1.2.2.2.1)).mono (fun r h1 hp => ?_)
    have hok : D.2.2.2.2.1 = true → cdOK c.1 w.1 ∧ smOK c.1 c.2.1 w.1 (smR c.2.1.length R) ∧ gdS (smR c.2.1.length R) := fun _ => ⟨k1.ok, hR.sm k1 r3, hR.gdS⟩
    by_cases hk : isGr x = true ∧ c.2.2.2.2.2.2.1 = true
    · rw [if_pos hk] at hp
      obtain ⟨g, hg, rfl, p1, p2, p3⟩ := hp
      have hm1 := fr_m hm p2
      refine ⟨_, p1, fr_b p2, hm1.o, (c_MO_replace hE hm1 hok (nI g)).mono (fun r2' h2 hp2 => ?_)⟩
      rw [if_pos ⟨hk.1, by rw [r5]; exact hk.2⟩] at hp2
      obtain ⟨g', hg', hgg, q1, q2, tr, S, M, q3⟩ := hp2
      have hgg : g = g' := (nI_eq (by omega) (by omega)).mp hgg
      subst hgg
      obtain ⟨e1, e2⟩ := rp_rr k1 hw hR r3 c.2.2.2.1.2.2.1 c.2.2.2.1.2.2.2.1 hg 31 0 0 c.2.2.2.2.2.1 []
      have e1 : (rpR c.2.2.2.1.1 (aimM c.2.2.2.1 c.2.1 (-1)).2.2.2.1 c.2.2.2.1.2.1 c.2.1 g 31 (0, 0, c.2.2.2.2.2.1, [])).1 = (rrR (smR c.2.1.length R) c.2.1 g 31 0 0 []).1 := e1
      have e2 : (rpR c.2.2.2.1.1 (aimM c.2.2.2.1 c.2.1 (-1)).2.2.2.1 c.2.2.2.1.2.1 c.2.1 g 31 (0, 0, c.2.2.2.2.2.1, [])).2.2 = (rrR (smR c.2.1.length R) c.2.1 g 31 0 0 []).2 := e2
      refine ⟨?_, md_b q2, jt_mk p3 q2 q3 ⟨?_, r1, r2, r3, r4, r5, fun _ => ⟨k1, k2, k3, k4, k5, k6⟩⟩ (by rw [p2.1]; exact hn)⟩
      · rw [q1, e1, e2]
      · show (c.1, c.2.1, _) = (c.1, c.2.1, _)
        rw [e1, e2]
    · rw [if_neg hk] at hp
      obtain ⟨p1, rfl⟩ := hp
      refine ⟨_, p1, bnd.rf, hm.o, (c_MO_replace hE hm hok x).mono (fun r2' h2 hp2 => ?_)⟩
      rw [if_neg (fun z => hk ⟨z.1, by rw [← r5]; exact z.2⟩)] at hp2
      obtain ⟨q1, rfl⟩ := hp2
      exact ⟨q1, bnd.rf, jt_id hc hm hr hn⟩
  · refine (c_PS_replace hE hc x (fun z => absurd z hk0)).mono (fun r h1 hp => ?_)
    rw [if_neg (fun z => hk0 z.2)] at hp
    obtain ⟨p1, rfl⟩ := hp
    refine ⟨_, p1, bnd.rf, hm.o, (c_MO_replace (sm := fun _ => none) hE hm (fun z => absurd (by rw [← r5]; exact z) hk0) x).mono (fun r2' h2 hp2 => ?_)⟩
    rw [if_neg (fun z => hk0 (by rw [← r5]; exact z.2))] at hp2
    obtain ⟨q1, rfl⟩ := hp2
    exact ⟨q1, bnd.rf, jt_id hc hm hr hn⟩
end JN
