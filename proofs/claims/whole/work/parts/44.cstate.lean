/-! THE STATE OF THE CLASS; ITS SMALL METHODS -/
abbrev Gg : Type := Nat × (Nat → Nat)
abbrev Gt : Type := Nat × (Nat → Nat) × (Nat → Nat → Nat) × (Nat → Nat → List Nat)
abbrev Gi : Type := Nat × Nat × (Nat → Nat) × Nat
abbrev Gh : Type := (Nat → Nat) × (Nat → Nat) × (Nat → Nat → Int32)
/-- a number as a place among n -/
def ixo (p : Int32) (n : Nat) : Option Nat := if 0 ≤ p.toInt ∧ p.toInt < n then some p.toInt.toNat else none
theorem ixo_nI {j n : Nat} (h : j < n) (hn : n < 2 ^ 31) : ixo (nI j) n = some j := by
  unfold ixo
  rw [nI_toInt (by omega), if_pos (by omega)]
  rfl
theorem ixo_out {j n : Nat} (h : n ≤ j) (hj : j < 2 ^ 31) : ixo (nI j) n = none := by
  unfold ixo
  rw [nI_toInt hj, if_neg (by omega)]
theorem ixc (p : Int32) {n : Nat} (hn : n < 2 ^ 31) : (ixo p n = none ∧ p < 0 ∧ ∀ i, i < n → p ≠ nI i) ∨ (ixo p n = none ∧ (¬ p < 0 ∧ nI n ≤ p ∧ ¬ p < nI n) ∧ ∀ i, i < n → p ≠ nI i) ∨ ∃ j, j < n ∧ p = nI j ∧ ixo p n = some j := by
  by_cases h0 : p < 0
  · refine Or.inl ⟨?_, h0, fun i hi e => ?_⟩
    · unfold ixo
      have h1 := Int32.lt_iff_toInt_lt.mp h0
      rw [show (0 : Int32).toInt = 0 from rfl] at h1
      rw [if_neg (by omega)]
    · rw [e] at h0
      exact nI_pos (by omega) h0
  · rcases pk_ix p hn with h1 | h1 | ⟨j, hj, e⟩
    · exact absurd h1 h0
    · have h2 := Int32.le_iff_toInt_le.mp h1
      rw [nI_toInt hn] at h2
      refine Or.inr (Or.inl ⟨?_, ⟨h0, h1, Int32.not_lt.mpr h1⟩, fun i hi e => ?_⟩)
      · unfold ixo
        rw [if_neg (by omega)]
      · rw [e, nI_toInt (by omega)] at h2
        omega
    · exact Or.inr (Or.inr ⟨j, hj, e, by rw [e]; exact ixo_nI hj hn⟩)
theorem rnd_end {n start : Nat} {c : Nat → Nat} {T : Nat → List Nat} : ∀ (f : Nat) (path : List Nat) (p : Nat), (rnd n c T start f path p).2 < 4
  | 0, path, p => by show 2 < 4; decide
  | f + 1, path, p => by
    unfold rnd
    split
    · show 3 < 4; decide
    · split
      · exact rnd_end f _ _
      · show (if _ then (if _ then 0 else 1) else 2) < 4
        repeat' split
        all_goals decide
theorem rn_end {n s : Nat} {c : Nat → Nat} {T : Nat → List Nat} : (rn n c T s).2 < 4 := rnd_end n [] s
def TSk (k : Nat) : Nat := 18 + 3 * k
theorem TS_k {k : Nat} (h : k < 6) : TS (18 + 3 * k) := by
  match k, h with
  | 0, _ => exact ⟨rfl, rfl, rfl⟩
  | 1, _ => exact ⟨rfl, rfl, rfl⟩
  | 2, _ => exact ⟨rfl, rfl, rfl⟩
  | 3, _ => exact ⟨rfl, rfl, rfl⟩
  | 4, _ => exact ⟨rfl, rfl, rfl⟩
  | 5, _ => exact ⟨rfl, rfl, rfl⟩
theorem rv6 {k : Nat} (h : k < 6) : rval [21, 24, 27, 30, 33, 36] (nI k).toNatClampNeg = .ref (18 + 3 * k) := by
  rw [nI_clamp (by omega)]
  match k, h with
  | 0, _ => rfl
  | 1, _ => rfl
  | 2, _ => rfl
  | 3, _ => rfl
  | 4, _ => rfl
  | 5, _ => rfl
theorem rv4 {k : Nat} (h : k < 4) : rval [39, 41, 43, 45] (nI k).toNatClampNeg = .ref (36 + 2 * k) := by
  rw [nI_clamp (by omega)]
  match k, h with
  | 0, _ => rfl
  | 1, _ => rfl
  | 2, _ => rfl
  | 3, _ => rfl
def SS (k : Nat) : Prop := SH[36 + 2 * k]? = some (.inl (4, [36 + 2 * k + 4, 0, 0])) ∧ SH[36 + 2 * k + 1]? = some (.inr (.inl (0, 40)))
theorem SS_k {k : Nat} (h : k < 4) : SS k := by
  match k, h with
  | 0, _ => exact ⟨rfl, rfl⟩
  | 1, _ => exact ⟨rfl, rfl⟩
  | 2, _ => exact ⟨rfl, rfl⟩
  | 3, _ => exact ⟨rfl, rfl⟩
def so1 (so : Nat) : Int32 := if so = 0 then -1 else nI (so - 1)
/-- a sheet of the class -/
def CS (m : Mm) (k so sz : Nat) (it : Nat → Int32) : Prop := m.1 (36 + 2 * k) 1 = so1 so ∧ so ≤ 3 ∧ m.1 (36 + 2 * k) 2 = nI sz ∧ sz ≤ 40 ∧ ∀ j, j < sz → m.1 (36 + 2 * k + 1) j = it j
def CI (m : Mm) (g : Gg) (u : Nat) (t : Gt) (p : Gg) (i : Gi) (h : Gh) : Prop :=
  RG m 1 g.1 g.2 ∧ (m.1 0 8 = nI t.1 ∧ 0 < t.1 ∧ t.1 ≤ 6 ∧ ∀ k, k < t.1 → TX m (18 + 3 * k) (t.2.2.2 k)) ∧ (m.1 0 9 = nI u ∧ u < t.1) ∧ RB m p.1 p.2 ∧ (m.1 0 10 = nI i.1 ∧ i.1 ≤ 1 ∧ (i.1 = 1 → RG m 5 i.2.1 i.2.2.1 ∧ m.1 0 11 = nI i.2.2.2 ∧ i.2.2.2 < t.1)) ∧ ∀ k, k < 4 → CS m k (h.1 k) (h.2.1 k) (h.2.2 k)
def SCR : List Nat := [3, 4, 7, 8, 9, 10, 11, 12, 15]
/-- only what is written anew at every call has changed -/
def FrS (m m' : Mm) : Prop := m'.2 = m.2 ∧ ∀ a, a ∉ SCR → m'.1 a = m.1 a
theorem FrS.of {L : List Nat} {m m' : Mm} (h : Fr L m m') (hs : ∀ a, a ∈ L → a ∈ SCR) : FrS m m' := ⟨h.1, fun a ha => h.2 a (fun z => ha (hs a z))⟩
theorem FrS.rf {m : Mm} : FrS m m := ⟨rfl, fun _ _ => rfl⟩
theorem FrS.tr {m m1 m2 : Mm} (h1 : FrS m m1) (h2 : FrS m1 m2) : FrS m m2 := ⟨h2.1.trans h1.1, fun a ha => (h2.2 a ha).trans (h1.2 a ha)⟩
/-- nothing of the model has changed -/
def FrC (m m' : Mm) : Prop := ∀ a, 44 ≤ a → m'.1 a = m.1 a
theorem FrS.c {m m' : Mm} (h : FrS m m') : FrC m m' := fun a ha => h.2 a (by unfold SCR; simp; omega)
theorem FrC.of {L : List Nat} {m m' : Mm} (h : Fr L m m') (hs : ∀ a, a ∈ L → a < 44) : FrC m m' := fun a ha => h.2 a (fun z => by have := hs a z; omega)
theorem FrC.tr {m m1 m2 : Mm} (h1 : FrC m m1) (h2 : FrC m1 m2) : FrC m m2 := fun a ha => (h2 a ha).trans (h1 a ha)
theorem FrC.rf {m : Mm} : FrC m m := fun _ _ => rfl
section CST
variable {g : Gg} {u : Nat} {t : Gt} {p : Gg} {i : Gi} {h : Gh} {m m' : Mm} {d : Nat} {Q : Qr}
theorem CI.fr (hc : CI m g u t p i h) (hf : FrS m m') : CI m' g u t p i h := by
  have e : ∀ a, a ∉ SCR → m'.1 a = m.1 a := hf.2
  have eT : ∀ k, k < 6 → m'.1 (18 + 3 * k + 1) = m.1 (18 + 3 * k + 1) ∧ m'.1 (18 + 3 * k + 2) = m.1 (18 + 3 * k + 2) := fun k hk => ⟨e _ (by unfold SCR; simp; omega), e _ (by unfold SCR; simp; omega)⟩
  have eS : ∀ k, k < 4 → m'.1 (36 + 2 * k) = m.1 (36 + 2 * k) ∧ m'.1 (36 + 2 * k + 1) = m.1 (36 + 2 * k + 1) := fun k hk => ⟨e _ (by unfold SCR; simp; omega), e _ (by unfold SCR; simp; omega)⟩
  obtain ⟨c1, c2, c3, c4, c5, c6⟩ := hc
  unfold CI RG RB
  rw [e 0 (by decide), e 1 (by decide), e 2 (by decide), e 13 (by decide), e 14 (by decide), e 5 (by decide), e 6 (by decide)]
  refine ⟨c1, ⟨c2.1, c2.2.1, c2.2.2.1, fun k hk => ?_⟩, c3, c4, c5, fun k hk => ?_⟩
  · have := c2.2.2.2 k hk
    unfold TX at this ⊢
    rw [(eT k (by omega)).1, (eT k (by omega)).2]
    exact this
  · have := c6 k hk
    unfold CS at this ⊢
    rw [(eS k hk).1, (eS k hk).2]
    exact this
theorem s_isCard {x y : Int32} (h1 : Q (some (.int (match ixo x 6, ixo y 10 with
    | some _, some _ => 1
    | _, _ => 0))) m) : CT (d + 1) n_X6_isCard [.int x, .int y] m Q := by
  refine opn cd_X6_isCard rfl (fun C P hC hP => ?_)
  rcases ixc x (n := 6) (by decide) with ⟨e, c, -⟩ | ⟨e, ⟨c1, c2, c3⟩, -⟩ | ⟨j, hj, e1, e⟩
  · rw [e] at h1
    conv => whnf
    repeat (first | (refine br_f ?_ ?_; (focus (first | with_reducible assumption | (intro zz; apply zz; with_reducible assumption) | (simp (disch := omega) only [m1lt, nIm1, m1nI, not_true_eq_false, not_false_eq_true, jl, nI_ltI, nI_leI, nI_eq, nI_toInt]; omega) | (simp (disch := omega) only [m1lt, nIm1, m1nI, not_true_eq_false, not_false_eq_true, jl, nI_ltI, nI_leI, nI_eq, nI_toInt]; done))); conv => whnf) | (refine br_t ?_ ?_; (focus (first | with_reducible assumption | (intro zz; apply zz; with_reducible assumption) | (simp (disch := omega) only [m1lt, nIm1, m1nI, not_true_eq_false, not_false_eq_true, jl, nI_ltI, nI_leI, nI_eq, nI_toInt]; omega) | (simp (disch := omega) only [m1lt, nIm1, m1nI, not_true_eq_false, not_false_eq_true, jl, nI_ltI, nI_leI, nI_eq, nI_toInt]; done))); conv => whnf) | (with_reducible refine And.intro nz1 ?_; conv => whnf) | (with_reducible refine And.intro nz0 ?_; conv => whnf) | (refine And.intro ?_ ?_; (focus (first | with_reducible assumption | (intro zz; apply zz; with_reducible assumption) | (simp (disch := omega) only [m1lt, nIm1, m1nI, not_true_eq_false, not_false_eq_true, jl, nI_ltI, nI_leI, nI_eq, nI_toInt]; omega) | (simp (disch := omega) only [m1lt, nIm1, m1nI, not_true_eq_false, not_false_eq_true, jl, nI_ltI, nI_leI, nI_eq, nI_toInt]; done))); conv => whnf) | (refine And.intro ?_ ?_; (focus (first | with_reducible assumption | ((with_reducible refine vp_in_nI ?_ ?_) <;> omega) | ((with_reducible refine vp_0 ?_); omega) | ((with_reducible refine vp_s1 ?_ ?_) <;> omega) | ((with_reducible refine vp_a1 ?_ ?_) <;> omega) | ((with_reducible refine vp_m1 ?_ ?_) <;> omega) | ((with_reducible refine vp_m2 ?_ ?_) <;> omega))); conv => whnf))
    exact h1
  · rw [e] at h1
    conv => whnf
    repeat (first | (refine br_f ?_ ?_; (focus (first | with_reducible assumption | (intro zz; apply zz; with_reducible assumption) | (simp (disch := omega) only [c2, m1lt, nIm1, m1nI, not_true_eq_false, not_false_eq_true, jl, nI_ltI, nI_leI, nI_eq, nI_toInt]; omega) | (simp (disch := omega) only [c2, m1lt, nIm1, m1nI, not_true_eq_false, not_false_eq_true, jl, nI_ltI, nI_leI, nI_eq, nI_toInt]; done))); conv => whnf) | (refine br_t ?_ ?_; (focus (first | with_reducible assumption | (intro zz; apply zz; with_reducible assumption) | (simp (disch := omega) only [c2, m1lt, nIm1, m1nI, not_true_eq_false, not_false_eq_true, jl, nI_ltI, nI_leI, nI_eq, nI_toInt]; omega) | (simp (disch := omega) only [c2, m1lt, nIm1, m1nI, not_true_eq_false, not_false_eq_true, jl, nI_ltI, nI_leI, nI_eq, nI_toInt]; done))); conv => whnf) | (with_reducible refine And.intro nz1 ?_; conv => whnf) | (with_reducible refine And.intro nz0 ?_; conv => whnf) | (refine And.intro ?_ ?_; (focus (first | with_reducible assumption | (intro zz; apply zz; with_reducible assumption) | (simp (disch := omega) only [c2, m1lt, nIm1, m1nI, not_true_eq_false, not_false_eq_true, jl, nI_ltI, nI_leI, nI_eq, nI_toInt]; omega) | (simp (disch := omega) only [c2, m1lt, nIm1, m1nI, not_true_eq_false, not_false_eq_true, jl, nI_ltI, nI_leI, nI_eq, nI_toInt]; done))); conv => whnf) | (refine And.intro ?_ ?_; (focus (first | with_reducible assumption | ((with_reducible refine vp_in_nI ?_ ?_) <;> omega) | ((with_reducible refine vp_0 ?_); omega) | ((with_reducible refine vp_s1 ?_ ?_) <;> omega) | ((with_reducible refine vp_a1 ?_ ?_) <;> omega) | ((with_reducible refine vp_m1 ?_ ?_) <;> omega) | ((with_reducible refine vp_m2 ?_ ?_) <;> omega))); conv => whnf))
    exact h1
  · subst e1
    rw [e] at h1
    rcases ixc y (n := 10) (by decide) with ⟨e2, c, -⟩ | ⟨e2, ⟨c1, c2, c3⟩, -⟩ | ⟨k, hk, e1, e2⟩
    · rw [e2] at h1
      conv => whnf
      repeat (first | (refine br_f ?_ ?_; (focus (first | with_reducible assumption | (intro zz; apply zz; with_reducible assumption) | (simp (disch := omega) only [m1lt, nIm1, m1nI, not_true_eq_false, not_false_eq_true, jl, nI_ltI, nI_leI, nI_eq, nI_toInt]; omega) | (simp (disch := omega) only [m1lt, nIm1, m1nI, not_true_eq_false, not_false_eq_true, jl, nI_ltI, nI_leI, nI_eq, nI_toInt]; done))); conv => whnf) | (refine br_t ?_ ?_; (focus (first | with_reducible assumption | (intro zz; apply zz; with_reducible assumption) | (simp (disch := omega) only [m1lt, nIm1, m1nI, not_true_eq_false, not_false_eq_true, jl, nI_ltI, nI_leI, nI_eq, nI_toInt]; omega) | (simp (disch := omega) only [m1lt, nIm1, m1nI, not_true_eq_false, not_false_eq_true, jl, nI_ltI, nI_leI, nI_eq, nI_toInt]; done))); conv => whnf) | (with_reducible refine And.intro nz1 ?_; conv => whnf) | (with_reducible refine And.intro nz0 ?_; conv => whnf) | (refine And.intro ?_ ?_; (focus (first | with_reducible assumption | (intro zz; apply zz; with_reducible assumption) | (simp (disch := omega) only [m1lt, nIm1, m1nI, not_true_eq_false, not_false_eq_true, jl, nI_ltI, nI_leI, nI_eq, nI_toInt]; omega) | (simp (disch := omega) only [m1lt, nIm1, m1nI, not_true_eq_false, not_false_eq_true, jl, nI_ltI, nI_leI, nI_eq, nI_toInt]; done))); conv => whnf) | (refine And.intro ?_ ?_; (focus (first | with_reducible assumption | ((with_reducible refine vp_in_nI ?_ ?_) <;> omega) | ((with_reducible refine vp_0 ?_); omega) | ((with_reducible refine vp_s1 ?_ ?_) <;> omega) | ((with_reducible refine vp_a1 ?_ ?_) <;> omega) | ((with_reducible refine vp_m1 ?_ ?_) <;> omega) | ((with_reducible refine vp_m2 ?_ ?_) <;> omega))); conv => whnf))
      exact h1
    · rw [e2] at h1
      conv => whnf
      repeat (first | (refine br_f ?_ ?_; (focus (first | with_reducible assumption | (intro zz; apply zz; with_reducible assumption) | (simp (disch := omega) only [c2, m1lt, nIm1, m1nI, not_true_eq_false, not_false_eq_true, jl, nI_ltI, nI_leI, nI_eq, nI_toInt]; omega) | (simp (disch := omega) only [c2, m1lt, nIm1, m1nI, not_true_eq_false, not_false_eq_true, jl, nI_ltI, nI_leI, nI_eq, nI_toInt]; done))); conv => whnf) | (refine br_t ?_ ?_; (focus (first | with_reducible assumption | (intro zz; apply zz; with_reducible assumption) | (simp (disch := omega) only [c2, m1lt, nIm1, m1nI, not_true_eq_false, not_false_eq_true, jl, nI_ltI, nI_leI, nI_eq, nI_toInt]; omega) | (simp (disch := omega) only [c2, m1lt, nIm1, m1nI, not_true_eq_false, not_false_eq_true, jl, nI_ltI, nI_leI, nI_eq, nI_toInt]; done))); conv => whnf) | (with_reducible refine And.intro nz1 ?_; conv => whnf) | (with_reducible refine And.intro nz0 ?_; conv => whnf) | (refine And.intro ?_ ?_; (focus (first | with_reducible assumption | (intro zz; apply zz; with_reducible assumption) | (simp (disch := omega) only [c2, m1lt, nIm1, m1nI, not_true_eq_false, not_false_eq_true, jl, nI_ltI, nI_leI, nI_eq, nI_toInt]; omega) | (simp (disch := omega) only [c2, m1lt, nIm1, m1nI, not_true_eq_false, not_false_eq_true, jl, nI_ltI, nI_leI, nI_eq, nI_toInt]; done))); conv => whnf) | (refine And.intro ?_ ?_; (focus (first | with_reducible assumption | ((with_reducible refine vp_in_nI ?_ ?_) <;> omega) | ((with_reducible refine vp_0 ?_); omega) | ((with_reducible refine vp_s1 ?_ ?_) <;> omega) | ((with_reducible refine vp_a1 ?_ ?_) <;> omega) | ((with_reducible refine vp_m1 ?_ ?_) <;> omega) | ((with_reducible refine vp_m2 ?_ ?_) <;> omega))); conv => whnf))
      exact h1
    · subst e1
      rw [e2] at h1
      conv => whnf
      repeat (first | (refine br_f ?_ ?_; (focus (first | with_reducible assumption | (intro zz; apply zz; with_reducible assumption) | (simp (disch := omega) only [m1lt, nIm1, m1nI, not_true_eq_false, not_false_eq_true, jl, nI_ltI, nI_leI, nI_eq, nI_toInt]; omega) | (simp (disch := omega) only [m1lt, nIm1, m1nI, not_true_eq_false, not_false_eq_true, jl, nI_ltI, nI_leI, nI_eq, nI_toInt]; done))); conv => whnf) | (refine br_t ?_ ?_; (focus (first | with_reducible assumption | (intro zz; apply zz; with_reducible assumption) | (simp (disch := omega) only [m1lt, nIm1, m1nI, not_true_eq_false, not_false_eq_true, jl, nI_ltI, nI_leI, nI_eq, nI_toInt]; omega) | (simp (disch := omega) only [m1lt, nIm1, m1nI, not_true_eq_false, not_false_eq_true, jl, nI_ltI, nI_leI, nI_eq, nI_toInt]; done))); conv => whnf) | (with_reducible refine And.intro nz1 ?_; conv => whnf) | (with_reducible refine And.intro nz0 ?_; conv => whnf) | (refine And.intro ?_ ?_; (focus (first | with_reducible assumption | (intro zz; apply zz; with_reducible assumption) | (simp (disch := omega) only [m1lt, nIm1, m1nI, not_true_eq_false, not_false_eq_true, jl, nI_ltI, nI_leI, nI_eq, nI_toInt]; omega) | (simp (disch := omega) only [m1lt, nIm1, m1nI, not_true_eq_false, not_false_eq_true, jl, nI_ltI, nI_leI, nI_eq, nI_toInt]; done))); conv => whnf) | (refine And.intro ?_ ?_; (focus (first | with_reducible assumption | ((with_reducible refine vp_in_nI ?_ ?_) <;> omega) | ((with_reducible refine vp_0 ?_); omega) | ((with_reducible refine vp_s1 ?_ ?_) <;> omega) | ((with_reducible refine vp_a1 ?_ ?_) <;> omega) | ((with_reducible refine vp_m1 ?_ ?_) <;> omega) | ((with_reducible refine vp_m2 ?_ ?_) <;> omega))); conv => whnf))
      exact h1
theorem s_cardOf {x y : Nat} (h1 : Q (some (.int (nI (10 * x + y)))) m) : CT (d + 1) n_X6_cardOf [.int (nI x), .int (nI y)] m Q := by
  refine opn cd_X6_cardOf rfl (fun C P hC hP => ?_)
  conv => whnf
  repeat (first | (refine br_f ?_ ?_; (focus (first | with_reducible assumption | (intro zz; apply zz; with_reducible assumption) | (simp (disch := omega) only [m1lt, nIm1, m1nI, not_true_eq_false, not_false_eq_true, jl, nI_ltI, nI_leI, nI_eq, nI_toInt]; omega) | (simp (disch := omega) only [m1lt, nIm1, m1nI, not_true_eq_false, not_false_eq_true, jl, nI_ltI, nI_leI, nI_eq, nI_toInt]; done))); conv => whnf) | (refine br_t ?_ ?_; (focus (first | with_reducible assumption | (intro zz; apply zz; with_reducible assumption) | (simp (disch := omega) only [m1lt, nIm1, m1nI, not_true_eq_false, not_false_eq_true, jl, nI_ltI, nI_leI, nI_eq, nI_toInt]; omega) | (simp (disch := omega) only [m1lt, nIm1, m1nI, not_true_eq_false, not_false_eq_true, jl, nI_ltI, nI_leI, nI_eq, nI_toInt]; done))); conv => whnf) | (with_reducible refine And.intro nz1 ?_; conv => whnf) | (with_reducible refine And.intro nz0 ?_; conv => whnf) | (refine And.intro ?_ ?_; (focus (first | with_reducible assumption | (intro zz; apply zz; with_reducible assumption) | (simp (disch := omega) only [m1lt, nIm1, m1nI, not_true_eq_false, not_false_eq_true, jl, nI_ltI, nI_leI, nI_eq, nI_toInt]; omega) | (simp (disch := omega) only [m1lt, nIm1, m1nI, not_true_eq_false, not_false_eq_true, jl, nI_ltI, nI_leI, nI_eq, nI_toInt]; done))); conv => whnf) | (refine And.intro ?_ ?_; (focus (first | with_reducible assumption | ((with_reducible refine vp_in_nI ?_ ?_) <;> omega) | ((with_reducible refine vp_0 ?_); omega) | ((with_reducible refine vp_s1 ?_ ?_) <;> omega) | ((with_reducible refine vp_a1 ?_ ?_) <;> omega) | ((with_reducible refine vp_m1 ?_ ?_) <;> omega) | ((with_reducible refine vp_m2 ?_ ?_) <;> omega))); conv => whnf))
  show Q (some (.int (nI 10 * nI x + nI y))) m
  rw [pk_mul, nI_add]
  exact h1
theorem s_isFoS {x : Int32} (h1 : Q (some (.int (match ixo x 2 with
    | some _ => 1
    | none => 0))) m) : CT (d + 1) n_X6_isFirstOrSecond [.int x] m Q := by
  refine opn cd_X6_isFirstOrSecond rfl (fun C P hC hP => ?_)
  rcases ixc x (n := 2) (by decide) with ⟨e, c, c4⟩ | ⟨e, ⟨c1, c2, c3⟩, c4⟩ | ⟨j, hj, e1, e⟩
  · have a0 : ¬ x = 0 := c4 0 (by decide)
    have a1 : ¬ x = 1 := c4 1 (by decide)
    rw [e] at h1
    conv => whnf
    repeat (first | (refine br_f ?_ ?_; (focus (first | with_reducible assumption | (intro zz; apply zz; with_reducible assumption) | (simp (disch := omega) only [m1lt, nIm1, m1nI, not_true_eq_false, not_false_eq_true, jl, nI_ltI, nI_leI, nI_eq, nI_toInt]; omega) | (simp (disch := omega) only [m1lt, nIm1, m1nI, not_true_eq_false, not_false_eq_true, jl, nI_ltI, nI_leI, nI_eq, nI_toInt]; done))); conv => whnf) | (refine br_t ?_ ?_; (focus (first | with_reducible assumption | (intro zz; apply zz; with_reducible assumption) | (simp (disch := omega) only [m1lt, nIm1, m1nI, not_true_eq_false, not_false_eq_true, jl, nI_ltI, nI_leI, nI_eq, nI_toInt]; omega) | (simp (disch := omega) only [m1lt, nIm1, m1nI, not_true_eq_false, not_false_eq_true, jl, nI_ltI, nI_leI, nI_eq, nI_toInt]; done))); conv => whnf) | (with_reducible refine And.intro nz1 ?_; conv => whnf) | (with_reducible refine And.intro nz0 ?_; conv => whnf) | (refine And.intro ?_ ?_; (focus (first | with_reducible assumption | (intro zz; apply zz; with_reducible assumption) | (simp (disch := omega) only [m1lt, nIm1, m1nI, not_true_eq_false, not_false_eq_true, jl, nI_ltI, nI_leI, nI_eq, nI_toInt]; omega) | (simp (disch := omega) only [m1lt, nIm1, m1nI, not_true_eq_false, not_false_eq_true, jl, nI_ltI, nI_leI, nI_eq, nI_toInt]; done))); conv => whnf) | (refine And.intro ?_ ?_; (focus (first | with_reducible assumption | ((with_reducible refine vp_in_nI ?_ ?_) <;> omega) | ((with_reducible refine vp_0 ?_); omega) | ((with_reducible refine vp_s1 ?_ ?_) <;> omega) | ((with_reducible refine vp_a1 ?_ ?_) <;> omega) | ((with_reducible refine vp_m1 ?_ ?_) <;> omega) | ((with_reducible refine vp_m2 ?_ ?_) <;> omega))); conv => whnf))
    exact h1
  · have a0 : ¬ x = 0 := c4 0 (by decide)
    have a1 : ¬ x = 1 := c4 1 (by decide)
    rw [e] at h1
    conv => whnf
    repeat (first | (refine br_f ?_ ?_; (focus (first | with_reducible assumption | (intro zz; apply zz; with_reducible assumption) | (simp (disch := omega) only [m1lt, nIm1, m1nI, not_true_eq_false, not_false_eq_true, jl, nI_ltI, nI_leI, nI_eq, nI_toInt]; omega) | (simp (disch := omega) only [m1lt, nIm1, m1nI, not_true_eq_false, not_false_eq_true, jl, nI_ltI, nI_leI, nI_eq, nI_toInt]; done))); conv => whnf) | (refine br_t ?_ ?_; (focus (first | with_reducible assumption | (intro zz; apply zz; with_reducible assumption) | (simp (disch := omega) only [m1lt, nIm1, m1nI, not_true_eq_false, not_false_eq_true, jl, nI_ltI, nI_leI, nI_eq, nI_toInt]; omega) | (simp (disch := omega) only [m1lt, nIm1, m1nI, not_true_eq_false, not_false_eq_true, jl, nI_ltI, nI_leI, nI_eq, nI_toInt]; done))); conv => whnf) | (with_reducible refine And.intro nz1 ?_; conv => whnf) | (with_reducible refine And.intro nz0 ?_; conv => whnf) | (refine And.intro ?_ ?_; (focus (first | with_reducible assumption | (intro zz; apply zz; with_reducible assumption) | (simp (disch := omega) only [m1lt, nIm1, m1nI, not_true_eq_false, not_false_eq_true, jl, nI_ltI, nI_leI, nI_eq, nI_toInt]; omega) | (simp (disch := omega) only [m1lt, nIm1, m1nI, not_true_eq_false, not_false_eq_true, jl, nI_ltI, nI_leI, nI_eq, nI_toInt]; done))); conv => whnf) | (refine And.intro ?_ ?_; (focus (first | with_reducible assumption | ((with_reducible refine vp_in_nI ?_ ?_) <;> omega) | ((with_reducible refine vp_0 ?_); omega) | ((with_reducible refine vp_s1 ?_ ?_) <;> omega) | ((with_reducible refine vp_a1 ?_ ?_) <;> omega) | ((with_reducible refine vp_m1 ?_ ?_) <;> omega) | ((with_reducible refine vp_m2 ?_ ?_) <;> omega))); conv => whnf))
    exact h1
  · subst e1
    rw [e] at h1
    have hj2 : j = 0 ∨ j = 1 := by omega
    rcases hj2 with rfl | rfl
    · conv => whnf
      repeat (first | (refine br_f ?_ ?_; (focus (first | with_reducible assumption | (intro zz; apply zz; with_reducible assumption) | (simp (disch := omega) only [m1lt, nIm1, m1nI, not_true_eq_false, not_false_eq_true, jl, nI_ltI, nI_leI, nI_eq, nI_toInt]; omega) | (simp (disch := omega) only [m1lt, nIm1, m1nI, not_true_eq_false, not_false_eq_true, jl, nI_ltI, nI_leI, nI_eq, nI_toInt]; done))); conv => whnf) | (refine br_t ?_ ?_; (focus (first | with_reducible assumption | (intro zz; apply zz; with_reducible assumption) | (simp (disch := omega) only [m1lt, nIm1, m1nI, not_true_eq_false, not_false_eq_true, jl, nI_ltI, nI_leI, nI_eq, nI_toInt]; omega) | (simp (disch := omega) only [m1lt, nIm1, m1nI, not_true_eq_false, not_false_eq_true, jl, nI_ltI, nI_leI, nI_eq, nI_toInt]; done))); conv => whnf) | (with_reducible refine And.intro nz1 ?_; conv => whnf) | (with_reducible refine And.intro nz0 ?_; conv => whnf) | (refine And.intro ?_ ?_; (focus (first | with_reducible assumption | (intro zz; apply zz; with_reducible assumption) | (simp (disch := omega) only [m1lt, nIm1, m1nI, not_true_eq_false, not_false_eq_true, jl, nI_ltI, nI_leI, nI_eq, nI_toInt]; omega) | (simp (disch := omega) only [m1lt, nIm1, m1nI, not_true_eq_false, not_false_eq_true, jl, nI_ltI, nI_leI, nI_eq, nI_toInt]; done))); conv => whnf) | (refine And.intro ?_ ?_; (focus (first | with_reducible assumption | ((with_reducible refine vp_in_nI ?_ ?_) <;> omega) | ((with_reducible refine vp_0 ?_); omega) | ((with_reducible refine vp_s1 ?_ ?_) <;> omega) | ((with_reducible refine vp_a1 ?_ ?_) <;> omega) | ((with_reducible refine vp_m1 ?_ ?_) <;> omega) | ((with_reducible refine vp_m2 ?_ ?_) <;> omega))); conv => whnf))
      exact h1
    · conv => whnf
      repeat (first | (refine br_f ?_ ?_; (focus (first | with_reducible assumption | (intro zz; apply zz; with_reducible assumption) | (simp (disch := omega) only [m1lt, nIm1, m1nI, not_true_eq_false, not_false_eq_true, jl, nI_ltI, nI_leI, nI_eq, nI_toInt]; omega) | (simp (disch := omega) only [m1lt, nIm1, m1nI, not_true_eq_false, not_false_eq_true, jl, nI_ltI, nI_leI, nI_eq, nI_toInt]; done))); conv => whnf) | (refine br_t ?_ ?_; (focus (first | with_reducible assumption | (intro zz; apply zz; with_reducible assumption) | (simp (disch := omega) only [m1lt, nIm1, m1nI, not_true_eq_false, not_false_eq_true, jl, nI_ltI, nI_leI, nI_eq, nI_toInt]; omega) | (simp (disch := omega) only [m1lt, nIm1, m1nI, not_true_eq_false, not_false_eq_true, jl, nI_ltI, nI_leI, nI_eq, nI_toInt]; done))); conv => whnf) | (with_reducible refine And.intro nz1 ?_; conv => whnf) | (with_reducible refine And.intro nz0 ?_; conv => whnf) | (refine And.intro ?_ ?_; (focus (first | with_reducible assumption | (intro zz; apply zz; with_reducible assumption) | (simp (disch := omega) only [m1lt, nIm1, m1nI, not_true_eq_false, not_false_eq_true, jl, nI_ltI, nI_leI, nI_eq, nI_toInt]; omega) | (simp (disch := omega) only [m1lt, nIm1, m1nI, not_true_eq_false, not_false_eq_true, jl, nI_ltI, nI_leI, nI_eq, nI_toInt]; done))); conv => whnf) | (refine And.intro ?_ ?_; (focus (first | with_reducible assumption | ((with_reducible refine vp_in_nI ?_ ?_) <;> omega) | ((with_reducible refine vp_0 ?_); omega) | ((with_reducible refine vp_s1 ?_ ?_) <;> omega) | ((with_reducible refine vp_a1 ?_ ?_) <;> omega) | ((with_reducible refine vp_m1 ?_ ?_) <;> omega) | ((with_reducible refine vp_m2 ?_ ?_) <;> omega))); conv => whnf))
      exact h1
theorem s_isSort {x : Int32} (h1 : Q (some (.int (match ixo x 3 with
    | some _ => 1
    | none => 0))) m) : CT (d + 1) n_X6_isSort [.int x] m Q := by
  refine opn cd_X6_isSort rfl (fun C P hC hP => ?_)
  rcases ixc x (n := 3) (by decide) with ⟨e, c, c4⟩ | ⟨e, ⟨c1, c2, c3⟩, c4⟩ | ⟨j, hj, e1, e⟩
  · rw [e] at h1
    conv => whnf
    repeat (first | (refine br_f ?_ ?_; (focus (first | with_reducible assumption | (intro zz; apply zz; with_reducible assumption) | (simp (disch := omega) only [m1lt, nIm1, m1nI, not_true_eq_false, not_false_eq_true, jl, nI_ltI, nI_leI, nI_eq, nI_toInt]; omega) | (simp (disch := omega) only [m1lt, nIm1, m1nI, not_true_eq_false, not_false_eq_true, jl, nI_ltI, nI_leI, nI_eq, nI_toInt]; done))); conv => whnf) | (refine br_t ?_ ?_; (focus (first | with_reducible assumption | (intro zz; apply zz; with_reducible assumption) | (simp (disch := omega) only [m1lt, nIm1, m1nI, not_true_eq_false, not_false_eq_true, jl, nI_ltI, nI_leI, nI_eq, nI_toInt]; omega) | (simp (disch := omega) only [m1lt, nIm1, m1nI, not_true_eq_false, not_false_eq_true, jl, nI_ltI, nI_leI, nI_eq, nI_toInt]; done))); conv => whnf) | (with_reducible refine And.intro nz1 ?_; conv => whnf) | (with_reducible refine And.intro nz0 ?_; conv => whnf) | (refine And.intro ?_ ?_; (focus (first | with_reducible assumption | (intro zz; apply zz; with_reducible assumption) | (simp (disch := omega) only [m1lt, nIm1, m1nI, not_true_eq_false, not_false_eq_true, jl, nI_ltI, nI_leI, nI_eq, nI_toInt]; omega) | (simp (disch := omega) only [m1lt, nIm1, m1nI, not_true_eq_false, not_false_eq_true, jl, nI_ltI, nI_leI, nI_eq, nI_toInt]; done))); conv => whnf) | (refine And.intro ?_ ?_; (focus (first | with_reducible assumption | ((with_reducible refine vp_in_nI ?_ ?_) <;> omega) | ((with_reducible refine vp_0 ?_); omega) | ((with_reducible refine vp_s1 ?_ ?_) <;> omega) | ((with_reducible refine vp_a1 ?_ ?_) <;> omega) | ((with_reducible refine vp_m1 ?_ ?_) <;> omega) | ((with_reducible refine vp_m2 ?_ ?_) <;> omega))); conv => whnf))
    exact h1
  · rw [e] at h1
    conv => whnf
    repeat (first | (refine br_f ?_ ?_; (focus (first | with_reducible assumption | (intro zz; apply zz; with_reducible assumption) | (simp (disch := omega) only [c2, m1lt, nIm1, m1nI, not_true_eq_false, not_false_eq_true, jl, nI_ltI, nI_leI, nI_eq, nI_toInt]; omega) | (simp (disch := omega) only [c2, m1lt, nIm1, m1nI, not_true_eq_false, not_false_eq_true, jl, nI_ltI, nI_leI, nI_eq, nI_toInt]; done))); conv => whnf) | (refine br_t ?_ ?_; (focus (first | with_reducible assumption | (intro zz; apply zz; with_reducible assumption) | (simp (disch := omega) only [c2, m1lt, nIm1, m1nI, not_true_eq_false, not_false_eq_true, jl, nI_ltI, nI_leI, nI_eq, nI_toInt]; omega) | (simp (disch := omega) only [c2, m1lt, nIm1, m1nI, not_true_eq_false, not_false_eq_true, jl, nI_ltI, nI_leI, nI_eq, nI_toInt]; done))); conv => whnf) | (with_reducible refine And.intro nz1 ?_; conv => whnf) | (with_reducible refine And.intro nz0 ?_; conv => whnf) | (refine And.intro ?_ ?_; (focus (first | with_reducible assumption | (intro zz; apply zz; with_reducible assumption) | (simp (disch := omega) only [c2, m1lt, nIm1, m1nI, not_true_eq_false, not_false_eq_true, jl, nI_ltI, nI_leI, nI_eq, nI_toInt]; omega) | (simp (disch := omega) only [c2, m1lt, nIm1, m1nI, not_true_eq_false, not_false_eq_true, jl, nI_ltI, nI_leI, nI_eq, nI_toInt]; done))); conv => whnf) | (refine And.intro ?_ ?_; (focus (first | with_reducible assumption | ((with_reducible refine vp_in_nI ?_ ?_) <;> omega) | ((with_reducible refine vp_0 ?_); omega) | ((with_reducible refine vp_s1 ?_ ?_) <;> omega) | ((with_reducible refine vp_a1 ?_ ?_) <;> omega) | ((with_reducible refine vp_m1 ?_ ?_) <;> omega) | ((with_reducible refine vp_m2 ?_ ?_) <;> omega))); conv => whnf))
    exact h1
  · subst e1
    rw [e] at h1
    conv => whnf
    repeat (first | (refine br_f ?_ ?_; (focus (first | with_reducible assumption | (intro zz; apply zz; with_reducible assumption) | (simp (disch := omega) only [m1lt, nIm1, m1nI, not_true_eq_false, not_false_eq_true, jl, nI_ltI, nI_leI, nI_eq, nI_toInt]; omega) | (simp (disch := omega) only [m1lt, nIm1, m1nI, not_true_eq_false, not_false_eq_true, jl, nI_ltI, nI_leI, nI_eq, nI_toInt]; done))); conv => whnf) | (refine br_t ?_ ?_; (focus (first | with_reducible assumption | (intro zz; apply zz; with_reducible assumption) | (simp (disch := omega) only [m1lt, nIm1, m1nI, not_true_eq_false, not_false_eq_true, jl, nI_ltI, nI_leI, nI_eq, nI_toInt]; omega) | (simp (disch := omega) only [m1lt, nIm1, m1nI, not_true_eq_false, not_false_eq_true, jl, nI_ltI, nI_leI, nI_eq, nI_toInt]; done))); conv => whnf) | (with_reducible refine And.intro nz1 ?_; conv => whnf) | (with_reducible refine And.intro nz0 ?_; conv => whnf) | (refine And.intro ?_ ?_; (focus (first | with_reducible assumption | (intro zz; apply zz; with_reducible assumption) | (simp (disch := omega) only [m1lt, nIm1, m1nI, not_true_eq_false, not_false_eq_true, jl, nI_ltI, nI_leI, nI_eq, nI_toInt]; omega) | (simp (disch := omega) only [m1lt, nIm1, m1nI, not_true_eq_false, not_false_eq_true, jl, nI_ltI, nI_leI, nI_eq, nI_toInt]; done))); conv => whnf) | (refine And.intro ?_ ?_; (focus (first | with_reducible assumption | ((with_reducible refine vp_in_nI ?_ ?_) <;> omega) | ((with_reducible refine vp_0 ?_); omega) | ((with_reducible refine vp_s1 ?_ ?_) <;> omega) | ((with_reducible refine vp_a1 ?_ ?_) <;> omega) | ((with_reducible refine vp_m1 ?_ ?_) <;> omega) | ((with_reducible refine vp_m2 ?_ ?_) <;> omega))); conv => whnf))
    exact h1
theorem s_textAt {k : Nat} (hc : CI m g u t p i h) (hk : k < t.1) (h1 : Q (some (.ref (18 + 3 * k))) m) : CT (d + 1) n_X6_textAt [.ref 0, .int (nI k)] m Q := by
  obtain ⟨c1, ⟨c2, c21, c22, c23⟩, c3, c4, c5, c6⟩ := hc
  have hrv := rv6 (k := k) (by omega)
  refine opn cd_X6_textAt rfl (fun C P hC hP => ?_)
  have l6 : [21, 24, 27, 30, 33, 36].length = 6 := rfl
  conv => whnf
  repeat (first | (refine br_f ?_ ?_; (focus (first | with_reducible assumption | (intro zz; apply zz; with_reducible assumption) | (simp (disch := omega) only [c2, l6, m1lt, nIm1, m1nI, not_true_eq_false, not_false_eq_true, jl, nI_ltI, nI_leI, nI_eq, nI_toInt]; omega) | (simp (disch := omega) only [c2, l6, m1lt, nIm1, m1nI, not_true_eq_false, not_false_eq_true, jl, nI_ltI, nI_leI, nI_eq, nI_toInt]; done))); conv => whnf) | (refine br_t ?_ ?_; (focus (first | with_reducible assumption | (intro zz; apply zz; with_reducible assumption) | (simp (disch := omega) only [c2, l6, m1lt, nIm1, m1nI, not_true_eq_false, not_false_eq_true, jl, nI_ltI, nI_leI, nI_eq, nI_toInt]; omega) | (simp (disch := omega) only [c2, l6, m1lt, nIm1, m1nI, not_true_eq_false, not_false_eq_true, jl, nI_ltI, nI_leI, nI_eq, nI_toInt]; done))); conv => whnf) | (with_reducible refine And.intro nz1 ?_; conv => whnf) | (with_reducible refine And.intro nz0 ?_; conv => whnf) | (refine And.intro ?_ ?_; (focus (first | with_reducible assumption | (intro zz; apply zz; with_reducible assumption) | (simp (disch := omega) only [c2, l6, m1lt, nIm1, m1nI, not_true_eq_false, not_false_eq_true, jl, nI_ltI, nI_leI, nI_eq, nI_toInt]; omega) | (simp (disch := omega) only [c2, l6, m1lt, nIm1, m1nI, not_true_eq_false, not_false_eq_true, jl, nI_ltI, nI_leI, nI_eq, nI_toInt]; done))); conv => whnf) | (refine And.intro ?_ ?_; (focus (first | with_reducible assumption | ((with_reducible refine vp_in_nI ?_ ?_) <;> omega) | ((with_reducible refine vp_0 ?_); omega) | ((with_reducible refine vp_s1 ?_ ?_) <;> omega) | ((with_reducible refine vp_a1 ?_ ?_) <;> omega) | ((with_reducible refine vp_m1 ?_ ?_) <;> omega) | ((with_reducible refine vp_m2 ?_ ?_) <;> omega))); conv => whnf))
  rw [hrv]
  conv => whnf
  exact h1
theorem s_textAtNo {x : Int32} (hc : CI m g u t p i h) (hx : ixo x t.1 = none) (h1 : Q (some .null) m) : CT (d + 1) n_X6_textAt [.ref 0, .int x] m Q := by
  obtain ⟨c1, ⟨c2, c21, c22, c23⟩, c3, c4, c5, c6⟩ := hc
  refine opn cd_X6_textAt rfl (fun C P hC hP => ?_)
  rcases ixc x (n := t.1) (by omega) with ⟨e, z, -⟩ | ⟨e, ⟨z1, z2, z3⟩, -⟩ | ⟨j, hj, e1, e⟩
  · conv => whnf
    repeat (first | (refine br_f ?_ ?_; (focus (first | with_reducible assumption | (intro zz; apply zz; with_reducible assumption) | (simp (disch := omega) only [m1lt, nIm1, m1nI, not_true_eq_false, not_false_eq_true, jl, nI_ltI, nI_leI, nI_eq, nI_toInt]; omega) | (simp (disch := omega) only [m1lt, nIm1, m1nI, not_true_eq_false, not_false_eq_true, jl, nI_ltI, nI_leI, nI_eq, nI_toInt]; done))); conv => whnf) | (refine br_t ?_ ?_; (focus (first | with_reducible assumption | (intro zz; apply zz; with_reducible assumption) | (simp (disch := omega) only [m1lt, nIm1, m1nI, not_true_eq_false, not_false_eq_true, jl, nI_ltI, nI_leI, nI_eq, nI_toInt]; omega) | (simp (disch := omega) only [m1lt, nIm1, m1nI, not_true_eq_false, not_false_eq_true, jl, nI_ltI, nI_leI, nI_eq, nI_toInt]; done))); conv => whnf) | (with_reducible refine And.intro nz1 ?_; conv => whnf) | (with_reducible refine And.intro nz0 ?_; conv => whnf) | (refine And.intro ?_ ?_; (focus (first | with_reducible assumption | (intro zz; apply zz; with_reducible assumption) | (simp (disch := omega) only [m1lt, nIm1, m1nI, not_true_eq_false, not_false_eq_true, jl, nI_ltI, nI_leI, nI_eq, nI_toInt]; omega) | (simp (disch := omega) only [m1lt, nIm1, m1nI, not_true_eq_false, not_false_eq_true, jl, nI_ltI, nI_leI, nI_eq, nI_toInt]; done))); conv => whnf) | (refine And.intro ?_ ?_; (focus (first | with_reducible assumption | ((with_reducible refine vp_in_nI ?_ ?_) <;> omega) | ((with_reducible refine vp_0 ?_); omega) | ((with_reducible refine vp_s1 ?_ ?_) <;> omega) | ((with_reducible refine vp_a1 ?_ ?_) <;> omega) | ((with_reducible refine vp_m1 ?_ ?_) <;> omega) | ((with_reducible refine vp_m2 ?_ ?_) <;> omega))); conv => whnf))
    exact h1
  · conv => whnf
    repeat (first | (refine br_f ?_ ?_; (focus (first | with_reducible assumption | (intro zz; apply zz; with_reducible assumption) | (simp (disch := omega) only [c2, z2, m1lt, nIm1, m1nI, not_true_eq_false, not_false_eq_true, jl, nI_ltI, nI_leI, nI_eq, nI_toInt]; omega) | (simp (disch := omega) only [c2, z2, m1lt, nIm1, m1nI, not_true_eq_false, not_false_eq_true, jl, nI_ltI, nI_leI, nI_eq, nI_toInt]; done))); conv => whnf) | (refine br_t ?_ ?_; (focus (first | with_reducible assumption | (intro zz; apply zz; with_reducible assumption) | (simp (disch := omega) only [c2, z2, m1lt, nIm1, m1nI, not_true_eq_false, not_false_eq_true, jl, nI_ltI, nI_leI, nI_eq, nI_toInt]; omega) | (simp (disch := omega) only [c2, z2, m1lt, nIm1, m1nI, not_true_eq_false, not_false_eq_true, jl, nI_ltI, nI_leI, nI_eq, nI_toInt]; done))); conv => whnf) | (with_reducible refine And.intro nz1 ?_; conv => whnf) | (with_reducible refine And.intro nz0 ?_; conv => whnf) | (refine And.intro ?_ ?_; (focus (first | with_reducible assumption | (intro zz; apply zz; with_reducible assumption) | (simp (disch := omega) only [c2, z2, m1lt, nIm1, m1nI, not_true_eq_false, not_false_eq_true, jl, nI_ltI, nI_leI, nI_eq, nI_toInt]; omega) | (simp (disch := omega) only [c2, z2, m1lt, nIm1, m1nI, not_true_eq_false, not_false_eq_true, jl, nI_ltI, nI_leI, nI_eq, nI_toInt]; done))); conv => whnf) | (refine And.intro ?_ ?_; (focus (first | with_reducible assumption | ((with_reducible refine vp_in_nI ?_ ?_) <;> omega) | ((with_reducible refine vp_0 ?_); omega) | ((with_reducible refine vp_s1 ?_ ?_) <;> omega) | ((with_reducible refine vp_a1 ?_ ?_) <;> omega) | ((with_reducible refine vp_m1 ?_ ?_) <;> omega) | ((with_reducible refine vp_m2 ?_ ?_) <;> omega))); conv => whnf))
    exact h1
  · rw [e] at hx
    cases hx
theorem s_sheetAt {k : Nat} (hk : k < 4) (h1 : Q (some (.ref (36 + 2 * k))) m) : CT (d + 1) n_X6_sheetAt [.ref 0, .int (nI k)] m Q := by
  have hrv := rv4 (k := k) (by omega)
  refine opn cd_X6_sheetAt rfl (fun C P hC hP => ?_)
  have l4 : [39, 41, 43, 45].length = 4 := rfl
  conv => whnf
  repeat (first | (refine br_f ?_ ?_; (focus (first | with_reducible assumption | (intro zz; apply zz; with_reducible assumption) | (simp (disch := omega) only [l4, m1lt, nIm1, m1nI, not_true_eq_false, not_false_eq_true, jl, nI_ltI, nI_leI, nI_eq, nI_toInt]; omega) | (simp (disch := omega) only [l4, m1lt, nIm1, m1nI, not_true_eq_false, not_false_eq_true, jl, nI_ltI, nI_leI, nI_eq, nI_toInt]; done))); conv => whnf) | (refine br_t ?_ ?_; (focus (first | with_reducible assumption | (intro zz; apply zz; with_reducible assumption) | (simp (disch := omega) only [l4, m1lt, nIm1, m1nI, not_true_eq_false, not_false_eq_true, jl, nI_ltI, nI_leI, nI_eq, nI_toInt]; omega) | (simp (disch := omega) only [l4, m1lt, nIm1, m1nI, not_true_eq_false, not_false_eq_true, jl, nI_ltI, nI_leI, nI_eq, nI_toInt]; done))); conv => whnf) | (with_reducible refine And.intro nz1 ?_; conv => whnf) | (with_reducible refine And.intro nz0 ?_; conv => whnf) | (refine And.intro ?_ ?_; (focus (first | with_reducible assumption | (intro zz; apply zz; with_reducible assumption) | (simp (disch := omega) only [l4, m1lt, nIm1, m1nI, not_true_eq_false, not_false_eq_true, jl, nI_ltI, nI_leI, nI_eq, nI_toInt]; omega) | (simp (disch := omega) only [l4, m1lt, nIm1, m1nI, not_true_eq_false, not_false_eq_true, jl, nI_ltI, nI_leI, nI_eq, nI_toInt]; done))); conv => whnf) | (refine And.intro ?_ ?_; (focus (first | with_reducible assumption | ((with_reducible refine vp_in_nI ?_ ?_) <;> omega) | ((with_reducible refine vp_0 ?_); omega) | ((with_reducible refine vp_s1 ?_ ?_) <;> omega) | ((with_reducible refine vp_a1 ?_ ?_) <;> omega) | ((with_reducible refine vp_m1 ?_ ?_) <;> omega) | ((with_reducible refine vp_m2 ?_ ?_) <;> omega))); conv => whnf))
  rw [hrv]
  conv => whnf
  exact h1
theorem s_sheetAtNo {x : Int32} (hx : ixo x 4 = none) (h1 : Q (some .null) m) : CT (d + 1) n_X6_sheetAt [.ref 0, .int x] m Q := by
  refine opn cd_X6_sheetAt rfl (fun C P hC hP => ?_)
  rcases ixc x (n := 4) (by omega) with ⟨e, z, -⟩ | ⟨e, ⟨z1, z2, z3⟩, -⟩ | ⟨j, hj, e1, e⟩
  · conv => whnf
    repeat (first | (refine br_f ?_ ?_; (focus (first | with_reducible assumption | (intro zz; apply zz; with_reducible assumption) | (simp (disch := omega) only [m1lt, nIm1, m1nI, not_true_eq_false, not_false_eq_true, jl, nI_ltI, nI_leI, nI_eq, nI_toInt]; omega) | (simp (disch := omega) only [m1lt, nIm1, m1nI, not_true_eq_false, not_false_eq_true, jl, nI_ltI, nI_leI, nI_eq, nI_toInt]; done))); conv => whnf) | (refine br_t ?_ ?_; (focus (first | with_reducible assumption | (intro zz; apply zz; with_reducible assumption) | (simp (disch := omega) only [m1lt, nIm1, m1nI, not_true_eq_false, not_false_eq_true, jl, nI_ltI, nI_leI, nI_eq, nI_toInt]; omega) | (simp (disch := omega) only [m1lt, nIm1, m1nI, not_true_eq_false, not_false_eq_true, jl, nI_ltI, nI_leI, nI_eq, nI_toInt]; done))); conv => whnf) | (with_reducible refine And.intro nz1 ?_; conv => whnf) | (with_reducible refine And.intro nz0 ?_; conv => whnf) | (refine And.intro ?_ ?_; (focus (first | with_reducible assumption | (intro zz; apply zz; with_reducible assumption) | (simp (disch := omega) only [m1lt, nIm1, m1nI, not_true_eq_false, not_false_eq_true, jl, nI_ltI, nI_leI, nI_eq, nI_toInt]; omega) | (simp (disch := omega) only [m1lt, nIm1, m1nI, not_true_eq_false, not_false_eq_true, jl, nI_ltI, nI_leI, nI_eq, nI_toInt]; done))); conv => whnf) | (refine And.intro ?_ ?_; (focus (first | with_reducible assumption | ((with_reducible refine vp_in_nI ?_ ?_) <;> omega) | ((with_reducible refine vp_0 ?_); omega) | ((with_reducible refine vp_s1 ?_ ?_) <;> omega) | ((with_reducible refine vp_a1 ?_ ?_) <;> omega) | ((with_reducible refine vp_m1 ?_ ?_) <;> omega) | ((with_reducible refine vp_m2 ?_ ?_) <;> omega))); conv => whnf))
    exact h1
  · conv => whnf
    repeat (first | (refine br_f ?_ ?_; (focus (first | with_reducible assumption | (intro zz; apply zz; with_reducible assumption) | (simp (disch := omega) only [z2, m1lt, nIm1, m1nI, not_true_eq_false, not_false_eq_true, jl, nI_ltI, nI_leI, nI_eq, nI_toInt]; omega) | (simp (disch := omega) only [z2, m1lt, nIm1, m1nI, not_true_eq_false, not_false_eq_true, jl, nI_ltI, nI_leI, nI_eq, nI_toInt]; done))); conv => whnf) | (refine br_t ?_ ?_; (focus (first | with_reducible assumption | (intro zz; apply zz; with_reducible assumption) | (simp (disch := omega) only [z2, m1lt, nIm1, m1nI, not_true_eq_false, not_false_eq_true, jl, nI_ltI, nI_leI, nI_eq, nI_toInt]; omega) | (simp (disch := omega) only [z2, m1lt, nIm1, m1nI, not_true_eq_false, not_false_eq_true, jl, nI_ltI, nI_leI, nI_eq, nI_toInt]; done))); conv => whnf) | (with_reducible refine And.intro nz1 ?_; conv => whnf) | (with_reducible refine And.intro nz0 ?_; conv => whnf) | (refine And.intro ?_ ?_; (focus (first | with_reducible assumption | (intro zz; apply zz; with_reducible assumption) | (simp (disch := omega) only [z2, m1lt, nIm1, m1nI, not_true_eq_false, not_false_eq_true, jl, nI_ltI, nI_leI, nI_eq, nI_toInt]; omega) | (simp (disch := omega) only [z2, m1lt, nIm1, m1nI, not_true_eq_false, not_false_eq_true, jl, nI_ltI, nI_leI, nI_eq, nI_toInt]; done))); conv => whnf) | (refine And.intro ?_ ?_; (focus (first | with_reducible assumption | ((with_reducible refine vp_in_nI ?_ ?_) <;> omega) | ((with_reducible refine vp_0 ?_); omega) | ((with_reducible refine vp_s1 ?_ ?_) <;> omega) | ((with_reducible refine vp_a1 ?_ ?_) <;> omega) | ((with_reducible refine vp_m1 ?_ ?_) <;> omega) | ((with_reducible refine vp_m2 ?_ ?_) <;> omega))); conv => whnf))
    exact h1
  · rw [e] at hx
    cases hx
/-- of the class: does its ring have that place -/
theorem s_hasI {k n : Nat} {x : Int32} (hr : RS k) (hg : RZ m k n) (h1 : Q (some (.int (match ixo x n with
    | some _ => 1
    | none => 0))) m) : CT (d + 1) n_X2_has [.ref k, .int x] m Q := by
  have hn := hg.2
  rcases ixc x (n := n) (by omega) with ⟨e, z, c4⟩ | ⟨e, z, c4⟩ | ⟨j, hj, e1, e⟩
  · rw [e] at h1
    exact s_hasNo hr hg c4 h1
  · rw [e] at h1
    exact s_hasNo hr hg c4 h1
  · rw [e] at h1
    rw [e1]
    exact s_has hr hg hj h1
section PLC
variable {r n s : Nat} {c : Nat → Nat}
theorem s_lengthOf (hr : RS r) (hk : r + 1 < 7) (hg : RG m r n c) (hc : CI m g u t p i h) (hs : s < n) (h1 : ∀ m', Fr [7, 8, 9, 10] m m' → RP m' (rn n c (t.2.2.2 u) s).1 → Q (some (.int (nI (rn n c (t.2.2.2 u) s).1.length))) m') : CT (d + 7) n_X6_lengthOf [.ref 0, .ref r, .int (nI s)] m Q := by
  have hu := hc.2.2.1
  have hx := hc.2.1.2.2.2 u hu.2
  have h6 := hc.2.1.2.2.1
  have hu2 := hu.2
  refine opn cd_X6_lengthOf rfl (fun C P hC hP => ?_)
  conv => whnf
  repeat (first | (rw [hr.1]; conv => whnf) | (refine br_f ?_ ?_; (focus (first | with_reducible assumption | (intro zz; apply zz; with_reducible assumption) | (simp (disch := omega) only [m1lt, nIm1, m1nI, not_true_eq_false, not_false_eq_true, jl, nI_ltI, nI_leI, nI_eq, nI_toInt]; omega) | (simp (disch := omega) only [m1lt, nIm1, m1nI, not_true_eq_false, not_false_eq_true, jl, nI_ltI, nI_leI, nI_eq, nI_toInt]; done))); conv => whnf) | (refine br_t ?_ ?_; (focus (first | with_reducible assumption | (intro zz; apply zz; with_reducible assumption) | (simp (disch := omega) only [m1lt, nIm1, m1nI, not_true_eq_false, not_false_eq_true, jl, nI_ltI, nI_leI, nI_eq, nI_toInt]; omega) | (simp (disch := omega) only [m1lt, nIm1, m1nI, not_true_eq_false, not_false_eq_true, jl, nI_ltI, nI_leI, nI_eq, nI_toInt]; done))); conv => whnf) | (with_reducible refine And.intro nz1 ?_; conv => whnf) | (with_reducible refine And.intro nz0 ?_; conv => whnf) | (refine And.intro ?_ ?_; (focus (first | with_reducible assumption | (intro zz; apply zz; with_reducible assumption) | (simp (disch := omega) only [m1lt, nIm1, m1nI, not_true_eq_false, not_false_eq_true, jl, nI_ltI, nI_leI, nI_eq, nI_toInt]; omega) | (simp (disch := omega) only [m1lt, nIm1, m1nI, not_true_eq_false, not_false_eq_true, jl, nI_ltI, nI_leI, nI_eq, nI_toInt]; done))); conv => whnf) | (refine And.intro ?_ ?_; (focus (first | with_reducible assumption | ((with_reducible refine vp_in_nI ?_ ?_) <;> omega) | ((with_reducible refine vp_0 ?_); omega) | ((with_reducible refine vp_s1 ?_ ?_) <;> omega) | ((with_reducible refine vp_a1 ?_ ?_) <;> omega) | ((with_reducible refine vp_m1 ?_ ?_) <;> omega) | ((with_reducible refine vp_m2 ?_ ?_) <;> omega))); conv => whnf))
  refine useC hC ?_
  show CT (d + 6) n_X6_textAt [.ref 0, .int (m.1 0 9)] m _
  rw [hu.1]
  refine s_textAt hc hu.2 ?_
  conv => whnf
  repeat (first | (rw [hr.1]; conv => whnf) | (refine br_f ?_ ?_; (focus (first | with_reducible assumption | (intro zz; apply zz; with_reducible assumption) | (simp (disch := omega) only [m1lt, nIm1, m1nI, not_true_eq_false, not_false_eq_true, jl, nI_ltI, nI_leI, nI_eq, nI_toInt]; omega) | (simp (disch := omega) only [m1lt, nIm1, m1nI, not_true_eq_false, not_false_eq_true, jl, nI_ltI, nI_leI, nI_eq, nI_toInt]; done))); conv => whnf) | (refine br_t ?_ ?_; (focus (first | with_reducible assumption | (intro zz; apply zz; with_reducible assumption) | (simp (disch := omega) only [m1lt, nIm1, m1nI, not_true_eq_false, not_false_eq_true, jl, nI_ltI, nI_leI, nI_eq, nI_toInt]; omega) | (simp (disch := omega) only [m1lt, nIm1, m1nI, not_true_eq_false, not_false_eq_true, jl, nI_ltI, nI_leI, nI_eq, nI_toInt]; done))); conv => whnf) | (with_reducible refine And.intro nz1 ?_; conv => whnf) | (with_reducible refine And.intro nz0 ?_; conv => whnf) | (refine And.intro ?_ ?_; (focus (first | with_reducible assumption | (intro zz; apply zz; with_reducible assumption) | (simp (disch := omega) only [m1lt, nIm1, m1nI, not_true_eq_false, not_false_eq_true, jl, nI_ltI, nI_leI, nI_eq, nI_toInt]; omega) | (simp (disch := omega) only [m1lt, nIm1, m1nI, not_true_eq_false, not_false_eq_true, jl, nI_ltI, nI_leI, nI_eq, nI_toInt]; done))); conv => whnf) | (refine And.intro ?_ ?_; (focus (first | with_reducible assumption | ((with_reducible refine vp_in_nI ?_ ?_) <;> omega) | ((with_reducible refine vp_0 ?_); omega) | ((with_reducible refine vp_s1 ?_ ?_) <;> omega) | ((with_reducible refine vp_a1 ?_ ?_) <;> omega) | ((with_reducible refine vp_m1 ?_ ?_) <;> omega) | ((with_reducible refine vp_m2 ?_ ?_) <;> omega))); conv => whnf))
  refine useC hC (s_play hr hk (TS_k (by omega)) (by omega) hg hx hs (fun m1 f1 p1 e1 => ?_))
  conv => whnf
  repeat (first | (refine br_f ?_ ?_; (focus (first | with_reducible assumption | (intro zz; apply zz; with_reducible assumption) | (simp (disch := omega) only [m1lt, nIm1, m1nI, not_true_eq_false, not_false_eq_true, jl, nI_ltI, nI_leI, nI_eq, nI_toInt]; omega) | (simp (disch := omega) only [m1lt, nIm1, m1nI, not_true_eq_false, not_false_eq_true, jl, nI_ltI, nI_leI, nI_eq, nI_toInt]; done))); conv => whnf) | (refine br_t ?_ ?_; (focus (first | with_reducible assumption | (intro zz; apply zz; with_reducible assumption) | (simp (disch := omega) only [m1lt, nIm1, m1nI, not_true_eq_false, not_false_eq_true, jl, nI_ltI, nI_leI, nI_eq, nI_toInt]; omega) | (simp (disch := omega) only [m1lt, nIm1, m1nI, not_true_eq_false, not_false_eq_true, jl, nI_ltI, nI_leI, nI_eq, nI_toInt]; done))); conv => whnf) | (with_reducible refine And.intro nz1 ?_; conv => whnf) | (with_reducible refine And.intro nz0 ?_; conv => whnf) | (refine And.intro ?_ ?_; (focus (first | with_reducible assumption | (intro zz; apply zz; with_reducible assumption) | (simp (disch := omega) only [m1lt, nIm1, m1nI, not_true_eq_false, not_false_eq_true, jl, nI_ltI, nI_leI, nI_eq, nI_toInt]; omega) | (simp (disch := omega) only [m1lt, nIm1, m1nI, not_true_eq_false, not_false_eq_true, jl, nI_ltI, nI_leI, nI_eq, nI_toInt]; done))); conv => whnf) | (refine And.intro ?_ ?_; (focus (first | with_reducible assumption | ((with_reducible refine vp_in_nI ?_ ?_) <;> omega) | ((with_reducible refine vp_0 ?_); omega) | ((with_reducible refine vp_s1 ?_ ?_) <;> omega) | ((with_reducible refine vp_a1 ?_ ?_) <;> omega) | ((with_reducible refine vp_m1 ?_ ?_) <;> omega) | ((with_reducible refine vp_m2 ?_ ?_) <;> omega))); conv => whnf))
  refine useC hC (s_rlength ?_)
  conv => whnf
  repeat (first | (refine br_f ?_ ?_; (focus (first | with_reducible assumption | (intro zz; apply zz; with_reducible assumption) | (simp (disch := omega) only [m1lt, nIm1, m1nI, not_true_eq_false, not_false_eq_true, jl, nI_ltI, nI_leI, nI_eq, nI_toInt]; omega) | (simp (disch := omega) only [m1lt, nIm1, m1nI, not_true_eq_false, not_false_eq_true, jl, nI_ltI, nI_leI, nI_eq, nI_toInt]; done))); conv => whnf) | (refine br_t ?_ ?_; (focus (first | with_reducible assumption | (intro zz; apply zz; with_reducible assumption) | (simp (disch := omega) only [m1lt, nIm1, m1nI, not_true_eq_false, not_false_eq_true, jl, nI_ltI, nI_leI, nI_eq, nI_toInt]; omega) | (simp (disch := omega) only [m1lt, nIm1, m1nI, not_true_eq_false, not_false_eq_true, jl, nI_ltI, nI_leI, nI_eq, nI_toInt]; done))); conv => whnf) | (with_reducible refine And.intro nz1 ?_; conv => whnf) | (with_reducible refine And.intro nz0 ?_; conv => whnf) | (refine And.intro ?_ ?_; (focus (first | with_reducible assumption | (intro zz; apply zz; with_reducible assumption) | (simp (disch := omega) only [m1lt, nIm1, m1nI, not_true_eq_false, not_false_eq_true, jl, nI_ltI, nI_leI, nI_eq, nI_toInt]; omega) | (simp (disch := omega) only [m1lt, nIm1, m1nI, not_true_eq_false, not_false_eq_true, jl, nI_ltI, nI_leI, nI_eq, nI_toInt]; done))); conv => whnf) | (refine And.intro ?_ ?_; (focus (first | with_reducible assumption | ((with_reducible refine vp_in_nI ?_ ?_) <;> omega) | ((with_reducible refine vp_0 ?_); omega) | ((with_reducible refine vp_s1 ?_ ?_) <;> omega) | ((with_reducible refine vp_a1 ?_ ?_) <;> omega) | ((with_reducible refine vp_m1 ?_ ?_) <;> omega) | ((with_reducible refine vp_m2 ?_ ?_) <;> omega))); conv => whnf))
  rw [p1.1]
  exact h1 m1 f1 p1
theorem s_isHarvest (hr : RS r) (hk : r + 1 < 7) (hg : RG m r n c) (hc : CI m g u t p i h) (hs : s < n) (h1 : ∀ m', Fr [7, 8, 9, 10] m m' → Q (some (.int (if (rn n c (t.2.2.2 u) s).2 = 0 then 1 else 0))) m') : CT (d + 7) n_X6_isHarvest [.ref 0, .ref r, .int (nI s)] m Q := by
  have hu := hc.2.2.1
  have hx := hc.2.1.2.2.2 u hu.2
  have h6 := hc.2.1.2.2.1
  have hu2 := hu.2
  refine opn cd_X6_isHarvest rfl (fun C P hC hP => ?_)
  conv => whnf
  repeat (first | (rw [hr.1]; conv => whnf) | (refine br_f ?_ ?_; (focus (first | with_reducible assumption | (intro zz; apply zz; with_reducible assumption) | (simp (disch := omega) only [m1lt, nIm1, m1nI, not_true_eq_false, not_false_eq_true, jl, nI_ltI, nI_leI, nI_eq, nI_toInt]; omega) | (simp (disch := omega) only [m1lt, nIm1, m1nI, not_true_eq_false, not_false_eq_true, jl, nI_ltI, nI_leI, nI_eq, nI_toInt]; done))); conv => whnf) | (refine br_t ?_ ?_; (focus (first | with_reducible assumption | (intro zz; apply zz; with_reducible assumption) | (simp (disch := omega) only [m1lt, nIm1, m1nI, not_true_eq_false, not_false_eq_true, jl, nI_ltI, nI_leI, nI_eq, nI_toInt]; omega) | (simp (disch := omega) only [m1lt, nIm1, m1nI, not_true_eq_false, not_false_eq_true, jl, nI_ltI, nI_leI, nI_eq, nI_toInt]; done))); conv => whnf) | (with_reducible refine And.intro nz1 ?_; conv => whnf) | (with_reducible refine And.intro nz0 ?_; conv => whnf) | (refine And.intro ?_ ?_; (focus (first | with_reducible assumption | (intro zz; apply zz; with_reducible assumption) | (simp (disch := omega) only [m1lt, nIm1, m1nI, not_true_eq_false, not_false_eq_true, jl, nI_ltI, nI_leI, nI_eq, nI_toInt]; omega) | (simp (disch := omega) only [m1lt, nIm1, m1nI, not_true_eq_false, not_false_eq_true, jl, nI_ltI, nI_leI, nI_eq, nI_toInt]; done))); conv => whnf) | (refine And.intro ?_ ?_; (focus (first | with_reducible assumption | ((with_reducible refine vp_in_nI ?_ ?_) <;> omega) | ((with_reducible refine vp_0 ?_); omega) | ((with_reducible refine vp_s1 ?_ ?_) <;> omega) | ((with_reducible refine vp_a1 ?_ ?_) <;> omega) | ((with_reducible refine vp_m1 ?_ ?_) <;> omega) | ((with_reducible refine vp_m2 ?_ ?_) <;> omega))); conv => whnf))
  refine useC hC ?_
  show CT (d + 6) n_X6_textAt [.ref 0, .int (m.1 0 9)] m _
  rw [hu.1]
  refine s_textAt hc hu.2 ?_
  conv => whnf
  repeat (first | (rw [hr.1]; conv => whnf) | (refine br_f ?_ ?_; (focus (first | with_reducible assumption | (intro zz; apply zz; with_reducible assumption) | (simp (disch := omega) only [m1lt, nIm1, m1nI, not_true_eq_false, not_false_eq_true, jl, nI_ltI, nI_leI, nI_eq, nI_toInt]; omega) | (simp (disch := omega) only [m1lt, nIm1, m1nI, not_true_eq_false, not_false_eq_true, jl, nI_ltI, nI_leI, nI_eq, nI_toInt]; done))); conv => whnf) | (refine br_t ?_ ?_; (focus (first | with_reducible assumption | (intro zz; apply zz; with_reducible assumption) | (simp (disch := omega) only [m1lt, nIm1, m1nI, not_true_eq_false, not_false_eq_true, jl, nI_ltI, nI_leI, nI_eq, nI_toInt]; omega) | (simp (disch := omega) only [m1lt, nIm1, m1nI, not_true_eq_false, not_false_eq_true, jl, nI_ltI, nI_leI, nI_eq, nI_toInt]; done))); conv => whnf) | (with_reducible refine And.intro nz1 ?_; conv => whnf) | (with_reducible refine And.intro nz0 ?_; conv => whnf) | (refine And.intro ?_ ?_; (focus (first | with_reducible assumption | (intro zz; apply zz; with_reducible assumption) | (simp (disch := omega) only [m1lt, nIm1, m1nI, not_true_eq_false, not_false_eq_true, jl, nI_ltI, nI_leI, nI_eq, nI_toInt]; omega) | (simp (disch := omega) only [m1lt, nIm1, m1nI, not_true_eq_false, not_false_eq_true, jl, nI_ltI, nI_leI, nI_eq, nI_toInt]; done))); conv => whnf) | (refine And.intro ?_ ?_; (focus (first | with_reducible assumption | ((with_reducible refine vp_in_nI ?_ ?_) <;> omega) | ((with_reducible refine vp_0 ?_); omega) | ((with_reducible refine vp_s1 ?_ ?_) <;> omega) | ((with_reducible refine vp_a1 ?_ ?_) <;> omega) | ((with_reducible refine vp_m1 ?_ ?_) <;> omega) | ((with_reducible refine vp_m2 ?_ ?_) <;> omega))); conv => whnf))
  refine useC hC (s_play hr hk (TS_k (by omega)) (by omega) hg hx hs (fun m1 f1 p1 e1 => ?_))
  conv => whnf
  repeat (first | (refine br_f ?_ ?_; (focus (first | with_reducible assumption | (intro zz; apply zz; with_reducible assumption) | (simp (disch := omega) only [m1lt, nIm1, m1nI, not_true_eq_false, not_false_eq_true, jl, nI_ltI, nI_leI, nI_eq, nI_toInt]; omega) | (simp (disch := omega) only [m1lt, nIm1, m1nI, not_true_eq_false, not_false_eq_true, jl, nI_ltI, nI_leI, nI_eq, nI_toInt]; done))); conv => whnf) | (refine br_t ?_ ?_; (focus (first | with_reducible assumption | (intro zz; apply zz; with_reducible assumption) | (simp (disch := omega) only [m1lt, nIm1, m1nI, not_true_eq_false, not_false_eq_true, jl, nI_ltI, nI_leI, nI_eq, nI_toInt]; omega) | (simp (disch := omega) only [m1lt, nIm1, m1nI, not_true_eq_false, not_false_eq_true, jl, nI_ltI, nI_leI, nI_eq, nI_toInt]; done))); conv => whnf) | (with_reducible refine And.intro nz1 ?_; conv => whnf) | (with_reducible refine And.intro nz0 ?_; conv => whnf) | (refine And.intro ?_ ?_; (focus (first | with_reducible assumption | (intro zz; apply zz; with_reducible assumption) | (simp (disch := omega) only [m1lt, nIm1, m1nI, not_true_eq_false, not_false_eq_true, jl, nI_ltI, nI_leI, nI_eq, nI_toInt]; omega) | (simp (disch := omega) only [m1lt, nIm1, m1nI, not_true_eq_false, not_false_eq_true, jl, nI_ltI, nI_leI, nI_eq, nI_toInt]; done))); conv => whnf) | (refine And.intro ?_ ?_; (focus (first | with_reducible assumption | ((with_reducible refine vp_in_nI ?_ ?_) <;> omega) | ((with_reducible refine vp_0 ?_); omega) | ((with_reducible refine vp_s1 ?_ ?_) <;> omega) | ((with_reducible refine vp_a1 ?_ ?_) <;> omega) | ((with_reducible refine vp_m1 ?_ ?_) <;> omega) | ((with_reducible refine vp_m2 ?_ ?_) <;> omega))); conv => whnf))
  refine useC hC (s_rend ?_)
  have h2 := h1 m1 f1
  have h4 : (rn n c (t.2.2.2 u) s).2 < 4 := rn_end
  by_cases e0 : (rn n c (t.2.2.2 u) s).2 = 0
  · rw [if_pos e0] at h2
    rw [e0] at e1
    conv => whnf
    repeat (first | (refine br_f ?_ ?_; (focus (first | with_reducible assumption | (intro zz; apply zz; with_reducible assumption) | (simp (disch := omega) only [e1, m1lt, nIm1, m1nI, not_true_eq_false, not_false_eq_true, jl, nI_ltI, nI_leI, nI_eq, nI_toInt]; omega) | (simp (disch := omega) only [e1, m1lt, nIm1, m1nI, not_true_eq_false, not_false_eq_true, jl, nI_ltI, nI_leI, nI_eq, nI_toInt]; done))); conv => whnf) | (refine br_t ?_ ?_; (focus (first | with_reducible assumption | (intro zz; apply zz; with_reducible assumption) | (simp (disch := omega) only [e1, m1lt, nIm1, m1nI, not_true_eq_false, not_false_eq_true, jl, nI_ltI, nI_leI, nI_eq, nI_toInt]; omega) | (simp (disch := omega) only [e1, m1lt, nIm1, m1nI, not_true_eq_false, not_false_eq_true, jl, nI_ltI, nI_leI, nI_eq, nI_toInt]; done))); conv => whnf) | (with_reducible refine And.intro nz1 ?_; conv => whnf) | (with_reducible refine And.intro nz0 ?_; conv => whnf) | (refine And.intro ?_ ?_; (focus (first | with_reducible assumption | (intro zz; apply zz; with_reducible assumption) | (simp (disch := omega) only [e1, m1lt, nIm1, m1nI, not_true_eq_false, not_false_eq_true, jl, nI_ltI, nI_leI, nI_eq, nI_toInt]; omega) | (simp (disch := omega) only [e1, m1lt, nIm1, m1nI, not_true_eq_false, not_false_eq_true, jl, nI_ltI, nI_leI, nI_eq, nI_toInt]; done))); conv => whnf) | (refine And.intro ?_ ?_; (focus (first | with_reducible assumption | ((with_reducible refine vp_in_nI ?_ ?_) <;> omega) | ((with_reducible refine vp_0 ?_); omega) | ((with_reducible refine vp_s1 ?_ ?_) <;> omega) | ((with_reducible refine vp_a1 ?_ ?_) <;> omega) | ((with_reducible refine vp_m1 ?_ ?_) <;> omega) | ((with_reducible refine vp_m2 ?_ ?_) <;> omega))); conv => whnf))
    exact h2
  · rw [if_neg e0] at h2
    conv => whnf
    repeat (first | (refine br_f ?_ ?_; (focus (first | with_reducible assumption | (intro zz; apply zz; with_reducible assumption) | (simp (disch := omega) only [e1, m1lt, nIm1, m1nI, not_true_eq_false, not_false_eq_true, jl, nI_ltI, nI_leI, nI_eq, nI_toInt]; omega) | (simp (disch := omega) only [e1, m1lt, nIm1, m1nI, not_true_eq_false, not_false_eq_true, jl, nI_ltI, nI_leI, nI_eq, nI_toInt]; done))); conv => whnf) | (refine br_t ?_ ?_; (focus (first | with_reducible assumption | (intro zz; apply zz; with_reducible assumption) | (simp (disch := omega) only [e1, m1lt, nIm1, m1nI, not_true_eq_false, not_false_eq_true, jl, nI_ltI, nI_leI, nI_eq, nI_toInt]; omega) | (simp (disch := omega) only [e1, m1lt, nIm1, m1nI, not_true_eq_false, not_false_eq_true, jl, nI_ltI, nI_leI, nI_eq, nI_toInt]; done))); conv => whnf) | (with_reducible refine And.intro nz1 ?_; conv => whnf) | (with_reducible refine And.intro nz0 ?_; conv => whnf) | (refine And.intro ?_ ?_; (focus (first | with_reducible assumption | (intro zz; apply zz; with_reducible assumption) | (simp (disch := omega) only [e1, m1lt, nIm1, m1nI, not_true_eq_false, not_false_eq_true, jl, nI_ltI, nI_leI, nI_eq, nI_toInt]; omega) | (simp (disch := omega) only [e1, m1lt, nIm1, m1nI, not_true_eq_false, not_false_eq_true, jl, nI_ltI, nI_leI, nI_eq, nI_toInt]; done))); conv => whnf) | (refine And.intro ?_ ?_; (focus (first | with_reducible assumption | ((with_reducible refine vp_in_nI ?_ ?_) <;> omega) | ((with_reducible refine vp_0 ?_); omega) | ((with_reducible refine vp_s1 ?_ ?_) <;> omega) | ((with_reducible refine vp_a1 ?_ ?_) <;> omega) | ((with_reducible refine vp_m1 ?_ ?_) <;> omega) | ((with_reducible refine vp_m2 ?_ ?_) <;> omega))); conv => whnf))
    exact h2
end PLC
end CST
