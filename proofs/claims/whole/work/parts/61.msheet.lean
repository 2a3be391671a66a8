/-! THE MODEL'S CALLS: sheets -/
def SHA : List Nat := [54, 55, 56, 57]
section MSH
variable {g : Gg} {u : Nat} {t : Gt} {p : Gg} {i : Gi} {h : Gh} {m m' : Mm} {d : Nat} {Q : Qr}
theorem MI.toH {k so sz : Nat} {it : Nat → Int32} (hm : MI m g u t p i h) (hf : FrX SHA [] m m') (h1 : ∀ k2, k2 < 4 → k2 ≠ k → MHs m' k2 (h.1 k2) (h.2.1 k2) (h.2.2 k2)) (hs : MHs m' k so sz it) : MI m' g u t p i (hup h k so sz it) := by
  refine ⟨hm.1.fr hf (by decide) (by decide) (by decide), hm.tx hf (by decide) (by decide) (by decide), hm.ru hf (by decide), hm.tp hf (by decide) (by decide), hm.im hf (by decide) (by decide) (by decide), fun j hj => ?_⟩
  show MHs m' j (updf h.1 k so j) (updf h.2.1 k sz j) (updf h.2.2 k it j)
  unfold updf
  by_cases hjk : j = k
  · subst hjk
    rw [if_pos rfl, if_pos rfl, if_pos rfl]
    exact hs
  · rw [if_neg hjk, if_neg hjk, if_neg hjk]
    exact h1 j hj hjk
/-- the other sheets, where only numbers of one changed -/
theorem MHs.oth {k k2 so sz : Nat} {it : Nat → Int32} (h2 : MHs m k2 so sz it) (hk : k2 ≠ k) (h54 : ∀ a, a ≠ k → m'.1 54 a = m.1 54 a) (h55 : ∀ a, a ≠ k → m'.1 55 a = m.1 55 a) (h56 : ∀ a, a ≠ k → m'.1 56 a = m.1 56 a) (h57 : ∀ z, (z < 40 * k ∨ 40 * k + 40 ≤ z) → m'.1 57 z = m.1 57 z) : MHs m' k2 so sz it := by
  refine ⟨h2.1, by rw [h54 k2 hk]; exact h2.2.1, fun z => by rw [h55 k2 hk]; exact h2.2.2.1 z, fun z => ?_⟩
  obtain ⟨a1, a2, a3⟩ := h2.2.2.2 z
  refine ⟨by rw [h56 k2 hk]; exact a1, a2, fun j hj => ?_⟩
  rw [h57 _ (by omega)]
  exact a3 j hj
theorem sh_loop {k n : Nat} {so : Int32} (hk : k < 4) (hn : n ≤ 40) (hso : ¬ so < 0) : ∀ (r j : Nat) (m : Mm), j + r = n → (∀ a, a < j → m.1 57 (40 * k + a) = 0) → (∀ m', FrX [57] [] m m' → (∀ a, a < n → m'.1 57 (40 * k + a) = 0) → (∀ z, (z < 40 * k ∨ 40 * k + 40 ≤ z) → m'.1 57 z = m.1 57 z) → Q (some (.int 1)) m') → WP SH (CT d) Q c_X7_sheet 77 [some (.ref 44), some (.int (nI k)), some (.int so), some (.int (nI n)), some (.int (nI j))] [] m := by
  intro r
  induction r with
  | zero =>
    intro j m hj ha h1
    have e : j = n := by omega
    subst e
    refine wpn mo_X7_sheet (fun C P hC hP => ?_)
    conv => whnf
    repeat (first | (refine br_f ?_ ?_; (focus (first | with_reducible assumption | (intro zz; apply zz; with_reducible assumption) | (simp (disch := omega) only [m1lt, nIm1, m1nI, not_true_eq_false, not_false_eq_true, jl, nI_ltI, nI_leI, nI_eq, nI_toInt]; omega) | (simp (disch := omega) only [m1lt, nIm1, m1nI, not_true_eq_false, not_false_eq_true, jl, nI_ltI, nI_leI, nI_eq, nI_toInt]; done))); conv => whnf) | (refine br_t ?_ ?_; (focus (first | with_reducible assumption | (intro zz; apply zz; with_reducible assumption) | (simp (disch := omega) only [m1lt, nIm1, m1nI, not_true_eq_false, not_false_eq_true, jl, nI_ltI, nI_leI, nI_eq, nI_toInt]; omega) | (simp (disch := omega) only [m1lt, nIm1, m1nI, not_true_eq_false, not_false_eq_true, jl, nI_ltI, nI_leI, nI_eq, nI_toInt]; done))); conv => whnf) | (with_reducible refine And.intro nz1 ?_; conv => whnf) | (with_reducible refine And.intro nz0 ?_; conv => whnf) | (refine And.intro ?_ ?_; (focus (first | with_reducible assumption | (intro zz; apply zz; with_reducible assumption) | (simp (disch := omega) only [m1lt, nIm1, m1nI, not_true_eq_false, not_false_eq_true, jl, nI_ltI, nI_leI, nI_eq, nI_toInt]; omega) | (simp (disch := omega) only [m1lt, nIm1, m1nI, not_true_eq_false, not_false_eq_true, jl, nI_ltI, nI_leI, nI_eq, nI_toInt]; done))); conv => whnf) | (refine And.intro ?_ ?_; (focus (first | with_reducible assumption | ((with_reducible refine vp_in_nI ?_ ?_) <;> omega) | ((with_reducible refine vp_0 ?_); omega) | ((with_reducible refine vp_s1 ?_ ?_) <;> omega) | ((with_reducible refine vp_a1 ?_ ?_) <;> omega) | ((with_reducible refine vp_m1 ?_ ?_) <;> omega) | ((with_reducible refine vp_m2 ?_ ?_) <;> omega))); conv => whnf))
    exact h1 m FrX.rf ha (fun _ _ => rfl)
  | succ r ih =>
    intro j m hj ha h1
    have ei : 40 * nI k + nI j = nI (40 * k + j) := by rw [jl 40, pk_mul, nI_add]
    have ci : (nI (40 * k + j)).toNatClampNeg = 40 * k + j := nI_clamp (by omega)
    have hv : vp_in (40 * nI k + nI j) 160 := by rw [ei]; exact vp_in_nI (by omega) (by omega)
    refine wpn mo_X7_sheet (fun C P hC hP => ?_)
    conv => whnf
    repeat (first | (refine br_f ?_ ?_; (focus (first | with_reducible assumption | (intro zz; apply zz; with_reducible assumption) | (simp (disch := omega) only [m1lt, nIm1, m1nI, not_true_eq_false, not_false_eq_true, jl, nI_ltI, nI_leI, nI_eq, nI_toInt]; omega) | (simp (disch := omega) only [m1lt, nIm1, m1nI, not_true_eq_false, not_false_eq_true, jl, nI_ltI, nI_leI, nI_eq, nI_toInt]; done))); conv => whnf) | (refine br_t ?_ ?_; (focus (first | with_reducible assumption | (intro zz; apply zz; with_reducible assumption) | (simp (disch := omega) only [m1lt, nIm1, m1nI, not_true_eq_false, not_false_eq_true, jl, nI_ltI, nI_leI, nI_eq, nI_toInt]; omega) | (simp (disch := omega) only [m1lt, nIm1, m1nI, not_true_eq_false, not_false_eq_true, jl, nI_ltI, nI_leI, nI_eq, nI_toInt]; done))); conv => whnf) | (with_reducible refine And.intro nz1 ?_; conv => whnf) | (with_reducible refine And.intro nz0 ?_; conv => whnf) | (refine And.intro ?_ ?_; (focus (first | with_reducible assumption | (intro zz; apply zz; with_reducible assumption) | (simp (disch := omega) only [m1lt, nIm1, m1nI, not_true_eq_false, not_false_eq_true, jl, nI_ltI, nI_leI, nI_eq, nI_toInt]; omega) | (simp (disch := omega) only [m1lt, nIm1, m1nI, not_true_eq_false, not_false_eq_true, jl, nI_ltI, nI_leI, nI_eq, nI_toInt]; done))); conv => whnf) | (refine And.intro ?_ ?_; (focus (first | with_reducible assumption | ((with_reducible refine vp_in_nI ?_ ?_) <;> omega) | ((with_reducible refine vp_0 ?_); omega) | ((with_reducible refine vp_s1 ?_ ?_) <;> omega) | ((with_reducible refine vp_a1 ?_ ?_) <;> omega) | ((with_reducible refine vp_m1 ?_ ?_) <;> omega) | ((with_reducible refine vp_m2 ?_ ?_) <;> omega))); conv => whnf))
    refine hP _ _ _ _ ?_
    show WP SH (CT d) Q c_X7_sheet 77 [some (.ref 44), some (.int (nI k)), some (.int so), some (.int (nI n)), some (.int (nI j + 1))] [] (mu m.1 57 (40 * nI k + nI j).toNatClampNeg 0, m.2)
    rw [ei, ci, nI_1]
    refine ih (j + 1) _ (by omega) (fun a z => ?_) (fun m' f' e1 e2 => h1 m' ((FrX.cell (by simp) (by decide)).tr f') e1 (fun z hz => ?_))
    · show mu m.1 57 (40 * k + j) 0 57 (40 * k + a) = 0
      rw [mu_at]
      by_cases haj : a = j
      · rw [if_pos (by omega)]
      · rw [if_neg (by omega)]
        exact ha a (by omega)
    · rw [e2 z hz]
      show mu m.1 57 (40 * k + j) 0 57 z = _
      rw [mu_at, if_neg (by omega)]
theorem sh_neg {x1 so n : Int32} (hso : so < 0) (h1 : Q (some (.int 1)) m) : WP SH (CT d) Q c_X7_sheet 77 [some (.ref 44), some (.int x1), some (.int so), some (.int n), some (.int 0)] [] m := by
  refine wpn mo_X7_sheet (fun C P hC hP => ?_)
  conv => whnf
  refine br_c (fun _ => ?_) (fun _ => ?_)
  · conv => whnf
    repeat (first | (refine br_f ?_ ?_; (focus (first | with_reducible assumption | (intro zz; apply zz; with_reducible assumption) | (simp (disch := omega) only [m1lt, nIm1, m1nI, not_true_eq_false, not_false_eq_true, jl, nI_ltI, nI_leI, nI_eq, nI_toInt]; omega) | (simp (disch := omega) only [m1lt, nIm1, m1nI, not_true_eq_false, not_false_eq_true, jl, nI_ltI, nI_leI, nI_eq, nI_toInt]; done))); conv => whnf) | (refine br_t ?_ ?_; (focus (first | with_reducible assumption | (intro zz; apply zz; with_reducible assumption) | (simp (disch := omega) only [m1lt, nIm1, m1nI, not_true_eq_false, not_false_eq_true, jl, nI_ltI, nI_leI, nI_eq, nI_toInt]; omega) | (simp (disch := omega) only [m1lt, nIm1, m1nI, not_true_eq_false, not_false_eq_true, jl, nI_ltI, nI_leI, nI_eq, nI_toInt]; done))); conv => whnf) | (with_reducible refine And.intro nz1 ?_; conv => whnf) | (with_reducible refine And.intro nz0 ?_; conv => whnf) | (refine And.intro ?_ ?_; (focus (first | with_reducible assumption | (intro zz; apply zz; with_reducible assumption) | (simp (disch := omega) only [m1lt, nIm1, m1nI, not_true_eq_false, not_false_eq_true, jl, nI_ltI, nI_leI, nI_eq, nI_toInt]; omega) | (simp (disch := omega) only [m1lt, nIm1, m1nI, not_true_eq_false, not_false_eq_true, jl, nI_ltI, nI_leI, nI_eq, nI_toInt]; done))); conv => whnf) | (refine And.intro ?_ ?_; (focus (first | with_reducible assumption | ((with_reducible refine vp_in_nI ?_ ?_) <;> omega) | ((with_reducible refine vp_0 ?_); omega) | ((with_reducible refine vp_s1 ?_ ?_) <;> omega) | ((with_reducible refine vp_a1 ?_ ?_) <;> omega) | ((with_reducible refine vp_m1 ?_ ?_) <;> omega) | ((with_reducible refine vp_m2 ?_ ?_) <;> omega))); conv => whnf))
    exact h1
  · conv => whnf
    repeat (first | (refine br_f ?_ ?_; (focus (first | with_reducible assumption | (intro zz; apply zz; with_reducible assumption) | (simp (disch := omega) only [m1lt, nIm1, m1nI, not_true_eq_false, not_false_eq_true, jl, nI_ltI, nI_leI, nI_eq, nI_toInt]; omega) | (simp (disch := omega) only [m1lt, nIm1, m1nI, not_true_eq_false, not_false_eq_true, jl, nI_ltI, nI_leI, nI_eq, nI_toInt]; done))); conv => whnf) | (refine br_t ?_ ?_; (focus (first | with_reducible assumption | (intro zz; apply zz; with_reducible assumption) | (simp (disch := omega) only [m1lt, nIm1, m1nI, not_true_eq_false, not_false_eq_true, jl, nI_ltI, nI_leI, nI_eq, nI_toInt]; omega) | (simp (disch := omega) only [m1lt, nIm1, m1nI, not_true_eq_false, not_false_eq_true, jl, nI_ltI, nI_leI, nI_eq, nI_toInt]; done))); conv => whnf) | (with_reducible refine And.intro nz1 ?_; conv => whnf) | (with_reducible refine And.intro nz0 ?_; conv => whnf) | (refine And.intro ?_ ?_; (focus (first | with_reducible assumption | (intro zz; apply zz; with_reducible assumption) | (simp (disch := omega) only [m1lt, nIm1, m1nI, not_true_eq_false, not_false_eq_true, jl, nI_ltI, nI_leI, nI_eq, nI_toInt]; omega) | (simp (disch := omega) only [m1lt, nIm1, m1nI, not_true_eq_false, not_false_eq_true, jl, nI_ltI, nI_leI, nI_eq, nI_toInt]; done))); conv => whnf) | (refine And.intro ?_ ?_; (focus (first | with_reducible assumption | ((with_reducible refine vp_in_nI ?_ ?_) <;> omega) | ((with_reducible refine vp_0 ?_); omega) | ((with_reducible refine vp_s1 ?_ ?_) <;> omega) | ((with_reducible refine vp_a1 ?_ ?_) <;> omega) | ((with_reducible refine vp_m1 ?_ ?_) <;> omega) | ((with_reducible refine vp_m2 ?_ ?_) <;> omega))); conv => whnf))
    exact h1
theorem y_sheet {s so n : Int32} (hm : MI m g u t p i h) (h1 : ∀ m', MI m' g u t p i (aSheet s so n h).2 → FrX SHA [] m m' → Q (some (.int (aSheet s so n h).1)) m') : CT (d + 3) n_X7_sheet [.ref 44, .int s, .int so, .int n] m Q := by
  have hsh := hm.2.2.2.2.2
  unfold aSheet at h1
  refine opn cd_X7_sheet rfl (fun C P hC hP => ?_)
  unfold c_X7_sheet; generalize hT : c_X7_sheet_77 = T
  conv => whnf
  repeat (first | (refine br_f ?_ ?_; (focus (first | with_reducible assumption | (intro zz; apply zz; with_reducible assumption) | (simp (disch := omega) only [m1lt, nIm1, m1nI, not_true_eq_false, not_false_eq_true, jl, nI_ltI, nI_leI, nI_eq, nI_toInt]; omega) | (simp (disch := omega) only [m1lt, nIm1, m1nI, not_true_eq_false, not_false_eq_true, jl, nI_ltI, nI_leI, nI_eq, nI_toInt]; done))); conv => whnf) | (refine br_t ?_ ?_; (focus (first | with_reducible assumption | (intro zz; apply zz; with_reducible assumption) | (simp (disch := omega) only [m1lt, nIm1, m1nI, not_true_eq_false, not_false_eq_true, jl, nI_ltI, nI_leI, nI_eq, nI_toInt]; omega) | (simp (disch := omega) only [m1lt, nIm1, m1nI, not_true_eq_false, not_false_eq_true, jl, nI_ltI, nI_leI, nI_eq, nI_toInt]; done))); conv => whnf) | (with_reducible refine And.intro nz1 ?_; conv => whnf) | (with_reducible refine And.intro nz0 ?_; conv => whnf) | (refine And.intro ?_ ?_; (focus (first | with_reducible assumption | (intro zz; apply zz; with_reducible assumption) | (simp (disch := omega) only [m1lt, nIm1, m1nI, not_true_eq_false, not_false_eq_true, jl, nI_ltI, nI_leI, nI_eq, nI_toInt]; omega) | (simp (disch := omega) only [m1lt, nIm1, m1nI, not_true_eq_false, not_false_eq_true, jl, nI_ltI, nI_leI, nI_eq, nI_toInt]; done))); conv => whnf) | (refine And.intro ?_ ?_; (focus (first | with_reducible assumption | ((with_reducible refine vp_in_nI ?_ ?_) <;> omega) | ((with_reducible refine vp_0 ?_); omega) | ((with_reducible refine vp_s1 ?_ ?_) <;> omega) | ((with_reducible refine vp_a1 ?_ ?_) <;> omega) | ((with_reducible refine vp_m1 ?_ ?_) <;> omega) | ((with_reducible refine vp_m2 ?_ ?_) <;> omega))); conv => whnf))
  refine useC hC (y_isSheet ?_)
  cases e0 : ixo s 4 with
  | none =>
    rw [e0] at h1
    conv => whnf
    repeat (first | (refine br_f ?_ ?_; (focus (first | with_reducible assumption | (intro zz; apply zz; with_reducible assumption) | (simp (disch := omega) only [m1lt, nIm1, m1nI, not_true_eq_false, not_false_eq_true, jl, nI_ltI, nI_leI, nI_eq, nI_toInt]; omega) | (simp (disch := omega) only [m1lt, nIm1, m1nI, not_true_eq_false, not_false_eq_true, jl, nI_ltI, nI_leI, nI_eq, nI_toInt]; done))); conv => whnf) | (refine br_t ?_ ?_; (focus (first | with_reducible assumption | (intro zz; apply zz; with_reducible assumption) | (simp (disch := omega) only [m1lt, nIm1, m1nI, not_true_eq_false, not_false_eq_true, jl, nI_ltI, nI_leI, nI_eq, nI_toInt]; omega) | (simp (disch := omega) only [m1lt, nIm1, m1nI, not_true_eq_false, not_false_eq_true, jl, nI_ltI, nI_leI, nI_eq, nI_toInt]; done))); conv => whnf) | (with_reducible refine And.intro nz1 ?_; conv => whnf) | (with_reducible refine And.intro nz0 ?_; conv => whnf) | (refine And.intro ?_ ?_; (focus (first | with_reducible assumption | (intro zz; apply zz; with_reducible assumption) | (simp (disch := omega) only [m1lt, nIm1, m1nI, not_true_eq_false, not_false_eq_true, jl, nI_ltI, nI_leI, nI_eq, nI_toInt]; omega) | (simp (disch := omega) only [m1lt, nIm1, m1nI, not_true_eq_false, not_false_eq_true, jl, nI_ltI, nI_leI, nI_eq, nI_toInt]; done))); conv => whnf) | (refine And.intro ?_ ?_; (focus (first | with_reducible assumption | ((with_reducible refine vp_in_nI ?_ ?_) <;> omega) | ((with_reducible refine vp_0 ?_); omega) | ((with_reducible refine vp_s1 ?_ ?_) <;> omega) | ((with_reducible refine vp_a1 ?_ ?_) <;> omega) | ((with_reducible refine vp_m1 ?_ ?_) <;> omega) | ((with_reducible refine vp_m2 ?_ ?_) <;> omega))); conv => whnf))
    exact h1 m hm FrX.rf
  | some k =>
    rw [e0] at h1
    obtain ⟨rfl, hk⟩ := ixo_some (by decide) e0
    have ck : (nI k).toNatClampNeg = k := nI_clamp (by omega)
    conv => whnf
    repeat (first | (refine br_f ?_ ?_; (focus (first | with_reducible assumption | (intro zz; apply zz; with_reducible assumption) | (simp (disch := omega) only [m1lt, nIm1, m1nI, not_true_eq_false, not_false_eq_true, jl, nI_ltI, nI_leI, nI_eq, nI_toInt]; omega) | (simp (disch := omega) only [m1lt, nIm1, m1nI, not_true_eq_false, not_false_eq_true, jl, nI_ltI, nI_leI, nI_eq, nI_toInt]; done))); conv => whnf) | (refine br_t ?_ ?_; (focus (first | with_reducible assumption | (intro zz; apply zz; with_reducible assumption) | (simp (disch := omega) only [m1lt, nIm1, m1nI, not_true_eq_false, not_false_eq_true, jl, nI_ltI, nI_leI, nI_eq, nI_toInt]; omega) | (simp (disch := omega) only [m1lt, nIm1, m1nI, not_true_eq_false, not_false_eq_true, jl, nI_ltI, nI_leI, nI_eq, nI_toInt]; done))); conv => whnf) | (with_reducible refine And.intro nz1 ?_; conv => whnf) | (with_reducible refine And.intro nz0 ?_; conv => whnf) | (refine And.intro ?_ ?_; (focus (first | with_reducible assumption | (intro zz; apply zz; with_reducible assumption) | (simp (disch := omega) only [m1lt, nIm1, m1nI, not_true_eq_false, not_false_eq_true, jl, nI_ltI, nI_leI, nI_eq, nI_toInt]; omega) | (simp (disch := omega) only [m1lt, nIm1, m1nI, not_true_eq_false, not_false_eq_true, jl, nI_ltI, nI_leI, nI_eq, nI_toInt]; done))); conv => whnf) | (refine And.intro ?_ ?_; (focus (first | with_reducible assumption | ((with_reducible refine vp_in_nI ?_ ?_) <;> omega) | ((with_reducible refine vp_0 ?_); omega) | ((with_reducible refine vp_s1 ?_ ?_) <;> omega) | ((with_reducible refine vp_a1 ?_ ?_) <;> omega) | ((with_reducible refine vp_m1 ?_ ?_) <;> omega) | ((with_reducible refine vp_m2 ?_ ?_) <;> omega))); conv => whnf))
    refine useC hC (s_in (a := -1) (c := 2) rfl rfl ?_)
    by_cases hso : so = -1
    · subst hso
      simp only [if_true] at h1
      have z0 : (-1 : Int32) < 0 := by decide
      rw [if_pos (by decide)]
      conv => whnf
      repeat (first | (refine br_f ?_ ?_; (focus (first | with_reducible assumption | (intro zz; apply zz; with_reducible assumption) | (simp (disch := omega) only [m1lt, nIm1, m1nI, not_true_eq_false, not_false_eq_true, jl, nI_ltI, nI_leI, nI_eq, nI_toInt]; omega) | (simp (disch := omega) only [m1lt, nIm1, m1nI, not_true_eq_false, not_false_eq_true, jl, nI_ltI, nI_leI, nI_eq, nI_toInt]; done))); conv => whnf) | (refine br_t ?_ ?_; (focus (first | with_reducible assumption | (intro zz; apply zz; with_reducible assumption) | (simp (disch := omega) only [m1lt, nIm1, m1nI, not_true_eq_false, not_false_eq_true, jl, nI_ltI, nI_leI, nI_eq, nI_toInt]; omega) | (simp (disch := omega) only [m1lt, nIm1, m1nI, not_true_eq_false, not_false_eq_true, jl, nI_ltI, nI_leI, nI_eq, nI_toInt]; done))); conv => whnf) | (with_reducible refine And.intro nz1 ?_; conv => whnf) | (with_reducible refine And.intro nz0 ?_; conv => whnf) | (refine And.intro ?_ ?_; (focus (first | with_reducible assumption | (intro zz; apply zz; with_reducible assumption) | (simp (disch := omega) only [m1lt, nIm1, m1nI, not_true_eq_false, not_false_eq_true, jl, nI_ltI, nI_leI, nI_eq, nI_toInt]; omega) | (simp (disch := omega) only [m1lt, nIm1, m1nI, not_true_eq_false, not_false_eq_true, jl, nI_ltI, nI_leI, nI_eq, nI_toInt]; done))); conv => whnf) | (refine And.intro ?_ ?_; (focus (first | with_reducible assumption | ((with_reducible refine vp_in_nI ?_ ?_) <;> omega) | ((with_reducible refine vp_0 ?_); omega) | ((with_reducible refine vp_s1 ?_ ?_) <;> omega) | ((with_reducible refine vp_a1 ?_ ?_) <;> omega) | ((with_reducible refine vp_m1 ?_ ?_) <;> omega) | ((with_reducible refine vp_m2 ?_ ?_) <;> omega))); conv => whnf))
      refine ⟨Or.inl rfl, ?_⟩
      conv => whnf
      repeat (first | (refine br_f ?_ ?_; (focus (first | with_reducible assumption | (intro zz; apply zz; with_reducible assumption) | (simp (disch := omega) only [m1lt, nIm1, m1nI, not_true_eq_false, not_false_eq_true, jl, nI_ltI, nI_leI, nI_eq, nI_toInt]; omega) | (simp (disch := omega) only [m1lt, nIm1, m1nI, not_true_eq_false, not_false_eq_true, jl, nI_ltI, nI_leI, nI_eq, nI_toInt]; done))); conv => whnf) | (refine br_t ?_ ?_; (focus (first | with_reducible assumption | (intro zz; apply zz; with_reducible assumption) | (simp (disch := omega) only [m1lt, nIm1, m1nI, not_true_eq_false, not_false_eq_true, jl, nI_ltI, nI_leI, nI_eq, nI_toInt]; omega) | (simp (disch := omega) only [m1lt, nIm1, m1nI, not_true_eq_false, not_false_eq_true, jl, nI_ltI, nI_leI, nI_eq, nI_toInt]; done))); conv => whnf) | (with_reducible refine And.intro nz1 ?_; conv => whnf) | (with_reducible refine And.intro nz0 ?_; conv => whnf) | (refine And.intro ?_ ?_; (focus (first | with_reducible assumption | (intro zz; apply zz; with_reducible assumption) | (simp (disch := omega) only [m1lt, nIm1, m1nI, not_true_eq_false, not_false_eq_true, jl, nI_ltI, nI_leI, nI_eq, nI_toInt]; omega) | (simp (disch := omega) only [m1lt, nIm1, m1nI, not_true_eq_false, not_false_eq_true, jl, nI_ltI, nI_leI, nI_eq, nI_toInt]; done))); conv => whnf) | (refine And.intro ?_ ?_; (focus (first | with_reducible assumption | ((with_reducible refine vp_in_nI ?_ ?_) <;> omega) | ((with_reducible refine vp_0 ?_); omega) | ((with_reducible refine vp_s1 ?_ ?_) <;> omega) | ((with_reducible refine vp_a1 ?_ ?_) <;> omega) | ((with_reducible refine vp_m1 ?_ ?_) <;> omega) | ((with_reducible refine vp_m2 ?_ ?_) <;> omega))); conv => whnf))
      subst hT
      refine hd_X7_sheet_77 hC hP ?_
      rw [ck]
      refine sh_neg z0 ?_
      have f1 : FrX SHA [] m (mu (mu (mu m.1 54 k 0) 55 k (-1)) 56 k n, m.2) := ((FrX.cell (by decide) (by decide)).tr (FrX.cell (m := (mu m.1 54 k 0, m.2)) (by decide) (by decide))).tr (FrX.cell (m := (mu (mu m.1 54 k 0) 55 k (-1), m.2)) (by decide) (by decide))
      refine h1 _ (hm.toH f1 (fun k2 hk2 hne => (hsh k2 hk2).oth hne (fun a ha => ?_) (fun a ha => ?_) (fun a ha => ?_) (fun z hz => ?_)) ⟨by decide, ?_, fun z => absurd rfl z, fun z => absurd rfl z⟩) f1
      · show mu (mu (mu m.1 54 k 0) 55 k (-1)) 56 k n 54 a = _
        rw [mu_ne (by decide), mu_ne (by decide), mu_at, if_neg ha]
      · show mu (mu (mu m.1 54 k 0) 55 k (-1)) 56 k n 55 a = _
        rw [mu_ne (by decide), mu_at, if_neg ha, mu_ne (by decide)]
      · show mu (mu (mu m.1 54 k 0) 55 k (-1)) 56 k n 56 a = _
        rw [mu_at, if_neg ha, mu_ne (by decide), mu_ne (by decide)]
      · show mu (mu (mu m.1 54 k 0) 55 k (-1)) 56 k n 57 z = _
        rw [mu_ne (by decide), mu_ne (by decide), mu_ne (by decide)]
      · show mu (mu (mu m.1 54 k 0) 55 k (-1)) 56 k n 54 k = _
        rw [mu_ne (by decide), mu_ne (by decide), mu_at, if_pos rfl]
        rfl
    · simp only [if_neg hso] at h1
      cases e1 : ixo so 3 with
      | none =>
        rw [e1] at h1
        have hno : ¬ ((-1 : Int) ≤ so.toInt ∧ so.toInt ≤ 2) := by
          intro z
          unfold ixo at e1
          by_cases z0 : 0 ≤ so.toInt
          · rw [if_pos (by omega)] at e1
            cases e1
          · exact hso (Int32.toInt_inj.mp (by rw [show ((-1 : Int32)).toInt = -1 from rfl]; omega))
        rw [if_neg hno]
        conv => whnf
        repeat (first | (refine br_f ?_ ?_; (focus (first | with_reducible assumption | (intro zz; apply zz; with_reducible assumption) | (simp (disch := omega) only [m1lt, nIm1, m1nI, not_true_eq_false, not_false_eq_true, jl, nI_ltI, nI_leI, nI_eq, nI_toInt]; omega) | (simp (disch := omega) only [m1lt, nIm1, m1nI, not_true_eq_false, not_false_eq_true, jl, nI_ltI, nI_leI, nI_eq, nI_toInt]; done))); conv => whnf) | (refine br_t ?_ ?_; (focus (first | with_reducible assumption | (intro zz; apply zz; with_reducible assumption) | (simp (disch := omega) only [m1lt, nIm1, m1nI, not_true_eq_false, not_false_eq_true, jl, nI_ltI, nI_leI, nI_eq, nI_toInt]; omega) | (simp (disch := omega) only [m1lt, nIm1, m1nI, not_true_eq_false, not_false_eq_true, jl, nI_ltI, nI_leI, nI_eq, nI_toInt]; done))); conv => whnf) | (with_reducible refine And.intro nz1 ?_; conv => whnf) | (with_reducible refine And.intro nz0 ?_; conv => whnf) | (refine And.intro ?_ ?_; (focus (first | with_reducible assumption | (intro zz; apply zz; with_reducible assumption) | (simp (disch := omega) only [m1lt, nIm1, m1nI, not_true_eq_false, not_false_eq_true, jl, nI_ltI, nI_leI, nI_eq, nI_toInt]; omega) | (simp (disch := omega) only [m1lt, nIm1, m1nI, not_true_eq_false, not_false_eq_true, jl, nI_ltI, nI_leI, nI_eq, nI_toInt]; done))); conv => whnf) | (refine And.intro ?_ ?_; (focus (first | with_reducible assumption | ((with_reducible refine vp_in_nI ?_ ?_) <;> omega) | ((with_reducible refine vp_0 ?_); omega) | ((with_reducible refine vp_s1 ?_ ?_) <;> omega) | ((with_reducible refine vp_a1 ?_ ?_) <;> omega) | ((with_reducible refine vp_m1 ?_ ?_) <;> omega) | ((with_reducible refine vp_m2 ?_ ?_) <;> omega))); conv => whnf))
        exact h1 m hm FrX.rf
      | some a =>
        rw [e1] at h1
        obtain ⟨rfl, ha⟩ := ixo_some (by decide) e1
        rw [if_pos (by rw [nI_toInt (by omega)]; omega)]
        rcases ixc n (n := 41) (by decide) with ⟨f, y, -⟩ | ⟨f, ⟨y1, y2, y3⟩, -⟩ | ⟨b, hb, f1, f⟩
        · have y5 : ¬ 40 < n := fun z => by
            have z1 := Int32.lt_iff_toInt_lt.mp z
            have z2 := Int32.lt_iff_toInt_lt.mp y
            rw [show (0 : Int32).toInt = 0 from rfl] at z2
            rw [show (40 : Int32).toInt = 40 from rfl] at z1
            omega
          have y6 : n ≤ 40 := Int32.not_lt.mp y5
          have y7 : ¬ 0 ≤ n := Int32.not_le.mpr y
          simp only [if_neg y5, if_pos y] at h1
          conv => whnf
          repeat (first | (refine br_f ?_ ?_; (focus (first | with_reducible assumption | (intro zz; apply zz; with_reducible assumption) | (simp (disch := omega) only [m1lt, nIm1, m1nI, not_true_eq_false, not_false_eq_true, jl, nI_ltI, nI_leI, nI_eq, nI_toInt]; omega) | (simp (disch := omega) only [m1lt, nIm1, m1nI, not_true_eq_false, not_false_eq_true, jl, nI_ltI, nI_leI, nI_eq, nI_toInt]; done))); conv => whnf) | (refine br_t ?_ ?_; (focus (first | with_reducible assumption | (intro zz; apply zz; with_reducible assumption) | (simp (disch := omega) only [m1lt, nIm1, m1nI, not_true_eq_false, not_false_eq_true, jl, nI_ltI, nI_leI, nI_eq, nI_toInt]; omega) | (simp (disch := omega) only [m1lt, nIm1, m1nI, not_true_eq_false, not_false_eq_true, jl, nI_ltI, nI_leI, nI_eq, nI_toInt]; done))); conv => whnf) | (with_reducible refine And.intro nz1 ?_; conv => whnf) | (with_reducible refine And.intro nz0 ?_; conv => whnf) | (refine And.intro ?_ ?_; (focus (first | with_reducible assumption | (intro zz; apply zz; with_reducible assumption) | (simp (disch := omega) only [m1lt, nIm1, m1nI, not_true_eq_false, not_false_eq_true, jl, nI_ltI, nI_leI, nI_eq, nI_toInt]; omega) | (simp (disch := omega) only [m1lt, nIm1, m1nI, not_true_eq_false, not_false_eq_true, jl, nI_ltI, nI_leI, nI_eq, nI_toInt]; done))); conv => whnf) | (refine And.intro ?_ ?_; (focus (first | with_reducible assumption | ((with_reducible refine vp_in_nI ?_ ?_) <;> omega) | ((with_reducible refine vp_0 ?_); omega) | ((with_reducible refine vp_s1 ?_ ?_) <;> omega) | ((with_reducible refine vp_a1 ?_ ?_) <;> omega) | ((with_reducible refine vp_m1 ?_ ?_) <;> omega) | ((with_reducible refine vp_m2 ?_ ?_) <;> omega))); conv => whnf))
          exact h1 m hm FrX.rf
        · have y5 : 40 < n := by
            have z1 := Int32.le_iff_toInt_le.mp y2
            rw [nI_toInt (by decide)] at z1
            refine Int32.lt_iff_toInt_lt.mpr ?_
            rw [show (40 : Int32).toInt = 40 from rfl]
            omega
          have y6 : ¬ n ≤ 40 := Int32.not_le.mpr y5
          simp only [if_pos y5] at h1
          conv => whnf
          repeat (first | (refine br_f ?_ ?_; (focus (first | with_reducible assumption | (intro zz; apply zz; with_reducible assumption) | (simp (disch := omega) only [m1lt, nIm1, m1nI, not_true_eq_false, not_false_eq_true, jl, nI_ltI, nI_leI, nI_eq, nI_toInt]; omega) | (simp (disch := omega) only [m1lt, nIm1, m1nI, not_true_eq_false, not_false_eq_true, jl, nI_ltI, nI_leI, nI_eq, nI_toInt]; done))); conv => whnf) | (refine br_t ?_ ?_; (focus (first | with_reducible assumption | (intro zz; apply zz; with_reducible assumption) | (simp (disch := omega) only [m1lt, nIm1, m1nI, not_true_eq_false, not_false_eq_true, jl, nI_ltI, nI_leI, nI_eq, nI_toInt]; omega) | (simp (disch := omega) only [m1lt, nIm1, m1nI, not_true_eq_false, not_false_eq_true, jl, nI_ltI, nI_leI, nI_eq, nI_toInt]; done))); conv => whnf) | (with_reducible refine And.intro nz1 ?_; conv => whnf) | (with_reducible refine And.intro nz0 ?_; conv => whnf) | (refine And.intro ?_ ?_; (focus (first | with_reducible assumption | (intro zz; apply zz; with_reducible assumption) | (simp (disch := omega) only [m1lt, nIm1, m1nI, not_true_eq_false, not_false_eq_true, jl, nI_ltI, nI_leI, nI_eq, nI_toInt]; omega) | (simp (disch := omega) only [m1lt, nIm1, m1nI, not_true_eq_false, not_false_eq_true, jl, nI_ltI, nI_leI, nI_eq, nI_toInt]; done))); conv => whnf) | (refine And.intro ?_ ?_; (focus (first | with_reducible assumption | ((with_reducible refine vp_in_nI ?_ ?_) <;> omega) | ((with_reducible refine vp_0 ?_); omega) | ((with_reducible refine vp_s1 ?_ ?_) <;> omega) | ((with_reducible refine vp_a1 ?_ ?_) <;> omega) | ((with_reducible refine vp_m1 ?_ ?_) <;> omega) | ((with_reducible refine vp_m2 ?_ ?_) <;> omega))); conv => whnf))
          exact h1 m hm FrX.rf
        · subst f1
          have y5 : ¬ (40 : Int32) < nI b := by rw [jl 40, nI_ltI (by decide) (by omega)]; omega
          have y6 : ¬ nI b < 0 := nI_pos (by omega)
          have y7 : ¬ nI a < 0 := nI_pos (by omega)
          simp only [if_neg y5, if_neg y6, nI_clamp (show b < 2 ^ 31 by omega)] at h1
          conv => whnf
          repeat (first | (refine br_f ?_ ?_; (focus (first | with_reducible assumption | (intro zz; apply zz; with_reducible assumption) | (simp (disch := omega) only [m1lt, nIm1, m1nI, not_true_eq_false, not_false_eq_true, jl, nI_ltI, nI_leI, nI_eq, nI_toInt]; omega) | (simp (disch := omega) only [m1lt, nIm1, m1nI, not_true_eq_false, not_false_eq_true, jl, nI_ltI, nI_leI, nI_eq, nI_toInt]; done))); conv => whnf) | (refine br_t ?_ ?_; (focus (first | with_reducible assumption | (intro zz; apply zz; with_reducible assumption) | (simp (disch := omega) only [m1lt, nIm1, m1nI, not_true_eq_false, not_false_eq_true, jl, nI_ltI, nI_leI, nI_eq, nI_toInt]; omega) | (simp (disch := omega) only [m1lt, nIm1, m1nI, not_true_eq_false, not_false_eq_true, jl, nI_ltI, nI_leI, nI_eq, nI_toInt]; done))); conv => whnf) | (with_reducible refine And.intro nz1 ?_; conv => whnf) | (with_reducible refine And.intro nz0 ?_; conv => whnf) | (refine And.intro ?_ ?_; (focus (first | with_reducible assumption | (intro zz; apply zz; with_reducible assumption) | (simp (disch := omega) only [m1lt, nIm1, m1nI, not_true_eq_false, not_false_eq_true, jl, nI_ltI, nI_leI, nI_eq, nI_toInt]; omega) | (simp (disch := omega) only [m1lt, nIm1, m1nI, not_true_eq_false, not_false_eq_true, jl, nI_ltI, nI_leI, nI_eq, nI_toInt]; done))); conv => whnf) | (refine And.intro ?_ ?_; (focus (first | with_reducible assumption | ((with_reducible refine vp_in_nI ?_ ?_) <;> omega) | ((with_reducible refine vp_0 ?_); omega) | ((with_reducible refine vp_s1 ?_ ?_) <;> omega) | ((with_reducible refine vp_a1 ?_ ?_) <;> omega) | ((with_reducible refine vp_m1 ?_ ?_) <;> omega) | ((with_reducible refine vp_m2 ?_ ?_) <;> omega))); conv => whnf))
          refine ⟨Or.inr rfl, ?_⟩
          conv => whnf
          repeat (first | (refine br_f ?_ ?_; (focus (first | with_reducible assumption | (intro zz; apply zz; with_reducible assumption) | (simp (disch := omega) only [m1lt, nIm1, m1nI, not_true_eq_false, not_false_eq_true, jl, nI_ltI, nI_leI, nI_eq, nI_toInt]; omega) | (simp (disch := omega) only [m1lt, nIm1, m1nI, not_true_eq_false, not_false_eq_true, jl, nI_ltI, nI_leI, nI_eq, nI_toInt]; done))); conv => whnf) | (refine br_t ?_ ?_; (focus (first | with_reducible assumption | (intro zz; apply zz; with_reducible assumption) | (simp (disch := omega) only [m1lt, nIm1, m1nI, not_true_eq_false, not_false_eq_true, jl, nI_ltI, nI_leI, nI_eq, nI_toInt]; omega) | (simp (disch := omega) only [m1lt, nIm1, m1nI, not_true_eq_false, not_false_eq_true, jl, nI_ltI, nI_leI, nI_eq, nI_toInt]; done))); conv => whnf) | (with_reducible refine And.intro nz1 ?_; conv => whnf) | (with_reducible refine And.intro nz0 ?_; conv => whnf) | (refine And.intro ?_ ?_; (focus (first | with_reducible assumption | (intro zz; apply zz; with_reducible assumption) | (simp (disch := omega) only [m1lt, nIm1, m1nI, not_true_eq_false, not_false_eq_true, jl, nI_ltI, nI_leI, nI_eq, nI_toInt]; omega) | (simp (disch := omega) only [m1lt, nIm1, m1nI, not_true_eq_false, not_false_eq_true, jl, nI_ltI, nI_leI, nI_eq, nI_toInt]; done))); conv => whnf) | (refine And.intro ?_ ?_; (focus (first | with_reducible assumption | ((with_reducible refine vp_in_nI ?_ ?_) <;> omega) | ((with_reducible refine vp_0 ?_); omega) | ((with_reducible refine vp_s1 ?_ ?_) <;> omega) | ((with_reducible refine vp_a1 ?_ ?_) <;> omega) | ((with_reducible refine vp_m1 ?_ ?_) <;> omega) | ((with_reducible refine vp_m2 ?_ ?_) <;> omega))); conv => whnf))
          subst hT
          refine hd_X7_sheet_77 hC hP ?_
          rw [ck]
          have f1 : FrX SHA [] m (mu (mu (mu m.1 54 k 1) 55 k (nI a)) 56 k (nI b), m.2) := ((FrX.cell (by decide) (by decide)).tr (FrX.cell (m := (mu m.1 54 k 1, m.2)) (by decide) (by decide))).tr (FrX.cell (m := (mu (mu m.1 54 k 1) 55 k (nI a), m.2)) (by decide) (by decide))
          refine sh_loop hk (by omega) y7 b 0 _ (by omega) (fun a z => absurd z (Nat.not_lt_zero a)) (fun m' f' e2 e3 => ?_)
          have f2 : FrX SHA [] m m' := f1.tr (f'.up (by decide) (by simp))
          have e54 : ∀ x, m'.1 54 x = if x = k then 1 else m.1 54 x := fun x => by
            rw [f'.at (a := 54) (by decide) (by decide)]
            show mu (mu (mu m.1 54 k 1) 55 k (nI a)) 56 k (nI b) 54 x = _
            rw [mu_ne (by decide), mu_ne (by decide), mu_at]
          have e55 : ∀ x, m'.1 55 x = if x = k then nI a else m.1 55 x := fun x => by
            rw [f'.at (a := 55) (by decide) (by decide)]
            show mu (mu (mu m.1 54 k 1) 55 k (nI a)) 56 k (nI b) 55 x = _
            rw [mu_ne (by decide), mu_at, mu_ne (by decide)]
          have e56 : ∀ x, m'.1 56 x = if x = k then nI b else m.1 56 x := fun x => by
            rw [f'.at (a := 56) (by decide) (by decide)]
            show mu (mu (mu m.1 54 k 1) 55 k (nI a)) 56 k (nI b) 56 x = _
            rw [mu_at, mu_ne (by decide), mu_ne (by decide)]
          refine h1 m' (hm.toH f2 (fun k2 hk2 hne => (hsh k2 hk2).oth hne (fun x hx => by rw [e54, if_neg hx]) (fun x hx => by rw [e55, if_neg hx]) (fun x hx => by rw [e56, if_neg hx]) (fun z hz => ?_)) ⟨by omega, by rw [e54, if_pos rfl, if_neg (by omega)], fun _ => by rw [e55, if_pos rfl]; rfl, fun _ => ⟨by rw [e56, if_pos rfl], by omega, e2⟩⟩) f2
          rw [e3 z hz]
          show mu (mu (mu m.1 54 k 1) 55 k (nI a)) 56 k (nI b) 57 z = _
          rw [mu_ne (by decide), mu_ne (by decide), mu_ne (by decide)]
theorem y_cell {s x v : Int32} (hm : MI m g u t p i h) (h1 : ∀ m', MI m' g u t p i (aCell s x v h).2 → FrD m m' → Q (some (.int (aCell s x v h).1)) m') : CT (d + 3) n_X7_cell [.ref 44, .int s, .int x, .int v] m Q := by
  have hsh := hm.2.2.2.2.2
  unfold aCell at h1
  refine opn cd_X7_cell rfl (fun C P hC hP => ?_)
  conv => whnf
  repeat (first | (refine br_f ?_ ?_; (focus (first | with_reducible assumption | (intro zz; apply zz; with_reducible assumption) | (simp (disch := omega) only [m1lt, nIm1, m1nI, not_true_eq_false, not_false_eq_true, jl, nI_ltI, nI_leI, nI_eq, nI_toInt]; omega) | (simp (disch := omega) only [m1lt, nIm1, m1nI, not_true_eq_false, not_false_eq_true, jl, nI_ltI, nI_leI, nI_eq, nI_toInt]; done))); conv => whnf) | (refine br_t ?_ ?_; (focus (first | with_reducible assumption | (intro zz; apply zz; with_reducible assumption) | (simp (disch := omega) only [m1lt, nIm1, m1nI, not_true_eq_false, not_false_eq_true, jl, nI_ltI, nI_leI, nI_eq, nI_toInt]; omega) | (simp (disch := omega) only [m1lt, nIm1, m1nI, not_true_eq_false, not_false_eq_true, jl, nI_ltI, nI_leI, nI_eq, nI_toInt]; done))); conv => whnf) | (with_reducible refine And.intro nz1 ?_; conv => whnf) | (with_reducible refine And.intro nz0 ?_; conv => whnf) | (refine And.intro ?_ ?_; (focus (first | with_reducible assumption | (intro zz; apply zz; with_reducible assumption) | (simp (disch := omega) only [m1lt, nIm1, m1nI, not_true_eq_false, not_false_eq_true, jl, nI_ltI, nI_leI, nI_eq, nI_toInt]; omega) | (simp (disch := omega) only [m1lt, nIm1, m1nI, not_true_eq_false, not_false_eq_true, jl, nI_ltI, nI_leI, nI_eq, nI_toInt]; done))); conv => whnf) | (refine And.intro ?_ ?_; (focus (first | with_reducible assumption | ((with_reducible refine vp_in_nI ?_ ?_) <;> omega) | ((with_reducible refine vp_0 ?_); omega) | ((with_reducible refine vp_s1 ?_ ?_) <;> omega) | ((with_reducible refine vp_a1 ?_ ?_) <;> omega) | ((with_reducible refine vp_m1 ?_ ?_) <;> omega) | ((with_reducible refine vp_m2 ?_ ?_) <;> omega))); conv => whnf))
  refine useC hC (y_isSheet ?_)
  cases e0 : ixo s 4 with
  | none =>
    rw [e0] at h1
    conv => whnf
    repeat (first | (refine br_f ?_ ?_; (focus (first | with_reducible assumption | (intro zz; apply zz; with_reducible assumption) | (simp (disch := omega) only [m1lt, nIm1, m1nI, not_true_eq_false, not_false_eq_true, jl, nI_ltI, nI_leI, nI_eq, nI_toInt]; omega) | (simp (disch := omega) only [m1lt, nIm1, m1nI, not_true_eq_false, not_false_eq_true, jl, nI_ltI, nI_leI, nI_eq, nI_toInt]; done))); conv => whnf) | (refine br_t ?_ ?_; (focus (first | with_reducible assumption | (intro zz; apply zz; with_reducible assumption) | (simp (disch := omega) only [m1lt, nIm1, m1nI, not_true_eq_false, not_false_eq_true, jl, nI_ltI, nI_leI, nI_eq, nI_toInt]; omega) | (simp (disch := omega) only [m1lt, nIm1, m1nI, not_true_eq_false, not_false_eq_true, jl, nI_ltI, nI_leI, nI_eq, nI_toInt]; done))); conv => whnf) | (with_reducible refine And.intro nz1 ?_; conv => whnf) | (with_reducible refine And.intro nz0 ?_; conv => whnf) | (refine And.intro ?_ ?_; (focus (first | with_reducible assumption | (intro zz; apply zz; with_reducible assumption) | (simp (disch := omega) only [m1lt, nIm1, m1nI, not_true_eq_false, not_false_eq_true, jl, nI_ltI, nI_leI, nI_eq, nI_toInt]; omega) | (simp (disch := omega) only [m1lt, nIm1, m1nI, not_true_eq_false, not_false_eq_true, jl, nI_ltI, nI_leI, nI_eq, nI_toInt]; done))); conv => whnf) | (refine And.intro ?_ ?_; (focus (first | with_reducible assumption | ((with_reducible refine vp_in_nI ?_ ?_) <;> omega) | ((with_reducible refine vp_0 ?_); omega) | ((with_reducible refine vp_s1 ?_ ?_) <;> omega) | ((with_reducible refine vp_a1 ?_ ?_) <;> omega) | ((with_reducible refine vp_m1 ?_ ?_) <;> omega) | ((with_reducible refine vp_m2 ?_ ?_) <;> omega))); conv => whnf))
    exact h1 m hm FrD.rf
  | some k =>
    rw [e0] at h1
    obtain ⟨rfl, hk⟩ := ixo_some (by decide) e0
    have ck : (nI k).toNatClampNeg = k := nI_clamp (by omega)
    obtain ⟨s3, s54, s55, sr⟩ := hsh k hk
    by_cases h0 : h.1 k = 0
    · simp only [if_pos h0] at h1
      rw [if_pos h0] at s54
      have z54 : m.1 54 (nI k).toNatClampNeg = 0 := by rw [ck]; exact s54
      conv => whnf
      repeat (first | (refine br_f ?_ ?_; (focus (first | with_reducible assumption | (intro zz; apply zz; with_reducible assumption) | (simp (disch := omega) only [m1lt, nIm1, m1nI, not_true_eq_false, not_false_eq_true, jl, nI_ltI, nI_leI, nI_eq, nI_toInt]; omega) | (simp (disch := omega) only [m1lt, nIm1, m1nI, not_true_eq_false, not_false_eq_true, jl, nI_ltI, nI_leI, nI_eq, nI_toInt]; done))); conv => whnf) | (refine br_t ?_ ?_; (focus (first | with_reducible assumption | (intro zz; apply zz; with_reducible assumption) | (simp (disch := omega) only [m1lt, nIm1, m1nI, not_true_eq_false, not_false_eq_true, jl, nI_ltI, nI_leI, nI_eq, nI_toInt]; omega) | (simp (disch := omega) only [m1lt, nIm1, m1nI, not_true_eq_false, not_false_eq_true, jl, nI_ltI, nI_leI, nI_eq, nI_toInt]; done))); conv => whnf) | (with_reducible refine And.intro nz1 ?_; conv => whnf) | (with_reducible refine And.intro nz0 ?_; conv => whnf) | (refine And.intro ?_ ?_; (focus (first | with_reducible assumption | (intro zz; apply zz; with_reducible assumption) | (simp (disch := omega) only [m1lt, nIm1, m1nI, not_true_eq_false, not_false_eq_true, jl, nI_ltI, nI_leI, nI_eq, nI_toInt]; omega) | (simp (disch := omega) only [m1lt, nIm1, m1nI, not_true_eq_false, not_false_eq_true, jl, nI_ltI, nI_leI, nI_eq, nI_toInt]; done))); conv => whnf) | (refine And.intro ?_ ?_; (focus (first | with_reducible assumption | ((with_reducible refine vp_in_nI ?_ ?_) <;> omega) | ((with_reducible refine vp_0 ?_); omega) | ((with_reducible refine vp_s1 ?_ ?_) <;> omega) | ((with_reducible refine vp_a1 ?_ ?_) <;> omega) | ((with_reducible refine vp_m1 ?_ ?_) <;> omega) | ((with_reducible refine vp_m2 ?_ ?_) <;> omega))); conv => whnf))
      exact h1 m hm FrD.rf
    · simp only [if_neg h0] at h1
      rw [if_neg h0] at s54
      obtain ⟨s56, s40, s57⟩ := sr h0
      have s55 := s55 h0
      have z54 : ¬ m.1 54 (nI k).toNatClampNeg = 0 := by rw [ck, s54]; decide
      conv => whnf
      repeat (first | (refine br_f ?_ ?_; (focus (first | with_reducible assumption | (intro zz; apply zz; with_reducible assumption) | (simp (disch := omega) only [m1lt, nIm1, m1nI, not_true_eq_false, not_false_eq_true, jl, nI_ltI, nI_leI, nI_eq, nI_toInt]; omega) | (simp (disch := omega) only [m1lt, nIm1, m1nI, not_true_eq_false, not_false_eq_true, jl, nI_ltI, nI_leI, nI_eq, nI_toInt]; done))); conv => whnf) | (refine br_t ?_ ?_; (focus (first | with_reducible assumption | (intro zz; apply zz; with_reducible assumption) | (simp (disch := omega) only [m1lt, nIm1, m1nI, not_true_eq_false, not_false_eq_true, jl, nI_ltI, nI_leI, nI_eq, nI_toInt]; omega) | (simp (disch := omega) only [m1lt, nIm1, m1nI, not_true_eq_false, not_false_eq_true, jl, nI_ltI, nI_leI, nI_eq, nI_toInt]; done))); conv => whnf) | (with_reducible refine And.intro nz1 ?_; conv => whnf) | (with_reducible refine And.intro nz0 ?_; conv => whnf) | (refine And.intro ?_ ?_; (focus (first | with_reducible assumption | (intro zz; apply zz; with_reducible assumption) | (simp (disch := omega) only [m1lt, nIm1, m1nI, not_true_eq_false, not_false_eq_true, jl, nI_ltI, nI_leI, nI_eq, nI_toInt]; omega) | (simp (disch := omega) only [m1lt, nIm1, m1nI, not_true_eq_false, not_false_eq_true, jl, nI_ltI, nI_leI, nI_eq, nI_toInt]; done))); conv => whnf) | (refine And.intro ?_ ?_; (focus (first | with_reducible assumption | ((with_reducible refine vp_in_nI ?_ ?_) <;> omega) | ((with_reducible refine vp_0 ?_); omega) | ((with_reducible refine vp_s1 ?_ ?_) <;> omega) | ((with_reducible refine vp_a1 ?_ ?_) <;> omega) | ((with_reducible refine vp_m1 ?_ ?_) <;> omega) | ((with_reducible refine vp_m2 ?_ ?_) <;> omega))); conv => whnf))
      refine useC hC ?_
      show CT (d + 2) n_X7_in [.long x.toInt64, .long 0, .long (m.1 56 (nI k).toNatClampNeg - 1).toInt64] m _
      rw [ck, s56]
      refine s_inx (n := h.2.1 k) rfl (nm1L (by omega)) ?_
      cases e1 : ixo x (h.2.1 k) with
      | none =>
        rw [e1] at h1
        conv => whnf
        repeat (first | (refine br_f ?_ ?_; (focus (first | with_reducible assumption | (intro zz; apply zz; with_reducible assumption) | (simp (disch := omega) only [m1lt, nIm1, m1nI, not_true_eq_false, not_false_eq_true, jl, nI_ltI, nI_leI, nI_eq, nI_toInt]; omega) | (simp (disch := omega) only [m1lt, nIm1, m1nI, not_true_eq_false, not_false_eq_true, jl, nI_ltI, nI_leI, nI_eq, nI_toInt]; done))); conv => whnf) | (refine br_t ?_ ?_; (focus (first | with_reducible assumption | (intro zz; apply zz; with_reducible assumption) | (simp (disch := omega) only [m1lt, nIm1, m1nI, not_true_eq_false, not_false_eq_true, jl, nI_ltI, nI_leI, nI_eq, nI_toInt]; omega) | (simp (disch := omega) only [m1lt, nIm1, m1nI, not_true_eq_false, not_false_eq_true, jl, nI_ltI, nI_leI, nI_eq, nI_toInt]; done))); conv => whnf) | (with_reducible refine And.intro nz1 ?_; conv => whnf) | (with_reducible refine And.intro nz0 ?_; conv => whnf) | (refine And.intro ?_ ?_; (focus (first | with_reducible assumption | (intro zz; apply zz; with_reducible assumption) | (simp (disch := omega) only [m1lt, nIm1, m1nI, not_true_eq_false, not_false_eq_true, jl, nI_ltI, nI_leI, nI_eq, nI_toInt]; omega) | (simp (disch := omega) only [m1lt, nIm1, m1nI, not_true_eq_false, not_false_eq_true, jl, nI_ltI, nI_leI, nI_eq, nI_toInt]; done))); conv => whnf) | (refine And.intro ?_ ?_; (focus (first | with_reducible assumption | ((with_reducible refine vp_in_nI ?_ ?_) <;> omega) | ((with_reducible refine vp_0 ?_); omega) | ((with_reducible refine vp_s1 ?_ ?_) <;> omega) | ((with_reducible refine vp_a1 ?_ ?_) <;> omega) | ((with_reducible refine vp_m1 ?_ ?_) <;> omega) | ((with_reducible refine vp_m2 ?_ ?_) <;> omega))); conv => whnf))
        exact h1 m hm FrD.rf
      | some j =>
        rw [e1] at h1
        obtain ⟨rfl, hj⟩ := ixo_some (by omega) e1
        have ei : 40 * nI k + nI j = nI (40 * k + j) := by rw [jl 40, pk_mul, nI_add]
        have ci : (nI (40 * k + j)).toNatClampNeg = 40 * k + j := nI_clamp (by omega)
        have hv : vp_in (40 * nI k + nI j) 160 := by rw [ei]; exact vp_in_nI (by omega) (by omega)
        have fin : ∀ w, w = cvt (h.1 k) v → Q (some (.int 1)) (mu m.1 57 (40 * nI k + nI j).toNatClampNeg w, m.2) := by
          intro w hw
          subst hw
          rw [ei, ci]
          have f1 : FrX SHA [] m (mu m.1 57 (40 * k + j) (cvt (h.1 k) v), m.2) := FrX.cell (by decide) (by decide)
          refine h1 _ (hm.toH f1 (fun k2 hk2 hne => (hsh k2 hk2).oth hne (fun a ha => ?_) (fun a ha => ?_) (fun a ha => ?_) (fun z hz => ?_)) ⟨s3, ?_, fun _ => ?_, fun _ => ⟨?_, s40, fun q hq => ?_⟩⟩) (FrD.of f1 (by decide))
          · show mu m.1 57 (40 * k + j) (cvt (h.1 k) v) 54 a = _
            rw [mu_ne (by decide)]
          · show mu m.1 57 (40 * k + j) (cvt (h.1 k) v) 55 a = _
            rw [mu_ne (by decide)]
          · show mu m.1 57 (40 * k + j) (cvt (h.1 k) v) 56 a = _
            rw [mu_ne (by decide)]
          · show mu m.1 57 (40 * k + j) (cvt (h.1 k) v) 57 z = _
            rw [mu_at, if_neg (by omega)]
          · show mu m.1 57 (40 * k + j) (cvt (h.1 k) v) 54 k = _
            rw [mu_ne (by decide), if_neg h0]
            exact s54
          · show mu m.1 57 (40 * k + j) (cvt (h.1 k) v) 55 k = _
            rw [mu_ne (by decide)]
            exact s55
          · show mu m.1 57 (40 * k + j) (cvt (h.1 k) v) 56 k = _
            rw [mu_ne (by decide)]
            exact s56
          · show mu m.1 57 (40 * k + j) (cvt (h.1 k) v) 57 (40 * k + q) = updf (h.2.2 k) j (cvt (h.1 k) v) q
            rw [mu_at]
            unfold updf
            by_cases hqj : q = j
            · rw [if_pos (by omega), if_pos hqj]
            · rw [if_neg (by omega), if_neg hqj]
              exact s57 q hq
        have hso : h.1 k = 1 ∨ h.1 k = 2 ∨ h.1 k = 3 := by omega
        rcases hso with hs | hs | hs
        · have z55 : m.1 55 (nI k).toNatClampNeg = 0 := by rw [ck, s55, hs]; rfl
          have := fin (v.toInt8.toInt32) (by rw [hs]; rfl)
          conv => whnf
          repeat (first | (refine br_f ?_ ?_; (focus (first | with_reducible assumption | (intro zz; apply zz; with_reducible assumption) | (simp (disch := omega) only [m1lt, nIm1, m1nI, not_true_eq_false, not_false_eq_true, jl, nI_ltI, nI_leI, nI_eq, nI_toInt]; omega) | (simp (disch := omega) only [m1lt, nIm1, m1nI, not_true_eq_false, not_false_eq_true, jl, nI_ltI, nI_leI, nI_eq, nI_toInt]; done))); conv => whnf) | (refine br_t ?_ ?_; (focus (first | with_reducible assumption | (intro zz; apply zz; with_reducible assumption) | (simp (disch := omega) only [m1lt, nIm1, m1nI, not_true_eq_false, not_false_eq_true, jl, nI_ltI, nI_leI, nI_eq, nI_toInt]; omega) | (simp (disch := omega) only [m1lt, nIm1, m1nI, not_true_eq_false, not_false_eq_true, jl, nI_ltI, nI_leI, nI_eq, nI_toInt]; done))); conv => whnf) | (with_reducible refine And.intro nz1 ?_; conv => whnf) | (with_reducible refine And.intro nz0 ?_; conv => whnf) | (refine And.intro ?_ ?_; (focus (first | with_reducible assumption | (intro zz; apply zz; with_reducible assumption) | (simp (disch := omega) only [m1lt, nIm1, m1nI, not_true_eq_false, not_false_eq_true, jl, nI_ltI, nI_leI, nI_eq, nI_toInt]; omega) | (simp (disch := omega) only [m1lt, nIm1, m1nI, not_true_eq_false, not_false_eq_true, jl, nI_ltI, nI_leI, nI_eq, nI_toInt]; done))); conv => whnf) | (refine And.intro ?_ ?_; (focus (first | with_reducible assumption | ((with_reducible refine vp_in_nI ?_ ?_) <;> omega) | ((with_reducible refine vp_0 ?_); omega) | ((with_reducible refine vp_s1 ?_ ?_) <;> omega) | ((with_reducible refine vp_a1 ?_ ?_) <;> omega) | ((with_reducible refine vp_m1 ?_ ?_) <;> omega) | ((with_reducible refine vp_m2 ?_ ?_) <;> omega))); conv => whnf))
          exact this
        · have z55 : m.1 55 (nI k).toNatClampNeg = nI 1 := by rw [ck, s55, hs]; rfl
          have := fin (v.toInt16.toInt32) (by rw [hs]; rfl)
          conv => whnf
          repeat (first | (refine br_f ?_ ?_; (focus (first | with_reducible assumption | (intro zz; apply zz; with_reducible assumption) | (simp (disch := omega) only [z55, m1lt, nIm1, m1nI, not_true_eq_false, not_false_eq_true, jl, nI_ltI, nI_leI, nI_eq, nI_toInt]; omega) | (simp (disch := omega) only [z55, m1lt, nIm1, m1nI, not_true_eq_false, not_false_eq_true, jl, nI_ltI, nI_leI, nI_eq, nI_toInt]; done))); conv => whnf) | (refine br_t ?_ ?_; (focus (first | with_reducible assumption | (intro zz; apply zz; with_reducible assumption) | (simp (disch := omega) only [z55, m1lt, nIm1, m1nI, not_true_eq_false, not_false_eq_true, jl, nI_ltI, nI_leI, nI_eq, nI_toInt]; omega) | (simp (disch := omega) only [z55, m1lt, nIm1, m1nI, not_true_eq_false, not_false_eq_true, jl, nI_ltI, nI_leI, nI_eq, nI_toInt]; done))); conv => whnf) | (with_reducible refine And.intro nz1 ?_; conv => whnf) | (with_reducible refine And.intro nz0 ?_; conv => whnf) | (refine And.intro ?_ ?_; (focus (first | with_reducible assumption | (intro zz; apply zz; with_reducible assumption) | (simp (disch := omega) only [z55, m1lt, nIm1, m1nI, not_true_eq_false, not_false_eq_true, jl, nI_ltI, nI_leI, nI_eq, nI_toInt]; omega) | (simp (disch := omega) only [z55, m1lt, nIm1, m1nI, not_true_eq_false, not_false_eq_true, jl, nI_ltI, nI_leI, nI_eq, nI_toInt]; done))); conv => whnf) | (refine And.intro ?_ ?_; (focus (first | with_reducible assumption | ((with_reducible refine vp_in_nI ?_ ?_) <;> omega) | ((with_reducible refine vp_0 ?_); omega) | ((with_reducible refine vp_s1 ?_ ?_) <;> omega) | ((with_reducible refine vp_a1 ?_ ?_) <;> omega) | ((with_reducible refine vp_m1 ?_ ?_) <;> omega) | ((with_reducible refine vp_m2 ?_ ?_) <;> omega))); conv => whnf))
          exact this
        · have z55 : m.1 55 (nI k).toNatClampNeg = nI 2 := by rw [ck, s55, hs]; rfl
          have := fin v (by rw [hs]; rfl)
          conv => whnf
          repeat (first | (refine br_f ?_ ?_; (focus (first | with_reducible assumption | (intro zz; apply zz; with_reducible assumption) | (simp (disch := omega) only [z55, m1lt, nIm1, m1nI, not_true_eq_false, not_false_eq_true, jl, nI_ltI, nI_leI, nI_eq, nI_toInt]; omega) | (simp (disch := omega) only [z55, m1lt, nIm1, m1nI, not_true_eq_false, not_false_eq_true, jl, nI_ltI, nI_leI, nI_eq, nI_toInt]; done))); conv => whnf) | (refine br_t ?_ ?_; (focus (first | with_reducible assumption | (intro zz; apply zz; with_reducible assumption) | (simp (disch := omega) only [z55, m1lt, nIm1, m1nI, not_true_eq_false, not_false_eq_true, jl, nI_ltI, nI_leI, nI_eq, nI_toInt]; omega) | (simp (disch := omega) only [z55, m1lt, nIm1, m1nI, not_true_eq_false, not_false_eq_true, jl, nI_ltI, nI_leI, nI_eq, nI_toInt]; done))); conv => whnf) | (with_reducible refine And.intro nz1 ?_; conv => whnf) | (with_reducible refine And.intro nz0 ?_; conv => whnf) | (refine And.intro ?_ ?_; (focus (first | with_reducible assumption | (intro zz; apply zz; with_reducible assumption) | (simp (disch := omega) only [z55, m1lt, nIm1, m1nI, not_true_eq_false, not_false_eq_true, jl, nI_ltI, nI_leI, nI_eq, nI_toInt]; omega) | (simp (disch := omega) only [z55, m1lt, nIm1, m1nI, not_true_eq_false, not_false_eq_true, jl, nI_ltI, nI_leI, nI_eq, nI_toInt]; done))); conv => whnf) | (refine And.intro ?_ ?_; (focus (first | with_reducible assumption | ((with_reducible refine vp_in_nI ?_ ?_) <;> omega) | ((with_reducible refine vp_0 ?_); omega) | ((with_reducible refine vp_s1 ?_ ?_) <;> omega) | ((with_reducible refine vp_a1 ?_ ?_) <;> omega) | ((with_reducible refine vp_m1 ?_ ?_) <;> omega) | ((with_reducible refine vp_m2 ?_ ?_) <;> omega))); conv => whnf))
          exact this
end MSH
