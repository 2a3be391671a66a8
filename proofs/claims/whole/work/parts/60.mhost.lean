/-! THE MODEL'S CALLS: text(), sheets -/
section MHO
variable {g : Gg} {u : Nat} {t : Gt} {p : Gg} {i : Gi} {h : Gh} {m : Mm} {d : Nat} {Q : Qr}
theorem tl_loop {tc L : Nat} {B : Nat → Nat} (ht : tc < 6) (hL : L ≤ 160) : ∀ (r j : Nat) (m : Mm), j + r = L → m.1 44 3 = nI tc → m.1 44 6 = nI L → (∀ a, a < L → m.1 47 a = nI (B a)) → (∀ a, a < j → m.1 45 (160 * tc + a) = nI (B a)) → (∀ m', FrX [45] [] m m' → (∀ x, x < 160 * tc → m'.1 45 x = m.1 45 x) → (∀ a, a < L → m'.1 45 (160 * tc + a) = nI (B a)) → WP SH (CT d) Q c_X7_text 14 [some (.ref 44), some (.int (nI L))] [] m') → WP SH (CT d) Q c_X7_text 14 [some (.ref 44), some (.int (nI j))] [] m := by
  intro r
  induction r with
  | zero =>
    intro j m hj h3 h6 hB ha h1
    have e : j = L := by omega
    subst e
    exact h1 m FrX.rf (fun _ _ => rfl) ha
  | succ r ih =>
    intro j m hj h3 h6 hB ha h1
    have cj : (nI j).toNatClampNeg = j := nI_clamp (by omega)
    have ei : 160 * m.1 44 3 + nI j = nI (160 * tc + j) := by rw [h3, jl 160, pk_mul, nI_add]
    have ci : (nI (160 * tc + j)).toNatClampNeg = 160 * tc + j := nI_clamp (by omega)
    refine wpn mo_X7_text (fun C P hC hP => ?_)
    conv => whnf
    repeat (first | (refine br_f ?_ ?_; (focus (first | with_reducible assumption | (intro zz; apply zz; with_reducible assumption) | (simp (disch := omega) only [h6, m1lt, nIm1, m1nI, not_true_eq_false, not_false_eq_true, jl, nI_ltI, nI_leI, nI_eq, nI_toInt]; omega) | (simp (disch := omega) only [h6, m1lt, nIm1, m1nI, not_true_eq_false, not_false_eq_true, jl, nI_ltI, nI_leI, nI_eq, nI_toInt]; done))); conv => whnf) | (refine br_t ?_ ?_; (focus (first | with_reducible assumption | (intro zz; apply zz; with_reducible assumption) | (simp (disch := omega) only [h6, m1lt, nIm1, m1nI, not_true_eq_false, not_false_eq_true, jl, nI_ltI, nI_leI, nI_eq, nI_toInt]; omega) | (simp (disch := omega) only [h6, m1lt, nIm1, m1nI, not_true_eq_false, not_false_eq_true, jl, nI_ltI, nI_leI, nI_eq, nI_toInt]; done))); conv => whnf) | (with_reducible refine And.intro nz1 ?_; conv => whnf) | (with_reducible refine And.intro nz0 ?_; conv => whnf) | (refine And.intro ?_ ?_; (focus (first | with_reducible assumption | (intro zz; apply zz; with_reducible assumption) | (simp (disch := omega) only [h6, m1lt, nIm1, m1nI, not_true_eq_false, not_false_eq_true, jl, nI_ltI, nI_leI, nI_eq, nI_toInt]; omega) | (simp (disch := omega) only [h6, m1lt, nIm1, m1nI, not_true_eq_false, not_false_eq_true, jl, nI_ltI, nI_leI, nI_eq, nI_toInt]; done))); conv => whnf) | (refine And.intro ?_ ?_; (focus (first | with_reducible assumption | ((with_reducible refine vp_in_nI ?_ ?_) <;> omega) | ((with_reducible refine vp_0 ?_); omega) | ((with_reducible refine vp_s1 ?_ ?_) <;> omega) | ((with_reducible refine vp_a1 ?_ ?_) <;> omega) | ((with_reducible refine vp_m1 ?_ ?_) <;> omega) | ((with_reducible refine vp_m2 ?_ ?_) <;> omega))); conv => whnf))
    have hv : vp_in (160 * m.1 44 3 + nI j) 960 := by rw [ei]; exact vp_in_nI (by omega) (by omega)
    refine ⟨hv, ?_⟩
    conv => whnf
    repeat (first | (refine br_f ?_ ?_; (focus (first | with_reducible assumption | (intro zz; apply zz; with_reducible assumption) | (simp (disch := omega) only [m1lt, nIm1, m1nI, not_true_eq_false, not_false_eq_true, jl, nI_ltI, nI_leI, nI_eq, nI_toInt]; omega) | (simp (disch := omega) only [m1lt, nIm1, m1nI, not_true_eq_false, not_false_eq_true, jl, nI_ltI, nI_leI, nI_eq, nI_toInt]; done))); conv => whnf) | (refine br_t ?_ ?_; (focus (first | with_reducible assumption | (intro zz; apply zz; with_reducible assumption) | (simp (disch := omega) only [m1lt, nIm1, m1nI, not_true_eq_false, not_false_eq_true, jl, nI_ltI, nI_leI, nI_eq, nI_toInt]; omega) | (simp (disch := omega) only [m1lt, nIm1, m1nI, not_true_eq_false, not_false_eq_true, jl, nI_ltI, nI_leI, nI_eq, nI_toInt]; done))); conv => whnf) | (with_reducible refine And.intro nz1 ?_; conv => whnf) | (with_reducible refine And.intro nz0 ?_; conv => whnf) | (refine And.intro ?_ ?_; (focus (first | with_reducible assumption | (intro zz; apply zz; with_reducible assumption) | (simp (disch := omega) only [m1lt, nIm1, m1nI, not_true_eq_false, not_false_eq_true, jl, nI_ltI, nI_leI, nI_eq, nI_toInt]; omega) | (simp (disch := omega) only [m1lt, nIm1, m1nI, not_true_eq_false, not_false_eq_true, jl, nI_ltI, nI_leI, nI_eq, nI_toInt]; done))); conv => whnf) | (refine And.intro ?_ ?_; (focus (first | with_reducible assumption | ((with_reducible refine vp_in_nI ?_ ?_) <;> omega) | ((with_reducible refine vp_0 ?_); omega) | ((with_reducible refine vp_s1 ?_ ?_) <;> omega) | ((with_reducible refine vp_a1 ?_ ?_) <;> omega) | ((with_reducible refine vp_m1 ?_ ?_) <;> omega) | ((with_reducible refine vp_m2 ?_ ?_) <;> omega))); conv => whnf))
    refine hP _ _ _ _ ?_
    show WP SH (CT d) Q c_X7_text 14 [some (.ref 44), some (.int (nI j + 1))] [] (mu m.1 45 (160 * m.1 44 3 + nI j).toNatClampNeg (m.1 47 (nI j).toNatClampNeg), m.2)
    rw [ei, ci, cj, hB j (by omega), nI_1]
    have f1 : FrX [45] [] m (mu m.1 45 (160 * tc + j) (nI (B j)), m.2) := FrX.cell (by simp) (by decide)
    refine ih (j + 1) _ (by omega) (by rw [f1.2 3 (by decide)]; exact h3) (by rw [f1.2 6 (by decide)]; exact h6) (fun a z => by rw [f1.at (a := 47) (by decide) (by decide)]; exact hB a z) (fun a z => ?_) (fun m' f' e1 e2 => h1 m' (f1.tr f') (fun x hx => ?_) e2)
    · show mu m.1 45 (160 * tc + j) (nI (B j)) 45 (160 * tc + a) = _
      rw [mu_at]
      by_cases haj : a = j
      · rw [if_pos (by omega), haj]
      · rw [if_neg (by omega)]
        exact ha a (by omega)
    · rw [e1 x hx]
      show mu m.1 45 (160 * tc + j) (nI (B j)) 45 x = _
      rw [mu_at, if_neg (by omega)]
theorem y_text (hm : MI m g u t p i h) (h1 : ∀ m', MI m' g u (aText t p).2.1 (aText t p).2.2 i h → FrD m m' → Q (some (.int (aText t p).1)) m') : CT (d + 63) n_X7_text [.ref 44] m Q := by
  obtain ⟨t3, t0, t6, tx⟩ := hm.2.1
  obtain ⟨b6, b160, bB⟩ := hm.2.2.2.1
  have hu := hm.2.2.1
  unfold aText at h1
  refine opn cd_X7_text rfl (fun C P hC hP => ?_)
  unfold c_X7_text; generalize hT : c_X7_text_14 = T
  by_cases ht6 : t.1 = 6
  · rw [if_pos ht6] at h1
    conv => whnf
    repeat (first | (refine br_f ?_ ?_; (focus (first | with_reducible assumption | (intro zz; apply zz; with_reducible assumption) | (simp (disch := omega) only [t3, m1lt, nIm1, m1nI, not_true_eq_false, not_false_eq_true, jl, nI_ltI, nI_leI, nI_eq, nI_toInt]; omega) | (simp (disch := omega) only [t3, m1lt, nIm1, m1nI, not_true_eq_false, not_false_eq_true, jl, nI_ltI, nI_leI, nI_eq, nI_toInt]; done))); conv => whnf) | (refine br_t ?_ ?_; (focus (first | with_reducible assumption | (intro zz; apply zz; with_reducible assumption) | (simp (disch := omega) only [t3, m1lt, nIm1, m1nI, not_true_eq_false, not_false_eq_true, jl, nI_ltI, nI_leI, nI_eq, nI_toInt]; omega) | (simp (disch := omega) only [t3, m1lt, nIm1, m1nI, not_true_eq_false, not_false_eq_true, jl, nI_ltI, nI_leI, nI_eq, nI_toInt]; done))); conv => whnf) | (with_reducible refine And.intro nz1 ?_; conv => whnf) | (with_reducible refine And.intro nz0 ?_; conv => whnf) | (refine And.intro ?_ ?_; (focus (first | with_reducible assumption | (intro zz; apply zz; with_reducible assumption) | (simp (disch := omega) only [t3, m1lt, nIm1, m1nI, not_true_eq_false, not_false_eq_true, jl, nI_ltI, nI_leI, nI_eq, nI_toInt]; omega) | (simp (disch := omega) only [t3, m1lt, nIm1, m1nI, not_true_eq_false, not_false_eq_true, jl, nI_ltI, nI_leI, nI_eq, nI_toInt]; done))); conv => whnf) | (refine And.intro ?_ ?_; (focus (first | with_reducible assumption | ((with_reducible refine vp_in_nI ?_ ?_) <;> omega) | ((with_reducible refine vp_0 ?_); omega) | ((with_reducible refine vp_s1 ?_ ?_) <;> omega) | ((with_reducible refine vp_a1 ?_ ?_) <;> omega) | ((with_reducible refine vp_m1 ?_ ?_) <;> omega) | ((with_reducible refine vp_m2 ?_ ?_) <;> omega))); conv => whnf))
    exact h1 m hm FrD.rf
  · rw [if_neg ht6] at h1
    conv => whnf
    repeat (first | (refine br_f ?_ ?_; (focus (first | with_reducible assumption | (intro zz; apply zz; with_reducible assumption) | (simp (disch := omega) only [t3, m1lt, nIm1, m1nI, not_true_eq_false, not_false_eq_true, jl, nI_ltI, nI_leI, nI_eq, nI_toInt]; omega) | (simp (disch := omega) only [t3, m1lt, nIm1, m1nI, not_true_eq_false, not_false_eq_true, jl, nI_ltI, nI_leI, nI_eq, nI_toInt]; done))); conv => whnf) | (refine br_t ?_ ?_; (focus (first | with_reducible assumption | (intro zz; apply zz; with_reducible assumption) | (simp (disch := omega) only [t3, m1lt, nIm1, m1nI, not_true_eq_false, not_false_eq_true, jl, nI_ltI, nI_leI, nI_eq, nI_toInt]; omega) | (simp (disch := omega) only [t3, m1lt, nIm1, m1nI, not_true_eq_false, not_false_eq_true, jl, nI_ltI, nI_leI, nI_eq, nI_toInt]; done))); conv => whnf) | (with_reducible refine And.intro nz1 ?_; conv => whnf) | (with_reducible refine And.intro nz0 ?_; conv => whnf) | (refine And.intro ?_ ?_; (focus (first | with_reducible assumption | (intro zz; apply zz; with_reducible assumption) | (simp (disch := omega) only [t3, m1lt, nIm1, m1nI, not_true_eq_false, not_false_eq_true, jl, nI_ltI, nI_leI, nI_eq, nI_toInt]; omega) | (simp (disch := omega) only [t3, m1lt, nIm1, m1nI, not_true_eq_false, not_false_eq_true, jl, nI_ltI, nI_leI, nI_eq, nI_toInt]; done))); conv => whnf) | (refine And.intro ?_ ?_; (focus (first | with_reducible assumption | ((with_reducible refine vp_in_nI ?_ ?_) <;> omega) | ((with_reducible refine vp_0 ?_); omega) | ((with_reducible refine vp_s1 ?_ ?_) <;> omega) | ((with_reducible refine vp_a1 ?_ ?_) <;> omega) | ((with_reducible refine vp_m1 ?_ ?_) <;> omega) | ((with_reducible refine vp_m2 ?_ ?_) <;> omega))); conv => whnf))
    subst hT; refine hd_X7_text_14 hC hP ?_
    refine tl_loop (tc := t.1) (L := p.1) (B := p.2) (by omega) b160 p.1 0 m (by omega) t3 b6 (fun a z => (bB a z).2) (fun a z => absurd z (Nat.not_lt_zero a)) (fun m1 f1 e1 e2 => ?_)
    have h63 : m1.1 44 6 = nI p.1 := by rw [f1.2 6 (by decide)]; exact b6
    have h33 : m1.1 44 3 = nI t.1 := by rw [f1.2 3 (by decide)]; exact t3
    have ct : (nI t.1).toNatClampNeg = t.1 := nI_clamp (by omega)
    refine wpn mo_X7_text (fun C P hC hP => ?_)
    conv => whnf
    repeat (first | (refine br_f ?_ ?_; (focus (first | with_reducible assumption | (intro zz; apply zz; with_reducible assumption) | (simp (disch := omega) only [h63, m1lt, nIm1, m1nI, not_true_eq_false, not_false_eq_true, jl, nI_ltI, nI_leI, nI_eq, nI_toInt]; omega) | (simp (disch := omega) only [h63, m1lt, nIm1, m1nI, not_true_eq_false, not_false_eq_true, jl, nI_ltI, nI_leI, nI_eq, nI_toInt]; done))); conv => whnf) | (refine br_t ?_ ?_; (focus (first | with_reducible assumption | (intro zz; apply zz; with_reducible assumption) | (simp (disch := omega) only [h63, m1lt, nIm1, m1nI, not_true_eq_false, not_false_eq_true, jl, nI_ltI, nI_leI, nI_eq, nI_toInt]; omega) | (simp (disch := omega) only [h63, m1lt, nIm1, m1nI, not_true_eq_false, not_false_eq_true, jl, nI_ltI, nI_leI, nI_eq, nI_toInt]; done))); conv => whnf) | (with_reducible refine And.intro nz1 ?_; conv => whnf) | (with_reducible refine And.intro nz0 ?_; conv => whnf) | (refine And.intro ?_ ?_; (focus (first | with_reducible assumption | (intro zz; apply zz; with_reducible assumption) | (simp (disch := omega) only [h63, m1lt, nIm1, m1nI, not_true_eq_false, not_false_eq_true, jl, nI_ltI, nI_leI, nI_eq, nI_toInt]; omega) | (simp (disch := omega) only [h63, m1lt, nIm1, m1nI, not_true_eq_false, not_false_eq_true, jl, nI_ltI, nI_leI, nI_eq, nI_toInt]; done))); conv => whnf) | (refine And.intro ?_ ?_; (focus (first | with_reducible assumption | ((with_reducible refine vp_in_nI ?_ ?_) <;> omega) | ((with_reducible refine vp_0 ?_); omega) | ((with_reducible refine vp_s1 ?_ ?_) <;> omega) | ((with_reducible refine vp_a1 ?_ ?_) <;> omega) | ((with_reducible refine vp_m1 ?_ ?_) <;> omega) | ((with_reducible refine vp_m2 ?_ ?_) <;> omega))); conv => whnf))
    refine ⟨by rw [h33]; exact vp_in_nI (by omega) (by omega), ?_⟩
    conv => whnf
    repeat (first | (refine br_f ?_ ?_; (focus (first | with_reducible assumption | (intro zz; apply zz; with_reducible assumption) | (simp (disch := omega) only [m1lt, nIm1, m1nI, not_true_eq_false, not_false_eq_true, jl, nI_ltI, nI_leI, nI_eq, nI_toInt]; omega) | (simp (disch := omega) only [m1lt, nIm1, m1nI, not_true_eq_false, not_false_eq_true, jl, nI_ltI, nI_leI, nI_eq, nI_toInt]; done))); conv => whnf) | (refine br_t ?_ ?_; (focus (first | with_reducible assumption | (intro zz; apply zz; with_reducible assumption) | (simp (disch := omega) only [m1lt, nIm1, m1nI, not_true_eq_false, not_false_eq_true, jl, nI_ltI, nI_leI, nI_eq, nI_toInt]; omega) | (simp (disch := omega) only [m1lt, nIm1, m1nI, not_true_eq_false, not_false_eq_true, jl, nI_ltI, nI_leI, nI_eq, nI_toInt]; done))); conv => whnf) | (with_reducible refine And.intro nz1 ?_; conv => whnf) | (with_reducible refine And.intro nz0 ?_; conv => whnf) | (refine And.intro ?_ ?_; (focus (first | with_reducible assumption | (intro zz; apply zz; with_reducible assumption) | (simp (disch := omega) only [m1lt, nIm1, m1nI, not_true_eq_false, not_false_eq_true, jl, nI_ltI, nI_leI, nI_eq, nI_toInt]; omega) | (simp (disch := omega) only [m1lt, nIm1, m1nI, not_true_eq_false, not_false_eq_true, jl, nI_ltI, nI_leI, nI_eq, nI_toInt]; done))); conv => whnf) | (refine And.intro ?_ ?_; (focus (first | with_reducible assumption | ((with_reducible refine vp_in_nI ?_ ?_) <;> omega) | ((with_reducible refine vp_0 ?_); omega) | ((with_reducible refine vp_s1 ?_ ?_) <;> omega) | ((with_reducible refine vp_a1 ?_ ?_) <;> omega) | ((with_reducible refine vp_m1 ?_ ?_) <;> omega) | ((with_reducible refine vp_m2 ?_ ?_) <;> omega))); conv => whnf))
    refine useC hC ?_
    show CT (d + 62) n_X7_read [.ref 44, .int (mu (mu m1.1 46 (m1.1 44 3).toNatClampNeg (m1.1 44 6)) 44 6 0 44 3), .int 0] (mu (mu m1.1 46 (m1.1 44 3).toNatClampNeg (m1.1 44 6)) 44 6 0, m1.2) _
    rw [mu_at, if_neg (by decide), mu_ne (by decide), h33, h63, ct]
    have f2 : FrX [45, 46] [6] m (mu (mu m1.1 46 t.1 (nI p.1)) 44 6 0, m1.2) := ((f1.up (by simp) (by simp)).tr (FrX.cell (m := m1) (g := m1.2) (by simp) (by decide))).tr (FrX.one (m := (mu m1.1 46 t.1 (nI p.1), m1.2)) (by simp))
    have g46 : ∀ k, mu (mu m1.1 46 t.1 (nI p.1)) 44 6 0 46 k = if k = t.1 then nI p.1 else m.1 46 k := fun k => by
      rw [mu_ne (by decide), mu_at, f1.at (a := 46) (by decide) (by decide)]
    have g45 : mu (mu m1.1 46 t.1 (nI p.1)) 44 6 0 45 = m1.1 45 := by rw [mu_ne (by decide), mu_ne (by decide)]
    have g6 : mu (mu m1.1 46 t.1 (nI p.1)) 44 6 0 44 6 = 0 := by rw [mu_at, if_pos rfl]
    generalize hM : ((mu (mu m1.1 46 t.1 (nI p.1)) 44 6 0, m1.2) : Mm) = M at f2 ⊢
    have g46' : ∀ k, M.1 46 k = if k = t.1 then nI p.1 else m.1 46 k := fun k => by rw [← hM]; exact g46 k
    have g45' : M.1 45 = m1.1 45 := by rw [← hM]; exact g45
    have g6' : M.1 44 6 = 0 := by rw [← hM]; exact g6
    have old : ∀ m', FrM SF2 M m' → ∀ k, k < t.1 → t.2.1 k ≤ 160 ∧ m'.1 46 k = nI (t.2.1 k) ∧ (∀ j, j < t.2.1 k → t.2.2.1 k j < 256 ∧ m'.1 45 (160 * k + j) = nI (t.2.2.1 k j)) ∧ GT (t.2.1 k) (t.2.2.1 k) (t.2.2.2 k) := fun m' f k hk => by
      obtain ⟨x1, x2, x3, x4⟩ := tx k hk
      refine ⟨x1, ?_, fun j hj => ⟨(x3 j hj).1, ?_⟩, x4⟩
      · rw [f.1 46 (by decide), g46', if_neg (by omega)]
        exact x2
      · rw [f.1 45 (by decide), g45', e1 _ (by omega)]
        exact (x3 j hj).2
    have FA : ∀ m', FrM SF2 M m' → FrX [45, 46] [6, 16, 17, 18, 19, 20, 22, 23, 24] m m' := fun m' f => (f2.up (fun _ z => z) (by simp)).tr ((FrX.ofM f).up (A := []) (by simp) (by decide))
    have h3' : ∀ m', FrM SF2 M m' → m'.1 44 3 = nI t.1 := fun m' f => by rw [(FA m' f).2 3 (by decide)]; exact t3
    have h6' : ∀ m', FrM SF2 M m' → m'.1 44 6 = nI 0 := fun m' f => by rw [f.2 6 (by decide)]; exact g6'
    refine s_mread (t := t.1) (k := 0) (L := p.1) (B := p.2) (nm := fun j => M.1 44 (10 + j)) (by omega) (by decide) b160 (by rw [g46', if_pos rfl]) (fun j hj => ⟨(bB j hj).1, by rw [g45']; exact e2 j hj⟩) (fun j _ => rfl) (fun x r m' e hx f l => ?_) (fun T2 m' hT f l => ?_)
    · have l23 := l.1
      have l24 := l.2
      have fa := FA m' f
      rw [e] at h1
      conv => whnf
      repeat (first | (refine br_f ?_ ?_; (focus (first | with_reducible assumption | (intro zz; apply zz; with_reducible assumption) | (simp (disch := omega) only [l23, m1lt, nIm1, m1nI, not_true_eq_false, not_false_eq_true, jl, nI_ltI, nI_leI, nI_eq, nI_toInt]; omega) | (simp (disch := omega) only [l23, m1lt, nIm1, m1nI, not_true_eq_false, not_false_eq_true, jl, nI_ltI, nI_leI, nI_eq, nI_toInt]; done))); conv => whnf) | (refine br_t ?_ ?_; (focus (first | with_reducible assumption | (intro zz; apply zz; with_reducible assumption) | (simp (disch := omega) only [l23, m1lt, nIm1, m1nI, not_true_eq_false, not_false_eq_true, jl, nI_ltI, nI_leI, nI_eq, nI_toInt]; omega) | (simp (disch := omega) only [l23, m1lt, nIm1, m1nI, not_true_eq_false, not_false_eq_true, jl, nI_ltI, nI_leI, nI_eq, nI_toInt]; done))); conv => whnf) | (with_reducible refine And.intro nz1 ?_; conv => whnf) | (with_reducible refine And.intro nz0 ?_; conv => whnf) | (refine And.intro ?_ ?_; (focus (first | with_reducible assumption | (intro zz; apply zz; with_reducible assumption) | (simp (disch := omega) only [l23, m1lt, nIm1, m1nI, not_true_eq_false, not_false_eq_true, jl, nI_ltI, nI_leI, nI_eq, nI_toInt]; omega) | (simp (disch := omega) only [l23, m1lt, nIm1, m1nI, not_true_eq_false, not_false_eq_true, jl, nI_ltI, nI_leI, nI_eq, nI_toInt]; done))); conv => whnf) | (refine And.intro ?_ ?_; (focus (first | with_reducible assumption | ((with_reducible refine vp_in_nI ?_ ?_) <;> omega) | ((with_reducible refine vp_0 ?_); omega) | ((with_reducible refine vp_s1 ?_ ?_) <;> omega) | ((with_reducible refine vp_a1 ?_ ?_) <;> omega) | ((with_reducible refine vp_m1 ?_ ?_) <;> omega) | ((with_reducible refine vp_m2 ?_ ?_) <;> omega))); conv => whnf))
      rw [l24]
      exact h1 m' ⟨hm.1.fr fa (by decide) (by decide) (by decide), ⟨h3' m' f, t0, t6, old m' f⟩, hm.ru fa (by decide), ⟨h6' m' f, Nat.zero_le _, fun j hj => absurd hj (Nat.not_lt_zero j)⟩, hm.im fa (by decide) (by decide) (by decide), hm.sh fa (by decide) (by decide) (by decide) (by decide)⟩ (FrD.of fa (by decide))
    · have fa := FA m' f
      have e := hT.1
      rw [e] at h1
      have hg := tex3_ok e
      have e3 := h3' m' f
      conv => whnf
      repeat (first | (refine br_f ?_ ?_; (focus (first | with_reducible assumption | (intro zz; apply zz; with_reducible assumption) | (simp (disch := omega) only [l, m1lt, nIm1, m1nI, not_true_eq_false, not_false_eq_true, jl, nI_ltI, nI_leI, nI_eq, nI_toInt]; omega) | (simp (disch := omega) only [l, m1lt, nIm1, m1nI, not_true_eq_false, not_false_eq_true, jl, nI_ltI, nI_leI, nI_eq, nI_toInt]; done))); conv => whnf) | (refine br_t ?_ ?_; (focus (first | with_reducible assumption | (intro zz; apply zz; with_reducible assumption) | (simp (disch := omega) only [l, m1lt, nIm1, m1nI, not_true_eq_false, not_false_eq_true, jl, nI_ltI, nI_leI, nI_eq, nI_toInt]; omega) | (simp (disch := omega) only [l, m1lt, nIm1, m1nI, not_true_eq_false, not_false_eq_true, jl, nI_ltI, nI_leI, nI_eq, nI_toInt]; done))); conv => whnf) | (with_reducible refine And.intro nz1 ?_; conv => whnf) | (with_reducible refine And.intro nz0 ?_; conv => whnf) | (refine And.intro ?_ ?_; (focus (first | with_reducible assumption | (intro zz; apply zz; with_reducible assumption) | (simp (disch := omega) only [l, m1lt, nIm1, m1nI, not_true_eq_false, not_false_eq_true, jl, nI_ltI, nI_leI, nI_eq, nI_toInt]; omega) | (simp (disch := omega) only [l, m1lt, nIm1, m1nI, not_true_eq_false, not_false_eq_true, jl, nI_ltI, nI_leI, nI_eq, nI_toInt]; done))); conv => whnf) | (refine And.intro ?_ ?_; (focus (first | with_reducible assumption | ((with_reducible refine vp_in_nI ?_ ?_) <;> omega) | ((with_reducible refine vp_0 ?_); omega) | ((with_reducible refine vp_s1 ?_ ?_) <;> omega) | ((with_reducible refine vp_a1 ?_ ?_) <;> omega) | ((with_reducible refine vp_m1 ?_ ?_) <;> omega) | ((with_reducible refine vp_m2 ?_ ?_) <;> omega))); conv => whnf))
      show Q (some (.int (mu m'.1 44 3 (m'.1 44 3 + 1) 44 3 - 1))) (mu m'.1 44 3 (m'.1 44 3 + 1), m'.2)
      rw [mu_at, if_pos rfl, e3, nI_1, sub1]
      have f3 : FrX [45, 46] [3, 6, 16, 17, 18, 19, 20, 22, 23, 24] m (mu m'.1 44 3 (nI (t.1 + 1)), m'.2) := (fa.up (fun _ z => z) (by simp)).tr (FrX.one (by simp))
      refine h1 _ ⟨hm.1.fr f3 (by decide) (by decide) (by decide), ⟨by show mu m'.1 44 3 (nI (t.1 + 1)) 44 3 = _; rw [mu_at, if_pos rfl], by show 0 < t.1 + 1; omega, by show t.1 + 1 ≤ 6; omega, fun k hk => ?_⟩, ⟨by rw [f3.2 4 (by decide)]; exact hu.1, by show u < t.1 + 1; have := hu.2; omega⟩, ⟨by show mu m'.1 44 3 (nI (t.1 + 1)) 44 6 = nI 0; rw [mu_at, if_neg (by decide)]; exact h6' m' f, Nat.zero_le _, fun j hj => absurd hj (Nat.not_lt_zero j)⟩, ?_, hm.sh f3 (by decide) (by decide) (by decide) (by decide)⟩ (FrD.of f3 (by decide))
      · show updf t.2.1 t.1 p.1 k ≤ 160 ∧ mu m'.1 44 3 (nI (t.1 + 1)) 46 k = nI (updf t.2.1 t.1 p.1 k) ∧ (∀ j, j < updf t.2.1 t.1 p.1 k → updf t.2.2.1 t.1 p.2 k j < 256 ∧ mu m'.1 44 3 (nI (t.1 + 1)) 45 (160 * k + j) = nI (updf t.2.2.1 t.1 p.2 k j)) ∧ GT (updf t.2.1 t.1 p.1 k) (updf t.2.2.1 t.1 p.2 k) (updf t.2.2.2 t.1 (tex3 (T2 0, T2 0 ++ T2 1, T2 0 ++ T2 1 ++ T2 2)) k)
        rw [mu_ne (by decide), mu_ne (by decide)]
        unfold updf
        by_cases hkt : k = t.1
        · simp only [if_pos hkt]
          subst hkt
          refine ⟨b160, ?_, fun j hj => ⟨(bB j hj).1, ?_⟩, hg⟩
          · rw [f.1 46 (by decide), g46', if_pos rfl]
          · rw [f.1 45 (by decide), g45']
            exact e2 j hj
        · simp only [if_neg hkt]
          exact old m' f k (by have : k < t.1 + 1 := hk; omega)
      · have := hm.im f3 (by decide) (by decide) (by decide)
        exact ⟨this.1, this.2.1, fun z => ⟨(this.2.2 z).1, (this.2.2 z).2.1, (this.2.2 z).2.2.1, by show i.2.2.2 < t.1 + 1; have := (this.2.2 z).2.2.2; omega⟩⟩
end MHO
