/-! THE MODEL'S CALLS: copy, cards by a sheet -/
def cpz (F : Nat → Int32) (X Y lo hi : Nat) : Nat → Int32 := fun z => if Y + lo ≤ z ∧ z < Y + hi then F (X + (z - Y)) else F z
theorem subI {a : Nat} {n : Int32} (ha : a < 1000) (hn : ¬ n < 0) : (nI a - n).toInt = (a : Int) - n.toInt := by
  have h0 : 0 ≤ n.toInt := by
    have := Int32.le_iff_toInt_le.mp (Int32.not_lt.mp hn)
    rw [show (0 : Int32).toInt = 0 from rfl] at this
    exact this
  have h1 := n.toInt_lt
  rw [Int32.toInt_sub, nI_toInt (by omega)]
  exact bmodj (by omega) (by omega)
theorem nn0 {n : Int32} (hn : ¬ n < 0) : 0 ≤ n.toInt := by
  have := Int32.le_iff_toInt_le.mp (Int32.not_lt.mp hn)
  rw [show (0 : Int32).toInt = 0 from rfl] at this
  exact this
theorem neg0 {n : Int32} (hn : n < 0) : n.toInt < 0 := by
  have := Int32.lt_iff_toInt_lt.mp hn
  rw [show (0 : Int32).toInt = 0 from rfl] at this
  exact this
section MCP
variable {g : Gg} {u : Nat} {t : Gt} {p : Gg} {i : Gi} {h : Gh} {m m' : Mm} {d : Nat} {Q : Qr}
theorem cp_down {a b x y n : Nat} {F : Nat → Int32} (ha : a < 4) (hb : b < 4) (hx : x + n ≤ 40) (hy : y + n ≤ 40) (hd : ¬ (a = b ∧ x < y)) : ∀ (r k : Nat) (m : Mm) (o8 : Option Value), k + r = n → m.1 57 = cpz F (40 * a + x) (40 * b + y) 0 k → (∀ m', FrX [57] [] m m' → m'.1 57 = cpz F (40 * a + x) (40 * b + y) 0 n → Q (some (.int (nI n))) m') → WP SH (CT d) Q c_X7_copy 121 [some (.ref 44), some (.int (nI a)), some (.int (nI x)), some (.int (nI b)), some (.int (nI y)), some (.int (nI n)), some (.int 0), some (.int (nI k)), o8] [] m := by
  intro r
  induction r with
  | zero =>
    intro k m o8 hk hz h1
    have e : k = n := by omega
    subst e
    refine wpn mo_X7_copy (fun C P hC hP => ?_)
    conv => whnf
    repeat (first | (refine br_f ?_ ?_; (focus (first | with_reducible assumption | (intro zz; apply zz; with_reducible assumption) | (simp (disch := omega) only [m1lt, nIm1, m1nI, not_true_eq_false, not_false_eq_true, jl, nI_ltI, nI_leI, nI_eq, nI_toInt]; omega) | (simp (disch := omega) only [m1lt, nIm1, m1nI, not_true_eq_false, not_false_eq_true, jl, nI_ltI, nI_leI, nI_eq, nI_toInt]; done))); conv => whnf) | (refine br_t ?_ ?_; (focus (first | with_reducible assumption | (intro zz; apply zz; with_reducible assumption) | (simp (disch := omega) only [m1lt, nIm1, m1nI, not_true_eq_false, not_false_eq_true, jl, nI_ltI, nI_leI, nI_eq, nI_toInt]; omega) | (simp (disch := omega) only [m1lt, nIm1, m1nI, not_true_eq_false, not_false_eq_true, jl, nI_ltI, nI_leI, nI_eq, nI_toInt]; done))); conv => whnf) | (with_reducible refine And.intro nz1 ?_; conv => whnf) | (with_reducible refine And.intro nz0 ?_; conv => whnf) | (refine And.intro ?_ ?_; (focus (first | with_reducible assumption | (intro zz; apply zz; with_reducible assumption) | (simp (disch := omega) only [m1lt, nIm1, m1nI, not_true_eq_false, not_false_eq_true, jl, nI_ltI, nI_leI, nI_eq, nI_toInt]; omega) | (simp (disch := omega) only [m1lt, nIm1, m1nI, not_true_eq_false, not_false_eq_true, jl, nI_ltI, nI_leI, nI_eq, nI_toInt]; done))); conv => whnf) | (refine And.intro ?_ ?_; (focus (first | with_reducible assumption | ((with_reducible refine vp_in_nI ?_ ?_) <;> omega) | ((with_reducible refine vp_0 ?_); omega) | ((with_reducible refine vp_s1 ?_ ?_) <;> omega) | ((with_reducible refine vp_a1 ?_ ?_) <;> omega) | ((with_reducible refine vp_m1 ?_ ?_) <;> omega) | ((with_reducible refine vp_m2 ?_ ?_) <;> omega))); conv => whnf))
    exact h1 m FrX.rf hz
  | succ r ih =>
    intro k m o8 hk hz h1
    have e1 : 40 * nI b + nI y + nI k = nI (40 * b + y + k) := by rw [jl 40, pk_mul, nI_add, nI_add]
    have e2 : 40 * nI a + nI x + nI k = nI (40 * a + x + k) := by rw [jl 40, pk_mul, nI_add, nI_add]
    have c1 : (nI (40 * b + y + k)).toNatClampNeg = 40 * b + y + k := nI_clamp (by omega)
    have c2 : (nI (40 * a + x + k)).toNatClampNeg = 40 * a + x + k := nI_clamp (by omega)
    have v1 : vp_in (40 * nI b + nI y + nI k) 160 := by rw [e1]; exact vp_in_nI (by omega) (by omega)
    have v2 : vp_in (40 * nI a + nI x + nI k) 160 := by rw [e2]; exact vp_in_nI (by omega) (by omega)
    refine wpn mo_X7_copy (fun C P hC hP => ?_)
    conv => whnf
    repeat (first | (refine br_f ?_ ?_; (focus (first | with_reducible assumption | (intro zz; apply zz; with_reducible assumption) | (simp (disch := omega) only [m1lt, nIm1, m1nI, not_true_eq_false, not_false_eq_true, jl, nI_ltI, nI_leI, nI_eq, nI_toInt]; omega) | (simp (disch := omega) only [m1lt, nIm1, m1nI, not_true_eq_false, not_false_eq_true, jl, nI_ltI, nI_leI, nI_eq, nI_toInt]; done))); conv => whnf) | (refine br_t ?_ ?_; (focus (first | with_reducible assumption | (intro zz; apply zz; with_reducible assumption) | (simp (disch := omega) only [m1lt, nIm1, m1nI, not_true_eq_false, not_false_eq_true, jl, nI_ltI, nI_leI, nI_eq, nI_toInt]; omega) | (simp (disch := omega) only [m1lt, nIm1, m1nI, not_true_eq_false, not_false_eq_true, jl, nI_ltI, nI_leI, nI_eq, nI_toInt]; done))); conv => whnf) | (with_reducible refine And.intro nz1 ?_; conv => whnf) | (with_reducible refine And.intro nz0 ?_; conv => whnf) | (refine And.intro ?_ ?_; (focus (first | with_reducible assumption | (intro zz; apply zz; with_reducible assumption) | (simp (disch := omega) only [m1lt, nIm1, m1nI, not_true_eq_false, not_false_eq_true, jl, nI_ltI, nI_leI, nI_eq, nI_toInt]; omega) | (simp (disch := omega) only [m1lt, nIm1, m1nI, not_true_eq_false, not_false_eq_true, jl, nI_ltI, nI_leI, nI_eq, nI_toInt]; done))); conv => whnf) | (refine And.intro ?_ ?_; (focus (first | with_reducible assumption | ((with_reducible refine vp_in_nI ?_ ?_) <;> omega) | ((with_reducible refine vp_0 ?_); omega) | ((with_reducible refine vp_s1 ?_ ?_) <;> omega) | ((with_reducible refine vp_a1 ?_ ?_) <;> omega) | ((with_reducible refine vp_m1 ?_ ?_) <;> omega) | ((with_reducible refine vp_m2 ?_ ?_) <;> omega))); conv => whnf))
    refine hP _ _ _ _ ?_
    show WP SH (CT d) Q c_X7_copy 121 [some (.ref 44), some (.int (nI a)), some (.int (nI x)), some (.int (nI b)), some (.int (nI y)), some (.int (nI n)), some (.int 0), some (.int (nI k + 1)), some (.int (nI k))] [] (mu m.1 57 (40 * nI b + nI y + nI k).toNatClampNeg (m.1 57 (40 * nI a + nI x + nI k).toNatClampNeg), m.2)
    rw [e1, e2, c1, c2, nI_1]
    have f1 : FrX [57] [] m (mu m.1 57 (40 * b + y + k) (m.1 57 (40 * a + x + k)), m.2) := FrX.cell (by simp) (by decide)
    have hv : m.1 57 (40 * a + x + k) = F (40 * a + x + k) := by
      rw [hz]
      unfold cpz
      rw [if_neg (by omega)]
    rw [hv]
    rw [hv] at f1
    refine ih (k + 1) _ _ (by omega) ?_ (fun m' f' e' => h1 m' (f1.tr f') e')
    funext z
    show mu m.1 57 (40 * b + y + k) (F (40 * a + x + k)) 57 z = _
    rw [mu_at, hz]
    unfold cpz
    by_cases hzk : z = 40 * b + y + k
    · rw [if_pos hzk, if_pos (by omega), show 40 * a + x + (z - (40 * b + y)) = 40 * a + x + k by omega]
    · rw [if_neg hzk]
      by_cases h2 : 40 * b + y + 0 ≤ z ∧ z < 40 * b + y + k
      · rw [if_pos h2, if_pos (by omega)]
      · rw [if_neg h2, if_neg (by omega)]
theorem cp_up {a x y n : Nat} {F : Nat → Int32} (ha : a < 4) (hx : x + n ≤ 40) (hy : y + n ≤ 40) (hd : x < y) : ∀ (r k : Nat) (m : Mm) (o8 : Option Value), k + r = n → m.1 57 = cpz F (40 * a + x) (40 * a + y) (n - k) n → (∀ m', FrX [57] [] m m' → m'.1 57 = cpz F (40 * a + x) (40 * a + y) 0 n → Q (some (.int (nI n))) m') → WP SH (CT d) Q c_X7_copy 121 [some (.ref 44), some (.int (nI a)), some (.int (nI x)), some (.int (nI a)), some (.int (nI y)), some (.int (nI n)), some (.int 1), some (.int (nI k)), o8] [] m := by
  intro r
  induction r with
  | zero =>
    intro k m o8 hk hz h1
    have e : k = n := by omega
    subst e
    rw [Nat.sub_self] at hz
    refine wpn mo_X7_copy (fun C P hC hP => ?_)
    conv => whnf
    repeat (first | (refine br_f ?_ ?_; (focus (first | with_reducible assumption | (intro zz; apply zz; with_reducible assumption) | (simp (disch := omega) only [m1lt, nIm1, m1nI, not_true_eq_false, not_false_eq_true, jl, nI_ltI, nI_leI, nI_eq, nI_toInt]; omega) | (simp (disch := omega) only [m1lt, nIm1, m1nI, not_true_eq_false, not_false_eq_true, jl, nI_ltI, nI_leI, nI_eq, nI_toInt]; done))); conv => whnf) | (refine br_t ?_ ?_; (focus (first | with_reducible assumption | (intro zz; apply zz; with_reducible assumption) | (simp (disch := omega) only [m1lt, nIm1, m1nI, not_true_eq_false, not_false_eq_true, jl, nI_ltI, nI_leI, nI_eq, nI_toInt]; omega) | (simp (disch := omega) only [m1lt, nIm1, m1nI, not_true_eq_false, not_false_eq_true, jl, nI_ltI, nI_leI, nI_eq, nI_toInt]; done))); conv => whnf) | (with_reducible refine And.intro nz1 ?_; conv => whnf) | (with_reducible refine And.intro nz0 ?_; conv => whnf) | (refine And.intro ?_ ?_; (focus (first | with_reducible assumption | (intro zz; apply zz; with_reducible assumption) | (simp (disch := omega) only [m1lt, nIm1, m1nI, not_true_eq_false, not_false_eq_true, jl, nI_ltI, nI_leI, nI_eq, nI_toInt]; omega) | (simp (disch := omega) only [m1lt, nIm1, m1nI, not_true_eq_false, not_false_eq_true, jl, nI_ltI, nI_leI, nI_eq, nI_toInt]; done))); conv => whnf) | (refine And.intro ?_ ?_; (focus (first | with_reducible assumption | ((with_reducible refine vp_in_nI ?_ ?_) <;> omega) | ((with_reducible refine vp_0 ?_); omega) | ((with_reducible refine vp_s1 ?_ ?_) <;> omega) | ((with_reducible refine vp_a1 ?_ ?_) <;> omega) | ((with_reducible refine vp_m1 ?_ ?_) <;> omega) | ((with_reducible refine vp_m2 ?_ ?_) <;> omega))); conv => whnf))
    exact h1 m FrX.rf hz
  | succ r ih =>
    intro k m o8 hk hz h1
    have er : n - 1 - k = r := by omega
    have e0 : nI n - 1 - nI k = nI r := by
      show nI n - nI 1 - nI k = nI r
      rw [pk_sub (by omega), pk_sub (by omega), er]
    have e1 : 40 * nI a + nI y + (nI n - 1 - nI k) = nI (40 * a + y + r) := by rw [e0, jl 40, pk_mul, nI_add, nI_add]
    have e2 : 40 * nI a + nI x + (nI n - 1 - nI k) = nI (40 * a + x + r) := by rw [e0, jl 40, pk_mul, nI_add, nI_add]
    have c1 : (nI (40 * a + y + r)).toNatClampNeg = 40 * a + y + r := nI_clamp (by omega)
    have c2 : (nI (40 * a + x + r)).toNatClampNeg = 40 * a + x + r := nI_clamp (by omega)
    have v1 : vp_in (40 * nI a + nI y + (nI n - 1 - nI k)) 160 := by rw [e1]; exact vp_in_nI (by omega) (by omega)
    have v2 : vp_in (40 * nI a + nI x + (nI n - 1 - nI k)) 160 := by rw [e2]; exact vp_in_nI (by omega) (by omega)
    refine wpn mo_X7_copy (fun C P hC hP => ?_)
    conv => whnf
    repeat (first | (refine br_f ?_ ?_; (focus (first | with_reducible assumption | (intro zz; apply zz; with_reducible assumption) | (simp (disch := omega) only [m1lt, nIm1, m1nI, not_true_eq_false, not_false_eq_true, jl, nI_ltI, nI_leI, nI_eq, nI_toInt]; omega) | (simp (disch := omega) only [m1lt, nIm1, m1nI, not_true_eq_false, not_false_eq_true, jl, nI_ltI, nI_leI, nI_eq, nI_toInt]; done))); conv => whnf) | (refine br_t ?_ ?_; (focus (first | with_reducible assumption | (intro zz; apply zz; with_reducible assumption) | (simp (disch := omega) only [m1lt, nIm1, m1nI, not_true_eq_false, not_false_eq_true, jl, nI_ltI, nI_leI, nI_eq, nI_toInt]; omega) | (simp (disch := omega) only [m1lt, nIm1, m1nI, not_true_eq_false, not_false_eq_true, jl, nI_ltI, nI_leI, nI_eq, nI_toInt]; done))); conv => whnf) | (with_reducible refine And.intro nz1 ?_; conv => whnf) | (with_reducible refine And.intro nz0 ?_; conv => whnf) | (refine And.intro ?_ ?_; (focus (first | with_reducible assumption | (intro zz; apply zz; with_reducible assumption) | (simp (disch := omega) only [m1lt, nIm1, m1nI, not_true_eq_false, not_false_eq_true, jl, nI_ltI, nI_leI, nI_eq, nI_toInt]; omega) | (simp (disch := omega) only [m1lt, nIm1, m1nI, not_true_eq_false, not_false_eq_true, jl, nI_ltI, nI_leI, nI_eq, nI_toInt]; done))); conv => whnf) | (refine And.intro ?_ ?_; (focus (first | with_reducible assumption | ((with_reducible refine vp_in_nI ?_ ?_) <;> omega) | ((with_reducible refine vp_0 ?_); omega) | ((with_reducible refine vp_s1 ?_ ?_) <;> omega) | ((with_reducible refine vp_a1 ?_ ?_) <;> omega) | ((with_reducible refine vp_m1 ?_ ?_) <;> omega) | ((with_reducible refine vp_m2 ?_ ?_) <;> omega))); conv => whnf))
    refine hP _ _ _ _ ?_
    show WP SH (CT d) Q c_X7_copy 121 [some (.ref 44), some (.int (nI a)), some (.int (nI x)), some (.int (nI a)), some (.int (nI y)), some (.int (nI n)), some (.int 1), some (.int (nI k + 1)), some (.int (nI n - 1 - nI k))] [] (mu m.1 57 (40 * nI a + nI y + (nI n - 1 - nI k)).toNatClampNeg (m.1 57 (40 * nI a + nI x + (nI n - 1 - nI k)).toNatClampNeg), m.2)
    rw [e1, e2, c1, c2, nI_1]
    have f1 : FrX [57] [] m (mu m.1 57 (40 * a + y + r) (m.1 57 (40 * a + x + r)), m.2) := FrX.cell (by simp) (by decide)
    have hv : m.1 57 (40 * a + x + r) = F (40 * a + x + r) := by
      rw [hz]
      unfold cpz
      rw [if_neg (by omega)]
    rw [hv]
    rw [hv] at f1
    refine ih (k + 1) _ _ (by omega) ?_ (fun m' f' e' => h1 m' (f1.tr f') e')
    funext z
    show mu m.1 57 (40 * a + y + r) (F (40 * a + x + r)) 57 z = _
    rw [mu_at, hz]
    unfold cpz
    by_cases hzk : z = 40 * a + y + r
    · rw [if_pos hzk, if_pos (by omega), show 40 * a + x + (z - (40 * a + y)) = 40 * a + x + r by omega]
    · rw [if_neg hzk]
      by_cases h2 : 40 * a + y + (n - k) ≤ z ∧ z < 40 * a + y + n
      · rw [if_pos h2, if_pos (by omega)]
      · rw [if_neg h2, if_neg (by omega)]
theorem y_copy {s x o y n : Int32} (hm : MI m g u t p i h) (h1 : ∀ m', MI m' g u t p i (aCopy s x o y n h).2 → FrD m m' → Q (some (.int (aCopy s x o y n h).1)) m') : CT (d + 3) n_X7_copy [.ref 44, .int s, .int x, .int o, .int y, .int n] m Q := by
  have hsh := hm.2.2.2.2.2
  unfold aCopy at h1
  refine opn cd_X7_copy rfl (fun C P hC hP => ?_)
  unfold c_X7_copy; generalize hT : c_X7_copy_121 = T
  conv => whnf
  repeat (first | (refine br_f ?_ ?_; (focus (first | with_reducible assumption | (intro zz; apply zz; with_reducible assumption) | (simp (disch := omega) only [m1lt, nIm1, m1nI, not_true_eq_false, not_false_eq_true, jl, nI_ltI, nI_leI, nI_eq, nI_toInt]; omega) | (simp (disch := omega) only [m1lt, nIm1, m1nI, not_true_eq_false, not_false_eq_true, jl, nI_ltI, nI_leI, nI_eq, nI_toInt]; done))); conv => whnf) | (refine br_t ?_ ?_; (focus (first | with_reducible assumption | (intro zz; apply zz; with_reducible assumption) | (simp (disch := omega) only [m1lt, nIm1, m1nI, not_true_eq_false, not_false_eq_true, jl, nI_ltI, nI_leI, nI_eq, nI_toInt]; omega) | (simp (disch := omega) only [m1lt, nIm1, m1nI, not_true_eq_false, not_false_eq_true, jl, nI_ltI, nI_leI, nI_eq, nI_toInt]; done))); conv => whnf) | (with_reducible refine And.intro nz1 ?_; conv => whnf) | (with_reducible refine And.intro nz0 ?_; conv => whnf) | (refine And.intro ?_ ?_; (focus (first | with_reducible assumption | (intro zz; apply zz; with_reducible assumption) | (simp (disch := omega) only [m1lt, nIm1, m1nI, not_true_eq_false, not_false_eq_true, jl, nI_ltI, nI_leI, nI_eq, nI_toInt]; omega) | (simp (disch := omega) only [m1lt, nIm1, m1nI, not_true_eq_false, not_false_eq_true, jl, nI_ltI, nI_leI, nI_eq, nI_toInt]; done))); conv => whnf) | (refine And.intro ?_ ?_; (focus (first | with_reducible assumption | ((with_reducible refine vp_in_nI ?_ ?_) <;> omega) | ((with_reducible refine vp_0 ?_); omega) | ((with_reducible refine vp_s1 ?_ ?_) <;> omega) | ((with_reducible refine vp_a1 ?_ ?_) <;> omega) | ((with_reducible refine vp_m1 ?_ ?_) <;> omega) | ((with_reducible refine vp_m2 ?_ ?_) <;> omega))); conv => whnf))
  refine useC hC (y_isSheet ?_)
  cases e0 : ixo s 4 with
  | none =>
    rw [e0] at h1
    conv => whnf
    repeat (first | (refine br_f ?_ ?_; (focus (first | with_reducible assumption | (intro zz; apply zz; with_reducible assumption) | (simp (disch := omega) only [m1lt, nIm1, m1nI, not_true_eq_false, not_false_eq_true, jl, nI_ltI, nI_leI, nI_eq, nI_toInt]; omega) | (simp (disch := omega) only [m1lt, nIm1, m1nI, not_true_eq_false, not_false_eq_true, jl, nI_ltI, nI_leI, nI_eq, nI_toInt]; done))); conv => whnf) | (refine br_t ?_ ?_; (focus (first | with_reducible assumption | (intro zz; apply zz; with_reducible assumption) | (simp (disch := omega) only [m1lt, nIm1, m1nI, not_true_eq_false, not_false_eq_true, jl, nI_ltI, nI_leI, nI_eq, nI_toInt]; omega) | (simp (disch := omega) only [m1lt, nIm1, m1nI, not_true_eq_false, not_false_eq_true, jl, nI_ltI, nI_leI, nI_eq, nI_toInt]; done))); conv => whnf) | (with_reducible refine And.intro nz1 ?_; conv => whnf) | (with_reducible refine And.intro nz0 ?_; conv => whnf) | (refine And.intro ?_ ?_; (focus (first | with_reducible assumption | (intro zz; apply zz; with_reducible assumption) | (simp (disch := omega) only [m1lt, nIm1, m1nI, not_true_eq_false, not_false_eq_true, jl, nI_ltI, nI_leI, nI_eq, nI_toInt]; omega) | (simp (disch := omega) only [m1lt, nIm1, m1nI, not_true_eq_false, not_false_eq_true, jl, nI_ltI, nI_leI, nI_eq, nI_toInt]; done))); conv => whnf) | (refine And.intro ?_ ?_; (focus (first | with_reducible assumption | ((with_reducible refine vp_in_nI ?_ ?_) <;> omega) | ((with_reducible refine vp_0 ?_); omega) | ((with_reducible refine vp_s1 ?_ ?_) <;> omega) | ((with_reducible refine vp_a1 ?_ ?_) <;> omega) | ((with_reducible refine vp_m1 ?_ ?_) <;> omega) | ((with_reducible refine vp_m2 ?_ ?_) <;> omega))); conv => whnf))
    exact h1 m hm FrD.rf
  | some a =>
    rw [e0] at h1
    obtain ⟨rfl, ha⟩ := ixo_some (by decide) e0
    have ca : (nI a).toNatClampNeg = a := nI_clamp (by omega)
    conv => whnf
    repeat (first | (refine br_f ?_ ?_; (focus (first | with_reducible assumption | (intro zz; apply zz; with_reducible assumption) | (simp (disch := omega) only [m1lt, nIm1, m1nI, not_true_eq_false, not_false_eq_true, jl, nI_ltI, nI_leI, nI_eq, nI_toInt]; omega) | (simp (disch := omega) only [m1lt, nIm1, m1nI, not_true_eq_false, not_false_eq_true, jl, nI_ltI, nI_leI, nI_eq, nI_toInt]; done))); conv => whnf) | (refine br_t ?_ ?_; (focus (first | with_reducible assumption | (intro zz; apply zz; with_reducible assumption) | (simp (disch := omega) only [m1lt, nIm1, m1nI, not_true_eq_false, not_false_eq_true, jl, nI_ltI, nI_leI, nI_eq, nI_toInt]; omega) | (simp (disch := omega) only [m1lt, nIm1, m1nI, not_true_eq_false, not_false_eq_true, jl, nI_ltI, nI_leI, nI_eq, nI_toInt]; done))); conv => whnf) | (with_reducible refine And.intro nz1 ?_; conv => whnf) | (with_reducible refine And.intro nz0 ?_; conv => whnf) | (refine And.intro ?_ ?_; (focus (first | with_reducible assumption | (intro zz; apply zz; with_reducible assumption) | (simp (disch := omega) only [m1lt, nIm1, m1nI, not_true_eq_false, not_false_eq_true, jl, nI_ltI, nI_leI, nI_eq, nI_toInt]; omega) | (simp (disch := omega) only [m1lt, nIm1, m1nI, not_true_eq_false, not_false_eq_true, jl, nI_ltI, nI_leI, nI_eq, nI_toInt]; done))); conv => whnf) | (refine And.intro ?_ ?_; (focus (first | with_reducible assumption | ((with_reducible refine vp_in_nI ?_ ?_) <;> omega) | ((with_reducible refine vp_0 ?_); omega) | ((with_reducible refine vp_s1 ?_ ?_) <;> omega) | ((with_reducible refine vp_a1 ?_ ?_) <;> omega) | ((with_reducible refine vp_m1 ?_ ?_) <;> omega) | ((with_reducible refine vp_m2 ?_ ?_) <;> omega))); conv => whnf))
    refine useC hC (y_isSheet ?_)
    cases e1 : ixo o 4 with
    | none =>
      rw [e1] at h1
      conv => whnf
      repeat (first | (refine br_f ?_ ?_; (focus (first | with_reducible assumption | (intro zz; apply zz; with_reducible assumption) | (simp (disch := omega) only [m1lt, nIm1, m1nI, not_true_eq_false, not_false_eq_true, jl, nI_ltI, nI_leI, nI_eq, nI_toInt]; omega) | (simp (disch := omega) only [m1lt, nIm1, m1nI, not_true_eq_false, not_false_eq_true, jl, nI_ltI, nI_leI, nI_eq, nI_toInt]; done))); conv => whnf) | (refine br_t ?_ ?_; (focus (first | with_reducible assumption | (intro zz; apply zz; with_reducible assumption) | (simp (disch := omega) only [m1lt, nIm1, m1nI, not_true_eq_false, not_false_eq_true, jl, nI_ltI, nI_leI, nI_eq, nI_toInt]; omega) | (simp (disch := omega) only [m1lt, nIm1, m1nI, not_true_eq_false, not_false_eq_true, jl, nI_ltI, nI_leI, nI_eq, nI_toInt]; done))); conv => whnf) | (with_reducible refine And.intro nz1 ?_; conv => whnf) | (with_reducible refine And.intro nz0 ?_; conv => whnf) | (refine And.intro ?_ ?_; (focus (first | with_reducible assumption | (intro zz; apply zz; with_reducible assumption) | (simp (disch := omega) only [m1lt, nIm1, m1nI, not_true_eq_false, not_false_eq_true, jl, nI_ltI, nI_leI, nI_eq, nI_toInt]; omega) | (simp (disch := omega) only [m1lt, nIm1, m1nI, not_true_eq_false, not_false_eq_true, jl, nI_ltI, nI_leI, nI_eq, nI_toInt]; done))); conv => whnf) | (refine And.intro ?_ ?_; (focus (first | with_reducible assumption | ((with_reducible refine vp_in_nI ?_ ?_) <;> omega) | ((with_reducible refine vp_0 ?_); omega) | ((with_reducible refine vp_s1 ?_ ?_) <;> omega) | ((with_reducible refine vp_a1 ?_ ?_) <;> omega) | ((with_reducible refine vp_m1 ?_ ?_) <;> omega) | ((with_reducible refine vp_m2 ?_ ?_) <;> omega))); conv => whnf))
      exact h1 m hm FrD.rf
    | some b =>
      rw [e1] at h1
      obtain ⟨rfl, hb⟩ := ixo_some (by decide) e1
      have cb : (nI b).toNatClampNeg = b := nI_clamp (by omega)
      obtain ⟨s3, s54, s55, sr⟩ := hsh a ha
      obtain ⟨q3, q54, q55, qr⟩ := hsh b hb
      by_cases ha0 : h.1 a = 0
      · simp only [if_pos (Or.inl ha0 : h.1 a = 0 ∨ h.1 b = 0)] at h1
        rw [if_pos ha0] at s54
        have z54 : m.1 54 (nI a).toNatClampNeg = 0 := by rw [ca]; exact s54
        conv => whnf
        repeat (first | (refine br_f ?_ ?_; (focus (first | with_reducible assumption | (intro zz; apply zz; with_reducible assumption) | (simp (disch := omega) only [m1lt, nIm1, m1nI, not_true_eq_false, not_false_eq_true, jl, nI_ltI, nI_leI, nI_eq, nI_toInt]; omega) | (simp (disch := omega) only [m1lt, nIm1, m1nI, not_true_eq_false, not_false_eq_true, jl, nI_ltI, nI_leI, nI_eq, nI_toInt]; done))); conv => whnf) | (refine br_t ?_ ?_; (focus (first | with_reducible assumption | (intro zz; apply zz; with_reducible assumption) | (simp (disch := omega) only [m1lt, nIm1, m1nI, not_true_eq_false, not_false_eq_true, jl, nI_ltI, nI_leI, nI_eq, nI_toInt]; omega) | (simp (disch := omega) only [m1lt, nIm1, m1nI, not_true_eq_false, not_false_eq_true, jl, nI_ltI, nI_leI, nI_eq, nI_toInt]; done))); conv => whnf) | (with_reducible refine And.intro nz1 ?_; conv => whnf) | (with_reducible refine And.intro nz0 ?_; conv => whnf) | (refine And.intro ?_ ?_; (focus (first | with_reducible assumption | (intro zz; apply zz; with_reducible assumption) | (simp (disch := omega) only [m1lt, nIm1, m1nI, not_true_eq_false, not_false_eq_true, jl, nI_ltI, nI_leI, nI_eq, nI_toInt]; omega) | (simp (disch := omega) only [m1lt, nIm1, m1nI, not_true_eq_false, not_false_eq_true, jl, nI_ltI, nI_leI, nI_eq, nI_toInt]; done))); conv => whnf) | (refine And.intro ?_ ?_; (focus (first | with_reducible assumption | ((with_reducible refine vp_in_nI ?_ ?_) <;> omega) | ((with_reducible refine vp_0 ?_); omega) | ((with_reducible refine vp_s1 ?_ ?_) <;> omega) | ((with_reducible refine vp_a1 ?_ ?_) <;> omega) | ((with_reducible refine vp_m1 ?_ ?_) <;> omega) | ((with_reducible refine vp_m2 ?_ ?_) <;> omega))); conv => whnf))
        exact h1 m hm FrD.rf
      rw [if_neg ha0] at s54
      have z54 : ¬ m.1 54 (nI a).toNatClampNeg = 0 := by rw [ca, s54]; decide
      by_cases hb0 : h.1 b = 0
      · simp only [if_pos (Or.inr hb0 : h.1 a = 0 ∨ h.1 b = 0)] at h1
        rw [if_pos hb0] at q54
        have w54 : m.1 54 (nI b).toNatClampNeg = 0 := by rw [cb]; exact q54
        conv => whnf
        repeat (first | (refine br_f ?_ ?_; (focus (first | with_reducible assumption | (intro zz; apply zz; with_reducible assumption) | (simp (disch := omega) only [m1lt, nIm1, m1nI, not_true_eq_false, not_false_eq_true, jl, nI_ltI, nI_leI, nI_eq, nI_toInt]; omega) | (simp (disch := omega) only [m1lt, nIm1, m1nI, not_true_eq_false, not_false_eq_true, jl, nI_ltI, nI_leI, nI_eq, nI_toInt]; done))); conv => whnf) | (refine br_t ?_ ?_; (focus (first | with_reducible assumption | (intro zz; apply zz; with_reducible assumption) | (simp (disch := omega) only [m1lt, nIm1, m1nI, not_true_eq_false, not_false_eq_true, jl, nI_ltI, nI_leI, nI_eq, nI_toInt]; omega) | (simp (disch := omega) only [m1lt, nIm1, m1nI, not_true_eq_false, not_false_eq_true, jl, nI_ltI, nI_leI, nI_eq, nI_toInt]; done))); conv => whnf) | (with_reducible refine And.intro nz1 ?_; conv => whnf) | (with_reducible refine And.intro nz0 ?_; conv => whnf) | (refine And.intro ?_ ?_; (focus (first | with_reducible assumption | (intro zz; apply zz; with_reducible assumption) | (simp (disch := omega) only [m1lt, nIm1, m1nI, not_true_eq_false, not_false_eq_true, jl, nI_ltI, nI_leI, nI_eq, nI_toInt]; omega) | (simp (disch := omega) only [m1lt, nIm1, m1nI, not_true_eq_false, not_false_eq_true, jl, nI_ltI, nI_leI, nI_eq, nI_toInt]; done))); conv => whnf) | (refine And.intro ?_ ?_; (focus (first | with_reducible assumption | ((with_reducible refine vp_in_nI ?_ ?_) <;> omega) | ((with_reducible refine vp_0 ?_); omega) | ((with_reducible refine vp_s1 ?_ ?_) <;> omega) | ((with_reducible refine vp_a1 ?_ ?_) <;> omega) | ((with_reducible refine vp_m1 ?_ ?_) <;> omega) | ((with_reducible refine vp_m2 ?_ ?_) <;> omega))); conv => whnf))
        exact h1 m hm FrD.rf
      rw [if_neg hb0] at q54
      have w54 : ¬ m.1 54 (nI b).toNatClampNeg = 0 := by rw [cb, q54]; decide
      simp only [if_neg (fun z => z.elim ha0 hb0 : ¬ (h.1 a = 0 ∨ h.1 b = 0))] at h1
      obtain ⟨s56, s40, s57⟩ := sr ha0
      obtain ⟨q56, q40, q57⟩ := qr hb0
      have z55 : m.1 55 (nI a).toNatClampNeg = so1 (h.1 a) := by rw [ca]; exact s55 ha0
      have w55 : m.1 55 (nI b).toNatClampNeg = so1 (h.1 b) := by rw [cb]; exact q55 hb0
      have z56 : m.1 56 (nI a).toNatClampNeg = nI (h.2.1 a) := by rw [ca]; exact s56
      have w56 : m.1 56 (nI b).toNatClampNeg = nI (h.2.1 b) := by rw [cb]; exact q56
      have hse := so1_eq s3 q3
      by_cases hab : h.1 a = h.1 b
      · have hab2 : so1 (h.1 a) = so1 (h.1 b) := by rw [hab]
        simp only [if_neg (fun z => z hab : ¬ h.1 a ≠ h.1 b)] at h1
        have bad : (rwo x n (h.2.1 a) = none ∨ rwo y n (h.2.1 b) = none) → Q (some (.int (-12))) m := fun z => by
          rcases z with z | z
          · rw [z] at h1
            exact h1 m hm FrD.rf
          · cases e : rwo x n (h.2.1 a) with
            | none =>
              rw [e] at h1
              exact h1 m hm FrD.rf
            | some q =>
              rw [e, z] at h1
              exact h1 m hm FrD.rf
        by_cases n0 : n < 0
        · have := bad (Or.inl (by unfold rwo; have := neg0 n0; rw [if_neg (by omega)]))
          conv => whnf
          repeat (first | (refine br_f ?_ ?_; (focus (first | with_reducible assumption | (intro zz; apply zz; with_reducible assumption) | (simp (disch := omega) only [z55, w55, hab2, m1lt, nIm1, m1nI, not_true_eq_false, not_false_eq_true, jl, nI_ltI, nI_leI, nI_eq, nI_toInt]; omega) | (simp (disch := omega) only [z55, w55, hab2, m1lt, nIm1, m1nI, not_true_eq_false, not_false_eq_true, jl, nI_ltI, nI_leI, nI_eq, nI_toInt]; done))); conv => whnf) | (refine br_t ?_ ?_; (focus (first | with_reducible assumption | (intro zz; apply zz; with_reducible assumption) | (simp (disch := omega) only [z55, w55, hab2, m1lt, nIm1, m1nI, not_true_eq_false, not_false_eq_true, jl, nI_ltI, nI_leI, nI_eq, nI_toInt]; omega) | (simp (disch := omega) only [z55, w55, hab2, m1lt, nIm1, m1nI, not_true_eq_false, not_false_eq_true, jl, nI_ltI, nI_leI, nI_eq, nI_toInt]; done))); conv => whnf) | (with_reducible refine And.intro nz1 ?_; conv => whnf) | (with_reducible refine And.intro nz0 ?_; conv => whnf) | (refine And.intro ?_ ?_; (focus (first | with_reducible assumption | (intro zz; apply zz; with_reducible assumption) | (simp (disch := omega) only [z55, w55, hab2, m1lt, nIm1, m1nI, not_true_eq_false, not_false_eq_true, jl, nI_ltI, nI_leI, nI_eq, nI_toInt]; omega) | (simp (disch := omega) only [z55, w55, hab2, m1lt, nIm1, m1nI, not_true_eq_false, not_false_eq_true, jl, nI_ltI, nI_leI, nI_eq, nI_toInt]; done))); conv => whnf) | (refine And.intro ?_ ?_; (focus (first | with_reducible assumption | ((with_reducible refine vp_in_nI ?_ ?_) <;> omega) | ((with_reducible refine vp_0 ?_); omega) | ((with_reducible refine vp_s1 ?_ ?_) <;> omega) | ((with_reducible refine vp_a1 ?_ ?_) <;> omega) | ((with_reducible refine vp_m1 ?_ ?_) <;> omega) | ((with_reducible refine vp_m2 ?_ ?_) <;> omega))); conv => whnf))
          exact this
        by_cases x0 : x < 0
        · have := bad (Or.inl (by unfold rwo; have := neg0 x0; rw [if_neg (by omega)]))
          conv => whnf
          repeat (first | (refine br_f ?_ ?_; (focus (first | with_reducible assumption | (intro zz; apply zz; with_reducible assumption) | (simp (disch := omega) only [z55, w55, hab2, m1lt, nIm1, m1nI, not_true_eq_false, not_false_eq_true, jl, nI_ltI, nI_leI, nI_eq, nI_toInt]; omega) | (simp (disch := omega) only [z55, w55, hab2, m1lt, nIm1, m1nI, not_true_eq_false, not_false_eq_true, jl, nI_ltI, nI_leI, nI_eq, nI_toInt]; done))); conv => whnf) | (refine br_t ?_ ?_; (focus (first | with_reducible assumption | (intro zz; apply zz; with_reducible assumption) | (simp (disch := omega) only [z55, w55, hab2, m1lt, nIm1, m1nI, not_true_eq_false, not_false_eq_true, jl, nI_ltI, nI_leI, nI_eq, nI_toInt]; omega) | (simp (disch := omega) only [z55, w55, hab2, m1lt, nIm1, m1nI, not_true_eq_false, not_false_eq_true, jl, nI_ltI, nI_leI, nI_eq, nI_toInt]; done))); conv => whnf) | (with_reducible refine And.intro nz1 ?_; conv => whnf) | (with_reducible refine And.intro nz0 ?_; conv => whnf) | (refine And.intro ?_ ?_; (focus (first | with_reducible assumption | (intro zz; apply zz; with_reducible assumption) | (simp (disch := omega) only [z55, w55, hab2, m1lt, nIm1, m1nI, not_true_eq_false, not_false_eq_true, jl, nI_ltI, nI_leI, nI_eq, nI_toInt]; omega) | (simp (disch := omega) only [z55, w55, hab2, m1lt, nIm1, m1nI, not_true_eq_false, not_false_eq_true, jl, nI_ltI, nI_leI, nI_eq, nI_toInt]; done))); conv => whnf) | (refine And.intro ?_ ?_; (focus (first | with_reducible assumption | ((with_reducible refine vp_in_nI ?_ ?_) <;> omega) | ((with_reducible refine vp_0 ?_); omega) | ((with_reducible refine vp_s1 ?_ ?_) <;> omega) | ((with_reducible refine vp_a1 ?_ ?_) <;> omega) | ((with_reducible refine vp_m1 ?_ ?_) <;> omega) | ((with_reducible refine vp_m2 ?_ ?_) <;> omega))); conv => whnf))
          exact this
        by_cases y0 : y < 0
        · have := bad (Or.inr (by unfold rwo; have := neg0 y0; rw [if_neg (by omega)]))
          conv => whnf
          repeat (first | (refine br_f ?_ ?_; (focus (first | with_reducible assumption | (intro zz; apply zz; with_reducible assumption) | (simp (disch := omega) only [z55, w55, hab2, m1lt, nIm1, m1nI, not_true_eq_false, not_false_eq_true, jl, nI_ltI, nI_leI, nI_eq, nI_toInt]; omega) | (simp (disch := omega) only [z55, w55, hab2, m1lt, nIm1, m1nI, not_true_eq_false, not_false_eq_true, jl, nI_ltI, nI_leI, nI_eq, nI_toInt]; done))); conv => whnf) | (refine br_t ?_ ?_; (focus (first | with_reducible assumption | (intro zz; apply zz; with_reducible assumption) | (simp (disch := omega) only [z55, w55, hab2, m1lt, nIm1, m1nI, not_true_eq_false, not_false_eq_true, jl, nI_ltI, nI_leI, nI_eq, nI_toInt]; omega) | (simp (disch := omega) only [z55, w55, hab2, m1lt, nIm1, m1nI, not_true_eq_false, not_false_eq_true, jl, nI_ltI, nI_leI, nI_eq, nI_toInt]; done))); conv => whnf) | (with_reducible refine And.intro nz1 ?_; conv => whnf) | (with_reducible refine And.intro nz0 ?_; conv => whnf) | (refine And.intro ?_ ?_; (focus (first | with_reducible assumption | (intro zz; apply zz; with_reducible assumption) | (simp (disch := omega) only [z55, w55, hab2, m1lt, nIm1, m1nI, not_true_eq_false, not_false_eq_true, jl, nI_ltI, nI_leI, nI_eq, nI_toInt]; omega) | (simp (disch := omega) only [z55, w55, hab2, m1lt, nIm1, m1nI, not_true_eq_false, not_false_eq_true, jl, nI_ltI, nI_leI, nI_eq, nI_toInt]; done))); conv => whnf) | (refine And.intro ?_ ?_; (focus (first | with_reducible assumption | ((with_reducible refine vp_in_nI ?_ ?_) <;> omega) | ((with_reducible refine vp_0 ?_); omega) | ((with_reducible refine vp_s1 ?_ ?_) <;> omega) | ((with_reducible refine vp_a1 ?_ ?_) <;> omega) | ((with_reducible refine vp_m1 ?_ ?_) <;> omega) | ((with_reducible refine vp_m2 ?_ ?_) <;> omega))); conv => whnf))
          exact this
        have n0' := nn0 n0
        have x0' := nn0 x0
        have y0' := nn0 y0
        have sx := subI (a := h.2.1 a) (by omega) n0
        have sy := subI (a := h.2.1 b) (by omega) n0
        by_cases x1 : nI (h.2.1 a) - n < x
        · have := bad (Or.inl (by unfold rwo; have := Int32.lt_iff_toInt_lt.mp x1; rw [if_neg (by omega)]))
          conv => whnf
          repeat (first | (refine br_f ?_ ?_; (focus (first | with_reducible assumption | (intro zz; apply zz; with_reducible assumption) | (simp (disch := omega) only [z55, w55, hab2, z56, x1, m1lt, nIm1, m1nI, not_true_eq_false, not_false_eq_true, jl, nI_ltI, nI_leI, nI_eq, nI_toInt]; omega) | (simp (disch := omega) only [z55, w55, hab2, z56, x1, m1lt, nIm1, m1nI, not_true_eq_false, not_false_eq_true, jl, nI_ltI, nI_leI, nI_eq, nI_toInt]; done))); conv => whnf) | (refine br_t ?_ ?_; (focus (first | with_reducible assumption | (intro zz; apply zz; with_reducible assumption) | (simp (disch := omega) only [z55, w55, hab2, z56, x1, m1lt, nIm1, m1nI, not_true_eq_false, not_false_eq_true, jl, nI_ltI, nI_leI, nI_eq, nI_toInt]; omega) | (simp (disch := omega) only [z55, w55, hab2, z56, x1, m1lt, nIm1, m1nI, not_true_eq_false, not_false_eq_true, jl, nI_ltI, nI_leI, nI_eq, nI_toInt]; done))); conv => whnf) | (with_reducible refine And.intro nz1 ?_; conv => whnf) | (with_reducible refine And.intro nz0 ?_; conv => whnf) | (refine And.intro ?_ ?_; (focus (first | with_reducible assumption | (intro zz; apply zz; with_reducible assumption) | (simp (disch := omega) only [z55, w55, hab2, z56, x1, m1lt, nIm1, m1nI, not_true_eq_false, not_false_eq_true, jl, nI_ltI, nI_leI, nI_eq, nI_toInt]; omega) | (simp (disch := omega) only [z55, w55, hab2, z56, x1, m1lt, nIm1, m1nI, not_true_eq_false, not_false_eq_true, jl, nI_ltI, nI_leI, nI_eq, nI_toInt]; done))); conv => whnf) | (refine And.intro ?_ ?_; (focus (first | with_reducible assumption | ((with_reducible refine vp_in_nI ?_ ?_) <;> omega) | ((with_reducible refine vp_0 ?_); omega) | ((with_reducible refine vp_s1 ?_ ?_) <;> omega) | ((with_reducible refine vp_a1 ?_ ?_) <;> omega) | ((with_reducible refine vp_m1 ?_ ?_) <;> omega) | ((with_reducible refine vp_m2 ?_ ?_) <;> omega))); conv => whnf))
          exact this
        by_cases y1 : y ≤ nI (h.2.1 b) - n
        · have x2 : x.toInt + n.toInt ≤ h.2.1 a := by
            have := Int32.le_iff_toInt_le.mp (Int32.not_lt.mp x1)
            omega
          have y2 : y.toInt + n.toInt ≤ h.2.1 b := by
            have := Int32.le_iff_toInt_le.mp y1
            omega
          have r1 : rwo x n (h.2.1 a) = some (x.toInt.toNat, n.toInt.toNat) := by unfold rwo; rw [if_pos ⟨x0', n0', x2⟩]
          have r2 : rwo y n (h.2.1 b) = some (y.toInt.toNat, n.toInt.toNat) := by unfold rwo; rw [if_pos ⟨y0', n0', y2⟩]
          rw [r1, r2] at h1
          obtain ⟨ex, en, hxl⟩ := rwo_some (by omega) r1
          obtain ⟨ey, en2, hyl⟩ := rwo_some (by omega) r2
          generalize x.toInt.toNat = xx at *
          generalize y.toInt.toNat = yy at *
          generalize n.toInt.toNat = nn at *
          subst ex
          subst ey
          subst en
          have fin : ∀ m', FrX [57] [] m m' → m'.1 57 = cpz (m.1 57) (40 * a + xx) (40 * b + yy) 0 nn → Q (some (.int (nI nn))) m' := fun m' f' e' => by
            refine h1 m' (hm.toH (f'.up (by decide) (by simp)) (fun k2 hk2 hne => (hsh k2 hk2).oth hne (fun c hc => by rw [f'.at (a := 54) (by decide) (by decide)]) (fun c hc => by rw [f'.at (a := 55) (by decide) (by decide)]) (fun c hc => by rw [f'.at (a := 56) (by decide) (by decide)]) (fun z hz => ?_)) ⟨q3, by rw [f'.at (a := 54) (by decide) (by decide), if_neg hb0]; exact q54, by rw [f'.at (a := 55) (by decide) (by decide)]; exact q55, fun _ => ⟨by rw [f'.at (a := 56) (by decide) (by decide)]; exact q56, q40, fun j hj => ?_⟩⟩) (FrD.of f' (by decide))
            · rw [e']
              unfold cpz
              rw [if_neg (by omega)]
            · rw [e']
              unfold cpz cpi
              by_cases hj2 : yy ≤ j ∧ j < yy + nn
              · rw [if_pos (by omega), if_pos hj2, show 40 * a + xx + (40 * b + j - (40 * b + yy)) = 40 * a + (xx + (j - yy)) by omega]
                exact s57 _ (by omega)
              · rw [if_neg (by omega), if_neg hj2]
                exact q57 j hj
          by_cases hup : a = b ∧ xx < yy
          · obtain ⟨rfl, hxy⟩ := hup
            conv => whnf
            repeat (first | (refine br_f ?_ ?_; (focus (first | with_reducible assumption | (intro zz; apply zz; with_reducible assumption) | (simp (disch := omega) only [z55, w55, hab2, z56, x1, w56, y1, m1lt, nIm1, m1nI, not_true_eq_false, not_false_eq_true, jl, nI_ltI, nI_leI, nI_eq, nI_toInt]; omega) | (simp (disch := omega) only [z55, w55, hab2, z56, x1, w56, y1, m1lt, nIm1, m1nI, not_true_eq_false, not_false_eq_true, jl, nI_ltI, nI_leI, nI_eq, nI_toInt]; done))); conv => whnf) | (refine br_t ?_ ?_; (focus (first | with_reducible assumption | (intro zz; apply zz; with_reducible assumption) | (simp (disch := omega) only [z55, w55, hab2, z56, x1, w56, y1, m1lt, nIm1, m1nI, not_true_eq_false, not_false_eq_true, jl, nI_ltI, nI_leI, nI_eq, nI_toInt]; omega) | (simp (disch := omega) only [z55, w55, hab2, z56, x1, w56, y1, m1lt, nIm1, m1nI, not_true_eq_false, not_false_eq_true, jl, nI_ltI, nI_leI, nI_eq, nI_toInt]; done))); conv => whnf) | (with_reducible refine And.intro nz1 ?_; conv => whnf) | (with_reducible refine And.intro nz0 ?_; conv => whnf) | (refine And.intro ?_ ?_; (focus (first | with_reducible assumption | (intro zz; apply zz; with_reducible assumption) | (simp (disch := omega) only [z55, w55, hab2, z56, x1, w56, y1, m1lt, nIm1, m1nI, not_true_eq_false, not_false_eq_true, jl, nI_ltI, nI_leI, nI_eq, nI_toInt]; omega) | (simp (disch := omega) only [z55, w55, hab2, z56, x1, w56, y1, m1lt, nIm1, m1nI, not_true_eq_false, not_false_eq_true, jl, nI_ltI, nI_leI, nI_eq, nI_toInt]; done))); conv => whnf) | (refine And.intro ?_ ?_; (focus (first | with_reducible assumption | ((with_reducible refine vp_in_nI ?_ ?_) <;> omega) | ((with_reducible refine vp_0 ?_); omega) | ((with_reducible refine vp_s1 ?_ ?_) <;> omega) | ((with_reducible refine vp_a1 ?_ ?_) <;> omega) | ((with_reducible refine vp_m1 ?_ ?_) <;> omega) | ((with_reducible refine vp_m2 ?_ ?_) <;> omega))); conv => whnf))
            subst hT; refine hd_X7_copy_121 hC hP ?_
            exact cp_up (F := m.1 57) ha (by omega) (by omega) hxy nn 0 m _ (by omega) (by funext z; unfold cpz; rw [if_neg (by omega)]) fin
          · have down := cp_down (d := d + 2) (F := m.1 57) ha hb (show xx + nn ≤ 40 by omega) (show yy + nn ≤ 40 by omega) hup nn 0 m none (by omega) (by funext z; unfold cpz; rw [if_neg (by omega)]) fin
            by_cases hab3 : a = b
            · have hxy : ¬ xx < yy := fun z => hup ⟨hab3, z⟩
              conv => whnf
              repeat (first | (refine br_f ?_ ?_; (focus (first | with_reducible assumption | (intro zz; apply zz; with_reducible assumption) | (simp (disch := omega) only [z55, w55, hab2, z56, x1, w56, y1, m1lt, nIm1, m1nI, not_true_eq_false, not_false_eq_true, jl, nI_ltI, nI_leI, nI_eq, nI_toInt]; omega) | (simp (disch := omega) only [z55, w55, hab2, z56, x1, w56, y1, m1lt, nIm1, m1nI, not_true_eq_false, not_false_eq_true, jl, nI_ltI, nI_leI, nI_eq, nI_toInt]; done))); conv => whnf) | (refine br_t ?_ ?_; (focus (first | with_reducible assumption | (intro zz; apply zz; with_reducible assumption) | (simp (disch := omega) only [z55, w55, hab2, z56, x1, w56, y1, m1lt, nIm1, m1nI, not_true_eq_false, not_false_eq_true, jl, nI_ltI, nI_leI, nI_eq, nI_toInt]; omega) | (simp (disch := omega) only [z55, w55, hab2, z56, x1, w56, y1, m1lt, nIm1, m1nI, not_true_eq_false, not_false_eq_true, jl, nI_ltI, nI_leI, nI_eq, nI_toInt]; done))); conv => whnf) | (with_reducible refine And.intro nz1 ?_; conv => whnf) | (with_reducible refine And.intro nz0 ?_; conv => whnf) | (refine And.intro ?_ ?_; (focus (first | with_reducible assumption | (intro zz; apply zz; with_reducible assumption) | (simp (disch := omega) only [z55, w55, hab2, z56, x1, w56, y1, m1lt, nIm1, m1nI, not_true_eq_false, not_false_eq_true, jl, nI_ltI, nI_leI, nI_eq, nI_toInt]; omega) | (simp (disch := omega) only [z55, w55, hab2, z56, x1, w56, y1, m1lt, nIm1, m1nI, not_true_eq_false, not_false_eq_true, jl, nI_ltI, nI_leI, nI_eq, nI_toInt]; done))); conv => whnf) | (refine And.intro ?_ ?_; (focus (first | with_reducible assumption | ((with_reducible refine vp_in_nI ?_ ?_) <;> omega) | ((with_reducible refine vp_0 ?_); omega) | ((with_reducible refine vp_s1 ?_ ?_) <;> omega) | ((with_reducible refine vp_a1 ?_ ?_) <;> omega) | ((with_reducible refine vp_m1 ?_ ?_) <;> omega) | ((with_reducible refine vp_m2 ?_ ?_) <;> omega))); conv => whnf))
              subst hT; refine hd_X7_copy_121 hC hP ?_
              exact down
            · conv => whnf
              repeat (first | (refine br_f ?_ ?_; (focus (first | with_reducible assumption | (intro zz; apply zz; with_reducible assumption) | (simp (disch := omega) only [z55, w55, hab2, z56, x1, w56, y1, m1lt, nIm1, m1nI, not_true_eq_false, not_false_eq_true, jl, nI_ltI, nI_leI, nI_eq, nI_toInt]; omega) | (simp (disch := omega) only [z55, w55, hab2, z56, x1, w56, y1, m1lt, nIm1, m1nI, not_true_eq_false, not_false_eq_true, jl, nI_ltI, nI_leI, nI_eq, nI_toInt]; done))); conv => whnf) | (refine br_t ?_ ?_; (focus (first | with_reducible assumption | (intro zz; apply zz; with_reducible assumption) | (simp (disch := omega) only [z55, w55, hab2, z56, x1, w56, y1, m1lt, nIm1, m1nI, not_true_eq_false, not_false_eq_true, jl, nI_ltI, nI_leI, nI_eq, nI_toInt]; omega) | (simp (disch := omega) only [z55, w55, hab2, z56, x1, w56, y1, m1lt, nIm1, m1nI, not_true_eq_false, not_false_eq_true, jl, nI_ltI, nI_leI, nI_eq, nI_toInt]; done))); conv => whnf) | (with_reducible refine And.intro nz1 ?_; conv => whnf) | (with_reducible refine And.intro nz0 ?_; conv => whnf) | (refine And.intro ?_ ?_; (focus (first | with_reducible assumption | (intro zz; apply zz; with_reducible assumption) | (simp (disch := omega) only [z55, w55, hab2, z56, x1, w56, y1, m1lt, nIm1, m1nI, not_true_eq_false, not_false_eq_true, jl, nI_ltI, nI_leI, nI_eq, nI_toInt]; omega) | (simp (disch := omega) only [z55, w55, hab2, z56, x1, w56, y1, m1lt, nIm1, m1nI, not_true_eq_false, not_false_eq_true, jl, nI_ltI, nI_leI, nI_eq, nI_toInt]; done))); conv => whnf) | (refine And.intro ?_ ?_; (focus (first | with_reducible assumption | ((with_reducible refine vp_in_nI ?_ ?_) <;> omega) | ((with_reducible refine vp_0 ?_); omega) | ((with_reducible refine vp_s1 ?_ ?_) <;> omega) | ((with_reducible refine vp_a1 ?_ ?_) <;> omega) | ((with_reducible refine vp_m1 ?_ ?_) <;> omega) | ((with_reducible refine vp_m2 ?_ ?_) <;> omega))); conv => whnf))
              subst hT; refine hd_X7_copy_121 hC hP ?_
              exact down
        · have := bad (Or.inr (by unfold rwo; rw [if_neg (fun z => y1 (Int32.le_iff_toInt_le.mpr (by omega)))]))
          conv => whnf
          repeat (first | (refine br_f ?_ ?_; (focus (first | with_reducible assumption | (intro zz; apply zz; with_reducible assumption) | (simp (disch := omega) only [z55, w55, hab2, z56, x1, w56, y1, m1lt, nIm1, m1nI, not_true_eq_false, not_false_eq_true, jl, nI_ltI, nI_leI, nI_eq, nI_toInt]; omega) | (simp (disch := omega) only [z55, w55, hab2, z56, x1, w56, y1, m1lt, nIm1, m1nI, not_true_eq_false, not_false_eq_true, jl, nI_ltI, nI_leI, nI_eq, nI_toInt]; done))); conv => whnf) | (refine br_t ?_ ?_; (focus (first | with_reducible assumption | (intro zz; apply zz; with_reducible assumption) | (simp (disch := omega) only [z55, w55, hab2, z56, x1, w56, y1, m1lt, nIm1, m1nI, not_true_eq_false, not_false_eq_true, jl, nI_ltI, nI_leI, nI_eq, nI_toInt]; omega) | (simp (disch := omega) only [z55, w55, hab2, z56, x1, w56, y1, m1lt, nIm1, m1nI, not_true_eq_false, not_false_eq_true, jl, nI_ltI, nI_leI, nI_eq, nI_toInt]; done))); conv => whnf) | (with_reducible refine And.intro nz1 ?_; conv => whnf) | (with_reducible refine And.intro nz0 ?_; conv => whnf) | (refine And.intro ?_ ?_; (focus (first | with_reducible assumption | (intro zz; apply zz; with_reducible assumption) | (simp (disch := omega) only [z55, w55, hab2, z56, x1, w56, y1, m1lt, nIm1, m1nI, not_true_eq_false, not_false_eq_true, jl, nI_ltI, nI_leI, nI_eq, nI_toInt]; omega) | (simp (disch := omega) only [z55, w55, hab2, z56, x1, w56, y1, m1lt, nIm1, m1nI, not_true_eq_false, not_false_eq_true, jl, nI_ltI, nI_leI, nI_eq, nI_toInt]; done))); conv => whnf) | (refine And.intro ?_ ?_; (focus (first | with_reducible assumption | ((with_reducible refine vp_in_nI ?_ ?_) <;> omega) | ((with_reducible refine vp_0 ?_); omega) | ((with_reducible refine vp_s1 ?_ ?_) <;> omega) | ((with_reducible refine vp_a1 ?_ ?_) <;> omega) | ((with_reducible refine vp_m1 ?_ ?_) <;> omega) | ((with_reducible refine vp_m2 ?_ ?_) <;> omega))); conv => whnf))
          exact this
      · have hab2 : ¬ so1 (h.1 a) = so1 (h.1 b) := by rw [hse]; exact hab
        simp only [if_pos (hab : h.1 a ≠ h.1 b)] at h1
        conv => whnf
        repeat (first | (refine br_f ?_ ?_; (focus (first | with_reducible assumption | (intro zz; apply zz; with_reducible assumption) | (simp (disch := omega) only [z55, w55, hab2, m1lt, nIm1, m1nI, not_true_eq_false, not_false_eq_true, jl, nI_ltI, nI_leI, nI_eq, nI_toInt]; omega) | (simp (disch := omega) only [z55, w55, hab2, m1lt, nIm1, m1nI, not_true_eq_false, not_false_eq_true, jl, nI_ltI, nI_leI, nI_eq, nI_toInt]; done))); conv => whnf) | (refine br_t ?_ ?_; (focus (first | with_reducible assumption | (intro zz; apply zz; with_reducible assumption) | (simp (disch := omega) only [z55, w55, hab2, m1lt, nIm1, m1nI, not_true_eq_false, not_false_eq_true, jl, nI_ltI, nI_leI, nI_eq, nI_toInt]; omega) | (simp (disch := omega) only [z55, w55, hab2, m1lt, nIm1, m1nI, not_true_eq_false, not_false_eq_true, jl, nI_ltI, nI_leI, nI_eq, nI_toInt]; done))); conv => whnf) | (with_reducible refine And.intro nz1 ?_; conv => whnf) | (with_reducible refine And.intro nz0 ?_; conv => whnf) | (refine And.intro ?_ ?_; (focus (first | with_reducible assumption | (intro zz; apply zz; with_reducible assumption) | (simp (disch := omega) only [z55, w55, hab2, m1lt, nIm1, m1nI, not_true_eq_false, not_false_eq_true, jl, nI_ltI, nI_leI, nI_eq, nI_toInt]; omega) | (simp (disch := omega) only [z55, w55, hab2, m1lt, nIm1, m1nI, not_true_eq_false, not_false_eq_true, jl, nI_ltI, nI_leI, nI_eq, nI_toInt]; done))); conv => whnf) | (refine And.intro ?_ ?_; (focus (first | with_reducible assumption | ((with_reducible refine vp_in_nI ?_ ?_) <;> omega) | ((with_reducible refine vp_0 ?_); omega) | ((with_reducible refine vp_s1 ?_ ?_) <;> omega) | ((with_reducible refine vp_a1 ?_ ?_) <;> omega) | ((with_reducible refine vp_m1 ?_ ?_) <;> omega) | ((with_reducible refine vp_m2 ?_ ?_) <;> omega))); conv => whnf))
        exact h1 m hm FrD.rf
end MCP
