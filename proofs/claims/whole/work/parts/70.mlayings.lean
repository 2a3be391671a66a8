/-! THE MODEL'S layings -/
theorem lyf_app {n : Nat} {c : Nat → Nat} {T : Nat → List Nat} {st : Nat × Nat} {a b : List (List Nat)} : lyf n c T st (a ++ b) = lyf n c T (lyf n c T st a) b := List.foldl_append
theorem lyf_le {n : Nat} {c : Nat → Nat} {T : Nat → List Nat} : ∀ (L : List (List Nat)) (st : Nat × Nat), (lyf n c T st L).1 ≤ st.1 + L.length
  | [], st => Nat.le_refl _
  | l :: r, st => by
    have h1 := ly1_le (n := n) (c := c) (T := T) (st := st) (l := l) (Nat.le_refl _)
    have h2 := lyf_le (n := n) (c := c) (T := T) r (ly1 n c T st l)
    show (lyf n c T (ly1 n c T st l) r).1 ≤ _
    simp only [List.length_cons]
    omega
section MLY
variable {g : Gg} {u : Nat} {t : Gt} {p : Gg} {i : Gi} {h : Gh} {m m' : Mm} {d : Nat} {Q : Qr}
/-- the state in which the model's recursion is -/
def LYI (m : Mm) (g : Gg) (u : Nat) (t : Gt) (p : Gg) (i : Gi) (h : Gh) (c : Nat → Nat) (st : Nat × Nat) : Prop := MI m (g.1, c) u t p i h ∧ (∀ a, a < g.1 → g.2 a < 60 ∧ m.1 51 a = nI (g.2 a)) ∧ m.1 44 31 = nI st.1 ∧ m.1 44 32 = nI st.2
theorem LYI.put {c : Nat → Nat} {st : Nat × Nat} {k x : Nat} (hl : LYI m g u t p i h c st) (hx : x < 60) : LYI (mu (mu m.1 48 k (nI (x / 10))) 49 k (nI (x % 10)), m.2) g u t p i h (cup c k x) st := by
  obtain ⟨l1, l2, l3, l4⟩ := hl
  have f1 : FrX RSA [] m (mu (mu m.1 48 k (nI (x / 10))) 49 k (nI (x % 10)), m.2) := FrX.put (by decide) (by decide)
  have f2 : FrX [48, 49] [] m (mu (mu m.1 48 k (nI (x / 10))) 49 k (nI (x % 10)), m.2) := FrX.put (by decide) (by decide)
  refine ⟨l1.toR (f1.up (fun _ z => z) (by simp)) (l1.1.put hx), fun a ha => ?_, ?_, ?_⟩
  · rw [f2.at (a := 51) (by decide) (by decide)]
    exact l2 a ha
  · rw [f2.2 31 (by decide)]
    exact l3
  · rw [f2.2 32 (by decide)]
    exact l4
theorem lf0 {pre : List Nat} {c : Nat → Nat} {st : Nat × Nat} (h0 : 0 < g.1) (hpl : pre.length = g.1) (hc : ∀ a, a < g.1 → c a = lpl g.2 pre a) (hs : st.1 < 5000) (hl : LYI m g u t p i h c st) (h1 : ∀ m', FrD m m' → LYI m' g u t p i h (lpl g.2 pre) (ly1 g.1 g.2 (t.2.2.2 u) st pre) → Q none m') : CT (d + 66) n_X7_laysFrom [.ref 44, .int (nI g.1), .int (nI (tb pre)), .int (nI (dig pre g.1))] m Q := by
  obtain ⟨l1, l2, l3, l4⟩ := hl
  have h9 : m.1 44 9 = nI g.1 := l1.1.1
  have hn : g.1 ≤ 16 := l1.1.2.1
  have l1' : MI m (g.1, lpl g.2 pre) u t p i h := ⟨l1.1.cg hc, l1.2⟩
  have h4 : (rn g.1 (lpl g.2 pre) (t.2.2.2 u) 0).2 < 4 := rn_end
  refine opn cd_X7_laysFrom rfl (fun C P hC hP => ?_)
  conv => whnf
  repeat (first | (refine br_f ?_ ?_; (focus (first | with_reducible assumption | (intro zz; apply zz; with_reducible assumption) | (simp (disch := omega) only [h9, m1lt, nIm1, m1nI, not_true_eq_false, not_false_eq_true, jl, nI_ltI, nI_leI, nI_eq, nI_toInt]; omega) | (simp (disch := omega) only [h9, m1lt, nIm1, m1nI, not_true_eq_false, not_false_eq_true, jl, nI_ltI, nI_leI, nI_eq, nI_toInt]; done))); conv => whnf) | (refine br_t ?_ ?_; (focus (first | with_reducible assumption | (intro zz; apply zz; with_reducible assumption) | (simp (disch := omega) only [h9, m1lt, nIm1, m1nI, not_true_eq_false, not_false_eq_true, jl, nI_ltI, nI_leI, nI_eq, nI_toInt]; omega) | (simp (disch := omega) only [h9, m1lt, nIm1, m1nI, not_true_eq_false, not_false_eq_true, jl, nI_ltI, nI_leI, nI_eq, nI_toInt]; done))); conv => whnf) | (with_reducible refine And.intro nz1 ?_; conv => whnf) | (with_reducible refine And.intro nz0 ?_; conv => whnf) | (refine And.intro ?_ ?_; (focus (first | with_reducible assumption | (intro zz; apply zz; with_reducible assumption) | (simp (disch := omega) only [h9, m1lt, nIm1, m1nI, not_true_eq_false, not_false_eq_true, jl, nI_ltI, nI_leI, nI_eq, nI_toInt]; omega) | (simp (disch := omega) only [h9, m1lt, nIm1, m1nI, not_true_eq_false, not_false_eq_true, jl, nI_ltI, nI_leI, nI_eq, nI_toInt]; done))); conv => whnf) | (refine And.intro ?_ ?_; (focus (first | with_reducible assumption | ((with_reducible refine vp_in_nI ?_ ?_) <;> omega) | ((with_reducible refine vp_0 ?_); omega) | ((with_reducible refine vp_s1 ?_ ?_) <;> omega) | ((with_reducible refine vp_a1 ?_ ?_) <;> omega) | ((with_reducible refine vp_m1 ?_ ?_) <;> omega) | ((with_reducible refine vp_m2 ?_ ?_) <;> omega))); conv => whnf))
  refine useC hC ?_
  refine s_goes (start := 0) l1'.1 l1'.t1 h0 (fun m1 f1 p1 v1 w1 => ?_)
  have f1' : FrX SCA SCM m m1 := f1.up (by decide) (by decide)
  have i1 := l1'.fr f1'
  have v1' : m1.1 44 29 = nI (rn g.1 (lpl g.2 pre) (t.2.2.2 u) 0).2 := v1
  have k31 : m1.1 44 31 = nI st.1 := by rw [f1.2 31 (by decide)]; exact l3
  have k32 : m1.1 44 32 = nI st.2 := by rw [f1.2 32 (by decide)]; exact l4
  have k51 : ∀ a, a < g.1 → g.2 a < 60 ∧ m1.1 51 a = nI (g.2 a) := fun a ha => by rw [f1.at (a := 51) (by decide) (by decide)]; exact l2 a ha
  by_cases hv : (rn g.1 (lpl g.2 pre) (t.2.2.2 u) 0).2 = 0
  · rw [hv] at v1'
    have fin : ∀ v : Int32, v = nI (ly1 g.1 g.2 (t.2.2.2 u) st pre).2 → Q none (mu (mu m1.1 44 32 v) 44 31 (nI (st.1 + 1)), m1.2) := fun v hvv => by
      have f2 : FrX [] [31, 32] m1 (mu (mu m1.1 44 32 v) 44 31 (nI (st.1 + 1)), m1.2) := (FrX.one (by simp)).tr (FrX.one (m := (mu m1.1 44 32 v, m1.2)) (by simp))
      have e1 : (ly1 g.1 g.2 (t.2.2.2 u) st pre).1 = st.1 + 1 := by unfold ly1; rw [if_pos hv]
      refine h1 _ ((FrD.of f1 (by decide)).tr (FrD.of f2 (by simp))) ⟨i1.fr (f2.up (by simp) (by decide)), fun a ha => ?_, ?_, ?_⟩
      · rw [f2.at (a := 51) (by decide) (by decide)]
        exact k51 a ha
      · show mu (mu m1.1 44 32 v) 44 31 (nI (st.1 + 1)) 44 31 = _
        rw [mu_at, if_pos rfl, e1]
      · show mu (mu m1.1 44 32 v) 44 31 (nI (st.1 + 1)) 44 32 = _
        rw [mu_at, if_neg (by decide), mu_at, if_pos rfl]
        exact hvv
    by_cases hs0 : st.1 = 0
    · have e2 : (ly1 g.1 g.2 (t.2.2.2 u) st pre).2 = dig pre g.1 := by unfold ly1; rw [if_pos hv, if_pos hs0]
      have := fin (nI (dig pre g.1)) (by rw [e2])
      conv => whnf
      repeat (first | (refine br_f ?_ ?_; (focus (first | with_reducible assumption | (intro zz; apply zz; with_reducible assumption) | (simp (disch := omega) only [v1', k31, m1lt, nIm1, m1nI, not_true_eq_false, not_false_eq_true, jl, nI_ltI, nI_leI, nI_eq, nI_toInt]; omega) | (simp (disch := omega) only [v1', k31, m1lt, nIm1, m1nI, not_true_eq_false, not_false_eq_true, jl, nI_ltI, nI_leI, nI_eq, nI_toInt]; done))); conv => whnf) | (refine br_t ?_ ?_; (focus (first | with_reducible assumption | (intro zz; apply zz; with_reducible assumption) | (simp (disch := omega) only [v1', k31, m1lt, nIm1, m1nI, not_true_eq_false, not_false_eq_true, jl, nI_ltI, nI_leI, nI_eq, nI_toInt]; omega) | (simp (disch := omega) only [v1', k31, m1lt, nIm1, m1nI, not_true_eq_false, not_false_eq_true, jl, nI_ltI, nI_leI, nI_eq, nI_toInt]; done))); conv => whnf) | (with_reducible refine And.intro nz1 ?_; conv => whnf) | (with_reducible refine And.intro nz0 ?_; conv => whnf) | (refine And.intro ?_ ?_; (focus (first | with_reducible assumption | (intro zz; apply zz; with_reducible assumption) | (simp (disch := omega) only [v1', k31, m1lt, nIm1, m1nI, not_true_eq_false, not_false_eq_true, jl, nI_ltI, nI_leI, nI_eq, nI_toInt]; omega) | (simp (disch := omega) only [v1', k31, m1lt, nIm1, m1nI, not_true_eq_false, not_false_eq_true, jl, nI_ltI, nI_leI, nI_eq, nI_toInt]; done))); conv => whnf) | (refine And.intro ?_ ?_; (focus (first | with_reducible assumption | ((with_reducible refine vp_in_nI ?_ ?_) <;> omega) | ((with_reducible refine vp_0 ?_); omega) | ((with_reducible refine vp_s1 ?_ ?_) <;> omega) | ((with_reducible refine vp_a1 ?_ ?_) <;> omega) | ((with_reducible refine vp_m1 ?_ ?_) <;> omega) | ((with_reducible refine vp_m2 ?_ ?_) <;> omega))); conv => whnf))
      show Q none (mu (mu m1.1 44 32 (nI (dig pre g.1))) 44 31 (mu m1.1 44 32 (nI (dig pre g.1)) 44 31 + 1), m1.2)
      rw [mu_at, if_neg (by decide), k31, nI_1]
      exact this
    · have e2 : (ly1 g.1 g.2 (t.2.2.2 u) st pre).2 = st.2 := by unfold ly1; rw [if_pos hv, if_neg hs0]
      have := fin (nI st.2) (by rw [e2])
      conv => whnf
      repeat (first | (refine br_f ?_ ?_; (focus (first | with_reducible assumption | (intro zz; apply zz; with_reducible assumption) | (simp (disch := omega) only [v1', k31, m1lt, nIm1, m1nI, not_true_eq_false, not_false_eq_true, jl, nI_ltI, nI_leI, nI_eq, nI_toInt]; omega) | (simp (disch := omega) only [v1', k31, m1lt, nIm1, m1nI, not_true_eq_false, not_false_eq_true, jl, nI_ltI, nI_leI, nI_eq, nI_toInt]; done))); conv => whnf) | (refine br_t ?_ ?_; (focus (first | with_reducible assumption | (intro zz; apply zz; with_reducible assumption) | (simp (disch := omega) only [v1', k31, m1lt, nIm1, m1nI, not_true_eq_false, not_false_eq_true, jl, nI_ltI, nI_leI, nI_eq, nI_toInt]; omega) | (simp (disch := omega) only [v1', k31, m1lt, nIm1, m1nI, not_true_eq_false, not_false_eq_true, jl, nI_ltI, nI_leI, nI_eq, nI_toInt]; done))); conv => whnf) | (with_reducible refine And.intro nz1 ?_; conv => whnf) | (with_reducible refine And.intro nz0 ?_; conv => whnf) | (refine And.intro ?_ ?_; (focus (first | with_reducible assumption | (intro zz; apply zz; with_reducible assumption) | (simp (disch := omega) only [v1', k31, m1lt, nIm1, m1nI, not_true_eq_false, not_false_eq_true, jl, nI_ltI, nI_leI, nI_eq, nI_toInt]; omega) | (simp (disch := omega) only [v1', k31, m1lt, nIm1, m1nI, not_true_eq_false, not_false_eq_true, jl, nI_ltI, nI_leI, nI_eq, nI_toInt]; done))); conv => whnf) | (refine And.intro ?_ ?_; (focus (first | with_reducible assumption | ((with_reducible refine vp_in_nI ?_ ?_) <;> omega) | ((with_reducible refine vp_0 ?_); omega) | ((with_reducible refine vp_s1 ?_ ?_) <;> omega) | ((with_reducible refine vp_a1 ?_ ?_) <;> omega) | ((with_reducible refine vp_m1 ?_ ?_) <;> omega) | ((with_reducible refine vp_m2 ?_ ?_) <;> omega))); conv => whnf))
      show Q none (mu (mu m1.1 44 32 (m1.1 44 32)) 44 31 (mu m1.1 44 32 (m1.1 44 32) 44 31 + 1), m1.2)
      rw [mu_at, if_neg (by decide), k31, k32, nI_1]
      exact this
  · have e2 : ly1 g.1 g.2 (t.2.2.2 u) st pre = st := by unfold ly1; rw [if_neg hv]
    rw [e2] at h1
    conv => whnf
    repeat (first | (refine br_f ?_ ?_; (focus (first | with_reducible assumption | (intro zz; apply zz; with_reducible assumption) | (simp (disch := omega) only [v1', m1lt, nIm1, m1nI, not_true_eq_false, not_false_eq_true, jl, nI_ltI, nI_leI, nI_eq, nI_toInt]; omega) | (simp (disch := omega) only [v1', m1lt, nIm1, m1nI, not_true_eq_false, not_false_eq_true, jl, nI_ltI, nI_leI, nI_eq, nI_toInt]; done))); conv => whnf) | (refine br_t ?_ ?_; (focus (first | with_reducible assumption | (intro zz; apply zz; with_reducible assumption) | (simp (disch := omega) only [v1', m1lt, nIm1, m1nI, not_true_eq_false, not_false_eq_true, jl, nI_ltI, nI_leI, nI_eq, nI_toInt]; omega) | (simp (disch := omega) only [v1', m1lt, nIm1, m1nI, not_true_eq_false, not_false_eq_true, jl, nI_ltI, nI_leI, nI_eq, nI_toInt]; done))); conv => whnf) | (with_reducible refine And.intro nz1 ?_; conv => whnf) | (with_reducible refine And.intro nz0 ?_; conv => whnf) | (refine And.intro ?_ ?_; (focus (first | with_reducible assumption | (intro zz; apply zz; with_reducible assumption) | (simp (disch := omega) only [v1', m1lt, nIm1, m1nI, not_true_eq_false, not_false_eq_true, jl, nI_ltI, nI_leI, nI_eq, nI_toInt]; omega) | (simp (disch := omega) only [v1', m1lt, nIm1, m1nI, not_true_eq_false, not_false_eq_true, jl, nI_ltI, nI_leI, nI_eq, nI_toInt]; done))); conv => whnf) | (refine And.intro ?_ ?_; (focus (first | with_reducible assumption | ((with_reducible refine vp_in_nI ?_ ?_) <;> omega) | ((with_reducible refine vp_0 ?_); omega) | ((with_reducible refine vp_s1 ?_ ?_) <;> omega) | ((with_reducible refine vp_a1 ?_ ?_) <;> omega) | ((with_reducible refine vp_m1 ?_ ?_) <;> omega) | ((with_reducible refine vp_m2 ?_ ?_) <;> omega))); conv => whnf))
    exact h1 m1 (FrD.of f1 (by decide)) ⟨i1, k51, k31, k32⟩
theorem lf_loop {f : Nat} {pre : List Nat} (h0 : 0 < g.1) (hn6 : g.1 ≤ 6) (hpl : pre.length + (f + 1) = g.1) (hpn : ∀ a ∈ pre, a < g.1)
    (ih : ∀ (pre2 : List Nat) (c : Nat → Nat) (st : Nat × Nat) (m : Mm) (Q : Qr), pre2.length + f = g.1 → (∀ a ∈ pre2, a < g.1) → (∀ a, a < pre2.length → c a = lpl g.2 pre2 a) → st.1 + (ext g.1 f pre2).length < 5000 → LYI m g u t p i h c st → (∀ m' c', FrD m m' → LYI m' g u t p i h c' (lyf g.1 g.2 (t.2.2.2 u) st (ext g.1 f pre2)) → (∀ a, a < pre2.length → c' a = lpl g.2 pre2 a) → Q none m') → CT (d + f + 66) n_X7_laysFrom [.ref 44, .int (nI pre2.length), .int (nI (tb pre2)), .int (nI (dig pre2 pre2.length))] m Q) :
    ∀ (r j : Nat) (c : Nat → Nat) (st : Nat × Nat) (m : Mm), j + r = g.1 → (∀ a, a < pre.length → c a = lpl g.2 pre a) → st.1 + (exg (ext g.1 f) pre r j).length < 5000 → LYI m g u t p i h c st → (∀ m' c', FrD m m' → LYI m' g u t p i h c' (lyf g.1 g.2 (t.2.2.2 u) st (exg (ext g.1 f) pre r j)) → (∀ a, a < pre.length → c' a = lpl g.2 pre a) → Q none m') → WP SH (CT (d + f + 66)) Q c_X7_laysFrom 53 [some (.ref 44), some (.int (nI pre.length)), some (.int (nI (tb pre))), some (.int (nI (dig pre pre.length))), some (.int (nI j))] [] m := by
  have hb : tb pre < 65536 := tb_lt pre 0 (by decide) (fun a ha => by have := hpn a ha; omega)
  intro r
  induction r with
  | zero =>
    intro j c st m hj hc hs hl h1
    have h9 : m.1 44 9 = nI g.1 := hl.1.1.1
    have e : j = g.1 := by omega
    subst e
    refine wpn mo_X7_laysFrom (fun C P hC hP => ?_)
    conv => whnf
    repeat (first | (refine br_f ?_ ?_; (focus (first | with_reducible assumption | (intro zz; apply zz; with_reducible assumption) | (simp (disch := omega) only [h9, m1lt, nIm1, m1nI, not_true_eq_false, not_false_eq_true, jl, nI_ltI, nI_leI, nI_eq, nI_toInt]; omega) | (simp (disch := omega) only [h9, m1lt, nIm1, m1nI, not_true_eq_false, not_false_eq_true, jl, nI_ltI, nI_leI, nI_eq, nI_toInt]; done))); conv => whnf) | (refine br_t ?_ ?_; (focus (first | with_reducible assumption | (intro zz; apply zz; with_reducible assumption) | (simp (disch := omega) only [h9, m1lt, nIm1, m1nI, not_true_eq_false, not_false_eq_true, jl, nI_ltI, nI_leI, nI_eq, nI_toInt]; omega) | (simp (disch := omega) only [h9, m1lt, nIm1, m1nI, not_true_eq_false, not_false_eq_true, jl, nI_ltI, nI_leI, nI_eq, nI_toInt]; done))); conv => whnf) | (with_reducible refine And.intro nz1 ?_; conv => whnf) | (with_reducible refine And.intro nz0 ?_; conv => whnf) | (refine And.intro ?_ ?_; (focus (first | with_reducible assumption | (intro zz; apply zz; with_reducible assumption) | (simp (disch := omega) only [h9, m1lt, nIm1, m1nI, not_true_eq_false, not_false_eq_true, jl, nI_ltI, nI_leI, nI_eq, nI_toInt]; omega) | (simp (disch := omega) only [h9, m1lt, nIm1, m1nI, not_true_eq_false, not_false_eq_true, jl, nI_ltI, nI_leI, nI_eq, nI_toInt]; done))); conv => whnf) | (refine And.intro ?_ ?_; (focus (first | with_reducible assumption | ((with_reducible refine vp_in_nI ?_ ?_) <;> omega) | ((with_reducible refine vp_0 ?_); omega) | ((with_reducible refine vp_s1 ?_ ?_) <;> omega) | ((with_reducible refine vp_a1 ?_ ?_) <;> omega) | ((with_reducible refine vp_m1 ?_ ?_) <;> omega) | ((with_reducible refine vp_m2 ?_ ?_) <;> omega))); conv => whnf))
    exact h1 m c FrD.rf hl hc
  | succ r ihr =>
    intro j c st m hj hc hs hl h1
    have h9 : m.1 44 9 = nI g.1 := hl.1.1.1
    have cj : (nI j).toNatClampNeg = j := nI_clamp (by omega)
    have bit : (nI (tb pre) >>> (nI j &&& 31)) &&& 1 = nI (if j ∈ pre then 1 else 0) := by rw [jbit hb (by omega), tb_bit]
    by_cases hp : j ∈ pre
    · rw [if_pos hp] at bit
      have eg : exg (ext g.1 f) pre (r + 1) j = exg (ext g.1 f) pre r (j + 1) := by simp only [exg]; rw [if_pos hp, List.nil_append]
      rw [eg] at h1 hs
      have bit2 : ¬ (nI (tb pre) >>> (nI j &&& 31)) &&& 1 = 0 := by rw [bit]; decide
      refine wpn mo_X7_laysFrom (fun C P hC hP => ?_)
      conv => whnf
      repeat (first | (refine br_f ?_ ?_; (focus (first | with_reducible assumption | (intro zz; apply zz; with_reducible assumption) | (simp (disch := omega) only [h9, m1lt, nIm1, m1nI, not_true_eq_false, not_false_eq_true, jl, nI_ltI, nI_leI, nI_eq, nI_toInt]; omega) | (simp (disch := omega) only [h9, m1lt, nIm1, m1nI, not_true_eq_false, not_false_eq_true, jl, nI_ltI, nI_leI, nI_eq, nI_toInt]; done))); conv => whnf) | (refine br_t ?_ ?_; (focus (first | with_reducible assumption | (intro zz; apply zz; with_reducible assumption) | (simp (disch := omega) only [h9, m1lt, nIm1, m1nI, not_true_eq_false, not_false_eq_true, jl, nI_ltI, nI_leI, nI_eq, nI_toInt]; omega) | (simp (disch := omega) only [h9, m1lt, nIm1, m1nI, not_true_eq_false, not_false_eq_true, jl, nI_ltI, nI_leI, nI_eq, nI_toInt]; done))); conv => whnf) | (with_reducible refine And.intro nz1 ?_; conv => whnf) | (with_reducible refine And.intro nz0 ?_; conv => whnf) | (refine And.intro ?_ ?_; (focus (first | with_reducible assumption | (intro zz; apply zz; with_reducible assumption) | (simp (disch := omega) only [h9, m1lt, nIm1, m1nI, not_true_eq_false, not_false_eq_true, jl, nI_ltI, nI_leI, nI_eq, nI_toInt]; omega) | (simp (disch := omega) only [h9, m1lt, nIm1, m1nI, not_true_eq_false, not_false_eq_true, jl, nI_ltI, nI_leI, nI_eq, nI_toInt]; done))); conv => whnf) | (refine And.intro ?_ ?_; (focus (first | with_reducible assumption | ((with_reducible refine vp_in_nI ?_ ?_) <;> omega) | ((with_reducible refine vp_0 ?_); omega) | ((with_reducible refine vp_s1 ?_ ?_) <;> omega) | ((with_reducible refine vp_a1 ?_ ?_) <;> omega) | ((with_reducible refine vp_m1 ?_ ?_) <;> omega) | ((with_reducible refine vp_m2 ?_ ?_) <;> omega))); conv => whnf))
      refine hP _ _ _ _ ?_
      rw [nI_1]
      exact ihr (j + 1) c st m (by omega) hc hs hl h1
    · rw [if_neg hp] at bit
      have eg : exg (ext g.1 f) pre (r + 1) j = ext g.1 f (pre ++ [j]) ++ exg (ext g.1 f) pre r (j + 1) := by simp only [exg]; rw [if_neg hp]
      rw [eg] at h1 hs
      rw [lyf_app] at h1
      rw [List.length_append] at hs
      have bit2 : (nI (tb pre) >>> (nI j &&& 31)) &&& 1 = 0 := by rw [bit]; rfl
      have l51 := hl.2.1 j (by omega)
      have hlen2 : (pre ++ [j]).length = pre.length + 1 := by simp
      have eT : nI (tb pre) ||| 1 <<< (nI j &&& 31) = nI (tb (pre ++ [j])) := by rw [jone (by omega), jor, tb_add]
      have eD : 10 * nI (dig pre pre.length) + nI j + 1 = nI (dig (pre ++ [j]) (pre ++ [j]).length) := by
        rw [hlen2, dig_add, jl 10, pk_mul, nI_add, nI_1]
      refine wpn mo_X7_laysFrom (fun C P hC hP => ?_)
      conv => whnf
      repeat (first | (refine br_f ?_ ?_; (focus (first | with_reducible assumption | (intro zz; apply zz; with_reducible assumption) | (simp (disch := omega) only [h9, m1lt, nIm1, m1nI, not_true_eq_false, not_false_eq_true, jl, nI_ltI, nI_leI, nI_eq, nI_toInt]; omega) | (simp (disch := omega) only [h9, m1lt, nIm1, m1nI, not_true_eq_false, not_false_eq_true, jl, nI_ltI, nI_leI, nI_eq, nI_toInt]; done))); conv => whnf) | (refine br_t ?_ ?_; (focus (first | with_reducible assumption | (intro zz; apply zz; with_reducible assumption) | (simp (disch := omega) only [h9, m1lt, nIm1, m1nI, not_true_eq_false, not_false_eq_true, jl, nI_ltI, nI_leI, nI_eq, nI_toInt]; omega) | (simp (disch := omega) only [h9, m1lt, nIm1, m1nI, not_true_eq_false, not_false_eq_true, jl, nI_ltI, nI_leI, nI_eq, nI_toInt]; done))); conv => whnf) | (with_reducible refine And.intro nz1 ?_; conv => whnf) | (with_reducible refine And.intro nz0 ?_; conv => whnf) | (refine And.intro ?_ ?_; (focus (first | with_reducible assumption | (intro zz; apply zz; with_reducible assumption) | (simp (disch := omega) only [h9, m1lt, nIm1, m1nI, not_true_eq_false, not_false_eq_true, jl, nI_ltI, nI_leI, nI_eq, nI_toInt]; omega) | (simp (disch := omega) only [h9, m1lt, nIm1, m1nI, not_true_eq_false, not_false_eq_true, jl, nI_ltI, nI_leI, nI_eq, nI_toInt]; done))); conv => whnf) | (refine And.intro ?_ ?_; (focus (first | with_reducible assumption | ((with_reducible refine vp_in_nI ?_ ?_) <;> omega) | ((with_reducible refine vp_0 ?_); omega) | ((with_reducible refine vp_s1 ?_ ?_) <;> omega) | ((with_reducible refine vp_a1 ?_ ?_) <;> omega) | ((with_reducible refine vp_m1 ?_ ?_) <;> omega) | ((with_reducible refine vp_m2 ?_ ?_) <;> omega))); conv => whnf))
      rw [cj, l51.2]
      refine useC hC (s_mputs (p := pre.length) (by omega) l51.1 ?_)
      have hl2 := hl.put (k := pre.length) l51.1
      have f1 : FrX [48, 49] [] m (mu (mu m.1 48 pre.length (nI (g.2 j / 10))) 49 pre.length (nI (g.2 j % 10)), m.2) := FrX.put (by decide) (by decide)
      generalize ((mu (mu m.1 48 pre.length (nI (g.2 j / 10))) 49 pre.length (nI (g.2 j % 10)), m.2) : Mm) = m1 at hl2 f1 ⊢
      conv => whnf
      repeat (first | (refine br_f ?_ ?_; (focus (first | with_reducible assumption | (intro zz; apply zz; with_reducible assumption) | (simp (disch := omega) only [m1lt, nIm1, m1nI, not_true_eq_false, not_false_eq_true, jl, nI_ltI, nI_leI, nI_eq, nI_toInt]; omega) | (simp (disch := omega) only [m1lt, nIm1, m1nI, not_true_eq_false, not_false_eq_true, jl, nI_ltI, nI_leI, nI_eq, nI_toInt]; done))); conv => whnf) | (refine br_t ?_ ?_; (focus (first | with_reducible assumption | (intro zz; apply zz; with_reducible assumption) | (simp (disch := omega) only [m1lt, nIm1, m1nI, not_true_eq_false, not_false_eq_true, jl, nI_ltI, nI_leI, nI_eq, nI_toInt]; omega) | (simp (disch := omega) only [m1lt, nIm1, m1nI, not_true_eq_false, not_false_eq_true, jl, nI_ltI, nI_leI, nI_eq, nI_toInt]; done))); conv => whnf) | (with_reducible refine And.intro nz1 ?_; conv => whnf) | (with_reducible refine And.intro nz0 ?_; conv => whnf) | (refine And.intro ?_ ?_; (focus (first | with_reducible assumption | (intro zz; apply zz; with_reducible assumption) | (simp (disch := omega) only [m1lt, nIm1, m1nI, not_true_eq_false, not_false_eq_true, jl, nI_ltI, nI_leI, nI_eq, nI_toInt]; omega) | (simp (disch := omega) only [m1lt, nIm1, m1nI, not_true_eq_false, not_false_eq_true, jl, nI_ltI, nI_leI, nI_eq, nI_toInt]; done))); conv => whnf) | (refine And.intro ?_ ?_; (focus (first | with_reducible assumption | ((with_reducible refine vp_in_nI ?_ ?_) <;> omega) | ((with_reducible refine vp_0 ?_); omega) | ((with_reducible refine vp_s1 ?_ ?_) <;> omega) | ((with_reducible refine vp_a1 ?_ ?_) <;> omega) | ((with_reducible refine vp_m1 ?_ ?_) <;> omega) | ((with_reducible refine vp_m2 ?_ ?_) <;> omega))); conv => whnf))
      refine useC hC ?_
      show CT (d + f + 66) n_X7_laysFrom [.ref 44, .int (nI pre.length + 1), .int (nI (tb pre) ||| 1 <<< (nI j &&& 31)), .int (10 * nI (dig pre pre.length) + nI j + 1)] m1 _
      rw [eT, eD, nI_1, ← hlen2]
      refine ih (pre ++ [j]) _ st m1 _ (by omega) (fun a ha => ?_) (fun a ha => ?_) (by omega) hl2 (fun m2 c2 d2 l2 e2 => ?_)
      · rcases List.mem_append.mp ha with z | z
        · exact hpn a z
        · rw [List.mem_singleton.mp z]; omega
      · unfold cup lpl
        rw [hlen2] at ha
        by_cases hap : a = pre.length
        · rw [if_pos hap, hap, getD_last]
        · rw [if_neg hap, hc a (by omega)]
          unfold lpl
          congr 1
          rw [List.getD_eq_getElem?_getD, List.getD_eq_getElem?_getD, List.getElem?_append_left (by omega)]
      · conv => whnf
        repeat (first | (refine br_f ?_ ?_; (focus (first | with_reducible assumption | (intro zz; apply zz; with_reducible assumption) | (simp (disch := omega) only [m1lt, nIm1, m1nI, not_true_eq_false, not_false_eq_true, jl, nI_ltI, nI_leI, nI_eq, nI_toInt]; omega) | (simp (disch := omega) only [m1lt, nIm1, m1nI, not_true_eq_false, not_false_eq_true, jl, nI_ltI, nI_leI, nI_eq, nI_toInt]; done))); conv => whnf) | (refine br_t ?_ ?_; (focus (first | with_reducible assumption | (intro zz; apply zz; with_reducible assumption) | (simp (disch := omega) only [m1lt, nIm1, m1nI, not_true_eq_false, not_false_eq_true, jl, nI_ltI, nI_leI, nI_eq, nI_toInt]; omega) | (simp (disch := omega) only [m1lt, nIm1, m1nI, not_true_eq_false, not_false_eq_true, jl, nI_ltI, nI_leI, nI_eq, nI_toInt]; done))); conv => whnf) | (with_reducible refine And.intro nz1 ?_; conv => whnf) | (with_reducible refine And.intro nz0 ?_; conv => whnf) | (refine And.intro ?_ ?_; (focus (first | with_reducible assumption | (intro zz; apply zz; with_reducible assumption) | (simp (disch := omega) only [m1lt, nIm1, m1nI, not_true_eq_false, not_false_eq_true, jl, nI_ltI, nI_leI, nI_eq, nI_toInt]; omega) | (simp (disch := omega) only [m1lt, nIm1, m1nI, not_true_eq_false, not_false_eq_true, jl, nI_ltI, nI_leI, nI_eq, nI_toInt]; done))); conv => whnf) | (refine And.intro ?_ ?_; (focus (first | with_reducible assumption | ((with_reducible refine vp_in_nI ?_ ?_) <;> omega) | ((with_reducible refine vp_0 ?_); omega) | ((with_reducible refine vp_s1 ?_ ?_) <;> omega) | ((with_reducible refine vp_a1 ?_ ?_) <;> omega) | ((with_reducible refine vp_m1 ?_ ?_) <;> omega) | ((with_reducible refine vp_m2 ?_ ?_) <;> omega))); conv => whnf))
        refine hP _ _ _ _ ?_
        rw [nI_1]
        have hle := lyf_le (n := g.1) (c := g.2) (T := t.2.2.2 u) (ext g.1 f (pre ++ [j])) st
        refine ihr (j + 1) c2 _ m2 (by omega) (fun a ha => ?_) (by omega) l2 (fun m3 c3 d3 l3 e3 => h1 m3 c3 (((FrD.of f1 (by decide)).tr d2).tr d3) l3 e3)
        rw [e2 a (by omega)]
        unfold lpl
        congr 1
        rw [List.getD_eq_getElem?_getD, List.getD_eq_getElem?_getD, List.getElem?_append_left (by omega)]
theorem s_laysFrom (h0 : 0 < g.1) (hn6 : g.1 ≤ 6) : ∀ (f : Nat) (pre : List Nat) (c : Nat → Nat) (st : Nat × Nat) (m : Mm) (Q : Qr), pre.length + f = g.1 → (∀ a ∈ pre, a < g.1) → (∀ a, a < pre.length → c a = lpl g.2 pre a) → st.1 + (ext g.1 f pre).length < 5000 → LYI m g u t p i h c st → (∀ m' c', FrD m m' → LYI m' g u t p i h c' (lyf g.1 g.2 (t.2.2.2 u) st (ext g.1 f pre)) → (∀ a, a < pre.length → c' a = lpl g.2 pre a) → Q none m') → CT (d + f + 66) n_X7_laysFrom [.ref 44, .int (nI pre.length), .int (nI (tb pre)), .int (nI (dig pre pre.length))] m Q := by
  intro f
  induction f with
  | zero =>
    intro pre c st m Q hpl hpn hc hs hl h1
    have e : pre.length = g.1 := by omega
    simp only [ext, List.length_cons, List.length_nil] at hs
    rw [e] at hc h1 ⊢
    exact lf0 (d := d) h0 e hc (by omega) hl (fun m' d' l' => h1 m' _ d' l' (fun a _ => rfl))
  | succ f ih =>
    intro pre c st m Q hpl hpn hc hs hl h1
    have h9 : m.1 44 9 = nI g.1 := hl.1.1.1
    have hne : ¬ pre.length = g.1 := by omega
    rw [show d + (f + 1) + 66 = (d + f + 66) + 1 by omega]
    refine opn (d := d + f + 66) cd_X7_laysFrom rfl (fun C P hC hP => ?_)
    unfold c_X7_laysFrom; generalize hT : c_X7_laysFrom_53 = T
    conv => whnf
    repeat (first | (refine br_f ?_ ?_; (focus (first | with_reducible assumption | (intro zz; apply zz; with_reducible assumption) | (simp (disch := omega) only [h9, m1lt, nIm1, m1nI, not_true_eq_false, not_false_eq_true, jl, nI_ltI, nI_leI, nI_eq, nI_toInt]; omega) | (simp (disch := omega) only [h9, m1lt, nIm1, m1nI, not_true_eq_false, not_false_eq_true, jl, nI_ltI, nI_leI, nI_eq, nI_toInt]; done))); conv => whnf) | (refine br_t ?_ ?_; (focus (first | with_reducible assumption | (intro zz; apply zz; with_reducible assumption) | (simp (disch := omega) only [h9, m1lt, nIm1, m1nI, not_true_eq_false, not_false_eq_true, jl, nI_ltI, nI_leI, nI_eq, nI_toInt]; omega) | (simp (disch := omega) only [h9, m1lt, nIm1, m1nI, not_true_eq_false, not_false_eq_true, jl, nI_ltI, nI_leI, nI_eq, nI_toInt]; done))); conv => whnf) | (with_reducible refine And.intro nz1 ?_; conv => whnf) | (with_reducible refine And.intro nz0 ?_; conv => whnf) | (refine And.intro ?_ ?_; (focus (first | with_reducible assumption | (intro zz; apply zz; with_reducible assumption) | (simp (disch := omega) only [h9, m1lt, nIm1, m1nI, not_true_eq_false, not_false_eq_true, jl, nI_ltI, nI_leI, nI_eq, nI_toInt]; omega) | (simp (disch := omega) only [h9, m1lt, nIm1, m1nI, not_true_eq_false, not_false_eq_true, jl, nI_ltI, nI_leI, nI_eq, nI_toInt]; done))); conv => whnf) | (refine And.intro ?_ ?_; (focus (first | with_reducible assumption | ((with_reducible refine vp_in_nI ?_ ?_) <;> omega) | ((with_reducible refine vp_0 ?_); omega) | ((with_reducible refine vp_s1 ?_ ?_) <;> omega) | ((with_reducible refine vp_a1 ?_ ?_) <;> omega) | ((with_reducible refine vp_m1 ?_ ?_) <;> omega) | ((with_reducible refine vp_m2 ?_ ?_) <;> omega))); conv => whnf))
    subst hT; refine hd_X7_laysFrom_53 hC hP ?_
    exact lf_loop (d := d) h0 hn6 hpl hpn ih g.1 0 c st m (by omega) hc hs hl h1
theorem ly_keep {w : Int32} : ∀ (r j : Nat) (m : Mm), j + r = g.1 → g.1 ≤ 6 → MI m g u t p i h → (∀ a, a < j → m.1 51 a = nI (g.2 a)) → (∀ m', FrD m m' → MI m' g u t p i h → (∀ a, a < g.1 → m'.1 51 a = nI (g.2 a)) → WP SH (CT (d + 72)) Q c_X7_layings 27 [some (.ref 44), some (.int w), some (.int (nI g.1))] [] m') → WP SH (CT (d + 72)) Q c_X7_layings 27 [some (.ref 44), some (.int w), some (.int (nI j))] [] m := by
  intro r
  induction r with
  | zero =>
    intro j m hj h6 hm ha h1
    have e : j = g.1 := by omega
    subst e
    exact h1 m FrD.rf hm ha
  | succ r ih =>
    intro j m hj h6 hm ha h1
    have h9 := hm.1.1
    have cj : (nI j).toNatClampNeg = j := nI_clamp (by omega)
    refine wpn mo_X7_layings (fun C P hC hP => ?_)
    conv => whnf
    repeat (first | (refine br_f ?_ ?_; (focus (first | with_reducible assumption | (intro zz; apply zz; with_reducible assumption) | (simp (disch := omega) only [h9, m1lt, nIm1, m1nI, not_true_eq_false, not_false_eq_true, jl, nI_ltI, nI_leI, nI_eq, nI_toInt]; omega) | (simp (disch := omega) only [h9, m1lt, nIm1, m1nI, not_true_eq_false, not_false_eq_true, jl, nI_ltI, nI_leI, nI_eq, nI_toInt]; done))); conv => whnf) | (refine br_t ?_ ?_; (focus (first | with_reducible assumption | (intro zz; apply zz; with_reducible assumption) | (simp (disch := omega) only [h9, m1lt, nIm1, m1nI, not_true_eq_false, not_false_eq_true, jl, nI_ltI, nI_leI, nI_eq, nI_toInt]; omega) | (simp (disch := omega) only [h9, m1lt, nIm1, m1nI, not_true_eq_false, not_false_eq_true, jl, nI_ltI, nI_leI, nI_eq, nI_toInt]; done))); conv => whnf) | (with_reducible refine And.intro nz1 ?_; conv => whnf) | (with_reducible refine And.intro nz0 ?_; conv => whnf) | (refine And.intro ?_ ?_; (focus (first | with_reducible assumption | (intro zz; apply zz; with_reducible assumption) | (simp (disch := omega) only [h9, m1lt, nIm1, m1nI, not_true_eq_false, not_false_eq_true, jl, nI_ltI, nI_leI, nI_eq, nI_toInt]; omega) | (simp (disch := omega) only [h9, m1lt, nIm1, m1nI, not_true_eq_false, not_false_eq_true, jl, nI_ltI, nI_leI, nI_eq, nI_toInt]; done))); conv => whnf) | (refine And.intro ?_ ?_; (focus (first | with_reducible assumption | ((with_reducible refine vp_in_nI ?_ ?_) <;> omega) | ((with_reducible refine vp_0 ?_); omega) | ((with_reducible refine vp_s1 ?_ ?_) <;> omega) | ((with_reducible refine vp_a1 ?_ ?_) <;> omega) | ((with_reducible refine vp_m1 ?_ ?_) <;> omega) | ((with_reducible refine vp_m2 ?_ ?_) <;> omega))); conv => whnf))
    refine useC hC (s_mcodeOf hm.1 (show j < g.1 by omega) ?_)
    conv => whnf
    repeat (first | (refine br_f ?_ ?_; (focus (first | with_reducible assumption | (intro zz; apply zz; with_reducible assumption) | (simp (disch := omega) only [m1lt, nIm1, m1nI, not_true_eq_false, not_false_eq_true, jl, nI_ltI, nI_leI, nI_eq, nI_toInt]; omega) | (simp (disch := omega) only [m1lt, nIm1, m1nI, not_true_eq_false, not_false_eq_true, jl, nI_ltI, nI_leI, nI_eq, nI_toInt]; done))); conv => whnf) | (refine br_t ?_ ?_; (focus (first | with_reducible assumption | (intro zz; apply zz; with_reducible assumption) | (simp (disch := omega) only [m1lt, nIm1, m1nI, not_true_eq_false, not_false_eq_true, jl, nI_ltI, nI_leI, nI_eq, nI_toInt]; omega) | (simp (disch := omega) only [m1lt, nIm1, m1nI, not_true_eq_false, not_false_eq_true, jl, nI_ltI, nI_leI, nI_eq, nI_toInt]; done))); conv => whnf) | (with_reducible refine And.intro nz1 ?_; conv => whnf) | (with_reducible refine And.intro nz0 ?_; conv => whnf) | (refine And.intro ?_ ?_; (focus (first | with_reducible assumption | (intro zz; apply zz; with_reducible assumption) | (simp (disch := omega) only [m1lt, nIm1, m1nI, not_true_eq_false, not_false_eq_true, jl, nI_ltI, nI_leI, nI_eq, nI_toInt]; omega) | (simp (disch := omega) only [m1lt, nIm1, m1nI, not_true_eq_false, not_false_eq_true, jl, nI_ltI, nI_leI, nI_eq, nI_toInt]; done))); conv => whnf) | (refine And.intro ?_ ?_; (focus (first | with_reducible assumption | ((with_reducible refine vp_in_nI ?_ ?_) <;> omega) | ((with_reducible refine vp_0 ?_); omega) | ((with_reducible refine vp_s1 ?_ ?_) <;> omega) | ((with_reducible refine vp_a1 ?_ ?_) <;> omega) | ((with_reducible refine vp_m1 ?_ ?_) <;> omega) | ((with_reducible refine vp_m2 ?_ ?_) <;> omega))); conv => whnf))
    refine hP _ _ _ _ ?_
    rw [cj, nI_1]
    have f1 : FrX SCA SCM m (mu m.1 51 j (nI (g.2 j)), m.2) := FrX.cell (by decide) (by decide)
    refine ih (j + 1) _ (by omega) h6 (hm.fr f1) (fun a z => ?_) (fun m' f' i' e' => h1 m' ((FrD.of f1 (by decide)).tr f') i' e')
    show mu m.1 51 j (nI (g.2 j)) 51 a = _
    rw [mu_at]
    by_cases haj : a = j
    · rw [if_pos haj, haj]
    · rw [if_neg haj]
      exact ha a (by omega)
theorem ly_back {w : Int32} {k : Nat} {st : Nat × Nat} (hk : k < 2) (hw : w = nI k) {n : Nat} {c : Nat → Nat} (hn : n ≤ 6) (hc : ∀ j, j < n → c j < 60) : ∀ (r j : Nat) (m : Mm), j + r = n → m.1 44 9 = nI n → m.1 44 31 = nI st.1 → m.1 44 32 = nI st.2 → (∀ a, a < n → m.1 51 a = nI (c a)) → (∀ a, a < j → m.1 48 a = nI (c a / 10) ∧ m.1 49 a = nI (c a % 10)) → (∀ m', FrX [48, 49] [] m m' → MR m' n c → Q (some (.int (if k = 0 then nI st.1 else nI st.2))) m') → WP SH (CT (d + 1)) Q c_X7_layings 78 [some (.ref 44), some (.int w), some (.int (nI j))] [] m := by
  subst hw
  intro r
  induction r with
  | zero =>
    intro j m hj h9 h31 h32 h51 ha h1
    have e : j = n := by omega
    subst e
    have h2 := h1 m FrX.rf ⟨h9, by omega, fun a z => ⟨hc a z, ha a z⟩⟩
    have hk2 : k = 0 ∨ k = 1 := by omega
    refine wpn mo_X7_layings (fun C P hC hP => ?_)
    rcases hk2 with rfl | rfl
    · conv => whnf
      repeat (first | (refine br_f ?_ ?_; (focus (first | with_reducible assumption | (intro zz; apply zz; with_reducible assumption) | (simp (disch := omega) only [h9, m1lt, nIm1, m1nI, not_true_eq_false, not_false_eq_true, jl, nI_ltI, nI_leI, nI_eq, nI_toInt]; omega) | (simp (disch := omega) only [h9, m1lt, nIm1, m1nI, not_true_eq_false, not_false_eq_true, jl, nI_ltI, nI_leI, nI_eq, nI_toInt]; done))); conv => whnf) | (refine br_t ?_ ?_; (focus (first | with_reducible assumption | (intro zz; apply zz; with_reducible assumption) | (simp (disch := omega) only [h9, m1lt, nIm1, m1nI, not_true_eq_false, not_false_eq_true, jl, nI_ltI, nI_leI, nI_eq, nI_toInt]; omega) | (simp (disch := omega) only [h9, m1lt, nIm1, m1nI, not_true_eq_false, not_false_eq_true, jl, nI_ltI, nI_leI, nI_eq, nI_toInt]; done))); conv => whnf) | (with_reducible refine And.intro nz1 ?_; conv => whnf) | (with_reducible refine And.intro nz0 ?_; conv => whnf) | (refine And.intro ?_ ?_; (focus (first | with_reducible assumption | (intro zz; apply zz; with_reducible assumption) | (simp (disch := omega) only [h9, m1lt, nIm1, m1nI, not_true_eq_false, not_false_eq_true, jl, nI_ltI, nI_leI, nI_eq, nI_toInt]; omega) | (simp (disch := omega) only [h9, m1lt, nIm1, m1nI, not_true_eq_false, not_false_eq_true, jl, nI_ltI, nI_leI, nI_eq, nI_toInt]; done))); conv => whnf) | (refine And.intro ?_ ?_; (focus (first | with_reducible assumption | ((with_reducible refine vp_in_nI ?_ ?_) <;> omega) | ((with_reducible refine vp_0 ?_); omega) | ((with_reducible refine vp_s1 ?_ ?_) <;> omega) | ((with_reducible refine vp_a1 ?_ ?_) <;> omega) | ((with_reducible refine vp_m1 ?_ ?_) <;> omega) | ((with_reducible refine vp_m2 ?_ ?_) <;> omega))); conv => whnf))
      rw [h31]
      exact h2
    · conv => whnf
      repeat (first | (refine br_f ?_ ?_; (focus (first | with_reducible assumption | (intro zz; apply zz; with_reducible assumption) | (simp (disch := omega) only [h9, m1lt, nIm1, m1nI, not_true_eq_false, not_false_eq_true, jl, nI_ltI, nI_leI, nI_eq, nI_toInt]; omega) | (simp (disch := omega) only [h9, m1lt, nIm1, m1nI, not_true_eq_false, not_false_eq_true, jl, nI_ltI, nI_leI, nI_eq, nI_toInt]; done))); conv => whnf) | (refine br_t ?_ ?_; (focus (first | with_reducible assumption | (intro zz; apply zz; with_reducible assumption) | (simp (disch := omega) only [h9, m1lt, nIm1, m1nI, not_true_eq_false, not_false_eq_true, jl, nI_ltI, nI_leI, nI_eq, nI_toInt]; omega) | (simp (disch := omega) only [h9, m1lt, nIm1, m1nI, not_true_eq_false, not_false_eq_true, jl, nI_ltI, nI_leI, nI_eq, nI_toInt]; done))); conv => whnf) | (with_reducible refine And.intro nz1 ?_; conv => whnf) | (with_reducible refine And.intro nz0 ?_; conv => whnf) | (refine And.intro ?_ ?_; (focus (first | with_reducible assumption | (intro zz; apply zz; with_reducible assumption) | (simp (disch := omega) only [h9, m1lt, nIm1, m1nI, not_true_eq_false, not_false_eq_true, jl, nI_ltI, nI_leI, nI_eq, nI_toInt]; omega) | (simp (disch := omega) only [h9, m1lt, nIm1, m1nI, not_true_eq_false, not_false_eq_true, jl, nI_ltI, nI_leI, nI_eq, nI_toInt]; done))); conv => whnf) | (refine And.intro ?_ ?_; (focus (first | with_reducible assumption | ((with_reducible refine vp_in_nI ?_ ?_) <;> omega) | ((with_reducible refine vp_0 ?_); omega) | ((with_reducible refine vp_s1 ?_ ?_) <;> omega) | ((with_reducible refine vp_a1 ?_ ?_) <;> omega) | ((with_reducible refine vp_m1 ?_ ?_) <;> omega) | ((with_reducible refine vp_m2 ?_ ?_) <;> omega))); conv => whnf))
      rw [h32]
      exact h2
  | succ r ih =>
    intro j m hj h9 h31 h32 h51 ha h1
    have cj : (nI j).toNatClampNeg = j := nI_clamp (by omega)
    have hcj := hc j (by omega)
    refine wpn mo_X7_layings (fun C P hC hP => ?_)
    conv => whnf
    repeat (first | (refine br_f ?_ ?_; (focus (first | with_reducible assumption | (intro zz; apply zz; with_reducible assumption) | (simp (disch := omega) only [h9, m1lt, nIm1, m1nI, not_true_eq_false, not_false_eq_true, jl, nI_ltI, nI_leI, nI_eq, nI_toInt]; omega) | (simp (disch := omega) only [h9, m1lt, nIm1, m1nI, not_true_eq_false, not_false_eq_true, jl, nI_ltI, nI_leI, nI_eq, nI_toInt]; done))); conv => whnf) | (refine br_t ?_ ?_; (focus (first | with_reducible assumption | (intro zz; apply zz; with_reducible assumption) | (simp (disch := omega) only [h9, m1lt, nIm1, m1nI, not_true_eq_false, not_false_eq_true, jl, nI_ltI, nI_leI, nI_eq, nI_toInt]; omega) | (simp (disch := omega) only [h9, m1lt, nIm1, m1nI, not_true_eq_false, not_false_eq_true, jl, nI_ltI, nI_leI, nI_eq, nI_toInt]; done))); conv => whnf) | (with_reducible refine And.intro nz1 ?_; conv => whnf) | (with_reducible refine And.intro nz0 ?_; conv => whnf) | (refine And.intro ?_ ?_; (focus (first | with_reducible assumption | (intro zz; apply zz; with_reducible assumption) | (simp (disch := omega) only [h9, m1lt, nIm1, m1nI, not_true_eq_false, not_false_eq_true, jl, nI_ltI, nI_leI, nI_eq, nI_toInt]; omega) | (simp (disch := omega) only [h9, m1lt, nIm1, m1nI, not_true_eq_false, not_false_eq_true, jl, nI_ltI, nI_leI, nI_eq, nI_toInt]; done))); conv => whnf) | (refine And.intro ?_ ?_; (focus (first | with_reducible assumption | ((with_reducible refine vp_in_nI ?_ ?_) <;> omega) | ((with_reducible refine vp_0 ?_); omega) | ((with_reducible refine vp_s1 ?_ ?_) <;> omega) | ((with_reducible refine vp_a1 ?_ ?_) <;> omega) | ((with_reducible refine vp_m1 ?_ ?_) <;> omega) | ((with_reducible refine vp_m2 ?_ ?_) <;> omega))); conv => whnf))
    rw [cj, h51 j (by omega)]
    refine useC hC (s_mputs (by omega) hcj ?_)
    conv => whnf
    repeat (first | (refine br_f ?_ ?_; (focus (first | with_reducible assumption | (intro zz; apply zz; with_reducible assumption) | (simp (disch := omega) only [m1lt, nIm1, m1nI, not_true_eq_false, not_false_eq_true, jl, nI_ltI, nI_leI, nI_eq, nI_toInt]; omega) | (simp (disch := omega) only [m1lt, nIm1, m1nI, not_true_eq_false, not_false_eq_true, jl, nI_ltI, nI_leI, nI_eq, nI_toInt]; done))); conv => whnf) | (refine br_t ?_ ?_; (focus (first | with_reducible assumption | (intro zz; apply zz; with_reducible assumption) | (simp (disch := omega) only [m1lt, nIm1, m1nI, not_true_eq_false, not_false_eq_true, jl, nI_ltI, nI_leI, nI_eq, nI_toInt]; omega) | (simp (disch := omega) only [m1lt, nIm1, m1nI, not_true_eq_false, not_false_eq_true, jl, nI_ltI, nI_leI, nI_eq, nI_toInt]; done))); conv => whnf) | (with_reducible refine And.intro nz1 ?_; conv => whnf) | (with_reducible refine And.intro nz0 ?_; conv => whnf) | (refine And.intro ?_ ?_; (focus (first | with_reducible assumption | (intro zz; apply zz; with_reducible assumption) | (simp (disch := omega) only [m1lt, nIm1, m1nI, not_true_eq_false, not_false_eq_true, jl, nI_ltI, nI_leI, nI_eq, nI_toInt]; omega) | (simp (disch := omega) only [m1lt, nIm1, m1nI, not_true_eq_false, not_false_eq_true, jl, nI_ltI, nI_leI, nI_eq, nI_toInt]; done))); conv => whnf) | (refine And.intro ?_ ?_; (focus (first | with_reducible assumption | ((with_reducible refine vp_in_nI ?_ ?_) <;> omega) | ((with_reducible refine vp_0 ?_); omega) | ((with_reducible refine vp_s1 ?_ ?_) <;> omega) | ((with_reducible refine vp_a1 ?_ ?_) <;> omega) | ((with_reducible refine vp_m1 ?_ ?_) <;> omega) | ((with_reducible refine vp_m2 ?_ ?_) <;> omega))); conv => whnf))
    refine hP _ _ _ _ ?_
    rw [nI_1]
    have f1 : FrX [48, 49] [] m (mu (mu m.1 48 j (nI (c j / 10))) 49 j (nI (c j % 10)), m.2) := FrX.put (by decide) (by decide)
    refine ih (j + 1) _ (by omega) (by rw [f1.2 9 (by decide)]; exact h9) (by rw [f1.2 31 (by decide)]; exact h31) (by rw [f1.2 32 (by decide)]; exact h32) (fun a z => by rw [f1.at (a := 51) (by decide) (by decide)]; exact h51 a z) (fun a z => ?_) (fun m' f' r' => h1 m' (f1.tr f') r')
    show mu (mu m.1 48 j (nI (c j / 10))) 49 j (nI (c j % 10)) 48 a = _ ∧ mu (mu m.1 48 j (nI (c j / 10))) 49 j (nI (c j % 10)) 49 a = _
    rw [mu_ne (by decide), mu_at, mu_at]
    by_cases haj : a = j
    · rw [if_pos haj, if_pos haj, haj]
      exact ⟨rfl, rfl⟩
    · rw [if_neg haj, if_neg haj, mu_ne (by decide)]
      exact ha a (by omega)
theorem LL_len {n : Nat} (h : n ≤ 6) : (LL n).length < 4000 := by have := (LL_chk h).2.1; omega
theorem y_layings {w : Int32} (hm : MI m g u t p i h) (h1 : ∀ m', MI m' g u t p i h → FrD m m' → Q (some (.int (aLays w g.1 g.2 (t.2.2.2 u)))) m') : CT (d + 73) n_X7_layings [.ref 44, .int w] m Q := by
  have hn := hm.1.2.1
  have h9 := hm.1.1
  unfold aLays at h1
  refine opn cd_X7_layings rfl (fun C P hC hP => ?_)
  unfold c_X7_layings; generalize hT : c_X7_layings_27 = T
  conv => whnf
  repeat (first | (refine br_f ?_ ?_; (focus (first | with_reducible assumption | (intro zz; apply zz; with_reducible assumption) | (simp (disch := omega) only [m1lt, nIm1, m1nI, not_true_eq_false, not_false_eq_true, jl, nI_ltI, nI_leI, nI_eq, nI_toInt]; omega) | (simp (disch := omega) only [m1lt, nIm1, m1nI, not_true_eq_false, not_false_eq_true, jl, nI_ltI, nI_leI, nI_eq, nI_toInt]; done))); conv => whnf) | (refine br_t ?_ ?_; (focus (first | with_reducible assumption | (intro zz; apply zz; with_reducible assumption) | (simp (disch := omega) only [m1lt, nIm1, m1nI, not_true_eq_false, not_false_eq_true, jl, nI_ltI, nI_leI, nI_eq, nI_toInt]; omega) | (simp (disch := omega) only [m1lt, nIm1, m1nI, not_true_eq_false, not_false_eq_true, jl, nI_ltI, nI_leI, nI_eq, nI_toInt]; done))); conv => whnf) | (with_reducible refine And.intro nz1 ?_; conv => whnf) | (with_reducible refine And.intro nz0 ?_; conv => whnf) | (refine And.intro ?_ ?_; (focus (first | with_reducible assumption | (intro zz; apply zz; with_reducible assumption) | (simp (disch := omega) only [m1lt, nIm1, m1nI, not_true_eq_false, not_false_eq_true, jl, nI_ltI, nI_leI, nI_eq, nI_toInt]; omega) | (simp (disch := omega) only [m1lt, nIm1, m1nI, not_true_eq_false, not_false_eq_true, jl, nI_ltI, nI_leI, nI_eq, nI_toInt]; done))); conv => whnf) | (refine And.intro ?_ ?_; (focus (first | with_reducible assumption | ((with_reducible refine vp_in_nI ?_ ?_) <;> omega) | ((with_reducible refine vp_0 ?_); omega) | ((with_reducible refine vp_s1 ?_ ?_) <;> omega) | ((with_reducible refine vp_a1 ?_ ?_) <;> omega) | ((with_reducible refine vp_m1 ?_ ?_) <;> omega) | ((with_reducible refine vp_m2 ?_ ?_) <;> omega))); conv => whnf))
  refine useC hC (s_inx (n := 2) rfl rfl ?_)
  cases e : ixo w 2 with
  | none =>
    rw [e] at h1
    conv => whnf
    repeat (first | (refine br_f ?_ ?_; (focus (first | with_reducible assumption | (intro zz; apply zz; with_reducible assumption) | (simp (disch := omega) only [m1lt, nIm1, m1nI, not_true_eq_false, not_false_eq_true, jl, nI_ltI, nI_leI, nI_eq, nI_toInt]; omega) | (simp (disch := omega) only [m1lt, nIm1, m1nI, not_true_eq_false, not_false_eq_true, jl, nI_ltI, nI_leI, nI_eq, nI_toInt]; done))); conv => whnf) | (refine br_t ?_ ?_; (focus (first | with_reducible assumption | (intro zz; apply zz; with_reducible assumption) | (simp (disch := omega) only [m1lt, nIm1, m1nI, not_true_eq_false, not_false_eq_true, jl, nI_ltI, nI_leI, nI_eq, nI_toInt]; omega) | (simp (disch := omega) only [m1lt, nIm1, m1nI, not_true_eq_false, not_false_eq_true, jl, nI_ltI, nI_leI, nI_eq, nI_toInt]; done))); conv => whnf) | (with_reducible refine And.intro nz1 ?_; conv => whnf) | (with_reducible refine And.intro nz0 ?_; conv => whnf) | (refine And.intro ?_ ?_; (focus (first | with_reducible assumption | (intro zz; apply zz; with_reducible assumption) | (simp (disch := omega) only [m1lt, nIm1, m1nI, not_true_eq_false, not_false_eq_true, jl, nI_ltI, nI_leI, nI_eq, nI_toInt]; omega) | (simp (disch := omega) only [m1lt, nIm1, m1nI, not_true_eq_false, not_false_eq_true, jl, nI_ltI, nI_leI, nI_eq, nI_toInt]; done))); conv => whnf) | (refine And.intro ?_ ?_; (focus (first | with_reducible assumption | ((with_reducible refine vp_in_nI ?_ ?_) <;> omega) | ((with_reducible refine vp_0 ?_); omega) | ((with_reducible refine vp_s1 ?_ ?_) <;> omega) | ((with_reducible refine vp_a1 ?_ ?_) <;> omega) | ((with_reducible refine vp_m1 ?_ ?_) <;> omega) | ((with_reducible refine vp_m2 ?_ ?_) <;> omega))); conv => whnf))
    exact h1 m hm FrD.rf
  | some k =>
    rw [e] at h1
    obtain ⟨hw, hk⟩ := ixo_some (by decide) e
    by_cases h6 : 6 < g.1
    · simp only [if_pos h6] at h1
      conv => whnf
      repeat (first | (refine br_f ?_ ?_; (focus (first | with_reducible assumption | (intro zz; apply zz; with_reducible assumption) | (simp (disch := omega) only [h9, m1lt, nIm1, m1nI, not_true_eq_false, not_false_eq_true, jl, nI_ltI, nI_leI, nI_eq, nI_toInt]; omega) | (simp (disch := omega) only [h9, m1lt, nIm1, m1nI, not_true_eq_false, not_false_eq_true, jl, nI_ltI, nI_leI, nI_eq, nI_toInt]; done))); conv => whnf) | (refine br_t ?_ ?_; (focus (first | with_reducible assumption | (intro zz; apply zz; with_reducible assumption) | (simp (disch := omega) only [h9, m1lt, nIm1, m1nI, not_true_eq_false, not_false_eq_true, jl, nI_ltI, nI_leI, nI_eq, nI_toInt]; omega) | (simp (disch := omega) only [h9, m1lt, nIm1, m1nI, not_true_eq_false, not_false_eq_true, jl, nI_ltI, nI_leI, nI_eq, nI_toInt]; done))); conv => whnf) | (with_reducible refine And.intro nz1 ?_; conv => whnf) | (with_reducible refine And.intro nz0 ?_; conv => whnf) | (refine And.intro ?_ ?_; (focus (first | with_reducible assumption | (intro zz; apply zz; with_reducible assumption) | (simp (disch := omega) only [h9, m1lt, nIm1, m1nI, not_true_eq_false, not_false_eq_true, jl, nI_ltI, nI_leI, nI_eq, nI_toInt]; omega) | (simp (disch := omega) only [h9, m1lt, nIm1, m1nI, not_true_eq_false, not_false_eq_true, jl, nI_ltI, nI_leI, nI_eq, nI_toInt]; done))); conv => whnf) | (refine And.intro ?_ ?_; (focus (first | with_reducible assumption | ((with_reducible refine vp_in_nI ?_ ?_) <;> omega) | ((with_reducible refine vp_0 ?_); omega) | ((with_reducible refine vp_s1 ?_ ?_) <;> omega) | ((with_reducible refine vp_a1 ?_ ?_) <;> omega) | ((with_reducible refine vp_m1 ?_ ?_) <;> omega) | ((with_reducible refine vp_m2 ?_ ?_) <;> omega))); conv => whnf))
      exact h1 m hm FrD.rf
    · simp only [if_neg h6] at h1
      conv => whnf
      repeat (first | (refine br_f ?_ ?_; (focus (first | with_reducible assumption | (intro zz; apply zz; with_reducible assumption) | (simp (disch := omega) only [h9, m1lt, nIm1, m1nI, not_true_eq_false, not_false_eq_true, jl, nI_ltI, nI_leI, nI_eq, nI_toInt]; omega) | (simp (disch := omega) only [h9, m1lt, nIm1, m1nI, not_true_eq_false, not_false_eq_true, jl, nI_ltI, nI_leI, nI_eq, nI_toInt]; done))); conv => whnf) | (refine br_t ?_ ?_; (focus (first | with_reducible assumption | (intro zz; apply zz; with_reducible assumption) | (simp (disch := omega) only [h9, m1lt, nIm1, m1nI, not_true_eq_false, not_false_eq_true, jl, nI_ltI, nI_leI, nI_eq, nI_toInt]; omega) | (simp (disch := omega) only [h9, m1lt, nIm1, m1nI, not_true_eq_false, not_false_eq_true, jl, nI_ltI, nI_leI, nI_eq, nI_toInt]; done))); conv => whnf) | (with_reducible refine And.intro nz1 ?_; conv => whnf) | (with_reducible refine And.intro nz0 ?_; conv => whnf) | (refine And.intro ?_ ?_; (focus (first | with_reducible assumption | (intro zz; apply zz; with_reducible assumption) | (simp (disch := omega) only [h9, m1lt, nIm1, m1nI, not_true_eq_false, not_false_eq_true, jl, nI_ltI, nI_leI, nI_eq, nI_toInt]; omega) | (simp (disch := omega) only [h9, m1lt, nIm1, m1nI, not_true_eq_false, not_false_eq_true, jl, nI_ltI, nI_leI, nI_eq, nI_toInt]; done))); conv => whnf) | (refine And.intro ?_ ?_; (focus (first | with_reducible assumption | ((with_reducible refine vp_in_nI ?_ ?_) <;> omega) | ((with_reducible refine vp_0 ?_); omega) | ((with_reducible refine vp_s1 ?_ ?_) <;> omega) | ((with_reducible refine vp_a1 ?_ ?_) <;> omega) | ((with_reducible refine vp_m1 ?_ ?_) <;> omega) | ((with_reducible refine vp_m2 ?_ ?_) <;> omega))); conv => whnf))
      subst hT; refine hd_X7_layings_27 hC hP ?_
      refine ly_keep (d := d) g.1 0 m (by omega) (by omega) hm (fun a z => absurd z (Nat.not_lt_zero a)) (fun m1 f1 i1 e1 => ?_)
      have h91 := i1.1.1
      have f2 : FrX [] [31, 32] m1 (mu (mu m1.1 44 31 0) 44 32 0, m1.2) := (FrX.one (by simp)).tr (FrX.one (m := (mu m1.1 44 31 0, m1.2)) (by simp))
      have i2 := i1.fr (f2.up (by simp) (by decide))
      have e2 : ∀ a, a < g.1 → (mu (mu m1.1 44 31 0) 44 32 0, m1.2).1 51 a = nI (g.2 a) := fun a ha => by rw [f2.at (a := 51) (by decide) (by decide)]; exact e1 a ha
      have e31 : (mu (mu m1.1 44 31 0) 44 32 0, m1.2).1 44 31 = nI 0 := by
        show mu (mu m1.1 44 31 0) 44 32 0 44 31 = _
        rw [mu_at, if_neg (by decide), mu_at, if_pos rfl]
        rfl
      have e32 : (mu (mu m1.1 44 31 0) 44 32 0, m1.2).1 44 32 = nI 0 := by
        show mu (mu m1.1 44 31 0) 44 32 0 44 32 = _
        rw [mu_at, if_pos rfl]
        rfl
      have e9 : mu (mu m1.1 44 31 0) 44 32 0 44 9 = nI g.1 := i2.1.1
      refine wpn mo_X7_layings (fun C P hC hP => ?_)
      unfold c_X7_layings c_X7_layings_27
      generalize hT : c_X7_layings_78 = T
      by_cases hg0 : g.1 = 0
      · simp only [if_pos hg0] at h1
        conv => whnf
        repeat (first | (refine br_f ?_ ?_; (focus (first | with_reducible assumption | (intro zz; apply zz; with_reducible assumption) | (simp (disch := omega) only [h91, m1lt, nIm1, m1nI, not_true_eq_false, not_false_eq_true, jl, nI_ltI, nI_leI, nI_eq, nI_toInt]; omega) | (simp (disch := omega) only [h91, m1lt, nIm1, m1nI, not_true_eq_false, not_false_eq_true, jl, nI_ltI, nI_leI, nI_eq, nI_toInt]; done))); conv => whnf) | (refine br_t ?_ ?_; (focus (first | with_reducible assumption | (intro zz; apply zz; with_reducible assumption) | (simp (disch := omega) only [h91, m1lt, nIm1, m1nI, not_true_eq_false, not_false_eq_true, jl, nI_ltI, nI_leI, nI_eq, nI_toInt]; omega) | (simp (disch := omega) only [h91, m1lt, nIm1, m1nI, not_true_eq_false, not_false_eq_true, jl, nI_ltI, nI_leI, nI_eq, nI_toInt]; done))); conv => whnf) | (with_reducible refine And.intro nz1 ?_; conv => whnf) | (with_reducible refine And.intro nz0 ?_; conv => whnf) | (refine And.intro ?_ ?_; (focus (first | with_reducible assumption | (intro zz; apply zz; with_reducible assumption) | (simp (disch := omega) only [h91, m1lt, nIm1, m1nI, not_true_eq_false, not_false_eq_true, jl, nI_ltI, nI_leI, nI_eq, nI_toInt]; omega) | (simp (disch := omega) only [h91, m1lt, nIm1, m1nI, not_true_eq_false, not_false_eq_true, jl, nI_ltI, nI_leI, nI_eq, nI_toInt]; done))); conv => whnf) | (refine And.intro ?_ ?_; (focus (first | with_reducible assumption | ((with_reducible refine vp_in_nI ?_ ?_) <;> omega) | ((with_reducible refine vp_0 ?_); omega) | ((with_reducible refine vp_s1 ?_ ?_) <;> omega) | ((with_reducible refine vp_a1 ?_ ?_) <;> omega) | ((with_reducible refine vp_m1 ?_ ?_) <;> omega) | ((with_reducible refine vp_m2 ?_ ?_) <;> omega))); conv => whnf))
        generalize hM : ((mu (mu m1.1 44 31 0) 44 32 0, m1.2) : Mm) = M at i2 e2 e31 e32 f2 ⊢
        have e9' : M.1 44 9 = nI g.1 := i2.1.1
        conv => whnf
        repeat (first | (refine br_f ?_ ?_; (focus (first | with_reducible assumption | (intro zz; apply zz; with_reducible assumption) | (simp (disch := omega) only [e9', m1lt, nIm1, m1nI, not_true_eq_false, not_false_eq_true, jl, nI_ltI, nI_leI, nI_eq, nI_toInt]; omega) | (simp (disch := omega) only [e9', m1lt, nIm1, m1nI, not_true_eq_false, not_false_eq_true, jl, nI_ltI, nI_leI, nI_eq, nI_toInt]; done))); conv => whnf) | (refine br_t ?_ ?_; (focus (first | with_reducible assumption | (intro zz; apply zz; with_reducible assumption) | (simp (disch := omega) only [e9', m1lt, nIm1, m1nI, not_true_eq_false, not_false_eq_true, jl, nI_ltI, nI_leI, nI_eq, nI_toInt]; omega) | (simp (disch := omega) only [e9', m1lt, nIm1, m1nI, not_true_eq_false, not_false_eq_true, jl, nI_ltI, nI_leI, nI_eq, nI_toInt]; done))); conv => whnf) | (with_reducible refine And.intro nz1 ?_; conv => whnf) | (with_reducible refine And.intro nz0 ?_; conv => whnf) | (refine And.intro ?_ ?_; (focus (first | with_reducible assumption | (intro zz; apply zz; with_reducible assumption) | (simp (disch := omega) only [e9', m1lt, nIm1, m1nI, not_true_eq_false, not_false_eq_true, jl, nI_ltI, nI_leI, nI_eq, nI_toInt]; omega) | (simp (disch := omega) only [e9', m1lt, nIm1, m1nI, not_true_eq_false, not_false_eq_true, jl, nI_ltI, nI_leI, nI_eq, nI_toInt]; done))); conv => whnf) | (refine And.intro ?_ ?_; (focus (first | with_reducible assumption | ((with_reducible refine vp_in_nI ?_ ?_) <;> omega) | ((with_reducible refine vp_0 ?_); omega) | ((with_reducible refine vp_s1 ?_ ?_) <;> omega) | ((with_reducible refine vp_a1 ?_ ?_) <;> omega) | ((with_reducible refine vp_m1 ?_ ?_) <;> omega) | ((with_reducible refine vp_m2 ?_ ?_) <;> omega))); conv => whnf))
        subst hT; refine hd_X7_layings_78 hC hP ?_
        refine ly_back (d := d + 71) (st := (0, 0)) hk hw (by omega) (fun j hj => (hm.1.2.2 j hj).1) g.1 0 M (by omega) e9' e31 e32 e2 (fun a z => absurd z (Nat.not_lt_zero a)) (fun m' f' r' => ?_)
        have := h1 m' (i2.toR (g' := g) (f'.up (by decide) (by simp)) r') ((f1.tr (FrD.of f2 (by simp))).tr (FrD.of f' (by decide)))
        by_cases hk0 : k = 0
        · rw [if_pos hk0]
          exact this
        · rw [if_neg hk0]
          exact this
      · simp only [if_neg hg0] at h1
        conv => whnf
        repeat (first | (refine br_f ?_ ?_; (focus (first | with_reducible assumption | (intro zz; apply zz; with_reducible assumption) | (simp (disch := omega) only [h91, m1lt, nIm1, m1nI, not_true_eq_false, not_false_eq_true, jl, nI_ltI, nI_leI, nI_eq, nI_toInt]; omega) | (simp (disch := omega) only [h91, m1lt, nIm1, m1nI, not_true_eq_false, not_false_eq_true, jl, nI_ltI, nI_leI, nI_eq, nI_toInt]; done))); conv => whnf) | (refine br_t ?_ ?_; (focus (first | with_reducible assumption | (intro zz; apply zz; with_reducible assumption) | (simp (disch := omega) only [h91, m1lt, nIm1, m1nI, not_true_eq_false, not_false_eq_true, jl, nI_ltI, nI_leI, nI_eq, nI_toInt]; omega) | (simp (disch := omega) only [h91, m1lt, nIm1, m1nI, not_true_eq_false, not_false_eq_true, jl, nI_ltI, nI_leI, nI_eq, nI_toInt]; done))); conv => whnf) | (with_reducible refine And.intro nz1 ?_; conv => whnf) | (with_reducible refine And.intro nz0 ?_; conv => whnf) | (refine And.intro ?_ ?_; (focus (first | with_reducible assumption | (intro zz; apply zz; with_reducible assumption) | (simp (disch := omega) only [h91, m1lt, nIm1, m1nI, not_true_eq_false, not_false_eq_true, jl, nI_ltI, nI_leI, nI_eq, nI_toInt]; omega) | (simp (disch := omega) only [h91, m1lt, nIm1, m1nI, not_true_eq_false, not_false_eq_true, jl, nI_ltI, nI_leI, nI_eq, nI_toInt]; done))); conv => whnf) | (refine And.intro ?_ ?_; (focus (first | with_reducible assumption | ((with_reducible refine vp_in_nI ?_ ?_) <;> omega) | ((with_reducible refine vp_0 ?_); omega) | ((with_reducible refine vp_s1 ?_ ?_) <;> omega) | ((with_reducible refine vp_a1 ?_ ?_) <;> omega) | ((with_reducible refine vp_m1 ?_ ?_) <;> omega) | ((with_reducible refine vp_m2 ?_ ?_) <;> omega))); conv => whnf))
        generalize hM : ((mu (mu m1.1 44 31 0) 44 32 0, m1.2) : Mm) = M at i2 e2 e31 e32 f2 ⊢
        have e9' : M.1 44 9 = nI g.1 := i2.1.1
        conv => whnf
        repeat (first | (refine br_f ?_ ?_; (focus (first | with_reducible assumption | (intro zz; apply zz; with_reducible assumption) | (simp (disch := omega) only [e9', m1lt, nIm1, m1nI, not_true_eq_false, not_false_eq_true, jl, nI_ltI, nI_leI, nI_eq, nI_toInt]; omega) | (simp (disch := omega) only [e9', m1lt, nIm1, m1nI, not_true_eq_false, not_false_eq_true, jl, nI_ltI, nI_leI, nI_eq, nI_toInt]; done))); conv => whnf) | (refine br_t ?_ ?_; (focus (first | with_reducible assumption | (intro zz; apply zz; with_reducible assumption) | (simp (disch := omega) only [e9', m1lt, nIm1, m1nI, not_true_eq_false, not_false_eq_true, jl, nI_ltI, nI_leI, nI_eq, nI_toInt]; omega) | (simp (disch := omega) only [e9', m1lt, nIm1, m1nI, not_true_eq_false, not_false_eq_true, jl, nI_ltI, nI_leI, nI_eq, nI_toInt]; done))); conv => whnf) | (with_reducible refine And.intro nz1 ?_; conv => whnf) | (with_reducible refine And.intro nz0 ?_; conv => whnf) | (refine And.intro ?_ ?_; (focus (first | with_reducible assumption | (intro zz; apply zz; with_reducible assumption) | (simp (disch := omega) only [e9', m1lt, nIm1, m1nI, not_true_eq_false, not_false_eq_true, jl, nI_ltI, nI_leI, nI_eq, nI_toInt]; omega) | (simp (disch := omega) only [e9', m1lt, nIm1, m1nI, not_true_eq_false, not_false_eq_true, jl, nI_ltI, nI_leI, nI_eq, nI_toInt]; done))); conv => whnf) | (refine And.intro ?_ ?_; (focus (first | with_reducible assumption | ((with_reducible refine vp_in_nI ?_ ?_) <;> omega) | ((with_reducible refine vp_0 ?_); omega) | ((with_reducible refine vp_s1 ?_ ?_) <;> omega) | ((with_reducible refine vp_a1 ?_ ?_) <;> omega) | ((with_reducible refine vp_m1 ?_ ?_) <;> omega) | ((with_reducible refine vp_m2 ?_ ?_) <;> omega))); conv => whnf))
        have hLL := ext_LL (n := g.1) (by omega)
        refine useC hC ?_
        obtain ⟨d2, hd2⟩ : ∃ d2, d + 72 = d2 + g.1 + 66 := ⟨d + 6 - g.1, by omega⟩
        rw [hd2]
        refine s_laysFrom (d := d2) (st := (0, 0)) (by omega) (by omega) g.1 [] g.2 M _ (by simp) (fun a z => absurd z List.not_mem_nil) (fun a z => absurd z (Nat.not_lt_zero a)) ?_ ⟨i2, fun a ha => ⟨(hm.1.2.2 a ha).1, e2 a ha⟩, e31, e32⟩ (fun m2 c2 d2 l2 _ => ?_)
        · rw [hLL]
          have := LL_len (n := g.1) (by omega)
          show 0 + _ < 5000
          omega
        · rw [hLL] at l2
          conv => whnf
          repeat (first | (refine br_f ?_ ?_; (focus (first | with_reducible assumption | (intro zz; apply zz; with_reducible assumption) | (simp (disch := omega) only [m1lt, nIm1, m1nI, not_true_eq_false, not_false_eq_true, jl, nI_ltI, nI_leI, nI_eq, nI_toInt]; omega) | (simp (disch := omega) only [m1lt, nIm1, m1nI, not_true_eq_false, not_false_eq_true, jl, nI_ltI, nI_leI, nI_eq, nI_toInt]; done))); conv => whnf) | (refine br_t ?_ ?_; (focus (first | with_reducible assumption | (intro zz; apply zz; with_reducible assumption) | (simp (disch := omega) only [m1lt, nIm1, m1nI, not_true_eq_false, not_false_eq_true, jl, nI_ltI, nI_leI, nI_eq, nI_toInt]; omega) | (simp (disch := omega) only [m1lt, nIm1, m1nI, not_true_eq_false, not_false_eq_true, jl, nI_ltI, nI_leI, nI_eq, nI_toInt]; done))); conv => whnf) | (with_reducible refine And.intro nz1 ?_; conv => whnf) | (with_reducible refine And.intro nz0 ?_; conv => whnf) | (refine And.intro ?_ ?_; (focus (first | with_reducible assumption | (intro zz; apply zz; with_reducible assumption) | (simp (disch := omega) only [m1lt, nIm1, m1nI, not_true_eq_false, not_false_eq_true, jl, nI_ltI, nI_leI, nI_eq, nI_toInt]; omega) | (simp (disch := omega) only [m1lt, nIm1, m1nI, not_true_eq_false, not_false_eq_true, jl, nI_ltI, nI_leI, nI_eq, nI_toInt]; done))); conv => whnf) | (refine And.intro ?_ ?_; (focus (first | with_reducible assumption | ((with_reducible refine vp_in_nI ?_ ?_) <;> omega) | ((with_reducible refine vp_0 ?_); omega) | ((with_reducible refine vp_s1 ?_ ?_) <;> omega) | ((with_reducible refine vp_a1 ?_ ?_) <;> omega) | ((with_reducible refine vp_m1 ?_ ?_) <;> omega) | ((with_reducible refine vp_m2 ?_ ?_) <;> omega))); conv => whnf))
          subst hT; refine hd_X7_layings_78 hC hP ?_
          refine ly_back (d := d + 71) hk hw (by omega) (fun j hj => (hm.1.2.2 j hj).1) g.1 0 m2 (by omega) l2.1.1.1 l2.2.2.1 l2.2.2.2 (fun a ha => (l2.2.1 a ha).2) (fun a z => absurd z (Nat.not_lt_zero a)) (fun m' f' r' => ?_)
          have := h1 m' (l2.1.toR (g' := g) (f'.up (by decide) (by simp)) r') (((f1.tr (FrD.of f2 (by simp))).tr d2).tr (FrD.of f' (by decide)))
          by_cases hk0 : k = 0
          · rw [if_pos hk0] at this ⊢
            exact this
          · rw [if_neg hk0] at this ⊢
            exact this
end MLY
