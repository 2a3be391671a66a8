/-! THE MODEL'S ROUND -/
/-- what the model needs of the text by which it goes -/
def MT1 (m : Mm) (ru L : Nat) (B : Nat → Nat) (T : Nat → List Nat) : Prop := ru < 6 ∧ L ≤ 160 ∧ m.1 44 4 = nI ru ∧ m.1 46 ru = nI L ∧ (∀ i, i < L → B i < 256 ∧ m.1 45 (160 * ru + i) = nI (B i)) ∧ GT L B T
theorem MT1.fr {A S : List Nat} {m m' : Mm} {ru L : Nat} {B : Nat → Nat} {T : Nat → List Nat} (h : MT1 m ru L B T) (hf : FrX A S m m') (h4 : 4 ∉ S) (h1 : 45 ∉ A) (h2 : 46 ∉ A) : MT1 m' ru L B T := by
  unfold MT1
  rw [hf.2 4 h4, hf.at h1 (by decide), hf.at h2 (by decide)]
  exact h
def SA : List Nat := [10, 11, 12, 13, 14, 15, 16, 17, 18, 19, 20, 22, 23, 24]
def GS : List Nat := [10, 11, 12, 13, 14, 15, 16, 17, 18, 19, 20, 22, 23, 24, 26, 27, 28, 29]
def MP (m : Mm) (path : List Nat) : Prop := m.1 44 26 = nI path.length ∧ path.length ≤ 16 ∧ (∀ j, j < path.length → m.1 50 j = nI (path.getD j 0)) ∧ (∀ p ∈ path, p < 16) ∧ m.1 44 27 = nI (tb path)
theorem MP.fr {A S : List Nat} {m m' : Mm} {path : List Nat} (h : MP m path) (hf : FrX A S m m') (h4 : 26 ∉ S) (h1 : 27 ∉ S) (h2 : 50 ∉ A) : MP m' path := by
  unfold MP
  rw [hf.2 26 h4, hf.2 27 h1, hf.at h2 (by decide)]
  exact h
theorem GT_uniq {L : Nat} {B : Nat → Nat} {T T2 : Nat → List Nat} (h : GT L B T) (h2 : GT L B T2) : ∀ p, p < 3 → T p = T2 p := by
  have e := h.1.symm.trans h2.1
  injection e with e
  injection e with e0 e12
  injection e12 with e1 e2
  intro p hp
  rw [e0] at e1
  have e1' := List.append_cancel_left e1
  rw [e0, e1'] at e2
  have e2' := List.append_cancel_left e2
  match p, hp with
  | 0, _ => exact e0
  | 1, _ => exact e1'
  | 2, _ => exact e2'
def lo3 (k : Nat) : Int32 := if k = 0 then -20 else if k = 1 then 0 else -99
def hi3 (k : Nat) : Int32 := if k = 0 then 20 else if k = 1 then 15 else 99
section MGO
variable {d n ru L : Nat} {c B : Nat → Nat} {T : Nat → List Nat} {m : Mm} {Q : Qr} {path : List Nat}
theorem s_asks {k p q i : Nat} (hr : MR m n c) (ht : MT1 m ru L B T) (hk : k < 3) (hp : p < n) (hi : i < n) (h26 : m.1 44 26 = nI (i + 1)) (h : ∀ m', FrX [] SA m m' → Q (some (.int (wth (lo3 k) (hi3 k) (tval (T k) (nmf n (c p) p q i))))) m') : CT (d + 63) n_X7_asks [.ref 44, .int (nI k), .int (nI p), .int (nI q)] m Q := by
  obtain ⟨h9, h16, hc⟩ := hr
  obtain ⟨g1, g2, g3⟩ := hc p hp
  obtain ⟨t1, t2, t3, t4, t5, t6⟩ := ht
  have ec : (nI p).toNatClampNeg = p := nI_clamp (by omega)
  refine opn cd_X7_asks rfl (fun C P hC hP => ?_)
  conv => whnf
  repeat (first | (refine br_f ?_ ?_; (focus (first | with_reducible assumption | (intro zz; apply zz; with_reducible assumption) | (simp (disch := omega) only [m1lt, nIm1, m1nI, not_true_eq_false, not_false_eq_true, jl, nI_ltI, nI_leI, nI_eq, nI_toInt]; omega) | (simp (disch := omega) only [m1lt, nIm1, m1nI, not_true_eq_false, not_false_eq_true, jl, nI_ltI, nI_leI, nI_eq, nI_toInt]; done))); conv => whnf) | (refine br_t ?_ ?_; (focus (first | with_reducible assumption | (intro zz; apply zz; with_reducible assumption) | (simp (disch := omega) only [m1lt, nIm1, m1nI, not_true_eq_false, not_false_eq_true, jl, nI_ltI, nI_leI, nI_eq, nI_toInt]; omega) | (simp (disch := omega) only [m1lt, nIm1, m1nI, not_true_eq_false, not_false_eq_true, jl, nI_ltI, nI_leI, nI_eq, nI_toInt]; done))); conv => whnf) | (with_reducible refine And.intro nz1 ?_; conv => whnf) | (with_reducible refine And.intro nz0 ?_; conv => whnf) | (refine And.intro ?_ ?_; (focus (first | with_reducible assumption | (intro zz; apply zz; with_reducible assumption) | (simp (disch := omega) only [m1lt, nIm1, m1nI, not_true_eq_false, not_false_eq_true, jl, nI_ltI, nI_leI, nI_eq, nI_toInt]; omega) | (simp (disch := omega) only [m1lt, nIm1, m1nI, not_true_eq_false, not_false_eq_true, jl, nI_ltI, nI_leI, nI_eq, nI_toInt]; done))); conv => whnf) | (refine And.intro ?_ ?_; (focus (first | with_reducible assumption | ((with_reducible refine vp_in_nI ?_ ?_) <;> omega) | ((with_reducible refine vp_0 ?_); omega) | ((with_reducible refine vp_s1 ?_ ?_) <;> omega) | ((with_reducible refine vp_a1 ?_ ?_) <;> omega) | ((with_reducible refine vp_m1 ?_ ?_) <;> omega) | ((with_reducible refine vp_m2 ?_ ?_) <;> omega))); conv => whnf))
  refine useC hC ?_
  show CT (d + 62) n_X7_read [.ref 44, .int (m.1 44 4), .int (nI k)] (mu (mu (mu (mu (mu (mu m.1 44 10 (nI p)) 44 11 (nI q)) 44 12 (m.1 44 26 - 1)) 44 13 (m.1 49 (nI p).toNatClampNeg)) 44 14 (m.1 44 9 - m.1 44 26)) 44 15 (m.1 44 9), m.2) _
  sorry
end MGO
