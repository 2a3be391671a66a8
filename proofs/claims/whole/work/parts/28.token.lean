/-! THE CLASS'S TOKENS -/
/-- the word from j to k is number w of the list -/
def wmB (B : Nat → Nat) (w j k : Nat) : Bool := decide (k - j ≤ 7) && (List.range 7).all (fun i => (if i < k - j then B (j + i) else 32) == PW.getD (7 * w + i) 0)
def wixF (B : Nat → Nat) (j k : Nat) : Nat → Nat → Int32
  | 0, _ => -2
  | f + 1, w => if wmB B w j k = true then nI w else wixF B j k f (w + 1)
def wix (B : Nat → Nat) (j k : Nat) : Int32 := wixF B j k 12 0
/-- the number in t digits from j on -/
def dn (B : Nat → Nat) (j : Nat) : Nat → Nat
  | 0 => 0
  | t + 1 => 10 * dn B j t + (B (j + t) - 48)
def lexS (L : Nat) (B : Nat → Nat) (i : Nat) : Nat := run (fun j => isBl (B j)) L i
def lexE (L : Nat) (B : Nat → Nat) (i : Nat) : Nat := if lexS L B i < L then (if isLe (B (lexS L B i)) = true then run (fun j => isLe (B j)) L (lexS L B i) else if isDi (B (lexS L B i)) = true then run (fun j => isDi (B j)) L (lexS L B i) else lexS L B i + 1) else lexS L B i
def lexK (L : Nat) (B : Nat → Nat) (i : Nat) : Int32 := if lexS L B i < L then (if isLe (B (lexS L B i)) = true then wix B (lexS L B i) (lexE L B i) else if isDi (B (lexS L B i)) = true then (if lexE L B i - lexS L B i ≤ 4 then nI 12 else -2) else if B (lexS L B i) ∈ sgns then nI (B (lexS L B i)) else -2) else -1
def lexV (L : Nat) (B : Nat → Nat) (i : Nat) : Nat := dn B (lexS L B i) (lexE L B i - lexS L B i)
section TOK
variable {d L : Nat} {B : Nat → Nat} {m : Mm} {Q : Qr}
theorem dn_lt (B : Nat → Nat) (j : Nat) : ∀ t, (∀ i, i < t → isDi (B (j + i)) = true) → dn B j t < 10 ^ t
  | 0, _ => by simp [dn]
  | t + 1, h => by
    have h1 := dn_lt B j t (fun i hi => h i (by omega))
    have h2 := h t (by omega)
    simp only [isDi, decide_eq_true_eq] at h2
    simp only [dn, Nat.pow_succ]
    omega
theorem bya_in {i : Nat} (h : i < L) : bya L B i = nI (B i) := by unfold bya; rw [if_pos h]
theorem bya_out {i : Nat} (h : ¬ i < L) : bya L B i = -1 := by unfold bya; rw [if_neg h]
theorem wm_loop {w j k : Nat} (hb : RB m L B) (hw : w < 12) (hjk : j ≤ k) (hk : k ≤ L) (h5 : m.1 13 5 = nI j) (h : Q (some (.int (if wmB B w j k = true then 1 else 0))) m) :
    ∀ f i (o4 o5 o6 : Option Value), i + f = 7 → (∀ i', i' < i → (if i' < k - j then B (j + i') else 32) = PW.getD (7 * w + i') 0) → WP SH (CT (d + 4)) Q c_X1_isWord 12 [some (.ref 13), some (.int (nI w)), some (.int (nI (k - j))), some (.int (nI i)), o4, o5, o6] [] m := by
  have hL := hb.2.1
  intro f
  induction f with
  | zero =>
    intro i o4 o5 o6 hi hn
    have hi : i = 7 := by omega
    subst hi
    have hall : (List.range 7).all (fun i => (if i < k - j then B (j + i) else 32) == PW.getD (7 * w + i) 0) = true := by
      rw [List.all_eq_true]
      intro x hx
      rw [hn x (List.mem_range.mp hx)]
      exact beq_self_eq_true _
    unfold wmB at h
    rw [hall, Bool.and_true] at h
    simp only [decide_eq_true_eq] at h
    refine wpn mo_X1_isWord (fun C P hC hP => ?_)
    by_cases h7 : k - j ≤ 7
    · rw [if_pos h7] at h
      conv => whnf
      repeat (first | (refine br_f ?_ ?_; (focus (first | with_reducible assumption | (intro zz; apply zz; with_reducible assumption) | (simp (disch := omega) only [m1lt, nIm1, m1nI, not_true_eq_false, not_false_eq_true, jl, nI_ltI, nI_leI, nI_eq, nI_toInt]; omega) | (simp (disch := omega) only [m1lt, nIm1, m1nI, not_true_eq_false, not_false_eq_true, jl, nI_ltI, nI_leI, nI_eq, nI_toInt]; done))); conv => whnf) | (refine br_t ?_ ?_; (focus (first | with_reducible assumption | (intro zz; apply zz; with_reducible assumption) | (simp (disch := omega) only [m1lt, nIm1, m1nI, not_true_eq_false, not_false_eq_true, jl, nI_ltI, nI_leI, nI_eq, nI_toInt]; omega) | (simp (disch := omega) only [m1lt, nIm1, m1nI, not_true_eq_false, not_false_eq_true, jl, nI_ltI, nI_leI, nI_eq, nI_toInt]; done))); conv => whnf) | (with_reducible refine And.intro nz1 ?_; conv => whnf) | (with_reducible refine And.intro nz0 ?_; conv => whnf) | (refine And.intro ?_ ?_; (focus (first | with_reducible assumption | (intro zz; apply zz; with_reducible assumption) | (simp (disch := omega) only [m1lt, nIm1, m1nI, not_true_eq_false, not_false_eq_true, jl, nI_ltI, nI_leI, nI_eq, nI_toInt]; omega) | (simp (disch := omega) only [m1lt, nIm1, m1nI, not_true_eq_false, not_false_eq_true, jl, nI_ltI, nI_leI, nI_eq, nI_toInt]; done))); conv => whnf) | (refine And.intro ?_ ?_; (focus (first | with_reducible assumption | ((with_reducible refine vp_in_nI ?_ ?_) <;> omega) | ((with_reducible refine vp_0 ?_); omega) | ((with_reducible refine vp_s1 ?_ ?_) <;> omega) | ((with_reducible refine vp_a1 ?_ ?_) <;> omega) | ((with_reducible refine vp_m1 ?_ ?_) <;> omega) | ((with_reducible refine vp_m2 ?_ ?_) <;> omega))); conv => whnf))
      exact h
    · rw [if_neg h7] at h
      conv => whnf
      repeat (first | (refine br_f ?_ ?_; (focus (first | with_reducible assumption | (intro zz; apply zz; with_reducible assumption) | (simp (disch := omega) only [m1lt, nIm1, m1nI, not_true_eq_false, not_false_eq_true, jl, nI_ltI, nI_leI, nI_eq, nI_toInt]; omega) | (simp (disch := omega) only [m1lt, nIm1, m1nI, not_true_eq_false, not_false_eq_true, jl, nI_ltI, nI_leI, nI_eq, nI_toInt]; done))); conv => whnf) | (refine br_t ?_ ?_; (focus (first | with_reducible assumption | (intro zz; apply zz; with_reducible assumption) | (simp (disch := omega) only [m1lt, nIm1, m1nI, not_true_eq_false, not_false_eq_true, jl, nI_ltI, nI_leI, nI_eq, nI_toInt]; omega) | (simp (disch := omega) only [m1lt, nIm1, m1nI, not_true_eq_false, not_false_eq_true, jl, nI_ltI, nI_leI, nI_eq, nI_toInt]; done))); conv => whnf) | (with_reducible refine And.intro nz1 ?_; conv => whnf) | (with_reducible refine And.intro nz0 ?_; conv => whnf) | (refine And.intro ?_ ?_; (focus (first | with_reducible assumption | (intro zz; apply zz; with_reducible assumption) | (simp (disch := omega) only [m1lt, nIm1, m1nI, not_true_eq_false, not_false_eq_true, jl, nI_ltI, nI_leI, nI_eq, nI_toInt]; omega) | (simp (disch := omega) only [m1lt, nIm1, m1nI, not_true_eq_false, not_false_eq_true, jl, nI_ltI, nI_leI, nI_eq, nI_toInt]; done))); conv => whnf) | (refine And.intro ?_ ?_; (focus (first | with_reducible assumption | ((with_reducible refine vp_in_nI ?_ ?_) <;> omega) | ((with_reducible refine vp_0 ?_); omega) | ((with_reducible refine vp_s1 ?_ ?_) <;> omega) | ((with_reducible refine vp_a1 ?_ ?_) <;> omega) | ((with_reducible refine vp_m1 ?_ ?_) <;> omega) | ((with_reducible refine vp_m2 ?_ ?_) <;> omega))); conv => whnf))
      exact h
  | succ f ih =>
    intro i o4 o5 o6 hi hn
    have e1 : (7 : Int32) * nI w + nI i = nI (7 * w + i) := by rw [jl, pk_mul, nI_add]
    have hne : ∀ v : Nat, (if i < k - j then B (j + i) else 32) = v → v < 256 → (nI (PW.getD (7 * w + i) 0) = nI v → WP SH (CT (d + 4)) Q c_X1_isWord 12 [some (.ref 13), some (.int (nI w)), some (.int (nI (k - j))), some (.int (nI (i + 1))), some (.int (nI (7 * w + i))), some (.int (nI (PW.getD (7 * w + i) 0))), some (.int (nI v))] [] m) ∧ (¬ nI (PW.getD (7 * w + i) 0) = nI v → Q (some (.int 0)) m) := by
      intro v hv hv2
      have hpw : PW.getD (7 * w + i) 0 < 2 ^ 31 := by
        have : ∀ q, q < 84 → PW.getD q 0 < 2 ^ 31 := by decide +kernel
        exact this _ (by omega)
      refine ⟨fun z => ?_, fun z => ?_⟩
      · rw [nI_eq hpw (by omega)] at z
        refine ih (i + 1) _ _ _ (by omega) (fun i' hi' => ?_)
        by_cases hii : i' = i
        · subst hii; rw [hv, z]
        · exact hn i' (by omega)
      · rw [nI_eq hpw (by omega)] at z
        have hf : wmB B w j k = false := by
          cases hq : wmB B w j k with
          | false => rfl
          | true =>
            simp only [wmB, Bool.and_eq_true, List.all_eq_true, List.mem_range] at hq
            have := hq.2 i (by omega)
            rw [beq_iff_eq, hv] at this
            exact absurd this.symm z
        rw [hf] at h
        exact h
    refine wpn mo_X1_isWord (fun C P hC hP => ?_)
    conv => whnf
    repeat (first | (refine br_f ?_ ?_; (focus (first | with_reducible assumption | (intro zz; apply zz; with_reducible assumption) | (simp (disch := omega) only [m1lt, nIm1, m1nI, not_true_eq_false, not_false_eq_true, jl, nI_ltI, nI_leI, nI_eq, nI_toInt]; omega) | (simp (disch := omega) only [m1lt, nIm1, m1nI, not_true_eq_false, not_false_eq_true, jl, nI_ltI, nI_leI, nI_eq, nI_toInt]; done))); conv => whnf) | (refine br_t ?_ ?_; (focus (first | with_reducible assumption | (intro zz; apply zz; with_reducible assumption) | (simp (disch := omega) only [m1lt, nIm1, m1nI, not_true_eq_false, not_false_eq_true, jl, nI_ltI, nI_leI, nI_eq, nI_toInt]; omega) | (simp (disch := omega) only [m1lt, nIm1, m1nI, not_true_eq_false, not_false_eq_true, jl, nI_ltI, nI_leI, nI_eq, nI_toInt]; done))); conv => whnf) | (with_reducible refine And.intro nz1 ?_; conv => whnf) | (with_reducible refine And.intro nz0 ?_; conv => whnf) | (refine And.intro ?_ ?_; (focus (first | with_reducible assumption | (intro zz; apply zz; with_reducible assumption) | (simp (disch := omega) only [m1lt, nIm1, m1nI, not_true_eq_false, not_false_eq_true, jl, nI_ltI, nI_leI, nI_eq, nI_toInt]; omega) | (simp (disch := omega) only [m1lt, nIm1, m1nI, not_true_eq_false, not_false_eq_true, jl, nI_ltI, nI_leI, nI_eq, nI_toInt]; done))); conv => whnf) | (refine And.intro ?_ ?_; (focus (first | with_reducible assumption | ((with_reducible refine vp_in_nI ?_ ?_) <;> omega) | ((with_reducible refine vp_0 ?_); omega) | ((with_reducible refine vp_s1 ?_ ?_) <;> omega) | ((with_reducible refine vp_a1 ?_ ?_) <;> omega) | ((with_reducible refine vp_m1 ?_ ?_) <;> omega) | ((with_reducible refine vp_m2 ?_ ?_) <;> omega))); conv => whnf))
    simp only [e1]
    conv => whnf
    repeat (first | (refine br_f ?_ ?_; (focus (first | with_reducible assumption | (intro zz; apply zz; with_reducible assumption) | (simp (disch := omega) only [m1lt, nIm1, m1nI, not_true_eq_false, not_false_eq_true, jl, nI_ltI, nI_leI, nI_eq, nI_toInt]; omega) | (simp (disch := omega) only [m1lt, nIm1, m1nI, not_true_eq_false, not_false_eq_true, jl, nI_ltI, nI_leI, nI_eq, nI_toInt]; done))); conv => whnf) | (refine br_t ?_ ?_; (focus (first | with_reducible assumption | (intro zz; apply zz; with_reducible assumption) | (simp (disch := omega) only [m1lt, nIm1, m1nI, not_true_eq_false, not_false_eq_true, jl, nI_ltI, nI_leI, nI_eq, nI_toInt]; omega) | (simp (disch := omega) only [m1lt, nIm1, m1nI, not_true_eq_false, not_false_eq_true, jl, nI_ltI, nI_leI, nI_eq, nI_toInt]; done))); conv => whnf) | (with_reducible refine And.intro nz1 ?_; conv => whnf) | (with_reducible refine And.intro nz0 ?_; conv => whnf) | (refine And.intro ?_ ?_; (focus (first | with_reducible assumption | (intro zz; apply zz; with_reducible assumption) | (simp (disch := omega) only [m1lt, nIm1, m1nI, not_true_eq_false, not_false_eq_true, jl, nI_ltI, nI_leI, nI_eq, nI_toInt]; omega) | (simp (disch := omega) only [m1lt, nIm1, m1nI, not_true_eq_false, not_false_eq_true, jl, nI_ltI, nI_leI, nI_eq, nI_toInt]; done))); conv => whnf) | (refine And.intro ?_ ?_; (focus (first | with_reducible assumption | ((with_reducible refine vp_in_nI ?_ ?_) <;> omega) | ((with_reducible refine vp_0 ?_); omega) | ((with_reducible refine vp_s1 ?_ ?_) <;> omega) | ((with_reducible refine vp_a1 ?_ ?_) <;> omega) | ((with_reducible refine vp_m1 ?_ ?_) <;> omega) | ((with_reducible refine vp_m2 ?_ ?_) <;> omega))); conv => whnf))
    refine useC hC (s_length (Or.inl ⟨rfl, rfl⟩) ?_)
    conv => whnf
    repeat (first | (refine br_f ?_ ?_; (focus (first | with_reducible assumption | (intro zz; apply zz; with_reducible assumption) | (simp (disch := omega) only [m1lt, nIm1, m1nI, not_true_eq_false, not_false_eq_true, jl, nI_ltI, nI_leI, nI_eq, nI_toInt]; omega) | (simp (disch := omega) only [m1lt, nIm1, m1nI, not_true_eq_false, not_false_eq_true, jl, nI_ltI, nI_leI, nI_eq, nI_toInt]; done))); conv => whnf) | (refine br_t ?_ ?_; (focus (first | with_reducible assumption | (intro zz; apply zz; with_reducible assumption) | (simp (disch := omega) only [m1lt, nIm1, m1nI, not_true_eq_false, not_false_eq_true, jl, nI_ltI, nI_leI, nI_eq, nI_toInt]; omega) | (simp (disch := omega) only [m1lt, nIm1, m1nI, not_true_eq_false, not_false_eq_true, jl, nI_ltI, nI_leI, nI_eq, nI_toInt]; done))); conv => whnf) | (with_reducible refine And.intro nz1 ?_; conv => whnf) | (with_reducible refine And.intro nz0 ?_; conv => whnf) | (refine And.intro ?_ ?_; (focus (first | with_reducible assumption | (intro zz; apply zz; with_reducible assumption) | (simp (disch := omega) only [m1lt, nIm1, m1nI, not_true_eq_false, not_false_eq_true, jl, nI_ltI, nI_leI, nI_eq, nI_toInt]; omega) | (simp (disch := omega) only [m1lt, nIm1, m1nI, not_true_eq_false, not_false_eq_true, jl, nI_ltI, nI_leI, nI_eq, nI_toInt]; done))); conv => whnf) | (refine And.intro ?_ ?_; (focus (first | with_reducible assumption | ((with_reducible refine vp_in_nI ?_ ?_) <;> omega) | ((with_reducible refine vp_0 ?_); omega) | ((with_reducible refine vp_s1 ?_ ?_) <;> omega) | ((with_reducible refine vp_a1 ?_ ?_) <;> omega) | ((with_reducible refine vp_m1 ?_ ?_) <;> omega) | ((with_reducible refine vp_m2 ?_ ?_) <;> omega))); conv => whnf))
    refine useC hC (s_charAt (by omega) ?_)
    by_cases hik : i < k - j
    · have hB := hb.2.2 (j + i) (by omega)
      have hv := hne (B (j + i)) (by rw [if_pos hik]) hB.1
      conv => whnf
      repeat (first | (refine br_f ?_ ?_; (focus (first | with_reducible assumption | (intro zz; apply zz; with_reducible assumption) | (simp (disch := omega) only [m1lt, nIm1, m1nI, not_true_eq_false, not_false_eq_true, jl, nI_ltI, nI_leI, nI_eq, nI_toInt]; omega) | (simp (disch := omega) only [m1lt, nIm1, m1nI, not_true_eq_false, not_false_eq_true, jl, nI_ltI, nI_leI, nI_eq, nI_toInt]; done))); conv => whnf) | (refine br_t ?_ ?_; (focus (first | with_reducible assumption | (intro zz; apply zz; with_reducible assumption) | (simp (disch := omega) only [m1lt, nIm1, m1nI, not_true_eq_false, not_false_eq_true, jl, nI_ltI, nI_leI, nI_eq, nI_toInt]; omega) | (simp (disch := omega) only [m1lt, nIm1, m1nI, not_true_eq_false, not_false_eq_true, jl, nI_ltI, nI_leI, nI_eq, nI_toInt]; done))); conv => whnf) | (with_reducible refine And.intro nz1 ?_; conv => whnf) | (with_reducible refine And.intro nz0 ?_; conv => whnf) | (refine And.intro ?_ ?_; (focus (first | with_reducible assumption | (intro zz; apply zz; with_reducible assumption) | (simp (disch := omega) only [m1lt, nIm1, m1nI, not_true_eq_false, not_false_eq_true, jl, nI_ltI, nI_leI, nI_eq, nI_toInt]; omega) | (simp (disch := omega) only [m1lt, nIm1, m1nI, not_true_eq_false, not_false_eq_true, jl, nI_ltI, nI_leI, nI_eq, nI_toInt]; done))); conv => whnf) | (refine And.intro ?_ ?_; (focus (first | with_reducible assumption | ((with_reducible refine vp_in_nI ?_ ?_) <;> omega) | ((with_reducible refine vp_0 ?_); omega) | ((with_reducible refine vp_s1 ?_ ?_) <;> omega) | ((with_reducible refine vp_a1 ?_ ?_) <;> omega) | ((with_reducible refine vp_m1 ?_ ?_) <;> omega) | ((with_reducible refine vp_m2 ?_ ?_) <;> omega))); conv => whnf))
      refine useC hC ?_
      show CT (d + 4) n_X1_byteAt [.ref 13, .int (m.1 13 5 + nI i)] m _
      rw [h5, nI_add]
      refine s_byteAt hb (by omega) ?_
      rw [bya_in (by omega)]
      conv => whnf
      refine br_c (fun z => ?_) (fun z => ?_)
      · conv => whnf
        refine hP _ _ _ _ ?_
        have h2 := hv.1 z
        rw [← nI_1 i] at h2
        exact h2
      · conv => whnf
        repeat (first | (refine br_f ?_ ?_; (focus (first | with_reducible assumption | (intro zz; apply zz; with_reducible assumption) | (simp (disch := omega) only [m1lt, nIm1, m1nI, not_true_eq_false, not_false_eq_true, jl, nI_ltI, nI_leI, nI_eq, nI_toInt]; omega) | (simp (disch := omega) only [m1lt, nIm1, m1nI, not_true_eq_false, not_false_eq_true, jl, nI_ltI, nI_leI, nI_eq, nI_toInt]; done))); conv => whnf) | (refine br_t ?_ ?_; (focus (first | with_reducible assumption | (intro zz; apply zz; with_reducible assumption) | (simp (disch := omega) only [m1lt, nIm1, m1nI, not_true_eq_false, not_false_eq_true, jl, nI_ltI, nI_leI, nI_eq, nI_toInt]; omega) | (simp (disch := omega) only [m1lt, nIm1, m1nI, not_true_eq_false, not_false_eq_true, jl, nI_ltI, nI_leI, nI_eq, nI_toInt]; done))); conv => whnf) | (with_reducible refine And.intro nz1 ?_; conv => whnf) | (with_reducible refine And.intro nz0 ?_; conv => whnf) | (refine And.intro ?_ ?_; (focus (first | with_reducible assumption | (intro zz; apply zz; with_reducible assumption) | (simp (disch := omega) only [m1lt, nIm1, m1nI, not_true_eq_false, not_false_eq_true, jl, nI_ltI, nI_leI, nI_eq, nI_toInt]; omega) | (simp (disch := omega) only [m1lt, nIm1, m1nI, not_true_eq_false, not_false_eq_true, jl, nI_ltI, nI_leI, nI_eq, nI_toInt]; done))); conv => whnf) | (refine And.intro ?_ ?_; (focus (first | with_reducible assumption | ((with_reducible refine vp_in_nI ?_ ?_) <;> omega) | ((with_reducible refine vp_0 ?_); omega) | ((with_reducible refine vp_s1 ?_ ?_) <;> omega) | ((with_reducible refine vp_a1 ?_ ?_) <;> omega) | ((with_reducible refine vp_m1 ?_ ?_) <;> omega) | ((with_reducible refine vp_m2 ?_ ?_) <;> omega))); conv => whnf))
        exact hv.2 z
    · have hv := hne 32 (by rw [if_neg hik]) (by decide)
      conv => whnf
      repeat (first | (refine br_f ?_ ?_; (focus (first | with_reducible assumption | (intro zz; apply zz; with_reducible assumption) | (simp (disch := omega) only [m1lt, nIm1, m1nI, not_true_eq_false, not_false_eq_true, jl, nI_ltI, nI_leI, nI_eq, nI_toInt]; omega) | (simp (disch := omega) only [m1lt, nIm1, m1nI, not_true_eq_false, not_false_eq_true, jl, nI_ltI, nI_leI, nI_eq, nI_toInt]; done))); conv => whnf) | (refine br_t ?_ ?_; (focus (first | with_reducible assumption | (intro zz; apply zz; with_reducible assumption) | (simp (disch := omega) only [m1lt, nIm1, m1nI, not_true_eq_false, not_false_eq_true, jl, nI_ltI, nI_leI, nI_eq, nI_toInt]; omega) | (simp (disch := omega) only [m1lt, nIm1, m1nI, not_true_eq_false, not_false_eq_true, jl, nI_ltI, nI_leI, nI_eq, nI_toInt]; done))); conv => whnf) | (with_reducible refine And.intro nz1 ?_; conv => whnf) | (with_reducible refine And.intro nz0 ?_; conv => whnf) | (refine And.intro ?_ ?_; (focus (first | with_reducible assumption | (intro zz; apply zz; with_reducible assumption) | (simp (disch := omega) only [m1lt, nIm1, m1nI, not_true_eq_false, not_false_eq_true, jl, nI_ltI, nI_leI, nI_eq, nI_toInt]; omega) | (simp (disch := omega) only [m1lt, nIm1, m1nI, not_true_eq_false, not_false_eq_true, jl, nI_ltI, nI_leI, nI_eq, nI_toInt]; done))); conv => whnf) | (refine And.intro ?_ ?_; (focus (first | with_reducible assumption | ((with_reducible refine vp_in_nI ?_ ?_) <;> omega) | ((with_reducible refine vp_0 ?_); omega) | ((with_reducible refine vp_s1 ?_ ?_) <;> omega) | ((with_reducible refine vp_a1 ?_ ?_) <;> omega) | ((with_reducible refine vp_m1 ?_ ?_) <;> omega) | ((with_reducible refine vp_m2 ?_ ?_) <;> omega))); conv => whnf))
      refine br_c (fun z => ?_) (fun z => ?_)
      · conv => whnf
        refine hP _ _ _ _ ?_
        have h2 := hv.1 z
        rw [← nI_1 i] at h2
        exact h2
      · conv => whnf
        repeat (first | (refine br_f ?_ ?_; (focus (first | with_reducible assumption | (intro zz; apply zz; with_reducible assumption) | (simp (disch := omega) only [m1lt, nIm1, m1nI, not_true_eq_false, not_false_eq_true, jl, nI_ltI, nI_leI, nI_eq, nI_toInt]; omega) | (simp (disch := omega) only [m1lt, nIm1, m1nI, not_true_eq_false, not_false_eq_true, jl, nI_ltI, nI_leI, nI_eq, nI_toInt]; done))); conv => whnf) | (refine br_t ?_ ?_; (focus (first | with_reducible assumption | (intro zz; apply zz; with_reducible assumption) | (simp (disch := omega) only [m1lt, nIm1, m1nI, not_true_eq_false, not_false_eq_true, jl, nI_ltI, nI_leI, nI_eq, nI_toInt]; omega) | (simp (disch := omega) only [m1lt, nIm1, m1nI, not_true_eq_false, not_false_eq_true, jl, nI_ltI, nI_leI, nI_eq, nI_toInt]; done))); conv => whnf) | (with_reducible refine And.intro nz1 ?_; conv => whnf) | (with_reducible refine And.intro nz0 ?_; conv => whnf) | (refine And.intro ?_ ?_; (focus (first | with_reducible assumption | (intro zz; apply zz; with_reducible assumption) | (simp (disch := omega) only [m1lt, nIm1, m1nI, not_true_eq_false, not_false_eq_true, jl, nI_ltI, nI_leI, nI_eq, nI_toInt]; omega) | (simp (disch := omega) only [m1lt, nIm1, m1nI, not_true_eq_false, not_false_eq_true, jl, nI_ltI, nI_leI, nI_eq, nI_toInt]; done))); conv => whnf) | (refine And.intro ?_ ?_; (focus (first | with_reducible assumption | ((with_reducible refine vp_in_nI ?_ ?_) <;> omega) | ((with_reducible refine vp_0 ?_); omega) | ((with_reducible refine vp_s1 ?_ ?_) <;> omega) | ((with_reducible refine vp_a1 ?_ ?_) <;> omega) | ((with_reducible refine vp_m1 ?_ ?_) <;> omega) | ((with_reducible refine vp_m2 ?_ ?_) <;> omega))); conv => whnf))
        exact hv.2 z
theorem s_isWord {w j k : Nat} (hb : RB m L B) (hw : w < 12) (hjk : j ≤ k) (hk : k ≤ L) (h3 : m.1 13 3 = nI k) (h5 : m.1 13 5 = nI j) (h : Q (some (.int (if wmB B w j k = true then 1 else 0))) m) : CT (d + 5) n_X1_isWord [.ref 13, .int (nI w)] m Q := by
  refine opn cd_X1_isWord rfl (fun C P hC hP => ?_)
  unfold c_X1_isWord; generalize hT : c_X1_isWord_12 = T
  conv => whnf
  repeat (first | (refine br_f ?_ ?_; (focus (first | with_reducible assumption | (intro zz; apply zz; with_reducible assumption) | (simp (disch := omega) only [m1lt, nIm1, m1nI, not_true_eq_false, not_false_eq_true, jl, nI_ltI, nI_leI, nI_eq, nI_toInt]; omega) | (simp (disch := omega) only [m1lt, nIm1, m1nI, not_true_eq_false, not_false_eq_true, jl, nI_ltI, nI_leI, nI_eq, nI_toInt]; done))); conv => whnf) | (refine br_t ?_ ?_; (focus (first | with_reducible assumption | (intro zz; apply zz; with_reducible assumption) | (simp (disch := omega) only [m1lt, nIm1, m1nI, not_true_eq_false, not_false_eq_true, jl, nI_ltI, nI_leI, nI_eq, nI_toInt]; omega) | (simp (disch := omega) only [m1lt, nIm1, m1nI, not_true_eq_false, not_false_eq_true, jl, nI_ltI, nI_leI, nI_eq, nI_toInt]; done))); conv => whnf) | (with_reducible refine And.intro nz1 ?_; conv => whnf) | (with_reducible refine And.intro nz0 ?_; conv => whnf) | (refine And.intro ?_ ?_; (focus (first | with_reducible assumption | (intro zz; apply zz; with_reducible assumption) | (simp (disch := omega) only [m1lt, nIm1, m1nI, not_true_eq_false, not_false_eq_true, jl, nI_ltI, nI_leI, nI_eq, nI_toInt]; omega) | (simp (disch := omega) only [m1lt, nIm1, m1nI, not_true_eq_false, not_false_eq_true, jl, nI_ltI, nI_leI, nI_eq, nI_toInt]; done))); conv => whnf) | (refine And.intro ?_ ?_; (focus (first | with_reducible assumption | ((with_reducible refine vp_in_nI ?_ ?_) <;> omega) | ((with_reducible refine vp_0 ?_); omega) | ((with_reducible refine vp_s1 ?_ ?_) <;> omega) | ((with_reducible refine vp_a1 ?_ ?_) <;> omega) | ((with_reducible refine vp_m1 ?_ ?_) <;> omega) | ((with_reducible refine vp_m2 ?_ ?_) <;> omega))); conv => whnf))
  simp only [h3, h5, pk_sub hjk]
  subst hT; refine hd_X1_isWord_12 hC hP ?_
  exact wm_loop hb hw hjk hk h5 h 7 0 none none none (by omega) (fun i hi => absurd hi (Nat.not_lt_zero i))
theorem rw_loop {j k : Nat} (hjk : j ≤ k) (hk : k ≤ L) (hQ : ∀ m', FrR [3, 4, 5] m m' → m'.1 13 4 = wix B j k → m'.1 13 3 = nI k → m'.1 13 5 = nI j → Q none m') : ∀ f w (m1 : Mm), w + f = 12 → FrR [3, 4, 5] m m1 → RB m1 L B → m1.1 13 3 = nI k → m1.1 13 5 = nI j → m1.1 13 4 = -2 → wixF B j k f w = wix B j k → WP SH (CT (d + 5)) Q c_X1_readWord 46 [some (.ref 13), some (.int (nI w))] [] m1 := by
  intro f
  induction f with
  | zero =>
    intro w m1 hw hf hb h3 h5 h4 hx
    have hw : w = 12 := by omega
    subst hw
    refine wpn mo_X1_readWord (fun C P hC hP => ?_)
    conv => whnf
    repeat (first | (refine br_f ?_ ?_; (focus (first | with_reducible assumption | (intro zz; apply zz; with_reducible assumption) | (simp (disch := omega) only [m1lt, nIm1, m1nI, not_true_eq_false, not_false_eq_true, jl, nI_ltI, nI_leI, nI_eq, nI_toInt]; omega) | (simp (disch := omega) only [m1lt, nIm1, m1nI, not_true_eq_false, not_false_eq_true, jl, nI_ltI, nI_leI, nI_eq, nI_toInt]; done))); conv => whnf) | (refine br_t ?_ ?_; (focus (first | with_reducible assumption | (intro zz; apply zz; with_reducible assumption) | (simp (disch := omega) only [m1lt, nIm1, m1nI, not_true_eq_false, not_false_eq_true, jl, nI_ltI, nI_leI, nI_eq, nI_toInt]; omega) | (simp (disch := omega) only [m1lt, nIm1, m1nI, not_true_eq_false, not_false_eq_true, jl, nI_ltI, nI_leI, nI_eq, nI_toInt]; done))); conv => whnf) | (with_reducible refine And.intro nz1 ?_; conv => whnf) | (with_reducible refine And.intro nz0 ?_; conv => whnf) | (refine And.intro ?_ ?_; (focus (first | with_reducible assumption | (intro zz; apply zz; with_reducible assumption) | (simp (disch := omega) only [m1lt, nIm1, m1nI, not_true_eq_false, not_false_eq_true, jl, nI_ltI, nI_leI, nI_eq, nI_toInt]; omega) | (simp (disch := omega) only [m1lt, nIm1, m1nI, not_true_eq_false, not_false_eq_true, jl, nI_ltI, nI_leI, nI_eq, nI_toInt]; done))); conv => whnf) | (refine And.intro ?_ ?_; (focus (first | with_reducible assumption | ((with_reducible refine vp_in_nI ?_ ?_) <;> omega) | ((with_reducible refine vp_0 ?_); omega) | ((with_reducible refine vp_s1 ?_ ?_) <;> omega) | ((with_reducible refine vp_a1 ?_ ?_) <;> omega) | ((with_reducible refine vp_m1 ?_ ?_) <;> omega) | ((with_reducible refine vp_m2 ?_ ?_) <;> omega))); conv => whnf))
    exact hQ m1 hf (by rw [h4, ← hx]; rfl) h3 h5
  | succ f ih =>
    intro w m1 hw hf hb h3 h5 h4 hx
    have e : (m1.1 13 4 = (-2 : Int32)) = True := eq_true h4
    refine wpn mo_X1_readWord (fun C P hC hP => ?_)
    conv => whnf
    refine br_f (by simp (disch := omega) only [jl, nI_leI]; omega) ?_
    conv => whnf
    refine br_f (fun z => z h4) ?_
    conv => whnf
    refine useC hC (s_isWord hb (by omega) hjk hk h3 h5 ?_)
    by_cases hm : wmB B w j k = true
    · rw [if_pos hm]
      conv => whnf
      repeat (first | (refine br_f ?_ ?_; (focus (first | with_reducible assumption | (intro zz; apply zz; with_reducible assumption) | (simp (disch := omega) only [m1lt, nIm1, m1nI, not_true_eq_false, not_false_eq_true, jl, nI_ltI, nI_leI, nI_eq, nI_toInt]; omega) | (simp (disch := omega) only [m1lt, nIm1, m1nI, not_true_eq_false, not_false_eq_true, jl, nI_ltI, nI_leI, nI_eq, nI_toInt]; done))); conv => whnf) | (refine br_t ?_ ?_; (focus (first | with_reducible assumption | (intro zz; apply zz; with_reducible assumption) | (simp (disch := omega) only [m1lt, nIm1, m1nI, not_true_eq_false, not_false_eq_true, jl, nI_ltI, nI_leI, nI_eq, nI_toInt]; omega) | (simp (disch := omega) only [m1lt, nIm1, m1nI, not_true_eq_false, not_false_eq_true, jl, nI_ltI, nI_leI, nI_eq, nI_toInt]; done))); conv => whnf) | (with_reducible refine And.intro nz1 ?_; conv => whnf) | (with_reducible refine And.intro nz0 ?_; conv => whnf) | (refine And.intro ?_ ?_; (focus (first | with_reducible assumption | (intro zz; apply zz; with_reducible assumption) | (simp (disch := omega) only [m1lt, nIm1, m1nI, not_true_eq_false, not_false_eq_true, jl, nI_ltI, nI_leI, nI_eq, nI_toInt]; omega) | (simp (disch := omega) only [m1lt, nIm1, m1nI, not_true_eq_false, not_false_eq_true, jl, nI_ltI, nI_leI, nI_eq, nI_toInt]; done))); conv => whnf) | (refine And.intro ?_ ?_; (focus (first | with_reducible assumption | ((with_reducible refine vp_in_nI ?_ ?_) <;> omega) | ((with_reducible refine vp_0 ?_); omega) | ((with_reducible refine vp_s1 ?_ ?_) <;> omega) | ((with_reducible refine vp_a1 ?_ ?_) <;> omega) | ((with_reducible refine vp_m1 ?_ ?_) <;> omega) | ((with_reducible refine vp_m2 ?_ ?_) <;> omega))); conv => whnf))
      refine hP _ _ _ _ ?_
      have hxw : wix B j k = nI w := by rw [← hx]; simp [wixF, hm]
      refine wpn mo_X1_readWord (fun C P hC hP => ?_)
      conv => whnf
      refine br_c (fun _ => ?_) (fun _ => ?_)
      · conv => whnf
        refine hQ _ (hf.tr (FrR.one (by simp))) ?_ ?_ ?_
        · show mu m1.1 13 4 (nI w) 13 4 = _
          rw [mu_at, if_pos rfl, hxw]
        · show mu m1.1 13 4 (nI w) 13 3 = _
          rw [mu_at, if_neg (by decide), h3]
        · show mu m1.1 13 4 (nI w) 13 5 = _
          rw [mu_at, if_neg (by decide), h5]
      · conv => whnf
        refine br_t ?_ ?_
        · show ¬ mu m1.1 13 4 (nI w) 13 4 = -2
          rw [mu_at, if_pos rfl]
          intro z
          have h1 := congrArg Int32.toInt z
          rw [nI_toInt (by omega), show (-2 : Int32).toInt = -2 from rfl] at h1
          omega
        · conv => whnf
          refine hQ _ (hf.tr (FrR.one (by simp))) ?_ ?_ ?_
          · show mu m1.1 13 4 (nI w) 13 4 = _
            rw [mu_at, if_pos rfl, hxw]
          · show mu m1.1 13 4 (nI w) 13 3 = _
            rw [mu_at, if_neg (by decide), h3]
          · show mu m1.1 13 4 (nI w) 13 5 = _
            rw [mu_at, if_neg (by decide), h5]
    · rw [if_neg hm]
      conv => whnf
      repeat (first | (refine br_f ?_ ?_; (focus (first | with_reducible assumption | (intro zz; apply zz; with_reducible assumption) | (simp (disch := omega) only [m1lt, nIm1, m1nI, not_true_eq_false, not_false_eq_true, jl, nI_ltI, nI_leI, nI_eq, nI_toInt]; omega) | (simp (disch := omega) only [m1lt, nIm1, m1nI, not_true_eq_false, not_false_eq_true, jl, nI_ltI, nI_leI, nI_eq, nI_toInt]; done))); conv => whnf) | (refine br_t ?_ ?_; (focus (first | with_reducible assumption | (intro zz; apply zz; with_reducible assumption) | (simp (disch := omega) only [m1lt, nIm1, m1nI, not_true_eq_false, not_false_eq_true, jl, nI_ltI, nI_leI, nI_eq, nI_toInt]; omega) | (simp (disch := omega) only [m1lt, nIm1, m1nI, not_true_eq_false, not_false_eq_true, jl, nI_ltI, nI_leI, nI_eq, nI_toInt]; done))); conv => whnf) | (with_reducible refine And.intro nz1 ?_; conv => whnf) | (with_reducible refine And.intro nz0 ?_; conv => whnf) | (refine And.intro ?_ ?_; (focus (first | with_reducible assumption | (intro zz; apply zz; with_reducible assumption) | (simp (disch := omega) only [m1lt, nIm1, m1nI, not_true_eq_false, not_false_eq_true, jl, nI_ltI, nI_leI, nI_eq, nI_toInt]; omega) | (simp (disch := omega) only [m1lt, nIm1, m1nI, not_true_eq_false, not_false_eq_true, jl, nI_ltI, nI_leI, nI_eq, nI_toInt]; done))); conv => whnf) | (refine And.intro ?_ ?_; (focus (first | with_reducible assumption | ((with_reducible refine vp_in_nI ?_ ?_) <;> omega) | ((with_reducible refine vp_0 ?_); omega) | ((with_reducible refine vp_s1 ?_ ?_) <;> omega) | ((with_reducible refine vp_a1 ?_ ?_) <;> omega) | ((with_reducible refine vp_m1 ?_ ?_) <;> omega) | ((with_reducible refine vp_m2 ?_ ?_) <;> omega))); conv => whnf))
      refine hP _ _ _ _ ?_
      have h2 := ih (w + 1) m1 (by omega) hf hb h3 h5 h4 (by rw [← hx]; simp [wixF, hm])
      rw [← nI_1 w] at h2
      exact h2
theorem rw0_loop {j : Nat} : ∀ (i : Nat) (m1 : Mm), j ≤ i → i ≤ L → RB m1 L B → m1.1 13 3 = nI i → m1.1 13 5 = nI j → (∀ m', FrR [3, 4, 5] m1 m' → m'.1 13 4 = wix B j (run (fun j => isLe (B j)) L i) → m'.1 13 3 = nI (run (fun j => isLe (B j)) L i) → m'.1 13 5 = nI j → Q none m') → ∀ o1 : Option Value, WP SH (CT (d + 5)) Q c_X1_readWord 0 [some (.ref 13), o1] [] m1 := by
  have fin : ∀ (i : Nat) (m1 : Mm), j ≤ i → i ≤ L → RB m1 L B → m1.1 13 3 = nI i → m1.1 13 5 = nI j → ¬ (i < L ∧ isLe (B i) = true) → (∀ m', FrR [3, 4, 5] m1 m' → m'.1 13 4 = wix B j (run (fun j => isLe (B j)) L i) → m'.1 13 3 = nI (run (fun j => isLe (B j)) L i) → m'.1 13 5 = nI j → Q none m') → WP SH (CT (d + 5)) Q c_X1_readWord 46 [some (.ref 13), some (.int 0)] [] (mu m1.1 13 4 (-2), m1.2) := by
    intro i m1 hji hi hb h3 h5 hno hQ
    rw [run_no hno] at hQ
    refine rw_loop (m := m1) hji hi hQ 12 0 _ (by omega) (FrR.one (by simp)) (hb.fr (FrR.one (S := [4]) (by simp)) (by decide)) ?_ ?_ ?_ rfl
    · show mu m1.1 13 4 (-2) 13 3 = _
      rw [mu_at, if_neg (by decide), h3]
    · show mu m1.1 13 4 (-2) 13 5 = _
      rw [mu_at, if_neg (by decide), h5]
    · show mu m1.1 13 4 (-2) 13 4 = _
      rw [mu_at, if_pos rfl]
  refine run_ind (p := fun j => isLe (B j)) (L := L) (fun i hi hp ih m1 hji hiL hb h3 h5 hQ o1 => ?_) (fun i hno m1 hji hiL hb h3 h5 hQ o1 => ?_)
  · have h2 := hb.1
    have hL := hb.2.1
    refine wpn mo_X1_readWord (fun C P hC hP => ?_)
    conv => whnf
    repeat (first | (refine br_f ?_ ?_; (focus (first | with_reducible assumption | (intro zz; apply zz; with_reducible assumption) | (simp (disch := omega) only [h3, h2, m1lt, nIm1, m1nI, not_true_eq_false, not_false_eq_true, jl, nI_ltI, nI_leI, nI_eq, nI_toInt]; omega) | (simp (disch := omega) only [h3, h2, m1lt, nIm1, m1nI, not_true_eq_false, not_false_eq_true, jl, nI_ltI, nI_leI, nI_eq, nI_toInt]; done))); conv => whnf) | (refine br_t ?_ ?_; (focus (first | with_reducible assumption | (intro zz; apply zz; with_reducible assumption) | (simp (disch := omega) only [h3, h2, m1lt, nIm1, m1nI, not_true_eq_false, not_false_eq_true, jl, nI_ltI, nI_leI, nI_eq, nI_toInt]; omega) | (simp (disch := omega) only [h3, h2, m1lt, nIm1, m1nI, not_true_eq_false, not_false_eq_true, jl, nI_ltI, nI_leI, nI_eq, nI_toInt]; done))); conv => whnf) | (with_reducible refine And.intro nz1 ?_; conv => whnf) | (with_reducible refine And.intro nz0 ?_; conv => whnf) | (refine And.intro ?_ ?_; (focus (first | with_reducible assumption | (intro zz; apply zz; with_reducible assumption) | (simp (disch := omega) only [h3, h2, m1lt, nIm1, m1nI, not_true_eq_false, not_false_eq_true, jl, nI_ltI, nI_leI, nI_eq, nI_toInt]; omega) | (simp (disch := omega) only [h3, h2, m1lt, nIm1, m1nI, not_true_eq_false, not_false_eq_true, jl, nI_ltI, nI_leI, nI_eq, nI_toInt]; done))); conv => whnf) | (refine And.intro ?_ ?_; (focus (first | with_reducible assumption | ((with_reducible refine vp_in_nI ?_ ?_) <;> omega) | ((with_reducible refine vp_0 ?_); omega) | ((with_reducible refine vp_s1 ?_ ?_) <;> omega) | ((with_reducible refine vp_a1 ?_ ?_) <;> omega) | ((with_reducible refine vp_m1 ?_ ?_) <;> omega) | ((with_reducible refine vp_m2 ?_ ?_) <;> omega))); conv => whnf))
    refine useC hC ?_
    show CT (d + 5) n_X1_byteAt [.ref 13, .int (m1.1 13 3)] m1 _
    rw [h3]
    refine s_byteAt hb (by omega) ?_
    rw [bya_in hi]
    conv => whnf
    repeat (first | (refine br_f ?_ ?_; (focus (first | with_reducible assumption | (intro zz; apply zz; with_reducible assumption) | (simp (disch := omega) only [m1lt, nIm1, m1nI, not_true_eq_false, not_false_eq_true, jl, nI_ltI, nI_leI, nI_eq, nI_toInt]; omega) | (simp (disch := omega) only [m1lt, nIm1, m1nI, not_true_eq_false, not_false_eq_true, jl, nI_ltI, nI_leI, nI_eq, nI_toInt]; done))); conv => whnf) | (refine br_t ?_ ?_; (focus (first | with_reducible assumption | (intro zz; apply zz; with_reducible assumption) | (simp (disch := omega) only [m1lt, nIm1, m1nI, not_true_eq_false, not_false_eq_true, jl, nI_ltI, nI_leI, nI_eq, nI_toInt]; omega) | (simp (disch := omega) only [m1lt, nIm1, m1nI, not_true_eq_false, not_false_eq_true, jl, nI_ltI, nI_leI, nI_eq, nI_toInt]; done))); conv => whnf) | (with_reducible refine And.intro nz1 ?_; conv => whnf) | (with_reducible refine And.intro nz0 ?_; conv => whnf) | (refine And.intro ?_ ?_; (focus (first | with_reducible assumption | (intro zz; apply zz; with_reducible assumption) | (simp (disch := omega) only [m1lt, nIm1, m1nI, not_true_eq_false, not_false_eq_true, jl, nI_ltI, nI_leI, nI_eq, nI_toInt]; omega) | (simp (disch := omega) only [m1lt, nIm1, m1nI, not_true_eq_false, not_false_eq_true, jl, nI_ltI, nI_leI, nI_eq, nI_toInt]; done))); conv => whnf) | (refine And.intro ?_ ?_; (focus (first | with_reducible assumption | ((with_reducible refine vp_in_nI ?_ ?_) <;> omega) | ((with_reducible refine vp_0 ?_); omega) | ((with_reducible refine vp_s1 ?_ ?_) <;> omega) | ((with_reducible refine vp_a1 ?_ ?_) <;> omega) | ((with_reducible refine vp_m1 ?_ ?_) <;> omega) | ((with_reducible refine vp_m2 ?_ ?_) <;> omega))); conv => whnf))
    refine useC hC (s_isLetter (hb.2.2 i hi).1 ?_)
    rw [if_pos hp]
    conv => whnf
    repeat (first | (refine br_f ?_ ?_; (focus (first | with_reducible assumption | (intro zz; apply zz; with_reducible assumption) | (simp (disch := omega) only [m1lt, nIm1, m1nI, not_true_eq_false, not_false_eq_true, jl, nI_ltI, nI_leI, nI_eq, nI_toInt]; omega) | (simp (disch := omega) only [m1lt, nIm1, m1nI, not_true_eq_false, not_false_eq_true, jl, nI_ltI, nI_leI, nI_eq, nI_toInt]; done))); conv => whnf) | (refine br_t ?_ ?_; (focus (first | with_reducible assumption | (intro zz; apply zz; with_reducible assumption) | (simp (disch := omega) only [m1lt, nIm1, m1nI, not_true_eq_false, not_false_eq_true, jl, nI_ltI, nI_leI, nI_eq, nI_toInt]; omega) | (simp (disch := omega) only [m1lt, nIm1, m1nI, not_true_eq_false, not_false_eq_true, jl, nI_ltI, nI_leI, nI_eq, nI_toInt]; done))); conv => whnf) | (with_reducible refine And.intro nz1 ?_; conv => whnf) | (with_reducible refine And.intro nz0 ?_; conv => whnf) | (refine And.intro ?_ ?_; (focus (first | with_reducible assumption | (intro zz; apply zz; with_reducible assumption) | (simp (disch := omega) only [m1lt, nIm1, m1nI, not_true_eq_false, not_false_eq_true, jl, nI_ltI, nI_leI, nI_eq, nI_toInt]; omega) | (simp (disch := omega) only [m1lt, nIm1, m1nI, not_true_eq_false, not_false_eq_true, jl, nI_ltI, nI_leI, nI_eq, nI_toInt]; done))); conv => whnf) | (refine And.intro ?_ ?_; (focus (first | with_reducible assumption | ((with_reducible refine vp_in_nI ?_ ?_) <;> omega) | ((with_reducible refine vp_0 ?_); omega) | ((with_reducible refine vp_s1 ?_ ?_) <;> omega) | ((with_reducible refine vp_a1 ?_ ?_) <;> omega) | ((with_reducible refine vp_m1 ?_ ?_) <;> omega) | ((with_reducible refine vp_m2 ?_ ?_) <;> omega))); conv => whnf))
    refine hP _ _ _ _ ?_
    rw [run_yes hi hp] at hQ
    have e3 : m1.1 13 3 + 1 = nI (i + 1) := by rw [h3, nI_1]
    refine ih _ (by omega) (by omega) (hb.fr (FrR.one (S := [3]) (by simp)) (by decide)) ?_ ?_ (fun m' hf => hQ m' ((FrR.one (by simp)).tr hf)) o1
    · show mu m1.1 13 3 (m1.1 13 3 + 1) 13 3 = _
      rw [mu_at, if_pos rfl, e3]
    · show mu m1.1 13 3 (m1.1 13 3 + 1) 13 5 = _
      rw [mu_at, if_neg (by decide), h5]
  · have h2 := hb.1
    have hL := hb.2.1
    have hfin := fin i m1 hji hiL hb h3 h5 hno hQ
    refine wpn mo_X1_readWord (fun C P hC hP => ?_)
    by_cases hi : i < L
    · have hp : ¬ isLe (B i) = true := fun z => hno ⟨hi, z⟩
      conv => whnf
      repeat (first | (refine br_f ?_ ?_; (focus (first | with_reducible assumption | (intro zz; apply zz; with_reducible assumption) | (simp (disch := omega) only [h3, h2, m1lt, nIm1, m1nI, not_true_eq_false, not_false_eq_true, jl, nI_ltI, nI_leI, nI_eq, nI_toInt]; omega) | (simp (disch := omega) only [h3, h2, m1lt, nIm1, m1nI, not_true_eq_false, not_false_eq_true, jl, nI_ltI, nI_leI, nI_eq, nI_toInt]; done))); conv => whnf) | (refine br_t ?_ ?_; (focus (first | with_reducible assumption | (intro zz; apply zz; with_reducible assumption) | (simp (disch := omega) only [h3, h2, m1lt, nIm1, m1nI, not_true_eq_false, not_false_eq_true, jl, nI_ltI, nI_leI, nI_eq, nI_toInt]; omega) | (simp (disch := omega) only [h3, h2, m1lt, nIm1, m1nI, not_true_eq_false, not_false_eq_true, jl, nI_ltI, nI_leI, nI_eq, nI_toInt]; done))); conv => whnf) | (with_reducible refine And.intro nz1 ?_; conv => whnf) | (with_reducible refine And.intro nz0 ?_; conv => whnf) | (refine And.intro ?_ ?_; (focus (first | with_reducible assumption | (intro zz; apply zz; with_reducible assumption) | (simp (disch := omega) only [h3, h2, m1lt, nIm1, m1nI, not_true_eq_false, not_false_eq_true, jl, nI_ltI, nI_leI, nI_eq, nI_toInt]; omega) | (simp (disch := omega) only [h3, h2, m1lt, nIm1, m1nI, not_true_eq_false, not_false_eq_true, jl, nI_ltI, nI_leI, nI_eq, nI_toInt]; done))); conv => whnf) | (refine And.intro ?_ ?_; (focus (first | with_reducible assumption | ((with_reducible refine vp_in_nI ?_ ?_) <;> omega) | ((with_reducible refine vp_0 ?_); omega) | ((with_reducible refine vp_s1 ?_ ?_) <;> omega) | ((with_reducible refine vp_a1 ?_ ?_) <;> omega) | ((with_reducible refine vp_m1 ?_ ?_) <;> omega) | ((with_reducible refine vp_m2 ?_ ?_) <;> omega))); conv => whnf))
      refine useC hC ?_
      show CT (d + 5) n_X1_byteAt [.ref 13, .int (m1.1 13 3)] m1 _
      rw [h3]
      refine s_byteAt hb (by omega) ?_
      rw [bya_in hi]
      conv => whnf
      repeat (first | (refine br_f ?_ ?_; (focus (first | with_reducible assumption | (intro zz; apply zz; with_reducible assumption) | (simp (disch := omega) only [m1lt, nIm1, m1nI, not_true_eq_false, not_false_eq_true, jl, nI_ltI, nI_leI, nI_eq, nI_toInt]; omega) | (simp (disch := omega) only [m1lt, nIm1, m1nI, not_true_eq_false, not_false_eq_true, jl, nI_ltI, nI_leI, nI_eq, nI_toInt]; done))); conv => whnf) | (refine br_t ?_ ?_; (focus (first | with_reducible assumption | (intro zz; apply zz; with_reducible assumption) | (simp (disch := omega) only [m1lt, nIm1, m1nI, not_true_eq_false, not_false_eq_true, jl, nI_ltI, nI_leI, nI_eq, nI_toInt]; omega) | (simp (disch := omega) only [m1lt, nIm1, m1nI, not_true_eq_false, not_false_eq_true, jl, nI_ltI, nI_leI, nI_eq, nI_toInt]; done))); conv => whnf) | (with_reducible refine And.intro nz1 ?_; conv => whnf) | (with_reducible refine And.intro nz0 ?_; conv => whnf) | (refine And.intro ?_ ?_; (focus (first | with_reducible assumption | (intro zz; apply zz; with_reducible assumption) | (simp (disch := omega) only [m1lt, nIm1, m1nI, not_true_eq_false, not_false_eq_true, jl, nI_ltI, nI_leI, nI_eq, nI_toInt]; omega) | (simp (disch := omega) only [m1lt, nIm1, m1nI, not_true_eq_false, not_false_eq_true, jl, nI_ltI, nI_leI, nI_eq, nI_toInt]; done))); conv => whnf) | (refine And.intro ?_ ?_; (focus (first | with_reducible assumption | ((with_reducible refine vp_in_nI ?_ ?_) <;> omega) | ((with_reducible refine vp_0 ?_); omega) | ((with_reducible refine vp_s1 ?_ ?_) <;> omega) | ((with_reducible refine vp_a1 ?_ ?_) <;> omega) | ((with_reducible refine vp_m1 ?_ ?_) <;> omega) | ((with_reducible refine vp_m2 ?_ ?_) <;> omega))); conv => whnf))
      refine useC hC (s_isLetter (hb.2.2 i hi).1 ?_)
      rw [if_neg hp]
      generalize hT : c_X1_readWord_46 = T
      conv => whnf
      repeat (first | (refine br_f ?_ ?_; (focus (first | with_reducible assumption | (intro zz; apply zz; with_reducible assumption) | (simp (disch := omega) only [m1lt, nIm1, m1nI, not_true_eq_false, not_false_eq_true, jl, nI_ltI, nI_leI, nI_eq, nI_toInt]; omega) | (simp (disch := omega) only [m1lt, nIm1, m1nI, not_true_eq_false, not_false_eq_true, jl, nI_ltI, nI_leI, nI_eq, nI_toInt]; done))); conv => whnf) | (refine br_t ?_ ?_; (focus (first | with_reducible assumption | (intro zz; apply zz; with_reducible assumption) | (simp (disch := omega) only [m1lt, nIm1, m1nI, not_true_eq_false, not_false_eq_true, jl, nI_ltI, nI_leI, nI_eq, nI_toInt]; omega) | (simp (disch := omega) only [m1lt, nIm1, m1nI, not_true_eq_false, not_false_eq_true, jl, nI_ltI, nI_leI, nI_eq, nI_toInt]; done))); conv => whnf) | (with_reducible refine And.intro nz1 ?_; conv => whnf) | (with_reducible refine And.intro nz0 ?_; conv => whnf) | (refine And.intro ?_ ?_; (focus (first | with_reducible assumption | (intro zz; apply zz; with_reducible assumption) | (simp (disch := omega) only [m1lt, nIm1, m1nI, not_true_eq_false, not_false_eq_true, jl, nI_ltI, nI_leI, nI_eq, nI_toInt]; omega) | (simp (disch := omega) only [m1lt, nIm1, m1nI, not_true_eq_false, not_false_eq_true, jl, nI_ltI, nI_leI, nI_eq, nI_toInt]; done))); conv => whnf) | (refine And.intro ?_ ?_; (focus (first | with_reducible assumption | ((with_reducible refine vp_in_nI ?_ ?_) <;> omega) | ((with_reducible refine vp_0 ?_); omega) | ((with_reducible refine vp_s1 ?_ ?_) <;> omega) | ((with_reducible refine vp_a1 ?_ ?_) <;> omega) | ((with_reducible refine vp_m1 ?_ ?_) <;> omega) | ((with_reducible refine vp_m2 ?_ ?_) <;> omega))); conv => whnf))
      subst hT; refine hd_X1_readWord_46 hC hP ?_
      exact hfin
    · generalize hT : c_X1_readWord_46 = T
      unfold c_X1_readWord
      rw [hT]
      conv => whnf
      repeat (first | (refine br_f ?_ ?_; (focus (first | with_reducible assumption | (intro zz; apply zz; with_reducible assumption) | (simp (disch := omega) only [h3, h2, m1lt, nIm1, m1nI, not_true_eq_false, not_false_eq_true, jl, nI_ltI, nI_leI, nI_eq, nI_toInt]; omega) | (simp (disch := omega) only [h3, h2, m1lt, nIm1, m1nI, not_true_eq_false, not_false_eq_true, jl, nI_ltI, nI_leI, nI_eq, nI_toInt]; done))); conv => whnf) | (refine br_t ?_ ?_; (focus (first | with_reducible assumption | (intro zz; apply zz; with_reducible assumption) | (simp (disch := omega) only [h3, h2, m1lt, nIm1, m1nI, not_true_eq_false, not_false_eq_true, jl, nI_ltI, nI_leI, nI_eq, nI_toInt]; omega) | (simp (disch := omega) only [h3, h2, m1lt, nIm1, m1nI, not_true_eq_false, not_false_eq_true, jl, nI_ltI, nI_leI, nI_eq, nI_toInt]; done))); conv => whnf) | (with_reducible refine And.intro nz1 ?_; conv => whnf) | (with_reducible refine And.intro nz0 ?_; conv => whnf) | (refine And.intro ?_ ?_; (focus (first | with_reducible assumption | (intro zz; apply zz; with_reducible assumption) | (simp (disch := omega) only [h3, h2, m1lt, nIm1, m1nI, not_true_eq_false, not_false_eq_true, jl, nI_ltI, nI_leI, nI_eq, nI_toInt]; omega) | (simp (disch := omega) only [h3, h2, m1lt, nIm1, m1nI, not_true_eq_false, not_false_eq_true, jl, nI_ltI, nI_leI, nI_eq, nI_toInt]; done))); conv => whnf) | (refine And.intro ?_ ?_; (focus (first | with_reducible assumption | ((with_reducible refine vp_in_nI ?_ ?_) <;> omega) | ((with_reducible refine vp_0 ?_); omega) | ((with_reducible refine vp_s1 ?_ ?_) <;> omega) | ((with_reducible refine vp_a1 ?_ ?_) <;> omega) | ((with_reducible refine vp_m1 ?_ ?_) <;> omega) | ((with_reducible refine vp_m2 ?_ ?_) <;> omega))); conv => whnf))
      subst hT; refine hd_X1_readWord_46 hC hP ?_
      exact hfin
end TOK
