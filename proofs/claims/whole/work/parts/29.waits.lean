/-! THE READER'S WAITING ROW -/
/-- a token as a number: 0 .. 11 words, 12 a number, signs as they are, 200 the end, 201 a wrong one -/
def tkI (n : Nat) : Int32 := if n = 200 then -1 else if n = 201 then -2 else nI n
def wixNF (B : Nat → Nat) (j k : Nat) : Nat → Nat → Nat
  | 0, _ => 201
  | f + 1, w => if wmB B w j k = true then w else wixNF B j k f (w + 1)
def lexN (L : Nat) (B : Nat → Nat) (i : Nat) : Nat := if lexS L B i < L then (if isLe (B (lexS L B i)) = true then wixNF B (lexS L B i) (lexE L B i) 12 0 else if isDi (B (lexS L B i)) = true then (if lexE L B i - lexS L B i ≤ 4 then 12 else 201) else if B (lexS L B i) ∈ sgns then B (lexS L B i) else 201) else 200
def tkok (n : Nat) : Prop := n ≤ 12 ∨ n ∈ sgns ∨ n = 200 ∨ n = 201
theorem wixN_ok {B : Nat → Nat} {j k : Nat} : ∀ f w, w + f = 12 → wixF B j k f w = tkI (wixNF B j k f w) ∧ (wixNF B j k f w < 12 ∨ wixNF B j k f w = 201)
  | 0, w, _ => ⟨rfl, Or.inr rfl⟩
  | f + 1, w, h => by
    simp only [wixF, wixNF]
    split
    · refine ⟨?_, Or.inl (by omega)⟩
      unfold tkI
      rw [if_neg (by omega), if_neg (by omega)]
    · exact wixN_ok f (w + 1) (by omega)
theorem lexN_ok (L : Nat) (B : Nat → Nat) (i : Nat) : lexK L B i = tkI (lexN L B i) ∧ tkok (lexN L B i) := by
  unfold lexK lexN
  split
  · split
    · have := wixN_ok (B := B) (j := lexS L B i) (k := lexE L B i) 12 0 rfl
      exact ⟨this.1, this.2.elim (fun z => Or.inl (by omega)) (fun z => Or.inr (Or.inr (Or.inr z)))⟩
    split
    · split
      · exact ⟨rfl, Or.inl (Nat.le_refl _)⟩
      · exact ⟨rfl, Or.inr (Or.inr (Or.inr rfl))⟩
    split
    · next z =>
      refine ⟨?_, Or.inr (Or.inl z)⟩
      unfold tkI
      have : ∀ x ∈ sgns, ¬ x = 200 ∧ ¬ x = 201 := by decide
      rw [if_neg (this _ z).1, if_neg (this _ z).2]
    · exact ⟨rfl, Or.inr (Or.inr (Or.inr rfl))⟩
  · exact ⟨rfl, Or.inr (Or.inr (Or.inl rfl))⟩
theorem lexN_num {L : Nat} {B : Nat → Nat} {i : Nat} (h : lexN L B i = 12) : lexS L B i < L ∧ isLe (B (lexS L B i)) = false ∧ isDi (B (lexS L B i)) = true ∧ lexE L B i - lexS L B i ≤ 4 := by
  unfold lexN at h
  split at h
  · next h1 =>
    split at h
    · have := (wixN_ok (B := B) (j := lexS L B i) (k := lexE L B i) 12 0 rfl).2
      omega
    · next h2 =>
      split at h
      · next h3 =>
        split at h
        · next h4 => exact ⟨h1, by simpa using h2, h3, h4⟩
        · cases h
      · split at h
        · next z => rw [h] at z; exact absurd z (by decide)
        · cases h
  · cases h
theorem lexV_lt {L : Nat} {B : Nat → Nat} {i : Nat} (h : lexN L B i = 12) : lexV L B i < 10000 := by
  obtain ⟨h1, h2, h3, h4⟩ := lexN_num h
  have hE : lexE L B i = run (fun j => isDi (B j)) L (lexS L B i) := by
    unfold lexE
    rw [if_pos h1, if_neg (by rw [h2]; decide), if_pos h3]
  unfold lexV
  have h5 := dn_lt B (lexS L B i) (lexE L B i - lexS L B i) (fun x hx => by
    rw [hE] at hx
    exact (run_all (p := fun j => isDi (B j)) (L := L) (lexS L B i) (lexS L B i + x) (by omega) (by omega)).2)
  have h6 : 10 ^ (lexE L B i - lexS L B i) ≤ 10 ^ 4 := Nat.pow_le_pow_right (by decide) h4
  omega
theorem lexS_ge (L : Nat) (B : Nat → Nat) (i : Nat) : i ≤ lexS L B i := run_ge i
theorem lexE_gt {L : Nat} {B : Nat → Nat} {i : Nat} (h : lexS L B i < L) : lexS L B i < lexE L B i := by
  unfold lexE
  rw [if_pos h]
  split
  · next h2 =>
    rw [run_yes h h2]
    exact run_ge _
  split
  · next h2 =>
    rw [run_yes h h2]
    exact run_ge _
  · omega
theorem lexE_le {L : Nat} {B : Nat → Nat} {i : Nat} (hi : i ≤ L) : lexE L B i ≤ L := by
  have hs : lexS L B i ≤ L := run_le i hi
  unfold lexE
  split
  · next h =>
    split
    · exact run_le _ hs
    split
    · exact run_le _ hs
    · omega
  · exact hs
theorem lexN_end {L : Nat} {B : Nat → Nat} {i : Nat} (h : lexN L B i ≠ 200) : lexS L B i < L := by
  unfold lexN at h
  split at h
  · assumption
  · exact absurd rfl h
/-- the waiting row, the top first; a text that grows -/
def WR (m : Mm) (w : List Nat) : Prop := m.1 13 7 = nI w.length ∧ w.length ≤ 160 ∧ ∀ j, j < w.length → m.1 15 (w.length - 1 - j) = nI (w.getD j 0)
def CR (m : Mm) (t : Nat) (cd : List Nat) : Prop := m.1 t 2 = nI cd.length ∧ ∀ j, j < cd.length → m.1 (t + 1) j = nI (cd.getD j 0)
def isPre (x : Nat) : Prop := x = 10 ∨ x = 40 ∨ x = 80
def cnt : List Nat → Nat
  | [] => 0
  | x :: r => (if x = 10 ∨ x = 40 ∨ x = 80 then 1 else 0) + cnt r
def topI : List Nat → Int32
  | [] => -1
  | x :: _ => nI x
/-- operators that wait are worked off -/
def wof (least : Nat) : List Nat → List Nat → List Nat × List Nat
  | [], cd => ([], cd)
  | x :: r, cd => if least ≤ x then wof least r (cd ++ [x]) else (x :: r, cd)
/-- of the reader and of text t those numbers may have changed -/
def FrT (S : List Nat) (t : Nat) (m m' : Mm) : Prop := Fr [13, 15, t, t + 1] m m' ∧ ∀ s, s ∉ S → m'.1 13 s = m.1 13 s
theorem FrT.rf {m : Mm} (S : List Nat) (t : Nat) : FrT S t m m := ⟨Fr.rf.up (by simp), fun _ _ => rfl⟩
theorem FrT.tr {S : List Nat} {t : Nat} {m m1 m2 : Mm} (h1 : FrT S t m m1) (h2 : FrT S t m1 m2) : FrT S t m m2 := ⟨h1.1.tr h2.1 (fun _ z => z) (fun _ z => z), fun s hs => (h2.2 s hs).trans (h1.2 s hs)⟩
theorem FrT.up {S S' : List Nat} {t : Nat} {m m1 : Mm} (h1 : FrT S t m m1) (hs : ∀ s, s ∈ S → s ∈ S') : FrT S' t m m1 := ⟨h1.1, fun s z => h1.2 s (fun q => z (hs s q))⟩
theorem FrT.ofR {S : List Nat} {t : Nat} {m m1 : Mm} (h1 : FrR S m m1) : FrT S t m m1 := ⟨h1.1.up (by simp), h1.2⟩
theorem FrT.rb {S : List Nat} {t : Nat} {m m' : Mm} {L : Nat} {B : Nat → Nat} (h : RB m L B) (hf : FrT S t m m') (h2 : 2 ∉ S) (ht : 18 ≤ t) : RB m' L B := by
  unfold RB
  rw [hf.2 2 h2, hf.1.2 14 (by simp; omega)]
  exact h
def FrW (S : List Nat) (m m' : Mm) : Prop := Fr [13, 15] m m' ∧ ∀ s, s ∉ S → m'.1 13 s = m.1 13 s
theorem FrT.ofW {S : List Nat} {t : Nat} {m m1 : Mm} (h1 : FrW S m m1) : FrT S t m m1 := ⟨h1.1.up (by simp), h1.2⟩
theorem CR.fr {M : List Nat} {t : Nat} {m m' : Mm} {cd : List Nat} (h : CR m t cd) (hf : Fr M m m') (h1 : t ∉ M) (h2 : t + 1 ∉ M) : CR m' t cd := by
  unfold CR
  rw [hf.2 t h1, hf.2 (t + 1) h2]
  exact h
theorem WR.fr {S : List Nat} {m m' : Mm} {w : List Nat} (h : WR m w) (hf : FrR S m m') (h1 : 7 ∉ S) : WR m' w := by
  unfold WR
  rw [hf.2 7 h1, hf.1.2 15 (by decide)]
  exact h
section WTS
variable {d L t : Nat} {B : Nat → Nat} {m : Mm} {Q : Qr} {w cd : List Nat}
theorem s_nextToken {i : Nat} (hi : i ≤ L) (hb : RB m L B) (h3 : m.1 13 3 = nI i) (h : ∀ m', FrR [3, 4, 5, 6] m m' → m'.1 13 4 = tkI (lexN L B i) → m'.1 13 3 = nI (lexE L B i) → m'.1 13 5 = nI (lexS L B i) → (lexN L B i = 12 → m'.1 13 6 = nI (lexV L B i)) → Q none m') : CT (d + 7) n_X1_nextToken [.ref 13] m Q := by
  refine ⟨rfl, ?_⟩
  refine nt_loop (d := d) i m hi hb h3 (fun m' hf g1 g2 g3 g4 => h m' hf (by rw [← (lexN_ok L B i).1]; exact g1) g2 g3 (fun z => g4 ?_)) none
  rw [(lexN_ok L B i).1, z]
  rfl
theorem s_top (hw : WR m w) (h : Q (some (.int (topI w))) m) : CT (d + 1) n_X1_top [.ref 13] m Q := by
  obtain ⟨h7, hl, hs⟩ := hw
  refine opn cd_X1_top rfl (fun C P hC hP => ?_)
  cases w with
  | nil =>
    conv => whnf
    repeat (first | (refine br_f ?_ ?_; (focus (first | with_reducible assumption | (intro zz; apply zz; with_reducible assumption) | (simp (disch := omega) only [h7, List.length_nil, m1lt, nIm1, m1nI, not_true_eq_false, not_false_eq_true, jl, nI_ltI, nI_leI, nI_eq, nI_toInt]; omega) | (simp (disch := omega) only [h7, List.length_nil, m1lt, nIm1, m1nI, not_true_eq_false, not_false_eq_true, jl, nI_ltI, nI_leI, nI_eq, nI_toInt]; done))); conv => whnf) | (refine br_t ?_ ?_; (focus (first | with_reducible assumption | (intro zz; apply zz; with_reducible assumption) | (simp (disch := omega) only [h7, List.length_nil, m1lt, nIm1, m1nI, not_true_eq_false, not_false_eq_true, jl, nI_ltI, nI_leI, nI_eq, nI_toInt]; omega) | (simp (disch := omega) only [h7, List.length_nil, m1lt, nIm1, m1nI, not_true_eq_false, not_false_eq_true, jl, nI_ltI, nI_leI, nI_eq, nI_toInt]; done))); conv => whnf) | (with_reducible refine And.intro nz1 ?_; conv => whnf) | (with_reducible refine And.intro nz0 ?_; conv => whnf) | (refine And.intro ?_ ?_; (focus (first | with_reducible assumption | (intro zz; apply zz; with_reducible assumption) | (simp (disch := omega) only [h7, List.length_nil, m1lt, nIm1, m1nI, not_true_eq_false, not_false_eq_true, jl, nI_ltI, nI_leI, nI_eq, nI_toInt]; omega) | (simp (disch := omega) only [h7, List.length_nil, m1lt, nIm1, m1nI, not_true_eq_false, not_false_eq_true, jl, nI_ltI, nI_leI, nI_eq, nI_toInt]; done))); conv => whnf) | (refine And.intro ?_ ?_; (focus (first | with_reducible assumption | ((with_reducible refine vp_in_nI ?_ ?_) <;> omega) | ((with_reducible refine vp_0 ?_); omega) | ((with_reducible refine vp_s1 ?_ ?_) <;> omega) | ((with_reducible refine vp_a1 ?_ ?_) <;> omega) | ((with_reducible refine vp_m1 ?_ ?_) <;> omega) | ((with_reducible refine vp_m2 ?_ ?_) <;> omega))); conv => whnf))
    exact h
  | cons x r =>
    simp only [List.length_cons] at h7 hl hs
    conv => whnf
    repeat (first | (refine br_f ?_ ?_; (focus (first | with_reducible assumption | (intro zz; apply zz; with_reducible assumption) | (simp (disch := omega) only [h7, m1lt, nIm1, m1nI, not_true_eq_false, not_false_eq_true, jl, nI_ltI, nI_leI, nI_eq, nI_toInt]; omega) | (simp (disch := omega) only [h7, m1lt, nIm1, m1nI, not_true_eq_false, not_false_eq_true, jl, nI_ltI, nI_leI, nI_eq, nI_toInt]; done))); conv => whnf) | (refine br_t ?_ ?_; (focus (first | with_reducible assumption | (intro zz; apply zz; with_reducible assumption) | (simp (disch := omega) only [h7, m1lt, nIm1, m1nI, not_true_eq_false, not_false_eq_true, jl, nI_ltI, nI_leI, nI_eq, nI_toInt]; omega) | (simp (disch := omega) only [h7, m1lt, nIm1, m1nI, not_true_eq_false, not_false_eq_true, jl, nI_ltI, nI_leI, nI_eq, nI_toInt]; done))); conv => whnf) | (with_reducible refine And.intro nz1 ?_; conv => whnf) | (with_reducible refine And.intro nz0 ?_; conv => whnf) | (refine And.intro ?_ ?_; (focus (first | with_reducible assumption | (intro zz; apply zz; with_reducible assumption) | (simp (disch := omega) only [h7, m1lt, nIm1, m1nI, not_true_eq_false, not_false_eq_true, jl, nI_ltI, nI_leI, nI_eq, nI_toInt]; omega) | (simp (disch := omega) only [h7, m1lt, nIm1, m1nI, not_true_eq_false, not_false_eq_true, jl, nI_ltI, nI_leI, nI_eq, nI_toInt]; done))); conv => whnf) | (refine And.intro ?_ ?_; (focus (first | with_reducible assumption | ((with_reducible refine vp_in_nI ?_ ?_) <;> omega) | ((with_reducible refine vp_0 ?_); omega) | ((with_reducible refine vp_s1 ?_ ?_) <;> omega) | ((with_reducible refine vp_a1 ?_ ?_) <;> omega) | ((with_reducible refine vp_m1 ?_ ?_) <;> omega) | ((with_reducible refine vp_m2 ?_ ?_) <;> omega))); conv => whnf))
    refine ⟨by rw [h7]; exact vp_s1 (by omega) (by omega), ?_⟩
    conv => whnf
    repeat (first | (refine br_f ?_ ?_; (focus (first | with_reducible assumption | (intro zz; apply zz; with_reducible assumption) | (simp (disch := omega) only [m1lt, nIm1, m1nI, not_true_eq_false, not_false_eq_true, jl, nI_ltI, nI_leI, nI_eq, nI_toInt]; omega) | (simp (disch := omega) only [m1lt, nIm1, m1nI, not_true_eq_false, not_false_eq_true, jl, nI_ltI, nI_leI, nI_eq, nI_toInt]; done))); conv => whnf) | (refine br_t ?_ ?_; (focus (first | with_reducible assumption | (intro zz; apply zz; with_reducible assumption) | (simp (disch := omega) only [m1lt, nIm1, m1nI, not_true_eq_false, not_false_eq_true, jl, nI_ltI, nI_leI, nI_eq, nI_toInt]; omega) | (simp (disch := omega) only [m1lt, nIm1, m1nI, not_true_eq_false, not_false_eq_true, jl, nI_ltI, nI_leI, nI_eq, nI_toInt]; done))); conv => whnf) | (with_reducible refine And.intro nz1 ?_; conv => whnf) | (with_reducible refine And.intro nz0 ?_; conv => whnf) | (refine And.intro ?_ ?_; (focus (first | with_reducible assumption | (intro zz; apply zz; with_reducible assumption) | (simp (disch := omega) only [m1lt, nIm1, m1nI, not_true_eq_false, not_false_eq_true, jl, nI_ltI, nI_leI, nI_eq, nI_toInt]; omega) | (simp (disch := omega) only [m1lt, nIm1, m1nI, not_true_eq_false, not_false_eq_true, jl, nI_ltI, nI_leI, nI_eq, nI_toInt]; done))); conv => whnf) | (refine And.intro ?_ ?_; (focus (first | with_reducible assumption | ((with_reducible refine vp_in_nI ?_ ?_) <;> omega) | ((with_reducible refine vp_0 ?_); omega) | ((with_reducible refine vp_s1 ?_ ?_) <;> omega) | ((with_reducible refine vp_a1 ?_ ?_) <;> omega) | ((with_reducible refine vp_m1 ?_ ?_) <;> omega) | ((with_reducible refine vp_m2 ?_ ?_) <;> omega))); conv => whnf))
    have e := hs 0 (by omega)
    simp only [h7, sub1, nI_clamp (show r.length < 2 ^ 31 by omega)]
    simp at e
    rw [e]
    exact h
theorem s_await {x : Nat} (hw : WR m w) (hl : w.length < 160) (h : ∀ m', FrW [7] m m' → WR m' (x :: w) → Q none m') : CT (d + 1) n_X1_await [.ref 13, .int (nI x)] m Q := by
  obtain ⟨h7, -, hs⟩ := hw
  refine opn cd_X1_await rfl (fun C P hC hP => ?_)
  conv => whnf
  repeat (first | (refine br_f ?_ ?_; (focus (first | with_reducible assumption | (intro zz; apply zz; with_reducible assumption) | (simp (disch := omega) only [h7, m1lt, nIm1, m1nI, not_true_eq_false, not_false_eq_true, jl, nI_ltI, nI_leI, nI_eq, nI_toInt]; omega) | (simp (disch := omega) only [h7, m1lt, nIm1, m1nI, not_true_eq_false, not_false_eq_true, jl, nI_ltI, nI_leI, nI_eq, nI_toInt]; done))); conv => whnf) | (refine br_t ?_ ?_; (focus (first | with_reducible assumption | (intro zz; apply zz; with_reducible assumption) | (simp (disch := omega) only [h7, m1lt, nIm1, m1nI, not_true_eq_false, not_false_eq_true, jl, nI_ltI, nI_leI, nI_eq, nI_toInt]; omega) | (simp (disch := omega) only [h7, m1lt, nIm1, m1nI, not_true_eq_false, not_false_eq_true, jl, nI_ltI, nI_leI, nI_eq, nI_toInt]; done))); conv => whnf) | (with_reducible refine And.intro nz1 ?_; conv => whnf) | (with_reducible refine And.intro nz0 ?_; conv => whnf) | (refine And.intro ?_ ?_; (focus (first | with_reducible assumption | (intro zz; apply zz; with_reducible assumption) | (simp (disch := omega) only [h7, m1lt, nIm1, m1nI, not_true_eq_false, not_false_eq_true, jl, nI_ltI, nI_leI, nI_eq, nI_toInt]; omega) | (simp (disch := omega) only [h7, m1lt, nIm1, m1nI, not_true_eq_false, not_false_eq_true, jl, nI_ltI, nI_leI, nI_eq, nI_toInt]; done))); conv => whnf) | (refine And.intro ?_ ?_; (focus (first | with_reducible assumption | ((with_reducible refine vp_in_nI ?_ ?_) <;> omega) | ((with_reducible refine vp_0 ?_); omega) | ((with_reducible refine vp_s1 ?_ ?_) <;> omega) | ((with_reducible refine vp_a1 ?_ ?_) <;> omega) | ((with_reducible refine vp_m1 ?_ ?_) <;> omega) | ((with_reducible refine vp_m2 ?_ ?_) <;> omega))); conv => whnf))
  refine ⟨by rw [h7]; exact vp_in_nI hl (by omega), ?_⟩
  conv => whnf
  repeat (first | (refine br_f ?_ ?_; (focus (first | with_reducible assumption | (intro zz; apply zz; with_reducible assumption) | (simp (disch := omega) only [m1lt, nIm1, m1nI, not_true_eq_false, not_false_eq_true, jl, nI_ltI, nI_leI, nI_eq, nI_toInt]; omega) | (simp (disch := omega) only [m1lt, nIm1, m1nI, not_true_eq_false, not_false_eq_true, jl, nI_ltI, nI_leI, nI_eq, nI_toInt]; done))); conv => whnf) | (refine br_t ?_ ?_; (focus (first | with_reducible assumption | (intro zz; apply zz; with_reducible assumption) | (simp (disch := omega) only [m1lt, nIm1, m1nI, not_true_eq_false, not_false_eq_true, jl, nI_ltI, nI_leI, nI_eq, nI_toInt]; omega) | (simp (disch := omega) only [m1lt, nIm1, m1nI, not_true_eq_false, not_false_eq_true, jl, nI_ltI, nI_leI, nI_eq, nI_toInt]; done))); conv => whnf) | (with_reducible refine And.intro nz1 ?_; conv => whnf) | (with_reducible refine And.intro nz0 ?_; conv => whnf) | (refine And.intro ?_ ?_; (focus (first | with_reducible assumption | (intro zz; apply zz; with_reducible assumption) | (simp (disch := omega) only [m1lt, nIm1, m1nI, not_true_eq_false, not_false_eq_true, jl, nI_ltI, nI_leI, nI_eq, nI_toInt]; omega) | (simp (disch := omega) only [m1lt, nIm1, m1nI, not_true_eq_false, not_false_eq_true, jl, nI_ltI, nI_leI, nI_eq, nI_toInt]; done))); conv => whnf) | (refine And.intro ?_ ?_; (focus (first | with_reducible assumption | ((with_reducible refine vp_in_nI ?_ ?_) <;> omega) | ((with_reducible refine vp_0 ?_); omega) | ((with_reducible refine vp_s1 ?_ ?_) <;> omega) | ((with_reducible refine vp_a1 ?_ ?_) <;> omega) | ((with_reducible refine vp_m1 ?_ ?_) <;> omega) | ((with_reducible refine vp_m2 ?_ ?_) <;> omega))); conv => whnf))
  simp (disch := first | decide | omega) only [mu_ne, h7, nI_1, nI_clamp]
  refine h _ ⟨⟨rfl, fun a ha => ?_⟩, fun s hs2 => ?_⟩ ⟨?_, by simp; omega, fun j hj => ?_⟩
  · simp only [List.mem_cons, List.not_mem_nil, or_false, not_or] at ha
    simp only [mu_ne ha.1, mu_ne ha.2]
  · simp (disch := decide) only [mu_at, mu_ne]
    rw [if_neg (fun z => hs2 (by simp [z]))]
  · simp (disch := decide) only [mu_at]
    simp
  · simp (disch := decide) only [mu_at, mu_ne]
    simp only [List.length_cons] at hj ⊢
    cases j with
    | zero => simp
    | succ j =>
      rw [if_neg (by omega)]
      have := hs j (by omega)
      rw [show w.length + 1 - 1 - (j + 1) = w.length - 1 - j by omega]
      simpa using this
theorem s_tadd {x : Nat} (ht : TS t) (hc : CR m t cd) (hl : cd.length < 160) (h18 : 18 ≤ t) (h : ∀ m', Fr [t, t + 1] m m' → CR m' t (cd ++ [x]) → Q none m') : CT (d + 1) n_X5_add [.ref t, .int (nI x)] m Q := by
  obtain ⟨h2, hs⟩ := hc
  refine opn cd_X5_add rfl (fun C P hC hP => ?_)
  conv => whnf
  repeat (first | (rw [ht.1]; conv => whnf) | (rw [ht.2.1]; conv => whnf) | (refine br_f ?_ ?_; (focus (first | with_reducible assumption | (intro zz; apply zz; with_reducible assumption) | (simp (disch := omega) only [h2, m1lt, nIm1, m1nI, not_true_eq_false, not_false_eq_true, jl, nI_ltI, nI_leI, nI_eq, nI_toInt]; omega) | (simp (disch := omega) only [h2, m1lt, nIm1, m1nI, not_true_eq_false, not_false_eq_true, jl, nI_ltI, nI_leI, nI_eq, nI_toInt]; done))); conv => whnf) | (refine br_t ?_ ?_; (focus (first | with_reducible assumption | (intro zz; apply zz; with_reducible assumption) | (simp (disch := omega) only [h2, m1lt, nIm1, m1nI, not_true_eq_false, not_false_eq_true, jl, nI_ltI, nI_leI, nI_eq, nI_toInt]; omega) | (simp (disch := omega) only [h2, m1lt, nIm1, m1nI, not_true_eq_false, not_false_eq_true, jl, nI_ltI, nI_leI, nI_eq, nI_toInt]; done))); conv => whnf) | (with_reducible refine And.intro nz1 ?_; conv => whnf) | (with_reducible refine And.intro nz0 ?_; conv => whnf) | (refine And.intro ?_ ?_; (focus (first | with_reducible assumption | (intro zz; apply zz; with_reducible assumption) | (simp (disch := omega) only [h2, m1lt, nIm1, m1nI, not_true_eq_false, not_false_eq_true, jl, nI_ltI, nI_leI, nI_eq, nI_toInt]; omega) | (simp (disch := omega) only [h2, m1lt, nIm1, m1nI, not_true_eq_false, not_false_eq_true, jl, nI_ltI, nI_leI, nI_eq, nI_toInt]; done))); conv => whnf) | (refine And.intro ?_ ?_; (focus (first | with_reducible assumption | ((with_reducible refine vp_in_nI ?_ ?_) <;> omega) | ((with_reducible refine vp_0 ?_); omega) | ((with_reducible refine vp_s1 ?_ ?_) <;> omega) | ((with_reducible refine vp_a1 ?_ ?_) <;> omega) | ((with_reducible refine vp_m1 ?_ ?_) <;> omega) | ((with_reducible refine vp_m2 ?_ ?_) <;> omega))); conv => whnf))
  refine ⟨by rw [h2]; exact vp_in_nI hl (by omega), ?_⟩
  conv => whnf
  repeat (first | (rw [ht.1]; conv => whnf) | (refine br_f ?_ ?_; (focus (first | with_reducible assumption | (intro zz; apply zz; with_reducible assumption) | (simp (disch := omega) only [m1lt, nIm1, m1nI, not_true_eq_false, not_false_eq_true, jl, nI_ltI, nI_leI, nI_eq, nI_toInt]; omega) | (simp (disch := omega) only [m1lt, nIm1, m1nI, not_true_eq_false, not_false_eq_true, jl, nI_ltI, nI_leI, nI_eq, nI_toInt]; done))); conv => whnf) | (refine br_t ?_ ?_; (focus (first | with_reducible assumption | (intro zz; apply zz; with_reducible assumption) | (simp (disch := omega) only [m1lt, nIm1, m1nI, not_true_eq_false, not_false_eq_true, jl, nI_ltI, nI_leI, nI_eq, nI_toInt]; omega) | (simp (disch := omega) only [m1lt, nIm1, m1nI, not_true_eq_false, not_false_eq_true, jl, nI_ltI, nI_leI, nI_eq, nI_toInt]; done))); conv => whnf) | (with_reducible refine And.intro nz1 ?_; conv => whnf) | (with_reducible refine And.intro nz0 ?_; conv => whnf) | (refine And.intro ?_ ?_; (focus (first | with_reducible assumption | (intro zz; apply zz; with_reducible assumption) | (simp (disch := omega) only [m1lt, nIm1, m1nI, not_true_eq_false, not_false_eq_true, jl, nI_ltI, nI_leI, nI_eq, nI_toInt]; omega) | (simp (disch := omega) only [m1lt, nIm1, m1nI, not_true_eq_false, not_false_eq_true, jl, nI_ltI, nI_leI, nI_eq, nI_toInt]; done))); conv => whnf) | (refine And.intro ?_ ?_; (focus (first | with_reducible assumption | ((with_reducible refine vp_in_nI ?_ ?_) <;> omega) | ((with_reducible refine vp_0 ?_); omega) | ((with_reducible refine vp_s1 ?_ ?_) <;> omega) | ((with_reducible refine vp_a1 ?_ ?_) <;> omega) | ((with_reducible refine vp_m1 ?_ ?_) <;> omega) | ((with_reducible refine vp_m2 ?_ ?_) <;> omega))); conv => whnf))
  simp (disch := first | decide | omega) only [mu_ne, h2, nI_1, nI_clamp]
  refine h _ ⟨rfl, fun a ha => ?_⟩ ⟨?_, fun j hj => ?_⟩
  · simp only [List.mem_cons, List.not_mem_nil, or_false, not_or] at ha
    simp only [mu_ne ha.1, mu_ne ha.2]
  · simp only [mu_at]
    simp
  · simp (disch := omega) only [mu_at, mu_ne]
    simp only [List.length_append, List.length_cons, List.length_nil] at hj
    split
    · next z => subst z; simp
    · next z =>
      rw [hs j (by omega)]
      congr 1
      rw [List.getD_eq_getElem?_getD, List.getD_eq_getElem?_getD, List.getElem?_append_left (by omega)]
theorem wo_loop {least : Nat} (ht : TS t) (h18 : 18 ≤ t) (hle : 20 ≤ least) (hl2 : least < 1000) : ∀ (w cd : List Nat) (m : Mm) (o3 : Option Value), WR m w → CR m t cd → m.1 13 8 = nI (cnt w) → (∀ x ∈ w, x < 100) → cd.length + w.length ≤ 160 →
    (∀ m', FrT [7, 8] t m m' → WR m' (wof least w cd).1 → CR m' t (wof least w cd).2 → m'.1 13 8 = nI (cnt (wof least w cd).1) → Q none m') → WP SH (CT (d + 1)) Q c_X1_workOff 0 [some (.ref 13), some (.ref t), some (.int (nI least)), o3] [] m := by
  intro w
  induction w with
  | nil =>
    intro cd m o3 hw hc h8 hx hl h
    have h7 := hw.1
    refine wpn mo_X1_workOff (fun C P hC hP => ?_)
    conv => whnf
    repeat (first | (refine br_f ?_ ?_; (focus (first | with_reducible assumption | (intro zz; apply zz; with_reducible assumption) | (simp (disch := omega) only [h7, List.length_nil, m1lt, nIm1, m1nI, not_true_eq_false, not_false_eq_true, jl, nI_ltI, nI_leI, nI_eq, nI_toInt]; omega) | (simp (disch := omega) only [h7, List.length_nil, m1lt, nIm1, m1nI, not_true_eq_false, not_false_eq_true, jl, nI_ltI, nI_leI, nI_eq, nI_toInt]; done))); conv => whnf) | (refine br_t ?_ ?_; (focus (first | with_reducible assumption | (intro zz; apply zz; with_reducible assumption) | (simp (disch := omega) only [h7, List.length_nil, m1lt, nIm1, m1nI, not_true_eq_false, not_false_eq_true, jl, nI_ltI, nI_leI, nI_eq, nI_toInt]; omega) | (simp (disch := omega) only [h7, List.length_nil, m1lt, nIm1, m1nI, not_true_eq_false, not_false_eq_true, jl, nI_ltI, nI_leI, nI_eq, nI_toInt]; done))); conv => whnf) | (with_reducible refine And.intro nz1 ?_; conv => whnf) | (with_reducible refine And.intro nz0 ?_; conv => whnf) | (refine And.intro ?_ ?_; (focus (first | with_reducible assumption | (intro zz; apply zz; with_reducible assumption) | (simp (disch := omega) only [h7, List.length_nil, m1lt, nIm1, m1nI, not_true_eq_false, not_false_eq_true, jl, nI_ltI, nI_leI, nI_eq, nI_toInt]; omega) | (simp (disch := omega) only [h7, List.length_nil, m1lt, nIm1, m1nI, not_true_eq_false, not_false_eq_true, jl, nI_ltI, nI_leI, nI_eq, nI_toInt]; done))); conv => whnf) | (refine And.intro ?_ ?_; (focus (first | with_reducible assumption | ((with_reducible refine vp_in_nI ?_ ?_) <;> omega) | ((with_reducible refine vp_0 ?_); omega) | ((with_reducible refine vp_s1 ?_ ?_) <;> omega) | ((with_reducible refine vp_a1 ?_ ?_) <;> omega) | ((with_reducible refine vp_m1 ?_ ?_) <;> omega) | ((with_reducible refine vp_m2 ?_ ?_) <;> omega))); conv => whnf))
    exact h m (FrT.rf _ _) hw hc h8
  | cons x r ih =>
    intro cd m o3 hw hc h8 hx hl h
    have h7 := hw.1
    have hx100 := hx x List.mem_cons_self
    simp only [List.length_cons] at h7 hl
    have hl160 := hw.2.1
    simp only [List.length_cons] at hl160
    refine wpn mo_X1_workOff (fun C P hC hP => ?_)
    conv => whnf
    repeat (first | (refine br_f ?_ ?_; (focus (first | with_reducible assumption | (intro zz; apply zz; with_reducible assumption) | (simp (disch := omega) only [h7, m1lt, nIm1, m1nI, not_true_eq_false, not_false_eq_true, jl, nI_ltI, nI_leI, nI_eq, nI_toInt]; omega) | (simp (disch := omega) only [h7, m1lt, nIm1, m1nI, not_true_eq_false, not_false_eq_true, jl, nI_ltI, nI_leI, nI_eq, nI_toInt]; done))); conv => whnf) | (refine br_t ?_ ?_; (focus (first | with_reducible assumption | (intro zz; apply zz; with_reducible assumption) | (simp (disch := omega) only [h7, m1lt, nIm1, m1nI, not_true_eq_false, not_false_eq_true, jl, nI_ltI, nI_leI, nI_eq, nI_toInt]; omega) | (simp (disch := omega) only [h7, m1lt, nIm1, m1nI, not_true_eq_false, not_false_eq_true, jl, nI_ltI, nI_leI, nI_eq, nI_toInt]; done))); conv => whnf) | (with_reducible refine And.intro nz1 ?_; conv => whnf) | (with_reducible refine And.intro nz0 ?_; conv => whnf) | (refine And.intro ?_ ?_; (focus (first | with_reducible assumption | (intro zz; apply zz; with_reducible assumption) | (simp (disch := omega) only [h7, m1lt, nIm1, m1nI, not_true_eq_false, not_false_eq_true, jl, nI_ltI, nI_leI, nI_eq, nI_toInt]; omega) | (simp (disch := omega) only [h7, m1lt, nIm1, m1nI, not_true_eq_false, not_false_eq_true, jl, nI_ltI, nI_leI, nI_eq, nI_toInt]; done))); conv => whnf) | (refine And.intro ?_ ?_; (focus (first | with_reducible assumption | ((with_reducible refine vp_in_nI ?_ ?_) <;> omega) | ((with_reducible refine vp_0 ?_); omega) | ((with_reducible refine vp_s1 ?_ ?_) <;> omega) | ((with_reducible refine vp_a1 ?_ ?_) <;> omega) | ((with_reducible refine vp_m1 ?_ ?_) <;> omega) | ((with_reducible refine vp_m2 ?_ ?_) <;> omega))); conv => whnf))
    refine useC hC (s_top hw ?_)
    simp only [topI]
    by_cases hlx : least ≤ x
    · have e0 : wof least (x :: r) cd = wof least r (cd ++ [x]) := by simp [wof, hlx]
      rw [e0] at h
      conv => whnf
      repeat (first | (refine br_f ?_ ?_; (focus (first | with_reducible assumption | (intro zz; apply zz; with_reducible assumption) | (simp (disch := omega) only [m1lt, nIm1, m1nI, not_true_eq_false, not_false_eq_true, jl, nI_ltI, nI_leI, nI_eq, nI_toInt]; omega) | (simp (disch := omega) only [m1lt, nIm1, m1nI, not_true_eq_false, not_false_eq_true, jl, nI_ltI, nI_leI, nI_eq, nI_toInt]; done))); conv => whnf) | (refine br_t ?_ ?_; (focus (first | with_reducible assumption | (intro zz; apply zz; with_reducible assumption) | (simp (disch := omega) only [m1lt, nIm1, m1nI, not_true_eq_false, not_false_eq_true, jl, nI_ltI, nI_leI, nI_eq, nI_toInt]; omega) | (simp (disch := omega) only [m1lt, nIm1, m1nI, not_true_eq_false, not_false_eq_true, jl, nI_ltI, nI_leI, nI_eq, nI_toInt]; done))); conv => whnf) | (with_reducible refine And.intro nz1 ?_; conv => whnf) | (with_reducible refine And.intro nz0 ?_; conv => whnf) | (refine And.intro ?_ ?_; (focus (first | with_reducible assumption | (intro zz; apply zz; with_reducible assumption) | (simp (disch := omega) only [m1lt, nIm1, m1nI, not_true_eq_false, not_false_eq_true, jl, nI_ltI, nI_leI, nI_eq, nI_toInt]; omega) | (simp (disch := omega) only [m1lt, nIm1, m1nI, not_true_eq_false, not_false_eq_true, jl, nI_ltI, nI_leI, nI_eq, nI_toInt]; done))); conv => whnf) | (refine And.intro ?_ ?_; (focus (first | with_reducible assumption | ((with_reducible refine vp_in_nI ?_ ?_) <;> omega) | ((with_reducible refine vp_0 ?_); omega) | ((with_reducible refine vp_s1 ?_ ?_) <;> omega) | ((with_reducible refine vp_a1 ?_ ?_) <;> omega) | ((with_reducible refine vp_m1 ?_ ?_) <;> omega) | ((with_reducible refine vp_m2 ?_ ?_) <;> omega))); conv => whnf))
      refine useC hC (s_top hw ?_)
      simp only [topI]
      conv => whnf
      repeat (first | (rw [ht.1]; conv => whnf) | (refine br_f ?_ ?_; (focus (first | with_reducible assumption | (intro zz; apply zz; with_reducible assumption) | (simp (disch := omega) only [m1lt, nIm1, m1nI, not_true_eq_false, not_false_eq_true, jl, nI_ltI, nI_leI, nI_eq, nI_toInt]; omega) | (simp (disch := omega) only [m1lt, nIm1, m1nI, not_true_eq_false, not_false_eq_true, jl, nI_ltI, nI_leI, nI_eq, nI_toInt]; done))); conv => whnf) | (refine br_t ?_ ?_; (focus (first | with_reducible assumption | (intro zz; apply zz; with_reducible assumption) | (simp (disch := omega) only [m1lt, nIm1, m1nI, not_true_eq_false, not_false_eq_true, jl, nI_ltI, nI_leI, nI_eq, nI_toInt]; omega) | (simp (disch := omega) only [m1lt, nIm1, m1nI, not_true_eq_false, not_false_eq_true, jl, nI_ltI, nI_leI, nI_eq, nI_toInt]; done))); conv => whnf) | (with_reducible refine And.intro nz1 ?_; conv => whnf) | (with_reducible refine And.intro nz0 ?_; conv => whnf) | (refine And.intro ?_ ?_; (focus (first | with_reducible assumption | (intro zz; apply zz; with_reducible assumption) | (simp (disch := omega) only [m1lt, nIm1, m1nI, not_true_eq_false, not_false_eq_true, jl, nI_ltI, nI_leI, nI_eq, nI_toInt]; omega) | (simp (disch := omega) only [m1lt, nIm1, m1nI, not_true_eq_false, not_false_eq_true, jl, nI_ltI, nI_leI, nI_eq, nI_toInt]; done))); conv => whnf) | (refine And.intro ?_ ?_; (focus (first | with_reducible assumption | ((with_reducible refine vp_in_nI ?_ ?_) <;> omega) | ((with_reducible refine vp_0 ?_); omega) | ((with_reducible refine vp_s1 ?_ ?_) <;> omega) | ((with_reducible refine vp_a1 ?_ ?_) <;> omega) | ((with_reducible refine vp_m1 ?_ ?_) <;> omega) | ((with_reducible refine vp_m2 ?_ ?_) <;> omega))); conv => whnf))
      simp only [h7, sub1]
      have f1 : FrT [7, 8] t m (mu m.1 13 7 (nI r.length), m.2) := ⟨⟨rfl, fun a ha => by
        simp only [List.mem_cons, List.not_mem_nil, or_false, not_or] at ha
        exact mu_ne ha.1⟩, fun s hs => by
        show mu m.1 13 7 (nI r.length) 13 s = _
        rw [mu_at, if_neg (fun z => hs (by simp [z]))]⟩
      have hw1 : WR (mu m.1 13 7 (nI r.length), m.2) r := by
        refine ⟨by show mu m.1 13 7 (nI r.length) 13 7 = _; rw [mu_at, if_pos rfl], by omega, fun j hj => ?_⟩
        show mu m.1 13 7 (nI r.length) 15 _ = _
        rw [mu_ne (by decide)]
        have := hw.2.2 (j + 1) (by simp; omega)
        simp only [List.length_cons] at this
        rw [show r.length + 1 - 1 - (j + 1) = r.length - 1 - j by omega] at this
        simpa using this
      have hc1 : CR (mu m.1 13 7 (nI r.length), m.2) t cd := by
        refine ⟨by show mu m.1 13 7 (nI r.length) t 2 = _; rw [mu_ne (by omega)]; exact hc.1, fun j hj => ?_⟩
        show mu m.1 13 7 (nI r.length) (t + 1) j = _
        rw [mu_ne (by omega)]
        exact hc.2 j hj
      have h81 : mu m.1 13 7 (nI r.length) 13 8 = nI (cnt (x :: r)) := by rw [mu_at, if_neg (by decide), h8]
      generalize hm1 : ((mu m.1 13 7 (nI r.length), m.2) : Mm) = m1 at f1 hw1 hc1 ⊢
      have h81' : m1.1 13 8 = nI (cnt (x :: r)) := by rw [← hm1]; exact h81
      refine useC hC ?_
      refine s_tadd ht hc1 (by omega) h18 (fun m2 hf2 hc2 => ?_)
      have f2 : FrT [7, 8] t m1 m2 := ⟨hf2.up (by simp), fun s _ => by rw [hf2.2 13 (by simp; omega)]⟩
      have hw2 : WR m2 r := by
        unfold WR
        rw [hf2.2 13 (by simp; omega), hf2.2 15 (by simp; omega)]
        exact hw1
      have h82 : m2.1 13 8 = nI (cnt (x :: r)) := by rw [hf2.2 13 (by simp; omega)]; exact h81'
      have go : ∀ v : Int32, v = nI (cnt r) → WP SH (CT (d + 1)) Q c_X1_workOff 0 [some (.ref 13), some (.ref t), some (.int (nI least)), some (.int (nI x))] [] (mu m2.1 13 8 v, m2.2) := by
        intro v hv
        have f3 : FrT [7, 8] t m2 (mu m2.1 13 8 v, m2.2) := ⟨⟨rfl, fun a ha => by
          simp only [List.mem_cons, List.not_mem_nil, or_false, not_or] at ha
          exact mu_ne ha.1⟩, fun s hs => by
          show mu m2.1 13 8 v 13 s = _
          rw [mu_at, if_neg (fun z => hs (by simp [z]))]⟩
        refine ih (cd ++ [x]) _ _ ?_ ?_ ?_ (fun y hy => hx y (List.mem_cons_of_mem _ hy)) (by simp; omega) (fun m' hf' => h m' (((f1.tr f2).tr f3).tr hf'))
        · refine ⟨by show mu m2.1 13 8 v 13 7 = _; rw [mu_at, if_neg (by decide)]; exact hw2.1, hw2.2.1, fun j hj => ?_⟩
          show mu m2.1 13 8 v 15 _ = _
          rw [mu_ne (by decide)]
          exact hw2.2.2 j hj
        · refine ⟨by show mu m2.1 13 8 v t 2 = _; rw [mu_ne (by omega)]; exact hc2.1, fun j hj => ?_⟩
          show mu m2.1 13 8 v (t + 1) j = _
          rw [mu_ne (by omega)]
          exact hc2.2 j hj
        · show mu m2.1 13 8 v 13 8 = _
          rw [mu_at, if_pos rfl, hv]
      by_cases h40 : x = 40
      · subst h40
        conv => whnf
        repeat (first | (refine br_f ?_ ?_; (focus (first | with_reducible assumption | (intro zz; apply zz; with_reducible assumption) | (simp (disch := omega) only [m1lt, nIm1, m1nI, not_true_eq_false, not_false_eq_true, jl, nI_ltI, nI_leI, nI_eq, nI_toInt]; omega) | (simp (disch := omega) only [m1lt, nIm1, m1nI, not_true_eq_false, not_false_eq_true, jl, nI_ltI, nI_leI, nI_eq, nI_toInt]; done))); conv => whnf) | (refine br_t ?_ ?_; (focus (first | with_reducible assumption | (intro zz; apply zz; with_reducible assumption) | (simp (disch := omega) only [m1lt, nIm1, m1nI, not_true_eq_false, not_false_eq_true, jl, nI_ltI, nI_leI, nI_eq, nI_toInt]; omega) | (simp (disch := omega) only [m1lt, nIm1, m1nI, not_true_eq_false, not_false_eq_true, jl, nI_ltI, nI_leI, nI_eq, nI_toInt]; done))); conv => whnf) | (with_reducible refine And.intro nz1 ?_; conv => whnf) | (with_reducible refine And.intro nz0 ?_; conv => whnf) | (refine And.intro ?_ ?_; (focus (first | with_reducible assumption | (intro zz; apply zz; with_reducible assumption) | (simp (disch := omega) only [m1lt, nIm1, m1nI, not_true_eq_false, not_false_eq_true, jl, nI_ltI, nI_leI, nI_eq, nI_toInt]; omega) | (simp (disch := omega) only [m1lt, nIm1, m1nI, not_true_eq_false, not_false_eq_true, jl, nI_ltI, nI_leI, nI_eq, nI_toInt]; done))); conv => whnf) | (refine And.intro ?_ ?_; (focus (first | with_reducible assumption | ((with_reducible refine vp_in_nI ?_ ?_) <;> omega) | ((with_reducible refine vp_0 ?_); omega) | ((with_reducible refine vp_s1 ?_ ?_) <;> omega) | ((with_reducible refine vp_a1 ?_ ?_) <;> omega) | ((with_reducible refine vp_m1 ?_ ?_) <;> omega) | ((with_reducible refine vp_m2 ?_ ?_) <;> omega))); conv => whnf))
        refine hP _ _ _ _ ?_
        refine go _ ?_
        rw [h82]
        simp only [cnt]
        rw [if_pos (by decide), Nat.add_comm]
        exact sub1
      · by_cases h80 : x = 80
        · subst h80
          conv => whnf
          repeat (first | (refine br_f ?_ ?_; (focus (first | with_reducible assumption | (intro zz; apply zz; with_reducible assumption) | (simp (disch := omega) only [m1lt, nIm1, m1nI, not_true_eq_false, not_false_eq_true, jl, nI_ltI, nI_leI, nI_eq, nI_toInt]; omega) | (simp (disch := omega) only [m1lt, nIm1, m1nI, not_true_eq_false, not_false_eq_true, jl, nI_ltI, nI_leI, nI_eq, nI_toInt]; done))); conv => whnf) | (refine br_t ?_ ?_; (focus (first | with_reducible assumption | (intro zz; apply zz; with_reducible assumption) | (simp (disch := omega) only [m1lt, nIm1, m1nI, not_true_eq_false, not_false_eq_true, jl, nI_ltI, nI_leI, nI_eq, nI_toInt]; omega) | (simp (disch := omega) only [m1lt, nIm1, m1nI, not_true_eq_false, not_false_eq_true, jl, nI_ltI, nI_leI, nI_eq, nI_toInt]; done))); conv => whnf) | (with_reducible refine And.intro nz1 ?_; conv => whnf) | (with_reducible refine And.intro nz0 ?_; conv => whnf) | (refine And.intro ?_ ?_; (focus (first | with_reducible assumption | (intro zz; apply zz; with_reducible assumption) | (simp (disch := omega) only [m1lt, nIm1, m1nI, not_true_eq_false, not_false_eq_true, jl, nI_ltI, nI_leI, nI_eq, nI_toInt]; omega) | (simp (disch := omega) only [m1lt, nIm1, m1nI, not_true_eq_false, not_false_eq_true, jl, nI_ltI, nI_leI, nI_eq, nI_toInt]; done))); conv => whnf) | (refine And.intro ?_ ?_; (focus (first | with_reducible assumption | ((with_reducible refine vp_in_nI ?_ ?_) <;> omega) | ((with_reducible refine vp_0 ?_); omega) | ((with_reducible refine vp_s1 ?_ ?_) <;> omega) | ((with_reducible refine vp_a1 ?_ ?_) <;> omega) | ((with_reducible refine vp_m1 ?_ ?_) <;> omega) | ((with_reducible refine vp_m2 ?_ ?_) <;> omega))); conv => whnf))
          refine hP _ _ _ _ ?_
          refine go _ ?_
          rw [h82]
          simp only [cnt]
          rw [if_pos (by decide), Nat.add_comm]
          exact sub1
        · conv => whnf
          repeat (first | (refine br_f ?_ ?_; (focus (first | with_reducible assumption | (intro zz; apply zz; with_reducible assumption) | (simp (disch := omega) only [m1lt, nIm1, m1nI, not_true_eq_false, not_false_eq_true, jl, nI_ltI, nI_leI, nI_eq, nI_toInt]; omega) | (simp (disch := omega) only [m1lt, nIm1, m1nI, not_true_eq_false, not_false_eq_true, jl, nI_ltI, nI_leI, nI_eq, nI_toInt]; done))); conv => whnf) | (refine br_t ?_ ?_; (focus (first | with_reducible assumption | (intro zz; apply zz; with_reducible assumption) | (simp (disch := omega) only [m1lt, nIm1, m1nI, not_true_eq_false, not_false_eq_true, jl, nI_ltI, nI_leI, nI_eq, nI_toInt]; omega) | (simp (disch := omega) only [m1lt, nIm1, m1nI, not_true_eq_false, not_false_eq_true, jl, nI_ltI, nI_leI, nI_eq, nI_toInt]; done))); conv => whnf) | (with_reducible refine And.intro nz1 ?_; conv => whnf) | (with_reducible refine And.intro nz0 ?_; conv => whnf) | (refine And.intro ?_ ?_; (focus (first | with_reducible assumption | (intro zz; apply zz; with_reducible assumption) | (simp (disch := omega) only [m1lt, nIm1, m1nI, not_true_eq_false, not_false_eq_true, jl, nI_ltI, nI_leI, nI_eq, nI_toInt]; omega) | (simp (disch := omega) only [m1lt, nIm1, m1nI, not_true_eq_false, not_false_eq_true, jl, nI_ltI, nI_leI, nI_eq, nI_toInt]; done))); conv => whnf) | (refine And.intro ?_ ?_; (focus (first | with_reducible assumption | ((with_reducible refine vp_in_nI ?_ ?_) <;> omega) | ((with_reducible refine vp_0 ?_); omega) | ((with_reducible refine vp_s1 ?_ ?_) <;> omega) | ((with_reducible refine vp_a1 ?_ ?_) <;> omega) | ((with_reducible refine vp_m1 ?_ ?_) <;> omega) | ((with_reducible refine vp_m2 ?_ ?_) <;> omega))); conv => whnf))
          refine hP _ _ _ _ ?_
          have hcn : cnt (x :: r) = cnt r := by
            simp only [cnt]
            rw [if_neg (by omega)]
            omega
          rw [hcn] at h82
          refine ih (cd ++ [x]) _ _ hw2 hc2 h82 (fun y hy => hx y (List.mem_cons_of_mem _ hy)) (by simp; omega) (fun m' hf' => h m' ((f1.tr f2).tr hf'))
    · have e0 : wof least (x :: r) cd = (x :: r, cd) := by simp [wof, hlx]
      rw [e0] at h
      conv => whnf
      repeat (first | (refine br_f ?_ ?_; (focus (first | with_reducible assumption | (intro zz; apply zz; with_reducible assumption) | (simp (disch := omega) only [m1lt, nIm1, m1nI, not_true_eq_false, not_false_eq_true, jl, nI_ltI, nI_leI, nI_eq, nI_toInt]; omega) | (simp (disch := omega) only [m1lt, nIm1, m1nI, not_true_eq_false, not_false_eq_true, jl, nI_ltI, nI_leI, nI_eq, nI_toInt]; done))); conv => whnf) | (refine br_t ?_ ?_; (focus (first | with_reducible assumption | (intro zz; apply zz; with_reducible assumption) | (simp (disch := omega) only [m1lt, nIm1, m1nI, not_true_eq_false, not_false_eq_true, jl, nI_ltI, nI_leI, nI_eq, nI_toInt]; omega) | (simp (disch := omega) only [m1lt, nIm1, m1nI, not_true_eq_false, not_false_eq_true, jl, nI_ltI, nI_leI, nI_eq, nI_toInt]; done))); conv => whnf) | (with_reducible refine And.intro nz1 ?_; conv => whnf) | (with_reducible refine And.intro nz0 ?_; conv => whnf) | (refine And.intro ?_ ?_; (focus (first | with_reducible assumption | (intro zz; apply zz; with_reducible assumption) | (simp (disch := omega) only [m1lt, nIm1, m1nI, not_true_eq_false, not_false_eq_true, jl, nI_ltI, nI_leI, nI_eq, nI_toInt]; omega) | (simp (disch := omega) only [m1lt, nIm1, m1nI, not_true_eq_false, not_false_eq_true, jl, nI_ltI, nI_leI, nI_eq, nI_toInt]; done))); conv => whnf) | (refine And.intro ?_ ?_; (focus (first | with_reducible assumption | ((with_reducible refine vp_in_nI ?_ ?_) <;> omega) | ((with_reducible refine vp_0 ?_); omega) | ((with_reducible refine vp_s1 ?_ ?_) <;> omega) | ((with_reducible refine vp_a1 ?_ ?_) <;> omega) | ((with_reducible refine vp_m1 ?_ ?_) <;> omega) | ((with_reducible refine vp_m2 ?_ ?_) <;> omega))); conv => whnf))
      exact h m (FrT.rf _ _) hw hc h8
theorem s_workOff {least : Nat} (ht : TS t) (h18 : 18 ≤ t) (hle : 20 ≤ least) (hl2 : least < 1000) (hw : WR m w) (hc : CR m t cd) (h8 : m.1 13 8 = nI (cnt w)) (hx : ∀ x ∈ w, x < 100) (hl : cd.length + w.length ≤ 160)
    (h : ∀ m', FrT [7, 8] t m m' → WR m' (wof least w cd).1 → CR m' t (wof least w cd).2 → m'.1 13 8 = nI (cnt (wof least w cd).1) → Q none m') : CT (d + 2) n_X1_workOff [.ref 13, .ref t, .int (nI least)] m Q :=
  ⟨rfl, wo_loop ht h18 hle hl2 w cd m none hw hc h8 hx hl h⟩
theorem s_closes (hw : WR m w) (hx : ∀ x ∈ w, x < 100) (h8 : m.1 13 8 = nI (cnt w)) (h1 : ∀ r, w = 10 :: r → ∀ m', FrR [7, 8] m m' → WR m' r → m'.1 13 8 = nI (cnt r) → Q (some (.int 1)) m') (h0 : (∀ r, w ≠ 10 :: r) → Q (some (.int 0)) m) : CT (d + 2) n_X1_closes [.ref 13] m Q := by
  refine opn cd_X1_closes rfl (fun C P hC hP => ?_)
  conv => whnf
  repeat (first | (refine br_f ?_ ?_; (focus (first | with_reducible assumption | (intro zz; apply zz; with_reducible assumption) | (simp (disch := omega) only [m1lt, nIm1, m1nI, not_true_eq_false, not_false_eq_true, jl, nI_ltI, nI_leI, nI_eq, nI_toInt]; omega) | (simp (disch := omega) only [m1lt, nIm1, m1nI, not_true_eq_false, not_false_eq_true, jl, nI_ltI, nI_leI, nI_eq, nI_toInt]; done))); conv => whnf) | (refine br_t ?_ ?_; (focus (first | with_reducible assumption | (intro zz; apply zz; with_reducible assumption) | (simp (disch := omega) only [m1lt, nIm1, m1nI, not_true_eq_false, not_false_eq_true, jl, nI_ltI, nI_leI, nI_eq, nI_toInt]; omega) | (simp (disch := omega) only [m1lt, nIm1, m1nI, not_true_eq_false, not_false_eq_true, jl, nI_ltI, nI_leI, nI_eq, nI_toInt]; done))); conv => whnf) | (with_reducible refine And.intro nz1 ?_; conv => whnf) | (with_reducible refine And.intro nz0 ?_; conv => whnf) | (refine And.intro ?_ ?_; (focus (first | with_reducible assumption | (intro zz; apply zz; with_reducible assumption) | (simp (disch := omega) only [m1lt, nIm1, m1nI, not_true_eq_false, not_false_eq_true, jl, nI_ltI, nI_leI, nI_eq, nI_toInt]; omega) | (simp (disch := omega) only [m1lt, nIm1, m1nI, not_true_eq_false, not_false_eq_true, jl, nI_ltI, nI_leI, nI_eq, nI_toInt]; done))); conv => whnf) | (refine And.intro ?_ ?_; (focus (first | with_reducible assumption | ((with_reducible refine vp_in_nI ?_ ?_) <;> omega) | ((with_reducible refine vp_0 ?_); omega) | ((with_reducible refine vp_s1 ?_ ?_) <;> omega) | ((with_reducible refine vp_a1 ?_ ?_) <;> omega) | ((with_reducible refine vp_m1 ?_ ?_) <;> omega) | ((with_reducible refine vp_m2 ?_ ?_) <;> omega))); conv => whnf))
  refine useC hC (s_top hw ?_)
  cases w with
  | nil =>
    simp only [topI]
    conv => whnf
    repeat (first | (refine br_f ?_ ?_; (focus (first | with_reducible assumption | (intro zz; apply zz; with_reducible assumption) | (simp (disch := omega) only [m1lt, nIm1, m1nI, not_true_eq_false, not_false_eq_true, jl, nI_ltI, nI_leI, nI_eq, nI_toInt]; omega) | (simp (disch := omega) only [m1lt, nIm1, m1nI, not_true_eq_false, not_false_eq_true, jl, nI_ltI, nI_leI, nI_eq, nI_toInt]; done))); conv => whnf) | (refine br_t ?_ ?_; (focus (first | with_reducible assumption | (intro zz; apply zz; with_reducible assumption) | (simp (disch := omega) only [m1lt, nIm1, m1nI, not_true_eq_false, not_false_eq_true, jl, nI_ltI, nI_leI, nI_eq, nI_toInt]; omega) | (simp (disch := omega) only [m1lt, nIm1, m1nI, not_true_eq_false, not_false_eq_true, jl, nI_ltI, nI_leI, nI_eq, nI_toInt]; done))); conv => whnf) | (with_reducible refine And.intro nz1 ?_; conv => whnf) | (with_reducible refine And.intro nz0 ?_; conv => whnf) | (refine And.intro ?_ ?_; (focus (first | with_reducible assumption | (intro zz; apply zz; with_reducible assumption) | (simp (disch := omega) only [m1lt, nIm1, m1nI, not_true_eq_false, not_false_eq_true, jl, nI_ltI, nI_leI, nI_eq, nI_toInt]; omega) | (simp (disch := omega) only [m1lt, nIm1, m1nI, not_true_eq_false, not_false_eq_true, jl, nI_ltI, nI_leI, nI_eq, nI_toInt]; done))); conv => whnf) | (refine And.intro ?_ ?_; (focus (first | with_reducible assumption | ((with_reducible refine vp_in_nI ?_ ?_) <;> omega) | ((with_reducible refine vp_0 ?_); omega) | ((with_reducible refine vp_s1 ?_ ?_) <;> omega) | ((with_reducible refine vp_a1 ?_ ?_) <;> omega) | ((with_reducible refine vp_m1 ?_ ?_) <;> omega) | ((with_reducible refine vp_m2 ?_ ?_) <;> omega))); conv => whnf))
    exact h0 (fun r => by simp)
  | cons x r =>
    have hx100 := hx x List.mem_cons_self
    simp only [topI]
    by_cases h10 : x = 10
    · subst h10
      have h7 := hw.1
      have hl := hw.2.1
      simp only [List.length_cons] at h7 hl
      conv => whnf
      repeat (first | (refine br_f ?_ ?_; (focus (first | with_reducible assumption | (intro zz; apply zz; with_reducible assumption) | (simp (disch := omega) only [m1lt, nIm1, m1nI, not_true_eq_false, not_false_eq_true, jl, nI_ltI, nI_leI, nI_eq, nI_toInt]; omega) | (simp (disch := omega) only [m1lt, nIm1, m1nI, not_true_eq_false, not_false_eq_true, jl, nI_ltI, nI_leI, nI_eq, nI_toInt]; done))); conv => whnf) | (refine br_t ?_ ?_; (focus (first | with_reducible assumption | (intro zz; apply zz; with_reducible assumption) | (simp (disch := omega) only [m1lt, nIm1, m1nI, not_true_eq_false, not_false_eq_true, jl, nI_ltI, nI_leI, nI_eq, nI_toInt]; omega) | (simp (disch := omega) only [m1lt, nIm1, m1nI, not_true_eq_false, not_false_eq_true, jl, nI_ltI, nI_leI, nI_eq, nI_toInt]; done))); conv => whnf) | (with_reducible refine And.intro nz1 ?_; conv => whnf) | (with_reducible refine And.intro nz0 ?_; conv => whnf) | (refine And.intro ?_ ?_; (focus (first | with_reducible assumption | (intro zz; apply zz; with_reducible assumption) | (simp (disch := omega) only [m1lt, nIm1, m1nI, not_true_eq_false, not_false_eq_true, jl, nI_ltI, nI_leI, nI_eq, nI_toInt]; omega) | (simp (disch := omega) only [m1lt, nIm1, m1nI, not_true_eq_false, not_false_eq_true, jl, nI_ltI, nI_leI, nI_eq, nI_toInt]; done))); conv => whnf) | (refine And.intro ?_ ?_; (focus (first | with_reducible assumption | ((with_reducible refine vp_in_nI ?_ ?_) <;> omega) | ((with_reducible refine vp_0 ?_); omega) | ((with_reducible refine vp_s1 ?_ ?_) <;> omega) | ((with_reducible refine vp_a1 ?_ ?_) <;> omega) | ((with_reducible refine vp_m1 ?_ ?_) <;> omega) | ((with_reducible refine vp_m2 ?_ ?_) <;> omega))); conv => whnf))
      have hcn : cnt (10 :: r) = cnt r + 1 := by simp [cnt]; omega
      rw [hcn] at h8
      simp (disch := decide) only [h7, h8, sub1, mu_at]
      simp only [Nat.reduceEqDiff, if_false]
      refine h1 r rfl _ ⟨⟨rfl, fun a ha => ?_⟩, fun s hs => ?_⟩ ⟨?_, by omega, fun j hj => ?_⟩ ?_
      · simp only [List.mem_cons, List.not_mem_nil, or_false] at ha
        simp only [mu_ne ha]
      · simp only [mu_at]
        rw [if_neg (fun z => hs (by simp [z])), if_neg (fun z => hs (by simp [z]))]
      · simp only [mu_at]
        simp
      · simp (disch := decide) only [mu_ne]
        have := hw.2.2 (j + 1) (by simp; omega)
        simp only [List.length_cons] at this
        rw [show r.length + 1 - 1 - (j + 1) = r.length - 1 - j by omega] at this
        simpa using this
      · simp only [mu_at]
        simp
        exact sub1
    · conv => whnf
      repeat (first | (refine br_f ?_ ?_; (focus (first | with_reducible assumption | (intro zz; apply zz; with_reducible assumption) | (simp (disch := omega) only [m1lt, nIm1, m1nI, not_true_eq_false, not_false_eq_true, jl, nI_ltI, nI_leI, nI_eq, nI_toInt]; omega) | (simp (disch := omega) only [m1lt, nIm1, m1nI, not_true_eq_false, not_false_eq_true, jl, nI_ltI, nI_leI, nI_eq, nI_toInt]; done))); conv => whnf) | (refine br_t ?_ ?_; (focus (first | with_reducible assumption | (intro zz; apply zz; with_reducible assumption) | (simp (disch := omega) only [m1lt, nIm1, m1nI, not_true_eq_false, not_false_eq_true, jl, nI_ltI, nI_leI, nI_eq, nI_toInt]; omega) | (simp (disch := omega) only [m1lt, nIm1, m1nI, not_true_eq_false, not_false_eq_true, jl, nI_ltI, nI_leI, nI_eq, nI_toInt]; done))); conv => whnf) | (with_reducible refine And.intro nz1 ?_; conv => whnf) | (with_reducible refine And.intro nz0 ?_; conv => whnf) | (refine And.intro ?_ ?_; (focus (first | with_reducible assumption | (intro zz; apply zz; with_reducible assumption) | (simp (disch := omega) only [m1lt, nIm1, m1nI, not_true_eq_false, not_false_eq_true, jl, nI_ltI, nI_leI, nI_eq, nI_toInt]; omega) | (simp (disch := omega) only [m1lt, nIm1, m1nI, not_true_eq_false, not_false_eq_true, jl, nI_ltI, nI_leI, nI_eq, nI_toInt]; done))); conv => whnf) | (refine And.intro ?_ ?_; (focus (first | with_reducible assumption | ((with_reducible refine vp_in_nI ?_ ?_) <;> omega) | ((with_reducible refine vp_0 ?_); omega) | ((with_reducible refine vp_s1 ?_ ?_) <;> omega) | ((with_reducible refine vp_a1 ?_ ?_) <;> omega) | ((with_reducible refine vp_m1 ?_ ?_) <;> omega) | ((with_reducible refine vp_m2 ?_ ?_) <;> omega))); conv => whnf))
      exact h0 (fun r2 z => h10 (List.cons.inj z).1)
end WTS
