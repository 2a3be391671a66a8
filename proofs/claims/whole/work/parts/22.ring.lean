/-! RINGS OF THE CLASS: n cards, the codes c -/
theorem jl (n : Nat) : (OfNat.ofNat n : Int32) = nI n := rfl
def RS (k : Nat) : Prop := SH[k]? = some (.inl (2, [k + 4, 0])) ∧ SH[k + 1]? = some (.inr (.inl (0, 16)))
theorem RS1 : RS 1 := ⟨rfl, rfl⟩
theorem RS3 : RS 3 := ⟨rfl, rfl⟩
theorem RS5 : RS 5 := ⟨rfl, rfl⟩
def RG (m : Mm) (k n : Nat) (c : Nat → Nat) : Prop := m.1 k 1 = nI n ∧ n ≤ 16 ∧ ∀ i, i < n → c i < 60 ∧ m.1 (k + 1) i = nI (c i)
/-- nothing else changed than the cells of the list -/
def Fr (L : List Nat) (m m' : Mm) : Prop := m'.2 = m.2 ∧ ∀ a, a ∉ L → m'.1 a = m.1 a
theorem Fr.rf {m : Mm} : Fr [] m m := ⟨rfl, fun _ _ => rfl⟩
theorem Fr.tr {L1 L2 L : List Nat} {m m1 m2 : Mm} (h1 : Fr L1 m m1) (h2 : Fr L2 m1 m2) (s1 : ∀ a, a ∈ L1 → a ∈ L) (s2 : ∀ a, a ∈ L2 → a ∈ L) : Fr L m m2 := ⟨h2.1.trans h1.1, fun a ha => (h2.2 a (fun z => ha (s2 a z))).trans (h1.2 a (fun z => ha (s1 a z)))⟩
theorem Fr.up {L1 L : List Nat} {m m1 : Mm} (h1 : Fr L1 m m1) (s1 : ∀ a, a ∈ L1 → a ∈ L) : Fr L m m1 := ⟨h1.1, fun a ha => h1.2 a (fun z => ha (s1 a z))⟩
theorem Fr.mu {m : Mm} {k j : Nat} {v : Int32} : Fr [k] m (mu m.1 k j v, m.2) := ⟨rfl, fun a ha => mu_ne (fun z => ha (by simp [z]))⟩
theorem mu_at {f : Nat → Nat → Int32} {k j i : Nat} {v : Int32} : mu f k j v k i = if i = j then v else f k i := by simp [mu]
theorem RG.fr {L : List Nat} {m m' : Mm} {k n : Nat} {c : Nat → Nat} (h : RG m k n c) (hf : Fr L m m') (h1 : k ∉ L) (h2 : k + 1 ∉ L) : RG m' k n c := by
  unfold RG
  rw [hf.2 k h1, hf.2 (k + 1) h2]
  exact h
def cup (c : Nat → Nat) (i x : Nat) : Nat → Nat := fun j => if j = i then x else c j
theorem RG.put {m : Mm} {k n i x : Nat} {c : Nat → Nat} (h : RG m k n c) (hx : x < 60) : RG (mu m.1 (k + 1) i (nI x), m.2) k n (cup c i x) := by
  refine ⟨?_, h.2.1, fun j hj => ?_⟩
  · show mu m.1 (k + 1) i (nI x) k 1 = nI n
    rw [mu_ne (by omega)]
    exact h.1
  · show _ ∧ mu m.1 (k + 1) i (nI x) (k + 1) j = _
    rw [mu_at]
    unfold cup
    split
    · exact ⟨hx, rfl⟩
    · exact h.2.2 j hj
theorem div10 {a : Nat} (h : a < 60) : nI a / 10 = nI (a / 10) := pk_div (by omega) (by decide) (by decide)
theorem rem10 {a : Nat} (h : a < 60) : nI a - nI a / 10 * 10 = nI (a % 10) := pk_rem (by omega) (by decide) (by decide)
theorem div2 {a : Nat} (h : a ≤ 16) : nI a / 2 = nI (a / 2) := pk_div (by omega) (by decide) (by decide)
/-- how far a card of code x points, on place i, turned from place q -/
def pts (n x i q : Nat) : Int32 := if x / 10 = 1 then -nI (x % 10) else if x / 10 = 2 then nI (n / 2) else if x / 10 = 3 then (if q = i then -nI (x % 10) else nI q - nI i) else if x / 10 = 4 then nI (n / 2 + 1) else nI (x % 10)
def pys (x : Nat) (v : Int32) : Int32 := if x / 10 = 1 then v + nI (x % 10) else if x / 10 = 2 then 2 * v else if x / 10 = 3 then v + nI (x % 10) - 1 else if x / 10 = 4 then 2 * v else if x / 10 = 5 then v - 7 else v
def RZ (m : Mm) (k n : Nat) : Prop := m.1 k 1 = nI n ∧ n ≤ 16
theorem RG.z {m : Mm} {k n : Nat} {c : Nat → Nat} (h : RG m k n c) : RZ m k n := ⟨h.1, h.2.1⟩
section RNG
variable {d k n i : Nat} {c : Nat → Nat} {m : Mm} {Q : Qr}
theorem s_size (hr : RS k) (h : Q (some (.int (m.1 k 1))) m) : CT (d + 1) n_X2_size [.ref k] m Q := by
  obtain ⟨hk, ha⟩ := hr
  refine opn cd_X2_size rfl (fun C P hC hP => ?_)
  conv => whnf
  repeat (first | (rw [hk]; conv => whnf) | (refine br_f ?_ ?_; (first | assumption | (simp (disch := omega) only [jl, nI_ltI, nI_leI, nI_eq, nI_toInt]; omega) | (simp (disch := omega) only [jl, nI_ltI, nI_leI, nI_eq, nI_toInt]; done) | decide); conv => whnf) | (refine br_t ?_ ?_; (first | assumption | (simp (disch := omega) only [jl, nI_ltI, nI_leI, nI_eq, nI_toInt]; omega) | (simp (disch := omega) only [jl, nI_ltI, nI_leI, nI_eq, nI_toInt]; done) | decide); conv => whnf) | (refine And.intro ?_ ?_; rfl; conv => whnf) | (refine And.intro ?_ ?_; decide; conv => whnf) | (refine And.intro ?_ ?_; (first | assumption | (refine vp_in_nI ?_ ?_ <;> omega)); conv => whnf))
  exact h
theorem s_isFull (hr : RS k) (hg : RZ m k n) (h : Q (some (.int (if n = 16 then 1 else 0))) m) : CT (d + 1) n_X2_isFull [.ref k] m Q := by
  obtain ⟨hk, ha⟩ := hr
  obtain ⟨hs, hn⟩ := hg
  refine opn cd_X2_isFull rfl (fun C P hC hP => ?_)
  by_cases h16 : n = 16
  · rw [if_pos h16] at h
    conv => whnf
    repeat (first | (rw [hk]; conv => whnf) | (rw [ha]; conv => whnf) | (refine br_f ?_ ?_; (first | assumption | (simp (disch := omega) only [hs, jl, nI_ltI, nI_leI, nI_eq, nI_toInt]; omega) | (simp (disch := omega) only [hs, jl, nI_ltI, nI_leI, nI_eq, nI_toInt]; done) | decide); conv => whnf) | (refine br_t ?_ ?_; (first | assumption | (simp (disch := omega) only [hs, jl, nI_ltI, nI_leI, nI_eq, nI_toInt]; omega) | (simp (disch := omega) only [hs, jl, nI_ltI, nI_leI, nI_eq, nI_toInt]; done) | decide); conv => whnf) | (refine And.intro ?_ ?_; rfl; conv => whnf) | (refine And.intro ?_ ?_; decide; conv => whnf) | (refine And.intro ?_ ?_; (first | assumption | (refine vp_in_nI ?_ ?_ <;> omega)); conv => whnf))
    exact h
  · rw [if_neg h16] at h
    conv => whnf
    repeat (first | (rw [hk]; conv => whnf) | (rw [ha]; conv => whnf) | (refine br_f ?_ ?_; (first | assumption | (simp (disch := omega) only [hs, jl, nI_ltI, nI_leI, nI_eq, nI_toInt]; omega) | (simp (disch := omega) only [hs, jl, nI_ltI, nI_leI, nI_eq, nI_toInt]; done) | decide); conv => whnf) | (refine br_t ?_ ?_; (first | assumption | (simp (disch := omega) only [hs, jl, nI_ltI, nI_leI, nI_eq, nI_toInt]; omega) | (simp (disch := omega) only [hs, jl, nI_ltI, nI_leI, nI_eq, nI_toInt]; done) | decide); conv => whnf) | (refine And.intro ?_ ?_; rfl; conv => whnf) | (refine And.intro ?_ ?_; decide; conv => whnf) | (refine And.intro ?_ ?_; (first | assumption | (refine vp_in_nI ?_ ?_ <;> omega)); conv => whnf))
    exact h
theorem s_has (hr : RS k) (hg : RZ m k n) (hi : i < n) (h : Q (some (.int 1)) m) : CT (d + 1) n_X2_has [.ref k, .int (nI i)] m Q := by
  obtain ⟨hk, ha⟩ := hr
  obtain ⟨hs, hn⟩ := hg
  refine opn cd_X2_has rfl (fun C P hC hP => ?_)
  conv => whnf
  repeat (first | (rw [hk]; conv => whnf) | (rw [ha]; conv => whnf) | (refine br_f ?_ ?_; (first | assumption | (simp (disch := omega) only [hs, jl, nI_ltI, nI_leI, nI_eq, nI_toInt]; omega) | (simp (disch := omega) only [hs, jl, nI_ltI, nI_leI, nI_eq, nI_toInt]; done) | decide); conv => whnf) | (refine br_t ?_ ?_; (first | assumption | (simp (disch := omega) only [hs, jl, nI_ltI, nI_leI, nI_eq, nI_toInt]; omega) | (simp (disch := omega) only [hs, jl, nI_ltI, nI_leI, nI_eq, nI_toInt]; done) | decide); conv => whnf) | (refine And.intro ?_ ?_; rfl; conv => whnf) | (refine And.intro ?_ ?_; decide; conv => whnf) | (refine And.intro ?_ ?_; (first | assumption | (refine vp_in_nI ?_ ?_ <;> omega)); conv => whnf))
  exact h
theorem s_hasNo {p : Int32} (hr : RS k) (hg : RZ m k n) (hp : ∀ i, i < n → p ≠ nI i) (h : Q (some (.int 0)) m) : CT (d + 1) n_X2_has [.ref k, .int p] m Q := by
  obtain ⟨hk, ha⟩ := hr
  obtain ⟨hs, hn⟩ := hg
  refine opn cd_X2_has rfl (fun C P hC hP => ?_)
  rcases pk_ix p (n := n) (by omega) with h0 | h0 | ⟨j, hj, h0⟩
  · conv => whnf
    repeat (first | (rw [hk]; conv => whnf) | (rw [ha]; conv => whnf) | (refine br_f ?_ ?_; (first | assumption | (simp (disch := omega) only [hs, jl, nI_ltI, nI_leI, nI_eq, nI_toInt]; omega) | (simp (disch := omega) only [hs, jl, nI_ltI, nI_leI, nI_eq, nI_toInt]; done) | decide); conv => whnf) | (refine br_t ?_ ?_; (first | assumption | (simp (disch := omega) only [hs, jl, nI_ltI, nI_leI, nI_eq, nI_toInt]; omega) | (simp (disch := omega) only [hs, jl, nI_ltI, nI_leI, nI_eq, nI_toInt]; done) | decide); conv => whnf) | (refine And.intro ?_ ?_; rfl; conv => whnf) | (refine And.intro ?_ ?_; decide; conv => whnf) | (refine And.intro ?_ ?_; (first | assumption | (refine vp_in_nI ?_ ?_ <;> omega)); conv => whnf))
    exact h
  · conv => whnf
    refine br_c (fun _ => ?_) (fun h1 => ?_)
    · conv => whnf
      repeat (first | (rw [hk]; conv => whnf) | (rw [ha]; conv => whnf) | (refine br_f ?_ ?_; (first | assumption | (simp (disch := omega) only [hs, jl, nI_ltI, nI_leI, nI_eq, nI_toInt]; omega) | (simp (disch := omega) only [hs, jl, nI_ltI, nI_leI, nI_eq, nI_toInt]; done) | decide); conv => whnf) | (refine br_t ?_ ?_; (first | assumption | (simp (disch := omega) only [hs, jl, nI_ltI, nI_leI, nI_eq, nI_toInt]; omega) | (simp (disch := omega) only [hs, jl, nI_ltI, nI_leI, nI_eq, nI_toInt]; done) | decide); conv => whnf) | (refine And.intro ?_ ?_; rfl; conv => whnf) | (refine And.intro ?_ ?_; decide; conv => whnf) | (refine And.intro ?_ ?_; (first | assumption | (refine vp_in_nI ?_ ?_ <;> omega)); conv => whnf))
      exact h
    · conv => whnf
      repeat (first | (rw [hk]; conv => whnf) | (rw [ha]; conv => whnf) | (refine br_f ?_ ?_; (first | assumption | (simp (disch := omega) only [hs, jl, nI_ltI, nI_leI, nI_eq, nI_toInt]; omega) | (simp (disch := omega) only [hs, jl, nI_ltI, nI_leI, nI_eq, nI_toInt]; done) | decide); conv => whnf) | (refine br_t ?_ ?_; (first | assumption | (simp (disch := omega) only [hs, jl, nI_ltI, nI_leI, nI_eq, nI_toInt]; omega) | (simp (disch := omega) only [hs, jl, nI_ltI, nI_leI, nI_eq, nI_toInt]; done) | decide); conv => whnf) | (refine And.intro ?_ ?_; rfl; conv => whnf) | (refine And.intro ?_ ?_; decide; conv => whnf) | (refine And.intro ?_ ?_; (first | assumption | (refine vp_in_nI ?_ ?_ <;> omega)); conv => whnf))
      exact h
  · exact absurd h0 (hp j hj)
theorem s_at (hr : RS k) (hg : RG m k n c) (hi : i < n) (h : Q (some (.int (nI (c i)))) m) : CT (d + 1) n_X2_at [.ref k, .int (nI i)] m Q := by
  obtain ⟨hk, ha⟩ := hr
  obtain ⟨hs, hn, hc⟩ := hg
  refine opn cd_X2_at rfl (fun C P hC hP => ?_)
  conv => whnf
  repeat (first | (rw [hk]; conv => whnf) | (rw [ha]; conv => whnf) | (refine br_f ?_ ?_; (first | assumption | (simp (disch := omega) only [hs, jl, nI_ltI, nI_leI, nI_eq, nI_toInt]; omega) | (simp (disch := omega) only [hs, jl, nI_ltI, nI_leI, nI_eq, nI_toInt]; done) | decide); conv => whnf) | (refine br_t ?_ ?_; (first | assumption | (simp (disch := omega) only [hs, jl, nI_ltI, nI_leI, nI_eq, nI_toInt]; omega) | (simp (disch := omega) only [hs, jl, nI_ltI, nI_leI, nI_eq, nI_toInt]; done) | decide); conv => whnf) | (refine And.intro ?_ ?_; rfl; conv => whnf) | (refine And.intro ?_ ?_; decide; conv => whnf) | (refine And.intro ?_ ?_; (first | assumption | (refine vp_in_nI ?_ ?_ <;> omega)); conv => whnf))
  rw [nI_clamp (by omega), (hc i hi).2]
  exact h
theorem s_kindAt (hr : RS k) (hg : RG m k n c) (hi : i < n) (h : Q (some (.int (nI (c i / 10)))) m) : CT (d + 2) n_X2_kindAt [.ref k, .int (nI i)] m Q := by
  refine opn cd_X2_kindAt rfl (fun C P hC hP => ?_)
  conv => whnf
  repeat (first | (rw [hr.1]; conv => whnf) | (refine br_f ?_ ?_; (first | assumption | (simp (disch := omega) only [jl, nI_ltI, nI_leI, nI_eq, nI_toInt]; omega) | (simp (disch := omega) only [jl, nI_ltI, nI_leI, nI_eq, nI_toInt]; done) | decide); conv => whnf) | (refine br_t ?_ ?_; (first | assumption | (simp (disch := omega) only [jl, nI_ltI, nI_leI, nI_eq, nI_toInt]; omega) | (simp (disch := omega) only [jl, nI_ltI, nI_leI, nI_eq, nI_toInt]; done) | decide); conv => whnf) | (refine And.intro ?_ ?_; rfl; conv => whnf) | (refine And.intro ?_ ?_; decide; conv => whnf) | (refine And.intro ?_ ?_; (first | assumption | (refine vp_in_nI ?_ ?_ <;> omega)); conv => whnf))
  refine useC hC (s_at hr hg hi ?_)
  conv => whnf
  repeat (first | (refine br_f ?_ ?_; (first | assumption | (simp (disch := omega) only [jl, nI_ltI, nI_leI, nI_eq, nI_toInt]; omega) | (simp (disch := omega) only [jl, nI_ltI, nI_leI, nI_eq, nI_toInt]; done) | decide); conv => whnf) | (refine br_t ?_ ?_; (first | assumption | (simp (disch := omega) only [jl, nI_ltI, nI_leI, nI_eq, nI_toInt]; omega) | (simp (disch := omega) only [jl, nI_ltI, nI_leI, nI_eq, nI_toInt]; done) | decide); conv => whnf) | (refine And.intro ?_ ?_; rfl; conv => whnf) | (refine And.intro ?_ ?_; decide; conv => whnf) | (refine And.intro ?_ ?_; (first | assumption | (refine vp_in_nI ?_ ?_ <;> omega)); conv => whnf))
  rw [← div10 (hg.2.2 i hi).1] at h
  exact h
theorem s_numberAt (hr : RS k) (hg : RG m k n c) (hi : i < n) (h : Q (some (.int (nI (c i % 10)))) m) : CT (d + 2) n_X2_numberAt [.ref k, .int (nI i)] m Q := by
  refine opn cd_X2_numberAt rfl (fun C P hC hP => ?_)
  conv => whnf
  repeat (first | (rw [hr.1]; conv => whnf) | (refine br_f ?_ ?_; (first | assumption | (simp (disch := omega) only [jl, nI_ltI, nI_leI, nI_eq, nI_toInt]; omega) | (simp (disch := omega) only [jl, nI_ltI, nI_leI, nI_eq, nI_toInt]; done) | decide); conv => whnf) | (refine br_t ?_ ?_; (first | assumption | (simp (disch := omega) only [jl, nI_ltI, nI_leI, nI_eq, nI_toInt]; omega) | (simp (disch := omega) only [jl, nI_ltI, nI_leI, nI_eq, nI_toInt]; done) | decide); conv => whnf) | (refine And.intro ?_ ?_; rfl; conv => whnf) | (refine And.intro ?_ ?_; decide; conv => whnf) | (refine And.intro ?_ ?_; (first | assumption | (refine vp_in_nI ?_ ?_ <;> omega)); conv => whnf))
  refine useC hC (s_at hr hg hi ?_)
  conv => whnf
  repeat (first | (refine br_f ?_ ?_; (first | assumption | (simp (disch := omega) only [jl, nI_ltI, nI_leI, nI_eq, nI_toInt]; omega) | (simp (disch := omega) only [jl, nI_ltI, nI_leI, nI_eq, nI_toInt]; done) | decide); conv => whnf) | (refine br_t ?_ ?_; (first | assumption | (simp (disch := omega) only [jl, nI_ltI, nI_leI, nI_eq, nI_toInt]; omega) | (simp (disch := omega) only [jl, nI_ltI, nI_leI, nI_eq, nI_toInt]; done) | decide); conv => whnf) | (refine And.intro ?_ ?_; rfl; conv => whnf) | (refine And.intro ?_ ?_; decide; conv => whnf) | (refine And.intro ?_ ?_; (first | assumption | (refine vp_in_nI ?_ ?_ <;> omega)); conv => whnf))
  rw [← rem10 (hg.2.2 i hi).1] at h
  exact h
theorem s_put {v : Int32} (hr : RS k) (hg : RZ m k n) (hi : i < n) (h : Q none (mu m.1 (k + 1) i v, m.2)) : CT (d + 2) n_X2_put [.ref k, .int (nI i), .int v] m Q := by
  refine opn cd_X2_put rfl (fun C P hC hP => ?_)
  conv => whnf
  repeat (first | (rw [hr.1]; conv => whnf) | (refine br_f ?_ ?_; (first | assumption | (simp (disch := omega) only [jl, nI_ltI, nI_leI, nI_eq, nI_toInt]; omega) | (simp (disch := omega) only [jl, nI_ltI, nI_leI, nI_eq, nI_toInt]; done) | decide); conv => whnf) | (refine br_t ?_ ?_; (first | assumption | (simp (disch := omega) only [jl, nI_ltI, nI_leI, nI_eq, nI_toInt]; omega) | (simp (disch := omega) only [jl, nI_ltI, nI_leI, nI_eq, nI_toInt]; done) | decide); conv => whnf) | (refine And.intro ?_ ?_; rfl; conv => whnf) | (refine And.intro ?_ ?_; decide; conv => whnf) | (refine And.intro ?_ ?_; (first | assumption | (refine vp_in_nI ?_ ?_ <;> omega)); conv => whnf))
  refine useC hC (s_has hr hg hi ?_)
  have hn := hg.2
  conv => whnf
  repeat (first | (rw [hr.1]; conv => whnf) | (rw [hr.2]; conv => whnf) | (refine br_f ?_ ?_; (first | assumption | (simp (disch := omega) only [jl, nI_ltI, nI_leI, nI_eq, nI_toInt]; omega) | (simp (disch := omega) only [jl, nI_ltI, nI_leI, nI_eq, nI_toInt]; done) | decide); conv => whnf) | (refine br_t ?_ ?_; (first | assumption | (simp (disch := omega) only [jl, nI_ltI, nI_leI, nI_eq, nI_toInt]; omega) | (simp (disch := omega) only [jl, nI_ltI, nI_leI, nI_eq, nI_toInt]; done) | decide); conv => whnf) | (refine And.intro ?_ ?_; rfl; conv => whnf) | (refine And.intro ?_ ?_; decide; conv => whnf) | (refine And.intro ?_ ?_; (first | assumption | (refine vp_in_nI ?_ ?_ <;> omega)); conv => whnf))
  rw [nI_clamp (by omega)]
  exact h
theorem s_add {x : Nat} (hr : RS k) (hg : RG m k n c) (hn : n < 16) (hx : x < 60) (h : ∀ m', RG m' k (n + 1) (cup c n x) → Fr [k, k + 1] m m' → Q (some (.int (nI n))) m') : CT (d + 3) n_X2_add [.ref k, .int (nI x)] m Q := by
  refine opn cd_X2_add rfl (fun C P hC hP => ?_)
  conv => whnf
  repeat (first | (rw [hr.1]; conv => whnf) | (refine br_f ?_ ?_; (first | assumption | (simp (disch := omega) only [jl, nI_ltI, nI_leI, nI_eq, nI_toInt]; omega) | (simp (disch := omega) only [jl, nI_ltI, nI_leI, nI_eq, nI_toInt]; done) | decide); conv => whnf) | (refine br_t ?_ ?_; (first | assumption | (simp (disch := omega) only [jl, nI_ltI, nI_leI, nI_eq, nI_toInt]; omega) | (simp (disch := omega) only [jl, nI_ltI, nI_leI, nI_eq, nI_toInt]; done) | decide); conv => whnf) | (refine And.intro ?_ ?_; rfl; conv => whnf) | (refine And.intro ?_ ?_; decide; conv => whnf) | (refine And.intro ?_ ?_; (first | assumption | (refine vp_in_nI ?_ ?_ <;> omega)); conv => whnf))
  refine useC hC (s_isFull hr hg.z ?_)
  rw [if_neg (by omega)]
  conv => whnf
  repeat (first | (rw [hr.1]; conv => whnf) | (refine br_f ?_ ?_; (first | assumption | (simp (disch := omega) only [jl, nI_ltI, nI_leI, nI_eq, nI_toInt]; omega) | (simp (disch := omega) only [jl, nI_ltI, nI_leI, nI_eq, nI_toInt]; done) | decide); conv => whnf) | (refine br_t ?_ ?_; (first | assumption | (simp (disch := omega) only [jl, nI_ltI, nI_leI, nI_eq, nI_toInt]; omega) | (simp (disch := omega) only [jl, nI_ltI, nI_leI, nI_eq, nI_toInt]; done) | decide); conv => whnf) | (refine And.intro ?_ ?_; rfl; conv => whnf) | (refine And.intro ?_ ?_; decide; conv => whnf) | (refine And.intro ?_ ?_; (first | assumption | (refine vp_in_nI ?_ ?_ <;> omega)); conv => whnf))
  have e1 : m.1 k 1 + 1 = nI (n + 1) := by rw [hg.1]; exact nI_1 n
  have e2 : mu m.1 k 1 (m.1 k 1 + 1) k 1 - 1 = nI n := by
    rw [mu_at, if_pos rfl, e1]
    exact pk_sub (a := n + 1) (b := 1) (Nat.le_add_left _ _)
  have hz : RZ (mu m.1 k 1 (m.1 k 1 + 1), m.2) k (n + 1) := ⟨by show mu _ k 1 _ k 1 = _; rw [mu_at, if_pos rfl, e1], by omega⟩
  refine useC hC ?_
  show CT (d + 2) n_X2_put [.ref k, .int (mu m.1 k 1 (m.1 k 1 + 1) k 1 - 1), .int (nI x)] (mu m.1 k 1 (m.1 k 1 + 1), m.2) _
  rw [e2]
  refine s_put hr hz (by omega) ?_
  conv => whnf
  repeat (first | (rw [hr.1]; conv => whnf) | (refine br_f ?_ ?_; (first | assumption | (simp (disch := omega) only [jl, nI_ltI, nI_leI, nI_eq, nI_toInt]; omega) | (simp (disch := omega) only [jl, nI_ltI, nI_leI, nI_eq, nI_toInt]; done) | decide); conv => whnf) | (refine br_t ?_ ?_; (first | assumption | (simp (disch := omega) only [jl, nI_ltI, nI_leI, nI_eq, nI_toInt]; omega) | (simp (disch := omega) only [jl, nI_ltI, nI_leI, nI_eq, nI_toInt]; done) | decide); conv => whnf) | (refine And.intro ?_ ?_; rfl; conv => whnf) | (refine And.intro ?_ ?_; decide; conv => whnf) | (refine And.intro ?_ ?_; (first | assumption | (refine vp_in_nI ?_ ?_ <;> omega)); conv => whnf))
  have e3 : mu (mu m.1 k 1 (m.1 k 1 + 1)) (k + 1) n (nI x) k 1 = nI (n + 1) := by rw [mu_ne (by omega), mu_at, if_pos rfl, e1]
  show Q (some (.int (mu (mu m.1 k 1 (m.1 k 1 + 1)) (k + 1) n (nI x) k 1 - 1))) _
  rw [e3, show nI (n + 1) - 1 = nI n from pk_sub (a := n + 1) (b := 1) (Nat.le_add_left _ _)]
  refine h _ ⟨e3, by omega, fun i hi => ?_⟩ (Fr.tr (L := [k, k + 1]) Fr.mu Fr.mu (by simp) (by simp))
  show _ ∧ mu (mu m.1 k 1 _) (k + 1) n (nI x) (k + 1) i = _
  rw [mu_at]
  unfold cup
  split
  · exact ⟨hx, rfl⟩
  · rw [mu_ne (by omega)]
    exact hg.2.2 i (by omega)
theorem s_dropLast (hr : RS k) (hg : RG m k (n + 1) c) (h : ∀ m', RG m' k n c → Fr [k] m m' → Q none m') : CT (d + 1) n_X2_dropLast [.ref k] m Q := by
  refine opn cd_X2_dropLast rfl (fun C P hC hP => ?_)
  have hs := hg.1
  have hn := hg.2.1
  conv => whnf
  repeat (first | (rw [hr.1]; conv => whnf) | (refine br_f ?_ ?_; (first | assumption | (simp (disch := omega) only [hs, jl, nI_ltI, nI_leI, nI_eq, nI_toInt]; omega) | (simp (disch := omega) only [hs, jl, nI_ltI, nI_leI, nI_eq, nI_toInt]; done) | decide); conv => whnf) | (refine br_t ?_ ?_; (first | assumption | (simp (disch := omega) only [hs, jl, nI_ltI, nI_leI, nI_eq, nI_toInt]; omega) | (simp (disch := omega) only [hs, jl, nI_ltI, nI_leI, nI_eq, nI_toInt]; done) | decide); conv => whnf) | (refine And.intro ?_ ?_; rfl; conv => whnf) | (refine And.intro ?_ ?_; decide; conv => whnf) | (refine And.intro ?_ ?_; (first | assumption | (refine vp_in_nI ?_ ?_ <;> omega)); conv => whnf))
  refine h _ ⟨?_, by omega, fun i hi => ?_⟩ Fr.mu
  · show mu _ k 1 _ k 1 = _
    rw [mu_at, if_pos rfl]
    show m.1 k 1 - 1 = _
    rw [hs]
    show nI (n + 1) - nI 1 = nI n
    exact pk_sub (by omega)
  · show _ ∧ mu _ k 1 _ (k + 1) i = _
    rw [mu_ne (by omega)]
    exact hg.2.2 i (by omega)
theorem s_exchange {a b : Nat} (hr : RS k) (hg : RG m k n c) (ha : a < n) (hb : b < n) (h : ∀ m', RG m' k n (cup (cup c a (c b)) b (c a)) → Fr [k + 1] m m' → Q none m') : CT (d + 3) n_X2_exchange [.ref k, .int (nI a), .int (nI b)] m Q := by
  refine opn cd_X2_exchange rfl (fun C P hC hP => ?_)
  conv => whnf
  repeat (first | (rw [hr.1]; conv => whnf) | (refine br_f ?_ ?_; (first | assumption | (simp (disch := omega) only [jl, nI_ltI, nI_leI, nI_eq, nI_toInt]; omega) | (simp (disch := omega) only [jl, nI_ltI, nI_leI, nI_eq, nI_toInt]; done) | decide); conv => whnf) | (refine br_t ?_ ?_; (first | assumption | (simp (disch := omega) only [jl, nI_ltI, nI_leI, nI_eq, nI_toInt]; omega) | (simp (disch := omega) only [jl, nI_ltI, nI_leI, nI_eq, nI_toInt]; done) | decide); conv => whnf) | (refine And.intro ?_ ?_; rfl; conv => whnf) | (refine And.intro ?_ ?_; decide; conv => whnf) | (refine And.intro ?_ ?_; (first | assumption | (refine vp_in_nI ?_ ?_ <;> omega)); conv => whnf))
  refine useC hC (s_at hr hg ha ?_)
  conv => whnf
  repeat (first | (rw [hr.1]; conv => whnf) | (refine br_f ?_ ?_; (first | assumption | (simp (disch := omega) only [jl, nI_ltI, nI_leI, nI_eq, nI_toInt]; omega) | (simp (disch := omega) only [jl, nI_ltI, nI_leI, nI_eq, nI_toInt]; done) | decide); conv => whnf) | (refine br_t ?_ ?_; (first | assumption | (simp (disch := omega) only [jl, nI_ltI, nI_leI, nI_eq, nI_toInt]; omega) | (simp (disch := omega) only [jl, nI_ltI, nI_leI, nI_eq, nI_toInt]; done) | decide); conv => whnf) | (refine And.intro ?_ ?_; rfl; conv => whnf) | (refine And.intro ?_ ?_; decide; conv => whnf) | (refine And.intro ?_ ?_; (first | assumption | (refine vp_in_nI ?_ ?_ <;> omega)); conv => whnf))
  refine useC hC (s_at hr hg hb ?_)
  conv => whnf
  repeat (first | (rw [hr.1]; conv => whnf) | (refine br_f ?_ ?_; (first | assumption | (simp (disch := omega) only [jl, nI_ltI, nI_leI, nI_eq, nI_toInt]; omega) | (simp (disch := omega) only [jl, nI_ltI, nI_leI, nI_eq, nI_toInt]; done) | decide); conv => whnf) | (refine br_t ?_ ?_; (first | assumption | (simp (disch := omega) only [jl, nI_ltI, nI_leI, nI_eq, nI_toInt]; omega) | (simp (disch := omega) only [jl, nI_ltI, nI_leI, nI_eq, nI_toInt]; done) | decide); conv => whnf) | (refine And.intro ?_ ?_; rfl; conv => whnf) | (refine And.intro ?_ ?_; decide; conv => whnf) | (refine And.intro ?_ ?_; (first | assumption | (refine vp_in_nI ?_ ?_ <;> omega)); conv => whnf))
  refine useC hC (s_put hr hg.z ha ?_)
  conv => whnf
  repeat (first | (rw [hr.1]; conv => whnf) | (refine br_f ?_ ?_; (first | assumption | (simp (disch := omega) only [jl, nI_ltI, nI_leI, nI_eq, nI_toInt]; omega) | (simp (disch := omega) only [jl, nI_ltI, nI_leI, nI_eq, nI_toInt]; done) | decide); conv => whnf) | (refine br_t ?_ ?_; (first | assumption | (simp (disch := omega) only [jl, nI_ltI, nI_leI, nI_eq, nI_toInt]; omega) | (simp (disch := omega) only [jl, nI_ltI, nI_leI, nI_eq, nI_toInt]; done) | decide); conv => whnf) | (refine And.intro ?_ ?_; rfl; conv => whnf) | (refine And.intro ?_ ?_; decide; conv => whnf) | (refine And.intro ?_ ?_; (first | assumption | (refine vp_in_nI ?_ ?_ <;> omega)); conv => whnf))
  have hg1 := hg.put (i := a) (hg.2.2 b hb).1
  refine useC hC (s_put hr hg1.z hb ?_)
  conv => whnf
  repeat (first | (refine br_f ?_ ?_; (first | assumption | (simp (disch := omega) only [jl, nI_ltI, nI_leI, nI_eq, nI_toInt]; omega) | (simp (disch := omega) only [jl, nI_ltI, nI_leI, nI_eq, nI_toInt]; done) | decide); conv => whnf) | (refine br_t ?_ ?_; (first | assumption | (simp (disch := omega) only [jl, nI_ltI, nI_leI, nI_eq, nI_toInt]; omega) | (simp (disch := omega) only [jl, nI_ltI, nI_leI, nI_eq, nI_toInt]; done) | decide); conv => whnf) | (refine And.intro ?_ ?_; rfl; conv => whnf) | (refine And.intro ?_ ?_; decide; conv => whnf) | (refine And.intro ?_ ?_; (first | assumption | (refine vp_in_nI ?_ ?_ <;> omega)); conv => whnf))
  exact h _ (hg1.put (i := b) (hg.2.2 a ha).1) (Fr.tr (L := [k + 1]) Fr.mu Fr.mu (fun _ z => z) (fun _ z => z))
theorem s_become {k2 n2 : Nat} {c2 : Nat → Nat} (hr : RS k) (hr2 : RS k2) (hg : RG m k2 n2 c2) (hne : k ≠ k2 ∧ k ≠ k2 + 1 ∧ k + 1 ≠ k2) (h : ∀ m', RG m' k n2 c2 → Fr [k, k + 1] m m' → Q none m') : CT (d + 1) n_X2_become [.ref k, .ref k2] m Q := by
  refine opn cd_X2_become rfl (fun C P hC hP => ?_)
  conv => whnf
  repeat (first | (rw [hr.1]; conv => whnf) | (rw [hr2.1]; conv => whnf) | (rw [hr.2]; conv => whnf) | (rw [hr2.2]; conv => whnf) | (refine br_f ?_ ?_; (first | assumption | (simp (disch := omega) only [jl, nI_ltI, nI_leI, nI_eq, nI_toInt]; omega) | (simp (disch := omega) only [jl, nI_ltI, nI_leI, nI_eq, nI_toInt]; done) | decide); conv => whnf) | (refine br_t ?_ ?_; (first | assumption | (simp (disch := omega) only [jl, nI_ltI, nI_leI, nI_eq, nI_toInt]; omega) | (simp (disch := omega) only [jl, nI_ltI, nI_leI, nI_eq, nI_toInt]; done) | decide); conv => whnf) | (refine And.intro ?_ ?_; rfl; conv => whnf) | (refine And.intro ?_ ?_; decide; conv => whnf) | (refine And.intro ?_ ?_; (first | assumption | (refine vp_in_nI ?_ ?_ <;> omega)); conv => whnf))
  refine h _ ⟨?_, hg.2.1, fun i hi => ?_⟩ ⟨rfl, fun a ha => ?_⟩
  · show (if k = k + 1 then _ else mu m.1 k 1 (m.1 k2 1) k) 1 = _
    rw [if_neg (by omega), mu_at, if_pos rfl]
    exact hg.1
  · show _ ∧ (if k + 1 = k + 1 then va_cpy (mu m.1 k 1 (m.1 k2 1) (k2 + 1)) _ _ _ _ else _) i = _
    rw [if_pos rfl, mu_ne (by omega)]
    rw [show va_cpy (m.1 (k2 + 1)) (mu m.1 k 1 (m.1 k2 1) (k + 1)) (0 : Int32).toNatClampNeg (0 : Int32).toNatClampNeg (nI 16).toNatClampNeg i = m.1 (k2 + 1) i from (pk_cpy_in (Nat.zero_le _) (Nat.lt_of_lt_of_le hi (by have := hg.2.1; exact this))).trans (by show m.1 (k2 + 1) (0 + (i - 0)) = _; simp)]
    exact hg.2.2 i hi
  · simp only [List.mem_cons, List.not_mem_nil, or_false, not_or] at ha
    show (if a = k + 1 then _ else mu m.1 k 1 (m.1 k2 1) a) = _
    rw [if_neg ha.2, mu_ne ha.1]
theorem s_blocks (hr : RS k) (hg : RG m k n c) (hi : i < n) (h : Q (some (.int (if c i / 10 = 5 then 1 else 0))) m) : CT (d + 3) n_X2_blocks [.ref k, .int (nI i)] m Q := by
  have hc := (hg.2.2 i hi).1
  refine opn cd_X2_blocks rfl (fun C P hC hP => ?_)
  conv => whnf
  repeat (first | (rw [hr.1]; conv => whnf) | (refine br_f ?_ ?_; (first | assumption | (simp (disch := omega) only [jl, nI_ltI, nI_leI, nI_eq, nI_toInt]; omega) | (simp (disch := omega) only [jl, nI_ltI, nI_leI, nI_eq, nI_toInt]; done) | decide); conv => whnf) | (refine br_t ?_ ?_; (first | assumption | (simp (disch := omega) only [jl, nI_ltI, nI_leI, nI_eq, nI_toInt]; omega) | (simp (disch := omega) only [jl, nI_ltI, nI_leI, nI_eq, nI_toInt]; done) | decide); conv => whnf) | (refine And.intro ?_ ?_; rfl; conv => whnf) | (refine And.intro ?_ ?_; decide; conv => whnf) | (refine And.intro ?_ ?_; (first | assumption | (refine vp_in_nI ?_ ?_ <;> omega)); conv => whnf))
  refine useC hC (s_kindAt hr hg hi ?_)
  split at h
  · conv => whnf
    repeat (first | (refine br_f ?_ ?_; (first | assumption | (simp (disch := omega) only [jl, nI_ltI, nI_leI, nI_eq, nI_toInt]; omega) | (simp (disch := omega) only [jl, nI_ltI, nI_leI, nI_eq, nI_toInt]; done) | decide); conv => whnf) | (refine br_t ?_ ?_; (first | assumption | (simp (disch := omega) only [jl, nI_ltI, nI_leI, nI_eq, nI_toInt]; omega) | (simp (disch := omega) only [jl, nI_ltI, nI_leI, nI_eq, nI_toInt]; done) | decide); conv => whnf) | (refine And.intro ?_ ?_; rfl; conv => whnf) | (refine And.intro ?_ ?_; decide; conv => whnf) | (refine And.intro ?_ ?_; (first | assumption | (refine vp_in_nI ?_ ?_ <;> omega)); conv => whnf))
    exact h
  · conv => whnf
    repeat (first | (refine br_f ?_ ?_; (first | assumption | (simp (disch := omega) only [jl, nI_ltI, nI_leI, nI_eq, nI_toInt]; omega) | (simp (disch := omega) only [jl, nI_ltI, nI_leI, nI_eq, nI_toInt]; done) | decide); conv => whnf) | (refine br_t ?_ ?_; (first | assumption | (simp (disch := omega) only [jl, nI_ltI, nI_leI, nI_eq, nI_toInt]; omega) | (simp (disch := omega) only [jl, nI_ltI, nI_leI, nI_eq, nI_toInt]; done) | decide); conv => whnf) | (refine And.intro ?_ ?_; rfl; conv => whnf) | (refine And.intro ?_ ?_; decide; conv => whnf) | (refine And.intro ?_ ?_; (first | assumption | (refine vp_in_nI ?_ ?_ <;> omega)); conv => whnf))
    exact h
theorem s_points {q : Nat} (hr : RS k) (hg : RG m k n c) (hi : i < n) (hq : q < n) (h : Q (some (.int (pts n (c i) i q))) m) : CT (d + 3) n_X2_points [.ref k, .int (nI i), .int (nI q)] m Q := by
  have hc := (hg.2.2 i hi).1
  have hs := hg.1
  have hn := hg.2.1
  refine opn cd_X2_points rfl (fun C P hC hP => ?_)
  conv => whnf
  repeat (first | (rw [hr.1]; conv => whnf) | (refine br_f ?_ ?_; (first | assumption | (simp (disch := omega) only [jl, nI_ltI, nI_leI, nI_eq, nI_toInt]; omega) | (simp (disch := omega) only [jl, nI_ltI, nI_leI, nI_eq, nI_toInt]; done) | decide); conv => whnf) | (refine br_t ?_ ?_; (first | assumption | (simp (disch := omega) only [jl, nI_ltI, nI_leI, nI_eq, nI_toInt]; omega) | (simp (disch := omega) only [jl, nI_ltI, nI_leI, nI_eq, nI_toInt]; done) | decide); conv => whnf) | (refine And.intro ?_ ?_; rfl; conv => whnf) | (refine And.intro ?_ ?_; decide; conv => whnf) | (refine And.intro ?_ ?_; (first | assumption | (refine vp_in_nI ?_ ?_ <;> omega)); conv => whnf))
  refine useC hC (s_numberAt hr hg hi ?_)
  conv => whnf
  repeat (first | (rw [hr.1]; conv => whnf) | (refine br_f ?_ ?_; (first | assumption | (simp (disch := omega) only [jl, nI_ltI, nI_leI, nI_eq, nI_toInt]; omega) | (simp (disch := omega) only [jl, nI_ltI, nI_leI, nI_eq, nI_toInt]; done) | decide); conv => whnf) | (refine br_t ?_ ?_; (first | assumption | (simp (disch := omega) only [jl, nI_ltI, nI_leI, nI_eq, nI_toInt]; omega) | (simp (disch := omega) only [jl, nI_ltI, nI_leI, nI_eq, nI_toInt]; done) | decide); conv => whnf) | (refine And.intro ?_ ?_; rfl; conv => whnf) | (refine And.intro ?_ ?_; decide; conv => whnf) | (refine And.intro ?_ ?_; (first | assumption | (refine vp_in_nI ?_ ?_ <;> omega)); conv => whnf))
  refine useC hC (s_kindAt hr hg hi ?_)
  unfold pts at h
  split at h
  · conv => whnf
    repeat (first | (rw [hr.1]; conv => whnf) | (refine br_f ?_ ?_; (first | assumption | (simp (disch := omega) only [jl, nI_ltI, nI_leI, nI_eq, nI_toInt]; omega) | (simp (disch := omega) only [jl, nI_ltI, nI_leI, nI_eq, nI_toInt]; done) | decide); conv => whnf) | (refine br_t ?_ ?_; (first | assumption | (simp (disch := omega) only [jl, nI_ltI, nI_leI, nI_eq, nI_toInt]; omega) | (simp (disch := omega) only [jl, nI_ltI, nI_leI, nI_eq, nI_toInt]; done) | decide); conv => whnf) | (refine And.intro ?_ ?_; rfl; conv => whnf) | (refine And.intro ?_ ?_; decide; conv => whnf) | (refine And.intro ?_ ?_; (first | assumption | (refine vp_in_nI ?_ ?_ <;> omega)); conv => whnf))
    exact h
  split at h
  · conv => whnf
    repeat (first | (rw [hr.1]; conv => whnf) | (refine br_f ?_ ?_; (first | assumption | (simp (disch := omega) only [jl, nI_ltI, nI_leI, nI_eq, nI_toInt]; omega) | (simp (disch := omega) only [jl, nI_ltI, nI_leI, nI_eq, nI_toInt]; done) | decide); conv => whnf) | (refine br_t ?_ ?_; (first | assumption | (simp (disch := omega) only [jl, nI_ltI, nI_leI, nI_eq, nI_toInt]; omega) | (simp (disch := omega) only [jl, nI_ltI, nI_leI, nI_eq, nI_toInt]; done) | decide); conv => whnf) | (refine And.intro ?_ ?_; rfl; conv => whnf) | (refine And.intro ?_ ?_; decide; conv => whnf) | (refine And.intro ?_ ?_; (first | assumption | (refine vp_in_nI ?_ ?_ <;> omega)); conv => whnf))
    rw [← div2 hn, ← hs] at h
    exact h
  split at h
  · split at h
    · conv => whnf
      repeat (first | (rw [hr.1]; conv => whnf) | (refine br_f ?_ ?_; (first | assumption | (simp (disch := omega) only [jl, nI_ltI, nI_leI, nI_eq, nI_toInt]; omega) | (simp (disch := omega) only [jl, nI_ltI, nI_leI, nI_eq, nI_toInt]; done) | decide); conv => whnf) | (refine br_t ?_ ?_; (first | assumption | (simp (disch := omega) only [jl, nI_ltI, nI_leI, nI_eq, nI_toInt]; omega) | (simp (disch := omega) only [jl, nI_ltI, nI_leI, nI_eq, nI_toInt]; done) | decide); conv => whnf) | (refine And.intro ?_ ?_; rfl; conv => whnf) | (refine And.intro ?_ ?_; decide; conv => whnf) | (refine And.intro ?_ ?_; (first | assumption | (refine vp_in_nI ?_ ?_ <;> omega)); conv => whnf))
      exact h
    · conv => whnf
      repeat (first | (rw [hr.1]; conv => whnf) | (refine br_f ?_ ?_; (first | assumption | (simp (disch := omega) only [jl, nI_ltI, nI_leI, nI_eq, nI_toInt]; omega) | (simp (disch := omega) only [jl, nI_ltI, nI_leI, nI_eq, nI_toInt]; done) | decide); conv => whnf) | (refine br_t ?_ ?_; (first | assumption | (simp (disch := omega) only [jl, nI_ltI, nI_leI, nI_eq, nI_toInt]; omega) | (simp (disch := omega) only [jl, nI_ltI, nI_leI, nI_eq, nI_toInt]; done) | decide); conv => whnf) | (refine And.intro ?_ ?_; rfl; conv => whnf) | (refine And.intro ?_ ?_; decide; conv => whnf) | (refine And.intro ?_ ?_; (first | assumption | (refine vp_in_nI ?_ ?_ <;> omega)); conv => whnf))
      exact h
  split at h
  · conv => whnf
    repeat (first | (rw [hr.1]; conv => whnf) | (refine br_f ?_ ?_; (first | assumption | (simp (disch := omega) only [jl, nI_ltI, nI_leI, nI_eq, nI_toInt]; omega) | (simp (disch := omega) only [jl, nI_ltI, nI_leI, nI_eq, nI_toInt]; done) | decide); conv => whnf) | (refine br_t ?_ ?_; (first | assumption | (simp (disch := omega) only [jl, nI_ltI, nI_leI, nI_eq, nI_toInt]; omega) | (simp (disch := omega) only [jl, nI_ltI, nI_leI, nI_eq, nI_toInt]; done) | decide); conv => whnf) | (refine And.intro ?_ ?_; rfl; conv => whnf) | (refine And.intro ?_ ?_; decide; conv => whnf) | (refine And.intro ?_ ?_; (first | assumption | (refine vp_in_nI ?_ ?_ <;> omega)); conv => whnf))
    rw [← nI_1, ← div2 hn, ← hs] at h
    exact h
  · conv => whnf
    repeat (first | (rw [hr.1]; conv => whnf) | (refine br_f ?_ ?_; (first | assumption | (simp (disch := omega) only [jl, nI_ltI, nI_leI, nI_eq, nI_toInt]; omega) | (simp (disch := omega) only [jl, nI_ltI, nI_leI, nI_eq, nI_toInt]; done) | decide); conv => whnf) | (refine br_t ?_ ?_; (first | assumption | (simp (disch := omega) only [jl, nI_ltI, nI_leI, nI_eq, nI_toInt]; omega) | (simp (disch := omega) only [jl, nI_ltI, nI_leI, nI_eq, nI_toInt]; done) | decide); conv => whnf) | (refine And.intro ?_ ?_; rfl; conv => whnf) | (refine And.intro ?_ ?_; decide; conv => whnf) | (refine And.intro ?_ ?_; (first | assumption | (refine vp_in_nI ?_ ?_ <;> omega)); conv => whnf))
    exact h
theorem s_pays {v : Int32} (hr : RS k) (hg : RG m k n c) (hi : i < n) (h : Q (some (.int (pys (c i) v))) m) : CT (d + 3) n_X2_pays [.ref k, .int (nI i), .int v] m Q := by
  have hc := (hg.2.2 i hi).1
  refine opn cd_X2_pays rfl (fun C P hC hP => ?_)
  conv => whnf
  repeat (first | (rw [hr.1]; conv => whnf) | (refine br_f ?_ ?_; (first | assumption | (simp (disch := omega) only [jl, nI_ltI, nI_leI, nI_eq, nI_toInt]; omega) | (simp (disch := omega) only [jl, nI_ltI, nI_leI, nI_eq, nI_toInt]; done) | decide); conv => whnf) | (refine br_t ?_ ?_; (first | assumption | (simp (disch := omega) only [jl, nI_ltI, nI_leI, nI_eq, nI_toInt]; omega) | (simp (disch := omega) only [jl, nI_ltI, nI_leI, nI_eq, nI_toInt]; done) | decide); conv => whnf) | (refine And.intro ?_ ?_; rfl; conv => whnf) | (refine And.intro ?_ ?_; decide; conv => whnf) | (refine And.intro ?_ ?_; (first | assumption | (refine vp_in_nI ?_ ?_ <;> omega)); conv => whnf))
  refine useC hC (s_numberAt hr hg hi ?_)
  conv => whnf
  repeat (first | (rw [hr.1]; conv => whnf) | (refine br_f ?_ ?_; (first | assumption | (simp (disch := omega) only [jl, nI_ltI, nI_leI, nI_eq, nI_toInt]; omega) | (simp (disch := omega) only [jl, nI_ltI, nI_leI, nI_eq, nI_toInt]; done) | decide); conv => whnf) | (refine br_t ?_ ?_; (first | assumption | (simp (disch := omega) only [jl, nI_ltI, nI_leI, nI_eq, nI_toInt]; omega) | (simp (disch := omega) only [jl, nI_ltI, nI_leI, nI_eq, nI_toInt]; done) | decide); conv => whnf) | (refine And.intro ?_ ?_; rfl; conv => whnf) | (refine And.intro ?_ ?_; decide; conv => whnf) | (refine And.intro ?_ ?_; (first | assumption | (refine vp_in_nI ?_ ?_ <;> omega)); conv => whnf))
  refine useC hC (s_kindAt hr hg hi ?_)
  unfold pys at h
  split at h
  · conv => whnf
    repeat (first | (refine br_f ?_ ?_; (first | assumption | (simp (disch := omega) only [jl, nI_ltI, nI_leI, nI_eq, nI_toInt]; omega) | (simp (disch := omega) only [jl, nI_ltI, nI_leI, nI_eq, nI_toInt]; done) | decide); conv => whnf) | (refine br_t ?_ ?_; (first | assumption | (simp (disch := omega) only [jl, nI_ltI, nI_leI, nI_eq, nI_toInt]; omega) | (simp (disch := omega) only [jl, nI_ltI, nI_leI, nI_eq, nI_toInt]; done) | decide); conv => whnf) | (refine And.intro ?_ ?_; rfl; conv => whnf) | (refine And.intro ?_ ?_; decide; conv => whnf) | (refine And.intro ?_ ?_; (first | assumption | (refine vp_in_nI ?_ ?_ <;> omega)); conv => whnf))
    exact h
  split at h
  · conv => whnf
    repeat (first | (refine br_f ?_ ?_; (first | assumption | (simp (disch := omega) only [jl, nI_ltI, nI_leI, nI_eq, nI_toInt]; omega) | (simp (disch := omega) only [jl, nI_ltI, nI_leI, nI_eq, nI_toInt]; done) | decide); conv => whnf) | (refine br_t ?_ ?_; (first | assumption | (simp (disch := omega) only [jl, nI_ltI, nI_leI, nI_eq, nI_toInt]; omega) | (simp (disch := omega) only [jl, nI_ltI, nI_leI, nI_eq, nI_toInt]; done) | decide); conv => whnf) | (refine And.intro ?_ ?_; rfl; conv => whnf) | (refine And.intro ?_ ?_; decide; conv => whnf) | (refine And.intro ?_ ?_; (first | assumption | (refine vp_in_nI ?_ ?_ <;> omega)); conv => whnf))
    exact h
  split at h
  · conv => whnf
    repeat (first | (refine br_f ?_ ?_; (first | assumption | (simp (disch := omega) only [jl, nI_ltI, nI_leI, nI_eq, nI_toInt]; omega) | (simp (disch := omega) only [jl, nI_ltI, nI_leI, nI_eq, nI_toInt]; done) | decide); conv => whnf) | (refine br_t ?_ ?_; (first | assumption | (simp (disch := omega) only [jl, nI_ltI, nI_leI, nI_eq, nI_toInt]; omega) | (simp (disch := omega) only [jl, nI_ltI, nI_leI, nI_eq, nI_toInt]; done) | decide); conv => whnf) | (refine And.intro ?_ ?_; rfl; conv => whnf) | (refine And.intro ?_ ?_; decide; conv => whnf) | (refine And.intro ?_ ?_; (first | assumption | (refine vp_in_nI ?_ ?_ <;> omega)); conv => whnf))
    exact h
  split at h
  · conv => whnf
    repeat (first | (refine br_f ?_ ?_; (first | assumption | (simp (disch := omega) only [jl, nI_ltI, nI_leI, nI_eq, nI_toInt]; omega) | (simp (disch := omega) only [jl, nI_ltI, nI_leI, nI_eq, nI_toInt]; done) | decide); conv => whnf) | (refine br_t ?_ ?_; (first | assumption | (simp (disch := omega) only [jl, nI_ltI, nI_leI, nI_eq, nI_toInt]; omega) | (simp (disch := omega) only [jl, nI_ltI, nI_leI, nI_eq, nI_toInt]; done) | decide); conv => whnf) | (refine And.intro ?_ ?_; rfl; conv => whnf) | (refine And.intro ?_ ?_; decide; conv => whnf) | (refine And.intro ?_ ?_; (first | assumption | (refine vp_in_nI ?_ ?_ <;> omega)); conv => whnf))
    exact h
  split at h
  · conv => whnf
    repeat (first | (refine br_f ?_ ?_; (first | assumption | (simp (disch := omega) only [jl, nI_ltI, nI_leI, nI_eq, nI_toInt]; omega) | (simp (disch := omega) only [jl, nI_ltI, nI_leI, nI_eq, nI_toInt]; done) | decide); conv => whnf) | (refine br_t ?_ ?_; (first | assumption | (simp (disch := omega) only [jl, nI_ltI, nI_leI, nI_eq, nI_toInt]; omega) | (simp (disch := omega) only [jl, nI_ltI, nI_leI, nI_eq, nI_toInt]; done) | decide); conv => whnf) | (refine And.intro ?_ ?_; rfl; conv => whnf) | (refine And.intro ?_ ?_; decide; conv => whnf) | (refine And.intro ?_ ?_; (first | assumption | (refine vp_in_nI ?_ ?_ <;> omega)); conv => whnf))
    exact h
  · conv => whnf
    repeat (first | (refine br_f ?_ ?_; (first | assumption | (simp (disch := omega) only [jl, nI_ltI, nI_leI, nI_eq, nI_toInt]; omega) | (simp (disch := omega) only [jl, nI_ltI, nI_leI, nI_eq, nI_toInt]; done) | decide); conv => whnf) | (refine br_t ?_ ?_; (first | assumption | (simp (disch := omega) only [jl, nI_ltI, nI_leI, nI_eq, nI_toInt]; omega) | (simp (disch := omega) only [jl, nI_ltI, nI_leI, nI_eq, nI_toInt]; done) | decide); conv => whnf) | (refine And.intro ?_ ?_; rfl; conv => whnf) | (refine And.intro ?_ ?_; decide; conv => whnf) | (refine And.intro ?_ ?_; (first | assumption | (refine vp_in_nI ?_ ?_ <;> omega)); conv => whnf))
    exact h
end RNG
