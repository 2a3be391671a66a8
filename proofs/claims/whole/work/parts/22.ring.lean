/-! RINGS OF THE CLASS: n cards, the codes c -/
theorem jl (n : Nat) : (OfNat.ofNat n : Int32) = nI n := rfl
def RS (k : Nat) : Prop := SH[k]? = some (.inl (2, [k + 4, 0])) ∧ SH[k + 1]? = some (.inr (.inl (0, 16)))
theorem RS1 : RS 1 := ⟨rfl, rfl⟩
theorem RS3 : RS 3 := ⟨rfl, rfl⟩
theorem RS5 : RS 5 := ⟨rfl, rfl⟩
def RG (m : Mm) (k n : Nat) (c : Nat → Nat) : Prop := m.1 k 1 = nI n ∧ n ≤ 16 ∧ ∀ i, i < n → c i < 60 ∧ m.1 (k + 1) i = nI (c i)
section RNG
variable {d k n i : Nat} {c : Nat → Nat} {m : Mm} {Q : Qr}
theorem s_size (hr : RS k) (h : Q (some (.int (m.1 k 1))) m) : CT (d + 1) n_X2_size [.ref k] m Q := by
  obtain ⟨hk, ha⟩ := hr
  refine opn cd_X2_size rfl ?_
  conv => whnf
  repeat (first | (rw [hk]; conv => whnf) | (refine br_f ?_ ?_; (first | assumption | (simp (disch := omega) only [jl, nI_ltI, nI_leI, nI_eq]; omega) | (simp (disch := omega) only [jl, nI_ltI, nI_leI, nI_eq]; done) | (simp (disch := omega) [jl, nI_ltI, nI_leI, nI_eq]; done)); conv => whnf) | (refine br_t ?_ ?_; (first | assumption | (simp (disch := omega) only [jl, nI_ltI, nI_leI, nI_eq]; omega) | (simp (disch := omega) only [jl, nI_ltI, nI_leI, nI_eq]; done) | (simp (disch := omega) [jl, nI_ltI, nI_leI, nI_eq]; done)); conv => whnf) | (refine And.intro ?_ ?_; rfl; conv => whnf) | (refine And.intro ?_ ?_; (first | assumption | (refine vp_in_nI ?_ ?_ <;> omega)); conv => whnf))
  exact h
theorem s_isFull (hr : RS k) (hg : RG m k n c) (h : Q (some (.int (if n = 16 then 1 else 0))) m) : CT (d + 1) n_X2_isFull [.ref k] m Q := by
  obtain ⟨hk, ha⟩ := hr
  obtain ⟨hs, hn, hc⟩ := hg
  refine opn cd_X2_isFull rfl ?_
  by_cases h16 : n = 16
  · rw [if_pos h16] at h
    conv => whnf
    repeat (first | (rw [hk]; conv => whnf) | (rw [ha]; conv => whnf) | (refine br_f ?_ ?_; (first | assumption | (simp (disch := omega) only [hs, jl, nI_ltI, nI_leI, nI_eq]; omega) | (simp (disch := omega) only [hs, jl, nI_ltI, nI_leI, nI_eq]; done) | (simp (disch := omega) [hs, jl, nI_ltI, nI_leI, nI_eq]; done)); conv => whnf) | (refine br_t ?_ ?_; (first | assumption | (simp (disch := omega) only [hs, jl, nI_ltI, nI_leI, nI_eq]; omega) | (simp (disch := omega) only [hs, jl, nI_ltI, nI_leI, nI_eq]; done) | (simp (disch := omega) [hs, jl, nI_ltI, nI_leI, nI_eq]; done)); conv => whnf) | (refine And.intro ?_ ?_; rfl; conv => whnf) | (refine And.intro ?_ ?_; (first | assumption | (refine vp_in_nI ?_ ?_ <;> omega)); conv => whnf))
    exact h
  · rw [if_neg h16] at h
    conv => whnf
    repeat (first | (rw [hk]; conv => whnf) | (rw [ha]; conv => whnf) | (refine br_f ?_ ?_; (first | assumption | (simp (disch := omega) only [hs, jl, nI_ltI, nI_leI, nI_eq]; omega) | (simp (disch := omega) only [hs, jl, nI_ltI, nI_leI, nI_eq]; done) | (simp (disch := omega) [hs, jl, nI_ltI, nI_leI, nI_eq]; done)); conv => whnf) | (refine br_t ?_ ?_; (first | assumption | (simp (disch := omega) only [hs, jl, nI_ltI, nI_leI, nI_eq]; omega) | (simp (disch := omega) only [hs, jl, nI_ltI, nI_leI, nI_eq]; done) | (simp (disch := omega) [hs, jl, nI_ltI, nI_leI, nI_eq]; done)); conv => whnf) | (refine And.intro ?_ ?_; rfl; conv => whnf) | (refine And.intro ?_ ?_; (first | assumption | (refine vp_in_nI ?_ ?_ <;> omega)); conv => whnf))
    exact h
theorem s_has (hr : RS k) (hg : RG m k n c) (hi : i < n) (h : Q (some (.int 1)) m) : CT (d + 1) n_X2_has [.ref k, .int (nI i)] m Q := by
  obtain ⟨hk, ha⟩ := hr
  obtain ⟨hs, hn, hc⟩ := hg
  refine opn cd_X2_has rfl ?_
  conv => whnf
  repeat (first | (rw [hk]; conv => whnf) | (rw [ha]; conv => whnf) | (refine br_f ?_ ?_; (first | assumption | (simp (disch := omega) only [hs, jl, nI_ltI, nI_leI, nI_eq]; omega) | (simp (disch := omega) only [hs, jl, nI_ltI, nI_leI, nI_eq]; done) | (simp (disch := omega) [hs, jl, nI_ltI, nI_leI, nI_eq]; done)); conv => whnf) | (refine br_t ?_ ?_; (first | assumption | (simp (disch := omega) only [hs, jl, nI_ltI, nI_leI, nI_eq]; omega) | (simp (disch := omega) only [hs, jl, nI_ltI, nI_leI, nI_eq]; done) | (simp (disch := omega) [hs, jl, nI_ltI, nI_leI, nI_eq]; done)); conv => whnf) | (refine And.intro ?_ ?_; rfl; conv => whnf) | (refine And.intro ?_ ?_; (first | assumption | (refine vp_in_nI ?_ ?_ <;> omega)); conv => whnf))
  exact h
theorem s_hasNo {p : Int32} (hr : RS k) (hg : RG m k n c) (hp : ∀ i, i < n → p ≠ nI i) (h : Q (some (.int 0)) m) : CT (d + 1) n_X2_has [.ref k, .int p] m Q := by
  obtain ⟨hk, ha⟩ := hr
  obtain ⟨hs, hn, hc⟩ := hg
  refine opn cd_X2_has rfl ?_
  rcases pk_ix p (n := n) (by omega) with h0 | h0 | ⟨j, hj, h0⟩
  · conv => whnf
    repeat (first | (rw [hk]; conv => whnf) | (rw [ha]; conv => whnf) | (refine br_f ?_ ?_; (first | assumption | (simp (disch := omega) only [hs, jl, nI_ltI, nI_leI, nI_eq]; omega) | (simp (disch := omega) only [hs, jl, nI_ltI, nI_leI, nI_eq]; done) | (simp (disch := omega) [hs, jl, nI_ltI, nI_leI, nI_eq]; done)); conv => whnf) | (refine br_t ?_ ?_; (first | assumption | (simp (disch := omega) only [hs, jl, nI_ltI, nI_leI, nI_eq]; omega) | (simp (disch := omega) only [hs, jl, nI_ltI, nI_leI, nI_eq]; done) | (simp (disch := omega) [hs, jl, nI_ltI, nI_leI, nI_eq]; done)); conv => whnf) | (refine And.intro ?_ ?_; rfl; conv => whnf) | (refine And.intro ?_ ?_; (first | assumption | (refine vp_in_nI ?_ ?_ <;> omega)); conv => whnf))
    exact h
  · conv => whnf
    refine br_c (fun _ => ?_) (fun h1 => ?_)
    · conv => whnf
      repeat (first | (rw [hk]; conv => whnf) | (rw [ha]; conv => whnf) | (refine br_f ?_ ?_; (first | assumption | (simp (disch := omega) only [hs, jl, nI_ltI, nI_leI, nI_eq]; omega) | (simp (disch := omega) only [hs, jl, nI_ltI, nI_leI, nI_eq]; done) | (simp (disch := omega) [hs, jl, nI_ltI, nI_leI, nI_eq]; done)); conv => whnf) | (refine br_t ?_ ?_; (first | assumption | (simp (disch := omega) only [hs, jl, nI_ltI, nI_leI, nI_eq]; omega) | (simp (disch := omega) only [hs, jl, nI_ltI, nI_leI, nI_eq]; done) | (simp (disch := omega) [hs, jl, nI_ltI, nI_leI, nI_eq]; done)); conv => whnf) | (refine And.intro ?_ ?_; rfl; conv => whnf) | (refine And.intro ?_ ?_; (first | assumption | (refine vp_in_nI ?_ ?_ <;> omega)); conv => whnf))
      exact h
    · conv => whnf
      repeat (first | (rw [hk]; conv => whnf) | (rw [ha]; conv => whnf) | (refine br_f ?_ ?_; (first | assumption | (simp (disch := omega) only [hs, jl, nI_ltI, nI_leI, nI_eq]; omega) | (simp (disch := omega) only [hs, jl, nI_ltI, nI_leI, nI_eq]; done) | (simp (disch := omega) [hs, jl, nI_ltI, nI_leI, nI_eq]; done)); conv => whnf) | (refine br_t ?_ ?_; (first | assumption | (simp (disch := omega) only [hs, jl, nI_ltI, nI_leI, nI_eq]; omega) | (simp (disch := omega) only [hs, jl, nI_ltI, nI_leI, nI_eq]; done) | (simp (disch := omega) [hs, jl, nI_ltI, nI_leI, nI_eq]; done)); conv => whnf) | (refine And.intro ?_ ?_; rfl; conv => whnf) | (refine And.intro ?_ ?_; (first | assumption | (refine vp_in_nI ?_ ?_ <;> omega)); conv => whnf))
      exact h
  · exact absurd h0 (hp j hj)
theorem s_at (hr : RS k) (hg : RG m k n c) (hi : i < n) (h : Q (some (.int (nI (c i)))) m) : CT (d + 1) n_X2_at [.ref k, .int (nI i)] m Q := by
  obtain ⟨hk, ha⟩ := hr
  obtain ⟨hs, hn, hc⟩ := hg
  refine opn cd_X2_at rfl ?_
  conv => whnf
  repeat (first | (rw [hk]; conv => whnf) | (rw [ha]; conv => whnf) | (refine br_f ?_ ?_; (first | assumption | (simp (disch := omega) only [hs, jl, nI_ltI, nI_leI, nI_eq]; omega) | (simp (disch := omega) only [hs, jl, nI_ltI, nI_leI, nI_eq]; done) | (simp (disch := omega) [hs, jl, nI_ltI, nI_leI, nI_eq]; done)); conv => whnf) | (refine br_t ?_ ?_; (first | assumption | (simp (disch := omega) only [hs, jl, nI_ltI, nI_leI, nI_eq]; omega) | (simp (disch := omega) only [hs, jl, nI_ltI, nI_leI, nI_eq]; done) | (simp (disch := omega) [hs, jl, nI_ltI, nI_leI, nI_eq]; done)); conv => whnf) | (refine And.intro ?_ ?_; rfl; conv => whnf) | (refine And.intro ?_ ?_; (first | assumption | (refine vp_in_nI ?_ ?_ <;> omega)); conv => whnf))
  rw [nI_clamp (by omega), (hc i hi).2]
  exact h
end RNG
