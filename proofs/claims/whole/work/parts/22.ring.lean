/-! RINGS (test) -/
theorem t_at {d k i n : Nat} {m : Mm} {Q : Qr} (hk : SH[k]? = some (.inl (2, [k + 4, 0]))) (ha : SH[k + 1]? = some (.inr (.inl (0, 16)))) (hn : n ≤ 16) (hs : m.1 k 1 = nI n) (hi : i < n) (h : Q (some (.int (m.1 (k + 1) i))) m) : CT (d + 1) n_X2_at [.ref k, .int (nI i)] m Q := by
  refine opn cd_X2_at rfl ?_
  conv => whnf
  refine br_f (nI_pos (by omega)) ?_
  conv => whnf
  trace_state
  rw [hk]
  conv => whnf
  trace_state
  sorry
