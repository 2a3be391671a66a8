/-! THE READER -/
def rdp (L : Nat) (B : Nat → Nat) : Nat ⊕ (List Nat × List Nat × List Nat) := match rpt L B 0 0 [] with
  | .inl x => .inl x
  | .inr (c0, i0) => match rpt L B 1 i0 c0 with
    | .inl x => .inl x
    | .inr (c1, i1) => match rpt L B 2 i1 c1 with
      | .inl x => .inl x
      | .inr (c2, i2) => if lexN L B i2 = 200 then .inr (c0, c1, c2) else .inl (lexS L B i2)
section RDS
variable {d L t : Nat} {B : Nat → Nat} {Q : Qr} {m : Mm}
theorem FrT.cr {S : List Nat} {t : Nat} {m m' : Mm} {cd : List Nat} (h : CR m t cd) (hf : FrR S m m') (h18 : 18 ≤ t) : CR m' t cd := h.fr hf.1 (by simp; omega) (by simp; omega)
theorem s_readPart {p i : Nat} {cd : List Nat} (hp : p < 3) (ht : TS t) (h18 : 18 ≤ t) (hB : RB m L B) (h3 : m.1 13 3 = nI i) (hi : i ≤ L) (hc : CR m t cd) (hl : cd.length ≤ i)
    (hq0 : ∀ x m', rpt L B p i cd = .inl x → x ≤ L → FrP p t m m' → Q (some (.int (nI x))) m')
    (hq1 : ∀ c i2 m', rpt L B p i cd = .inr (c, i2) → FrP p t m m' → CR m' t c → m'.1 13 3 = nI i2 → m'.1 (t + 2) p = nI c.length → i2 ≤ L → c.length < i2 → Q (some (.int (-1))) m') : CT (d + 8) n_X1_readPart [.ref 13, .ref t, .int (nI p)] m Q := by
  refine opn cd_X1_readPart rfl (fun C P hC hP => ?_)
  unfold c_X1_readPart; generalize hT : c_X1_readPart_37 = T
  have hL := hB.2.1
  conv => whnf
  repeat (first | (refine br_f ?_ ?_; (focus (first | with_reducible assumption | (intro zz; apply zz; with_reducible assumption) | (simp (disch := omega) only [m1lt, nIm1, m1nI, not_true_eq_false, not_false_eq_true, jl, nI_ltI, nI_leI, nI_eq, nI_toInt]; omega) | (simp (disch := omega) only [m1lt, nIm1, m1nI, not_true_eq_false, not_false_eq_true, jl, nI_ltI, nI_leI, nI_eq, nI_toInt]; done))); conv => whnf) | (refine br_t ?_ ?_; (focus (first | with_reducible assumption | (intro zz; apply zz; with_reducible assumption) | (simp (disch := omega) only [m1lt, nIm1, m1nI, not_true_eq_false, not_false_eq_true, jl, nI_ltI, nI_leI, nI_eq, nI_toInt]; omega) | (simp (disch := omega) only [m1lt, nIm1, m1nI, not_true_eq_false, not_false_eq_true, jl, nI_ltI, nI_leI, nI_eq, nI_toInt]; done))); conv => whnf) | (with_reducible refine And.intro nz1 ?_; conv => whnf) | (with_reducible refine And.intro nz0 ?_; conv => whnf) | (refine And.intro ?_ ?_; (focus (first | with_reducible assumption | (intro zz; apply zz; with_reducible assumption) | (simp (disch := omega) only [m1lt, nIm1, m1nI, not_true_eq_false, not_false_eq_true, jl, nI_ltI, nI_leI, nI_eq, nI_toInt]; omega) | (simp (disch := omega) only [m1lt, nIm1, m1nI, not_true_eq_false, not_false_eq_true, jl, nI_ltI, nI_leI, nI_eq, nI_toInt]; done))); conv => whnf) | (refine And.intro ?_ ?_; (focus (first | with_reducible assumption | ((with_reducible refine vp_in_nI ?_ ?_) <;> omega) | ((with_reducible refine vp_0 ?_); omega) | ((with_reducible refine vp_s1 ?_ ?_) <;> omega) | ((with_reducible refine vp_a1 ?_ ?_) <;> omega) | ((with_reducible refine vp_m1 ?_ ?_) <;> omega) | ((with_reducible refine vp_m2 ?_ ?_) <;> omega))); conv => whnf))
  refine useC hC (s_nextToken hi hB h3 (fun m1 f1 t1 p1 a1 v1 => ?_))
  have hok := (lexN_ok L B i).2
  have hlt := tk_lt hok
  have hS : lexS L B i ≤ L := run_le i hi
  have hE : lexE L B i ≤ L := lexE_le hi
  have hiS := lexS_ge L B i
  have F1 : FrP p t m m1 := FrP.ofT (FrT.ofR f1) (by decide) h18
  by_cases hk : lexN L B i = 6 + p
  · have h4 : m1.1 13 4 = 6 + nI p := by rw [t1, hk, tk_else (by omega) (by omega), jl 6, nI_add]
    have e0 : rpt L B p i cd = mch L B 161 (lexE L B i) [] cd true := by unfold rpt; rw [if_pos hk]
    conv => whnf
    refine br_t h4 ?_
    conv => whnf
    repeat (first | (refine br_f ?_ ?_; (focus (first | with_reducible assumption | (intro zz; apply zz; with_reducible assumption) | (simp (disch := omega) only [m1lt, nIm1, m1nI, not_true_eq_false, not_false_eq_true, jl, nI_ltI, nI_leI, nI_eq, nI_toInt]; omega) | (simp (disch := omega) only [m1lt, nIm1, m1nI, not_true_eq_false, not_false_eq_true, jl, nI_ltI, nI_leI, nI_eq, nI_toInt]; done))); conv => whnf) | (refine br_t ?_ ?_; (focus (first | with_reducible assumption | (intro zz; apply zz; with_reducible assumption) | (simp (disch := omega) only [m1lt, nIm1, m1nI, not_true_eq_false, not_false_eq_true, jl, nI_ltI, nI_leI, nI_eq, nI_toInt]; omega) | (simp (disch := omega) only [m1lt, nIm1, m1nI, not_true_eq_false, not_false_eq_true, jl, nI_ltI, nI_leI, nI_eq, nI_toInt]; done))); conv => whnf) | (with_reducible refine And.intro nz1 ?_; conv => whnf) | (with_reducible refine And.intro nz0 ?_; conv => whnf) | (refine And.intro ?_ ?_; (focus (first | with_reducible assumption | (intro zz; apply zz; with_reducible assumption) | (simp (disch := omega) only [m1lt, nIm1, m1nI, not_true_eq_false, not_false_eq_true, jl, nI_ltI, nI_leI, nI_eq, nI_toInt]; omega) | (simp (disch := omega) only [m1lt, nIm1, m1nI, not_true_eq_false, not_false_eq_true, jl, nI_ltI, nI_leI, nI_eq, nI_toInt]; done))); conv => whnf) | (refine And.intro ?_ ?_; (focus (first | with_reducible assumption | ((with_reducible refine vp_in_nI ?_ ?_) <;> omega) | ((with_reducible refine vp_0 ?_); omega) | ((with_reducible refine vp_s1 ?_ ?_) <;> omega) | ((with_reducible refine vp_a1 ?_ ?_) <;> omega) | ((with_reducible refine vp_m1 ?_ ?_) <;> omega) | ((with_reducible refine vp_m2 ?_ ?_) <;> omega))); conv => whnf))
    have f2 : FrR [7, 8, 9] m1 (mu (mu (mu m1.1 13 7 0) 13 8 0) 13 9 1, m1.2) := ((FrR.one (by simp)).tr (FrR.one (m := (mu m1.1 13 7 0, m1.2)) (by simp))).tr (FrR.one (m := (mu (mu m1.1 13 7 0) 13 8 0, m1.2)) (by simp))
    have g7 : mu (mu (mu m1.1 13 7 0) 13 8 0) 13 9 1 13 7 = 0 := by simp [mu_at]
    have g8 : mu (mu (mu m1.1 13 7 0) 13 8 0) 13 9 1 13 8 = 0 := by simp [mu_at]
    have g9 : mu (mu (mu m1.1 13 7 0) 13 8 0) 13 9 1 13 9 = 1 := by simp [mu_at]
    refine ⟨Or.inr rfl, ?_⟩
    conv => whnf
    repeat (first | (refine br_f ?_ ?_; (focus (first | with_reducible assumption | (intro zz; apply zz; with_reducible assumption) | (simp (disch := omega) only [m1lt, nIm1, m1nI, not_true_eq_false, not_false_eq_true, jl, nI_ltI, nI_leI, nI_eq, nI_toInt]; omega) | (simp (disch := omega) only [m1lt, nIm1, m1nI, not_true_eq_false, not_false_eq_true, jl, nI_ltI, nI_leI, nI_eq, nI_toInt]; done))); conv => whnf) | (refine br_t ?_ ?_; (focus (first | with_reducible assumption | (intro zz; apply zz; with_reducible assumption) | (simp (disch := omega) only [m1lt, nIm1, m1nI, not_true_eq_false, not_false_eq_true, jl, nI_ltI, nI_leI, nI_eq, nI_toInt]; omega) | (simp (disch := omega) only [m1lt, nIm1, m1nI, not_true_eq_false, not_false_eq_true, jl, nI_ltI, nI_leI, nI_eq, nI_toInt]; done))); conv => whnf) | (with_reducible refine And.intro nz1 ?_; conv => whnf) | (with_reducible refine And.intro nz0 ?_; conv => whnf) | (refine And.intro ?_ ?_; (focus (first | with_reducible assumption | (intro zz; apply zz; with_reducible assumption) | (simp (disch := omega) only [m1lt, nIm1, m1nI, not_true_eq_false, not_false_eq_true, jl, nI_ltI, nI_leI, nI_eq, nI_toInt]; omega) | (simp (disch := omega) only [m1lt, nIm1, m1nI, not_true_eq_false, not_false_eq_true, jl, nI_ltI, nI_leI, nI_eq, nI_toInt]; done))); conv => whnf) | (refine And.intro ?_ ?_; (focus (first | with_reducible assumption | ((with_reducible refine vp_in_nI ?_ ?_) <;> omega) | ((with_reducible refine vp_0 ?_); omega) | ((with_reducible refine vp_s1 ?_ ?_) <;> omega) | ((with_reducible refine vp_a1 ?_ ?_) <;> omega) | ((with_reducible refine vp_m1 ?_ ?_) <;> omega) | ((with_reducible refine vp_m2 ?_ ?_) <;> omega))); conv => whnf))
    subst hT
    refine hd_X1_readPart_37 hC hP ?_
    generalize hm2 : ((mu (mu (mu m1.1 13 7 0) 13 8 0) 13 9 1, m1.2) : Mm) = m2 at f2 ⊢
    have g7' : m2.1 13 7 = 0 := by rw [← hm2]; exact g7
    have g8' : m2.1 13 8 = 0 := by rw [← hm2]; exact g8
    have g9' : m2.1 13 9 = 1 := by rw [← hm2]; exact g9
    have hgt := lexE_gt (lexN_end (by omega : lexN L B i ≠ 200))
    have F2 : FrP p t m m2 := F1.tr (FrP.ofT (FrT.ofR f2) (by decide) h18)
    refine rp_loop (d := d) hp ht h18 161 0 (lexE L B i) [] cd true m2 none rfl (by omega) hE ⟨(hB.fr f1 (by decide)).fr f2 (by decide), ⟨g7', by simp, fun j hj => by simp at hj⟩, FrT.cr (FrT.cr hc f1 h18) f2 h18, g8', by simp, by simp; omega⟩ ?_ g9' (by simp; omega)
      (fun x m' z1 z2 z3 => hq0 x m' (e0.trans z1) z2 (F2.tr z3)) (fun c i2 m' z1 z2 z3 z4 z5 z6 z7 => hq1 c i2 m' (e0.trans z1) (F2.tr z2) z3 z4 z5 z6 z7)
    rw [f2.2 3 (by decide), p1]
  · have h4 : ¬ m1.1 13 4 = 6 + nI p := by
      rw [t1, jl 6, nI_add]
      unfold tkI
      split
      · intro z; have := congrArg Int32.toInt z; rw [nI_toInt (by omega)] at this; rw [show ((-1 : Int32)).toInt = -1 from rfl] at this; omega
      split
      · intro z; have := congrArg Int32.toInt z; rw [nI_toInt (by omega)] at this; rw [show ((-2 : Int32)).toInt = -2 from rfl] at this; omega
      · rw [nI_eq (by omega) (by omega)]; exact hk
    have e0 : rpt L B p i cd = .inl (lexS L B i) := by unfold rpt; rw [if_neg hk]
    conv => whnf
    refine br_f h4 ?_
    conv => whnf
    repeat (first | (refine br_f ?_ ?_; (focus (first | with_reducible assumption | (intro zz; apply zz; with_reducible assumption) | (simp (disch := omega) only [m1lt, nIm1, m1nI, not_true_eq_false, not_false_eq_true, jl, nI_ltI, nI_leI, nI_eq, nI_toInt]; omega) | (simp (disch := omega) only [m1lt, nIm1, m1nI, not_true_eq_false, not_false_eq_true, jl, nI_ltI, nI_leI, nI_eq, nI_toInt]; done))); conv => whnf) | (refine br_t ?_ ?_; (focus (first | with_reducible assumption | (intro zz; apply zz; with_reducible assumption) | (simp (disch := omega) only [m1lt, nIm1, m1nI, not_true_eq_false, not_false_eq_true, jl, nI_ltI, nI_leI, nI_eq, nI_toInt]; omega) | (simp (disch := omega) only [m1lt, nIm1, m1nI, not_true_eq_false, not_false_eq_true, jl, nI_ltI, nI_leI, nI_eq, nI_toInt]; done))); conv => whnf) | (with_reducible refine And.intro nz1 ?_; conv => whnf) | (with_reducible refine And.intro nz0 ?_; conv => whnf) | (refine And.intro ?_ ?_; (focus (first | with_reducible assumption | (intro zz; apply zz; with_reducible assumption) | (simp (disch := omega) only [m1lt, nIm1, m1nI, not_true_eq_false, not_false_eq_true, jl, nI_ltI, nI_leI, nI_eq, nI_toInt]; omega) | (simp (disch := omega) only [m1lt, nIm1, m1nI, not_true_eq_false, not_false_eq_true, jl, nI_ltI, nI_leI, nI_eq, nI_toInt]; done))); conv => whnf) | (refine And.intro ?_ ?_; (focus (first | with_reducible assumption | ((with_reducible refine vp_in_nI ?_ ?_) <;> omega) | ((with_reducible refine vp_0 ?_); omega) | ((with_reducible refine vp_s1 ?_ ?_) <;> omega) | ((with_reducible refine vp_a1 ?_ ?_) <;> omega) | ((with_reducible refine vp_m1 ?_ ?_) <;> omega) | ((with_reducible refine vp_m2 ?_ ?_) <;> omega))); conv => whnf))
    rw [a1]
    exact hq0 _ _ e0 hS F1
/-- all that a reading may change -/
def FrV (t : Nat) (m m' : Mm) : Prop := Fr [13, 15, t, t + 1, t + 2] m m'
theorem rd_fault {p x : Nat} {v : Int32} (hv : v = nI p) (hp : p ≤ 3) (hx : x < 1000) (h : Q (some (.int (nI x))) (mu m.1 13 2 0, m.2)) : WP SH (CT (d + 8)) Q c_X1_read 13 [some (.ref 13), some (.ref t), some (.int (nI x)), some (.int v)] [] m := by
  subst hv
  have hne : ¬ nI x = -1 := by intro z; have := congrArg Int32.toInt z; rw [nI_toInt (by omega)] at this; rw [show ((-1 : Int32)).toInt = -1 from rfl] at this; omega
  refine wpn mo_X1_read (fun C P hC hP => ?_)
  conv => whnf
  refine br_c (fun _ => ?_) (fun _ => ?_)
  · conv => whnf
    refine br_t hne ?_
    conv => whnf
    repeat (first | (refine br_f ?_ ?_; (focus (first | with_reducible assumption | (intro zz; apply zz; with_reducible assumption) | (simp (disch := omega) only [m1lt, nIm1, m1nI, not_true_eq_false, not_false_eq_true, jl, nI_ltI, nI_leI, nI_eq, nI_toInt]; omega) | (simp (disch := omega) only [m1lt, nIm1, m1nI, not_true_eq_false, not_false_eq_true, jl, nI_ltI, nI_leI, nI_eq, nI_toInt]; done))); conv => whnf) | (refine br_t ?_ ?_; (focus (first | with_reducible assumption | (intro zz; apply zz; with_reducible assumption) | (simp (disch := omega) only [m1lt, nIm1, m1nI, not_true_eq_false, not_false_eq_true, jl, nI_ltI, nI_leI, nI_eq, nI_toInt]; omega) | (simp (disch := omega) only [m1lt, nIm1, m1nI, not_true_eq_false, not_false_eq_true, jl, nI_ltI, nI_leI, nI_eq, nI_toInt]; done))); conv => whnf) | (with_reducible refine And.intro nz1 ?_; conv => whnf) | (with_reducible refine And.intro nz0 ?_; conv => whnf) | (refine And.intro ?_ ?_; (focus (first | with_reducible assumption | (intro zz; apply zz; with_reducible assumption) | (simp (disch := omega) only [m1lt, nIm1, m1nI, not_true_eq_false, not_false_eq_true, jl, nI_ltI, nI_leI, nI_eq, nI_toInt]; omega) | (simp (disch := omega) only [m1lt, nIm1, m1nI, not_true_eq_false, not_false_eq_true, jl, nI_ltI, nI_leI, nI_eq, nI_toInt]; done))); conv => whnf) | (refine And.intro ?_ ?_; (focus (first | with_reducible assumption | ((with_reducible refine vp_in_nI ?_ ?_) <;> omega) | ((with_reducible refine vp_0 ?_); omega) | ((with_reducible refine vp_s1 ?_ ?_) <;> omega) | ((with_reducible refine vp_a1 ?_ ?_) <;> omega) | ((with_reducible refine vp_m1 ?_ ?_) <;> omega) | ((with_reducible refine vp_m2 ?_ ?_) <;> omega))); conv => whnf))
    exact h
  · conv => whnf
    refine br_t hne ?_
    conv => whnf
    refine br_t hne ?_
    conv => whnf
    repeat (first | (refine br_f ?_ ?_; (focus (first | with_reducible assumption | (intro zz; apply zz; with_reducible assumption) | (simp (disch := omega) only [m1lt, nIm1, m1nI, not_true_eq_false, not_false_eq_true, jl, nI_ltI, nI_leI, nI_eq, nI_toInt]; omega) | (simp (disch := omega) only [m1lt, nIm1, m1nI, not_true_eq_false, not_false_eq_true, jl, nI_ltI, nI_leI, nI_eq, nI_toInt]; done))); conv => whnf) | (refine br_t ?_ ?_; (focus (first | with_reducible assumption | (intro zz; apply zz; with_reducible assumption) | (simp (disch := omega) only [m1lt, nIm1, m1nI, not_true_eq_false, not_false_eq_true, jl, nI_ltI, nI_leI, nI_eq, nI_toInt]; omega) | (simp (disch := omega) only [m1lt, nIm1, m1nI, not_true_eq_false, not_false_eq_true, jl, nI_ltI, nI_leI, nI_eq, nI_toInt]; done))); conv => whnf) | (with_reducible refine And.intro nz1 ?_; conv => whnf) | (with_reducible refine And.intro nz0 ?_; conv => whnf) | (refine And.intro ?_ ?_; (focus (first | with_reducible assumption | (intro zz; apply zz; with_reducible assumption) | (simp (disch := omega) only [m1lt, nIm1, m1nI, not_true_eq_false, not_false_eq_true, jl, nI_ltI, nI_leI, nI_eq, nI_toInt]; omega) | (simp (disch := omega) only [m1lt, nIm1, m1nI, not_true_eq_false, not_false_eq_true, jl, nI_ltI, nI_leI, nI_eq, nI_toInt]; done))); conv => whnf) | (refine And.intro ?_ ?_; (focus (first | with_reducible assumption | ((with_reducible refine vp_in_nI ?_ ?_) <;> omega) | ((with_reducible refine vp_0 ?_); omega) | ((with_reducible refine vp_s1 ?_ ?_) <;> omega) | ((with_reducible refine vp_a1 ?_ ?_) <;> omega) | ((with_reducible refine vp_m1 ?_ ?_) <;> omega) | ((with_reducible refine vp_m2 ?_ ?_) <;> omega))); conv => whnf))
    exact h
theorem rd_step {p i : Nat} {cd : List Nat} (hp : p < 3) (ht : TS t) (h18 : 18 ≤ t) (hB : RB m L B) (h3 : m.1 13 3 = nI i) (hi : i ≤ L) (hc : CR m t cd) (hl : cd.length ≤ i)
    (hq0 : ∀ x m', rpt L B p i cd = .inl x → x ≤ L → FrP p t m m' → Q (some (.int (nI x))) (mu m'.1 13 2 0, m'.2))
    (hq1 : ∀ c i2 m', rpt L B p i cd = .inr (c, i2) → FrP p t m m' → CR m' t c → m'.1 13 3 = nI i2 → m'.1 (t + 2) p = nI c.length → i2 ≤ L → c.length < i2 → WP SH (CT (d + 8)) Q c_X1_read 13 [some (.ref 13), some (.ref t), some (.int (-1)), some (.int (nI (p + 1)))] [] m') : WP SH (CT (d + 8)) Q c_X1_read 13 [some (.ref 13), some (.ref t), some (.int (-1)), some (.int (nI p))] [] m := by
  have hL := hB.2.1
  refine wpn mo_X1_read (fun C P hC hP => ?_)
  conv => whnf
  repeat (first | (refine br_f ?_ ?_; (focus (first | with_reducible assumption | (intro zz; apply zz; with_reducible assumption) | (simp (disch := omega) only [m1lt, nIm1, m1nI, not_true_eq_false, not_false_eq_true, jl, nI_ltI, nI_leI, nI_eq, nI_toInt]; omega) | (simp (disch := omega) only [m1lt, nIm1, m1nI, not_true_eq_false, not_false_eq_true, jl, nI_ltI, nI_leI, nI_eq, nI_toInt]; done))); conv => whnf) | (refine br_t ?_ ?_; (focus (first | with_reducible assumption | (intro zz; apply zz; with_reducible assumption) | (simp (disch := omega) only [m1lt, nIm1, m1nI, not_true_eq_false, not_false_eq_true, jl, nI_ltI, nI_leI, nI_eq, nI_toInt]; omega) | (simp (disch := omega) only [m1lt, nIm1, m1nI, not_true_eq_false, not_false_eq_true, jl, nI_ltI, nI_leI, nI_eq, nI_toInt]; done))); conv => whnf) | (with_reducible refine And.intro nz1 ?_; conv => whnf) | (with_reducible refine And.intro nz0 ?_; conv => whnf) | (refine And.intro ?_ ?_; (focus (first | with_reducible assumption | (intro zz; apply zz; with_reducible assumption) | (simp (disch := omega) only [m1lt, nIm1, m1nI, not_true_eq_false, not_false_eq_true, jl, nI_ltI, nI_leI, nI_eq, nI_toInt]; omega) | (simp (disch := omega) only [m1lt, nIm1, m1nI, not_true_eq_false, not_false_eq_true, jl, nI_ltI, nI_leI, nI_eq, nI_toInt]; done))); conv => whnf) | (refine And.intro ?_ ?_; (focus (first | with_reducible assumption | ((with_reducible refine vp_in_nI ?_ ?_) <;> omega) | ((with_reducible refine vp_0 ?_); omega) | ((with_reducible refine vp_s1 ?_ ?_) <;> omega) | ((with_reducible refine vp_a1 ?_ ?_) <;> omega) | ((with_reducible refine vp_m1 ?_ ?_) <;> omega) | ((with_reducible refine vp_m2 ?_ ?_) <;> omega))); conv => whnf))
  refine useC hC (s_readPart hp ht h18 hB h3 hi hc hl (fun x m' e0 e1 e2 => ?_) (fun c i2 m' e0 e1 e2 e3 e4 e5 e6 => ?_))
  · conv => whnf
    repeat (first | (refine br_f ?_ ?_; (focus (first | with_reducible assumption | (intro zz; apply zz; with_reducible assumption) | (simp (disch := omega) only [m1lt, nIm1, m1nI, not_true_eq_false, not_false_eq_true, jl, nI_ltI, nI_leI, nI_eq, nI_toInt]; omega) | (simp (disch := omega) only [m1lt, nIm1, m1nI, not_true_eq_false, not_false_eq_true, jl, nI_ltI, nI_leI, nI_eq, nI_toInt]; done))); conv => whnf) | (refine br_t ?_ ?_; (focus (first | with_reducible assumption | (intro zz; apply zz; with_reducible assumption) | (simp (disch := omega) only [m1lt, nIm1, m1nI, not_true_eq_false, not_false_eq_true, jl, nI_ltI, nI_leI, nI_eq, nI_toInt]; omega) | (simp (disch := omega) only [m1lt, nIm1, m1nI, not_true_eq_false, not_false_eq_true, jl, nI_ltI, nI_leI, nI_eq, nI_toInt]; done))); conv => whnf) | (with_reducible refine And.intro nz1 ?_; conv => whnf) | (with_reducible refine And.intro nz0 ?_; conv => whnf) | (refine And.intro ?_ ?_; (focus (first | with_reducible assumption | (intro zz; apply zz; with_reducible assumption) | (simp (disch := omega) only [m1lt, nIm1, m1nI, not_true_eq_false, not_false_eq_true, jl, nI_ltI, nI_leI, nI_eq, nI_toInt]; omega) | (simp (disch := omega) only [m1lt, nIm1, m1nI, not_true_eq_false, not_false_eq_true, jl, nI_ltI, nI_leI, nI_eq, nI_toInt]; done))); conv => whnf) | (refine And.intro ?_ ?_; (focus (first | with_reducible assumption | ((with_reducible refine vp_in_nI ?_ ?_) <;> omega) | ((with_reducible refine vp_0 ?_); omega) | ((with_reducible refine vp_s1 ?_ ?_) <;> omega) | ((with_reducible refine vp_a1 ?_ ?_) <;> omega) | ((with_reducible refine vp_m1 ?_ ?_) <;> omega) | ((with_reducible refine vp_m2 ?_ ?_) <;> omega))); conv => whnf))
    refine hP _ _ _ _ ?_
    exact rd_fault (p := p + 1) (nI_1 p) (by omega) (by omega) (hq0 x m' e0 e1 e2)
  · conv => whnf
    repeat (first | (refine br_f ?_ ?_; (focus (first | with_reducible assumption | (intro zz; apply zz; with_reducible assumption) | (simp (disch := omega) only [m1lt, nIm1, m1nI, not_true_eq_false, not_false_eq_true, jl, nI_ltI, nI_leI, nI_eq, nI_toInt]; omega) | (simp (disch := omega) only [m1lt, nIm1, m1nI, not_true_eq_false, not_false_eq_true, jl, nI_ltI, nI_leI, nI_eq, nI_toInt]; done))); conv => whnf) | (refine br_t ?_ ?_; (focus (first | with_reducible assumption | (intro zz; apply zz; with_reducible assumption) | (simp (disch := omega) only [m1lt, nIm1, m1nI, not_true_eq_false, not_false_eq_true, jl, nI_ltI, nI_leI, nI_eq, nI_toInt]; omega) | (simp (disch := omega) only [m1lt, nIm1, m1nI, not_true_eq_false, not_false_eq_true, jl, nI_ltI, nI_leI, nI_eq, nI_toInt]; done))); conv => whnf) | (with_reducible refine And.intro nz1 ?_; conv => whnf) | (with_reducible refine And.intro nz0 ?_; conv => whnf) | (refine And.intro ?_ ?_; (focus (first | with_reducible assumption | (intro zz; apply zz; with_reducible assumption) | (simp (disch := omega) only [m1lt, nIm1, m1nI, not_true_eq_false, not_false_eq_true, jl, nI_ltI, nI_leI, nI_eq, nI_toInt]; omega) | (simp (disch := omega) only [m1lt, nIm1, m1nI, not_true_eq_false, not_false_eq_true, jl, nI_ltI, nI_leI, nI_eq, nI_toInt]; done))); conv => whnf) | (refine And.intro ?_ ?_; (focus (first | with_reducible assumption | ((with_reducible refine vp_in_nI ?_ ?_) <;> omega) | ((with_reducible refine vp_0 ?_); omega) | ((with_reducible refine vp_s1 ?_ ?_) <;> omega) | ((with_reducible refine vp_a1 ?_ ?_) <;> omega) | ((with_reducible refine vp_m1 ?_ ?_) <;> omega) | ((with_reducible refine vp_m2 ?_ ?_) <;> omega))); conv => whnf))
    refine hP _ _ _ _ ?_
    rw [nI_1]
    exact hq1 c i2 m' e0 e1 e2 e3 e4 e5 e6
theorem rd_end {i : Nat} (h18 : 18 ≤ t) (hB : RB m L B) (h3 : m.1 13 3 = nI i) (hi : i ≤ L)
    (hq0 : ∀ m', lexN L B i ≠ 200 → FrR [2, 3, 4, 5, 6] m m' → m'.1 13 2 = 0 → Q (some (.int (nI (lexS L B i)))) m')
    (hq1 : ∀ m', lexN L B i = 200 → FrR [2, 3, 4, 5, 6] m m' → m'.1 13 2 = 0 → Q (some (.int (-1))) m') : WP SH (CT (d + 8)) Q c_X1_read 13 [some (.ref 13), some (.ref t), some (.int (-1)), some (.int (nI 3))] [] m := by
  refine wpn mo_X1_read (fun C P hC hP => ?_)
  conv => whnf
  repeat (first | (refine br_f ?_ ?_; (focus (first | with_reducible assumption | (intro zz; apply zz; with_reducible assumption) | (simp (disch := omega) only [m1lt, nIm1, m1nI, not_true_eq_false, not_false_eq_true, jl, nI_ltI, nI_leI, nI_eq, nI_toInt]; omega) | (simp (disch := omega) only [m1lt, nIm1, m1nI, not_true_eq_false, not_false_eq_true, jl, nI_ltI, nI_leI, nI_eq, nI_toInt]; done))); conv => whnf) | (refine br_t ?_ ?_; (focus (first | with_reducible assumption | (intro zz; apply zz; with_reducible assumption) | (simp (disch := omega) only [m1lt, nIm1, m1nI, not_true_eq_false, not_false_eq_true, jl, nI_ltI, nI_leI, nI_eq, nI_toInt]; omega) | (simp (disch := omega) only [m1lt, nIm1, m1nI, not_true_eq_false, not_false_eq_true, jl, nI_ltI, nI_leI, nI_eq, nI_toInt]; done))); conv => whnf) | (with_reducible refine And.intro nz1 ?_; conv => whnf) | (with_reducible refine And.intro nz0 ?_; conv => whnf) | (refine And.intro ?_ ?_; (focus (first | with_reducible assumption | (intro zz; apply zz; with_reducible assumption) | (simp (disch := omega) only [m1lt, nIm1, m1nI, not_true_eq_false, not_false_eq_true, jl, nI_ltI, nI_leI, nI_eq, nI_toInt]; omega) | (simp (disch := omega) only [m1lt, nIm1, m1nI, not_true_eq_false, not_false_eq_true, jl, nI_ltI, nI_leI, nI_eq, nI_toInt]; done))); conv => whnf) | (refine And.intro ?_ ?_; (focus (first | with_reducible assumption | ((with_reducible refine vp_in_nI ?_ ?_) <;> omega) | ((with_reducible refine vp_0 ?_); omega) | ((with_reducible refine vp_s1 ?_ ?_) <;> omega) | ((with_reducible refine vp_a1 ?_ ?_) <;> omega) | ((with_reducible refine vp_m1 ?_ ?_) <;> omega) | ((with_reducible refine vp_m2 ?_ ?_) <;> omega))); conv => whnf))
  refine useC hC (s_nextToken hi hB h3 (fun m1 f1 t1 p1 a1 v1 => ?_))
  have f2 : FrR [2] m1 (mu m1.1 13 2 0, m1.2) := FrR.one (by simp)
  have f3 : FrR [2, 3, 4, 5, 6] m (mu m1.1 13 2 0, m1.2) := (f1.up (by simp)).tr (f2.up (by simp))
  have f0 : (mu m1.1 13 2 0, m1.2).1 13 2 = 0 := by simp [mu_at]
  have hok := (lexN_ok L B i).2
  by_cases h200 : lexN L B i = 200
  · have h4 : m1.1 13 4 = -1 := by rw [t1, h200]; rfl
    conv => whnf
    refine br_f (fun z => z h4) ?_
    conv => whnf
    repeat (first | (refine br_f ?_ ?_; (focus (first | with_reducible assumption | (intro zz; apply zz; with_reducible assumption) | (simp (disch := omega) only [m1lt, nIm1, m1nI, not_true_eq_false, not_false_eq_true, jl, nI_ltI, nI_leI, nI_eq, nI_toInt]; omega) | (simp (disch := omega) only [m1lt, nIm1, m1nI, not_true_eq_false, not_false_eq_true, jl, nI_ltI, nI_leI, nI_eq, nI_toInt]; done))); conv => whnf) | (refine br_t ?_ ?_; (focus (first | with_reducible assumption | (intro zz; apply zz; with_reducible assumption) | (simp (disch := omega) only [m1lt, nIm1, m1nI, not_true_eq_false, not_false_eq_true, jl, nI_ltI, nI_leI, nI_eq, nI_toInt]; omega) | (simp (disch := omega) only [m1lt, nIm1, m1nI, not_true_eq_false, not_false_eq_true, jl, nI_ltI, nI_leI, nI_eq, nI_toInt]; done))); conv => whnf) | (with_reducible refine And.intro nz1 ?_; conv => whnf) | (with_reducible refine And.intro nz0 ?_; conv => whnf) | (refine And.intro ?_ ?_; (focus (first | with_reducible assumption | (intro zz; apply zz; with_reducible assumption) | (simp (disch := omega) only [m1lt, nIm1, m1nI, not_true_eq_false, not_false_eq_true, jl, nI_ltI, nI_leI, nI_eq, nI_toInt]; omega) | (simp (disch := omega) only [m1lt, nIm1, m1nI, not_true_eq_false, not_false_eq_true, jl, nI_ltI, nI_leI, nI_eq, nI_toInt]; done))); conv => whnf) | (refine And.intro ?_ ?_; (focus (first | with_reducible assumption | ((with_reducible refine vp_in_nI ?_ ?_) <;> omega) | ((with_reducible refine vp_0 ?_); omega) | ((with_reducible refine vp_s1 ?_ ?_) <;> omega) | ((with_reducible refine vp_a1 ?_ ?_) <;> omega) | ((with_reducible refine vp_m1 ?_ ?_) <;> omega) | ((with_reducible refine vp_m2 ?_ ?_) <;> omega))); conv => whnf))
    exact hq1 _ h200 f3 f0
  · have h4 : ¬ m1.1 13 4 = -1 := by
      rw [t1]
      have hlt := tk_lt hok
      unfold tkI
      rw [if_neg h200]
      split
      · decide
      · intro z; have := congrArg Int32.toInt z; rw [nI_toInt (by omega)] at this; rw [show ((-1 : Int32)).toInt = -1 from rfl] at this; omega
    conv => whnf
    refine br_t h4 ?_
    conv => whnf
    repeat (first | (refine br_f ?_ ?_; (focus (first | with_reducible assumption | (intro zz; apply zz; with_reducible assumption) | (simp (disch := omega) only [m1lt, nIm1, m1nI, not_true_eq_false, not_false_eq_true, jl, nI_ltI, nI_leI, nI_eq, nI_toInt]; omega) | (simp (disch := omega) only [m1lt, nIm1, m1nI, not_true_eq_false, not_false_eq_true, jl, nI_ltI, nI_leI, nI_eq, nI_toInt]; done))); conv => whnf) | (refine br_t ?_ ?_; (focus (first | with_reducible assumption | (intro zz; apply zz; with_reducible assumption) | (simp (disch := omega) only [m1lt, nIm1, m1nI, not_true_eq_false, not_false_eq_true, jl, nI_ltI, nI_leI, nI_eq, nI_toInt]; omega) | (simp (disch := omega) only [m1lt, nIm1, m1nI, not_true_eq_false, not_false_eq_true, jl, nI_ltI, nI_leI, nI_eq, nI_toInt]; done))); conv => whnf) | (with_reducible refine And.intro nz1 ?_; conv => whnf) | (with_reducible refine And.intro nz0 ?_; conv => whnf) | (refine And.intro ?_ ?_; (focus (first | with_reducible assumption | (intro zz; apply zz; with_reducible assumption) | (simp (disch := omega) only [m1lt, nIm1, m1nI, not_true_eq_false, not_false_eq_true, jl, nI_ltI, nI_leI, nI_eq, nI_toInt]; omega) | (simp (disch := omega) only [m1lt, nIm1, m1nI, not_true_eq_false, not_false_eq_true, jl, nI_ltI, nI_leI, nI_eq, nI_toInt]; done))); conv => whnf) | (refine And.intro ?_ ?_; (focus (first | with_reducible assumption | ((with_reducible refine vp_in_nI ?_ ?_) <;> omega) | ((with_reducible refine vp_0 ?_); omega) | ((with_reducible refine vp_s1 ?_ ?_) <;> omega) | ((with_reducible refine vp_a1 ?_ ?_) <;> omega) | ((with_reducible refine vp_m1 ?_ ?_) <;> omega) | ((with_reducible refine vp_m2 ?_ ?_) <;> omega))); conv => whnf))
    simp only [a1]
    exact hq0 _ h200 f3 f0
theorem s_read (ht : TS t) (h18 : 18 ≤ t) (hB : RB m L B)
    (hq0 : ∀ x m', rdp L B = .inl x → x ≤ L → FrV t m m' → m'.1 13 2 = 0 → Q (some (.int (nI x))) m')
    (hq1 : ∀ c0 c1 c2 m', rdp L B = .inr (c0, c1, c2) → FrV t m m' → m'.1 13 2 = 0 → CR m' t c2 → m'.1 (t + 2) 0 = nI c0.length → m'.1 (t + 2) 1 = nI c1.length → m'.1 (t + 2) 2 = nI c2.length → Q (some (.int (-1))) m') : CT (d + 9) n_X1_read [.ref 13, .ref t] m Q := by
  have hL := hB.2.1
  refine opn cd_X1_read rfl (fun C P hC hP => ?_)
  unfold c_X1_read; generalize hT : c_X1_read_13 = T
  conv => whnf
  repeat (first | (rw [ht.1]; conv => whnf) | (refine br_f ?_ ?_; (focus (first | with_reducible assumption | (intro zz; apply zz; with_reducible assumption) | (simp (disch := omega) only [m1lt, nIm1, m1nI, not_true_eq_false, not_false_eq_true, jl, nI_ltI, nI_leI, nI_eq, nI_toInt]; omega) | (simp (disch := omega) only [m1lt, nIm1, m1nI, not_true_eq_false, not_false_eq_true, jl, nI_ltI, nI_leI, nI_eq, nI_toInt]; done))); conv => whnf) | (refine br_t ?_ ?_; (focus (first | with_reducible assumption | (intro zz; apply zz; with_reducible assumption) | (simp (disch := omega) only [m1lt, nIm1, m1nI, not_true_eq_false, not_false_eq_true, jl, nI_ltI, nI_leI, nI_eq, nI_toInt]; omega) | (simp (disch := omega) only [m1lt, nIm1, m1nI, not_true_eq_false, not_false_eq_true, jl, nI_ltI, nI_leI, nI_eq, nI_toInt]; done))); conv => whnf) | (with_reducible refine And.intro nz1 ?_; conv => whnf) | (with_reducible refine And.intro nz0 ?_; conv => whnf) | (refine And.intro ?_ ?_; (focus (first | with_reducible assumption | (intro zz; apply zz; with_reducible assumption) | (simp (disch := omega) only [m1lt, nIm1, m1nI, not_true_eq_false, not_false_eq_true, jl, nI_ltI, nI_leI, nI_eq, nI_toInt]; omega) | (simp (disch := omega) only [m1lt, nIm1, m1nI, not_true_eq_false, not_false_eq_true, jl, nI_ltI, nI_leI, nI_eq, nI_toInt]; done))); conv => whnf) | (refine And.intro ?_ ?_; (focus (first | with_reducible assumption | ((with_reducible refine vp_in_nI ?_ ?_) <;> omega) | ((with_reducible refine vp_0 ?_); omega) | ((with_reducible refine vp_s1 ?_ ?_) <;> omega) | ((with_reducible refine vp_a1 ?_ ?_) <;> omega) | ((with_reducible refine vp_m1 ?_ ?_) <;> omega) | ((with_reducible refine vp_m2 ?_ ?_) <;> omega))); conv => whnf))
  refine useC hC ?_
  refine opn cd_X5_clear rfl (fun C P hC2 hP2 => ?_)
  conv => whnf
  repeat (first | (rw [ht.1]; conv => whnf) | (refine br_f ?_ ?_; (focus (first | with_reducible assumption | (intro zz; apply zz; with_reducible assumption) | (simp (disch := omega) only [m1lt, nIm1, m1nI, not_true_eq_false, not_false_eq_true, jl, nI_ltI, nI_leI, nI_eq, nI_toInt]; omega) | (simp (disch := omega) only [m1lt, nIm1, m1nI, not_true_eq_false, not_false_eq_true, jl, nI_ltI, nI_leI, nI_eq, nI_toInt]; done))); conv => whnf) | (refine br_t ?_ ?_; (focus (first | with_reducible assumption | (intro zz; apply zz; with_reducible assumption) | (simp (disch := omega) only [m1lt, nIm1, m1nI, not_true_eq_false, not_false_eq_true, jl, nI_ltI, nI_leI, nI_eq, nI_toInt]; omega) | (simp (disch := omega) only [m1lt, nIm1, m1nI, not_true_eq_false, not_false_eq_true, jl, nI_ltI, nI_leI, nI_eq, nI_toInt]; done))); conv => whnf) | (with_reducible refine And.intro nz1 ?_; conv => whnf) | (with_reducible refine And.intro nz0 ?_; conv => whnf) | (refine And.intro ?_ ?_; (focus (first | with_reducible assumption | (intro zz; apply zz; with_reducible assumption) | (simp (disch := omega) only [m1lt, nIm1, m1nI, not_true_eq_false, not_false_eq_true, jl, nI_ltI, nI_leI, nI_eq, nI_toInt]; omega) | (simp (disch := omega) only [m1lt, nIm1, m1nI, not_true_eq_false, not_false_eq_true, jl, nI_ltI, nI_leI, nI_eq, nI_toInt]; done))); conv => whnf) | (refine And.intro ?_ ?_; (focus (first | with_reducible assumption | ((with_reducible refine vp_in_nI ?_ ?_) <;> omega) | ((with_reducible refine vp_0 ?_); omega) | ((with_reducible refine vp_s1 ?_ ?_) <;> omega) | ((with_reducible refine vp_a1 ?_ ?_) <;> omega) | ((with_reducible refine vp_m1 ?_ ?_) <;> omega) | ((with_reducible refine vp_m2 ?_ ?_) <;> omega))); conv => whnf))
  subst hT
  refine hd_X1_read_13 hC hP ?_
  have f1 : Fr [13, 15, t, t + 1, t + 2] m (mu (mu m.1 13 3 0) t 2 0, m.2) := ⟨rfl, fun a ha => by
    simp only [List.mem_cons, List.not_mem_nil, or_false, not_or] at ha
    show mu (mu m.1 13 3 0) t 2 0 a = _
    rw [mu_ne ha.2.2.1, mu_ne ha.1]⟩
  have g3 : mu (mu m.1 13 3 0) t 2 0 13 3 = nI 0 := by rw [mu_ne (by omega), mu_at, if_pos rfl]; rfl
  have gt : mu (mu m.1 13 3 0) t 2 0 t 2 = 0 := by rw [mu_at, if_pos rfl]
  have g2 : mu (mu m.1 13 3 0) t 2 0 13 2 = m.1 13 2 := by rw [mu_ne (by omega), mu_at, if_neg (by decide)]
  have g14 : mu (mu m.1 13 3 0) t 2 0 14 = m.1 14 := by rw [mu_ne (by omega), mu_ne (by omega)]
  generalize hm1 : ((mu (mu m.1 13 3 0) t 2 0, m.2) : Mm) = m1 at f1 ⊢
  have g3' : m1.1 13 3 = nI 0 := by rw [← hm1]; exact g3
  have gt' : m1.1 t 2 = 0 := by rw [← hm1]; exact gt
  have B1 : RB m1 L B := by
    unfold RB
    rw [← hm1]
    show mu (mu m.1 13 3 0) t 2 0 13 2 = nI L ∧ L ≤ 160 ∧ ∀ i, i < L → B i < 256 ∧ mu (mu m.1 13 3 0) t 2 0 14 i = nI (B i)
    rw [g2, g14]
    exact hB
  have fv : ∀ {p : Nat} {a b : Mm}, FrP p t a b → FrV t a b := fun z => z.1
  have tr : ∀ {a b c : Mm}, FrV t a b → FrV t b c → FrV t a c := fun x y => Fr.tr x y (fun _ z => z) (fun _ z => z)
  have zr : ∀ {a : Mm}, FrV t a (mu a.1 13 2 0, a.2) := ⟨rfl, fun q hq => by
    simp only [List.mem_cons, List.not_mem_nil, or_false, not_or] at hq
    exact mu_ne hq.1⟩
  have z0 : ∀ {a : Mm}, (mu a.1 13 2 0, a.2).1 13 2 = (0 : Int32) := by intro a; simp [mu_at]
  have RBP : ∀ {p : Nat} {a b : Mm}, RB a L B → FrP p t a b → RB b L B := by
    intro p a b h hf
    unfold RB
    rw [hf.2.1, hf.1.2 14 (by simp; omega)]
    exact h
  refine rd_step (p := 0) (i := 0) (cd := []) (by decide) ht h18 B1 g3' (by omega) ⟨gt', fun j hj => by simp at hj⟩ (by simp) (fun x m2 e0 e1 e2 => ?_) (fun c0 i0 m2 e0 e1 e2 e3 e4 e5 e6 => ?_)
  · exact hq0 x _ (by unfold rdp; rw [e0]) e1 (tr f1 (tr (fv e2) zr)) z0
  have B2 := RBP B1 e1
  refine rd_step (p := 1) (by decide) ht h18 B2 e3 e5 e2 (by omega) (fun x m3 k0 k1 k2 => ?_) (fun c1 i1 m3 k0 k1 k2 k3 k4 k5 k6 => ?_)
  · exact hq0 x _ (by unfold rdp; rw [e0]; simp only; rw [k0]) k1 (tr f1 (tr (fv e1) (tr (fv k2) zr))) z0
  have B3 := RBP B2 k1
  refine rd_step (p := 2) (by decide) ht h18 B3 k3 k5 k2 (by omega) (fun x m4 j0 j1 j2 => ?_) (fun c2 i2 m4 j0 j1 j2 j3 j4 j5 j6 => ?_)
  · exact hq0 x _ (by unfold rdp; rw [e0]; simp only; rw [k0]; simp only; rw [j0]) j1 (tr f1 (tr (fv e1) (tr (fv k1) (tr (fv j2) zr)))) z0
  have B4 := RBP B3 j1
  have hi2 : lexS L B i2 ≤ L := run_le i2 j5
  refine rd_end h18 B4 j3 j5 (fun m5 n0 n1 n2 => ?_) (fun m5 n0 n1 n2 => ?_)
  · exact hq0 _ m5 (by unfold rdp; rw [e0]; simp only; rw [k0]; simp only; rw [j0]; simp only; rw [if_neg n0]) hi2 (tr f1 (tr (fv e1) (tr (fv k1) (tr (fv j1) (n1.1.up (by simp)))))) n2
  · have o2 : ∀ q, m5.1 (t + 2) q = m4.1 (t + 2) q := fun q => by rw [n1.1.2 (t + 2) (by simp; omega)]
    refine hq1 c0 c1 c2 m5 (by unfold rdp; rw [e0]; simp only; rw [k0]; simp only; rw [j0]; simp only; rw [if_pos n0]) (tr f1 (tr (fv e1) (tr (fv k1) (tr (fv j1) (n1.1.up (by simp)))))) n2 (FrT.cr j2 n1 h18) ?_ ?_ ?_
    · rw [o2, j1.2.2 0 (by decide), k1.2.2 0 (by decide), e4]
    · rw [o2, j1.2.2 1 (by decide), k4]
    · rw [o2, j4]
end RDS
