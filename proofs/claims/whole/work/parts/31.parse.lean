/-! THE READER'S PARTS -/
/-- the reader, token by token: the fault's place, or the code and where it stands -/
def mch (L : Nat) (B : Nat → Nat) : Nat → Nat → List Nat → List Nat → Bool → Nat ⊕ (List Nat × Nat)
  | 0, _, _, _, _ => .inl 0
  | f + 1, i, w, cd, b => if b = false ∧ lexN L B i = 59 then (match wof 20 w cd with
    | ([], c) => .inr (c, lexE L B i)
    | _ => .inl (lexS L B i)) else match (if b = true then bgn (lexN L B i) (lexV L B i) w cd else gon (lexN L B i) w cd) with
    | some (w2, c2, b2) => mch L B f (lexE L B i) w2 c2 b2
    | none => .inl (lexS L B i)
def rpt (L : Nat) (B : Nat → Nat) (p i : Nat) (cd : List Nat) : Nat ⊕ (List Nat × Nat) := if lexN L B i = 6 + p then mch L B 161 (lexE L B i) [] cd true else .inl (lexS L B i)
/-- of the reader and of text t, but of its ends only that of part p -/
def FrP (p t : Nat) (m m' : Mm) : Prop := Fr [13, 15, t, t + 1, t + 2] m m' ∧ m'.1 13 2 = m.1 13 2 ∧ ∀ q, q ≠ p → m'.1 (t + 2) q = m.1 (t + 2) q
theorem FrP.tr {p t : Nat} {m m1 m2 : Mm} (h1 : FrP p t m m1) (h2 : FrP p t m1 m2) : FrP p t m m2 := ⟨h1.1.tr h2.1 (fun _ z => z) (fun _ z => z), h2.2.1.trans h1.2.1, fun q z => (h2.2.2 q z).trans (h1.2.2 q z)⟩
theorem FrP.ofT {S : List Nat} {p t : Nat} {m m1 : Mm} (h1 : FrT S t m m1) (h2 : 2 ∉ S) (h18 : 18 ≤ t) : FrP p t m m1 := ⟨h1.1.up (by simp), h1.2 2 h2, fun q _ => by rw [h1.1.2 (t + 2) (by simp; omega)]⟩
theorem lexE_ge (L : Nat) (B : Nat → Nat) (i : Nat) : lexS L B i ≤ lexE L B i := by
  by_cases h : lexS L B i < L
  · exact Nat.le_of_lt (lexE_gt h)
  · unfold lexE
    rw [if_neg h]
    exact Nat.le_refl _
theorem bgn_len {n v : Nat} {w cd w2 c2 : List Nat} {b : Bool} (h : bgn n v w cd = some (w2, c2, b)) : c2.length + w2.length = cd.length + w.length + 1 ∧ n ≠ 200 := by
  unfold bgn at h
  split at h
  · next z => cases h; subst z; simp; omega
  split at h
  · cases h; simp; omega
  · split at h
    · next o z =>
      split at h
      · cases h
        refine ⟨by simp; omega, fun z2 => ?_⟩
        subst z2
        cases z
      · cases h
    · cases h
theorem gon_len {n : Nat} {w cd w2 c2 : List Nat} {b : Bool} (h : gon n w cd = some (w2, c2, b)) : c2.length + w2.length ≤ cd.length + w.length + 1 ∧ n ≠ 200 := by
  unfold gon at h
  split at h
  · next z =>
    subst z
    have := wof_len 20 w cd
    split at h
    · next r c3 e => cases h; rw [e] at this; simp at this; exact ⟨by omega, by decide⟩
    · cases h
  · split at h
    · next o z =>
      refine ⟨?_, fun z2 => by subst z2; cases z⟩
      split at h
      · have := wof_len 60 w cd
        split at h
        · next x r c3 e =>
          split at h
          · cases h
          · cases h; rw [e] at this; simp at this ⊢; omega
        · next c3 e => cases h; rw [e] at this; simp at this ⊢; omega
      · have := wof_len (o / 10 * 10) w cd
        cases h; simp; omega
    · cases h
section PTS
variable {d L t : Nat} {B : Nat → Nat} {Q : Qr}
theorem rp_loop {p : Nat} (hp : p < 3) (ht : TS t) (h18 : 18 ≤ t) : ∀ (f k i : Nat) (w cd : List Nat) (b : Bool) (m : Mm) (o4 : Option Value), k + f = 161 → L < f + i → i ≤ L → MS m t L B w cd → m.1 13 3 = nI i → m.1 13 9 = b01 b → cd.length + w.length < i →
    (∀ x m', mch L B f i w cd b = .inl x → x ≤ L → FrP p t m m' → Q (some (.int (nI x))) m') →
    (∀ c i2 m', mch L B f i w cd b = .inr (c, i2) → FrP p t m m' → CR m' t c → m'.1 13 3 = nI i2 → m'.1 (t + 2) p = nI c.length → i2 ≤ L → c.length < i2 → Q (some (.int (-1))) m') →
    WP SH (CT (d + 7)) Q c_X1_readPart 37 [some (.ref 13), some (.ref t), some (.int (nI p)), some (.int (nI k)), o4] [] m := by
  intro f
  induction f with
  | zero => intro k i w cd b m o4 hk hf hi; omega
  | succ f ih =>
    intro k i w cd b m o4 hk hf hi hm h3 h9 hl hq0 hq1
    have hL := hm.1.2.1
    refine wpn mo_X1_readPart (fun C P hC hP => ?_)
    conv => whnf
    repeat (first | (refine br_f ?_ ?_; (focus (first | with_reducible assumption | (intro zz; apply zz; with_reducible assumption) | (simp (disch := omega) only [m1lt, nIm1, m1nI, not_true_eq_false, not_false_eq_true, jl, nI_ltI, nI_leI, nI_eq, nI_toInt]; omega) | (simp (disch := omega) only [m1lt, nIm1, m1nI, not_true_eq_false, not_false_eq_true, jl, nI_ltI, nI_leI, nI_eq, nI_toInt]; done))); conv => whnf) | (refine br_t ?_ ?_; (focus (first | with_reducible assumption | (intro zz; apply zz; with_reducible assumption) | (simp (disch := omega) only [m1lt, nIm1, m1nI, not_true_eq_false, not_false_eq_true, jl, nI_ltI, nI_leI, nI_eq, nI_toInt]; omega) | (simp (disch := omega) only [m1lt, nIm1, m1nI, not_true_eq_false, not_false_eq_true, jl, nI_ltI, nI_leI, nI_eq, nI_toInt]; done))); conv => whnf) | (with_reducible refine And.intro nz1 ?_; conv => whnf) | (with_reducible refine And.intro nz0 ?_; conv => whnf) | (refine And.intro ?_ ?_; (focus (first | with_reducible assumption | (intro zz; apply zz; with_reducible assumption) | (simp (disch := omega) only [m1lt, nIm1, m1nI, not_true_eq_false, not_false_eq_true, jl, nI_ltI, nI_leI, nI_eq, nI_toInt]; omega) | (simp (disch := omega) only [m1lt, nIm1, m1nI, not_true_eq_false, not_false_eq_true, jl, nI_ltI, nI_leI, nI_eq, nI_toInt]; done))); conv => whnf) | (refine And.intro ?_ ?_; (focus (first | with_reducible assumption | ((with_reducible refine vp_in_nI ?_ ?_) <;> omega) | ((with_reducible refine vp_0 ?_); omega) | ((with_reducible refine vp_s1 ?_ ?_) <;> omega) | ((with_reducible refine vp_a1 ?_ ?_) <;> omega) | ((with_reducible refine vp_m1 ?_ ?_) <;> omega) | ((with_reducible refine vp_m2 ?_ ?_) <;> omega))); conv => whnf))
    refine useC hC (s_nextToken hi hm.1 h3 (fun m1 f1 t1 p1 a1 v1 => ?_))
    have hm1 := hm.r f1 h18 (by decide) (by decide) (by decide)
    have hok := (lexN_ok L B i).2
    have h91 : m1.1 13 9 = b01 b := by rw [f1.2 9 (by decide)]; exact h9
    have hS : lexS L B i ≤ L := run_le i hi
    have hE : lexE L B i ≤ L := lexE_le hi
    have hiS := lexS_ge L B i
    have hSE := lexE_ge L B i
    have F1 : FrP p t m m1 := FrP.ofT (FrT.ofR f1) (by decide) h18
    have fin0 : mch L B (f + 1) i w cd b = .inl (lexS L B i) → ∀ m2, FrP p t m m2 → m2.1 13 5 = m1.1 13 5 → Q (some (.int (m2.1 13 5))) m2 := by
      intro e m2 F2 g
      rw [g, a1]
      exact hq0 _ _ e hS F2
    have next : ∀ w2 c2 b2 m2 o5, (lexN L B i ≠ 200 → c2.length + w2.length < lexE L B i → mch L B (f + 1) i w cd b = mch L B f (lexE L B i) w2 c2 b2) → c2.length + w2.length ≤ cd.length + w.length + 1 → lexN L B i ≠ 200 → FrT [7, 8, 9] t m1 m2 → MS m2 t L B w2 c2 → m2.1 13 9 = b01 b2 → WP SH (CT (d + 7)) Q c_X1_readPart 37 [some (.ref 13), some (.ref t), some (.int (nI p)), some (.int (nI (k + 1))), o5] [] m2 := by
      intro w2 c2 b2 m2 o5 e hl2 hn f2 hm2 h92
      have hgt := lexE_gt (lexN_end hn)
      have F2 : FrP p t m m2 := F1.tr (FrP.ofT f2 (by decide) h18)
      have e2 := e hn (by omega)
      exact ih (k + 1) (lexE L B i) w2 c2 b2 m2 o5 (by omega) (by omega) hE hm2 (by rw [f2.2 3 (by decide)]; exact p1) h92 (by omega)
        (fun x m' z1 z2 z3 => hq0 x m' (e2.trans z1) z2 (F2.tr z3)) (fun c i2 m' z1 z2 z3 z4 z5 z6 z7 => hq1 c i2 m' (e2.trans z1) (F2.tr z2) z3 z4 z5 z6 z7)
    cases b with
    | false =>
      have h90 : m1.1 13 9 = 0 := h91
      by_cases h59 : lexN L B i = 59
      · have h4' : m1.1 13 4 = nI 59 := by rw [t1, h59]; rfl
        conv => whnf
        repeat (first | (refine br_f ?_ ?_; (focus (first | with_reducible assumption | (intro zz; apply zz; with_reducible assumption) | (simp (disch := omega) only [h90, h4', m1lt, nIm1, m1nI, not_true_eq_false, not_false_eq_true, jl, nI_ltI, nI_leI, nI_eq, nI_toInt]; omega) | (simp (disch := omega) only [h90, h4', m1lt, nIm1, m1nI, not_true_eq_false, not_false_eq_true, jl, nI_ltI, nI_leI, nI_eq, nI_toInt]; done))); conv => whnf) | (refine br_t ?_ ?_; (focus (first | with_reducible assumption | (intro zz; apply zz; with_reducible assumption) | (simp (disch := omega) only [h90, h4', m1lt, nIm1, m1nI, not_true_eq_false, not_false_eq_true, jl, nI_ltI, nI_leI, nI_eq, nI_toInt]; omega) | (simp (disch := omega) only [h90, h4', m1lt, nIm1, m1nI, not_true_eq_false, not_false_eq_true, jl, nI_ltI, nI_leI, nI_eq, nI_toInt]; done))); conv => whnf) | (with_reducible refine And.intro nz1 ?_; conv => whnf) | (with_reducible refine And.intro nz0 ?_; conv => whnf) | (refine And.intro ?_ ?_; (focus (first | with_reducible assumption | (intro zz; apply zz; with_reducible assumption) | (simp (disch := omega) only [h90, h4', m1lt, nIm1, m1nI, not_true_eq_false, not_false_eq_true, jl, nI_ltI, nI_leI, nI_eq, nI_toInt]; omega) | (simp (disch := omega) only [h90, h4', m1lt, nIm1, m1nI, not_true_eq_false, not_false_eq_true, jl, nI_ltI, nI_leI, nI_eq, nI_toInt]; done))); conv => whnf) | (refine And.intro ?_ ?_; (focus (first | with_reducible assumption | ((with_reducible refine vp_in_nI ?_ ?_) <;> omega) | ((with_reducible refine vp_0 ?_); omega) | ((with_reducible refine vp_s1 ?_ ?_) <;> omega) | ((with_reducible refine vp_a1 ?_ ?_) <;> omega) | ((with_reducible refine vp_m1 ?_ ?_) <;> omega) | ((with_reducible refine vp_m2 ?_ ?_) <;> omega))); conv => whnf))
        refine useC hC (s_workOff ht h18 (by decide) (by decide) hm1.2.1 hm1.2.2.1 hm1.2.2.2.1 hm1.2.2.2.2.1 (by omega) (fun m2 f2 w2 c2 g2 => ?_))
        conv => whnf
        repeat (first | (rw [ht.1]; conv => whnf) | (refine br_f ?_ ?_; (focus (first | with_reducible assumption | (intro zz; apply zz; with_reducible assumption) | (simp (disch := omega) only [m1lt, nIm1, m1nI, not_true_eq_false, not_false_eq_true, jl, nI_ltI, nI_leI, nI_eq, nI_toInt]; omega) | (simp (disch := omega) only [m1lt, nIm1, m1nI, not_true_eq_false, not_false_eq_true, jl, nI_ltI, nI_leI, nI_eq, nI_toInt]; done))); conv => whnf) | (refine br_t ?_ ?_; (focus (first | with_reducible assumption | (intro zz; apply zz; with_reducible assumption) | (simp (disch := omega) only [m1lt, nIm1, m1nI, not_true_eq_false, not_false_eq_true, jl, nI_ltI, nI_leI, nI_eq, nI_toInt]; omega) | (simp (disch := omega) only [m1lt, nIm1, m1nI, not_true_eq_false, not_false_eq_true, jl, nI_ltI, nI_leI, nI_eq, nI_toInt]; done))); conv => whnf) | (with_reducible refine And.intro nz1 ?_; conv => whnf) | (with_reducible refine And.intro nz0 ?_; conv => whnf) | (refine And.intro ?_ ?_; (focus (first | with_reducible assumption | (intro zz; apply zz; with_reducible assumption) | (simp (disch := omega) only [m1lt, nIm1, m1nI, not_true_eq_false, not_false_eq_true, jl, nI_ltI, nI_leI, nI_eq, nI_toInt]; omega) | (simp (disch := omega) only [m1lt, nIm1, m1nI, not_true_eq_false, not_false_eq_true, jl, nI_ltI, nI_leI, nI_eq, nI_toInt]; done))); conv => whnf) | (refine And.intro ?_ ?_; (focus (first | with_reducible assumption | ((with_reducible refine vp_in_nI ?_ ?_) <;> omega) | ((with_reducible refine vp_0 ?_); omega) | ((with_reducible refine vp_s1 ?_ ?_) <;> omega) | ((with_reducible refine vp_a1 ?_ ?_) <;> omega) | ((with_reducible refine vp_m1 ?_ ?_) <;> omega) | ((with_reducible refine vp_m2 ?_ ?_) <;> omega))); conv => whnf))
        refine useC hC (s_endPart ht hp ?_)
        have hlen := wof_len 20 w cd
        have h7 := w2.1
        have F3 : FrP p t m2 (mu m2.1 (t + 2) p (m2.1 t 2), m2.2) := ⟨⟨rfl, fun a ha => by
          simp only [List.mem_cons, List.not_mem_nil, or_false, not_or] at ha
          exact mu_ne ha.2.2.2.2⟩, congrFun (mu_ne (by omega)) 2, fun q hq => by
          show mu m2.1 (t + 2) p (m2.1 t 2) (t + 2) q = _
          rw [mu_at, if_neg hq]⟩
        have F2 : FrP p t m m2 := F1.tr (FrP.ofT f2 (by decide) h18)
        have e0 : mch L B (f + 1) i w cd false = (match wof 20 w cd with
          | ([], c) => .inr (c, lexE L B i)
          | _ => .inl (lexS L B i)) := by simp only [mch]; rw [if_pos ⟨trivial, h59⟩]
        have hgt := lexE_gt (lexN_end (by rw [h59]; decide : lexN L B i ≠ 200))
        have hv : mu m2.1 (t + 2) p (m2.1 t 2) 13 7 = m2.1 13 7 := congrFun (mu_ne (by omega)) 7
        have hv5 : mu m2.1 (t + 2) p (m2.1 t 2) 13 5 = m2.1 13 5 := congrFun (mu_ne (by omega)) 5
        have hv3 : mu m2.1 (t + 2) p (m2.1 t 2) 13 3 = m2.1 13 3 := congrFun (mu_ne (by omega)) 3
        generalize hm3 : ((mu m2.1 (t + 2) p (m2.1 t 2), m2.2) : Mm) = m3 at F3
        have hv' : m3.1 13 7 = m2.1 13 7 := by rw [← hm3]; exact hv
        have hv5' : m3.1 13 5 = m2.1 13 5 := by rw [← hm3]; exact hv5
        have hv3' : m3.1 13 3 = m2.1 13 3 := by rw [← hm3]; exact hv3
        have hve : m3.1 (t + 2) p = m2.1 t 2 := by rw [← hm3]; show mu m2.1 (t + 2) p (m2.1 t 2) (t + 2) p = _; rw [mu_at, if_pos rfl]
        have c3 : CR m3 t (wof 20 w cd).2 := by
          refine ⟨?_, fun j hj => ?_⟩
          · rw [← hm3]
            show mu m2.1 (t + 2) p (m2.1 t 2) t 2 = _
            rw [mu_ne (by omega)]
            exact c2.1
          · rw [← hm3]
            show mu m2.1 (t + 2) p (m2.1 t 2) (t + 1) j = _
            rw [mu_ne (by omega)]
            exact c2.2 j hj
        generalize wof 20 w cd = z at *
        obtain ⟨z1, z2⟩ := z
        cases z1 with
        | nil =>
          have h70 : m3.1 13 7 = 0 := by rw [hv', h7]; rfl
          conv => whnf
          repeat (first | (refine br_f ?_ ?_; (focus (first | with_reducible assumption | (intro zz; apply zz; with_reducible assumption) | (simp (disch := omega) only [h70, m1lt, nIm1, m1nI, not_true_eq_false, not_false_eq_true, jl, nI_ltI, nI_leI, nI_eq, nI_toInt]; omega) | (simp (disch := omega) only [h70, m1lt, nIm1, m1nI, not_true_eq_false, not_false_eq_true, jl, nI_ltI, nI_leI, nI_eq, nI_toInt]; done))); conv => whnf) | (refine br_t ?_ ?_; (focus (first | with_reducible assumption | (intro zz; apply zz; with_reducible assumption) | (simp (disch := omega) only [h70, m1lt, nIm1, m1nI, not_true_eq_false, not_false_eq_true, jl, nI_ltI, nI_leI, nI_eq, nI_toInt]; omega) | (simp (disch := omega) only [h70, m1lt, nIm1, m1nI, not_true_eq_false, not_false_eq_true, jl, nI_ltI, nI_leI, nI_eq, nI_toInt]; done))); conv => whnf) | (with_reducible refine And.intro nz1 ?_; conv => whnf) | (with_reducible refine And.intro nz0 ?_; conv => whnf) | (refine And.intro ?_ ?_; (focus (first | with_reducible assumption | (intro zz; apply zz; with_reducible assumption) | (simp (disch := omega) only [h70, m1lt, nIm1, m1nI, not_true_eq_false, not_false_eq_true, jl, nI_ltI, nI_leI, nI_eq, nI_toInt]; omega) | (simp (disch := omega) only [h70, m1lt, nIm1, m1nI, not_true_eq_false, not_false_eq_true, jl, nI_ltI, nI_leI, nI_eq, nI_toInt]; done))); conv => whnf) | (refine And.intro ?_ ?_; (focus (first | with_reducible assumption | ((with_reducible refine vp_in_nI ?_ ?_) <;> omega) | ((with_reducible refine vp_0 ?_); omega) | ((with_reducible refine vp_s1 ?_ ?_) <;> omega) | ((with_reducible refine vp_a1 ?_ ?_) <;> omega) | ((with_reducible refine vp_m1 ?_ ?_) <;> omega) | ((with_reducible refine vp_m2 ?_ ?_) <;> omega))); conv => whnf))
          simp only [List.length_nil] at hlen
          refine hq1 _ _ _ e0 (F2.tr F3) c3 ?_ ?_ hE (by omega)
          · rw [hv3', f2.2 3 (by decide), p1]
          · rw [hve]; exact c2.1
        | cons x r =>
          simp only [List.length_cons] at hlen h7
          have h70 : ¬ m3.1 13 7 = 0 := by rw [hv', h7, jl 0, nI_eq (by omega) (by omega)]; omega
          conv => whnf
          repeat (first | (refine br_f ?_ ?_; (focus (first | with_reducible assumption | (intro zz; apply zz; with_reducible assumption) | (simp (disch := omega) only [h70, m1lt, nIm1, m1nI, not_true_eq_false, not_false_eq_true, jl, nI_ltI, nI_leI, nI_eq, nI_toInt]; omega) | (simp (disch := omega) only [h70, m1lt, nIm1, m1nI, not_true_eq_false, not_false_eq_true, jl, nI_ltI, nI_leI, nI_eq, nI_toInt]; done))); conv => whnf) | (refine br_t ?_ ?_; (focus (first | with_reducible assumption | (intro zz; apply zz; with_reducible assumption) | (simp (disch := omega) only [h70, m1lt, nIm1, m1nI, not_true_eq_false, not_false_eq_true, jl, nI_ltI, nI_leI, nI_eq, nI_toInt]; omega) | (simp (disch := omega) only [h70, m1lt, nIm1, m1nI, not_true_eq_false, not_false_eq_true, jl, nI_ltI, nI_leI, nI_eq, nI_toInt]; done))); conv => whnf) | (with_reducible refine And.intro nz1 ?_; conv => whnf) | (with_reducible refine And.intro nz0 ?_; conv => whnf) | (refine And.intro ?_ ?_; (focus (first | with_reducible assumption | (intro zz; apply zz; with_reducible assumption) | (simp (disch := omega) only [h70, m1lt, nIm1, m1nI, not_true_eq_false, not_false_eq_true, jl, nI_ltI, nI_leI, nI_eq, nI_toInt]; omega) | (simp (disch := omega) only [h70, m1lt, nIm1, m1nI, not_true_eq_false, not_false_eq_true, jl, nI_ltI, nI_leI, nI_eq, nI_toInt]; done))); conv => whnf) | (refine And.intro ?_ ?_; (focus (first | with_reducible assumption | ((with_reducible refine vp_in_nI ?_ ?_) <;> omega) | ((with_reducible refine vp_0 ?_); omega) | ((with_reducible refine vp_s1 ?_ ?_) <;> omega) | ((with_reducible refine vp_a1 ?_ ?_) <;> omega) | ((with_reducible refine vp_m1 ?_ ?_) <;> omega) | ((with_reducible refine vp_m2 ?_ ?_) <;> omega))); conv => whnf))
          refine fin0 e0 _ (F2.tr F3) ?_
          rw [hv5', f2.2 5 (by decide)]
      · have hne : ¬ m1.1 13 4 = nI 59 := by
          rw [t1]
          unfold tkI
          split
          · decide
          split
          · decide
          · have := tk_lt hok
            rw [nI_eq (by omega) (by omega)]; exact h59
        have e0 : mch L B (f + 1) i w cd false = (match gon (lexN L B i) w cd with
          | some (w2, c2, b2) => mch L B f (lexE L B i) w2 c2 b2
          | none => .inl (lexS L B i)) := by simp only [mch]; rw [if_neg (fun z => h59 z.2), if_neg (by decide)]
        conv => whnf
        repeat (first | (refine br_f ?_ ?_; (focus (first | with_reducible assumption | (intro zz; apply zz; with_reducible assumption) | (simp (disch := omega) only [h90, m1lt, nIm1, m1nI, not_true_eq_false, not_false_eq_true, jl, nI_ltI, nI_leI, nI_eq, nI_toInt]; omega) | (simp (disch := omega) only [h90, m1lt, nIm1, m1nI, not_true_eq_false, not_false_eq_true, jl, nI_ltI, nI_leI, nI_eq, nI_toInt]; done))); conv => whnf) | (refine br_t ?_ ?_; (focus (first | with_reducible assumption | (intro zz; apply zz; with_reducible assumption) | (simp (disch := omega) only [h90, m1lt, nIm1, m1nI, not_true_eq_false, not_false_eq_true, jl, nI_ltI, nI_leI, nI_eq, nI_toInt]; omega) | (simp (disch := omega) only [h90, m1lt, nIm1, m1nI, not_true_eq_false, not_false_eq_true, jl, nI_ltI, nI_leI, nI_eq, nI_toInt]; done))); conv => whnf) | (with_reducible refine And.intro nz1 ?_; conv => whnf) | (with_reducible refine And.intro nz0 ?_; conv => whnf) | (refine And.intro ?_ ?_; (focus (first | with_reducible assumption | (intro zz; apply zz; with_reducible assumption) | (simp (disch := omega) only [h90, m1lt, nIm1, m1nI, not_true_eq_false, not_false_eq_true, jl, nI_ltI, nI_leI, nI_eq, nI_toInt]; omega) | (simp (disch := omega) only [h90, m1lt, nIm1, m1nI, not_true_eq_false, not_false_eq_true, jl, nI_ltI, nI_leI, nI_eq, nI_toInt]; done))); conv => whnf) | (refine And.intro ?_ ?_; (focus (first | with_reducible assumption | ((with_reducible refine vp_in_nI ?_ ?_) <;> omega) | ((with_reducible refine vp_0 ?_); omega) | ((with_reducible refine vp_s1 ?_ ?_) <;> omega) | ((with_reducible refine vp_a1 ?_ ?_) <;> omega) | ((with_reducible refine vp_m1 ?_ ?_) <;> omega) | ((with_reducible refine vp_m2 ?_ ?_) <;> omega))); conv => whnf))
        refine useC hC (s_goesOn hok ht h18 hm1 t1 h90 (by omega) (fun w2 c2 b2 m2 eg f2 hm2 g2 => ?_) (fun eg m2 f2 => ?_))
        · have hlg := gon_len eg
          rw [eg] at e0
          conv => whnf
          repeat (first | (refine br_f ?_ ?_; (focus (first | with_reducible assumption | (intro zz; apply zz; with_reducible assumption) | (simp (disch := omega) only [m1lt, nIm1, m1nI, not_true_eq_false, not_false_eq_true, jl, nI_ltI, nI_leI, nI_eq, nI_toInt]; omega) | (simp (disch := omega) only [m1lt, nIm1, m1nI, not_true_eq_false, not_false_eq_true, jl, nI_ltI, nI_leI, nI_eq, nI_toInt]; done))); conv => whnf) | (refine br_t ?_ ?_; (focus (first | with_reducible assumption | (intro zz; apply zz; with_reducible assumption) | (simp (disch := omega) only [m1lt, nIm1, m1nI, not_true_eq_false, not_false_eq_true, jl, nI_ltI, nI_leI, nI_eq, nI_toInt]; omega) | (simp (disch := omega) only [m1lt, nIm1, m1nI, not_true_eq_false, not_false_eq_true, jl, nI_ltI, nI_leI, nI_eq, nI_toInt]; done))); conv => whnf) | (with_reducible refine And.intro nz1 ?_; conv => whnf) | (with_reducible refine And.intro nz0 ?_; conv => whnf) | (refine And.intro ?_ ?_; (focus (first | with_reducible assumption | (intro zz; apply zz; with_reducible assumption) | (simp (disch := omega) only [m1lt, nIm1, m1nI, not_true_eq_false, not_false_eq_true, jl, nI_ltI, nI_leI, nI_eq, nI_toInt]; omega) | (simp (disch := omega) only [m1lt, nIm1, m1nI, not_true_eq_false, not_false_eq_true, jl, nI_ltI, nI_leI, nI_eq, nI_toInt]; done))); conv => whnf) | (refine And.intro ?_ ?_; (focus (first | with_reducible assumption | ((with_reducible refine vp_in_nI ?_ ?_) <;> omega) | ((with_reducible refine vp_0 ?_); omega) | ((with_reducible refine vp_s1 ?_ ?_) <;> omega) | ((with_reducible refine vp_a1 ?_ ?_) <;> omega) | ((with_reducible refine vp_m1 ?_ ?_) <;> omega) | ((with_reducible refine vp_m2 ?_ ?_) <;> omega))); conv => whnf))
          refine hP _ _ _ _ ?_
          rw [nI_1]
          exact next w2 c2 b2 m2 _ (fun _ _ => e0) hlg.1 hlg.2 f2 hm2 g2
        · rw [eg] at e0
          conv => whnf
          repeat (first | (refine br_f ?_ ?_; (focus (first | with_reducible assumption | (intro zz; apply zz; with_reducible assumption) | (simp (disch := omega) only [m1lt, nIm1, m1nI, not_true_eq_false, not_false_eq_true, jl, nI_ltI, nI_leI, nI_eq, nI_toInt]; omega) | (simp (disch := omega) only [m1lt, nIm1, m1nI, not_true_eq_false, not_false_eq_true, jl, nI_ltI, nI_leI, nI_eq, nI_toInt]; done))); conv => whnf) | (refine br_t ?_ ?_; (focus (first | with_reducible assumption | (intro zz; apply zz; with_reducible assumption) | (simp (disch := omega) only [m1lt, nIm1, m1nI, not_true_eq_false, not_false_eq_true, jl, nI_ltI, nI_leI, nI_eq, nI_toInt]; omega) | (simp (disch := omega) only [m1lt, nIm1, m1nI, not_true_eq_false, not_false_eq_true, jl, nI_ltI, nI_leI, nI_eq, nI_toInt]; done))); conv => whnf) | (with_reducible refine And.intro nz1 ?_; conv => whnf) | (with_reducible refine And.intro nz0 ?_; conv => whnf) | (refine And.intro ?_ ?_; (focus (first | with_reducible assumption | (intro zz; apply zz; with_reducible assumption) | (simp (disch := omega) only [m1lt, nIm1, m1nI, not_true_eq_false, not_false_eq_true, jl, nI_ltI, nI_leI, nI_eq, nI_toInt]; omega) | (simp (disch := omega) only [m1lt, nIm1, m1nI, not_true_eq_false, not_false_eq_true, jl, nI_ltI, nI_leI, nI_eq, nI_toInt]; done))); conv => whnf) | (refine And.intro ?_ ?_; (focus (first | with_reducible assumption | ((with_reducible refine vp_in_nI ?_ ?_) <;> omega) | ((with_reducible refine vp_0 ?_); omega) | ((with_reducible refine vp_s1 ?_ ?_) <;> omega) | ((with_reducible refine vp_a1 ?_ ?_) <;> omega) | ((with_reducible refine vp_m1 ?_ ?_) <;> omega) | ((with_reducible refine vp_m2 ?_ ?_) <;> omega))); conv => whnf))
          exact fin0 e0 m2 (F1.tr (FrP.ofT f2 (by decide) h18)) (f2.2 5 (by decide))
    | true =>
      have h90 : m1.1 13 9 = 1 := h91
      have e0 : mch L B (f + 1) i w cd true = (match bgn (lexN L B i) (lexV L B i) w cd with
        | some (w2, c2, b2) => mch L B f (lexE L B i) w2 c2 b2
        | none => .inl (lexS L B i)) := by simp only [mch]; rw [if_neg (fun z => by cases z.1), if_pos trivial]
      conv => whnf
      repeat (first | (refine br_f ?_ ?_; (focus (first | with_reducible assumption | (intro zz; apply zz; with_reducible assumption) | (simp (disch := omega) only [h90, m1lt, nIm1, m1nI, not_true_eq_false, not_false_eq_true, jl, nI_ltI, nI_leI, nI_eq, nI_toInt]; omega) | (simp (disch := omega) only [h90, m1lt, nIm1, m1nI, not_true_eq_false, not_false_eq_true, jl, nI_ltI, nI_leI, nI_eq, nI_toInt]; done))); conv => whnf) | (refine br_t ?_ ?_; (focus (first | with_reducible assumption | (intro zz; apply zz; with_reducible assumption) | (simp (disch := omega) only [h90, m1lt, nIm1, m1nI, not_true_eq_false, not_false_eq_true, jl, nI_ltI, nI_leI, nI_eq, nI_toInt]; omega) | (simp (disch := omega) only [h90, m1lt, nIm1, m1nI, not_true_eq_false, not_false_eq_true, jl, nI_ltI, nI_leI, nI_eq, nI_toInt]; done))); conv => whnf) | (with_reducible refine And.intro nz1 ?_; conv => whnf) | (with_reducible refine And.intro nz0 ?_; conv => whnf) | (refine And.intro ?_ ?_; (focus (first | with_reducible assumption | (intro zz; apply zz; with_reducible assumption) | (simp (disch := omega) only [h90, m1lt, nIm1, m1nI, not_true_eq_false, not_false_eq_true, jl, nI_ltI, nI_leI, nI_eq, nI_toInt]; omega) | (simp (disch := omega) only [h90, m1lt, nIm1, m1nI, not_true_eq_false, not_false_eq_true, jl, nI_ltI, nI_leI, nI_eq, nI_toInt]; done))); conv => whnf) | (refine And.intro ?_ ?_; (focus (first | with_reducible assumption | ((with_reducible refine vp_in_nI ?_ ?_) <;> omega) | ((with_reducible refine vp_0 ?_); omega) | ((with_reducible refine vp_s1 ?_ ?_) <;> omega) | ((with_reducible refine vp_a1 ?_ ?_) <;> omega) | ((with_reducible refine vp_m1 ?_ ?_) <;> omega) | ((with_reducible refine vp_m2 ?_ ?_) <;> omega))); conv => whnf))
      refine useC hC (s_begins hok ht h18 hm1 t1 v1 h90 (by omega) (fun w2 c2 b2 m2 eg f2 hm2 g2 => ?_) (fun eg => ?_))
      · have hlg := bgn_len eg
        rw [eg] at e0
        conv => whnf
        repeat (first | (refine br_f ?_ ?_; (focus (first | with_reducible assumption | (intro zz; apply zz; with_reducible assumption) | (simp (disch := omega) only [m1lt, nIm1, m1nI, not_true_eq_false, not_false_eq_true, jl, nI_ltI, nI_leI, nI_eq, nI_toInt]; omega) | (simp (disch := omega) only [m1lt, nIm1, m1nI, not_true_eq_false, not_false_eq_true, jl, nI_ltI, nI_leI, nI_eq, nI_toInt]; done))); conv => whnf) | (refine br_t ?_ ?_; (focus (first | with_reducible assumption | (intro zz; apply zz; with_reducible assumption) | (simp (disch := omega) only [m1lt, nIm1, m1nI, not_true_eq_false, not_false_eq_true, jl, nI_ltI, nI_leI, nI_eq, nI_toInt]; omega) | (simp (disch := omega) only [m1lt, nIm1, m1nI, not_true_eq_false, not_false_eq_true, jl, nI_ltI, nI_leI, nI_eq, nI_toInt]; done))); conv => whnf) | (with_reducible refine And.intro nz1 ?_; conv => whnf) | (with_reducible refine And.intro nz0 ?_; conv => whnf) | (refine And.intro ?_ ?_; (focus (first | with_reducible assumption | (intro zz; apply zz; with_reducible assumption) | (simp (disch := omega) only [m1lt, nIm1, m1nI, not_true_eq_false, not_false_eq_true, jl, nI_ltI, nI_leI, nI_eq, nI_toInt]; omega) | (simp (disch := omega) only [m1lt, nIm1, m1nI, not_true_eq_false, not_false_eq_true, jl, nI_ltI, nI_leI, nI_eq, nI_toInt]; done))); conv => whnf) | (refine And.intro ?_ ?_; (focus (first | with_reducible assumption | ((with_reducible refine vp_in_nI ?_ ?_) <;> omega) | ((with_reducible refine vp_0 ?_); omega) | ((with_reducible refine vp_s1 ?_ ?_) <;> omega) | ((with_reducible refine vp_a1 ?_ ?_) <;> omega) | ((with_reducible refine vp_m1 ?_ ?_) <;> omega) | ((with_reducible refine vp_m2 ?_ ?_) <;> omega))); conv => whnf))
        refine hP _ _ _ _ ?_
        rw [nI_1]
        exact next w2 c2 b2 m2 _ (fun _ _ => e0) (by omega) hlg.2 f2 hm2 g2
      · rw [eg] at e0
        conv => whnf
        repeat (first | (refine br_f ?_ ?_; (focus (first | with_reducible assumption | (intro zz; apply zz; with_reducible assumption) | (simp (disch := omega) only [m1lt, nIm1, m1nI, not_true_eq_false, not_false_eq_true, jl, nI_ltI, nI_leI, nI_eq, nI_toInt]; omega) | (simp (disch := omega) only [m1lt, nIm1, m1nI, not_true_eq_false, not_false_eq_true, jl, nI_ltI, nI_leI, nI_eq, nI_toInt]; done))); conv => whnf) | (refine br_t ?_ ?_; (focus (first | with_reducible assumption | (intro zz; apply zz; with_reducible assumption) | (simp (disch := omega) only [m1lt, nIm1, m1nI, not_true_eq_false, not_false_eq_true, jl, nI_ltI, nI_leI, nI_eq, nI_toInt]; omega) | (simp (disch := omega) only [m1lt, nIm1, m1nI, not_true_eq_false, not_false_eq_true, jl, nI_ltI, nI_leI, nI_eq, nI_toInt]; done))); conv => whnf) | (with_reducible refine And.intro nz1 ?_; conv => whnf) | (with_reducible refine And.intro nz0 ?_; conv => whnf) | (refine And.intro ?_ ?_; (focus (first | with_reducible assumption | (intro zz; apply zz; with_reducible assumption) | (simp (disch := omega) only [m1lt, nIm1, m1nI, not_true_eq_false, not_false_eq_true, jl, nI_ltI, nI_leI, nI_eq, nI_toInt]; omega) | (simp (disch := omega) only [m1lt, nIm1, m1nI, not_true_eq_false, not_false_eq_true, jl, nI_ltI, nI_leI, nI_eq, nI_toInt]; done))); conv => whnf) | (refine And.intro ?_ ?_; (focus (first | with_reducible assumption | ((with_reducible refine vp_in_nI ?_ ?_) <;> omega) | ((with_reducible refine vp_0 ?_); omega) | ((with_reducible refine vp_s1 ?_ ?_) <;> omega) | ((with_reducible refine vp_a1 ?_ ?_) <;> omega) | ((with_reducible refine vp_m1 ?_ ?_) <;> omega) | ((with_reducible refine vp_m2 ?_ ?_) <;> omega))); conv => whnf))
        exact fin0 e0 m1 F1 rfl
end PTS
