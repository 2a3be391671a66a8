/-! WHAT A READING LEAVES IS A CODE -/
def hs1 (h x : Nat) : Option Nat := if x < 6 ∨ 100 ≤ x ∧ x < 20000 then (if h < 40 then some (h + 1) else none) else if x = 40 ∨ x = 80 then (if 1 ≤ h ∧ h ≤ 40 then some h else none) else if x = 20 ∨ x = 30 ∨ x = 50 ∨ x = 51 ∨ x = 60 ∨ x = 61 ∨ x = 70 then (if 2 ≤ h ∧ h ≤ 40 then some (h - 1) else none) else none
def hst : Nat → List Nat → Option Nat
  | h, [] => some h
  | h, x :: r => match hs1 h x with
    | some h2 => hst h2 r
    | none => none
theorem hst_app : ∀ (a b : List Nat) (h : Nat), hst h (a ++ b) = match hst h a with
    | some h2 => hst h2 b
    | none => none
  | [], b, h => rfl
  | x :: r, b, h => by
    simp only [List.cons_append, hst]
    cases hs1 h x with
    | none => rfl
    | some h2 => exact hst_app r b h2
theorem hok_of : ∀ (c : List Nat) (h : Nat), hst h c = some 1 → hok h c
  | [], h, z => by cases z; rfl
  | x :: r, h, z => by
    simp only [hst, hs1] at z
    simp only [hok]
    split at z
    · next h2 e =>
      split at e
      · next g => split at e
                  · cases e; exact Or.inl ⟨g, by assumption, hok_of r _ z⟩
                  · cases e
      split at e
      · next g => split at e
                  · next g2 => cases e; exact Or.inr (Or.inl ⟨g, g2.1, g2.2, hok_of r _ z⟩)
                  · cases e
      split at e
      · next g => split at e
                  · next g2 => cases e; exact Or.inr (Or.inr ⟨g, g2.1, g2.2, hok_of r _ z⟩)
                  · cases e
      · cases e
    · cases z
def bin : List Nat → Nat
  | [] => 0
  | x :: r => (if x = 10 ∨ x = 40 ∨ x = 80 then 0 else 1) + bin r
def tlv : List Nat → Nat
  | [] => 0
  | x :: _ => if x = 10 ∨ x = 40 ∨ x = 80 then 0 else if x = 20 then 1 else if x = 30 then 2 else if x = 50 ∨ x = 51 then 3 else if x = 60 ∨ x = 61 then 4 else 5
def opn7 (x : Nat) : Prop := x = 20 ∨ x = 30 ∨ x = 50 ∨ x = 51 ∨ x = 60 ∨ x = 61 ∨ x = 70
def srt : List Nat → Prop
  | [] => True
  | x :: r => srt r ∧ (isPre x ∨ (opn7 x ∧ ∀ y s, r = y :: s → y / 10 < x / 10))
theorem tlv_le (w : List Nat) : tlv w ≤ 5 := by
  cases w with
  | nil => exact Nat.zero_le _
  | cons x r => simp only [tlv]; repeat' split <;> try omega
theorem bin_le : ∀ w, srt w → bin w ≤ 5 * cnt w + tlv w
  | [], _ => Nat.zero_le _
  | x :: r, h => by
    obtain ⟨h1, h2⟩ := h
    have ih := bin_le r h1
    have t5 := tlv_le r
    rcases h2 with h2 | ⟨h2, h3⟩
    · simp only [bin, cnt, tlv]
      have h2' : x = 10 ∨ x = 40 ∨ x = 80 := h2
      rw [if_pos h2', if_pos h2', if_pos h2']
      omega
    · have hn : ¬ (x = 10 ∨ x = 40 ∨ x = 80) := by unfold opn7 at h2; omega
      have : tlv r < tlv (x :: r) := by
        cases r with
        | nil =>
          show 0 < tlv [x]
          simp only [tlv, if_neg hn]
          repeat' split <;> try omega
        | cons y s =>
          have h4 := h3 y s rfl
          have hy := h1.2
          unfold isPre opn7 at hy
          unfold opn7 at h2
          simp only [tlv, if_neg hn]
          rcases h2 with rfl | rfl | rfl | rfl | rfl | rfl | rfl <;> rcases hy with (rfl | rfl | rfl) | ⟨(rfl | rfl | rfl | rfl | rfl | rfl | rfl), _⟩ <;> first | decide | (exfalso; revert h4; decide)
      simp only [bin, cnt]
      rw [if_neg hn, if_neg hn]
      omega
/-- what holds of the reader's row and the code of a part at any token -/
def inv (c0 w cd : List Nat) (b : Bool) : Prop := ∃ k, cd = c0 ++ k ∧ hst 0 k = some (bin w + if b = true then 0 else 1) ∧ srt w ∧ cnt w ≤ 5
theorem wof_app (least : Nat) (c0 : List Nat) : ∀ (w k : List Nat), wof least w (c0 ++ k) = ((wof least w k).1, c0 ++ (wof least w k).2)
  | [], k => rfl
  | x :: r, k => by
    simp only [wof]
    split
    · rw [List.append_assoc]; exact wof_app least c0 r (k ++ [x])
    · rfl
theorem cnt_app (x : Nat) (r : List Nat) : cnt r ≤ cnt (x :: r) := by simp only [cnt]; omega
theorem inv_wof {least : Nat} {c0 : List Nat} (h20 : 20 ≤ least) : ∀ (w cd : List Nat), inv c0 w cd false → inv c0 (wof least w cd).1 (wof least w cd).2 false
  | [], _, h => h
  | x :: r, cd, h => by
    simp only [wof]
    split
    · next hx =>
      refine inv_wof h20 r (cd ++ [x]) ?_
      obtain ⟨k, hk, hh, hs, hc⟩ := h
      have hb := bin_le _ hs
      have t5 := tlv_le (x :: r)
      refine ⟨k ++ [x], by rw [hk, List.append_assoc], ?_, hs.1, Nat.le_trans (cnt_app x r) hc⟩
      rw [hst_app, hh]
      have h2 := hs.2
      simp only [hst, hs1]
      rcases h2 with h2 | ⟨h2, -⟩
      · unfold isPre at h2
        have e : bin (x :: r) = bin r := by simp only [bin]; rw [if_pos h2]; omega
        rw [e] at hb ⊢
        rw [if_neg (by omega), if_pos (by omega), if_pos ⟨by simp, by simp; omega⟩]
      · unfold opn7 at h2
        have e : bin (x :: r) = bin r + 1 := by simp only [bin]; rw [if_neg (by omega)]; omega
        rw [e] at hb ⊢
        rw [if_neg (by omega), if_neg (by omega), if_pos h2, if_pos ⟨by simp, by simp; omega⟩]
        simp
    · exact h
theorem wof_head {least : Nat} : ∀ {w cd : List Nat} {x : Nat} {r : List Nat}, (wof least w cd).1 = x :: r → x < least
  | a :: s, cd, x, r, h => by
    simp only [wof] at h
    split at h
    · exact wof_head h
    · next z => cases h; omega
theorem inv_push {c0 w cd : List Nat} {o : Nat} (h : inv c0 w cd false) (ho : opn7 o) (hh : ∀ x r, w = x :: r → x / 10 < o / 10) : inv c0 (o :: w) cd true := by
  obtain ⟨k, hk, hh2, hs, hc⟩ := h
  refine ⟨k, hk, ?_, ⟨hs, Or.inr ⟨ho, hh⟩⟩, ?_⟩
  · rw [hh2]
    simp only [bin]
    unfold opn7 at ho
    have hn : ¬ (o = 10 ∨ o = 40 ∨ o = 80) := by omega
    rw [if_neg hn]
    simp
    omega
  · simp only [cnt]
    unfold opn7 at ho
    rw [if_neg (by omega)]
    omega
theorem inv_bgn {c0 w cd w2 c2 : List Nat} {n v : Nat} {b : Bool} (hv : n = 12 → v < 10000) (h : inv c0 w cd true) (e : bgn n v w cd = some (w2, c2, b)) : inv c0 w2 c2 b := by
  obtain ⟨k, hk, hh, hs, hc⟩ := h
  have hb := bin_le _ hs
  have t5 := tlv_le w
  have put : ∀ x, x < 6 ∨ 100 ≤ x ∧ x < 20000 → inv c0 w (cd ++ [x]) false := by
    intro x hx
    refine ⟨k ++ [x], by rw [hk, List.append_assoc], ?_, hs, hc⟩
    rw [hst_app, hh]
    simp only [hst, hs1]
    rw [if_pos hx, if_pos (by simp; omega)]
    simp
  unfold bgn at e
  split at e
  · next z => cases e; exact put _ (Or.inr ⟨by omega, by have := hv z; omega⟩)
  split at e
  · next z => cases e; exact put _ (Or.inl z)
  · split at e
    · next o z =>
      split at e
      · next z2 =>
        cases e
        have hp := opg_in z
        have hp' : o = 10 ∨ o = 40 ∨ o = 80 := hp
        refine ⟨k, hk, ?_, ⟨hs, Or.inl hp⟩, ?_⟩
        · rw [hh]; simp only [bin]; rw [if_pos hp']; simp
        · simp only [cnt]; rw [if_pos hp']; omega
      · cases e
    · cases e
theorem inv_gon {c0 w cd w2 c2 : List Nat} {n : Nat} {b : Bool} (h : inv c0 w cd false) (e : gon n w cd = some (w2, c2, b)) : inv c0 w2 c2 b := by
  unfold gon at e
  split at e
  · have h2 := inv_wof (least := 20) (by decide) w cd h
    split at e
    · next r c3 z =>
      rw [z] at h2
      cases e
      obtain ⟨k, hk, hh, hs, hc⟩ := h2
      refine ⟨k, hk, ?_, hs.1, Nat.le_trans (cnt_app 10 w2) hc⟩
      rw [hh]
      simp [bin]
    · cases e
  · split at e
    · next o z =>
      have ho := opr_in z
      split at e
      · next hcm =>
        have h2 := inv_wof (least := 60) (by decide) w cd h
        split at e
        · next x r c3 z2 =>
          rw [z2] at h2
          split at e
          · cases e
          · cases e
            refine inv_push h2 ho (fun y s q => ?_)
            cases q
            omega
        · next c3 z2 =>
          rw [z2] at h2
          cases e
          exact inv_push h2 ho (fun y s q => by cases q)
      · next hcm =>
        cases e
        refine inv_push (inv_wof (by omega) w cd h) ho (fun y s q => ?_)
        have := wof_head q
        omega
    · cases e
theorem inv_mch {L : Nat} {B : Nat → Nat} {c0 : List Nat} : ∀ (f i : Nat) (w cd : List Nat) (b : Bool) (c : List Nat) (i2 : Nat), inv c0 w cd b → mch L B f i w cd b = .inr (c, i2) → ∃ k, c = c0 ++ k ∧ hok 0 k
  | 0, _, _, _, _, _, _, _, e => by cases e
  | f + 1, i, w, cd, b, c, i2, h, e => by
    simp only [mch] at e
    split at e
    · next z =>
      rw [z.1] at h
      have h2 := inv_wof (least := 20) (by decide) w cd h
      split at e
      · next c3 z2 =>
        rw [z2] at h2
        cases e
        obtain ⟨k, hk, hh, -, -⟩ := h2
        exact ⟨k, hk, hok_of _ _ hh⟩
      · cases e
    · split at e
      · next w2 c2 b2 z =>
        refine inv_mch f _ w2 c2 b2 c i2 ?_ e
        cases b with
        | true => rw [if_pos rfl] at z; exact inv_bgn (fun q => lexV_lt q) h z
        | false => rw [if_neg (by decide)] at z; exact inv_gon h z
      · cases e
theorem rpt_ok {L : Nat} {B : Nat → Nat} {p i i2 : Nat} {c0 c : List Nat} (e : rpt L B p i c0 = .inr (c, i2)) : ∃ k, c = c0 ++ k ∧ hok 0 k := by
  unfold rpt at e
  split at e
  · exact inv_mch 161 (lexE L B i) [] c0 true c i2 ⟨[], by simp, rfl, trivial, by simp [cnt]⟩ e
  · cases e
/-- the rows of a text that could be read -/
def rows3 (a b c : List Nat) (p : Nat) : List Nat := if p = 0 then a else if p = 1 then b else c
theorem rdp_ok {L : Nat} {B : Nat → Nat} {c0 c1 c2 : List Nat} (e : rdp L B = .inr (c0, c1, c2)) : ∃ a b c, c0 = a ∧ c1 = a ++ b ∧ c2 = a ++ b ++ c ∧ ∀ p, p < 3 → hok 0 (rows3 a b c p) := by
  unfold rdp at e
  split at e
  · cases e
  · next d0 i0 e0 =>
    split at e
    · cases e
    · next d1 i1 e1 =>
      split at e
      · cases e
      · next d2 i2 e2 =>
        split at e
        · cases e
          obtain ⟨a, ha, ha2⟩ := rpt_ok e0
          obtain ⟨b, hb, hb2⟩ := rpt_ok e1
          obtain ⟨c, hc, hc2⟩ := rpt_ok e2
          simp only [List.nil_append] at ha
          refine ⟨a, b, c, ha, by rw [hb, ha], by rw [hc, hb, ha], fun p hp => ?_⟩
          match p, hp with
          | 0, _ => exact ha2
          | 1, _ => exact hb2
          | 2, _ => exact hc2
        · cases e
/-- what a text of so many bytes tells, if it can be read -/
def GT (L : Nat) (B : Nat → Nat) (T : Nat → List Nat) : Prop := rdp L B = .inr (T 0, T 0 ++ T 1, T 0 ++ T 1 ++ T 2) ∧ ∀ p, p < 3 → hok 0 (T p)
theorem GT_of {L : Nat} {B : Nat → Nat} {c0 c1 c2 : List Nat} (e : rdp L B = .inr (c0, c1, c2)) : ∃ T, GT L B T ∧ c0 = T 0 ∧ c1 = T 0 ++ T 1 ∧ c2 = T 0 ++ T 1 ++ T 2 := by
  obtain ⟨a, b, c, h0, h1, h2, h3⟩ := rdp_ok e
  refine ⟨rows3 a b c, ⟨?_, h3⟩, h0, h1, h2⟩
  rw [e, h0, h1, h2]
  rfl
