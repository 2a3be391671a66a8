/-! THE CELLS OF BOTH SYSTEMS, in the order in which they are made -/
def oRing (k : Nat) : List Shp := [.inl (2, [k + 4, 0]), .inr (.inl (0, 16))]
def oText (k : Nat) : List Shp := [.inl (5, [k + 4, k + 5, 0]), .inr (.inl (0, 160)), .inr (.inl (0, 3))]
def oSheet (k : Nat) : List Shp := [.inl (4, [k + 4, 0, 0]), .inr (.inl (0, 40))]
def SH : List Shp := [.inl (6, [4, 6, 8, 10, 14, 16, 19, 20, 0, 0, 0, 0]),
  .inl (2, [5, 0]), .inr (.inl (0, 16)), .inl (2, [7, 0]), .inr (.inl (0, 16)), .inl (2, [9, 0]), .inr (.inl (0, 16)),
  .inl (3, [11, 12, 13, 0, 0, 0]), .inr (.inl (0, 16)), .inr (.inl (0, 6)), .inr (.inl (0, 40)),
  .inl (0, [15, 0]), .inr (.inl (0, 6)),
  .inl (1, [17, 18, 0, 0, 0, 0, 0, 0, 0, 0]), .inr (.inl (0, 160)), .inr (.inl (0, 160)),
  .inr (.inr (2, [21, 24, 27, 30, 33, 36])), .inr (.inr (3, [39, 41, 43, 45])),
  .inl (5, [22, 23, 0]), .inr (.inl (0, 160)), .inr (.inl (0, 3)), .inl (5, [25, 26, 0]), .inr (.inl (0, 160)), .inr (.inl (0, 3)), .inl (5, [28, 29, 0]), .inr (.inl (0, 160)), .inr (.inl (0, 3)),
  .inl (5, [31, 32, 0]), .inr (.inl (0, 160)), .inr (.inl (0, 3)), .inl (5, [34, 35, 0]), .inr (.inl (0, 160)), .inr (.inl (0, 3)), .inl (5, [37, 38, 0]), .inr (.inl (0, 160)), .inr (.inl (0, 3)),
  .inl (4, [40, 0, 0]), .inr (.inl (0, 40)), .inl (4, [42, 0, 0]), .inr (.inl (0, 40)), .inl (4, [44, 0, 0]), .inr (.inl (0, 40)), .inl (4, [46, 0, 0]), .inr (.inl (0, 40)),
  .inl (7, [0, 48, 49, 0, 0, 50, 0, 51, 52, 0, 0, 0, 0, 0, 0, 0, 0, 0, 0, 0, 0, 1, 0, 0, 0, 53, 0, 0, 0, 0, 54, 0, 0, 55, 56, 0, 0, 57, 58, 59, 60]),
  .inr (.inl (0, 960)), .inr (.inl (0, 6)), .inr (.inl (0, 160)), .inr (.inl (0, 16)), .inr (.inl (0, 16)), .inr (.inl (0, 16)), .inr (.inl (0, 6)), .inr (.inl (0, 16)), .inr (.inl (0, 16)), .inr (.inl (1, 4)), .inr (.inl (0, 4)), .inr (.inl (0, 4)), .inr (.inl (0, 160))]
abbrev CT (d : Nat) : Cr := callT cds SH d
theorem CT_mono (d : Nat) : CMono (CT d) := callT_mono mo_cds SH d
/-- a method is gone into; what it calls and where it jumps back are closed boxes -/
theorem opn {d y n : Nat} {c : List (Nat × Op)} {args : List Value} {m : Mm} {Q : Qr} (hc : cds y = (n, c)) (hl : Nat.ble (entA args).length n = true) (h : ∀ (C : Cr) (P : Nat → Kn), C = CT d → (∀ t ls st m, WP SH (CT d) Q c t ls st m → P t ls st m) → blk SH C Q P c 0 (entL n args) [] m) : CT (d + 1) y args m Q :=
  call_of mo_cds hc hl (h _ _ rfl (fun _ _ _ _ z => z))
/-- at a loop's head -/
theorem wpn {d t : Nat} {c : List (Nat × Op)} {ls : Lz} {st : Sk} {m : Mm} {Q : Qr} (hm : MonoL c) (h : ∀ (C : Cr) (P : Nat → Kn), C = CT d → (∀ t ls st m, WP SH (CT d) Q c t ls st m → P t ls st m) → blk SH C Q P c t ls st m) : WP SH (CT d) Q c t ls st m :=
  WP.of hm (CT_mono d) (h _ _ rfl (fun _ _ _ _ z => z))
theorem useC {C : Cr} {d y : Nat} {a : List Value} {m : Mm} {Q : Qr} (hC : C = CT d) (h : CT d y a m Q) : C y a m Q := hC ▸ h
/-- a run from a place on is a run of the steps from there -/
theorem WP.un {sh : List Shp} {C : Cr} {Q : Qr} {code : List (Nat × Op)} (hm : MonoL code) (hC : CMono C) {pc : Nat} {ls : Lz} {st : Sk} {m : Mm} (h : WP sh C Q code pc ls st m) : blk sh C Q (WP sh C Q code) code pc ls st m :=
  h (fun pc ls st m => blk sh C Q (WP sh C Q code) code pc ls st m) (fun _ _ _ _ hb => blk_mono hC (fun _ _ z => z) (fun _ _ _ _ z => WP.of hm hC z) code hm _ _ _ _ hb)
theorem blk_skip {sh : List Shp} {C : Cr} {Q : Qr} {P : Nat → Kn} {t : Nat} (h0 : t ≠ 0) : ∀ (pre suf : List (Nat × Op)), (∀ q ∈ pre, q.1 ≠ t) → ∀ {ls : Lz} {st : Sk} {m : Mm}, blk sh C Q P (pre ++ suf) t ls st m → blk sh C Q P suf t ls st m
  | [], _, _, _, _, _, h => h
  | (pc, op) :: r, suf, hp, ls, st, m, h => by
    have h1 : pc ≠ t := hp (pc, op) List.mem_cons_self
    simp only [List.cons_append, blk] at h
    rw [show (Nat.beq t 0 || Nat.beq t pc) = false by
      cases e : (Nat.beq t 0 || Nat.beq t pc) with
      | false => rfl
      | true =>
        rcases (Bool.or_eq_true _ _).mp e with z | z
        · exact absurd (Nat.eq_of_beq_eq_true z) h0
        · exact absurd (Nat.eq_of_beq_eq_true z).symm h1] at h
    exact blk_skip h0 r suf (fun q hq => hp q (List.mem_cons_of_mem _ hq)) h
theorem blk_at {sh : List Shp} {C : Cr} {Q : Qr} {P : Nat → Kn} {t : Nat} {op : Op} {r : List (Nat × Op)} {ls : Lz} {st : Sk} {m : Mm} (h : blk sh C Q P ((t, op) :: r) t ls st m) : blk sh C Q P ((t, op) :: r) 0 ls st m := by
  simp only [blk] at h ⊢
  rw [show (Nat.beq t 0 || Nat.beq t t) = true by rw [Nat.beq_refl]; exact Bool.or_true _] at h
  exact h
theorem wp_in {d t : Nat} {C : Cr} {P : Nat → Kn} {c pre r : List (Nat × Op)} {op : Op} {ls : Lz} {st : Sk} {m : Mm} {Q : Qr} (hc : c = pre ++ (t, op) :: r) (h0 : t ≠ 0) (hp : ∀ q ∈ pre.map Prod.fst, q ≠ t) (hm : MonoL c) (hm2 : MonoL ((t, op) :: r)) (hC : C = CT d) (hP : ∀ t ls st m, WP SH (CT d) Q c t ls st m → P t ls st m) (h : WP SH (CT d) Q c t ls st m) : blk SH C Q P ((t, op) :: r) 0 ls st m := by
  subst hC
  have h1 := WP.un hm (CT_mono d) h
  rw [hc] at h1
  have h2 := blk_at (blk_skip h0 pre _ (fun q hq => hp q.1 (List.mem_map_of_mem hq)) h1)
  rw [← hc] at h2
  exact blk_mono (CT_mono d) (fun _ _ z => z) hP _ hm2 _ _ _ _ h2
