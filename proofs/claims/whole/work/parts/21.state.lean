/-! THE CELLS OF BOTH SYSTEMS, in the order in which they are made -/
def oRing (k : Nat) : List Shp := [.inl (2, [k + 4, 0]), .inr (.inl (0, 16))]
def oText (k : Nat) : List Shp := [.inl (5, [k + 4, k + 5, 0]), .inr (.inl (0, 160)), .inr (.inl (0, 3))]
def oSheet (k : Nat) : List Shp := [.inl (4, [k + 4, 0, 0]), .inr (.inl (0, 40))]
def SH : List Shp := [.inl (6, [4, 6, 8, 10, 14, 16, 19, 20, 0, 0, 0, 0]),
  .inl (2, [5, 0]), .inr (.inl (0, 16)), .inl (2, [7, 0]), .inr (.inl (0, 16)), .inl (2, [9, 0]), .inr (.inl (0, 16)),
  .inl (3, [11, 12, 13, 0, 0, 0]), .inr (.inl (0, 16)), .inr (.inl (0, 6)), .inr (.inl (0, 40)),
  .inl (0, [15, 0]), .inr (.inl (0, 6)),
  .inl (1, [17, 18, 0, 0, 0, 0, 0, 0, 0, 0]), .inr (.inl (0, 160)), .inr (.inl (0, 160)),
  .inr (.inr (2, [21, 24, 27, 30, 33, 36])), .inr (.inr (3, [39, 41, 43, 45])),
  .inl (5, [22, 23, 0]), .inr (.inl (0, 160)), .inr (.inl (0, 3)), .inl (5, [25, 26, 0]), .inr (.inl (0, 160)), .inr (.inl (0, 3)), .inl (5, [28, 29, 0]), .inr (.inl (0, 160)), .inr (.inl (0, 3)),
  .inl (5, [31, 32, 0]), .inr (.inl (0, 160)), .inr (.inl (0, 3)), .inl (5, [34, 35, 0]), .inr (.inl (0, 160)), .inr (.inl (0, 3)), .inl (5, [37, 38, 0]), .inr (.inl (0, 160)), .inr (.inl (0, 3)),
  .inl (4, [40, 0, 0]), .inr (.inl (0, 40)), .inl (4, [42, 0, 0]), .inr (.inl (0, 40)), .inl (4, [44, 0, 0]), .inr (.inl (0, 40)), .inl (4, [46, 0, 0]), .inr (.inl (0, 40)),
  .inl (7, [0, 48, 49, 0, 0, 50, 0, 51, 52, 0, 0, 0, 0, 0, 0, 0, 0, 0, 0, 0, 0, 1, 0, 0, 0, 53, 0, 0, 0, 0, 54, 0, 0, 55, 56, 0, 0, 57, 58, 59, 60]),
  .inr (.inl (0, 960)), .inr (.inl (0, 6)), .inr (.inl (0, 160)), .inr (.inl (0, 16)), .inr (.inl (0, 16)), .inr (.inl (0, 16)), .inr (.inl (0, 6)), .inr (.inl (0, 16)), .inr (.inl (0, 16)), .inr (.inl (1, 4)), .inr (.inl (0, 4)), .inr (.inl (0, 4)), .inr (.inl (0, 160))]
abbrev CT (d : Nat) : Cr := callT cds SH d
theorem CT_mono (d : Nat) : CMono (CT d) := callT_mono mo_cds SH d
/-- a method is gone into; what it calls and where it jumps back are closed boxes -/
theorem opn {d y n : Nat} {c : List (Nat × Op)} {args : List Value} {m : Mm} {Q : Qr} (hc : cds y = (n, c)) (hl : Nat.ble (entA args).length n = true) (h : ∀ (C : Cr) (P : Nat → Kn), C = CT d → (∀ t ls st m, WP SH (CT d) Q c t ls st m → P t ls st m) → blk SH C Q P c 0 (entL n args) [] m) : CT (d + 1) y args m Q :=
  call_of mo_cds hc hl (h _ _ rfl (fun _ _ _ _ z => z))
/-- at a loop's head -/
theorem wpn {d t : Nat} {c : List (Nat × Op)} {ls : Lz} {st : Sk} {m : Mm} {Q : Qr} (hm : MonoL c) (h : ∀ (C : Cr) (P : Nat → Kn), C = CT d → (∀ t ls st m, WP SH (CT d) Q c t ls st m → P t ls st m) → blk SH C Q P c t ls st m) : WP SH (CT d) Q c t ls st m :=
  WP.of hm (CT_mono d) (h _ _ rfl (fun _ _ _ _ z => z))
theorem useC {C : Cr} {d y : Nat} {a : List Value} {m : Mm} {Q : Qr} (hC : C = CT d) (h : CT d y a m Q) : C y a m Q := hC ▸ h
