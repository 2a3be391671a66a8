/-! WHAT IS BEHIND A STEP MAY BE MORE; how a run is opened -/
section MON
def CMono (C : Cr) : Prop := ∀ (y : Nat) (a : List Value) (m : Mm) (Q Q' : Qr), (∀ r m, Q r m → Q' r m) → C y a m Q → C y a m Q'

theorem mo_const (v : Int32) : Mono (o_const v) := by
  intro sh C C' Q Q' ls st m kn kn' kt kt' hC hQ hn ht
  unfold o_const
  repeat (first | (first | exact hn _ _ _ | exact ht _ _ _ _ | exact id | exact fun h => ⟨h.1, hn _ _ _ h.2⟩ | exact fun h => ⟨fun z => ht _ _ _ _ (h.1 z), fun z => hn _ _ _ (h.2 z)⟩ | exact fun h => ⟨h.1, h.2.1, hn _ _ _ h.2.2⟩ | exact fun h => ⟨h.1, hQ _ _ h.2⟩ | exact hQ _ _ | exact fun h => hC _ _ _ _ _ (fun _ _ z => hn _ _ _ z) h | exact fun h => h.elim) | split)
theorem mo_lconst (v : Int64) : Mono (o_lconst v) := by
  intro sh C C' Q Q' ls st m kn kn' kt kt' hC hQ hn ht
  unfold o_lconst
  repeat (first | (first | exact hn _ _ _ | exact ht _ _ _ _ | exact id | exact fun h => ⟨h.1, hn _ _ _ h.2⟩ | exact fun h => ⟨fun z => ht _ _ _ _ (h.1 z), fun z => hn _ _ _ (h.2 z)⟩ | exact fun h => ⟨h.1, h.2.1, hn _ _ _ h.2.2⟩ | exact fun h => ⟨h.1, hQ _ _ h.2⟩ | exact hQ _ _ | exact fun h => hC _ _ _ _ _ (fun _ _ z => hn _ _ _ z) h | exact fun h => h.elim) | split)
theorem mo_null  : Mono o_null := by
  intro sh C C' Q Q' ls st m kn kn' kt kt' hC hQ hn ht
  unfold o_null
  repeat (first | (first | exact hn _ _ _ | exact ht _ _ _ _ | exact id | exact fun h => ⟨h.1, hn _ _ _ h.2⟩ | exact fun h => ⟨fun z => ht _ _ _ _ (h.1 z), fun z => hn _ _ _ (h.2 z)⟩ | exact fun h => ⟨h.1, h.2.1, hn _ _ _ h.2.2⟩ | exact fun h => ⟨h.1, hQ _ _ h.2⟩ | exact hQ _ _ | exact fun h => hC _ _ _ _ _ (fun _ _ z => hn _ _ _ z) h | exact fun h => h.elim) | split)
theorem mo_iload (i : Nat) : Mono (o_iload i) := by
  intro sh C C' Q Q' ls st m kn kn' kt kt' hC hQ hn ht
  unfold o_iload
  repeat (first | (first | exact hn _ _ _ | exact ht _ _ _ _ | exact id | exact fun h => ⟨h.1, hn _ _ _ h.2⟩ | exact fun h => ⟨fun z => ht _ _ _ _ (h.1 z), fun z => hn _ _ _ (h.2 z)⟩ | exact fun h => ⟨h.1, h.2.1, hn _ _ _ h.2.2⟩ | exact fun h => ⟨h.1, hQ _ _ h.2⟩ | exact hQ _ _ | exact fun h => hC _ _ _ _ _ (fun _ _ z => hn _ _ _ z) h | exact fun h => h.elim) | split)
theorem mo_lload (i : Nat) : Mono (o_lload i) := by
  intro sh C C' Q Q' ls st m kn kn' kt kt' hC hQ hn ht
  unfold o_lload
  repeat (first | (first | exact hn _ _ _ | exact ht _ _ _ _ | exact id | exact fun h => ⟨h.1, hn _ _ _ h.2⟩ | exact fun h => ⟨fun z => ht _ _ _ _ (h.1 z), fun z => hn _ _ _ (h.2 z)⟩ | exact fun h => ⟨h.1, h.2.1, hn _ _ _ h.2.2⟩ | exact fun h => ⟨h.1, hQ _ _ h.2⟩ | exact hQ _ _ | exact fun h => hC _ _ _ _ _ (fun _ _ z => hn _ _ _ z) h | exact fun h => h.elim) | split)
theorem mo_aload (i : Nat) : Mono (o_aload i) := by
  intro sh C C' Q Q' ls st m kn kn' kt kt' hC hQ hn ht
  unfold o_aload
  repeat (first | (first | exact hn _ _ _ | exact ht _ _ _ _ | exact id | exact fun h => ⟨h.1, hn _ _ _ h.2⟩ | exact fun h => ⟨fun z => ht _ _ _ _ (h.1 z), fun z => hn _ _ _ (h.2 z)⟩ | exact fun h => ⟨h.1, h.2.1, hn _ _ _ h.2.2⟩ | exact fun h => ⟨h.1, hQ _ _ h.2⟩ | exact hQ _ _ | exact fun h => hC _ _ _ _ _ (fun _ _ z => hn _ _ _ z) h | exact fun h => h.elim) | split)
theorem mo_istore (i : Nat) : Mono (o_istore i) := by
  intro sh C C' Q Q' ls st m kn kn' kt kt' hC hQ hn ht
  unfold o_istore
  repeat (first | (first | exact hn _ _ _ | exact ht _ _ _ _ | exact id | exact fun h => ⟨h.1, hn _ _ _ h.2⟩ | exact fun h => ⟨fun z => ht _ _ _ _ (h.1 z), fun z => hn _ _ _ (h.2 z)⟩ | exact fun h => ⟨h.1, h.2.1, hn _ _ _ h.2.2⟩ | exact fun h => ⟨h.1, hQ _ _ h.2⟩ | exact hQ _ _ | exact fun h => hC _ _ _ _ _ (fun _ _ z => hn _ _ _ z) h | exact fun h => h.elim) | split)
theorem mo_astore (i : Nat) : Mono (o_astore i) := by
  intro sh C C' Q Q' ls st m kn kn' kt kt' hC hQ hn ht
  unfold o_astore
  repeat (first | (first | exact hn _ _ _ | exact ht _ _ _ _ | exact id | exact fun h => ⟨h.1, hn _ _ _ h.2⟩ | exact fun h => ⟨fun z => ht _ _ _ _ (h.1 z), fun z => hn _ _ _ (h.2 z)⟩ | exact fun h => ⟨h.1, h.2.1, hn _ _ _ h.2.2⟩ | exact fun h => ⟨h.1, hQ _ _ h.2⟩ | exact hQ _ _ | exact fun h => hC _ _ _ _ _ (fun _ _ z => hn _ _ _ z) h | exact fun h => h.elim) | split)
theorem mo_lstore (i : Nat) : Mono (o_lstore i) := by
  intro sh C C' Q Q' ls st m kn kn' kt kt' hC hQ hn ht
  unfold o_lstore
  repeat (first | (first | exact hn _ _ _ | exact ht _ _ _ _ | exact id | exact fun h => ⟨h.1, hn _ _ _ h.2⟩ | exact fun h => ⟨fun z => ht _ _ _ _ (h.1 z), fun z => hn _ _ _ (h.2 z)⟩ | exact fun h => ⟨h.1, h.2.1, hn _ _ _ h.2.2⟩ | exact fun h => ⟨h.1, hQ _ _ h.2⟩ | exact hQ _ _ | exact fun h => hC _ _ _ _ _ (fun _ _ z => hn _ _ _ z) h | exact fun h => h.elim) | split)
theorem mo_iinc (i : Nat) (n : Int32) : Mono (o_iinc i n) := by
  intro sh C C' Q Q' ls st m kn kn' kt kt' hC hQ hn ht
  unfold o_iinc
  repeat (first | (first | exact hn _ _ _ | exact ht _ _ _ _ | exact id | exact fun h => ⟨h.1, hn _ _ _ h.2⟩ | exact fun h => ⟨fun z => ht _ _ _ _ (h.1 z), fun z => hn _ _ _ (h.2 z)⟩ | exact fun h => ⟨h.1, h.2.1, hn _ _ _ h.2.2⟩ | exact fun h => ⟨h.1, hQ _ _ h.2⟩ | exact hQ _ _ | exact fun h => hC _ _ _ _ _ (fun _ _ z => hn _ _ _ z) h | exact fun h => h.elim) | split)
theorem mo_ii (f : Int32 → Int32 → Int32) : Mono (o_ii f) := by
  intro sh C C' Q Q' ls st m kn kn' kt kt' hC hQ hn ht
  unfold o_ii
  repeat (first | (first | exact hn _ _ _ | exact ht _ _ _ _ | exact id | exact fun h => ⟨h.1, hn _ _ _ h.2⟩ | exact fun h => ⟨fun z => ht _ _ _ _ (h.1 z), fun z => hn _ _ _ (h.2 z)⟩ | exact fun h => ⟨h.1, h.2.1, hn _ _ _ h.2.2⟩ | exact fun h => ⟨h.1, hQ _ _ h.2⟩ | exact hQ _ _ | exact fun h => hC _ _ _ _ _ (fun _ _ z => hn _ _ _ z) h | exact fun h => h.elim) | split)
theorem mo_iz (f : Int32 → Int32 → Int32) : Mono (o_iz f) := by
  intro sh C C' Q Q' ls st m kn kn' kt kt' hC hQ hn ht
  unfold o_iz
  repeat (first | (first | exact hn _ _ _ | exact ht _ _ _ _ | exact id | exact fun h => ⟨h.1, hn _ _ _ h.2⟩ | exact fun h => ⟨fun z => ht _ _ _ _ (h.1 z), fun z => hn _ _ _ (h.2 z)⟩ | exact fun h => ⟨h.1, h.2.1, hn _ _ _ h.2.2⟩ | exact fun h => ⟨h.1, hQ _ _ h.2⟩ | exact hQ _ _ | exact fun h => hC _ _ _ _ _ (fun _ _ z => hn _ _ _ z) h | exact fun h => h.elim) | split)
theorem mo_i1 (f : Int32 → Int32) : Mono (o_i1 f) := by
  intro sh C C' Q Q' ls st m kn kn' kt kt' hC hQ hn ht
  unfold o_i1
  repeat (first | (first | exact hn _ _ _ | exact ht _ _ _ _ | exact id | exact fun h => ⟨h.1, hn _ _ _ h.2⟩ | exact fun h => ⟨fun z => ht _ _ _ _ (h.1 z), fun z => hn _ _ _ (h.2 z)⟩ | exact fun h => ⟨h.1, h.2.1, hn _ _ _ h.2.2⟩ | exact fun h => ⟨h.1, hQ _ _ h.2⟩ | exact hQ _ _ | exact fun h => hC _ _ _ _ _ (fun _ _ z => hn _ _ _ z) h | exact fun h => h.elim) | split)
theorem mo_ll (f : Int64 → Int64 → Int64) : Mono (o_ll f) := by
  intro sh C C' Q Q' ls st m kn kn' kt kt' hC hQ hn ht
  unfold o_ll
  repeat (first | (first | exact hn _ _ _ | exact ht _ _ _ _ | exact id | exact fun h => ⟨h.1, hn _ _ _ h.2⟩ | exact fun h => ⟨fun z => ht _ _ _ _ (h.1 z), fun z => hn _ _ _ (h.2 z)⟩ | exact fun h => ⟨h.1, h.2.1, hn _ _ _ h.2.2⟩ | exact fun h => ⟨h.1, hQ _ _ h.2⟩ | exact hQ _ _ | exact fun h => hC _ _ _ _ _ (fun _ _ z => hn _ _ _ z) h | exact fun h => h.elim) | split)
theorem mo_lz (f : Int64 → Int64 → Int64) : Mono (o_lz f) := by
  intro sh C C' Q Q' ls st m kn kn' kt kt' hC hQ hn ht
  unfold o_lz
  repeat (first | (first | exact hn _ _ _ | exact ht _ _ _ _ | exact id | exact fun h => ⟨h.1, hn _ _ _ h.2⟩ | exact fun h => ⟨fun z => ht _ _ _ _ (h.1 z), fun z => hn _ _ _ (h.2 z)⟩ | exact fun h => ⟨h.1, h.2.1, hn _ _ _ h.2.2⟩ | exact fun h => ⟨h.1, hQ _ _ h.2⟩ | exact hQ _ _ | exact fun h => hC _ _ _ _ _ (fun _ _ z => hn _ _ _ z) h | exact fun h => h.elim) | split)
theorem mo_i2l  : Mono o_i2l := by
  intro sh C C' Q Q' ls st m kn kn' kt kt' hC hQ hn ht
  unfold o_i2l
  repeat (first | (first | exact hn _ _ _ | exact ht _ _ _ _ | exact id | exact fun h => ⟨h.1, hn _ _ _ h.2⟩ | exact fun h => ⟨fun z => ht _ _ _ _ (h.1 z), fun z => hn _ _ _ (h.2 z)⟩ | exact fun h => ⟨h.1, h.2.1, hn _ _ _ h.2.2⟩ | exact fun h => ⟨h.1, hQ _ _ h.2⟩ | exact hQ _ _ | exact fun h => hC _ _ _ _ _ (fun _ _ z => hn _ _ _ z) h | exact fun h => h.elim) | split)
theorem mo_l2i  : Mono o_l2i := by
  intro sh C C' Q Q' ls st m kn kn' kt kt' hC hQ hn ht
  unfold o_l2i
  repeat (first | (first | exact hn _ _ _ | exact ht _ _ _ _ | exact id | exact fun h => ⟨h.1, hn _ _ _ h.2⟩ | exact fun h => ⟨fun z => ht _ _ _ _ (h.1 z), fun z => hn _ _ _ (h.2 z)⟩ | exact fun h => ⟨h.1, h.2.1, hn _ _ _ h.2.2⟩ | exact fun h => ⟨h.1, hQ _ _ h.2⟩ | exact hQ _ _ | exact fun h => hC _ _ _ _ _ (fun _ _ z => hn _ _ _ z) h | exact fun h => h.elim) | split)
theorem mo_lcmp  : Mono o_lcmp := by
  intro sh C C' Q Q' ls st m kn kn' kt kt' hC hQ hn ht
  unfold o_lcmp
  repeat (first | (first | exact hn _ _ _ | exact ht _ _ _ _ | exact id | exact fun h => ⟨h.1, hn _ _ _ h.2⟩ | exact fun h => ⟨fun z => ht _ _ _ _ (h.1 z), fun z => hn _ _ _ (h.2 z)⟩ | exact fun h => ⟨h.1, h.2.1, hn _ _ _ h.2.2⟩ | exact fun h => ⟨h.1, hQ _ _ h.2⟩ | exact hQ _ _ | exact fun h => hC _ _ _ _ _ (fun _ _ z => hn _ _ _ z) h | exact fun h => h.elim) | split)
theorem mo_dup  : Mono o_dup := by
  intro sh C C' Q Q' ls st m kn kn' kt kt' hC hQ hn ht
  unfold o_dup
  repeat (first | (first | exact hn _ _ _ | exact ht _ _ _ _ | exact id | exact fun h => ⟨h.1, hn _ _ _ h.2⟩ | exact fun h => ⟨fun z => ht _ _ _ _ (h.1 z), fun z => hn _ _ _ (h.2 z)⟩ | exact fun h => ⟨h.1, h.2.1, hn _ _ _ h.2.2⟩ | exact fun h => ⟨h.1, hQ _ _ h.2⟩ | exact hQ _ _ | exact fun h => hC _ _ _ _ _ (fun _ _ z => hn _ _ _ z) h | exact fun h => h.elim) | split)
theorem mo_pop  : Mono o_pop := by
  intro sh C C' Q Q' ls st m kn kn' kt kt' hC hQ hn ht
  unfold o_pop
  repeat (first | (first | exact hn _ _ _ | exact ht _ _ _ _ | exact id | exact fun h => ⟨h.1, hn _ _ _ h.2⟩ | exact fun h => ⟨fun z => ht _ _ _ _ (h.1 z), fun z => hn _ _ _ (h.2 z)⟩ | exact fun h => ⟨h.1, h.2.1, hn _ _ _ h.2.2⟩ | exact fun h => ⟨h.1, hQ _ _ h.2⟩ | exact hQ _ _ | exact fun h => hC _ _ _ _ _ (fun _ _ z => hn _ _ _ z) h | exact fun h => h.elim) | split)
theorem mo_goto (t : Nat) : Mono (o_goto t) := by
  intro sh C C' Q Q' ls st m kn kn' kt kt' hC hQ hn ht
  unfold o_goto
  repeat (first | (first | exact hn _ _ _ | exact ht _ _ _ _ | exact id | exact fun h => ⟨h.1, hn _ _ _ h.2⟩ | exact fun h => ⟨fun z => ht _ _ _ _ (h.1 z), fun z => hn _ _ _ (h.2 z)⟩ | exact fun h => ⟨h.1, h.2.1, hn _ _ _ h.2.2⟩ | exact fun h => ⟨h.1, hQ _ _ h.2⟩ | exact hQ _ _ | exact fun h => hC _ _ _ _ _ (fun _ _ z => hn _ _ _ z) h | exact fun h => h.elim) | split)
theorem mo_if (f : Int32 → Prop) (t : Nat) : Mono (o_if f t) := by
  intro sh C C' Q Q' ls st m kn kn' kt kt' hC hQ hn ht
  unfold o_if
  repeat (first | (first | exact hn _ _ _ | exact ht _ _ _ _ | exact id | exact fun h => ⟨h.1, hn _ _ _ h.2⟩ | exact fun h => ⟨fun z => ht _ _ _ _ (h.1 z), fun z => hn _ _ _ (h.2 z)⟩ | exact fun h => ⟨h.1, h.2.1, hn _ _ _ h.2.2⟩ | exact fun h => ⟨h.1, hQ _ _ h.2⟩ | exact hQ _ _ | exact fun h => hC _ _ _ _ _ (fun _ _ z => hn _ _ _ z) h | exact fun h => h.elim) | split)
theorem mo_if2 (f : Int32 → Int32 → Prop) (t : Nat) : Mono (o_if2 f t) := by
  intro sh C C' Q Q' ls st m kn kn' kt kt' hC hQ hn ht
  unfold o_if2
  repeat (first | (first | exact hn _ _ _ | exact ht _ _ _ _ | exact id | exact fun h => ⟨h.1, hn _ _ _ h.2⟩ | exact fun h => ⟨fun z => ht _ _ _ _ (h.1 z), fun z => hn _ _ _ (h.2 z)⟩ | exact fun h => ⟨h.1, h.2.1, hn _ _ _ h.2.2⟩ | exact fun h => ⟨h.1, hQ _ _ h.2⟩ | exact hQ _ _ | exact fun h => hC _ _ _ _ _ (fun _ _ z => hn _ _ _ z) h | exact fun h => h.elim) | split)
theorem mo_ifnull (t : Nat) : Mono (o_ifnull t) := by
  intro sh C C' Q Q' ls st m kn kn' kt kt' hC hQ hn ht
  unfold o_ifnull
  repeat (first | (first | exact hn _ _ _ | exact ht _ _ _ _ | exact id | exact fun h => ⟨h.1, hn _ _ _ h.2⟩ | exact fun h => ⟨fun z => ht _ _ _ _ (h.1 z), fun z => hn _ _ _ (h.2 z)⟩ | exact fun h => ⟨h.1, h.2.1, hn _ _ _ h.2.2⟩ | exact fun h => ⟨h.1, hQ _ _ h.2⟩ | exact hQ _ _ | exact fun h => hC _ _ _ _ _ (fun _ _ z => hn _ _ _ z) h | exact fun h => h.elim) | split)
theorem mo_ifnonnull (t : Nat) : Mono (o_ifnonnull t) := by
  intro sh C C' Q Q' ls st m kn kn' kt kt' hC hQ hn ht
  unfold o_ifnonnull
  repeat (first | (first | exact hn _ _ _ | exact ht _ _ _ _ | exact id | exact fun h => ⟨h.1, hn _ _ _ h.2⟩ | exact fun h => ⟨fun z => ht _ _ _ _ (h.1 z), fun z => hn _ _ _ (h.2 z)⟩ | exact fun h => ⟨h.1, h.2.1, hn _ _ _ h.2.2⟩ | exact fun h => ⟨h.1, hQ _ _ h.2⟩ | exact hQ _ _ | exact fun h => hC _ _ _ _ _ (fun _ _ z => hn _ _ _ z) h | exact fun h => h.elim) | split)
theorem mo_getf (ci j : Nat) : Mono (o_getf ci j) := by
  intro sh C C' Q Q' ls st m kn kn' kt kt' hC hQ hn ht
  unfold o_getf
  repeat (first | (first | exact hn _ _ _ | exact ht _ _ _ _ | exact id | exact fun h => ⟨h.1, hn _ _ _ h.2⟩ | exact fun h => ⟨fun z => ht _ _ _ _ (h.1 z), fun z => hn _ _ _ (h.2 z)⟩ | exact fun h => ⟨h.1, h.2.1, hn _ _ _ h.2.2⟩ | exact fun h => ⟨h.1, hQ _ _ h.2⟩ | exact hQ _ _ | exact fun h => hC _ _ _ _ _ (fun _ _ z => hn _ _ _ z) h | exact fun h => h.elim) | split)
theorem mo_puti (ci j : Nat) : Mono (o_puti ci j) := by
  intro sh C C' Q Q' ls st m kn kn' kt kt' hC hQ hn ht
  unfold o_puti
  repeat (first | (first | exact hn _ _ _ | exact ht _ _ _ _ | exact id | exact fun h => ⟨h.1, hn _ _ _ h.2⟩ | exact fun h => ⟨fun z => ht _ _ _ _ (h.1 z), fun z => hn _ _ _ (h.2 z)⟩ | exact fun h => ⟨h.1, h.2.1, hn _ _ _ h.2.2⟩ | exact fun h => ⟨h.1, hQ _ _ h.2⟩ | exact hQ _ _ | exact fun h => hC _ _ _ _ _ (fun _ _ z => hn _ _ _ z) h | exact fun h => h.elim) | split)
theorem mo_putz (ci j : Nat) : Mono (o_putz ci j) := by
  intro sh C C' Q Q' ls st m kn kn' kt kt' hC hQ hn ht
  unfold o_putz
  repeat (first | (first | exact hn _ _ _ | exact ht _ _ _ _ | exact id | exact fun h => ⟨h.1, hn _ _ _ h.2⟩ | exact fun h => ⟨fun z => ht _ _ _ _ (h.1 z), fun z => hn _ _ _ (h.2 z)⟩ | exact fun h => ⟨h.1, h.2.1, hn _ _ _ h.2.2⟩ | exact fun h => ⟨h.1, hQ _ _ h.2⟩ | exact hQ _ _ | exact fun h => hC _ _ _ _ _ (fun _ _ z => hn _ _ _ z) h | exact fun h => h.elim) | split)
theorem mo_putl (ci j : Nat) : Mono (o_putl ci j) := by
  intro sh C C' Q Q' ls st m kn kn' kt kt' hC hQ hn ht
  unfold o_putl
  repeat (first | (first | exact hn _ _ _ | exact ht _ _ _ _ | exact id | exact fun h => ⟨h.1, hn _ _ _ h.2⟩ | exact fun h => ⟨fun z => ht _ _ _ _ (h.1 z), fun z => hn _ _ _ (h.2 z)⟩ | exact fun h => ⟨h.1, h.2.1, hn _ _ _ h.2.2⟩ | exact fun h => ⟨h.1, hQ _ _ h.2⟩ | exact hQ _ _ | exact fun h => hC _ _ _ _ _ (fun _ _ z => hn _ _ _ z) h | exact fun h => h.elim) | split)
theorem mo_ald (t : Nat) : Mono (o_ald t) := by
  intro sh C C' Q Q' ls st m kn kn' kt kt' hC hQ hn ht
  unfold o_ald
  repeat (first | (first | exact hn _ _ _ | exact ht _ _ _ _ | exact id | exact fun h => ⟨h.1, hn _ _ _ h.2⟩ | exact fun h => ⟨fun z => ht _ _ _ _ (h.1 z), fun z => hn _ _ _ (h.2 z)⟩ | exact fun h => ⟨h.1, h.2.1, hn _ _ _ h.2.2⟩ | exact fun h => ⟨h.1, hQ _ _ h.2⟩ | exact hQ _ _ | exact fun h => hC _ _ _ _ _ (fun _ _ z => hn _ _ _ z) h | exact fun h => h.elim) | split)
theorem mo_iast  : Mono o_iast := by
  intro sh C C' Q Q' ls st m kn kn' kt kt' hC hQ hn ht
  unfold o_iast
  repeat (first | (first | exact hn _ _ _ | exact ht _ _ _ _ | exact id | exact fun h => ⟨h.1, hn _ _ _ h.2⟩ | exact fun h => ⟨fun z => ht _ _ _ _ (h.1 z), fun z => hn _ _ _ (h.2 z)⟩ | exact fun h => ⟨h.1, h.2.1, hn _ _ _ h.2.2⟩ | exact fun h => ⟨h.1, hQ _ _ h.2⟩ | exact hQ _ _ | exact fun h => hC _ _ _ _ _ (fun _ _ z => hn _ _ _ z) h | exact fun h => h.elim) | split)
theorem mo_zast  : Mono o_zast := by
  intro sh C C' Q Q' ls st m kn kn' kt kt' hC hQ hn ht
  unfold o_zast
  repeat (first | (first | exact hn _ _ _ | exact ht _ _ _ _ | exact id | exact fun h => ⟨h.1, hn _ _ _ h.2⟩ | exact fun h => ⟨fun z => ht _ _ _ _ (h.1 z), fun z => hn _ _ _ (h.2 z)⟩ | exact fun h => ⟨h.1, h.2.1, hn _ _ _ h.2.2⟩ | exact fun h => ⟨h.1, hQ _ _ h.2⟩ | exact hQ _ _ | exact fun h => hC _ _ _ _ _ (fun _ _ z => hn _ _ _ z) h | exact fun h => h.elim) | split)
theorem mo_aald  : Mono o_aald := by
  intro sh C C' Q Q' ls st m kn kn' kt kt' hC hQ hn ht
  unfold o_aald
  repeat (first | (first | exact hn _ _ _ | exact ht _ _ _ _ | exact id | exact fun h => ⟨h.1, hn _ _ _ h.2⟩ | exact fun h => ⟨fun z => ht _ _ _ _ (h.1 z), fun z => hn _ _ _ (h.2 z)⟩ | exact fun h => ⟨h.1, h.2.1, hn _ _ _ h.2.2⟩ | exact fun h => ⟨h.1, hQ _ _ h.2⟩ | exact hQ _ _ | exact fun h => hC _ _ _ _ _ (fun _ _ z => hn _ _ _ z) h | exact fun h => h.elim) | split)
theorem mo_alen  : Mono o_alen := by
  intro sh C C' Q Q' ls st m kn kn' kt kt' hC hQ hn ht
  unfold o_alen
  repeat (first | (first | exact hn _ _ _ | exact ht _ _ _ _ | exact id | exact fun h => ⟨h.1, hn _ _ _ h.2⟩ | exact fun h => ⟨fun z => ht _ _ _ _ (h.1 z), fun z => hn _ _ _ (h.2 z)⟩ | exact fun h => ⟨h.1, h.2.1, hn _ _ _ h.2.2⟩ | exact fun h => ⟨h.1, hQ _ _ h.2⟩ | exact hQ _ _ | exact fun h => hC _ _ _ _ _ (fun _ _ z => hn _ _ _ z) h | exact fun h => h.elim) | split)
theorem mo_copy  : Mono o_copy := by
  intro sh C C' Q Q' ls st m kn kn' kt kt' hC hQ hn ht
  unfold o_copy
  repeat (first | (first | exact hn _ _ _ | exact ht _ _ _ _ | exact id | exact fun h => ⟨h.1, hn _ _ _ h.2⟩ | exact fun h => ⟨fun z => ht _ _ _ _ (h.1 z), fun z => hn _ _ _ (h.2 z)⟩ | exact fun h => ⟨h.1, h.2.1, hn _ _ _ h.2.2⟩ | exact fun h => ⟨h.1, hQ _ _ h.2⟩ | exact hQ _ _ | exact fun h => hC _ _ _ _ _ (fun _ _ z => hn _ _ _ z) h | exact fun h => h.elim) | split)
theorem mo_callV (y n ci : Nat) : Mono (o_callV y n ci) := by
  intro sh C C' Q Q' ls st m kn kn' kt kt' hC hQ hn ht
  unfold o_callV
  repeat (first | (first | exact hn _ _ _ | exact ht _ _ _ _ | exact id | exact fun h => ⟨h.1, hn _ _ _ h.2⟩ | exact fun h => ⟨fun z => ht _ _ _ _ (h.1 z), fun z => hn _ _ _ (h.2 z)⟩ | exact fun h => ⟨h.1, h.2.1, hn _ _ _ h.2.2⟩ | exact fun h => ⟨h.1, hQ _ _ h.2⟩ | exact hQ _ _ | exact fun h => hC _ _ _ _ _ (fun _ _ z => hn _ _ _ z) h | exact fun h => h.elim) | split)
theorem mo_callX (y n : Nat) : Mono (o_callX y n) := by
  intro sh C C' Q Q' ls st m kn kn' kt kt' hC hQ hn ht
  unfold o_callX
  repeat (first | (first | exact hn _ _ _ | exact ht _ _ _ _ | exact id | exact fun h => ⟨h.1, hn _ _ _ h.2⟩ | exact fun h => ⟨fun z => ht _ _ _ _ (h.1 z), fun z => hn _ _ _ (h.2 z)⟩ | exact fun h => ⟨h.1, h.2.1, hn _ _ _ h.2.2⟩ | exact fun h => ⟨h.1, hQ _ _ h.2⟩ | exact hQ _ _ | exact fun h => hC _ _ _ _ _ (fun _ _ z => hn _ _ _ z) h | exact fun h => h.elim) | split)
theorem mo_callS (y n : Nat) : Mono (o_callS y n) := by
  intro sh C C' Q Q' ls st m kn kn' kt kt' hC hQ hn ht
  unfold o_callS
  repeat (first | (first | exact hn _ _ _ | exact ht _ _ _ _ | exact id | exact fun h => ⟨h.1, hn _ _ _ h.2⟩ | exact fun h => ⟨fun z => ht _ _ _ _ (h.1 z), fun z => hn _ _ _ (h.2 z)⟩ | exact fun h => ⟨h.1, h.2.1, hn _ _ _ h.2.2⟩ | exact fun h => ⟨h.1, hQ _ _ h.2⟩ | exact hQ _ _ | exact fun h => hC _ _ _ _ _ (fun _ _ z => hn _ _ _ z) h | exact fun h => h.elim) | split)
theorem mo_iret  : Mono o_iret := by
  intro sh C C' Q Q' ls st m kn kn' kt kt' hC hQ hn ht
  unfold o_iret
  repeat (first | (first | exact hn _ _ _ | exact ht _ _ _ _ | exact id | exact fun h => ⟨h.1, hn _ _ _ h.2⟩ | exact fun h => ⟨fun z => ht _ _ _ _ (h.1 z), fun z => hn _ _ _ (h.2 z)⟩ | exact fun h => ⟨h.1, h.2.1, hn _ _ _ h.2.2⟩ | exact fun h => ⟨h.1, hQ _ _ h.2⟩ | exact hQ _ _ | exact fun h => hC _ _ _ _ _ (fun _ _ z => hn _ _ _ z) h | exact fun h => h.elim) | split)
theorem mo_zret (ty : FieldType) : Mono (o_zret ty) := by
  intro sh C C' Q Q' ls st m kn kn' kt kt' hC hQ hn ht
  unfold o_zret
  repeat (first | (first | exact hn _ _ _ | exact ht _ _ _ _ | exact id | exact fun h => ⟨h.1, hn _ _ _ h.2⟩ | exact fun h => ⟨fun z => ht _ _ _ _ (h.1 z), fun z => hn _ _ _ (h.2 z)⟩ | exact fun h => ⟨h.1, h.2.1, hn _ _ _ h.2.2⟩ | exact fun h => ⟨h.1, hQ _ _ h.2⟩ | exact hQ _ _ | exact fun h => hC _ _ _ _ _ (fun _ _ z => hn _ _ _ z) h | exact fun h => h.elim) | split)
theorem mo_lret  : Mono o_lret := by
  intro sh C C' Q Q' ls st m kn kn' kt kt' hC hQ hn ht
  unfold o_lret
  repeat (first | (first | exact hn _ _ _ | exact ht _ _ _ _ | exact id | exact fun h => ⟨h.1, hn _ _ _ h.2⟩ | exact fun h => ⟨fun z => ht _ _ _ _ (h.1 z), fun z => hn _ _ _ (h.2 z)⟩ | exact fun h => ⟨h.1, h.2.1, hn _ _ _ h.2.2⟩ | exact fun h => ⟨h.1, hQ _ _ h.2⟩ | exact hQ _ _ | exact fun h => hC _ _ _ _ _ (fun _ _ z => hn _ _ _ z) h | exact fun h => h.elim) | split)
theorem mo_aret  : Mono o_aret := by
  intro sh C C' Q Q' ls st m kn kn' kt kt' hC hQ hn ht
  unfold o_aret
  repeat (first | (first | exact hn _ _ _ | exact ht _ _ _ _ | exact id | exact fun h => ⟨h.1, hn _ _ _ h.2⟩ | exact fun h => ⟨fun z => ht _ _ _ _ (h.1 z), fun z => hn _ _ _ (h.2 z)⟩ | exact fun h => ⟨h.1, h.2.1, hn _ _ _ h.2.2⟩ | exact fun h => ⟨h.1, hQ _ _ h.2⟩ | exact hQ _ _ | exact fun h => hC _ _ _ _ _ (fun _ _ z => hn _ _ _ z) h | exact fun h => h.elim) | split)
theorem mo_ret  : Mono o_ret := by
  intro sh C C' Q Q' ls st m kn kn' kt kt' hC hQ hn ht
  unfold o_ret
  repeat (first | (first | exact hn _ _ _ | exact ht _ _ _ _ | exact id | exact fun h => ⟨h.1, hn _ _ _ h.2⟩ | exact fun h => ⟨fun z => ht _ _ _ _ (h.1 z), fun z => hn _ _ _ (h.2 z)⟩ | exact fun h => ⟨h.1, h.2.1, hn _ _ _ h.2.2⟩ | exact fun h => ⟨h.1, hQ _ _ h.2⟩ | exact hQ _ _ | exact fun h => hC _ _ _ _ _ (fun _ _ z => hn _ _ _ z) h | exact fun h => h.elim) | split)
theorem mo_bad  : Mono o_bad := by
  intro sh C C' Q Q' ls st m kn kn' kt kt' hC hQ hn ht
  unfold o_bad
  repeat (first | (first | exact hn _ _ _ | exact ht _ _ _ _ | exact id | exact fun h => ⟨h.1, hn _ _ _ h.2⟩ | exact fun h => ⟨fun z => ht _ _ _ _ (h.1 z), fun z => hn _ _ _ (h.2 z)⟩ | exact fun h => ⟨h.1, h.2.1, hn _ _ _ h.2.2⟩ | exact fun h => ⟨h.1, hQ _ _ h.2⟩ | exact hQ _ _ | exact fun h => hC _ _ _ _ _ (fun _ _ z => hn _ _ _ z) h | exact fun h => h.elim) | split)
theorem mo_pushr (k : Nat) : Mono (o_pushr k) := by
  intro sh C C' Q Q' ls st m kn kn' kt kt' hC hQ hn ht
  unfold o_pushr
  repeat (first | (first | exact hn _ _ _ | exact ht _ _ _ _ | exact id | exact fun h => ⟨h.1, hn _ _ _ h.2⟩ | exact fun h => ⟨fun z => ht _ _ _ _ (h.1 z), fun z => hn _ _ _ (h.2 z)⟩ | exact fun h => ⟨h.1, h.2.1, hn _ _ _ h.2.2⟩ | exact fun h => ⟨h.1, hQ _ _ h.2⟩ | exact hQ _ _ | exact fun h => hC _ _ _ _ _ (fun _ _ z => hn _ _ _ z) h | exact fun h => h.elim) | split)
theorem mo_sval  : Mono o_sval := by
  intro sh C C' Q Q' ls st m kn kn' kt kt' hC hQ hn ht
  unfold o_sval
  repeat (first | (first | exact hn _ _ _ | exact ht _ _ _ _ | exact id | exact fun h => ⟨h.1, hn _ _ _ h.2⟩ | exact fun h => ⟨fun z => ht _ _ _ _ (h.1 z), fun z => hn _ _ _ (h.2 z)⟩ | exact fun h => ⟨h.1, h.2.1, hn _ _ _ h.2.2⟩ | exact fun h => ⟨h.1, hQ _ _ h.2⟩ | exact hQ _ _ | exact fun h => hC _ _ _ _ _ (fun _ _ z => hn _ _ _ z) h | exact fun h => h.elim) | split)
theorem mo_scod  : Mono o_scod := by
  intro sh C C' Q Q' ls st m kn kn' kt kt' hC hQ hn ht
  unfold o_scod
  repeat (first | (first | exact hn _ _ _ | exact ht _ _ _ _ | exact id | exact fun h => ⟨h.1, hn _ _ _ h.2⟩ | exact fun h => ⟨fun z => ht _ _ _ _ (h.1 z), fun z => hn _ _ _ (h.2 z)⟩ | exact fun h => ⟨h.1, h.2.1, hn _ _ _ h.2.2⟩ | exact fun h => ⟨h.1, hQ _ _ h.2⟩ | exact hQ _ _ | exact fun h => hC _ _ _ _ _ (fun _ _ z => hn _ _ _ z) h | exact fun h => h.elim) | split)
theorem mo_blen  : Mono o_blen := by
  intro sh C C' Q Q' ls st m kn kn' kt kt' hC hQ hn ht
  unfold o_blen
  repeat (first | (first | exact hn _ _ _ | exact ht _ _ _ _ | exact id | exact fun h => ⟨h.1, hn _ _ _ h.2⟩ | exact fun h => ⟨fun z => ht _ _ _ _ (h.1 z), fun z => hn _ _ _ (h.2 z)⟩ | exact fun h => ⟨h.1, h.2.1, hn _ _ _ h.2.2⟩ | exact fun h => ⟨h.1, hQ _ _ h.2⟩ | exact hQ _ _ | exact fun h => hC _ _ _ _ _ (fun _ _ z => hn _ _ _ z) h | exact fun h => h.elim) | split)
theorem mo_bget  : Mono o_bget := by
  intro sh C C' Q Q' ls st m kn kn' kt kt' hC hQ hn ht
  unfold o_bget
  repeat (first | (first | exact hn _ _ _ | exact ht _ _ _ _ | exact id | exact fun h => ⟨h.1, hn _ _ _ h.2⟩ | exact fun h => ⟨fun z => ht _ _ _ _ (h.1 z), fun z => hn _ _ _ (h.2 z)⟩ | exact fun h => ⟨h.1, h.2.1, hn _ _ _ h.2.2⟩ | exact fun h => ⟨h.1, hQ _ _ h.2⟩ | exact hQ _ _ | exact fun h => hC _ _ _ _ _ (fun _ _ z => hn _ _ _ z) h | exact fun h => h.elim) | split)
theorem mo_klen  : Mono o_klen := by
  intro sh C C' Q Q' ls st m kn kn' kt kt' hC hQ hn ht
  unfold o_klen
  repeat (first | (first | exact hn _ _ _ | exact ht _ _ _ _ | exact id | exact fun h => ⟨h.1, hn _ _ _ h.2⟩ | exact fun h => ⟨fun z => ht _ _ _ _ (h.1 z), fun z => hn _ _ _ (h.2 z)⟩ | exact fun h => ⟨h.1, h.2.1, hn _ _ _ h.2.2⟩ | exact fun h => ⟨h.1, hQ _ _ h.2⟩ | exact hQ _ _ | exact fun h => hC _ _ _ _ _ (fun _ _ z => hn _ _ _ z) h | exact fun h => h.elim) | split)
theorem mo_kget  : Mono o_kget := by
  intro sh C C' Q Q' ls st m kn kn' kt kt' hC hQ hn ht
  unfold o_kget
  repeat (first | (first | exact hn _ _ _ | exact ht _ _ _ _ | exact id | exact fun h => ⟨h.1, hn _ _ _ h.2⟩ | exact fun h => ⟨fun z => ht _ _ _ _ (h.1 z), fun z => hn _ _ _ (h.2 z)⟩ | exact fun h => ⟨h.1, h.2.1, hn _ _ _ h.2.2⟩ | exact fun h => ⟨h.1, hQ _ _ h.2⟩ | exact hQ _ _ | exact fun h => hC _ _ _ _ _ (fun _ _ z => hn _ _ _ z) h | exact fun h => h.elim) | split)
theorem mo_hand : Mono o_hand := fun sh C C' Q Q' ls st m kn kn' kt kt' hC hQ hn ht h => ⟨hn _ _ _ h.1, hn _ _ _ h.2⟩
theorem swt_mono {x : Int32} {kt kt' : Nat → Prop} (ht : ∀ t, kt t → kt' t) (d : Nat) : ∀ ps : List (Int × Nat), swt x kt d ps → swt x kt' d ps
  | [], h => ht _ h
  | (_, _) :: r, h => ⟨fun z => ht _ (h.1 z), fun z => swt_mono ht d r (h.2 z)⟩
theorem mo_switch (d : Nat) (ps : List (Int × Nat)) : Mono (o_switch d ps) := by
  intro sh C C' Q Q' ls st m kn kn' kt kt' hC hQ hn ht
  unfold o_switch
  split
  · exact swt_mono (fun t => ht t _ _ _) d ps
  · exact id
def MonoL : List (Nat × Op) → Prop
  | [] => True
  | (_, op) :: r => Mono op ∧ MonoL r
theorem blk_mono {sh : List Shp} {C C' : Cr} {Q Q' : Qr} {P P' : Nat → Kn} (hC : ∀ (y : Nat) (a : List Value) (m : Mm) (Q Q' : Qr), (∀ r m, Q r m → Q' r m) → C y a m Q → C' y a m Q') (hQ : ∀ r m, Q r m → Q' r m) (hP : ∀ t ls st m, P t ls st m → P' t ls st m) :
    ∀ (code : List (Nat × Op)), MonoL code → ∀ t ls st m, blk sh C Q P code t ls st m → blk sh C' Q' P' code t ls st m := by
  intro code
  induction code with
  | nil => intro _ t ls st m h; exact h
  | cons q r ih =>
    obtain ⟨pc, op⟩ := q
    intro hk t ls st m
    simp only [blk]
    split
    · exact ih hk.2 t ls st m
    · refine hk.1 sh C C' Q Q' ls st m _ _ _ _ hC hQ (fun ls st m => ih hk.2 0 ls st m) (fun t' ls st m => ?_)
      split
      · exact hP _ _ _ _
      · exact ih hk.2 t' ls st m
theorem WP.of {sh : List Shp} {C : Cr} {Q : Qr} {code : List (Nat × Op)} (hm : MonoL code) (hC : CMono C) {pc : Nat} {ls : Lz} {st : Sk} {m : Mm} (h : blk sh C Q (WP sh C Q code) code pc ls st m) : WP sh C Q code pc ls st m :=
  fun P hP => hP _ _ _ _ (blk_mono hC (fun _ _ z => z) (fun _ _ _ _ hw => hw P hP) code hm _ _ _ _ h)
theorem WP.mono {sh : List Shp} {C C' : Cr} {Q Q' : Qr} {code : List (Nat × Op)} (hm : MonoL code) (hC : ∀ (y : Nat) (a : List Value) (m : Mm) (Q Q' : Qr), (∀ r m, Q r m → Q' r m) → C y a m Q → C' y a m Q') (hQ : ∀ r m, Q r m → Q' r m) {pc : Nat} {ls : Lz} {st : Sk} {m : Mm} (h : WP sh C Q code pc ls st m) : WP sh C' Q' code pc ls st m :=
  fun P hP => h P (fun pc ls st m hb => hP _ _ _ _ (blk_mono hC hQ (fun _ _ _ _ z => z) code hm _ _ _ _ hb))
theorem callT_mono {codes : Nat → Nat × List (Nat × Op)} (hm : ∀ y, MonoL (codes y).2) (sh : List Shp) : ∀ d, CMono (callT codes sh d)
  | 0 => fun _ _ _ _ _ _ h => h
  | d + 1 => fun y _ _ _ _ hQ h => ⟨h.1, WP.mono (hm y) (callT_mono hm sh d) hQ h.2⟩
/-- deeper is no harm -/
theorem callT_up {codes : Nat → Nat × List (Nat × Op)} (hm : ∀ y, MonoL (codes y).2) (sh : List Shp) : ∀ (d : Nat) (y : Nat) (a : List Value) (m : Mm) (Q Q' : Qr), (∀ r m, Q r m → Q' r m) → callT codes sh d y a m Q → callT codes sh (d + 1) y a m Q'
  | 0, _, _, _, _, _, _, h => h.elim
  | d + 1, y, _, _, _, _, hQ, h => ⟨h.1, WP.mono (hm y) (callT_up hm sh d) hQ h.2⟩
theorem call_of {codes : Nat → Nat × List (Nat × Op)} (hm : ∀ y, MonoL (codes y).2) {sh : List Shp} {d y n : Nat} {c : List (Nat × Op)} {args : List Value} {m : Mm} {Q : Qr} (hc : codes y = (n, c)) (hl : Nat.ble (entA args).length n = true) (h : blk sh (callT codes sh d) Q (WP sh (callT codes sh d) Q c) c 0 (entL n args) [] m) : callT codes sh (d + 1) y args m Q := by
  have hy := hm y
  refine ⟨by rw [hc]; exact hl, ?_⟩
  rw [hc] at hy ⊢
  exact WP.of hy (callT_mono hm sh d) h
end MON
