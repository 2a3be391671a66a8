/-! WHAT IS THERE AT THE START; THE LAW UP TO ITS LOOP -/
theorem tB_1 {i : Nat} {w : Cond} (h : tables_1_1[i]? = some w) : w ∈ lw_tbl := List.mem_append_right _ (List.mem_append_left _ (List.mem_of_getElem? h))
theorem tB_2 {i : Nat} {w : Cond} (h : tables_1_2[i]? = some w) : w ∈ lw_tbl := List.mem_append_right _ (List.mem_append_right _ (List.mem_append_left _ (List.mem_of_getElem? h)))
theorem tB_4 {i : Nat} {w : Cond} (h : tables_1_4[i]? = some w) : w ∈ lw_tbl := List.mem_append_right _ (List.mem_append_right _ (List.mem_append_right _ (List.mem_append_right _ (List.mem_append_left _ (List.mem_of_getElem? h)))))
def FLG : List Cond := flatC (Jvm.Cond.and given_1 narrow_1)
def tmS (i : Nat) : Term := .string RX1 (if i = 0 then ixA else ixB)
section SRT
variable {s : State} {args : Array Value}
theorem kn_all (hts : ∀ w ∈ lw_tbl, w.before args s = true) : ∃ (dC : Nat → ClassId) (dI : Nat → Nat → Nat), ∀ (k : Nat) (q : vw_C), vcl[k]? = some q → u_Kn s q.1 q.2.1 q.2.2 (dC k) (dI k) := by
  have ht : ∀ w ∈ tT, w.before args s = true := fun w hw => hts w (tT_tbl w hw)
  obtain ⟨c0, i0, k0⟩ := u_known (C := RX0) (T := TX0) (N := 2) (n := 2) ht in_X0 (hts (.instantiable RX0 2) (tB_1 (i := 65) (by decide +kernel)))
  obtain ⟨c1, i1, k1⟩ := u_known (C := RX1) (T := TX1) (N := 10) (n := 10) ht in_X1 (hts (.instantiable RX1 10) (tB_1 (i := 78) (by decide +kernel)))
  obtain ⟨c2, i2, k2⟩ := u_known (C := RX2) (T := TX2) (N := 2) (n := 2) ht in_X2 (hts (.instantiable RX2 2) (tB_1 (i := 26) (by decide +kernel)))
  obtain ⟨c3, i3, k3⟩ := u_known (C := RX3) (T := TX3) (N := 6) (n := 6) ht in_X3 (hts (.instantiable RX3 6) (tB_1 (i := 40) (by decide +kernel)))
  obtain ⟨c4, i4, k4⟩ := u_known (C := RX4) (T := TX4) (N := 3) (n := 3) ht in_X4 (hts (.instantiable RX4 3) (tB_1 (i := 141) (by decide +kernel)))
  obtain ⟨c5, i5, k5⟩ := u_known (C := RX5) (T := TX5) (N := 3) (n := 3) ht in_X5 (hts (.instantiable RX5 3) (tB_1 (i := 118) (by decide +kernel)))
  obtain ⟨c6, i6, k6⟩ := u_known (C := RX6) (T := TX6) (N := 12) (n := 12) ht in_X6 (hts (.instantiable RX6 12) (tB_1 (i := 18) (by decide +kernel)))
  obtain ⟨c7, i7, k7⟩ := u_known (C := RX7) (T := TX7) (N := 41) (n := 41) ht in_X7 (hts (.instantiable RX7 41) (tB_4 (i := 75) (by decide +kernel)))
  refine ⟨fun k => match k with
    | 0 => c0
    | 1 => c1
    | 2 => c2
    | 3 => c3
    | 4 => c4
    | 5 => c5
    | 6 => c6
    | _ => c7, fun k => match k with
    | 0 => i0
    | 1 => i1
    | 2 => i2
    | 3 => i3
    | 4 => i4
    | 5 => i5
    | 6 => i6
    | _ => i7, fun k q hq => ?_⟩
  match k, hq with
  | 0, hq => cases hq; exact k0
  | 1, hq => cases hq; exact k1
  | 2, hq => cases hq; exact k2
  | 3, hq => cases hq; exact k3
  | 4, hq => cases hq; exact k4
  | 5, hq => cases hq; exact k5
  | 6, hq => cases hq; exact k6
  | 7, hq => cases hq; exact k7
  | k + 8, hq => simp [vcl] at hq
theorem ty_all (hts : ∀ w ∈ lw_tbl, w.before args s = true) : ∃ cA : Nat → ClassId, ∀ (k : Nat) (q : ClassId × FieldType), (tys cA)[k]? = some q → ArrOfT s q.1 q.2 ∧ va_RA s q.1 q.2 := by
  obtain ⟨c0, k0, p0, a1, a2, a3⟩ := Cond.arrayClass_spec (hts (.arrayClass .int) (tB_1 (i := 38) (by decide +kernel)))
  obtain ⟨c1, k1, p1, b1, b2, b3⟩ := Cond.arrayClass_spec (hts (.arrayClass .boolean) (tB_4 (i := 207) (by decide +kernel)))
  obtain ⟨p2, c2, k2, d1, d2, d3, d4, d5⟩ := Cond.arrayOver_spec (hts (.arrayOver (.object "SevenInTheHay$Text")) (tB_1 (i := 115) (by decide +kernel)))
  obtain ⟨p3, c3, k3, e1, e2, e3, e4, e5⟩ := Cond.arrayOver_spec (hts (.arrayOver (.object "SevenInTheHay$Sheet")) (tB_1 (i := 117) (by decide +kernel)))
  refine ⟨fun k => match k with
    | 0 => c0
    | 1 => c1
    | 2 => c2
    | _ => c3, fun k q hq => ?_⟩
  match k, hq with
  | 0, hq => cases hq; exact ⟨fun n z => ⟨fun k h => (by cases h), k0, a2, p0, a3⟩, a1⟩
  | 1, hq => cases hq; exact ⟨fun n z => ⟨fun k h => (by cases h), k1, b2, p1, b3⟩, b1⟩
  | 2, hq => cases hq; exact ⟨fun n z => ⟨fun k h => (by cases h), k2, d3, p2, d4⟩, ⟨k2, p2, d3, d4, d1, d5⟩⟩
  | 3, hq => cases hq; exact ⟨fun n z => ⟨fun k h => (by cases h), k3, e3, p3, e4⟩, ⟨k3, p3, e3, e4, e1, e5⟩⟩
  | k + 4, hq => simp [tys] at hq
theorem ext_all (hts : ∀ w ∈ lw_tbl, w.before args s = true) (hgv : (Jvm.Cond.and given_1 narrow_1).before args s = true) : ∃ a0 a1 v0 v1 tk tq : Nat, ∀ ad : Nat → Nat, ad 1000 = a0 → ad 1001 = a1 → ad 1002 = v0 → ad 1003 = v1 → ad 1004 = tk → ad 1005 = tq → Ext s.heap.size ad s s.heap := by
  have hA : ∀ a : Nat, a < s.heap.size → ¬ up0 s.heap.size a := fun a h => Nat.not_le.mpr h
  have hs : ∀ c ∈ FLG, c.before args s = true := flat_of_before _ hgv
  have hg : ∀ {i : Nat} {w : Cond}, FLG[i]? = some w → w.before args s = true := fun h => hs _ (List.mem_of_getElem? h)
  obtain ⟨adK, adV, hE, hev⟩ := vk_Sof (s := s) (args := args) (N := 2) (tm := tmS) (len := [84, 8]) (byt := [by0, by1]) (A := up0 s.heap.size) (by decide)
    (fun i hi => hg ((by decide +kernel : ∀ i, i < 2 → FLG[34 + 88 * i]? = some (Cond.exactly (tmS i) "java/lang/String")) i hi))
    (fun i hi => hg ((by decide +kernel : ∀ i, i < 2 → FLG[35 + 88 * i]? = some (Cond.eq (.field (tmS i) "java/lang/String" "coder" "B") (.int 0))) i hi))
    (fun i hi => hg ((by decide +kernel : ∀ i, i < 2 → FLG[36 + 88 * i]? = some (Cond.arrayOf (.field (tmS i) "java/lang/String" "value" "[B") .byte)) i hi))
    (fun i hi => hg ((by decide +kernel : ∀ i, i < 2 → FLG[37 + 88 * i]? = some (Cond.eq (.length (.field (tmS i) "java/lang/String" "value" "[B")) (.int (Int32.ofNat ([84, 8].getD i 0))))) i hi))
    (fun i hi j hj => hg ((by decide +kernel : ∀ i, i < 2 → ∀ j, j < [84, 8].getD i 0 → FLG[38 + 88 * i + j]? = some (Cond.eq (.elem (.field (tmS i) "java/lang/String" "value" "[B") (.int (Int32.ofNat j))) (.int (([by0, by1].getD i []).getD j 0)))) i hi j hj))
    (fun i j hi hj hij => by
      have h0 : (Cond.not (Cond.eq (tmS 0) (tmS 1))).before args s = true := hg (i := 134) (by decide +kernel)
      match i, j, hi, hj, hij with
      | 0, 0, _, _, z => exact absurd rfl z
      | 0, 1, _, _, _ => exact Or.inl h0
      | 1, 0, _, _, _ => exact Or.inr h0
      | 1, 1, _, _, z => exact absurd rfl z) hA
  obtain ⟨tk, ht, hT⟩ := va_Tof (s := s) (args := args) (tm := .static RX6 "KIND_ABOVE" "[I") (ty := .int) (N := 6) (f := fun j => .int (kab j)) (A := up0 s.heap.size) (by decide) (hg (i := 10) (by decide +kernel)) (va_eqt (hg (i := 11) (by decide +kernel)))
    (fun j hj => va_eqt (hg ((by decide +kernel : ∀ j, j < 6 → FLG[12 + j]? = some (Cond.eq (.elem (.static RX6 "KIND_ABOVE" "[I") (.int (Int32.ofNat j))) (.int (kab j)))) j hj))) hA
  have hZ1 : va_Z RX6 "KIND_ABOVE" "[I" (.ref tk) (up0 s.heap.size) s s.heap := va_Zof (hts (.laysStatic RX6 "KIND_ABOVE" "[I") (tB_4 (i := 73) (by decide +kernel))) (hts (.initialized RX6) (tB_1 (i := 1) (by decide +kernel))) ht hA
  have hZ2 : va_Z RJ0 "COMPACT_STRINGS" "Z" (.int 1) (up0 s.heap.size) s s.heap := va_Zof (hts (.laysStatic RJ0 "COMPACT_STRINGS" "Z") (tB_2 (i := 91) (by decide +kernel))) (hts (.initialized RJ0) (tB_1 (i := 9) (by decide +kernel))) (va_eqi (hg (i := 4) (by decide +kernel))) hA
  have hq : ∃ tq : Nat, va_Z "jdk/internal/util/Preconditions" "SIOOBE_FORMATTER" "Ljava/util/function/BiFunction;" .null (up0 s.heap.size) s s.heap ∨ va_Z "jdk/internal/util/Preconditions" "SIOOBE_FORMATTER" "Ljava/util/function/BiFunction;" (.ref tq) (up0 s.heap.size) s s.heap := by
    rcases va_Zqof (hts (.laysStatic "jdk/internal/util/Preconditions" "SIOOBE_FORMATTER" "Ljava/util/function/BiFunction;") (tB_2 (i := 107) (by decide +kernel))) (hts (.initialized "jdk/internal/util/Preconditions") (tB_1 (i := 11) (by decide +kernel))) (hg (i := 5) (by decide +kernel)) hA with z | ⟨t, z⟩
    · exact ⟨0, Or.inl z⟩
    · exact ⟨t, Or.inr z⟩
  obtain ⟨tq, hq⟩ := hq
  refine ⟨adK 0, adK 1, adV 0, adV 1, tk, tq, fun ad h0 h1 h2 h3 h4 h5 => ⟨⟨fun i hi => ?_, fun i j hi hj e => ?_⟩, ?_, ?_, by rw [h4]; exact hZ1, by rw [h4]; exact hT, hZ2, by rw [h5]; exact hq⟩⟩
  · match i, hi with
    | 0, _ =>
      have z := hE.1 0 (by decide)
      rw [← h0, ← h2] at z
      exact z
    | 1, _ =>
      have z := hE.1 1 (by decide)
      rw [← h1, ← h3] at z
      exact z
  · have hne : ad 1000 ≠ ad 1001 := fun z => by
      rw [h0, h1] at z
      exact absurd (hE.2 0 1 (by decide) (by decide) z) (by decide)
    match i, j, hi, hj, e with
    | 0, 0, _, _, _ => rfl
    | 0, 1, _, _, e => exact absurd e hne
    | 1, 0, _, _, e => exact absurd e.symm hne
    | 1, 1, _, _, _ => rfl
  · rw [h0]
    exact vk_R.of (hts (.stringRef RX1 ixA tx0) (tB_2 (i := 81) (by decide +kernel))) (hev 0 (by decide))
  · rw [h1]
    exact vk_R.of (hts (.stringRef RX1 ixB tx1) (tB_2 (i := 137) (by decide +kernel))) (hev 1 (by decide))
theorem zn_all (hts : ∀ w ∈ lw_tbl, w.before args s = true) : ZN s :=
  ⟨⟨va_Nw.of rfl (hts _ (tB_1 (i := 27) (by decide +kernel))), va_Nw.of rfl (hts _ (tB_1 (i := 41) (by decide +kernel))), va_Nw.of rfl (hts _ (tB_1 (i := 66) (by decide +kernel))), va_Nw.of rfl (hts _ (tB_1 (i := 79) (by decide +kernel))), va_Nw.of rfl (hts _ (tB_1 (i := 142) (by decide +kernel)))⟩, va_AO.of (hts (.arrayOver (.object "SevenInTheHay$Text")) (tB_1 (i := 115) (by decide +kernel))), va_AO.of (hts (.arrayOver (.object "SevenInTheHay$Sheet")) (tB_1 (i := 117) (by decide +kernel)))⟩
end SRT
def adr (b0 a0 a1 v0 v1 tk tq b : Nat) (k : Nat) : Nat := if k < 1000 then b0 + k else if k = 1000 then a0 else if k = 1001 then a1 else if k = 1002 then v0 else if k = 1003 then v1 else if k = 1004 then tk else if k = 1005 then tq else b
theorem Wd.weak {b0 : Nat} {ad : Nat → Nat} {cA : Nat → ClassId} {D : va_G} {sh : List Shp} {H : Heap} {m : Mm} (h : Wd 0 b0 ad cA D sh H m) : Wd 1 b0 ad cA D sh H m := ⟨h.1, h.2.1, fun z => absurd z (by decide)⟩
section LWS
variable {p : Program} {l : Launch} {e : Env} {s : State} {m : MethodId} {args : Array Value} {below : List Frame} {meth : Method} {c : Code} {Qm : State → Prop} {b0 : Nat} {ad : Nat → Nat} {cA : Nat → ClassId} {D : va_G}
theorem qz_new6 : Cond.classLink RL 7 RX6 ∈ tT := tT_1 (i := 17) (by decide +kernel) rfl
theorem qz_ins6 : Cond.instantiable RX6 12 ∈ tT := tT_1 (i := 18) (by decide +kernel) rfl
theorem qz_ini6 : Cond.initialized RX6 ∈ tT := tT_1 (i := 1) (by decide +kernel) rfl
theorem qz_lk6 : Cond.methodLink RL 9 yX6_init ∈ tT := tT_1 (i := 19) (by decide +kernel) rfl
theorem qz_im6 : Cond.instanceMethod yX6_init ∈ tT := tT_1 (i := 20) (by decide +kernel) rfl
theorem qz_cd6 : Cond.code yX6_init cX6_init 2 none ∈ tT := tT_1 (i := 21) (by decide +kernel) rfl
theorem qz_new7 : Cond.classLink RL 10 RX7 ∈ tT := tT_4 (i := 74) (by decide +kernel) rfl
theorem qz_ins7 : Cond.instantiable RX7 41 ∈ tT := tT_4 (i := 75) (by decide +kernel) rfl
theorem qz_ini7 : Cond.initialized RX7 ∈ tT := tT_1 (i := 8) (by decide +kernel) rfl
theorem qz_lk7 : Cond.methodLink RL 12 yX7_init ∈ tT := tT_4 (i := 76) (by decide +kernel) rfl
theorem qz_im7 : Cond.instanceMethod yX7_init ∈ tT := tT_4 (i := 77) (by decide +kernel) rfl
theorem qz_cd7 : Cond.code yX7_init cX7_init 1 none ∈ tT := tT_4 (i := 78) (by decide +kernel) rfl
set_option maxRecDepth 100000 in
theorem law_pro (E : Em p room_1 s m args c 4 b0 ad cA D RL cL_law 90) (hZ : ZN s) (kk : MG p l e room_1 s m args below meth c Qm 4 b0 ad cA D 58 3075 18 SZ_78 (Lx 0) [] m0) : MG p l e room_1 s m args below meth c Qm 4 b0 ad cA D 0 0 0 [] [some (.ref 1006), none, none, none] [] mz := by
  refine ms_new (ci := 6) (T := TX6) (ty := tyX6) (fds := [2, 2, 2, 2, 2, 2, 2, 2, 0, 0, 0, 0]) (q := 0) (sh' := SZ_1) (cells' := 1) (slots' := 12) E rfl in_X6 tyX6_ok qz_new6 qz_ins6 qz_ini6 (by decide +kernel) (by decide +kernel : decode cL_law 0 = .ok (.new 7, 3)) rfl (by decide +kernel) rfl rfl (by decide +kernel) (by decide +kernel) (by decide +kernel) ?_
  refine ms_dup E (so_dup (by decide +kernel : decode cL_law 3 = .ok (.dup, 1)) rfl) ?_
  refine ms_ctor (sh' := SZ_52) (cells' := 44) (slots' := 1650) E mk_RX6 (fun U hv => ZN.warm hv hZ) ZN.blind qz_lk6 qz_cd6 qz_ini6 qz_im6 rfl (by decide +kernel) (by decide) (by decide +kernel : decode cL_law 4 = .ok (.invokespecial 9, 3)) (by decide) rfl rfl (by decide +kernel) (by decide +kernel) (by decide +kernel) ?_
  refine ms_astore (ls' := [some (.ref 1006), some (.ref 0), none, none]) E (so_astore_n (by decide +kernel : decode cL_law 7 = .ok (.astore_n 1, 1)) rfl (by decide) rfl) rfl rfl ?_
  refine ms_new (ci := 7) (T := TX7) (ty := tyX7) (fds := [0, 2, 2, 0, 0, 2, 0, 2, 2, 0, 0, 0, 0, 0, 0, 0, 0, 0, 0, 0, 0, 1, 0, 0, 0, 2, 0, 0, 0, 0, 2, 0, 0, 2, 2, 0, 0, 2, 2, 2, 2]) (q := 44) (sh' := SZ_79) (cells' := 45) (slots' := 1691) E rfl in_X7 tyX7_ok qz_new7 qz_ins7 qz_ini7 (by decide +kernel) (by decide +kernel : decode cL_law 8 = .ok (.new 10, 3)) (by decide +kernel) sh_mid rfl rfl (by decide +kernel) (by decide +kernel) (by decide +kernel) ?_
  refine ms_dup E (so_dup (by decide +kernel : decode cL_law 11 = .ok (.dup, 1)) rfl) ?_
  refine ms_ctor (sh' := SZ_78) (cells' := 58) (slots' := 3075) E mk_RX7 (fun _ _ => trivial) (fun _ _ _ _ _ => trivial) qz_lk7 qz_cd7 qz_ini7 qz_im7 rfl (by decide +kernel) (by decide) (by decide +kernel : decode cL_law 12 = .ok (.invokespecial 12, 3)) (by decide) rfl rfl (by decide +kernel) (by decide +kernel) (by decide +kernel) ?_
  refine ms_astore (ls' := [some (.ref 1006), some (.ref 0), some (.ref 44), none]) E (so_astore_n (by decide +kernel : decode cL_law 15 = .ok (.astore_n 2, 1)) rfl (by decide) rfl) rfl rfl ?_
  refine ms_const (v := 0) E (so_iconst (by decide +kernel : decode cL_law 16 = .ok (.iconst 0, 1)) rfl rfl) ?_
  refine ms_istore (ls' := Lx 0) E (so_istore_n (by decide +kernel : decode cL_law 17 = .ok (.istore_n 3, 1)) rfl (by decide) rfl) rfl rfl ?_
  exact kk
end LWS
