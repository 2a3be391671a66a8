/-! MAKERS OF THE PARTS (printed by a program) -/
theorem qM_RX0_3 : Cond.methodLink RX0 3 Lib.objectInit ∈ tT := tT_1 (i := 69) (by decide +kernel) rfl
theorem qV_obj : Cond.instanceMethod Lib.objectInit ∈ tT := tT_1 (i := 23) (by decide +kernel) rfl
theorem qC_obj : Cond.code Lib.objectInit ⟨#[0xb1]⟩ 1 none ∈ tT := tT_1 (i := 24) (by decide +kernel) rfl
theorem qA_int : Cond.arrayClass (newarray.typeOf .int) ∈ tT := tT_1 (i := 38) (by decide +kernel) rfl
theorem qF_RX0_9 : Cond.fieldLink RX0 9 (TX0 0).1 (TX0 0).2.1 (TX0 0).2.2.1 ∈ tT := tT_1 (i := 70) (by decide +kernel) rfl
theorem qM_RX1_3 : Cond.methodLink RX1 3 Lib.objectInit ∈ tT := tT_1 (i := 82) (by decide +kernel) rfl
theorem qF_RX1_9 : Cond.fieldLink RX1 9 (TX1 0).1 (TX1 0).2.1 (TX1 0).2.2.1 ∈ tT := tT_1 (i := 83) (by decide +kernel) rfl
theorem qF_RX1_15 : Cond.fieldLink RX1 15 (TX1 1).1 (TX1 1).2.1 (TX1 1).2.2.1 ∈ tT := tT_1 (i := 84) (by decide +kernel) rfl
theorem qM_RX2_3 : Cond.methodLink RX2 3 Lib.objectInit ∈ tT := tT_1 (i := 30) (by decide +kernel) rfl
theorem qF_RX2_9 : Cond.fieldLink RX2 9 (TX2 0).1 (TX2 0).2.1 (TX2 0).2.2.1 ∈ tT := tT_1 (i := 31) (by decide +kernel) rfl
theorem qM_RX3_3 : Cond.methodLink RX3 3 Lib.objectInit ∈ tT := tT_1 (i := 44) (by decide +kernel) rfl
theorem qF_RX3_9 : Cond.fieldLink RX3 9 (TX3 0).1 (TX3 0).2.1 (TX3 0).2.2.1 ∈ tT := tT_1 (i := 45) (by decide +kernel) rfl
theorem qF_RX3_17 : Cond.fieldLink RX3 17 (TX3 1).1 (TX3 1).2.1 (TX3 1).2.2.1 ∈ tT := tT_1 (i := 46) (by decide +kernel) rfl
theorem qF_RX3_20 : Cond.fieldLink RX3 20 (TX3 2).1 (TX3 2).2.1 (TX3 2).2.2.1 ∈ tT := tT_1 (i := 47) (by decide +kernel) rfl
theorem qM_RX4_3 : Cond.methodLink RX4 3 Lib.objectInit ∈ tT := tT_1 (i := 145) (by decide +kernel) rfl
theorem qF_RX4_9 : Cond.fieldLink RX4 9 (TX4 0).1 (TX4 0).2.1 (TX4 0).2.2.1 ∈ tT := tT_1 (i := 146) (by decide +kernel) rfl
theorem qF_RX4_15 : Cond.fieldLink RX4 15 (TX4 1).1 (TX4 1).2.1 (TX4 1).2.2.1 ∈ tT := tT_1 (i := 147) (by decide +kernel) rfl
theorem qM_RX5_3 : Cond.methodLink RX5 3 Lib.objectInit ∈ tT := tT_1 (i := 122) (by decide +kernel) rfl
theorem qF_RX5_9 : Cond.fieldLink RX5 9 (TX5 0).1 (TX5 0).2.1 (TX5 0).2.2.1 ∈ tT := tT_1 (i := 131) (by decide +kernel) rfl
theorem qF_RX5_15 : Cond.fieldLink RX5 15 (TX5 1).1 (TX5 1).2.1 (TX5 1).2.2.1 ∈ tT := tT_1 (i := 132) (by decide +kernel) rfl
theorem qM_RX5_18 : Cond.methodLink RX5 18 yX5_add ∈ tT := tT_1 (i := 123) (by decide +kernel) rfl
theorem qM_RX5_22 : Cond.methodLink RX5 22 yX5_endPart ∈ tT := tT_1 (i := 127) (by decide +kernel) rfl
set_option maxRecDepth 100000 in
theorem mk_RX0 {l : Launch} {d b0 n : Nat} {ad : Nat → Nat} {cA : Nat → ClassId} {D : va_G} {pre : List Shp} {mm : Mm} (hn : pre.length = n) (hl : n ≤ 900) : CMk l ZT yX0_init cX0_init 1 (d + 1) 1 6 b0 ad cA D n (pre ++ [.inl (0, [2, 0])]) (pre ++ [.inl (0, [n + 1 + 3, 0]), .inr (.inl (0, 6))]) mm (zr (n + 1) mm) := by
  refine mk_of (by decide +kernel) (by simp only [List.length_append, hn, List.length_cons, List.length_nil]; omega) ⟨by decide, by decide⟩ rfl (fun p e R s m args below meth c Qm hRc hRs E hi hZ hret => ?_)
  refine ms_aload E (so_aload_n (by decide +kernel : decode cX0_init 0 = .ok (.aload_n 0, 1)) rfl rfl) rfl ?_
  refine ms_obj E qM_RX0_3 qV_obj qC_obj (by decide +kernel : decode cX0_init 1 = .ok (.invokespecial 3, 3)) ?_
  refine ms_aload E (so_aload_n (by decide +kernel : decode cX0_init 4 = .ok (.aload_n 0, 1)) rfl rfl) rfl ?_
  refine ms_const (v := 6) E (so_bipush (by decide +kernel : decode cX0_init 5 = .ok (.bipush 6, 2)) rfl rfl) ?_
  refine ms_newa (t := 0) (N := 6) (q := (n + 1)) (sh' := (pre ++ [.inl (0, [2, 0]), .inr (.inl (0, 6))])) (cells' := 1) (slots' := 6) E qA_int (Or.inl ⟨rfl, rfl⟩) (by decide) (by decide) (by decide) (by decide +kernel : decode cX0_init 7 = .ok (.newarray .int, 2)) (lnn hn rfl) (List.append_assoc _ _ _) rfl rfl (by rw [hRc]; decide) (by rw [hRs]; decide) (by simp only [List.length_append, hn, List.length_cons, List.length_nil]; omega) ?_
  refine ms_putr (ci := 0) (j := 0) (T := TX0) (ty := .array .int) (fds := [2, 0]) (sh' := (pre ++ [.inl (0, [n + 1 + 3, 0]), .inr (.inl (0, 6))])) E hi rfl (by decide) in_X0 qF_RX0_9 tyX0 tyX0_ok nmX0 rfl rfl (by decide +kernel) (fun _ => rfl) (fun _ => rfl) (lk (i := 0) hn rfl) rfl (by decide +kernel : decode cX0_init 9 = .ok (.putfield 9, 3)) (stt hn) ?_
  exact hret 12 _ (by decide +kernel : decode cX0_init 12 = .ok (.return_, 1))
set_option maxRecDepth 100000 in
theorem mk_RX1 {l : Launch} {d b0 n : Nat} {ad : Nat → Nat} {cA : Nat → ClassId} {D : va_G} {pre : List Shp} {mm : Mm} (hn : pre.length = n) (hl : n ≤ 900) : CMk l ZT yX1_init cX1_init 1 (d + 1) 2 320 b0 ad cA D n (pre ++ [.inl (1, [2, 2, 0, 0, 0, 0, 0, 0, 0, 0])]) (pre ++ [.inl (1, [n + 1 + 3, n + 2 + 3, 0, 0, 0, 0, 0, 0, 0, 0]), .inr (.inl (0, 160)), .inr (.inl (0, 160))]) mm (zr (n + 2) (zr (n + 1) mm)) := by
  refine mk_of (by decide +kernel) (by simp only [List.length_append, hn, List.length_cons, List.length_nil]; omega) ⟨by decide, by decide⟩ rfl (fun p e R s m args below meth c Qm hRc hRs E hi hZ hret => ?_)
  refine ms_aload E (so_aload_n (by decide +kernel : decode cX1_init 0 = .ok (.aload_n 0, 1)) rfl rfl) rfl ?_
  refine ms_obj E qM_RX1_3 qV_obj qC_obj (by decide +kernel : decode cX1_init 1 = .ok (.invokespecial 3, 3)) ?_
  refine ms_aload E (so_aload_n (by decide +kernel : decode cX1_init 4 = .ok (.aload_n 0, 1)) rfl rfl) rfl ?_
  refine ms_const (v := 160) E (so_sipush (by decide +kernel : decode cX1_init 5 = .ok (.sipush 160, 3)) rfl rfl) ?_
  refine ms_newa (t := 0) (N := 160) (q := (n + 1)) (sh' := (pre ++ [.inl (1, [2, 2, 0, 0, 0, 0, 0, 0, 0, 0]), .inr (.inl (0, 160))])) (cells' := 1) (slots' := 160) E qA_int (Or.inl ⟨rfl, rfl⟩) (by decide) (by decide) (by decide) (by decide +kernel : decode cX1_init 8 = .ok (.newarray .int, 2)) (lnn hn rfl) (List.append_assoc _ _ _) rfl rfl (by rw [hRc]; decide) (by rw [hRs]; decide) (by simp only [List.length_append, hn, List.length_cons, List.length_nil]; omega) ?_
  refine ms_putr (ci := 1) (j := 0) (T := TX1) (ty := .array .int) (fds := [2, 2, 0, 0, 0, 0, 0, 0, 0, 0]) (sh' := (pre ++ [.inl (1, [n + 1 + 3, 2, 0, 0, 0, 0, 0, 0, 0, 0]), .inr (.inl (0, 160))])) E hi rfl (by decide) in_X1 qF_RX1_9 tyX1 tyX1_ok nmX1 rfl rfl (by decide +kernel) (fun _ => rfl) (fun _ => rfl) (lk (i := 0) hn rfl) rfl (by decide +kernel : decode cX1_init 10 = .ok (.putfield 9, 3)) (stt hn) ?_
  refine ms_aload E (so_aload_n (by decide +kernel : decode cX1_init 13 = .ok (.aload_n 0, 1)) rfl rfl) rfl ?_
  refine ms_const (v := 160) E (so_sipush (by decide +kernel : decode cX1_init 14 = .ok (.sipush 160, 3)) rfl rfl) ?_
  refine ms_newa (t := 0) (N := 160) (q := (n + 2)) (sh' := (pre ++ [.inl (1, [n + 1 + 3, 2, 0, 0, 0, 0, 0, 0, 0, 0]), .inr (.inl (0, 160)), .inr (.inl (0, 160))])) (cells' := 2) (slots' := 320) E qA_int (Or.inl ⟨rfl, rfl⟩) (by decide) (by decide) (by decide) (by decide +kernel : decode cX1_init 17 = .ok (.newarray .int, 2)) (lnn hn rfl) (List.append_assoc _ _ _) rfl rfl (by rw [hRc]; decide) (by rw [hRs]; decide) (by simp only [List.length_append, hn, List.length_cons, List.length_nil]; omega) ?_
  refine ms_putr (ci := 1) (j := 1) (T := TX1) (ty := .array .int) (fds := [n + 1 + 3, 2, 0, 0, 0, 0, 0, 0, 0, 0]) (sh' := (pre ++ [.inl (1, [n + 1 + 3, n + 2 + 3, 0, 0, 0, 0, 0, 0, 0, 0]), .inr (.inl (0, 160)), .inr (.inl (0, 160))])) E hi rfl (by decide) in_X1 qF_RX1_15 tyX1 tyX1_ok nmX1 rfl rfl (by decide +kernel) (fun _ => rfl) (fun _ => rfl) (lk (i := 0) hn rfl) rfl (by decide +kernel : decode cX1_init 19 = .ok (.putfield 15, 3)) (stt hn) ?_
  exact hret 22 _ (by decide +kernel : decode cX1_init 22 = .ok (.return_, 1))
set_option maxRecDepth 100000 in
theorem mk_RX2 {l : Launch} {d b0 n : Nat} {ad : Nat → Nat} {cA : Nat → ClassId} {D : va_G} {pre : List Shp} {mm : Mm} (hn : pre.length = n) (hl : n ≤ 900) : CMk l ZT yX2_init cX2_init 1 (d + 1) 1 16 b0 ad cA D n (pre ++ [.inl (2, [2, 0])]) (pre ++ [.inl (2, [n + 1 + 3, 0]), .inr (.inl (0, 16))]) mm (zr (n + 1) mm) := by
  refine mk_of (by decide +kernel) (by simp only [List.length_append, hn, List.length_cons, List.length_nil]; omega) ⟨by decide, by decide⟩ rfl (fun p e R s m args below meth c Qm hRc hRs E hi hZ hret => ?_)
  refine ms_aload E (so_aload_n (by decide +kernel : decode cX2_init 0 = .ok (.aload_n 0, 1)) rfl rfl) rfl ?_
  refine ms_obj E qM_RX2_3 qV_obj qC_obj (by decide +kernel : decode cX2_init 1 = .ok (.invokespecial 3, 3)) ?_
  refine ms_aload E (so_aload_n (by decide +kernel : decode cX2_init 4 = .ok (.aload_n 0, 1)) rfl rfl) rfl ?_
  refine ms_const (v := 16) E (so_bipush (by decide +kernel : decode cX2_init 5 = .ok (.bipush 16, 2)) rfl rfl) ?_
  refine ms_newa (t := 0) (N := 16) (q := (n + 1)) (sh' := (pre ++ [.inl (2, [2, 0]), .inr (.inl (0, 16))])) (cells' := 1) (slots' := 16) E qA_int (Or.inl ⟨rfl, rfl⟩) (by decide) (by decide) (by decide) (by decide +kernel : decode cX2_init 7 = .ok (.newarray .int, 2)) (lnn hn rfl) (List.append_assoc _ _ _) rfl rfl (by rw [hRc]; decide) (by rw [hRs]; decide) (by simp only [List.length_append, hn, List.length_cons, List.length_nil]; omega) ?_
  refine ms_putr (ci := 2) (j := 0) (T := TX2) (ty := .array .int) (fds := [2, 0]) (sh' := (pre ++ [.inl (2, [n + 1 + 3, 0]), .inr (.inl (0, 16))])) E hi rfl (by decide) in_X2 qF_RX2_9 tyX2 tyX2_ok nmX2 rfl rfl (by decide +kernel) (fun _ => rfl) (fun _ => rfl) (lk (i := 0) hn rfl) rfl (by decide +kernel : decode cX2_init 9 = .ok (.putfield 9, 3)) (stt hn) ?_
  exact hret 12 _ (by decide +kernel : decode cX2_init 12 = .ok (.return_, 1))
set_option maxRecDepth 100000 in
theorem mk_RX3 {l : Launch} {d b0 n : Nat} {ad : Nat → Nat} {cA : Nat → ClassId} {D : va_G} {pre : List Shp} {mm : Mm} (hn : pre.length = n) (hl : n ≤ 900) : CMk l ZT yX3_init cX3_init 1 (d + 1) 3 62 b0 ad cA D n (pre ++ [.inl (3, [2, 2, 2, 0, 0, 0])]) (pre ++ [.inl (3, [n + 1 + 3, n + 2 + 3, n + 3 + 3, 0, 0, 0]), .inr (.inl (0, 16)), .inr (.inl (0, 6)), .inr (.inl (0, 40))]) mm (zr (n + 3) (zr (n + 2) (zr (n + 1) mm))) := by
  refine mk_of (by decide +kernel) (by simp only [List.length_append, hn, List.length_cons, List.length_nil]; omega) ⟨by decide, by decide⟩ rfl (fun p e R s m args below meth c Qm hRc hRs E hi hZ hret => ?_)
  refine ms_aload E (so_aload_n (by decide +kernel : decode cX3_init 0 = .ok (.aload_n 0, 1)) rfl rfl) rfl ?_
  refine ms_obj E qM_RX3_3 qV_obj qC_obj (by decide +kernel : decode cX3_init 1 = .ok (.invokespecial 3, 3)) ?_
  refine ms_aload E (so_aload_n (by decide +kernel : decode cX3_init 4 = .ok (.aload_n 0, 1)) rfl rfl) rfl ?_
  refine ms_const (v := 16) E (so_bipush (by decide +kernel : decode cX3_init 5 = .ok (.bipush 16, 2)) rfl rfl) ?_
  refine ms_newa (t := 0) (N := 16) (q := (n + 1)) (sh' := (pre ++ [.inl (3, [2, 2, 2, 0, 0, 0]), .inr (.inl (0, 16))])) (cells' := 1) (slots' := 16) E qA_int (Or.inl ⟨rfl, rfl⟩) (by decide) (by decide) (by decide) (by decide +kernel : decode cX3_init 7 = .ok (.newarray .int, 2)) (lnn hn rfl) (List.append_assoc _ _ _) rfl rfl (by rw [hRc]; decide) (by rw [hRs]; decide) (by simp only [List.length_append, hn, List.length_cons, List.length_nil]; omega) ?_
  refine ms_putr (ci := 3) (j := 0) (T := TX3) (ty := .array .int) (fds := [2, 2, 2, 0, 0, 0]) (sh' := (pre ++ [.inl (3, [n + 1 + 3, 2, 2, 0, 0, 0]), .inr (.inl (0, 16))])) E hi rfl (by decide) in_X3 qF_RX3_9 tyX3 tyX3_ok nmX3 rfl rfl (by decide +kernel) (fun _ => rfl) (fun _ => rfl) (lk (i := 0) hn rfl) rfl (by decide +kernel : decode cX3_init 9 = .ok (.putfield 9, 3)) (stt hn) ?_
  refine ms_aload E (so_aload_n (by decide +kernel : decode cX3_init 12 = .ok (.aload_n 0, 1)) rfl rfl) rfl ?_
  refine ms_const (v := 6) E (so_bipush (by decide +kernel : decode cX3_init 13 = .ok (.bipush 6, 2)) rfl rfl) ?_
  refine ms_newa (t := 0) (N := 6) (q := (n + 2)) (sh' := (pre ++ [.inl (3, [n + 1 + 3, 2, 2, 0, 0, 0]), .inr (.inl (0, 16)), .inr (.inl (0, 6))])) (cells' := 2) (slots' := 22) E qA_int (Or.inl ⟨rfl, rfl⟩) (by decide) (by decide) (by decide) (by decide +kernel : decode cX3_init 15 = .ok (.newarray .int, 2)) (lnn hn rfl) (List.append_assoc _ _ _) rfl rfl (by rw [hRc]; decide) (by rw [hRs]; decide) (by simp only [List.length_append, hn, List.length_cons, List.length_nil]; omega) ?_
  refine ms_putr (ci := 3) (j := 1) (T := TX3) (ty := .array .int) (fds := [n + 1 + 3, 2, 2, 0, 0, 0]) (sh' := (pre ++ [.inl (3, [n + 1 + 3, n + 2 + 3, 2, 0, 0, 0]), .inr (.inl (0, 16)), .inr (.inl (0, 6))])) E hi rfl (by decide) in_X3 qF_RX3_17 tyX3 tyX3_ok nmX3 rfl rfl (by decide +kernel) (fun _ => rfl) (fun _ => rfl) (lk (i := 0) hn rfl) rfl (by decide +kernel : decode cX3_init 17 = .ok (.putfield 17, 3)) (stt hn) ?_
  refine ms_aload E (so_aload_n (by decide +kernel : decode cX3_init 20 = .ok (.aload_n 0, 1)) rfl rfl) rfl ?_
  refine ms_const (v := 40) E (so_bipush (by decide +kernel : decode cX3_init 21 = .ok (.bipush 40, 2)) rfl rfl) ?_
  refine ms_newa (t := 0) (N := 40) (q := (n + 3)) (sh' := (pre ++ [.inl (3, [n + 1 + 3, n + 2 + 3, 2, 0, 0, 0]), .inr (.inl (0, 16)), .inr (.inl (0, 6)), .inr (.inl (0, 40))])) (cells' := 3) (slots' := 62) E qA_int (Or.inl ⟨rfl, rfl⟩) (by decide) (by decide) (by decide) (by decide +kernel : decode cX3_init 23 = .ok (.newarray .int, 2)) (lnn hn rfl) (List.append_assoc _ _ _) rfl rfl (by rw [hRc]; decide) (by rw [hRs]; decide) (by simp only [List.length_append, hn, List.length_cons, List.length_nil]; omega) ?_
  refine ms_putr (ci := 3) (j := 2) (T := TX3) (ty := .array .int) (fds := [n + 1 + 3, n + 2 + 3, 2, 0, 0, 0]) (sh' := (pre ++ [.inl (3, [n + 1 + 3, n + 2 + 3, n + 3 + 3, 0, 0, 0]), .inr (.inl (0, 16)), .inr (.inl (0, 6)), .inr (.inl (0, 40))])) E hi rfl (by decide) in_X3 qF_RX3_20 tyX3 tyX3_ok nmX3 rfl rfl (by decide +kernel) (fun _ => rfl) (fun _ => rfl) (lk (i := 0) hn rfl) rfl (by decide +kernel : decode cX3_init 25 = .ok (.putfield 20, 3)) (stt hn) ?_
  exact hret 28 _ (by decide +kernel : decode cX3_init 28 = .ok (.return_, 1))
set_option maxRecDepth 100000 in
theorem mk_RX4 {l : Launch} {d b0 n : Nat} {ad : Nat → Nat} {cA : Nat → ClassId} {D : va_G} {pre : List Shp} {mm : Mm} (hn : pre.length = n) (hl : n ≤ 900) : CMk l ZT yX4_init cX4_init 1 (d + 1) 1 40 b0 ad cA D n (pre ++ [.inl (4, [2, 0, 0])]) (pre ++ [.inl (4, [n + 1 + 3, 0, 0]), .inr (.inl (0, 40))]) mm (pt (zr (n + 1) mm) n 1 (-1)) := by
  refine mk_of (by decide +kernel) (by simp only [List.length_append, hn, List.length_cons, List.length_nil]; omega) ⟨by decide, by decide⟩ rfl (fun p e R s m args below meth c Qm hRc hRs E hi hZ hret => ?_)
  refine ms_aload E (so_aload_n (by decide +kernel : decode cX4_init 0 = .ok (.aload_n 0, 1)) rfl rfl) rfl ?_
  refine ms_obj E qM_RX4_3 qV_obj qC_obj (by decide +kernel : decode cX4_init 1 = .ok (.invokespecial 3, 3)) ?_
  refine ms_aload E (so_aload_n (by decide +kernel : decode cX4_init 4 = .ok (.aload_n 0, 1)) rfl rfl) rfl ?_
  refine ms_const (v := 40) E (so_bipush (by decide +kernel : decode cX4_init 5 = .ok (.bipush 40, 2)) rfl rfl) ?_
  refine ms_newa (t := 0) (N := 40) (q := (n + 1)) (sh' := (pre ++ [.inl (4, [2, 0, 0]), .inr (.inl (0, 40))])) (cells' := 1) (slots' := 40) E qA_int (Or.inl ⟨rfl, rfl⟩) (by decide) (by decide) (by decide) (by decide +kernel : decode cX4_init 7 = .ok (.newarray .int, 2)) (lnn hn rfl) (List.append_assoc _ _ _) rfl rfl (by rw [hRc]; decide) (by rw [hRs]; decide) (by simp only [List.length_append, hn, List.length_cons, List.length_nil]; omega) ?_
  refine ms_putr (ci := 4) (j := 0) (T := TX4) (ty := .array .int) (fds := [2, 0, 0]) (sh' := (pre ++ [.inl (4, [n + 1 + 3, 0, 0]), .inr (.inl (0, 40))])) E hi rfl (by decide) in_X4 qF_RX4_9 tyX4 tyX4_ok nmX4 rfl rfl (by decide +kernel) (fun _ => rfl) (fun _ => rfl) (lk (i := 0) hn rfl) rfl (by decide +kernel : decode cX4_init 9 = .ok (.putfield 9, 3)) (stt hn) ?_
  refine ms_aload E (so_aload_n (by decide +kernel : decode cX4_init 12 = .ok (.aload_n 0, 1)) rfl rfl) rfl ?_
  refine ms_const (v := (-1)) E (so_iconst (by decide +kernel : decode cX4_init 13 = .ok (.iconst (-1), 1)) rfl rfl) ?_
  refine ms_puti (fds := [n + 1 + 3, 0, 0]) E (so_puti (ci := 4) (T := TX4) rfl (by decide) in_X4 qF_RX4_15 tyX4 tyX4_ok nmX4 rfl rfl (by decide +kernel : decode cX4_init 14 = .ok (.putfield 15, 3)) rfl) (lk (i := 0) hn rfl) rfl ?_
  exact hret 17 _ (by decide +kernel : decode cX4_init 17 = .ok (.return_, 1))
set_option maxRecDepth 100000 in
theorem mk_RX5 {l : Launch} {d b0 n : Nat} {ad : Nat → Nat} {cA : Nat → ClassId} {D : va_G} {pre : List Shp} {mm : Mm} (hn : pre.length = n) (hl : n ≤ 900) (hm : mm.1 n 2 = 0) : CMk l ZT yX5_init cX5_init 2 (d + 2) 2 163 b0 ad cA D n (pre ++ [.inl (5, [2, 2, 0])]) (pre ++ [.inl (5, [n + 1 + 3, n + 2 + 3, 0]), .inr (.inl (0, 160)), .inr (.inl (0, 3))]) mm (pt (pt (pt (pt (pt (pt (pt (pt (pt (zr (n + 2) (zr (n + 1) mm)) (n + 1) 0 100) n 2 1) (n + 2) 0 1) (n + 1) 1 100) n 2 2) (n + 2) 1 2) (n + 1) 2 101) n 2 3) (n + 2) 2 3) := by
  refine mk_of (by decide +kernel) (by simp only [List.length_append, hn, List.length_cons, List.length_nil]; omega) ⟨by decide, by decide⟩ rfl (fun p e R s m args below meth c Qm hRc hRs E hi hZ hret => ?_)
  refine ms_aload E (so_aload_n (by decide +kernel : decode cX5_init 0 = .ok (.aload_n 0, 1)) rfl rfl) rfl ?_
  refine ms_obj E qM_RX5_3 qV_obj qC_obj (by decide +kernel : decode cX5_init 1 = .ok (.invokespecial 3, 3)) ?_
  refine ms_aload E (so_aload_n (by decide +kernel : decode cX5_init 4 = .ok (.aload_n 0, 1)) rfl rfl) rfl ?_
  refine ms_const (v := 160) E (so_sipush (by decide +kernel : decode cX5_init 5 = .ok (.sipush 160, 3)) rfl rfl) ?_
  refine ms_newa (t := 0) (N := 160) (q := (n + 1)) (sh' := (pre ++ [.inl (5, [2, 2, 0]), .inr (.inl (0, 160))])) (cells' := 1) (slots' := 160) E qA_int (Or.inl ⟨rfl, rfl⟩) (by decide) (by decide) (by decide) (by decide +kernel : decode cX5_init 8 = .ok (.newarray .int, 2)) (lnn hn rfl) (List.append_assoc _ _ _) rfl rfl (by rw [hRc]; decide) (by rw [hRs]; decide) (by simp only [List.length_append, hn, List.length_cons, List.length_nil]; omega) ?_
  refine ms_putr (ci := 5) (j := 0) (T := TX5) (ty := .array .int) (fds := [2, 2, 0]) (sh' := (pre ++ [.inl (5, [n + 1 + 3, 2, 0]), .inr (.inl (0, 160))])) E hi rfl (by decide) in_X5 qF_RX5_9 tyX5 tyX5_ok nmX5 rfl rfl (by decide +kernel) (fun _ => rfl) (fun _ => rfl) (lk (i := 0) hn rfl) rfl (by decide +kernel : decode cX5_init 10 = .ok (.putfield 9, 3)) (stt hn) ?_
  refine ms_aload E (so_aload_n (by decide +kernel : decode cX5_init 13 = .ok (.aload_n 0, 1)) rfl rfl) rfl ?_
  refine ms_const (v := 3) E (so_iconst (by decide +kernel : decode cX5_init 14 = .ok (.iconst 3, 1)) rfl rfl) ?_
  refine ms_newa (t := 0) (N := 3) (q := (n + 2)) (sh' := (pre ++ [.inl (5, [n + 1 + 3, 2, 0]), .inr (.inl (0, 160)), .inr (.inl (0, 3))])) (cells' := 2) (slots' := 163) E qA_int (Or.inl ⟨rfl, rfl⟩) (by decide) (by decide) (by decide) (by decide +kernel : decode cX5_init 15 = .ok (.newarray .int, 2)) (lnn hn rfl) (List.append_assoc _ _ _) rfl rfl (by rw [hRc]; decide) (by rw [hRs]; decide) (by simp only [List.length_append, hn, List.length_cons, List.length_nil]; omega) ?_
  refine ms_putr (ci := 5) (j := 1) (T := TX5) (ty := .array .int) (fds := [n + 1 + 3, 2, 0]) (sh' := (pre ++ [.inl (5, [n + 1 + 3, n + 2 + 3, 0]), .inr (.inl (0, 160)), .inr (.inl (0, 3))])) E hi rfl (by decide) in_X5 qF_RX5_15 tyX5 tyX5_ok nmX5 rfl rfl (by decide +kernel) (fun _ => rfl) (fun _ => rfl) (lk (i := 0) hn rfl) rfl (by decide +kernel : decode cX5_init 17 = .ok (.putfield 15, 3)) (stt hn) ?_
  refine ms_const (v := 0) E (so_iconst (by decide +kernel : decode cX5_init 20 = .ok (.iconst 0, 1)) rfl rfl) ?_
  refine ms_istore E (so_istore_n (by decide +kernel : decode cX5_init 21 = .ok (.istore_n 1, 1)) rfl (by decide) rfl) rfl rfl ?_
  refine ms_iload E (so_iload_n (by decide +kernel : decode cX5_init 22 = .ok (.iload_n 1, 1)) rfl rfl) rfl ?_
  refine ms_const (v := 3) E (so_iconst (by decide +kernel : decode cX5_init 23 = .ok (.iconst 3, 1)) rfl rfl) ?_
  refine ms_if2n (t := 55) E (so_icmp_ge (by decide +kernel : decode cX5_init 24 = .ok (.if_icmp .ge 31, 3)) (by decide) rfl) (by decide) ?_
  refine ms_aload E (so_aload_n (by decide +kernel : decode cX5_init 27 = .ok (.aload_n 0, 1)) rfl rfl) rfl ?_
  refine ms_const (v := 100) E (so_bipush (by decide +kernel : decode cX5_init 28 = .ok (.bipush 100, 2)) rfl rfl) ?_
  refine ms_iload E (so_iload_n (by decide +kernel : decode cX5_init 30 = .ok (.iload_n 1, 1)) rfl rfl) rfl ?_
  refine ms_const (v := 2) E (so_iconst (by decide +kernel : decode cX5_init 31 = .ok (.iconst 2, 1)) rfl rfl) ?_
  refine ms_if2 (t := 39) E (so_icmp_ne (by decide +kernel : decode cX5_init 32 = .ok (.if_icmp .ne 7, 3)) (by decide) rfl) (by decide) ?_
  refine ms_const (v := 0) E (so_iconst (by decide +kernel : decode cX5_init 39 = .ok (.iconst 0, 1)) rfl rfl) ?_
  refine ms_ii (z := 100) E (so_iadd (by decide +kernel : decode cX5_init 40 = .ok (.iadd, 1)) rfl) (by decide) ?_
  refine ms_call (fds := [n + 1 + 3, n + 2 + 3, 0]) (m1 := (pt (pt (zr (n + 2) (zr (n + 1) mm)) (n + 1) 0 100) n 2 1)) E (so_callV hy_yX5_add (by decide) qM_RX5_18 kC_yX5_add kI_RX5 kV_yX5_add kS_yX5_add kP_yX5_add (ci := 5) rfl (by decide +kernel : decode cX5_init 41 = .ok (.invokevirtual 18, 3)) rfl) rfl (lk (i := 0) hn rfl) rfl (fun Q hq => mk_add (i := 0) (j := 0) (f := []) (d := d) (lk (i := 0) hn rfl) (lk (i := 1) hn rfl) (by simp [zr, mu, hm]) (by decide) (by unfold vp_in; decide) (by decide) hq) ?_
  refine ms_aload E (so_aload_n (by decide +kernel : decode cX5_init 44 = .ok (.aload_n 0, 1)) rfl rfl) rfl ?_
  refine ms_iload E (so_iload_n (by decide +kernel : decode cX5_init 45 = .ok (.iload_n 1, 1)) rfl rfl) rfl ?_
  refine ms_call (fds := [n + 1 + 3, n + 2 + 3, 0]) (m1 := (pt (pt (pt (zr (n + 2) (zr (n + 1) mm)) (n + 1) 0 100) n 2 1) (n + 2) 0 1)) E (so_callV hy_yX5_endPart (by decide) qM_RX5_22 kC_yX5_endPart kI_RX5 kV_yX5_endPart kS_yX5_endPart kP_yX5_endPart (ci := 5) rfl (by decide +kernel : decode cX5_init 46 = .ok (.invokevirtual 22, 3)) rfl) rfl (lk (i := 0) hn rfl) rfl (fun Q hq => mk_end (j := 0) (v := 1) (d := d) (lk (i := 0) hn rfl) (lk (i := 2) hn rfl) (by simp [zr, mu, hm]) (by decide) (by decide) (by unfold vp_in; decide) (by decide) hq) ?_
  refine ms_iinc (y := 1) E (so_iinc (by decide +kernel : decode cX5_init 49 = .ok (.iinc 1 1, 3)) rfl (by decide) rfl) rfl rfl (by decide) rfl ?_
  refine ms_goto (t := 22) (nx := 0) E (so_goto (by decide +kernel : decode cX5_init 52 = .ok (.goto (-30), 3)) (by decide)) ?_
  refine ms_iload E (so_iload_n (by decide +kernel : decode cX5_init 22 = .ok (.iload_n 1, 1)) rfl rfl) rfl ?_
  refine ms_const (v := 3) E (so_iconst (by decide +kernel : decode cX5_init 23 = .ok (.iconst 3, 1)) rfl rfl) ?_
  refine ms_if2n (t := 55) E (so_icmp_ge (by decide +kernel : decode cX5_init 24 = .ok (.if_icmp .ge 31, 3)) (by decide) rfl) (by decide) ?_
  refine ms_aload E (so_aload_n (by decide +kernel : decode cX5_init 27 = .ok (.aload_n 0, 1)) rfl rfl) rfl ?_
  refine ms_const (v := 100) E (so_bipush (by decide +kernel : decode cX5_init 28 = .ok (.bipush 100, 2)) rfl rfl) ?_
  refine ms_iload E (so_iload_n (by decide +kernel : decode cX5_init 30 = .ok (.iload_n 1, 1)) rfl rfl) rfl ?_
  refine ms_const (v := 2) E (so_iconst (by decide +kernel : decode cX5_init 31 = .ok (.iconst 2, 1)) rfl rfl) ?_
  refine ms_if2 (t := 39) E (so_icmp_ne (by decide +kernel : decode cX5_init 32 = .ok (.if_icmp .ne 7, 3)) (by decide) rfl) (by decide) ?_
  refine ms_const (v := 0) E (so_iconst (by decide +kernel : decode cX5_init 39 = .ok (.iconst 0, 1)) rfl rfl) ?_
  refine ms_ii (z := 100) E (so_iadd (by decide +kernel : decode cX5_init 40 = .ok (.iadd, 1)) rfl) (by decide) ?_
  refine ms_call (fds := [n + 1 + 3, n + 2 + 3, 0]) (m1 := (pt (pt (pt (pt (pt (zr (n + 2) (zr (n + 1) mm)) (n + 1) 0 100) n 2 1) (n + 2) 0 1) (n + 1) 1 100) n 2 2)) E (so_callV hy_yX5_add (by decide) qM_RX5_18 kC_yX5_add kI_RX5 kV_yX5_add kS_yX5_add kP_yX5_add (ci := 5) rfl (by decide +kernel : decode cX5_init 41 = .ok (.invokevirtual 18, 3)) rfl) rfl (lk (i := 0) hn rfl) rfl (fun Q hq => mk_add (i := 1) (j := 1) (f := []) (d := d) (lk (i := 0) hn rfl) (lk (i := 1) hn rfl) (by simp [zr, mu, hm]) (by decide) (by unfold vp_in; decide) (by decide) hq) ?_
  refine ms_aload E (so_aload_n (by decide +kernel : decode cX5_init 44 = .ok (.aload_n 0, 1)) rfl rfl) rfl ?_
  refine ms_iload E (so_iload_n (by decide +kernel : decode cX5_init 45 = .ok (.iload_n 1, 1)) rfl rfl) rfl ?_
  refine ms_call (fds := [n + 1 + 3, n + 2 + 3, 0]) (m1 := (pt (pt (pt (pt (pt (pt (zr (n + 2) (zr (n + 1) mm)) (n + 1) 0 100) n 2 1) (n + 2) 0 1) (n + 1) 1 100) n 2 2) (n + 2) 1 2)) E (so_callV hy_yX5_endPart (by decide) qM_RX5_22 kC_yX5_endPart kI_RX5 kV_yX5_endPart kS_yX5_endPart kP_yX5_endPart (ci := 5) rfl (by decide +kernel : decode cX5_init 46 = .ok (.invokevirtual 22, 3)) rfl) rfl (lk (i := 0) hn rfl) rfl (fun Q hq => mk_end (j := 1) (v := 2) (d := d) (lk (i := 0) hn rfl) (lk (i := 2) hn rfl) (by simp [zr, mu, hm]) (by decide) (by decide) (by unfold vp_in; decide) (by decide) hq) ?_
  refine ms_iinc (y := 2) E (so_iinc (by decide +kernel : decode cX5_init 49 = .ok (.iinc 1 1, 3)) rfl (by decide) rfl) rfl rfl (by decide) rfl ?_
  refine ms_goto (t := 22) (nx := 0) E (so_goto (by decide +kernel : decode cX5_init 52 = .ok (.goto (-30), 3)) (by decide)) ?_
  refine ms_iload E (so_iload_n (by decide +kernel : decode cX5_init 22 = .ok (.iload_n 1, 1)) rfl rfl) rfl ?_
  refine ms_const (v := 3) E (so_iconst (by decide +kernel : decode cX5_init 23 = .ok (.iconst 3, 1)) rfl rfl) ?_
  refine ms_if2n (t := 55) E (so_icmp_ge (by decide +kernel : decode cX5_init 24 = .ok (.if_icmp .ge 31, 3)) (by decide) rfl) (by decide) ?_
  refine ms_aload E (so_aload_n (by decide +kernel : decode cX5_init 27 = .ok (.aload_n 0, 1)) rfl rfl) rfl ?_
  refine ms_const (v := 100) E (so_bipush (by decide +kernel : decode cX5_init 28 = .ok (.bipush 100, 2)) rfl rfl) ?_
  refine ms_iload E (so_iload_n (by decide +kernel : decode cX5_init 30 = .ok (.iload_n 1, 1)) rfl rfl) rfl ?_
  refine ms_const (v := 2) E (so_iconst (by decide +kernel : decode cX5_init 31 = .ok (.iconst 2, 1)) rfl rfl) ?_
  refine ms_if2n (t := 39) E (so_icmp_ne (by decide +kernel : decode cX5_init 32 = .ok (.if_icmp .ne 7, 3)) (by decide) rfl) (by decide) ?_
  refine ms_const (v := 1) E (so_iconst (by decide +kernel : decode cX5_init 35 = .ok (.iconst 1, 1)) rfl rfl) ?_
  refine ms_goto (t := 40) (nx := 0) E (so_goto (by decide +kernel : decode cX5_init 36 = .ok (.goto 4, 3)) (by decide)) ?_
  refine ms_ii (z := 101) E (so_iadd (by decide +kernel : decode cX5_init 40 = .ok (.iadd, 1)) rfl) (by decide) ?_
  refine ms_call (fds := [n + 1 + 3, n + 2 + 3, 0]) (m1 := (pt (pt (pt (pt (pt (pt (pt (pt (zr (n + 2) (zr (n + 1) mm)) (n + 1) 0 100) n 2 1) (n + 2) 0 1) (n + 1) 1 100) n 2 2) (n + 2) 1 2) (n + 1) 2 101) n 2 3)) E (so_callV hy_yX5_add (by decide) qM_RX5_18 kC_yX5_add kI_RX5 kV_yX5_add kS_yX5_add kP_yX5_add (ci := 5) rfl (by decide +kernel : decode cX5_init 41 = .ok (.invokevirtual 18, 3)) rfl) rfl (lk (i := 0) hn rfl) rfl (fun Q hq => mk_add (i := 2) (j := 2) (f := []) (d := d) (lk (i := 0) hn rfl) (lk (i := 1) hn rfl) (by simp [zr, mu, hm]) (by decide) (by unfold vp_in; decide) (by decide) hq) ?_
  refine ms_aload E (so_aload_n (by decide +kernel : decode cX5_init 44 = .ok (.aload_n 0, 1)) rfl rfl) rfl ?_
  refine ms_iload E (so_iload_n (by decide +kernel : decode cX5_init 45 = .ok (.iload_n 1, 1)) rfl rfl) rfl ?_
  refine ms_call (fds := [n + 1 + 3, n + 2 + 3, 0]) (m1 := (pt (pt (pt (pt (pt (pt (pt (pt (pt (zr (n + 2) (zr (n + 1) mm)) (n + 1) 0 100) n 2 1) (n + 2) 0 1) (n + 1) 1 100) n 2 2) (n + 2) 1 2) (n + 1) 2 101) n 2 3) (n + 2) 2 3)) E (so_callV hy_yX5_endPart (by decide) qM_RX5_22 kC_yX5_endPart kI_RX5 kV_yX5_endPart kS_yX5_endPart kP_yX5_endPart (ci := 5) rfl (by decide +kernel : decode cX5_init 46 = .ok (.invokevirtual 22, 3)) rfl) rfl (lk (i := 0) hn rfl) rfl (fun Q hq => mk_end (j := 2) (v := 3) (d := d) (lk (i := 0) hn rfl) (lk (i := 2) hn rfl) (by simp [zr, mu, hm]) (by decide) (by decide) (by unfold vp_in; decide) (by decide) hq) ?_
  refine ms_iinc (y := 3) E (so_iinc (by decide +kernel : decode cX5_init 49 = .ok (.iinc 1 1, 3)) rfl (by decide) rfl) rfl rfl (by decide) rfl ?_
  refine ms_goto (t := 22) (nx := 0) E (so_goto (by decide +kernel : decode cX5_init 52 = .ok (.goto (-30), 3)) (by decide)) ?_
  refine ms_iload E (so_iload_n (by decide +kernel : decode cX5_init 22 = .ok (.iload_n 1, 1)) rfl rfl) rfl ?_
  refine ms_const (v := 3) E (so_iconst (by decide +kernel : decode cX5_init 23 = .ok (.iconst 3, 1)) rfl rfl) ?_
  refine ms_if2 (t := 55) E (so_icmp_ge (by decide +kernel : decode cX5_init 24 = .ok (.if_icmp .ge 31, 3)) (by decide) rfl) (by decide) ?_
  exact hret 55 _ (by decide +kernel : decode cX5_init 55 = .ok (.return_, 1))
