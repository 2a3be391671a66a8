/-! STEPS ON WHAT LIES OUTSIDE -/
section STO
variable {ex : Nat} {mi : Nat → MethodName × ByteArray × Nat × Option FieldType} {own : String} {cc : ByteArray} {nL : Nat} {ret : Option FieldType} {pc nx : Nat}
theorem so_bad  : SO mi ex own cc nL ret pc nx o_bad := by
  intro p l e R s m args below meth c Qm b0 ad cA D sh cells slots d C Q X F RR hC hR ls st mm kn kt h hkn hkt H locs lsA hW hS hL
  exact h.elim

theorem so_ldcS0 (hd : decode cc pc = .ok (.ldc ixA, 2)) (hn : nx = pc + 2) : SO mi ex RX1 cc nL ret pc nx (o_pushr 1000) := by
  intro p l e R s m args below meth c Qm b0 ad cA D sh cells slots d C Q X F RR hC hR ls st mm kn kt h hkn hkt H locs lsA hW hS hL
  subst hn
  exact va_ldcS X.1 X.2.1 X.2.2.2.1 F.2.2.2.2.2.1 hd (hkn _ _ _ h H locs lsA hW hS hL)

theorem so_ldcS1 (hd : decode cc pc = .ok (.ldc ixB, 2)) (hn : nx = pc + 2) : SO mi ex RX1 cc nL ret pc nx (o_pushr 1001) := by
  intro p l e R s m args below meth c Qm b0 ad cA D sh cells slots d C Q X F RR hC hR ls st mm kn kt h hkn hkt H locs lsA hW hS hL
  subst hn
  exact va_ldcS X.1 X.2.1 X.2.2.2.1 F.2.2.2.2.2.2.1 hd (hkn _ _ _ h H locs lsA hW hS hL)

theorem so_kab {ix : Nat} (hw : Cond.fieldLink own ix RX6 "KIND_ABOVE" "[I" ∈ tT) (hd : decode cc pc = .ok (.getstatic ix, 3)) (hn : nx = pc + 3) : SO mi ex own cc nL ret pc nx (o_pushr 1004) := by
  intro p l e R s m args below meth c Qm b0 ad cA D sh cells slots d C Q X F RR hC hR ls st mm kn kt h hkn hkt H locs lsA hW hS hL
  subst hn
  exact va_gets X.1 X.2.1 F.2.2.2.2.2.2.2.1 hS X.2.2.2.1 (X.2.2.2.2 _ hw) (fun _ z => z) hd (hkn _ _ _ h H locs lsA hW hS hL)

theorem so_compact {ix : Nat} (hw : Cond.fieldLink own ix RJ0 "COMPACT_STRINGS" "Z" ∈ tT) (hd : decode cc pc = .ok (.getstatic ix, 3)) (hn : nx = pc + 3) : SO mi ex own cc nL ret pc nx (o_const 1) := by
  intro p l e R s m args below meth c Qm b0 ad cA D sh cells slots d C Q X F RR hC hR ls st mm kn kt h hkn hkt H locs lsA hW hS hL
  subst hn
  exact va_gets X.1 X.2.1 F.2.2.2.2.2.2.2.2.2.1 hS X.2.2.2.1 (X.2.2.2.2 _ hw) (fun _ z => z) hd (hkn _ _ _ h H locs lsA hW hS hL)

theorem so_hand {ix : Nat} (hw : Cond.fieldLink own ix "jdk/internal/util/Preconditions" "SIOOBE_FORMATTER" "Ljava/util/function/BiFunction;" ∈ tT) (hd : decode cc pc = .ok (.getstatic ix, 3)) (hn : nx = pc + 3) : SO mi ex own cc nL ret pc nx o_hand := by
  intro p l e R s m args below meth c Qm b0 ad cA D sh cells slots d C Q X F RR hC hR ls st mm kn kt h hkn hkt H locs lsA hW hS hL
  subst hn
  rcases F.2.2.2.2.2.2.2.2.2.2 with z0 | z0
  · exact va_gets X.1 X.2.1 z0 hS X.2.2.2.1 (X.2.2.2.2 _ hw) (fun _ z => z) hd (hkn _ _ _ h.1 H locs lsA hW hS hL)
  · exact va_gets X.1 X.2.1 z0 hS X.2.2.2.1 (X.2.2.2.2 _ hw) (fun _ z => z) hd (hkn _ _ _ h.2 H locs lsA hW hS hL)

theorem so_sval {ix : Nat} (hw : Cond.fieldLink own ix RJ0 "value" "[B" ∈ tT) (hd : decode cc pc = .ok (.getfield ix, 3)) (hn : nx = pc + 3) : SO mi ex own cc nL ret pc nx o_sval := by
  intro p l e R s m args below meth c Qm b0 ad cA D sh cells slots d C Q X F RR hC hR ls st mm kn kt h hkn hkt H locs lsA hW hS hL
  subst hn
  unfold o_sval at h
  split at h
  next => exact vk_getf X.1 X.2.1 (F.2.2.2.2.1.1 0 (by decide)).2.2.1 hS X.2.2.2.1 (X.2.2.2.2 _ hw) (fun _ z => z) hd (hkn _ _ _ h H locs lsA hW hS hL)
  next => exact vk_getf X.1 X.2.1 (F.2.2.2.2.1.1 1 (by decide)).2.2.1 hS X.2.2.2.1 (X.2.2.2.2 _ hw) (fun _ z => z) hd (hkn _ _ _ h H locs lsA hW hS hL)
  next => exact h.elim

theorem so_scod {ix : Nat} (hw : Cond.fieldLink own ix RJ0 "coder" "B" ∈ tT) (hd : decode cc pc = .ok (.getfield ix, 3)) (hn : nx = pc + 3) : SO mi ex own cc nL ret pc nx o_scod := by
  intro p l e R s m args below meth c Qm b0 ad cA D sh cells slots d C Q X F RR hC hR ls st mm kn kt h hkn hkt H locs lsA hW hS hL
  subst hn
  unfold o_scod at h
  split at h
  next => exact vk_getf X.1 X.2.1 (F.2.2.2.2.1.1 0 (by decide)).2.1 hS X.2.2.2.1 (X.2.2.2.2 _ hw) (fun _ z => z) hd (hkn _ _ _ h H locs lsA hW hS hL)
  next => exact vk_getf X.1 X.2.1 (F.2.2.2.2.1.1 1 (by decide)).2.1 hS X.2.2.2.1 (X.2.2.2.2 _ hw) (fun _ z => z) hd (hkn _ _ _ h H locs lsA hW hS hL)
  next => exact h.elim

theorem so_blen (hd : decode cc pc = .ok (.arraylength, 1)) (hn : nx = pc + 1) : SO mi ex own cc nL ret pc nx o_blen := by
  intro p l e R s m args below meth c Qm b0 ad cA D sh cells slots d C Q X F RR hC hR ls st mm kn kt h hkn hkt H locs lsA hW hS hL
  subst hn
  unfold o_blen at h
  split at h
  next => exact va_tlen X.1 X.2.1 (F.2.2.2.2.1.1 0 (by decide)).2.2.2 hS rfl hd (hkn _ _ _ h H locs lsA hW hS hL)
  next => exact va_tlen X.1 X.2.1 (F.2.2.2.2.1.1 1 (by decide)).2.2.2 hS rfl hd (hkn _ _ _ h H locs lsA hW hS hL)
  next => exact h.elim

theorem so_bget (hd : decode cc pc = .ok (.baload, 1)) (hn : nx = pc + 1) : SO mi ex own cc nL ret pc nx o_bget := by
  intro p l e R s m args below meth c Qm b0 ad cA D sh cells slots d C Q X F RR hC hR ls st mm kn kt h hkn hkt H locs lsA hW hS hL
  subst hn
  unfold o_bget at h
  split at h
  next => exact va_tb X.1 X.2.1 (F.2.2.2.2.1.1 0 (by decide)).2.2.2 hS h.1 rfl hd (hkn _ _ _ h.2 H locs lsA hW hS hL)
  next => exact va_tb X.1 X.2.1 (F.2.2.2.2.1.1 1 (by decide)).2.2.2 hS h.1 rfl hd (hkn _ _ _ h.2 H locs lsA hW hS hL)
  next => exact h.elim

theorem so_klen (hd : decode cc pc = .ok (.arraylength, 1)) (hn : nx = pc + 1) : SO mi ex own cc nL ret pc nx o_klen := by
  intro p l e R s m args below meth c Qm b0 ad cA D sh cells slots d C Q X F RR hC hR ls st mm kn kt h hkn hkt H locs lsA hW hS hL
  subst hn
  unfold o_klen at h
  split at h
  next => exact va_tlen X.1 X.2.1 F.2.2.2.2.2.2.2.2.1 hS rfl hd (hkn _ _ _ h H locs lsA hW hS hL)
  next => exact h.elim

theorem so_kget (hd : decode cc pc = .ok (.iaload, 1)) (hn : nx = pc + 1) : SO mi ex own cc nL ret pc nx o_kget := by
  intro p l e R s m args below meth c Qm b0 ad cA D sh cells slots d C Q X F RR hC hR ls st mm kn kt h hkn hkt H locs lsA hW hS hL
  subst hn
  unfold o_kget at h
  split at h
  next => exact va_ti X.1 X.2.1 F.2.2.2.2.2.2.2.2.1 hS h.1 rfl hd (hkn _ _ _ h.2 H locs lsA hW hS hL)
  next => exact h.elim

end STO
