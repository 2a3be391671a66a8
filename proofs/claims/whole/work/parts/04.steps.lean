/-! EACH STEP IS RIGHT -/
section STP
variable {ex : Nat} {mi : Nat → MethodName × ByteArray × Nat × Option FieldType} {own : String} {cc : ByteArray} {nL : Nat} {ret : Option FieldType} {pc nx : Nat}
theorem so_iconst {n : Int} {v : Int32} (hd : decode cc pc = .ok (.iconst n, 1)) (hv : Int32.ofInt n = v) (hn : nx = pc + 1) : SO mi ex own cc nL ret pc nx (o_const v) := by
  intro p l e R s m args below meth c Qm b0 ad cA D sh cells slots d C Q X F RR hC hR ls st mm kn kt h hkn hkt H locs lsA hW hS hL
  subst hn
  exact lv_iconst X.1 X.2.1 hd hv (hkn _ _ _ h H locs lsA hW hS hL)
theorem so_bipush {n : Int} {v : Int32} (hd : decode cc pc = .ok (.bipush n, 2)) (hv : (Int8.ofInt n).toInt32 = v) (hn : nx = pc + 2) : SO mi ex own cc nL ret pc nx (o_const v) := by
  intro p l e R s m args below meth c Qm b0 ad cA D sh cells slots d C Q X F RR hC hR ls st mm kn kt h hkn hkt H locs lsA hW hS hL
  subst hn
  exact lv_bipush X.1 X.2.1 hd hv (hkn _ _ _ h H locs lsA hW hS hL)
theorem so_sipush {n : Int} {v : Int32} (hd : decode cc pc = .ok (.sipush n, 3)) (hv : (Int16.ofInt n).toInt32 = v) (hn : nx = pc + 3) : SO mi ex own cc nL ret pc nx (o_const v) := by
  intro p l e R s m args below meth c Qm b0 ad cA D sh cells slots d C Q X F RR hC hR ls st mm kn kt h hkn hkt H locs lsA hW hS hL
  subst hn
  exact lv_sipush X.1 X.2.1 hd hv (hkn _ _ _ h H locs lsA hW hS hL)
theorem so_ldc {ix : Nat} {v : Int32} (hw : Cond.constant own ix v ∈ tT) (hd : decode cc pc = .ok (.ldc ix, 2)) (hn : nx = pc + 2) : SO mi ex own cc nL ret pc nx (o_const v) := by
  intro p l e R s m args below meth c Qm b0 ad cA D sh cells slots d C Q X F RR hC hR ls st mm kn kt h hkn hkt H locs lsA hW hS hL
  subst hn
  exact lv_ldc X.1 X.2.1 X.2.2.2.1 (X.2.2.2.2 _ hw) hd (hkn _ _ _ h H locs lsA hW hS hL)
theorem so_ldcw {ix : Nat} {v : Int32} (hw : Cond.constant own ix v ∈ tT) (hd : decode cc pc = .ok (.ldc_w ix, 3)) (hn : nx = pc + 3) : SO mi ex own cc nL ret pc nx (o_const v) := by
  intro p l e R s m args below meth c Qm b0 ad cA D sh cells slots d C Q X F RR hC hR ls st mm kn kt h hkn hkt H locs lsA hW hS hL
  subst hn
  exact lv_ldcw X.1 X.2.1 X.2.2.2.1 (X.2.2.2.2 _ hw) hd (hkn _ _ _ h H locs lsA hW hS hL)
theorem so_ldc2 {ix : Nat} {v : Int64} (hw : Cond.constantLong own ix v ∈ tT) (hd : decode cc pc = .ok (.ldc2_w ix, 3)) (hn : nx = pc + 3) : SO mi ex own cc nL ret pc nx (o_lconst v) := by
  intro p l e R s m args below meth c Qm b0 ad cA D sh cells slots d C Q X F RR hC hR ls st mm kn kt h hkn hkt H locs lsA hW hS hL
  subst hn
  exact lv_ldc2 X.1 X.2.1 X.2.2.2.1 (X.2.2.2.2 _ hw) hd (hkn _ _ _ h H locs lsA hW hS hL)
theorem so_lconst {n : Fin 2} {v : Int64} (hd : decode cc pc = .ok (.lconst n, 1)) (hv : Int64.ofNat (n : Nat) = v) (hn : nx = pc + 1) : SO mi ex own cc nL ret pc nx (o_lconst v) := by
  intro p l e R s m args below meth c Qm b0 ad cA D sh cells slots d C Q X F RR hC hR ls st mm kn kt h hkn hkt H locs lsA hW hS hL
  subst hn
  exact lv_lconst X.1 X.2.1 hd hv (hkn _ _ _ h H locs lsA hW hS hL)
theorem so_iload_n {k : Fin 4} {i : Nat} (hd : decode cc pc = .ok (.iload_n k, 1)) (hk : (k : Nat) = i) (hn : nx = pc + 1) : SO mi ex own cc nL ret pc nx (o_iload i) := by
  intro p l e R s m args below meth c Qm b0 ad cA D sh cells slots d C Q X F RR hC hR ls st mm kn kt h hkn hkt H locs lsA hW hS hL
  subst hn
  unfold o_iload at h
  split at h
  next x e => exact lv_iload_n X.1 X.2.1 hd hk (hL.at1 e) (hkn _ _ _ h H locs lsA hW hS hL)
  next => exact h.elim
theorem so_iload {i : Nat} (hd : decode cc pc = .ok (.iload i, 2)) (hn : nx = pc + 2) : SO mi ex own cc nL ret pc nx (o_iload i) := by
  intro p l e R s m args below meth c Qm b0 ad cA D sh cells slots d C Q X F RR hC hR ls st mm kn kt h hkn hkt H locs lsA hW hS hL
  subst hn
  unfold o_iload at h
  split at h
  next x e => exact lv_iload X.1 X.2.1 hd (hL.at1 e) (hkn _ _ _ h H locs lsA hW hS hL)
  next => exact h.elim
theorem so_lload_n {k : Fin 4} {i : Nat} (hd : decode cc pc = .ok (.lload_n k, 1)) (hk : (k : Nat) = i) (hn : nx = pc + 1) : SO mi ex own cc nL ret pc nx (o_lload i) := by
  intro p l e R s m args below meth c Qm b0 ad cA D sh cells slots d C Q X F RR hC hR ls st mm kn kt h hkn hkt H locs lsA hW hS hL
  subst hn
  unfold o_lload at h
  split at h
  next x e => exact lv_lload_n X.1 X.2.1 hd hk (hL.at1 e) (hkn _ _ _ h H locs lsA hW hS hL)
  next => exact h.elim
theorem so_lload {i : Nat} (hd : decode cc pc = .ok (.lload i, 2)) (hn : nx = pc + 2) : SO mi ex own cc nL ret pc nx (o_lload i) := by
  intro p l e R s m args below meth c Qm b0 ad cA D sh cells slots d C Q X F RR hC hR ls st mm kn kt h hkn hkt H locs lsA hW hS hL
  subst hn
  unfold o_lload at h
  split at h
  next x e => exact lv_lload X.1 X.2.1 hd (hL.at1 e) (hkn _ _ _ h H locs lsA hW hS hL)
  next => exact h.elim
theorem so_istore_n {k : Fin 4} {i : Nat} (hd : decode cc pc = .ok (.istore_n k, 1)) (hk : (k : Nat) = i) (hi : i < nL) (hn : nx = pc + 1) : SO mi ex own cc nL ret pc nx (o_istore i) := by
  intro p l e R s m args below meth c Qm b0 ad cA D sh cells slots d C Q X F RR hC hR ls st mm kn kt h hkn hkt H locs lsA hW hS hL
  subst hn
  unfold o_istore at h
  split at h
  next x r =>
    split at h
    next e => exact lv_istore_n X.1 X.2.1 hd hk hL.has hi rfl (fun ls' hl' => hkn _ _ _ h H locs ls' hW hS (LH.set1 (v := .int x) e hl'))
    next => exact h.elim
  next => exact h.elim
theorem so_istore {i : Nat} (hd : decode cc pc = .ok (.istore i, 2)) (hi : i < nL) (hn : nx = pc + 2) : SO mi ex own cc nL ret pc nx (o_istore i) := by
  intro p l e R s m args below meth c Qm b0 ad cA D sh cells slots d C Q X F RR hC hR ls st mm kn kt h hkn hkt H locs lsA hW hS hL
  subst hn
  unfold o_istore at h
  split at h
  next x r =>
    split at h
    next e => exact lv_istore X.1 X.2.1 hd hL.has hi rfl (fun ls' hl' => hkn _ _ _ h H locs ls' hW hS (LH.set1 (v := .int x) e hl'))
    next => exact h.elim
  next => exact h.elim
theorem so_lstore {i : Nat} (hd : decode cc pc = .ok (.lstore i, 2)) (hi : i + 1 < nL) (hn : nx = pc + 2) : SO mi ex own cc nL ret pc nx (o_lstore i) := by
  intro p l e R s m args below meth c Qm b0 ad cA D sh cells slots d C Q X F RR hC hR ls st mm kn kt h hkn hkt H locs lsA hW hS hL
  subst hn
  unfold o_lstore at h
  split at h
  next x r =>
    split at h
    next e => exact lv_lstore X.1 X.2.1 hd hL.has hi rfl (fun ls' hl' => hkn _ _ _ h H locs ls' hW hS (LH.set2 (v := .long x) e hl'))
    next => exact h.elim
  next => exact h.elim
theorem so_iinc {i : Nat} {n : Int} {v : Int32} (hd : decode cc pc = .ok (.iinc i n, 3)) (hv : Int32.ofInt n = v) (hi : i < nL) (hn : nx = pc + 3) : SO mi ex own cc nL ret pc nx (o_iinc i v) := by
  intro p l e R s m args below meth c Qm b0 ad cA D sh cells slots d C Q X F RR hC hR ls st mm kn kt h hkn hkt H locs lsA hW hS hL
  subst hn
  subst hv
  unfold o_iinc at h
  split at h
  next x e1 =>
    split at h
    next e =>
      obtain ⟨k, hk⟩ := List.getElem?_of_mem ((ent_mem (ad := ad) (q := (i, .int x))).mpr ⟨.int x, e1, rfl⟩)
      exact lv_iinc X.1 X.2.1 hd hL.has hk rfl hi rfl (fun ls' hl' => hkn _ _ _ h H locs ls' hW hS (LH.set1 (v := .int (x + Int32.ofInt n)) e hl'))
    next => exact h.elim
  next => exact h.elim
theorem so_iadd (hd : decode cc pc = .ok (.iadd, 1)) (hn : nx = pc + 1) : SO mi ex own cc nL ret pc nx (o_ii (fun x y => x + y)) := by
  intro p l e R s m args below meth c Qm b0 ad cA D sh cells slots d C Q X F RR hC hR ls st mm kn kt h hkn hkt H locs lsA hW hS hL
  subst hn
  unfold o_ii at h
  split at h
  next => exact lv_iadd X.1 X.2.1 hd (hkn _ _ _ h H locs lsA hW hS hL)
  next => exact h.elim
theorem so_isub (hd : decode cc pc = .ok (.isub, 1)) (hn : nx = pc + 1) : SO mi ex own cc nL ret pc nx (o_ii (fun x y => x - y)) := by
  intro p l e R s m args below meth c Qm b0 ad cA D sh cells slots d C Q X F RR hC hR ls st mm kn kt h hkn hkt H locs lsA hW hS hL
  subst hn
  unfold o_ii at h
  split at h
  next => exact lv_isub X.1 X.2.1 hd (hkn _ _ _ h H locs lsA hW hS hL)
  next => exact h.elim
theorem so_imul (hd : decode cc pc = .ok (.imul, 1)) (hn : nx = pc + 1) : SO mi ex own cc nL ret pc nx (o_ii (fun x y => x * y)) := by
  intro p l e R s m args below meth c Qm b0 ad cA D sh cells slots d C Q X F RR hC hR ls st mm kn kt h hkn hkt H locs lsA hW hS hL
  subst hn
  unfold o_ii at h
  split at h
  next => exact lv_imul X.1 X.2.1 hd (hkn _ _ _ h H locs lsA hW hS hL)
  next => exact h.elim
theorem so_iand (hd : decode cc pc = .ok (.iand, 1)) (hn : nx = pc + 1) : SO mi ex own cc nL ret pc nx (o_ii (fun x y => x &&& y)) := by
  intro p l e R s m args below meth c Qm b0 ad cA D sh cells slots d C Q X F RR hC hR ls st mm kn kt h hkn hkt H locs lsA hW hS hL
  subst hn
  unfold o_ii at h
  split at h
  next => exact lv_iand X.1 X.2.1 hd (hkn _ _ _ h H locs lsA hW hS hL)
  next => exact h.elim
theorem so_ior (hd : decode cc pc = .ok (.ior, 1)) (hn : nx = pc + 1) : SO mi ex own cc nL ret pc nx (o_ii (fun x y => x ||| y)) := by
  intro p l e R s m args below meth c Qm b0 ad cA D sh cells slots d C Q X F RR hC hR ls st mm kn kt h hkn hkt H locs lsA hW hS hL
  subst hn
  unfold o_ii at h
  split at h
  next => exact lv_ior X.1 X.2.1 hd (hkn _ _ _ h H locs lsA hW hS hL)
  next => exact h.elim
theorem so_ixor (hd : decode cc pc = .ok (.ixor, 1)) (hn : nx = pc + 1) : SO mi ex own cc nL ret pc nx (o_ii (fun x y => x ^^^ y)) := by
  intro p l e R s m args below meth c Qm b0 ad cA D sh cells slots d C Q X F RR hC hR ls st mm kn kt h hkn hkt H locs lsA hW hS hL
  subst hn
  unfold o_ii at h
  split at h
  next => exact lv_ixor X.1 X.2.1 hd (hkn _ _ _ h H locs lsA hW hS hL)
  next => exact h.elim
theorem so_ishl (hd : decode cc pc = .ok (.ishl, 1)) (hn : nx = pc + 1) : SO mi ex own cc nL ret pc nx (o_ii (fun x y => x <<< (y &&& 31))) := by
  intro p l e R s m args below meth c Qm b0 ad cA D sh cells slots d C Q X F RR hC hR ls st mm kn kt h hkn hkt H locs lsA hW hS hL
  subst hn
  unfold o_ii at h
  split at h
  next => exact lv_ishl X.1 X.2.1 hd (hkn _ _ _ h H locs lsA hW hS hL)
  next => exact h.elim
theorem so_ishr (hd : decode cc pc = .ok (.ishr, 1)) (hn : nx = pc + 1) : SO mi ex own cc nL ret pc nx (o_ii (fun x y => x >>> (y &&& 31))) := by
  intro p l e R s m args below meth c Qm b0 ad cA D sh cells slots d C Q X F RR hC hR ls st mm kn kt h hkn hkt H locs lsA hW hS hL
  subst hn
  unfold o_ii at h
  split at h
  next => exact lv_ishr X.1 X.2.1 hd (hkn _ _ _ h H locs lsA hW hS hL)
  next => exact h.elim
theorem so_iushr (hd : decode cc pc = .ok (.iushr, 1)) (hn : nx = pc + 1) : SO mi ex own cc nL ret pc nx (o_ii (fun x y => (x.toUInt32 >>> (y.toUInt32 &&& Int32.toUInt32 31)).toInt32)) := by
  intro p l e R s m args below meth c Qm b0 ad cA D sh cells slots d C Q X F RR hC hR ls st mm kn kt h hkn hkt H locs lsA hW hS hL
  subst hn
  unfold o_ii at h
  split at h
  next => exact lv_iushr X.1 X.2.1 hd rfl (hkn _ _ _ h H locs lsA hW hS hL)
  next => exact h.elim
theorem so_idiv (hd : decode cc pc = .ok (.idiv, 1)) (hn : nx = pc + 1) : SO mi ex own cc nL ret pc nx (o_iz (fun x y => x / y)) := by
  intro p l e R s m args below meth c Qm b0 ad cA D sh cells slots d C Q X F RR hC hR ls st mm kn kt h hkn hkt H locs lsA hW hS hL
  subst hn
  unfold o_iz at h
  split at h
  next => exact lv_idiv X.1 X.2.1 hd h.1 (hkn _ _ _ h.2 H locs lsA hW hS hL)
  next => exact h.elim
theorem so_irem (hd : decode cc pc = .ok (.irem, 1)) (hn : nx = pc + 1) : SO mi ex own cc nL ret pc nx (o_iz (fun x y => x - x / y * y)) := by
  intro p l e R s m args below meth c Qm b0 ad cA D sh cells slots d C Q X F RR hC hR ls st mm kn kt h hkn hkt H locs lsA hW hS hL
  subst hn
  unfold o_iz at h
  split at h
  next => exact lv_irem X.1 X.2.1 hd h.1 (hkn _ _ _ h.2 H locs lsA hW hS hL)
  next => exact h.elim
theorem so_ineg (hd : decode cc pc = .ok (.ineg, 1)) (hn : nx = pc + 1) : SO mi ex own cc nL ret pc nx (o_i1 (fun x => -x)) := by
  intro p l e R s m args below meth c Qm b0 ad cA D sh cells slots d C Q X F RR hC hR ls st mm kn kt h hkn hkt H locs lsA hW hS hL
  subst hn
  unfold o_i1 at h
  split at h
  next => exact lv_ineg X.1 X.2.1 hd (hkn _ _ _ h H locs lsA hW hS hL)
  next => exact h.elim
theorem so_i2b (hd : decode cc pc = .ok (.i2b, 1)) (hn : nx = pc + 1) : SO mi ex own cc nL ret pc nx (o_i1 (fun x => x.toInt8.toInt32)) := by
  intro p l e R s m args below meth c Qm b0 ad cA D sh cells slots d C Q X F RR hC hR ls st mm kn kt h hkn hkt H locs lsA hW hS hL
  subst hn
  unfold o_i1 at h
  split at h
  next => exact lv_i2b X.1 X.2.1 hd rfl (hkn _ _ _ h H locs lsA hW hS hL)
  next => exact h.elim
theorem so_i2s (hd : decode cc pc = .ok (.i2s, 1)) (hn : nx = pc + 1) : SO mi ex own cc nL ret pc nx (o_i1 (fun x => x.toInt16.toInt32)) := by
  intro p l e R s m args below meth c Qm b0 ad cA D sh cells slots d C Q X F RR hC hR ls st mm kn kt h hkn hkt H locs lsA hW hS hL
  subst hn
  unfold o_i1 at h
  split at h
  next => exact lv_i2s X.1 X.2.1 hd rfl (hkn _ _ _ h H locs lsA hW hS hL)
  next => exact h.elim
theorem so_i2c (hd : decode cc pc = .ok (.i2c, 1)) (hn : nx = pc + 1) : SO mi ex own cc nL ret pc nx (o_i1 (fun x => (x.toUInt32 % 65536).toInt32)) := by
  intro p l e R s m args below meth c Qm b0 ad cA D sh cells slots d C Q X F RR hC hR ls st mm kn kt h hkn hkt H locs lsA hW hS hL
  subst hn
  unfold o_i1 at h
  split at h
  next => exact lv_i2c X.1 X.2.1 hd rfl (hkn _ _ _ h H locs lsA hW hS hL)
  next => exact h.elim
theorem so_ladd (hd : decode cc pc = .ok (.ladd, 1)) (hn : nx = pc + 1) : SO mi ex own cc nL ret pc nx (o_ll (fun x y => x + y)) := by
  intro p l e R s m args below meth c Qm b0 ad cA D sh cells slots d C Q X F RR hC hR ls st mm kn kt h hkn hkt H locs lsA hW hS hL
  subst hn
  unfold o_ll at h
  split at h
  next => exact lv_ladd X.1 X.2.1 hd (hkn _ _ _ h H locs lsA hW hS hL)
  next => exact h.elim
theorem so_lsub (hd : decode cc pc = .ok (.lsub, 1)) (hn : nx = pc + 1) : SO mi ex own cc nL ret pc nx (o_ll (fun x y => x - y)) := by
  intro p l e R s m args below meth c Qm b0 ad cA D sh cells slots d C Q X F RR hC hR ls st mm kn kt h hkn hkt H locs lsA hW hS hL
  subst hn
  unfold o_ll at h
  split at h
  next => exact lv_lsub X.1 X.2.1 hd (hkn _ _ _ h H locs lsA hW hS hL)
  next => exact h.elim
theorem so_lmul (hd : decode cc pc = .ok (.lmul, 1)) (hn : nx = pc + 1) : SO mi ex own cc nL ret pc nx (o_ll (fun x y => x * y)) := by
  intro p l e R s m args below meth c Qm b0 ad cA D sh cells slots d C Q X F RR hC hR ls st mm kn kt h hkn hkt H locs lsA hW hS hL
  subst hn
  unfold o_ll at h
  split at h
  next => exact lv_lmul X.1 X.2.1 hd (hkn _ _ _ h H locs lsA hW hS hL)
  next => exact h.elim
theorem so_ldiv (hd : decode cc pc = .ok (.ldiv, 1)) (hn : nx = pc + 1) : SO mi ex own cc nL ret pc nx (o_lz (fun x y => x / y)) := by
  intro p l e R s m args below meth c Qm b0 ad cA D sh cells slots d C Q X F RR hC hR ls st mm kn kt h hkn hkt H locs lsA hW hS hL
  subst hn
  unfold o_lz at h
  split at h
  next => exact lv_ldiv X.1 X.2.1 hd h.1 (hkn _ _ _ h.2 H locs lsA hW hS hL)
  next => exact h.elim
theorem so_lrem (hd : decode cc pc = .ok (.lrem, 1)) (hn : nx = pc + 1) : SO mi ex own cc nL ret pc nx (o_lz (fun x y => x - x / y * y)) := by
  intro p l e R s m args below meth c Qm b0 ad cA D sh cells slots d C Q X F RR hC hR ls st mm kn kt h hkn hkt H locs lsA hW hS hL
  subst hn
  unfold o_lz at h
  split at h
  next => exact lv_lrem X.1 X.2.1 hd h.1 (hkn _ _ _ h.2 H locs lsA hW hS hL)
  next => exact h.elim
theorem so_i2l (hd : decode cc pc = .ok (.i2l, 1)) (hn : nx = pc + 1) : SO mi ex own cc nL ret pc nx o_i2l := by
  intro p l e R s m args below meth c Qm b0 ad cA D sh cells slots d C Q X F RR hC hR ls st mm kn kt h hkn hkt H locs lsA hW hS hL
  subst hn
  unfold o_i2l at h
  split at h
  next => exact lv_i2l X.1 X.2.1 hd rfl (hkn _ _ _ h H locs lsA hW hS hL)
  next => exact h.elim
theorem so_l2i (hd : decode cc pc = .ok (.l2i, 1)) (hn : nx = pc + 1) : SO mi ex own cc nL ret pc nx o_l2i := by
  intro p l e R s m args below meth c Qm b0 ad cA D sh cells slots d C Q X F RR hC hR ls st mm kn kt h hkn hkt H locs lsA hW hS hL
  subst hn
  unfold o_l2i at h
  split at h
  next => exact lv_l2i X.1 X.2.1 hd rfl (hkn _ _ _ h H locs lsA hW hS hL)
  next => exact h.elim
theorem so_lcmp (hd : decode cc pc = .ok (.lcmp, 1)) (hn : nx = pc + 1) : SO mi ex own cc nL ret pc nx o_lcmp := by
  intro p l e R s m args below meth c Qm b0 ad cA D sh cells slots d C Q X F RR hC hR ls st mm kn kt h hkn hkt H locs lsA hW hS hL
  subst hn
  unfold o_lcmp at h
  split at h
  next => exact W.lcmp X.1 X.2.1 hd (hkn _ _ _ h H locs lsA hW hS hL)
  next => exact h.elim
theorem so_null (hd : decode cc pc = .ok (.aconst_null, 1)) (hn : nx = pc + 1) : SO mi ex own cc nL ret pc nx o_null := by
  intro p l e R s m args below meth c Qm b0 ad cA D sh cells slots d C Q X F RR hC hR ls st mm kn kt h hkn hkt H locs lsA hW hS hL
  subst hn
  exact lv_null X.1 X.2.1 hd (hkn _ _ _ h H locs lsA hW hS hL)
theorem so_dup (hd : decode cc pc = .ok (.dup, 1)) (hn : nx = pc + 1) : SO mi ex own cc nL ret pc nx o_dup := by
  intro p l e R s m args below meth c Qm b0 ad cA D sh cells slots d C Q X F RR hC hR ls st mm kn kt h hkn hkt H locs lsA hW hS hL
  subst hn
  unfold o_dup at h
  split at h
  next => exact lv_dup X.1 X.2.1 hd rfl (hkn _ _ _ h H locs lsA hW hS hL)
  next => exact lv_dup X.1 X.2.1 hd rfl (hkn _ _ _ h H locs lsA hW hS hL)
  next => exact h.elim
theorem so_pop (hd : decode cc pc = .ok (.pop, 1)) (hn : nx = pc + 1) : SO mi ex own cc nL ret pc nx o_pop := by
  intro p l e R s m args below meth c Qm b0 ad cA D sh cells slots d C Q X F RR hC hR ls st mm kn kt h hkn hkt H locs lsA hW hS hL
  subst hn
  unfold o_pop at h
  split at h
  next => exact lv_pop X.1 X.2.1 hd rfl (hkn _ _ _ h H locs lsA hW hS hL)
  next => exact lv_pop X.1 X.2.1 hd rfl (hkn _ _ _ h H locs lsA hW hS hL)
  next => exact h.elim
theorem so_goto {off : Int} {t : Nat} (hd : decode cc pc = .ok (.goto off, 3)) (ht : (pc : Int) + off = (t : Int)) : SO mi ex own cc nL ret pc nx (o_goto t) := by
  intro p l e R s m args below meth c Qm b0 ad cA D sh cells slots d C Q X F RR hC hR ls st mm kn kt h hkn hkt H locs lsA hW hS hL
  exact lv_goto X.1 X.2.1 hd ht (hkt _ _ _ _ h H locs lsA hW hS hL)
theorem so_if_eq {off : Int} {t : Nat} (hd : decode cc pc = .ok (.ifCond .eq off, 3)) (ht : (pc : Int) + off = (t : Int)) (hn : nx = pc + 3) : SO mi ex own cc nL ret pc nx (o_if (fun x => x = 0) t) := by
  intro p l e R s m args below meth c Qm b0 ad cA D sh cells slots d C Q X F RR hC hR ls st mm kn kt h hkn hkt H locs lsA hW hS hL
  subst hn
  unfold o_if at h
  split at h
  next => exact lv_if_eq X.1 X.2.1 hd ht (fun z => hkt _ _ _ _ (h.1 z) H locs lsA hW hS hL) (fun z => hkn _ _ _ (h.2 z) H locs lsA hW hS hL)
  next => exact h.elim
theorem so_if_ne {off : Int} {t : Nat} (hd : decode cc pc = .ok (.ifCond .ne off, 3)) (ht : (pc : Int) + off = (t : Int)) (hn : nx = pc + 3) : SO mi ex own cc nL ret pc nx (o_if (fun x => ¬ x = 0) t) := by
  intro p l e R s m args below meth c Qm b0 ad cA D sh cells slots d C Q X F RR hC hR ls st mm kn kt h hkn hkt H locs lsA hW hS hL
  subst hn
  unfold o_if at h
  split at h
  next => exact lv_if_ne X.1 X.2.1 hd ht (fun z => hkt _ _ _ _ (h.1 z) H locs lsA hW hS hL) (fun z => hkn _ _ _ (h.2 (fun q => q z)) H locs lsA hW hS hL)
  next => exact h.elim
theorem so_if_lt {off : Int} {t : Nat} (hd : decode cc pc = .ok (.ifCond .lt off, 3)) (ht : (pc : Int) + off = (t : Int)) (hn : nx = pc + 3) : SO mi ex own cc nL ret pc nx (o_if (fun x => x < 0) t) := by
  intro p l e R s m args below meth c Qm b0 ad cA D sh cells slots d C Q X F RR hC hR ls st mm kn kt h hkn hkt H locs lsA hW hS hL
  subst hn
  unfold o_if at h
  split at h
  next => exact lv_if_lt X.1 X.2.1 hd ht (fun z => hkt _ _ _ _ (h.1 z) H locs lsA hW hS hL) (fun z => hkn _ _ _ (h.2 z) H locs lsA hW hS hL)
  next => exact h.elim
theorem so_if_ge {off : Int} {t : Nat} (hd : decode cc pc = .ok (.ifCond .ge off, 3)) (ht : (pc : Int) + off = (t : Int)) (hn : nx = pc + 3) : SO mi ex own cc nL ret pc nx (o_if (fun x => 0 ≤ x) t) := by
  intro p l e R s m args below meth c Qm b0 ad cA D sh cells slots d C Q X F RR hC hR ls st mm kn kt h hkn hkt H locs lsA hW hS hL
  subst hn
  unfold o_if at h
  split at h
  next => exact lv_if_ge X.1 X.2.1 hd ht (fun z => hkt _ _ _ _ (h.1 z) H locs lsA hW hS hL) (fun z => hkn _ _ _ (h.2 z) H locs lsA hW hS hL)
  next => exact h.elim
theorem so_if_gt {off : Int} {t : Nat} (hd : decode cc pc = .ok (.ifCond .gt off, 3)) (ht : (pc : Int) + off = (t : Int)) (hn : nx = pc + 3) : SO mi ex own cc nL ret pc nx (o_if (fun x => 0 < x) t) := by
  intro p l e R s m args below meth c Qm b0 ad cA D sh cells slots d C Q X F RR hC hR ls st mm kn kt h hkn hkt H locs lsA hW hS hL
  subst hn
  unfold o_if at h
  split at h
  next => exact lv_if_gt X.1 X.2.1 hd ht (fun z => hkt _ _ _ _ (h.1 z) H locs lsA hW hS hL) (fun z => hkn _ _ _ (h.2 z) H locs lsA hW hS hL)
  next => exact h.elim
theorem so_if_le {off : Int} {t : Nat} (hd : decode cc pc = .ok (.ifCond .le off, 3)) (ht : (pc : Int) + off = (t : Int)) (hn : nx = pc + 3) : SO mi ex own cc nL ret pc nx (o_if (fun x => x ≤ 0) t) := by
  intro p l e R s m args below meth c Qm b0 ad cA D sh cells slots d C Q X F RR hC hR ls st mm kn kt h hkn hkt H locs lsA hW hS hL
  subst hn
  unfold o_if at h
  split at h
  next => exact lv_if_le X.1 X.2.1 hd ht (fun z => hkt _ _ _ _ (h.1 z) H locs lsA hW hS hL) (fun z => hkn _ _ _ (h.2 z) H locs lsA hW hS hL)
  next => exact h.elim
theorem so_icmp_eq {off : Int} {t : Nat} (hd : decode cc pc = .ok (.if_icmp .eq off, 3)) (ht : (pc : Int) + off = (t : Int)) (hn : nx = pc + 3) : SO mi ex own cc nL ret pc nx (o_if2 (fun x y => x = y) t) := by
  intro p l e R s m args below meth c Qm b0 ad cA D sh cells slots d C Q X F RR hC hR ls st mm kn kt h hkn hkt H locs lsA hW hS hL
  subst hn
  unfold o_if2 at h
  split at h
  next => exact lv_icmp_eq X.1 X.2.1 hd ht (fun z => hkt _ _ _ _ (h.1 z) H locs lsA hW hS hL) (fun z => hkn _ _ _ (h.2 z) H locs lsA hW hS hL)
  next => exact h.elim
theorem so_icmp_ne {off : Int} {t : Nat} (hd : decode cc pc = .ok (.if_icmp .ne off, 3)) (ht : (pc : Int) + off = (t : Int)) (hn : nx = pc + 3) : SO mi ex own cc nL ret pc nx (o_if2 (fun x y => ¬ x = y) t) := by
  intro p l e R s m args below meth c Qm b0 ad cA D sh cells slots d C Q X F RR hC hR ls st mm kn kt h hkn hkt H locs lsA hW hS hL
  subst hn
  unfold o_if2 at h
  split at h
  next => exact lv_icmp_ne X.1 X.2.1 hd ht (fun z => hkt _ _ _ _ (h.1 z) H locs lsA hW hS hL) (fun z => hkn _ _ _ (h.2 (fun q => q z)) H locs lsA hW hS hL)
  next => exact h.elim
theorem so_icmp_lt {off : Int} {t : Nat} (hd : decode cc pc = .ok (.if_icmp .lt off, 3)) (ht : (pc : Int) + off = (t : Int)) (hn : nx = pc + 3) : SO mi ex own cc nL ret pc nx (o_if2 (fun x y => x < y) t) := by
  intro p l e R s m args below meth c Qm b0 ad cA D sh cells slots d C Q X F RR hC hR ls st mm kn kt h hkn hkt H locs lsA hW hS hL
  subst hn
  unfold o_if2 at h
  split at h
  next => exact lv_icmp_lt X.1 X.2.1 hd ht (fun z => hkt _ _ _ _ (h.1 z) H locs lsA hW hS hL) (fun z => hkn _ _ _ (h.2 z) H locs lsA hW hS hL)
  next => exact h.elim
theorem so_icmp_ge {off : Int} {t : Nat} (hd : decode cc pc = .ok (.if_icmp .ge off, 3)) (ht : (pc : Int) + off = (t : Int)) (hn : nx = pc + 3) : SO mi ex own cc nL ret pc nx (o_if2 (fun x y => y ≤ x) t) := by
  intro p l e R s m args below meth c Qm b0 ad cA D sh cells slots d C Q X F RR hC hR ls st mm kn kt h hkn hkt H locs lsA hW hS hL
  subst hn
  unfold o_if2 at h
  split at h
  next => exact lv_icmp_ge X.1 X.2.1 hd ht (fun z => hkt _ _ _ _ (h.1 z) H locs lsA hW hS hL) (fun z => hkn _ _ _ (h.2 z) H locs lsA hW hS hL)
  next => exact h.elim
theorem so_icmp_gt {off : Int} {t : Nat} (hd : decode cc pc = .ok (.if_icmp .gt off, 3)) (ht : (pc : Int) + off = (t : Int)) (hn : nx = pc + 3) : SO mi ex own cc nL ret pc nx (o_if2 (fun x y => y < x) t) := by
  intro p l e R s m args below meth c Qm b0 ad cA D sh cells slots d C Q X F RR hC hR ls st mm kn kt h hkn hkt H locs lsA hW hS hL
  subst hn
  unfold o_if2 at h
  split at h
  next => exact lv_icmp_gt X.1 X.2.1 hd ht (fun z => hkt _ _ _ _ (h.1 z) H locs lsA hW hS hL) (fun z => hkn _ _ _ (h.2 z) H locs lsA hW hS hL)
  next => exact h.elim
theorem so_icmp_le {off : Int} {t : Nat} (hd : decode cc pc = .ok (.if_icmp .le off, 3)) (ht : (pc : Int) + off = (t : Int)) (hn : nx = pc + 3) : SO mi ex own cc nL ret pc nx (o_if2 (fun x y => x ≤ y) t) := by
  intro p l e R s m args below meth c Qm b0 ad cA D sh cells slots d C Q X F RR hC hR ls st mm kn kt h hkn hkt H locs lsA hW hS hL
  subst hn
  unfold o_if2 at h
  split at h
  next => exact lv_icmp_le X.1 X.2.1 hd ht (fun z => hkt _ _ _ _ (h.1 z) H locs lsA hW hS hL) (fun z => hkn _ _ _ (h.2 z) H locs lsA hW hS hL)
  next => exact h.elim
theorem so_ifnull {off : Int} {t : Nat} (hd : decode cc pc = .ok (.ifnull off, 3)) (ht : (pc : Int) + off = (t : Int)) (hn : nx = pc + 3) : SO mi ex own cc nL ret pc nx (o_ifnull t) := by
  intro p l e R s m args below meth c Qm b0 ad cA D sh cells slots d C Q X F RR hC hR ls st mm kn kt h hkn hkt H locs lsA hW hS hL
  subst hn
  unfold o_ifnull at h
  split at h
  next => exact lv_ifnull X.1 X.2.1 hd (hkn _ _ _ h H locs lsA hW hS hL)
  next => exact lv_ifnullN X.1 X.2.1 hd ht (hkt _ _ _ _ h H locs lsA hW hS hL)
  next => exact h.elim
theorem so_ifnonnull {off : Int} {t : Nat} (hd : decode cc pc = .ok (.ifnonnull off, 3)) (ht : (pc : Int) + off = (t : Int)) (hn : nx = pc + 3) : SO mi ex own cc nL ret pc nx (o_ifnonnull t) := by
  intro p l e R s m args below meth c Qm b0 ad cA D sh cells slots d C Q X F RR hC hR ls st mm kn kt h hkn hkt H locs lsA hW hS hL
  subst hn
  unfold o_ifnonnull at h
  split at h
  next => exact lv_ifnonnull X.1 X.2.1 hd ht (hkt _ _ _ _ h H locs lsA hW hS hL)
  next => exact lv_ifnonnullN X.1 X.2.1 hd (hkn _ _ _ h H locs lsA hW hS hL)
  next => exact h.elim
theorem so_aload {i : Nat} (hd : decode cc pc = .ok (.aload i, 2)) (hn : nx = pc + 2) : SO mi ex own cc nL ret pc nx (o_aload i) := by
  intro p l e R s m args below meth c Qm b0 ad cA D sh cells slots d C Q X F RR hC hR ls st mm kn kt h hkn hkt H locs lsA hW hS hL
  subst hn
  unfold o_aload at h
  split at h
  next x e1 => exact lv_aload X.1 X.2.1 hd (hL.at1 e1) (hkn _ _ _ h H locs lsA hW hS hL)
  next e1 => exact lv_aloadN X.1 X.2.1 hd (hL.at1 e1) (hkn _ _ _ h H locs lsA hW hS hL)
  next => exact h.elim
theorem so_aload_n {k : Fin 4} {i : Nat} (hd : decode cc pc = .ok (.aload_n k, 1)) (hk : (k : Nat) = i) (hn : nx = pc + 1) : SO mi ex own cc nL ret pc nx (o_aload i) := by
  intro p l e R s m args below meth c Qm b0 ad cA D sh cells slots d C Q X F RR hC hR ls st mm kn kt h hkn hkt H locs lsA hW hS hL
  subst hn
  unfold o_aload at h
  split at h
  next x e1 => exact lv_aload_n X.1 X.2.1 hd hk (hL.at1 e1) (hkn _ _ _ h H locs lsA hW hS hL)
  next e1 => exact lv_aload_nN X.1 X.2.1 hd hk (hL.at1 e1) (hkn _ _ _ h H locs lsA hW hS hL)
  next => exact h.elim
theorem so_astore {i : Nat} (hd : decode cc pc = .ok (.astore i, 2)) (hi : i < nL) (hn : nx = pc + 2) : SO mi ex own cc nL ret pc nx (o_astore i) := by
  intro p l e R s m args below meth c Qm b0 ad cA D sh cells slots d C Q X F RR hC hR ls st mm kn kt h hkn hkt H locs lsA hW hS hL
  subst hn
  unfold o_astore at h
  split at h
  next x r =>
    split at h
    next e1 => exact lv_astore X.1 X.2.1 hd hL.has hi rfl (fun ls' hl' => hkn _ _ _ h H locs ls' hW hS (LH.set1 (v := .ref x) e1 hl'))
    next => exact h.elim
  next r =>
    split at h
    next e1 => exact lv_astoreN X.1 X.2.1 hd hL.has hi rfl (fun ls' hl' => hkn _ _ _ h H locs ls' hW hS (LH.set1 (v := .null) e1 hl'))
    next => exact h.elim
  next => exact h.elim
theorem so_astore_n {k : Fin 4} {i : Nat} (hd : decode cc pc = .ok (.astore_n k, 1)) (hk : (k : Nat) = i) (hi : i < nL) (hn : nx = pc + 1) : SO mi ex own cc nL ret pc nx (o_astore i) := by
  intro p l e R s m args below meth c Qm b0 ad cA D sh cells slots d C Q X F RR hC hR ls st mm kn kt h hkn hkt H locs lsA hW hS hL
  subst hn
  unfold o_astore at h
  split at h
  next x r =>
    split at h
    next e1 => exact lv_astore_n X.1 X.2.1 hd hk hL.has hi rfl (fun ls' hl' => hkn _ _ _ h H locs ls' hW hS (LH.set1 (v := .ref x) e1 hl'))
    next => exact h.elim
  next r =>
    split at h
    next e1 => exact lv_astore_nN X.1 X.2.1 hd hk hL.has hi rfl (fun ls' hl' => hkn _ _ _ h H locs ls' hW hS (LH.set1 (v := .null) e1 hl'))
    next => exact h.elim
  next => exact h.elim
end STP
