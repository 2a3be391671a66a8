/-! STEPS ON CELLS, ENDS -/
section STC
variable {ex : Nat} {mi : Nat → MethodName × ByteArray × Nat × Option FieldType} {own : String} {cc : ByteArray} {nL : Nat} {ret : Option FieldType} {pc nx : Nat}
theorem mu_ne {f : Nat → Nat → Int32} {k j a : Nat} {v : Int32} (h : a ≠ k) : mu f k j v a = f a := by simp [mu, h]
theorem mu_eq {f : Nat → Nat → Int32} {k j : Nat} {v : Int32} : mu f k j v k = upd (f k) j v := by simp [mu]; rfl
theorem mul_ne {f : Nat → Nat → Int64} {k j a : Nat} {v : Int64} (h : a ≠ k) : mul f k j v a = f a := by simp [mul, h]
theorem mul_eq {f : Nat → Nat → Int64} {k j : Nat} {v : Int64} : mul f k j v k = vp_updL (f k) j v := by simp [mul]; rfl
theorem rf_rv {ad : Nat → Nat} {rs : List Nat} {j : Nat} : va_rf (rfo ad rs j) = cv ad (rval rs j) := by
  unfold rfo rval
  cases rs[j]? with
  | none => rfl
  | some d =>
    match d with
    | 0 => rfl
    | 1 => rfl
    | 2 => rfl
    | d + 3 => rfl
theorem fds_set {ad : Nat → Nat} {m m' : Mm} {k j d : Nat} {fds : List Nat} {v : Value} (hd : fds[j]? = some d) (hv : cv ad (fval m' k j d) = v) (ho : ∀ i d, i ≠ j → fval m' k i d = fval m k i d) : (fds.mapIdx (fun j d => cv ad (fval m k j d))).set j v = fds.mapIdx (fun j d => cv ad (fval m' k j d)) := by
  apply List.ext_getElem?
  intro i
  have hj : j < fds.length := (List.getElem?_eq_some_iff.mp hd).1
  by_cases hi : i = j
  · subst hi
    rw [List.getElem?_set_self (by simpa using hj), List.getElem?_mapIdx, hd, ← hv]
    rfl
  · rw [List.getElem?_set_ne (Ne.symm hi)]
    simp only [List.getElem?_mapIdx]
    cases fds[i]? with
    | none => rfl
    | some d2 => simp [ho i d2 hi]
theorem fv_mu {m : Mm} {k j : Nat} {v : Int32} : ∀ i d, i ≠ j → fval (mu m.1 k j v, m.2) k i d = fval m k i d := by
  intro i d hi
  match d with
  | 0 => simp [fval, mu, hi]
  | 1 => rfl
  | 2 => rfl
  | d + 3 => rfl
theorem fv_mul {m : Mm} {k j : Nat} {v : Int64} : ∀ i d, i ≠ j → fval (m.1, mul m.2 k j v) k i d = fval m k i d := by
  intro i d hi
  match d with
  | 0 => rfl
  | 1 => simp [fval, mul, hi]
  | 2 => rfl
  | d + 3 => rfl

theorem so_getf {ci j ix N : Nat} {C0 : String} {T : u_T} (hc : vcl[ci]? = some (C0, T, N)) (hj : j < N) (hin : ∀ w ∈ u_ws C0 T N, w ∈ tT) (hw : Cond.fieldLink own ix (T j).1 (T j).2.1 (T j).2.2.1 ∈ tT) (hd : decode cc pc = .ok (.getfield ix, 3)) (hn : nx = pc + 3) : SO mi ex own cc nL ret pc nx (o_getf ci j) := by
  intro p l e R s m args below meth c Qm b0 ad cA D sh cells slots d C Q X F RR hC hR ls st mm kn kt h hkn hkt H locs lsA hW hS hL
  subst hn
  unfold o_getf at h
  split at h
  next k r =>
    split at h
    next c2 fds e1 =>
      split at h
      next e2 =>
        split at h
        next dd e3 =>
          have e4 := Nat.eq_of_beq_eq_true e2
          subst e4
          exact va_get (D := D) (ci := c2) (fs := fds.mapIdx (fun j d => cv ad (fval mm k j d))) X.1 X.2.1 X.2.2.2.2 hin X.2.2.2.1 F.1 hW.1 k (wd_get e1) hc j hj (X.2.2.2.2 _ hw) (fun _ z => z) (by simp [List.getElem?_mapIdx, e3]) hd (hkn _ _ _ h H locs lsA hW hS hL)
        next => exact h.elim
      next => exact h.elim
    next => exact h.elim
  next => exact h.elim

theorem so_puti {ci j ix N : Nat} {C0 : String} {T : u_T} (hc : vcl[ci]? = some (C0, T, N)) (hj : j < N) (hin : ∀ w ∈ u_ws C0 T N, w ∈ tT) (hw : Cond.fieldLink own ix (T j).1 (T j).2.1 (T j).2.2.1 ∈ tT) (ty0 : Nat → FieldType) (hty : ∀ k, k < N → parseFieldDescriptor (T k).2.2.1 = some (ty0 k)) (hnm : ∀ a, a < N → ∀ b, b < N → a ≠ b → (T a).2.1 ≠ (T b).2.1) (hfin : (T j).2.2.2 = false) (hint : parseFieldDescriptor (T j).2.2.1 = some .int) (hd : decode cc pc = .ok (.putfield ix, 3)) (hn : nx = pc + 3) : SO mi ex own cc nL ret pc nx (o_puti ci j) := by
  intro p l e R s m args below meth c Qm b0 ad cA D sh cells slots d C Q X F RR hC hR ls st mm kn kt h hkn hkt H locs lsA hW hS hL
  subst hn
  unfold o_puti at h
  split at h
  next v k r =>
    split at h
    next c2 fds e1 =>
      split at h
      next e2 =>
        split at h
        next e3 =>
          have e4 := Nat.eq_of_beq_eq_true e2
          subst e4
          have hD := wd_D (cA := cA) (m := mm) F.2.1 F.2.2.1
          have he := wd_get (ad := ad) (cA := cA) (m := mm) e1
          have hap := va_apart (own := own) X.2.2.2.2 hin ty0 hty hnm F.1 hc
          obtain ⟨q, h1, cell, q1, q2, q3, q4⟩ := hW.1 k _ he
          have hq : q = (C0, T, N) := Option.some.inj (h1.symm.trans hc)
          subst hq
          obtain ⟨hSl, hfc, kC, hkC, hkind⟩ := F.1.1 c2 _ hc
          obtain ⟨cf, kf, fi, f, hi, hsl⟩ := hSl j hj
          have hlay := X.2.2.2.2 _ (hin _ (u_in_lay hj))
          unfold u_lay at hlay
          rw [if_neg (by rw [hfin]; decide)] at hlay
          have hst := (u_facts hfc hkC (u_lays X.2.2.2.2 hin hj) hi).1
          have h6 := u_store hfc hkC hkind hlay hi hint (v := .int v) rfl rfl
          have hjl : j < (fds.mapIdx (fun j d => cv ad (fval mm k j d))).length := by simpa using (List.getElem?_eq_some_iff.mp e3).1
          refine W.putK X.1 X.2.1 (f := f) ⟨X.2.2.2.1, X.2.2.2.2 _ hw, ⟨_, _, _, hi⟩, hst⟩ (by rw [q2]; exact h6) q1 q3 (by rw [hsl]; exact k2_hasslot (q4 j hj)) rfl rfl hd fun H' f1 f2 f3 => ?_
          rw [hsl] at f1 ⊢
          refine hkn _ _ _ h H' _ lsA ⟨?_, by rw [f2]; exact hW.2.1, fun z => by rw [f2]; exact hW.2.2 z⟩ (hS.put f2 f3 (hD.2 k _ he)) hL
          rw [← wd_set (ad := ad) (cA := cA) (m := mm) (m' := (mu mm.1 k j v, mm.2)) e1 (e := .inr (c2, (fds.mapIdx (fun j d => cv ad (fval mm k j d))).set j (.int v))) (by rw [fds_set (m' := (mu mm.1 k j v, mm.2)) e3 (by simp [fval, mu, cv]) fv_mu]; rfl) (fun a ha => ⟨mu_ne ha, rfl⟩)]
          exact hW.1.set hD he ⟨_, hc, t_OB.to (V := updV (vp_V (fds.mapIdx (fun j d => cv ad (fval mm k j d)))) j (.int v)) ⟨_, f1, q2, q3, t_set q4 hap hj (.int v)⟩ (fun i _ => vp_updV_set hjl (.int v) i)⟩ f3
        next => exact h.elim
      next => exact h.elim
    next => exact h.elim
  next => exact h.elim

theorem so_putz {ci j ix N : Nat} {C0 : String} {T : u_T} (hc : vcl[ci]? = some (C0, T, N)) (hj : j < N) (hin : ∀ w ∈ u_ws C0 T N, w ∈ tT) (hw : Cond.fieldLink own ix (T j).1 (T j).2.1 (T j).2.2.1 ∈ tT) (ty0 : Nat → FieldType) (hty : ∀ k, k < N → parseFieldDescriptor (T k).2.2.1 = some (ty0 k)) (hnm : ∀ a, a < N → ∀ b, b < N → a ≠ b → (T a).2.1 ≠ (T b).2.1) (hfin : (T j).2.2.2 = false) (hint : parseFieldDescriptor (T j).2.2.1 = some .boolean) (hd : decode cc pc = .ok (.putfield ix, 3)) (hn : nx = pc + 3) : SO mi 1 own cc nL ret pc nx (o_putz ci j) := by
  intro p l e R s m args below meth c Qm b0 ad cA D sh cells slots d C Q X F RR hC hR ls st mm kn kt h hkn hkt H locs lsA hW hS hL
  subst hn
  unfold o_putz at h
  split at h
  next v k r =>
    split at h
    next c2 fds e1 =>
      split at h
      next e2 =>
        split at h
        next e3 =>
          have e4 := Nat.eq_of_beq_eq_true e2
          subst e4
          have hD := wd_D (cA := cA) (m := mm) F.2.1 F.2.2.1
          have he := wd_get (ad := ad) (cA := cA) (m := mm) e1
          have hjl : j < (fds.mapIdx (fun j d => cv ad (fval mm k j d))).length := by simpa using (List.getElem?_eq_some_iff.mp e3).1
          have hnz : narrow .boolean (.int v) = .int v := by rcases h.1 with z | z <;> subst z <;> rfl
          have hfz : fits .boolean (.int v) = true := by rcases h.1 with z | z <;> subst z <;> rfl
          refine va_put (D := D) (ci := c2) (v := .int v) (ty := .boolean) X.1 X.2.1 X.2.2.2.2 hin ty0 hty hnm X.2.2.2.1 F.1 hW.1 hD (vS_here hS) k he hc j hj (X.2.2.2.2 _ hw) (fun _ z => z) hfin hint hnz hfz hjl hd (fun H' locs' hP' _ hS' => ?_)
          refine hkn _ _ _ h.2 H' locs' lsA ⟨?_, Nat.le_trans hW.2.1 hS'.1, fun z => absurd z (by decide)⟩ (vS_tr hS hS') hL
          rw [← wd_set (ad := ad) (cA := cA) (m := mm) (m' := (mu mm.1 k j v, mm.2)) e1 (e := .inr (c2, (fds.mapIdx (fun j d => cv ad (fval mm k j d))).set j (.int v))) (by rw [fds_set (m' := (mu mm.1 k j v, mm.2)) e3 (by simp [fval, mu, mul, cv]) fv_mu]; rfl) (fun a ha => ⟨mu_ne ha, rfl⟩)]
          exact hP'
        next => exact h.elim
      next => exact h.elim
    next => exact h.elim
  next => exact h.elim

theorem so_putl {ci j ix N : Nat} {C0 : String} {T : u_T} (hc : vcl[ci]? = some (C0, T, N)) (hj : j < N) (hin : ∀ w ∈ u_ws C0 T N, w ∈ tT) (hw : Cond.fieldLink own ix (T j).1 (T j).2.1 (T j).2.2.1 ∈ tT) (ty0 : Nat → FieldType) (hty : ∀ k, k < N → parseFieldDescriptor (T k).2.2.1 = some (ty0 k)) (hnm : ∀ a, a < N → ∀ b, b < N → a ≠ b → (T a).2.1 ≠ (T b).2.1) (hfin : (T j).2.2.2 = false) (hint : parseFieldDescriptor (T j).2.2.1 = some .long) (hd : decode cc pc = .ok (.putfield ix, 3)) (hn : nx = pc + 3) : SO mi 1 own cc nL ret pc nx (o_putl ci j) := by
  intro p l e R s m args below meth c Qm b0 ad cA D sh cells slots d C Q X F RR hC hR ls st mm kn kt h hkn hkt H locs lsA hW hS hL
  subst hn
  unfold o_putl at h
  split at h
  next v k r =>
    split at h
    next c2 fds e1 =>
      split at h
      next e2 =>
        split at h
        next e3 =>
          have e4 := Nat.eq_of_beq_eq_true e2
          subst e4
          have hD := wd_D (cA := cA) (m := mm) F.2.1 F.2.2.1
          have he := wd_get (ad := ad) (cA := cA) (m := mm) e1
          have hjl : j < (fds.mapIdx (fun j d => cv ad (fval mm k j d))).length := by simpa using (List.getElem?_eq_some_iff.mp e3).1
          skip
          refine va_put (D := D) (ci := c2) (v := .long v) (ty := .long) X.1 X.2.1 X.2.2.2.2 hin ty0 hty hnm X.2.2.2.1 F.1 hW.1 hD (vS_here hS) k he hc j hj (X.2.2.2.2 _ hw) (fun _ z => z) hfin hint rfl rfl hjl hd (fun H' locs' hP' _ hS' => ?_)
          refine hkn _ _ _ h H' locs' lsA ⟨?_, Nat.le_trans hW.2.1 hS'.1, fun z => absurd z (by decide)⟩ (vS_tr hS hS') hL
          rw [← wd_set (ad := ad) (cA := cA) (m := mm) (m' := (mm.1, mul mm.2 k j v)) e1 (e := .inr (c2, (fds.mapIdx (fun j d => cv ad (fval mm k j d))).set j (.long v))) (by rw [fds_set (m' := (mm.1, mul mm.2 k j v)) e3 (by simp [fval, mu, mul, cv]) fv_mul]; rfl) (fun a ha => ⟨rfl, mul_ne ha⟩)]
          exact hP'
        next => exact h.elim
      next => exact h.elim
    next => exact h.elim
  next => exact h.elim

theorem so_iald (hd : decode cc pc = .ok (.iaload, 1)) (hn : nx = pc + 1) : SO mi ex own cc nL ret pc nx (o_ald 0) := by
  intro p l e R s m args below meth c Qm b0 ad cA D sh cells slots d C Q X F RR hC hR ls st mm kn kt h hkn hkt H locs lsA hW hS hL
  subst hn
  unfold o_ald at h
  split at h
  next i a r =>
    split at h
    next t n e1 =>
      split at h
      next e2 =>
        have e4 := Nat.eq_of_beq_eq_true e2
        subst e4
        exact va_iald (D := D) X.1 X.2.1 F.1 hW.1 a 0 (wd_get e1) (show (tys cA)[0]? = some (cA 0, .int) from rfl) h.1 hd (hkn _ _ _ h.2 H locs lsA hW hS hL)
      next => exact h.elim
    next => exact h.elim
  next => exact h.elim

theorem so_zald (hd : decode cc pc = .ok (.baload, 1)) (hn : nx = pc + 1) : SO mi ex own cc nL ret pc nx (o_ald 1) := by
  intro p l e R s m args below meth c Qm b0 ad cA D sh cells slots d C Q X F RR hC hR ls st mm kn kt h hkn hkt H locs lsA hW hS hL
  subst hn
  unfold o_ald at h
  split at h
  next i a r =>
    split at h
    next t n e1 =>
      split at h
      next e2 =>
        have e4 := Nat.eq_of_beq_eq_true e2
        subst e4
        exact va_zald (D := D) X.1 X.2.1 F.1 hW.1 a 1 (wd_get e1) (show (tys cA)[1]? = some (cA 1, .boolean) from rfl) h.1 hd (hkn _ _ _ h.2 H locs lsA hW hS hL)
      next => exact h.elim
    next => exact h.elim
  next => exact h.elim

theorem so_iast (hd : decode cc pc = .ok (.iastore, 1)) (hn : nx = pc + 1) : SO mi ex own cc nL ret pc nx o_iast := by
  intro p l e R s m args below meth c Qm b0 ad cA D sh cells slots d C Q X F RR hC hR ls st mm kn kt h hkn hkt H locs lsA hW hS hL
  subst hn
  unfold o_iast at h
  split at h
  next x i a r =>
    split at h
    next n e1 =>
      have hD := wd_D (cA := cA) (m := mm) F.2.1 F.2.2.1
      have he := wd_get (ad := ad) (cA := cA) (m := mm) e1
      refine W.iast X.1 X.2.1 (hW.1 a _ he) ((F.1.2 0 _ (show (tys cA)[0]? = some (cA 0, .int) from rfl)).1 n (fun j => .int (mm.1 a j))) (fun q => by cases q) (by show ¬ (i < 0 ∨ (arrV _ _ _).slots.size ≤ _); rw [arrV_size]; exact h.1) rfl rfl hd fun H' f1 f2 f3 => ?_
      refine hkn _ _ _ h.2 H' _ lsA ⟨?_, by rw [f2]; exact hW.2.1, fun z => by rw [f2]; exact hW.2.2 z⟩ (hS.put f2 f3 (hD.2 a _ he)) hL
      rw [← wd_set (ad := ad) (cA := cA) (m := mm) (m' := (mu mm.1 a i.toNatClampNeg x, mm.2)) e1 (e := .inl (cA 0, n, .inl (upd (mm.1 a) i.toNatClampNeg x))) (by simp only [ce, mu_eq]) (fun a ha => ⟨mu_ne ha, rfl⟩)]
      refine hW.1.set hD he ?_ f3
      show H'[ad a]? = some (vp_cell _ _)
      rw [f1]
      show some ((vp_cell (cA 0) (n, .inl (mm.1 a))).setSlot _ _) = _
      rw [vp_cell_i, vp_cell_i, arrV_store]
      congr 2
      funext q
      by_cases hq : q = i.toNatClampNeg
      · subst hq
        simp [updV, upd]
      · simp [updV, upd, hq]
    next => exact h.elim
  next => exact h.elim

theorem so_zast (hd : decode cc pc = .ok (.bastore, 1)) (hn : nx = pc + 1) : SO mi 1 own cc nL ret pc nx o_zast := by
  intro p l e R s m args below meth c Qm b0 ad cA D sh cells slots d C Q X F RR hC hR ls st mm kn kt h hkn hkt H locs lsA hW hS hL
  subst hn
  unfold o_zast at h
  split at h
  next x i a r =>
    split at h
    next n e1 =>
      have hD := wd_D (cA := cA) (m := mm) F.2.1 F.2.2.1
      have he := wd_get (ad := ad) (cA := cA) (m := mm) e1
      have hnz : vp_nar .boolean x = x := by rcases h.1 with z | z <;> subst z <;> rfl
      refine va_zast (D := D) X.1 X.2.1 F.1 hW.1 hD (vS_here hS) a 1 he (show (tys cA)[1]? = some (cA 1, .boolean) from rfl) h.2.1 hd (fun H' locs' hP' _ hS' => ?_)
      refine hkn _ _ _ h.2.2 H' locs' lsA ⟨?_, Nat.le_trans hW.2.1 hS'.1, fun z => absurd z (by decide)⟩ (vS_tr hS hS') hL
      rw [hnz] at hP'
      rw [← wd_set (ad := ad) (cA := cA) (m := mm) (m' := (mu mm.1 a i.toNatClampNeg x, mm.2)) e1 (e := .inl (cA 1, n, .inl (upd (mm.1 a) i.toNatClampNeg x))) (by simp only [ce, mu_eq]) (fun a ha => ⟨mu_ne ha, rfl⟩)]
      exact hP'
    next => exact h.elim
  next => exact h.elim

theorem so_aald (hd : decode cc pc = .ok (.aaload, 1)) (hn : nx = pc + 1) : SO mi ex own cc nL ret pc nx o_aald := by
  intro p l e R s m args below meth c Qm b0 ad cA D sh cells slots d C Q X F RR hC hR ls st mm kn kt h hkn hkt H locs lsA hW hS hL
  subst hn
  unfold o_aald at h
  split at h
  next i a r =>
    split at h
    next rs e1 =>
      exact va_aldq (D := D) X.1 X.2.1 F.1 hW.1 a 2 (wd_get e1) (show (tys cA)[2]? = some (cA 2, .object "SevenInTheHay$Text") from rfl) h.1 hd (by rw [rf_rv]; exact hkn _ _ _ h.2 H locs lsA hW hS hL)
    next rs e1 =>
      exact va_aldq (D := D) X.1 X.2.1 F.1 hW.1 a 3 (wd_get e1) (show (tys cA)[3]? = some (cA 3, .object "SevenInTheHay$Sheet") from rfl) h.1 hd (by rw [rf_rv]; exact hkn _ _ _ h.2 H locs lsA hW hS hL)
    next => exact h.elim
  next => exact h.elim

theorem so_alen (hd : decode cc pc = .ok (.arraylength, 1)) (hn : nx = pc + 1) : SO mi ex own cc nL ret pc nx o_alen := by
  intro p l e R s m args below meth c Qm b0 ad cA D sh cells slots d C Q X F RR hC hR ls st mm kn kt h hkn hkt H locs lsA hW hS hL
  subst hn
  have ht4 : ∀ t, Nat.blt t 4 = true → (tys cA)[t]? = some (cA t, tyOf t) := by
    intro t ht
    have ht : t < 4 := Nat.le_of_ble_eq_true ht
    match t, ht with
    | 0, _ => rfl
    | 1, _ => rfl
    | 2, _ => rfl
    | 3, _ => rfl
  unfold o_alen at h
  split at h
  next a r =>
    split at h
    next t n e1 =>
      split at h
      next e2 => exact va_alen (D := D) X.1 X.2.1 F.1 hW.1 a t (wd_get e1) (ht4 t e2) rfl hd (hkn _ _ _ h H locs lsA hW hS hL)
      next => exact h.elim
    next t rs e1 =>
      split at h
      next e2 => exact va_alen (D := D) X.1 X.2.1 F.1 hW.1 a t (wd_get e1) (ht4 t e2) rfl hd (hkn _ _ _ h H locs lsA hW hS hL)
      next => exact h.elim
    next => exact h.elim
  next => exact h.elim

end STC
