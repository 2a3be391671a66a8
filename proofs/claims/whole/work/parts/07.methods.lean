/-! A WHOLE METHOD, ALL METHODS -/
section WHM
variable {ex : Nat} {mi : Nat → MethodName × ByteArray × Nat × Option FieldType} {own : String} {cc : ByteArray} {nL : Nat} {ret : Option FieldType}
theorem blk_ok {p : Program} {l : Launch} {e : Env} {R : Room} {s : State} {m : MethodId} {args : Array Value} {below : List Frame} {meth : Method} {c : Code} {Qm : State → Prop} {b0 : Nat} {ad : Nat → Nat} {cA : Nat → ClassId} {D : va_G} {sh : List Shp} {cells slots d : Nat} {C : Cr} {Q : Qr} {P : Nat → Kn}
    (X : CallFix p m c cc nL s args tT own) (F : Fx b0 ad cA D sh s s.heap) (RR : d + 1 ≤ R.frames ∧ nL ≤ 40 ∧ 60 * (d + 1) ≤ R.locals ∧ cells ≤ R.cells ∧ slots ≤ R.slots)
    (hC : ∀ (y : Nat) (a : List Value) (mm : Mm) (Q' : Qr), C y a mm Q' → CMet mi l ex b0 ad cA D sh d y a mm Q')
    (hR : RetOK ret cc p l e R s m args below meth c Qm ex b0 ad cA D sh cells slots Q)
    (hP : ∀ t ls st mm, P t ls st mm → G p l e R s m args below meth c Qm nL ex b0 ad cA D sh cells slots t ls st mm) :
    ∀ (code : List (Nat × Op)), cok mi ex own cc nL ret code → ∀ t ls st mm, blk sh C Q P code t ls st mm → G p l e R s m args below meth c Qm nL ex b0 ad cA D sh cells slots (if t = 0 then hdpc code else t) ls st mm := by
  intro code
  induction code with
  | nil => intro _ t ls st mm h; exact h.elim
  | cons q r ih =>
    obtain ⟨pc, op⟩ := q
    intro hk t ls st mm h
    simp only [blk] at h
    split at h
    next e0 =>
      have h0 : ¬ t = 0 := fun z => by subst z; simp at e0
      have := ih hk.2 t ls st mm h
      rw [if_neg h0] at this ⊢
      exact this
    next e0 =>
      have ht : (if t = 0 then hdpc ((pc, op) :: r) else t) = pc := by
        by_cases h0 : t = 0
        · rw [if_pos h0]; rfl
        · rw [if_neg h0]
          rcases (Bool.or_eq_true _ _).mp e0 with z | z
          · exact absurd (Nat.eq_of_beq_eq_true z) h0
          · exact Nat.eq_of_beq_eq_true z
      rw [ht]
      refine hk.1 p l e R s m args below meth c Qm b0 ad cA D sh cells slots d C Q X F RR hC hR ls st mm _ _ h (fun ls st mm z => ?_) (fun t' ls st mm z => ?_)
      · have := ih hk.2 0 ls st mm z
        rwa [if_pos rfl] at this
      · split at z
        next e5 => exact hP _ _ _ _ z
        next e5 =>
          have := ih hk.2 t' ls st mm z
          rw [if_neg (fun z0 => by rw [z0, show Nat.ble 0 pc = true by cases pc <;> rfl] at e5; cases e5)] at this
          exact this
theorem wp_ok {p : Program} {l : Launch} {e : Env} {R : Room} {s : State} {m : MethodId} {args : Array Value} {below : List Frame} {meth : Method} {c : Code} {Qm : State → Prop} {b0 : Nat} {ad : Nat → Nat} {cA : Nat → ClassId} {D : va_G} {sh : List Shp} {cells slots d : Nat} {C : Cr} {Q : Qr}
    (X : CallFix p m c cc nL s args tT own) (F : Fx b0 ad cA D sh s s.heap) (RR : d + 1 ≤ R.frames ∧ nL ≤ 40 ∧ 60 * (d + 1) ≤ R.locals ∧ cells ≤ R.cells ∧ slots ≤ R.slots)
    (hC : ∀ (y : Nat) (a : List Value) (mm : Mm) (Q' : Qr), C y a mm Q' → CMet mi l ex b0 ad cA D sh d y a mm Q')
    (hR : RetOK ret cc p l e R s m args below meth c Qm ex b0 ad cA D sh cells slots Q)
    {code : List (Nat × Op)} (hk : cok mi ex own cc nL ret code) (h0 : hdpc code = 0) {t : Nat} {ls : Lz} {st : Sk} {mm : Mm} (h : WP sh C Q code t ls st mm) : G p l e R s m args below meth c Qm nL ex b0 ad cA D sh cells slots t ls st mm := by
  refine h (fun t ls st mm => G p l e R s m args below meth c Qm nL ex b0 ad cA D sh cells slots t ls st mm) (fun t ls st mm z => ?_)
  have := blk_ok X F RR hC hR (fun _ _ _ _ z => z) code hk t ls st mm z
  by_cases ht : t = 0
  · subst ht
    rwa [if_pos rfl, h0] at this
  · rwa [if_neg ht] at this
theorem entA_len {ad : Nat → Nat} : ∀ a : List Value, (entA a).length = (lg_sl (a.map (cv ad))).length
  | [] => rfl
  | v :: r => by
    have ih := entA_len (ad := ad) r
    simp only [lg_sl, List.map_cons, List.flatMap_cons, List.length_append, cv_cat] at ih ⊢
    unfold entA
    rcases lv_cat v with hc | hc
    · rw [hc]
      simp only [List.length_cons, ih]
      simp
      omega
    · rw [hc]
      simp only [List.length_cons, ih]
      simp
      omega
theorem entA_in {ad : Nat → Nat} : ∀ (a : List Value) (k i : Nat) (v : Value), (entA a)[i]? = some (some v) → (k + i, cv ad v) ∈ lv_args k (a.map (cv ad))
  | [], _, i, v, h => by simp [entA] at h
  | w :: r, k, i, v, h => by
    unfold entA at h
    simp only [List.map_cons, lv_args, cv_cat]
    rcases lv_cat w with hc | hc
    · rw [hc] at h ⊢
      simp only at h
      cases i with
      | zero =>
        simp only [List.getElem?_cons_zero, Option.some.injEq] at h
        subst h
        exact List.mem_cons_self
      | succ i =>
        simp only [List.getElem?_cons_succ] at h
        have := entA_in (ad := ad) r (k + 1) i v h
        refine List.mem_cons_of_mem _ ?_
        rw [show k + (i + 1) = k + 1 + i by omega]
        simpa using this
    · rw [hc] at h ⊢
      simp only at h
      cases i with
      | zero =>
        simp only [List.getElem?_cons_zero, Option.some.injEq] at h
        subst h
        exact List.mem_cons_self
      | succ i =>
        cases i with
        | zero => simp at h
        | succ i =>
          simp only [List.getElem?_cons_succ] at h
          have := entA_in (ad := ad) r (k + 2) i v h
          refine List.mem_cons_of_mem _ ?_
          rw [show k + (i + 1 + 1) = k + 2 + i by omega]
          simpa using this
theorem LH.start {ad : Nat → Nat} {a : List Value} {n : Nat} (h : Nat.ble (entA a).length n = true) : LH ad ((lg_sl (a.map (cv ad)) ++ List.replicate (n - (lg_sl (a.map (cv ad))).length) Slot.unset).toArray) n (entL n a) := by
  have h1 : (lg_sl (a.map (cv ad))).length ≤ n := by rw [← entA_len]; exact Nat.le_of_ble_eq_true h
  have h2 := lv_entry (a.map (cv ad)) h1
  refine ⟨h2.1, h2.2.1, fun i v hv => ?_⟩
  refine h2.2.2 (i, cv ad v) ?_
  unfold entL at hv
  by_cases hi : i < (entA a).length
  · rw [List.getElem?_append_left hi] at hv
    have := entA_in (ad := ad) a 0 i v hv
    rwa [Nat.zero_add] at this
  · rw [List.getElem?_append_right (by omega), List.getElem?_replicate] at hv
    split at hv
    · simp at hv
    · cases hv
/-- a method that is there, or none -/
def MOK (mi : Nat → MethodName × ByteArray × Nat × Option FieldType) (ex : Nat) (codes : Nat → Nat × List (Nat × Op)) (y : Nat) : Prop :=
  cok mi ex (mi y).1.cls (mi y).2.1 (mi y).2.2.1 (mi y).2.2.2 (codes y).2 ∧ hdpc (codes y).2 = 0 ∧ (codes y).1 = (mi y).2.2.1 ∧ (mi y).2.2.1 ≤ 40 ∧ plainFor (mi y).1 = true
set_option maxHeartbeats 1000000 in
theorem call_ok {codes : Nat → Nat × List (Nat × Op)} (hm : ∀ y, (codes y).2 = [] ∨ MOK mi ex codes y) (l : Launch) (b0 : Nat) (ad : Nat → Nat) (cA : Nat → ClassId) (D : va_G) (sh : List Shp) : ∀ (d y : Nat) (a : List Value) (mm : Mm) (Q' : Qr), callT codes sh d y a mm Q' → CMet mi l ex b0 ad cA D sh d y a mm Q' := by
  intro d
  induction d with
  | zero => intro y a mm Q' h; exact h.elim
  | succ d ih =>
    intro y a mm Q' h
    obtain ⟨hlen, h⟩ := h
    rcases hm y with h0 | ⟨hk, hh, hn, hn40, hpl⟩
    · rw [h0] at h
      exact (h (fun _ _ _ _ => False) (fun _ _ _ _ z => z)).elim
    unfold CMet
    refine va_MetF (cc := (mi y).2.1) (maxL := (mi y).2.2.1) (ret := (mi y).2.2.2) hpl rfl ?_
    intro p e s m args below meth c s₁ B hml hv
    obtain ⟨rfl, F, hW⟩ := hv
    have hts := atoms_spec (ws := Cond.code (mi y).1 (mi y).2.1 (mi y).2.2.1 (mi y).2.2.2 :: tT) B.pre
    have X : CallFix p m c (mi y).2.1 (mi y).2.2.1 s (a.map (cv ad)).toArray tT (mi y).1.cls := ⟨B.exec, B.bytes, hml, findClass_of_methodNamed B.named, fun w hw => hts w (List.mem_cons_of_mem _ hw)⟩
    have hlocks := B.notSynchronized
    rw [lg_entry_eq]
    rw [hn] at h hlen
    refine wp_ok (R := (headSpec (Cond.code (mi y).1 (mi y).2.1 (mi y).2.2.1 (mi y).2.2.2 :: tT) { frames := d + 1, cells := 0, slots := 0, locals := 60 * (d + 1) }).room) (d := d) X F ⟨Nat.le_refl _, hn40, Nat.le_refl _, Nat.le_refl _, Nat.le_refl _⟩ ih ?_ hk hh h s.heap [] _ hW va_S.rf (LH.start hlen)
    intro m1 H locs lsA pc hW1 hS1
    refine ⟨fun v ty hr hnr hq hd => ?_, fun v hr hq hd => ?_, fun v ty hr ht hv hq hd => ?_, fun hr hq hd => ?_⟩
    · exact W.zret X.1 X.2.1 (B.returns.trans hr) hnr (fun t ht hU => ⟨⟨some (.int v), m1, hq, rfl, by rw [ht]; exact hW1⟩, hS1.F ht⟩) hS1.2.2 hd
    · exact W.lret X.1 X.2.1 (B.returns.trans hr) (fun t ht hU => ⟨⟨some (.long v), m1, hq, rfl, by rw [ht]; exact hW1⟩, hS1.F ht⟩) hS1.2.2 hd
    · exact W.aret X.1 X.2.1 (B.returns.trans hr) ht (by rcases hv with z | ⟨k, z⟩ <;> subst z <;> simp [cv]) (fun t ht hU => ⟨⟨some v, m1, hq, rfl, by rw [ht]; exact hW1⟩, hS1.F ht⟩) hS1.2.2 hd
    · exact W.vret X.1 X.2.1 (B.returns.trans hr) (fun t ht hU => ⟨⟨none, m1, hq, rfl, by rw [ht]; exact hW1⟩, hS1.F ht⟩) hS1.2.2 hd
end WHM
