/-! COPIES, SWITCHES, ENDS, CALLS, A WHOLE METHOD -/
section STD
variable {ex : Nat} {mi : Nat → MethodName × ByteArray × Nat × Option FieldType} {own : String} {cc : ByteArray} {nL : Nat} {ret : Option FieldType} {pc nx : Nat}
theorem catsum_eq {ad : Nat → Nat} : ∀ st : Sk, ((st.map (cv ad)).map fun v => v.category).sum = catsum st
  | [] => rfl
  | v :: r => by
    have ih := catsum_eq (ad := ad) r
    simp only [List.map_cons, List.sum_cons, catsum, cv_cat]
    rw [← ih]
/-- the pairs of a lookup, of a table -/
def chkL (pc : Nat) : List (Int × Int) → List (Int × Nat) → Bool
  | [], [] => true
  | (a, o) :: r, (b, t) :: q => decide (a = b) && decide ((pc : Int) + o = (t : Int)) && chkL pc r q
  | _, _ => false
theorem sw_look {pc : Nat} {x : Int32} {kt : Nat → Prop} {dflt : Nat} {d0 : Int} (hd : (pc : Int) + d0 = (dflt : Int)) : ∀ (l : List (Int × Int)) (ps : List (Int × Nat)), chkL pc l ps = true → swt x kt dflt ps → ∃ (t : Nat) (off : Int), Op.lookupswitch.offset l d0 x.toInt = off ∧ (pc : Int) + off = (t : Int) ∧ kt t
  | [], [], _, h => ⟨dflt, d0, rfl, hd, h⟩
  | [], _ :: _, h, _ => by simp [chkL] at h
  | _ :: _, [], h, _ => by simp [chkL] at h
  | (a, o) :: r, (b, t) :: q, h, hs => by
    simp only [chkL, Bool.and_eq_true, decide_eq_true_eq] at h
    obtain ⟨⟨h1, h2⟩, h3⟩ := h
    subst h1
    simp only [swt] at hs
    rw [Op.lookupswitch.offset_cons]
    by_cases hx : a = x.toInt
    · exact ⟨t, o, by rw [if_pos hx], h2, hs.1 hx.symm⟩
    · rw [if_neg hx]
      exact sw_look hd r q h3 (hs.2 (fun z => hx z.symm))
def chkT (pc : Nat) (lo : Int) : List Int → List (Int × Nat) → Bool
  | [], [] => true
  | o :: r, (b, t) :: q => decide (b = lo) && decide ((pc : Int) + o = (t : Int)) && chkT pc (lo + 1) r q
  | _, _ => false
theorem sw_tab {pc : Nat} {x : Int32} {kt : Nat → Prop} {dflt : Nat} : ∀ (l : List Int) (ps : List (Int × Nat)) (lo : Int), chkT pc lo l ps = true → swt x kt dflt ps → ((x.toInt < lo ∨ lo + l.length ≤ x.toInt) ∧ kt dflt) ∨ (lo ≤ x.toInt ∧ x.toInt < lo + l.length ∧ ∃ (t : Nat) (off : Int), l[(x.toInt - lo).toNat]? = some off ∧ (pc : Int) + off = (t : Int) ∧ kt t)
  | [], [], lo, _, h => by
    left
    refine ⟨?_, h⟩
    simp
    omega
  | [], _ :: _, _, h, _ => by simp [chkT] at h
  | _ :: _, [], _, h, _ => by simp [chkT] at h
  | o :: r, (b, t) :: q, lo, h, hs => by
    simp only [chkT, Bool.and_eq_true, decide_eq_true_eq] at h
    obtain ⟨⟨h1, h2⟩, h3⟩ := h
    subst h1
    simp only [swt] at hs
    by_cases hx : x.toInt = b
    · right
      refine ⟨by omega, by simp only [List.length_cons]; omega, t, o, ?_, h2, hs.1 hx⟩
      rw [show (x.toInt - b).toNat = 0 by omega]
      rfl
    · rcases sw_tab r q (b + 1) h3 (hs.2 hx) with ⟨g1, g2⟩ | ⟨g1, g2, t2, o2, g3, g4, g5⟩
      · left
        refine ⟨?_, g2⟩
        simp only [List.length_cons]
        omega
      · right
        refine ⟨by omega, by simp only [List.length_cons]; omega, t2, o2, ?_, g4, g5⟩
        rw [show (x.toInt - b).toNat = (x.toInt - (b + 1)).toNat + 1 by omega]
        exact g3

theorem so_lookup {d0 : Int} {ps0 : Array (Int × Int)} {len dflt : Nat} {ps : List (Int × Nat)} (hd : decode cc pc = .ok (.lookupswitch d0 ps0, len)) (ho : (ps0.toList.zip (ps0.toList.drop 1)).all (fun (a, next) => a.1 < next.1) = true) (hk : chkL pc ps0.toList ps = true) (ht : (pc : Int) + d0 = (dflt : Int)) : SO mi ex own cc nL ret pc nx (o_switch dflt ps) := by
  intro p l e R s m args below meth c Qm b0 ad cA D sh cells slots d C Q X F RR hC hR ls st mm kn kt h hkn hkt H locs lsA hW hS hL
  unfold o_switch at h
  split at h
  next x r =>
    obtain ⟨t, off, g1, g2, g3⟩ := sw_look ht _ _ hk h
    exact lv_lookup X.1 X.2.1 hd ho g1 g2 (hkt _ _ _ _ g3 H locs lsA hW hS hL)
  next => exact h.elim

theorem so_table {d0 lo hi : Int} {offs : Array Int} {len dflt : Nat} {ps : List (Int × Nat)} (hd : decode cc pc = .ok (.tableswitch d0 lo hi offs, len)) (hk : chkT pc lo offs.toList ps = true) (hh : lo + offs.toList.length = hi + 1) (ht : (pc : Int) + d0 = (dflt : Int)) : SO mi ex own cc nL ret pc nx (o_switch dflt ps) := by
  intro p l e R s m args below meth c Qm b0 ad cA D sh cells slots d C Q X F RR hC hR ls st mm kn kt h hkn hkt H locs lsA hW hS hL
  unfold o_switch at h
  split at h
  next x r =>
    rcases sw_tab _ _ lo hk h with ⟨g1, g2⟩ | ⟨g1, g2, t, off, g3, g4, g5⟩
    · exact lv_tableOut X.1 X.2.1 hd (by omega) ht (hkt _ _ _ _ g2 H locs lsA hW hS hL)
    · exact lv_tableIn X.1 X.2.1 hd (by omega) (by omega) (by rw [← Array.getElem?_toList]; exact g3) g4 (hkt _ _ _ _ g5 H locs lsA hW hS hL)
  next => exact h.elim

theorem so_copy {ix : Nat} (hl : Cond.methodLink own ix arraycopyName ∈ tT) (hnat : Cond.native arraycopyName ∈ tT) (hst : Cond.static arraycopyName ∈ tT) (hini : Cond.initialized "java/lang/System" ∈ tT) (hw : nativeFrameWords "java/lang/System" "arraycopy" 5 + 11 ≤ 52) (hd : decode cc pc = .ok (.invokestatic ix, 3)) (hn : nx = pc + 3) : SO mi 1 own cc nL ret pc nx o_copy := by
  intro p l e R s m args below meth c Qm b0 ad cA D sh cells slots d C Q X F RR hC hR ls st mm kn kt h hkn hkt H locs lsA hW hS hL
  subst hn
  unfold o_copy at h
  split at h
  next n dp b sp a r =>
    split at h
    next na nb e1 e2 =>
      obtain ⟨⟨g0, g1, g2, g3, g4, g5⟩, h⟩ := h
      have hD := wd_D (cA := cA) (m := mm) F.2.1 F.2.2.1
      refine va_copyi (D := D) X.1 X.2.1 (by rw [X.2.2.1]; exact hL.1.symm) X.2.2.2.1 (X.2.2.2.2 _ hl) (X.2.2.2.2 _ hnat) (X.2.2.2.2 _ hst) (X.2.2.2.2 _ hini) F.1 hW.1 hD (vS_here hS) a b 0 0 (wd_get e1) (wd_get e2) (show (tys cA)[0]? = some (cA 0, .int) from rfl) (show (tys cA)[0]? = some (cA 0, .int) from rfl) rfl g1 g2 g3 g4 g5 (fun _ _ => rfl) (by omega) (by rw [catsum_eq]; omega) hd (fun H' locs' hP' _ hS' => ?_)
      refine hkn _ _ _ h H' locs' lsA ⟨?_, Nat.le_trans hW.2.1 hS'.1, fun z => absurd z (by decide)⟩ (vS_tr hS hS') hL
      rw [← wd_set (ad := ad) (cA := cA) (m := mm) (m' := (fun q => if q = b then va_cpy (mm.1 a) (mm.1 b) sp.toNatClampNeg dp.toNatClampNeg n.toNatClampNeg else mm.1 q, mm.2)) e2 (e := .inl (cA 0, nb, .inl (va_cpy (mm.1 a) (mm.1 b) sp.toNatClampNeg dp.toNatClampNeg n.toNatClampNeg))) (by simp [ce]) (fun q hq => ⟨by simp [hq], rfl⟩)]
      exact hP'
    next => exact h.elim
  next => exact h.elim

theorem so_iret (hd : decode cc pc = .ok (.ireturn, 1)) : SO mi ex own cc nL (some .int) pc nx o_iret := by
  intro p l e R s m args below meth c Qm b0 ad cA D sh cells slots d C Q X F RR hC hR ls st mm kn kt h hkn hkt H locs lsA hW hS hL
  unfold o_iret at h
  split at h
  next v => exact (hR mm H locs lsA pc hW hS).1 v .int rfl rfl h hd
  next => exact h.elim

theorem so_zret {ty : FieldType} (hd : decode cc pc = .ok (.ireturn, 1)) : SO mi ex own cc nL (some ty) pc nx (o_zret ty) := by
  intro p l e R s m args below meth c Qm b0 ad cA D sh cells slots d C Q X F RR hC hR ls st mm kn kt h hkn hkt H locs lsA hW hS hL
  unfold o_zret at h
  split at h
  next v => exact (hR mm H locs lsA pc hW hS).1 v ty rfl h.1 h.2 hd
  next => exact h.elim

theorem so_lret (hd : decode cc pc = .ok (.lreturn, 1)) : SO mi ex own cc nL (some .long) pc nx o_lret := by
  intro p l e R s m args below meth c Qm b0 ad cA D sh cells slots d C Q X F RR hC hR ls st mm kn kt h hkn hkt H locs lsA hW hS hL
  unfold o_lret at h
  split at h
  next v => exact (hR mm H locs lsA pc hW hS).2.1 v rfl h hd
  next => exact h.elim

theorem so_aret {ty : FieldType} (hty : (∃ n, ty = .object n) ∨ ∃ t, ty = .array t) (hd : decode cc pc = .ok (.areturn, 1)) : SO mi ex own cc nL (some ty) pc nx o_aret := by
  intro p l e R s m args below meth c Qm b0 ad cA D sh cells slots d C Q X F RR hC hR ls st mm kn kt h hkn hkt H locs lsA hW hS hL
  unfold o_aret at h
  split at h
  next v => exact (hR mm H locs lsA pc hW hS).2.2.1 (.ref v) ty rfl hty (Or.inr ⟨v, rfl⟩) h hd
  next => exact (hR mm H locs lsA pc hW hS).2.2.1 .null ty rfl hty (Or.inl rfl) h hd
  next => exact h.elim

theorem so_ret (hd : decode cc pc = .ok (.return_, 1)) : SO mi ex own cc nL none pc nx o_ret := by
  intro p l e R s m args below meth c Qm b0 ad cA D sh cells slots d C Q X F RR hC hR ls st mm kn kt h hkn hkt H locs lsA hW hS hL
  unfold o_ret at h
  split at h
  next => exact (hR mm H locs lsA pc hW hS).2.2.2 rfl h hd
  next => exact h.elim

theorem gT {ws : List Cond} (h : ∀ w ∈ ws, w ∈ tT) : GoodIn tT ws := fun w hw => ⟨h w hw, good_of_word (List.all_eq_true.mp tT_good w (h w hw))⟩
/-- behind a call -/
theorem run_go {p : Program} {l : Launch} {e : Env} {R : Room} {s : State} {m : MethodId} {args : Array Value} {below : List Frame} {meth : Method} {c : Code} {H H0 : Heap} {locs : List Loc} {cells slots b0 : Nat} {Qm : State → Prop} {ad : Nat → Nat} {cA : Nat → ClassId} {D : va_G} {sh : List Shp} {lsA : Array Slot} {st0 rest : List Value} {Q' : Qr}
    (hr : va_Run p l e R s m args below meth c H locs cells slots 0 0 (F0 m pc lsA st0) rest (fun st oc t => (∃ (r : Option Value) (m' : Mm), Q' r m' ∧ oc = .returned (r.map (cv ad)) ∧ Wd ex b0 ad cA D sh t.heap m') ∧ va_F (up0 b0) st t) (up0 b0)) (hS : va_S (up0 b0) H0 H locs)
    (kk : ∀ (r : Option Value) (m' : Mm) (H1 : Heap) (locs1 : List Loc), Q' r m' → Wd ex b0 ad cA D sh H1 m' → va_S (up0 b0) H0 H1 locs1 → W p l e R s m args below meth c H1 locs1 cells slots Qm (F0 m (pc + 3) lsA ((r.map (cv ad)).toList ++ rest))) : W p l e R s m args below meth c H locs cells slots Qm (F0 m pc lsA st0) := by
  intro T hT X
  obtain ⟨v, st₀, t, T', L, h0, X', hL, e1, e2, ⟨⟨r, m', hq, hv, hw⟩, hz, hk⟩, st⟩ := hr T hT X
  cases hv
  rw [h0] at hz hk
  obtain ⟨t2, a1, b1⟩ := kk r m' T'.heap (locs ++ L) hq (by rw [e1]; exact hw)
    ⟨Nat.le_trans hS.1 (by rw [e1]; exact hz), fun q h1 h2 => by rw [e1, hk q (Nat.lt_of_lt_of_le h1 hS.1) h2]; exact hS.2.1 q h1 h2, fun q hq => by
      rcases List.mem_append.mp hq with h | h
      · exact hS.2.2 q h
      · exact hL q h⟩ T' rfl X'
  exact ⟨t2, st t2 a1, b1⟩
theorem Fx.now {s U : State} {H : Heap} {b0 : Nat} {ad : Nat → Nat} {cA : Nat → ClassId} {D : va_G} {sh : List Shp} {locs : List Loc} {m : Mm} (F : Fx b0 ad cA D sh s s.heap) (hS : va_S (up0 b0) s.heap H locs) (hW : Wd ex b0 ad cA D sh H m) (hU : s.WarmedH U.vm) : Fx b0 ad cA D sh U H :=
  ⟨va_K.moved hU.alike F.1, F.2.1, F.2.2.1, Nat.le_trans (Nat.le_add_right _ _) hW.2.1, ((F.2.2.2.2.kept (fun a h1 h2 => hS.2.1 a h1 h2)).moved hU.alike (fun _ _ _ _ z => z.warm hU))⟩
theorem Fx.blind {b0 : Nat} {ad : Nat → Nat} {cA : Nat → ClassId} {D : va_G} {sh : List Shp} {mm : Mm} {av : List Value} : FrameBlind (va_Pc av (fun U => Fx b0 ad cA D sh U U.heap ∧ Wd ex b0 ad cA D sh U.heap mm)) := by
  intro a U g mk h
  obtain ⟨h1, h2, h3⟩ := h
  refine ⟨h1, ⟨va_K.moved (u := U) (U := U.calling g mk a) (Vm.Alike.refl U.vm) h2.1, h2.2.1, h2.2.2.1, h2.2.2.2.1, ?_⟩, h3⟩
  exact Ext.moved (u := U) (U := U.calling g mk a) (H := U.heap) (Vm.Alike.refl U.vm) (fun _ _ _ _ z => vk_R.same (u := U) (U := U.calling g mk a) rfl z) h2.2.2.2.2

theorem so_callV {y n ix : Nat} {yn : MethodName} {by0 : ByteArray} {mx : Nat} {rt : Option FieldType} (hy : mi y = (yn, by0, mx, rt)) (hmx : mx ≤ 40) (hlk : Cond.methodLink own ix yn ∈ tT) (hcd : Cond.code yn by0 mx rt ∈ tT) (hin : Cond.initialized yn.cls ∈ tT) (hins : Cond.instanceMethod yn ∈ tT) (hsel : Cond.selects yn.cls yn yn ∈ tT) (hmh : yn.cls ≠ "java/lang/invoke/MethodHandle" ∧ yn.cls ≠ "java/lang/invoke/VarHandle" ∧ (parseMethodDescriptor yn.desc).map (fun d => d.parameters.length) = some n) {ci : Nat} {T : u_T} {N : Nat} (hc : vcl[ci]? = some (yn.cls, T, N)) (hd : decode cc pc = .ok (.invokevirtual ix, 3)) (hn : nx = pc + 3) : SO mi ex own cc nL ret pc nx (o_callV y n ci) := by
  intro p l e R s m args below meth c Qm b0 ad cA D sh cells slots d C Q X F RR hC hR ls st mm kn kt h hkn hkt H locs lsA hW hS hL
  subst hn
  unfold o_callV at h
  split at h
  next k rest e0 =>
    split at h
    next c2 fds e1 =>
      split at h
      next e2 =>
        split at h
        next e3 =>
          have e4 := Nat.eq_of_beq_eq_true e2
          subst e4
          have he := wd_get (ad := ad) (cA := cA) (m := mm) e1
          have hst : st = st.take n ++ .ref k :: rest := by rw [← e0, List.take_append_drop]
          have hlen : (st.take n).length = n := by
            have h1 : (st.drop n).length = (Value.ref k :: rest).length := by rw [e0]
            simp only [List.length_drop, List.length_cons] at h1
            simp only [List.length_take]
            omega
          have hM := hC _ _ _ _ h
          unfold CMet at hM
          rw [hy] at hM
          refine run_go (va_runV (As := (st.take n).reverse.map (cv ad)) (rest := rest.map (cv ad)) (b := ad k) (C := yn.cls) X hM (cwV n X.2.2.2.2 (gT (fun w hw => by
          simp only [wsV, List.mem_append, List.mem_cons, List.not_mem_nil, or_false] at hw
          rcases hw with (rfl | rfl | rfl | rfl) | rfl | hw
          · exact hlk
          · exact hins
          · exact hsel
          · exact hin
          · exact hcd
          · exact hw)) rfl rfl rfl ⟨rfl, hmh⟩ ⟨RR.1, by show 8 + (mx + 11) + 60 * d ≤ R.locals; omega⟩) ⟨Fx.blind, va_recv F.1 hW.1 hc he, fun U hU hv => ⟨by simp [cv], by rw [hU]; exact F.now hS hW hv, by rw [hU]; exact hW⟩⟩ rfl (by simpa using hlen) hL.1 (by
            show st.map (cv ad) = _
            conv => lhs; rw [hst]
            simp [cv, List.map_take]) (lv_room (by rw [catsum_eq]; exact Nat.le_of_ble_eq_true e3)) hd ⟨RR.2.2.2.1, RR.2.2.2.2⟩) hS (fun r m' H1 locs1 hq hW1 hS1 => ?_)
          have := hkn _ _ _ hq H1 locs1 lsA hW1 hS1 hL
          cases r <;> exact this
        next => exact h.elim
      next => exact h.elim
    next => exact h.elim
  next => exact h.elim

theorem so_callX {y n ix : Nat} {yn : MethodName} {by0 : ByteArray} {mx : Nat} {rt : Option FieldType} (hy : mi y = (yn, by0, mx, rt)) (hmx : mx ≤ 40) (hlk : Cond.methodLink own ix yn ∈ tT) (hcd : Cond.code yn by0 mx rt ∈ tT) (hin : Cond.initialized yn.cls ∈ tT) (hins : Cond.instanceMethod yn ∈ tT) (hsel : Cond.selects yn.cls yn yn ∈ tT) (hmh : yn.cls ≠ "java/lang/invoke/MethodHandle" ∧ yn.cls ≠ "java/lang/invoke/VarHandle" ∧ (parseMethodDescriptor yn.desc).map (fun d => d.parameters.length) = some n) (hstr : yn.cls = "java/lang/String") (hd : decode cc pc = .ok (.invokevirtual ix, 3)) (hn : nx = pc + 3) : SO mi ex own cc nL ret pc nx (o_callX y n) := by
  intro p l e R s m args below meth c Qm b0 ad cA D sh cells slots d C Q X F RR hC hR ls st mm kn kt h hkn hkt H locs lsA hW hS hL
  subst hn
  unfold o_callX at h
  split at h
  next k rest e0 =>
      split at h
      next e2 =>
        split at h
        next e3 =>
          have hrec : ∃ cell : Cell, H[ad k]? = some cell ∧ cell.vm.isStatics = false ∧ s.vm.findClass yn.cls = some cell.cls := by
            rw [hstr]
            rcases (Bool.or_eq_true _ _).mp e2 with e5 | e5
            · have e4 := Nat.eq_of_beq_eq_true e5
              subst e4
              exact vk_recv (i := 0) F.2.2.2.2.1 (by decide) hS
            · have e4 := Nat.eq_of_beq_eq_true e5
              subst e4
              exact vk_recv (i := 1) F.2.2.2.2.1 (by decide) hS
          have hst : st = st.take n ++ .ref k :: rest := by rw [← e0, List.take_append_drop]
          have hlen : (st.take n).length = n := by
            have h1 : (st.drop n).length = (Value.ref k :: rest).length := by rw [e0]
            simp only [List.length_drop, List.length_cons] at h1
            simp only [List.length_take]
            omega
          have hM := hC _ _ _ _ h
          unfold CMet at hM
          rw [hy] at hM
          refine run_go (va_runV (As := (st.take n).reverse.map (cv ad)) (rest := rest.map (cv ad)) (b := ad k) (C := yn.cls) X hM (cwV n X.2.2.2.2 (gT (fun w hw => by
          simp only [wsV, List.mem_append, List.mem_cons, List.not_mem_nil, or_false] at hw
          rcases hw with (rfl | rfl | rfl | rfl) | rfl | hw
          · exact hlk
          · exact hins
          · exact hsel
          · exact hin
          · exact hcd
          · exact hw)) rfl rfl rfl ⟨rfl, hmh⟩ ⟨RR.1, by show 8 + (mx + 11) + 60 * d ≤ R.locals; omega⟩) ⟨Fx.blind, hrec, fun U hU hv => ⟨by simp [cv], by rw [hU]; exact F.now hS hW hv, by rw [hU]; exact hW⟩⟩ rfl (by simpa using hlen) hL.1 (by
            show st.map (cv ad) = _
            conv => lhs; rw [hst]
            simp [cv, List.map_take]) (lv_room (by rw [catsum_eq]; exact Nat.le_of_ble_eq_true e3)) hd ⟨RR.2.2.2.1, RR.2.2.2.2⟩) hS (fun r m' H1 locs1 hq hW1 hS1 => ?_)
          have := hkn _ _ _ hq H1 locs1 lsA hW1 hS1 hL
          cases r <;> exact this
        next => exact h.elim
      next => exact h.elim
  next => exact h.elim

theorem so_callS {y n ix : Nat} {yn : MethodName} {by0 : ByteArray} {mx : Nat} {rt : Option FieldType} (hy : mi y = (yn, by0, mx, rt)) (hmx : mx ≤ 40) (hlk : Cond.methodLink own ix yn ∈ tT) (hcd : Cond.code yn by0 mx rt ∈ tT) (hin : Cond.initialized yn.cls ∈ tT) (hsta : Cond.static yn ∈ tT) (hmh : yn.cls ≠ "java/lang/invoke/MethodHandle" ∧ yn.cls ≠ "java/lang/invoke/VarHandle" ∧ (parseMethodDescriptor yn.desc).map (fun d => d.parameters.length) = some n) (hd : decode cc pc = .ok (.invokestatic ix, 3)) (hn : nx = pc + 3) : SO mi ex own cc nL ret pc nx (o_callS y n) := by
  intro p l e R s m args below meth c Qm b0 ad cA D sh cells slots d C Q X F RR hC hR ls st mm kn kt h hkn hkt H locs lsA hW hS hL
  subst hn
  unfold o_callS at h
  split at h
  next e2 =>
          obtain ⟨e3, e4⟩ := (Bool.and_eq_true _ _).mp e2
          have hlen : (st.take n).length = n := by
            have := Nat.le_of_ble_eq_true e3
            simp only [List.length_take]
            omega
          have hM := hC _ _ _ _ h
          unfold CMet at hM
          rw [hy] at hM
          refine run_go (va_runS (As := (st.take n).reverse.map (cv ad)) (rest := (st.drop n).map (cv ad)) X hM (va_cwS n X.2.2.2.2 (gT (fun w hw => by
          simp only [va_wsS, List.mem_append, List.mem_cons, List.not_mem_nil, or_false] at hw
          rcases hw with (rfl | rfl | rfl) | rfl | hw
          · exact hlk
          · exact hsta
          · exact hin
          · exact hcd
          · exact hw)) rfl rfl rfl hmh ⟨RR.1, by show 8 + (mx + 11) + 60 * d ≤ R.locals; omega⟩) ⟨Fx.blind, fun U hU hv => ⟨rfl, by rw [hU]; exact F.now hS hW hv, by rw [hU]; exact hW⟩⟩ rfl (by simpa using hlen) hL.1 (by
            show st.map (cv ad) = _
            conv => lhs; rw [← List.take_append_drop n st]
            simp [List.map_take]) (lv_room (by rw [catsum_eq]; exact Nat.le_of_ble_eq_true e4)) hd ⟨RR.2.2.2.1, RR.2.2.2.2⟩) hS (fun r m' H1 locs1 hq hW1 hS1 => ?_)
          have := hkn _ _ _ hq H1 locs1 lsA hW1 hS1 hL
          cases r <;> exact this
  next => exact h.elim

/-- a method's steps, each right at its place -/
def hdpc : List (Nat × Op) → Nat
  | [] => 0
  | (pc, _) :: _ => pc
def cok (mi : Nat → MethodName × ByteArray × Nat × Option FieldType) (ex : Nat) (own : String) (cc : ByteArray) (nL : Nat) (ret : Option FieldType) : List (Nat × Op) → Prop
  | [] => True
  | (pc, op) :: r => SO mi ex own cc nL ret pc (hdpc r) op ∧ cok mi ex own cc nL ret r
end STD
