/-! MAKING CELLS: calls of makers; three methods that makers call -/
abbrev pt (m : Mm) (k j : Nat) (v : Int32) : Mm := (mu m.1 k j v, m.2)
section MKC
variable {p : Program} {l : Launch} {e : Env} {R : Room} {s : State} {m : MethodId} {args : Array Value} {below : List Frame} {meth : Method} {c : Code} {Qm : State → Prop} {nL b0 : Nat} {ad : Nat → Nat} {cA : Nat → ClassId} {D : va_G} {cells slots d : Nat} {own : String} {cc : ByteArray} {ret : Option FieldType} {pc nx : Nat} {sh sh' : List Shp} {ls : Lz} {st r : Sk} {mm mm' : Mm}
theorem run_gm {H H0 : Heap} {locs : List Loc} {lsA : Array Slot} {st0 rest : List Value} {mc ms : Nat} (hr : va_Run p l e R s m args below meth c H locs cells slots mc ms (F0 m pc lsA st0) rest (fun st oc t => (oc = .returned none ∧ Wd 0 b0 ad cA D sh' t.heap mm') ∧ va_F (up0 b0) st t) (up0 b0)) (hS : va_S (up0 b0) H0 H locs)
    (kk : ∀ (H1 : Heap) (locs1 : List Loc), Wd 0 b0 ad cA D sh' H1 mm' → va_S (up0 b0) H0 H1 locs1 → W p l e R s m args below meth c H1 locs1 (cells + mc) (slots + ms) Qm (F0 m (pc + 3) lsA rest)) : W p l e R s m args below meth c H locs cells slots Qm (F0 m pc lsA st0) := by
  intro T hT X
  obtain ⟨v, st₀, t, T', L, h0, X', hL, e1, e2, ⟨⟨hv, hw⟩, hz, hk⟩, st⟩ := hr T hT X
  cases hv
  rw [h0] at hz hk
  obtain ⟨t2, a1, b1⟩ := kk T'.heap (locs ++ L) (by rw [e1]; exact hw)
    ⟨Nat.le_trans hS.1 (by rw [e1]; exact hz), fun q h1 h2 => by rw [e1, hk q (Nat.lt_of_lt_of_le h1 hS.1) h2]; exact hS.2.1 q h1 h2, fun q hq => by
      rcases List.mem_append.mp hq with h | h
      · exact hS.2.2 q h
      · exact hL q h⟩ T' rfl X'
  exact ⟨t2, st t2 a1, b1⟩
theorem ms_ctor {Z : State → Prop} {ix mx mc ms k0 cells' slots' : Nat} {y : MethodName} {bytes : ByteArray} (E : Em p R s m args c nL b0 ad cA D own cc d) (hM : CMk l Z y bytes mx d mc ms b0 ad cA D k0 sh sh' mm mm') (hZ : ∀ U : State, s.WarmedH U.vm → Z U) (hZb : ∀ U g mk a, Z U → Z (State.calling U g mk a)) (hlk : Cond.methodLink own ix y ∈ tT) (hcd : Cond.code y bytes mx none ∈ tT) (hini : Cond.initialized y.cls ∈ tT) (hins : Cond.instanceMethod y ∈ tT) (hyi : y.name = "<init>") (hmh : y.cls ≠ "java/lang/invoke/MethodHandle" ∧ y.cls ≠ "java/lang/invoke/VarHandle" ∧ (parseMethodDescriptor y.desc).map (fun d => d.parameters.length) = some 0) (hmx : mx ≤ 40) (hd : decode cc pc = .ok (.invokespecial ix, 3)) (h3 : Nat.ble (catsum st) 8 = true) (hce : cells + mc = cells') (hsl : slots + ms = slots') (hcell : cells' ≤ R.cells) (hslot : slots' ≤ R.slots) (hlen : sh'.length ≤ 999) (kk : MG p l e R s m args below meth c Qm nL b0 ad cA D cells' slots' (pc + 3) sh' ls st mm') : MG p l e R s m args below meth c Qm nL b0 ad cA D cells slots pc sh ls (.ref k0 :: st) mm := by
  subst hce; subst hsl
  intro _ _ hl1 H locs lsA hW hS hL
  have hR := E.2.2
  unfold CMk at hM
  refine run_gm (va_runI (As := []) (rest := st.map (cv ad)) (b := ad k0) E.1 hM (cwI 0 E.1.2.2.2.2 (gT (ws := Cond.code y bytes mx none :: tT) (fun w hw => by
    rcases List.mem_cons.mp hw with rfl | hw
    · exact hcd
    · exact hw)) rfl rfl rfl (E.1.2.2.2.2 _ hini) (E.1.2.2.2.2 _ hlk) (E.1.2.2.2.2 _ hins) hyi hmh ⟨hR.1, by show 8 + (mx + 11) + 60 * d ≤ R.locals; omega⟩) ⟨FK.blind hZb, fun U hU hv => ⟨rfl, ⟨E.2.1.now (by omega) hS hW hv hU, hZ U hv⟩, by rw [hU]; exact hW⟩⟩ rfl rfl hL.1 rfl (lv_room (by rw [catsum_eq]; exact Nat.le_of_ble_eq_true h3)) hd ⟨hcell, hslot⟩) hS (fun H1 locs1 hW1 hS1 => kk hcell hslot hlen H1 locs1 lsA hW1 hS1 hL)
theorem ms_ctorN {Z : State → Prop} {ix mx mc ms k0 cells' slots' : Nat} {y : MethodName} {host : String} {bytes : ByteArray} (E : Em p R s m args c nL b0 ad cA D own cc d) (hM : CMk l Z y bytes mx d mc ms b0 ad cA D k0 sh sh' mm mm') (hZ : ∀ U : State, s.WarmedH U.vm → Z U) (hZb : ∀ U g mk a, Z U → Z (State.calling U g mk a)) (hlk : va_Nw (.methodLinkNest own ix y host) s) (hcd : Cond.code y bytes mx none ∈ tT) (hini : Cond.initialized y.cls ∈ tT) (hins : Cond.instanceMethod y ∈ tT) (hyi : y.name = "<init>") (hmh : y.cls ≠ "java/lang/invoke/MethodHandle" ∧ y.cls ≠ "java/lang/invoke/VarHandle" ∧ (parseMethodDescriptor y.desc).map (fun d => d.parameters.length) = some 0) (hmx : mx ≤ 40) (hd : decode cc pc = .ok (.invokespecial ix, 3)) (h3 : Nat.ble (catsum st) 8 = true) (hce : cells + mc = cells') (hsl : slots + ms = slots') (hcell : cells' ≤ R.cells) (hslot : slots' ≤ R.slots) (hlen : sh'.length ≤ 999) (kk : MG p l e R s m args below meth c Qm nL b0 ad cA D cells' slots' (pc + 3) sh' ls st mm') : MG p l e R s m args below meth c Qm nL b0 ad cA D cells slots pc sh ls (.ref k0 :: st) mm := by
  subst hce; subst hsl
  intro _ _ hl1 H locs lsA hW hS hL
  have hR := E.2.2
  unfold CMk at hM
  refine run_gm (va_runIN (As := []) (rest := st.map (cv ad)) (b := ad k0) E.1 hM ⟨va_cnB 0 E.1.2.2.2.2 (gT (ws := Cond.code y bytes mx none :: tT) (fun w hw => by
    rcases List.mem_cons.mp hw with rfl | hw
    · exact hcd
    · exact hw)) rfl rfl rfl hlk (E.1.2.2.2.2 _ hini) hmh ⟨hR.1, by show 8 + (mx + 11) + 60 * d ≤ R.locals; omega⟩, hyi, E.1.2.2.2.2 _ hins⟩ ⟨FK.blind hZb, fun U hU hv => ⟨rfl, ⟨E.2.1.now (by omega) hS hW hv hU, hZ U hv⟩, by rw [hU]; exact hW⟩⟩ rfl rfl hL.1 rfl (lv_room (by rw [catsum_eq]; exact Nat.le_of_ble_eq_true h3)) hd ⟨hcell, hslot⟩) hS (fun H1 locs1 hW1 hS1 => kk hcell hslot hlen H1 locs1 lsA hW1 hS1 hL)
end MKC
/-- what the nest gives the maker of a system -/
def ZT (_ : State) : Prop := True
def ZN (U : State) : Prop := (va_Nw (.methodLinkNest RX6 9 yX2_init "SevenInTheHay") U ∧ va_Nw (.methodLinkNest RX6 24 yX3_init "SevenInTheHay") U ∧ va_Nw (.methodLinkNest RX6 31 yX0_init "SevenInTheHay") U ∧ va_Nw (.methodLinkNest RX6 38 yX1_init "SevenInTheHay") U ∧ va_Nw (.methodLinkNest RX6 60 yX4_init "SevenInTheHay") U) ∧ va_AO "SevenInTheHay$Text" U ∧ va_AO "SevenInTheHay$Sheet" U
theorem ZN.warm {s U : State} (hW : s.WarmedH U.vm) (h : ZN s) : ZN U := ⟨⟨va_Nw.warmM hW h.1.1, va_Nw.warmM hW h.1.2.1, va_Nw.warmM hW h.1.2.2.1, va_Nw.warmM hW h.1.2.2.2.1, va_Nw.warmM hW h.1.2.2.2.2⟩, va_AO.moved hW.alike h.2.1, va_AO.moved hW.alike h.2.2⟩
theorem ZN.blind (U : State) (g) (mk) (a) (h : ZN U) : ZN (State.calling U g mk a) := ⟨⟨va_Nw.same rfl rfl h.1.1, va_Nw.same rfl rfl h.1.2.1, va_Nw.same rfl rfl h.1.2.2.1, va_Nw.same rfl rfl h.1.2.2.2.1, va_Nw.same rfl rfl h.1.2.2.2.2⟩, va_AO.moved (Vm.Alike.refl U.vm) h.2.1, va_AO.moved (Vm.Alike.refl U.vm) h.2.2⟩
section MKT
variable {sh : List Shp} {m : Mm} {Q : Qr} {d n j : Nat} {v i : Int32}
theorem lk {pre tl : List Shp} {n i : Nat} {x : Shp} (hn : pre.length = n) (h : tl[i]? = some x) : (pre ++ tl)[n + i]? = some x := by
  subst hn
  rw [List.getElem?_append_right (by omega), Nat.add_sub_cancel_left]
  exact h
theorem stt {pre tl : List Shp} {n : Nat} {x : Shp} (hn : pre.length = n) : (pre ++ tl).set n x = pre ++ tl.set 0 x := by
  subst hn
  rw [List.set_append_right _ _ (Nat.le_refl _), Nat.sub_self]
theorem lnn {pre tl : List Shp} {n q : Nat} (hn : pre.length = n) (h : n + tl.length = q) : (pre ++ tl).length = q := by
  rw [List.length_append, hn, h]
set_option maxRecDepth 100000 in
theorem mk_add {f : List Nat} (h0 : sh[n]? = some (.inl (5, [n + 1 + 3, n + 2 + 3, 0]))) (h1 : sh[n + 1]? = some (.inr (.inl (0, 160)))) (hi : m.1 n 2 = i) (hlt : ¬ nI 160 ≤ i) (hv : vp_in i 160) (hij : i.toNatClampNeg = j) (h : Q none (pt (pt m (n + 1) j v) n 2 (i + 1))) : callT cds0 sh (d + 1) 80 [.ref n, .int v] m Q := by
  refine ⟨rfl, fun P hP => hP 0 _ _ _ ?_⟩
  change blk sh (callT cds0 sh d) Q P c_X5_add 0 (entL 2 [.ref n, .int v]) [] m
  conv => whnf
  repeat (first | (rw [h0]; conv => whnf) | (rw [h1]; conv => whnf) | (rw [hi]; conv => whnf) | (refine br_f ?_ ?_; (focus (first | with_reducible assumption | (intro zz; apply zz; with_reducible assumption) | (simp (disch := omega) only [m1lt, nIm1, m1nI, not_true_eq_false, not_false_eq_true, jl, nI_ltI, nI_leI, nI_eq, nI_toInt]; omega) | (simp (disch := omega) only [m1lt, nIm1, m1nI, not_true_eq_false, not_false_eq_true, jl, nI_ltI, nI_leI, nI_eq, nI_toInt]; done))); conv => whnf) | (refine br_t ?_ ?_; (focus (first | with_reducible assumption | (intro zz; apply zz; with_reducible assumption) | (simp (disch := omega) only [m1lt, nIm1, m1nI, not_true_eq_false, not_false_eq_true, jl, nI_ltI, nI_leI, nI_eq, nI_toInt]; omega) | (simp (disch := omega) only [m1lt, nIm1, m1nI, not_true_eq_false, not_false_eq_true, jl, nI_ltI, nI_leI, nI_eq, nI_toInt]; done))); conv => whnf) | (with_reducible refine And.intro nz1 ?_; conv => whnf) | (with_reducible refine And.intro nz0 ?_; conv => whnf) | (refine And.intro ?_ ?_; (focus (first | with_reducible assumption | (intro zz; apply zz; with_reducible assumption) | (simp (disch := omega) only [m1lt, nIm1, m1nI, not_true_eq_false, not_false_eq_true, jl, nI_ltI, nI_leI, nI_eq, nI_toInt]; omega) | (simp (disch := omega) only [m1lt, nIm1, m1nI, not_true_eq_false, not_false_eq_true, jl, nI_ltI, nI_leI, nI_eq, nI_toInt]; done))); conv => whnf) | (refine And.intro ?_ ?_; (focus (first | with_reducible assumption | ((with_reducible refine vp_in_nI ?_ ?_) <;> omega) | ((with_reducible refine vp_0 ?_); omega) | ((with_reducible refine vp_s1 ?_ ?_) <;> omega) | ((with_reducible refine vp_a1 ?_ ?_) <;> omega) | ((with_reducible refine vp_m1 ?_ ?_) <;> omega) | ((with_reducible refine vp_m2 ?_ ?_) <;> omega))); conv => whnf))
  have e1 : mu m.1 (n + 1) i.toNatClampNeg v n 2 = i := by simp [mu, hi]
  show Q none (mu (mu m.1 (n + 1) i.toNatClampNeg v) n 2 (mu m.1 (n + 1) i.toNatClampNeg v n 2 + 1), m.2)
  rw [e1, hij]
  exact h
set_option maxRecDepth 100000 in
theorem mk_end (h0 : sh[n]? = some (.inl (5, [n + 1 + 3, n + 2 + 3, 0]))) (h1 : sh[n + 2]? = some (.inr (.inl (0, 3)))) (hl : m.1 n 2 = v) (h00 : ¬ i < 0) (hlt : ¬ nI 3 ≤ i) (hv : vp_in i 3) (hij : i.toNatClampNeg = j) (h : Q none (pt m (n + 2) j v)) : callT cds0 sh (d + 1) 81 [.ref n, .int i] m Q := by
  refine ⟨rfl, fun P hP => hP 0 _ _ _ ?_⟩
  change blk sh (callT cds0 sh d) Q P c_X5_endPart 0 (entL 2 [.ref n, .int i]) [] m
  conv => whnf
  repeat (first | (rw [h0]; conv => whnf) | (rw [h1]; conv => whnf) | (rw [hl]; conv => whnf) | (refine br_f ?_ ?_; (focus (first | with_reducible assumption | (intro zz; apply zz; with_reducible assumption) | (simp (disch := omega) only [m1lt, nIm1, m1nI, not_true_eq_false, not_false_eq_true, jl, nI_ltI, nI_leI, nI_eq, nI_toInt]; omega) | (simp (disch := omega) only [m1lt, nIm1, m1nI, not_true_eq_false, not_false_eq_true, jl, nI_ltI, nI_leI, nI_eq, nI_toInt]; done))); conv => whnf) | (refine br_t ?_ ?_; (focus (first | with_reducible assumption | (intro zz; apply zz; with_reducible assumption) | (simp (disch := omega) only [m1lt, nIm1, m1nI, not_true_eq_false, not_false_eq_true, jl, nI_ltI, nI_leI, nI_eq, nI_toInt]; omega) | (simp (disch := omega) only [m1lt, nIm1, m1nI, not_true_eq_false, not_false_eq_true, jl, nI_ltI, nI_leI, nI_eq, nI_toInt]; done))); conv => whnf) | (with_reducible refine And.intro nz1 ?_; conv => whnf) | (with_reducible refine And.intro nz0 ?_; conv => whnf) | (refine And.intro ?_ ?_; (focus (first | with_reducible assumption | (intro zz; apply zz; with_reducible assumption) | (simp (disch := omega) only [m1lt, nIm1, m1nI, not_true_eq_false, not_false_eq_true, jl, nI_ltI, nI_leI, nI_eq, nI_toInt]; omega) | (simp (disch := omega) only [m1lt, nIm1, m1nI, not_true_eq_false, not_false_eq_true, jl, nI_ltI, nI_leI, nI_eq, nI_toInt]; done))); conv => whnf) | (refine And.intro ?_ ?_; (focus (first | with_reducible assumption | ((with_reducible refine vp_in_nI ?_ ?_) <;> omega) | ((with_reducible refine vp_0 ?_); omega) | ((with_reducible refine vp_s1 ?_ ?_) <;> omega) | ((with_reducible refine vp_a1 ?_ ?_) <;> omega) | ((with_reducible refine vp_m1 ?_ ?_) <;> omega) | ((with_reducible refine vp_m2 ?_ ?_) <;> omega))); conv => whnf))
  show Q none (mu m.1 (n + 2) i.toNatClampNeg v, m.2)
  rw [hij]
  exact h
set_option maxRecDepth 100000 in
theorem mk_spell {fds : List Nat} {b0 b1 b2 b3 b4 b5 b6 b7 : Int32} (h0 : sh[n]? = some (.inl (7, fds))) (hf : fds[1]? = some (n + 1 + 3)) (h1 : sh[n + 1]? = some (.inr (.inl (0, 960)))) (v0 : vp_in i 960) (v1 : vp_in (i + 1) 960) (v2 : vp_in (i + 2) 960) (v3 : vp_in (i + 3) 960) (v4 : vp_in (i + 4) 960) (v5 : vp_in (i + 5) 960) (v6 : vp_in (i + 6) 960) (v7 : vp_in (i + 7) 960)
    (h : Q none (pt (pt (pt (pt (pt (pt (pt (pt m (n + 1) i.toNatClampNeg b0) (n + 1) (i + 1).toNatClampNeg b1) (n + 1) (i + 2).toNatClampNeg b2) (n + 1) (i + 3).toNatClampNeg b3) (n + 1) (i + 4).toNatClampNeg b4) (n + 1) (i + 5).toNatClampNeg b5) (n + 1) (i + 6).toNatClampNeg b6) (n + 1) (i + 7).toNatClampNeg b7)) : callT cds0 sh (d + 1) 136 [.ref n, .int i, .int b0, .int b1, .int b2, .int b3, .int b4, .int b5, .int b6, .int b7] m Q := by
  refine ⟨rfl, fun P hP => hP 0 _ _ _ ?_⟩
  change blk sh (callT cds0 sh d) Q P c_X7_spell 0 (entL 10 [.ref n, .int i, .int b0, .int b1, .int b2, .int b3, .int b4, .int b5, .int b6, .int b7]) [] m
  conv => whnf
  repeat (first | (rw [h0]; conv => whnf) | (rw [h1]; conv => whnf) | (rw [hf]; conv => whnf) | (refine br_f ?_ ?_; (focus (first | with_reducible assumption | (intro zz; apply zz; with_reducible assumption) | (simp (disch := omega) only [m1lt, nIm1, m1nI, not_true_eq_false, not_false_eq_true, jl, nI_ltI, nI_leI, nI_eq, nI_toInt]; omega) | (simp (disch := omega) only [m1lt, nIm1, m1nI, not_true_eq_false, not_false_eq_true, jl, nI_ltI, nI_leI, nI_eq, nI_toInt]; done))); conv => whnf) | (refine br_t ?_ ?_; (focus (first | with_reducible assumption | (intro zz; apply zz; with_reducible assumption) | (simp (disch := omega) only [m1lt, nIm1, m1nI, not_true_eq_false, not_false_eq_true, jl, nI_ltI, nI_leI, nI_eq, nI_toInt]; omega) | (simp (disch := omega) only [m1lt, nIm1, m1nI, not_true_eq_false, not_false_eq_true, jl, nI_ltI, nI_leI, nI_eq, nI_toInt]; done))); conv => whnf) | (with_reducible refine And.intro nz1 ?_; conv => whnf) | (with_reducible refine And.intro nz0 ?_; conv => whnf) | (refine And.intro ?_ ?_; (focus (first | with_reducible assumption | (intro zz; apply zz; with_reducible assumption) | (simp (disch := omega) only [m1lt, nIm1, m1nI, not_true_eq_false, not_false_eq_true, jl, nI_ltI, nI_leI, nI_eq, nI_toInt]; omega) | (simp (disch := omega) only [m1lt, nIm1, m1nI, not_true_eq_false, not_false_eq_true, jl, nI_ltI, nI_leI, nI_eq, nI_toInt]; done))); conv => whnf) | (refine And.intro ?_ ?_; (focus (first | with_reducible assumption | ((with_reducible refine vp_in_nI ?_ ?_) <;> omega) | ((with_reducible refine vp_0 ?_); omega) | ((with_reducible refine vp_s1 ?_ ?_) <;> omega) | ((with_reducible refine vp_a1 ?_ ?_) <;> omega) | ((with_reducible refine vp_m1 ?_ ?_) <;> omega) | ((with_reducible refine vp_m2 ?_ ?_) <;> omega))); conv => whnf))
  exact h
end MKT
