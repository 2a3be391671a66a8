/-! MAKING CELLS: a run in which the list of cells grows -/
def zr (n : Nat) (m : Mm) : Mm := (fun a => if a = n then fun _ => 0 else m.1 a, fun a => if a = n then fun _ => 0 else m.2 a)
def FK (b0 : Nat) (ad : Nat → Nat) (cA : Nat → ClassId) (D : va_G) (U : State) : Prop := va_K D vcl (tys cA) U ∧ (∀ k, k < 1000 → ad k = b0 + k) ∧ b0 ≤ U.heap.size ∧ Ext b0 ad U U.heap
theorem FK.fx {b0 : Nat} {ad : Nat → Nat} {cA : Nat → ClassId} {D : va_G} {U : State} {sh : List Shp} (h : FK b0 ad cA D U) (hl : sh.length ≤ 1000) : Fx b0 ad cA D sh U U.heap := ⟨h.1, h.2.1, hl, h.2.2.1, h.2.2.2⟩
theorem FK.now {s U : State} {H : Heap} {b0 : Nat} {ad : Nat → Nat} {cA : Nat → ClassId} {D : va_G} {sh : List Shp} {locs : List Loc} {m : Mm} (F : FK b0 ad cA D s) (hl : sh.length ≤ 1000) (hS : va_S (up0 b0) s.heap H locs) (hW : Wd 0 b0 ad cA D sh H m) (hU : s.WarmedH U.vm) (hH : U.heap = H) : FK b0 ad cA D U := by
  subst hH
  have z := Fx.now (F.fx hl) hS hW hU
  exact ⟨z.1, z.2.1, z.2.2.2.1, z.2.2.2.2⟩
theorem FK.blind {b0 : Nat} {ad : Nat → Nat} {cA : Nat → ClassId} {D : va_G} {sh : List Shp} {mm : Mm} {av : List Value} {Z : State → Prop} (hZ : ∀ U g mk a, Z U → Z (State.calling U g mk a)) : FrameBlind (va_Pc av (fun U => (FK b0 ad cA D U ∧ Z U) ∧ Wd 0 b0 ad cA D sh U.heap mm)) := by
  intro a U g mk h
  obtain ⟨h1, ⟨h2, h4⟩, h3⟩ := h
  refine ⟨h1, ⟨⟨va_K.moved (u := U) (U := U.calling g mk a) (Vm.Alike.refl U.vm) h2.1, h2.2.1, h2.2.2.1, ?_⟩, hZ _ _ _ _ h4⟩, h3⟩
  exact Ext.moved (u := U) (U := U.calling g mk a) (H := U.heap) (Vm.Alike.refl U.vm) (fun _ _ _ _ z => vk_R.same (u := U) (U := U.calling g mk a) rfl z) h2.2.2.2
theorem ce_zr {ad : Nat → Nat} {cA : Nat → ClassId} {m : Mm} {n k : Nat} (h : k ≠ n) (c : Shp) : ce ad cA (zr n m) k c = ce ad cA m k c := by
  have hf : ∀ j dd, fval (zr n m) k j dd = fval m k j dd := by
    intro j dd
    match dd with
    | 0 => simp [fval, zr, h]
    | 1 => simp [fval, zr, h]
    | 2 => rfl
    | d + 3 => rfl
  rcases c with ⟨ci, fds⟩ | ⟨t, n'⟩ | ⟨t, rs⟩
  · simp only [ce, hf]
  · simp [ce, zr, h]
  · rfl
theorem wd_app {ad : Nat → Nat} {cA : Nat → ClassId} {sh : List Shp} {m : Mm} {c : Shp} : wd ad cA (sh ++ [c]) (zr sh.length m) = wd ad cA sh m ++ [(ad sh.length, ce ad cA (zr sh.length m) sh.length c)] := by
  apply List.ext_getElem?
  intro i
  simp only [wd, List.getElem?_mapIdx, List.getElem?_append, List.length_mapIdx]
  by_cases h : i < sh.length
  · simp only [h, if_true, List.getElem?_mapIdx]
    cases sh[i]? with
    | none => rfl
    | some c2 =>
      simp only [Option.map_some]
      rw [ce_zr (by omega)]
  · simp only [h, if_false]
    by_cases h2 : i = sh.length
    · subst h2
      simp
    · rw [List.getElem?_eq_none (by simp; omega), List.getElem?_eq_none (by simp; omega)]
      rfl
theorem Wd_push {b0 : Nat} {ad : Nat → Nat} {cA : Nat → ClassId} {D : va_G} {sh : List Shp} {m : Mm} {c : Shp} {H H1 : Heap} (hW : Wd 0 b0 ad cA D sh H m) (o1 : ∀ q, q < H.size → H1[q]? = H[q]?) (z1 : H1.size = H.size + 1) (he : va_at D vcl (ad sh.length, ce ad cA (zr sh.length m) sh.length c) H1) : Wd 0 b0 ad cA D (sh ++ [c]) H1 (zr sh.length m) := by
  have h0 := hW.2.2 rfl
  refine ⟨?_, by simp only [List.length_append, List.length_cons, List.length_nil]; omega, fun _ => by simp only [List.length_append, List.length_cons, List.length_nil]; omega⟩
  rw [wd_app]
  refine (hW.1.kept (fun k x hx => o1 x.1 ((hW.1 k x hx).lt))).app (fun k x hx => ?_)
  have hz : k < 1 := (List.getElem?_eq_some_iff.mp hx).1
  rw [show k = 0 by omega] at hx
  cases hx
  exact he
theorem wd_shp {ad : Nat → Nat} {cA : Nat → ClassId} {sh : List Shp} {m : Mm} {k : Nat} {c c' : Shp} (h : sh[k]? = some c) : (wd ad cA sh m).set k (ad k, ce ad cA m k c') = wd ad cA (sh.set k c') m := by
  apply List.ext_getElem?
  intro i
  have hk : k < sh.length := (List.getElem?_eq_some_iff.mp h).1
  by_cases hi : i = k
  · subst hi
    rw [List.getElem?_set_self (by rw [wd_len]; exact hk)]
    simp only [wd, List.getElem?_mapIdx]
    rw [List.getElem?_set_self hk]
    rfl
  · rw [List.getElem?_set_ne (Ne.symm hi)]
    simp only [wd, List.getElem?_mapIdx]
    rw [List.getElem?_set_ne (Ne.symm hi)]
theorem fds_put {ad : Nat → Nat} {m : Mm} {k j d d0 : Nat} {fds : List Nat} (hd : fds[j]? = some d0) : (fds.mapIdx (fun j d => cv ad (fval m k j d))).set j (.ref (ad d)) = (fds.set j (d + 3)).mapIdx (fun j d => cv ad (fval m k j d)) := by
  apply List.ext_getElem?
  intro i
  have hj : j < fds.length := (List.getElem?_eq_some_iff.mp hd).1
  by_cases hi : i = j
  · subst hi
    rw [List.getElem?_set_self (by simpa using hj), List.getElem?_mapIdx, List.getElem?_set_self hj]
    rfl
  · rw [List.getElem?_set_ne (Ne.symm hi), List.getElem?_mapIdx, List.getElem?_mapIdx, List.getElem?_set_ne (Ne.symm hi)]
theorem rfo_set {ad : Nat → Nat} {rs : List Nat} {i d : Nat} (hi : i < rs.length) : va_up (rfo ad rs) i (some (ad d)) = rfo ad (rs.set i (d + 3)) := by
  funext j
  unfold va_up rfo
  by_cases h : j = i
  · subst h
    rw [List.getElem?_set_self hi]
    simp
  · rw [List.getElem?_set_ne (Ne.symm h)]
    simp [h]
theorem rfo_nil {ad : Nat → Nat} {N : Nat} : rfo ad (List.replicate N 2) = fun _ => none := by
  funext j
  unfold rfo
  rw [List.getElem?_replicate]
  by_cases h : j < N
  · simp [h]
  · simp [h]
section MKG
variable {p : Program} {l : Launch} {e : Env} {R : Room} {s : State} {m : MethodId} {args : Array Value} {below : List Frame} {meth : Method} {c : Code} {Qm : State → Prop} {nL b0 : Nat} {ad : Nat → Nat} {cA : Nat → ClassId} {D : va_G} {cells slots d : Nat} {own : String} {cc : ByteArray} {ret : Option FieldType} {pc nx : Nat} {sh sh' : List Shp} {ls : Lz} {st r : Sk} {mm : Mm}
def MG (p : Program) (l : Launch) (e : Env) (R : Room) (s : State) (m : MethodId) (args : Array Value) (below : List Frame) (meth : Method) (c : Code) (Qm : State → Prop) (nL b0 : Nat) (ad : Nat → Nat) (cA : Nat → ClassId) (D : va_G) (cells slots pc : Nat) (sh : List Shp) (ls : Lz) (st : Sk) (mm : Mm) : Prop :=
  cells ≤ R.cells → slots ≤ R.slots → sh.length ≤ 999 → G p l e R s m args below meth c Qm nL 0 b0 ad cA D sh cells slots pc ls st mm
def Em (p : Program) (R : Room) (s : State) (m : MethodId) (args : Array Value) (c : Code) (nL b0 : Nat) (ad : Nat → Nat) (cA : Nat → ClassId) (D : va_G) (own : String) (cc : ByteArray) (d : Nat) : Prop :=
  CallFix p m c cc nL s args tT own ∧ FK b0 ad cA D s ∧ d + 1 ≤ R.frames ∧ nL ≤ 40 ∧ 60 * (d + 1) ≤ R.locals
theorem rok_no : RetOK none cc p l e R s m args below meth c Qm 0 b0 ad cA D sh cells slots (fun _ _ => False) := fun _ _ _ _ _ _ _ => ⟨fun _ _ _ _ z => z.elim, fun _ _ z => z.elim, fun _ _ _ _ _ z => z.elim, fun _ z => z.elim⟩
theorem ms_so {C : Cr} {op : Op} (E : Em p R s m args c nL b0 ad cA D own cc d) (so : SO mi 0 own cc nL none pc nx op) (hC : ∀ (y : Nat) (a : List Value) (mm : Mm) (Q' : Qr), C y a mm Q' → CMet mi l 0 b0 ad cA D sh d y a mm Q') (h : op sh C (fun _ _ => False) ls st mm (fun ls st mm => MG p l e R s m args below meth c Qm nL b0 ad cA D cells slots nx sh ls st mm) (fun t ls st mm => MG p l e R s m args below meth c Qm nL b0 ad cA D cells slots t sh ls st mm)) : MG p l e R s m args below meth c Qm nL b0 ad cA D cells slots pc sh ls st mm :=
  fun hc hs hl => so p l e R s m args below meth c Qm b0 ad cA D sh cells slots d C _ E.1 (E.2.1.fx (by omega)) ⟨E.2.2.1, E.2.2.2.1, E.2.2.2.2, hc, hs⟩ hC rok_no ls st mm _ _ h (fun _ _ _ k => k hc hs hl) (fun _ _ _ _ k => k hc hs hl)
def C0r : Cr := fun _ _ _ _ => False
theorem no_C (y : Nat) (a : List Value) (mm : Mm) (Q' : Qr) (z : C0r y a mm Q') : CMet mi l 0 b0 ad cA D sh d y a mm Q' := z.elim
theorem ms_const {v : Int32} (E : Em p R s m args c nL b0 ad cA D own cc d) (so : SO mi 0 own cc nL none pc nx (o_const v)) (k : MG p l e R s m args below meth c Qm nL b0 ad cA D cells slots nx sh ls (.int v :: st) mm) : MG p l e R s m args below meth c Qm nL b0 ad cA D cells slots pc sh ls st mm := ms_so E so no_C k
theorem ms_aload {i x : Nat} (E : Em p R s m args c nL b0 ad cA D own cc d) (so : SO mi 0 own cc nL none pc nx (o_aload i)) (h : ls[i]? = some (some (.ref x))) (k : MG p l e R s m args below meth c Qm nL b0 ad cA D cells slots nx sh ls (.ref x :: st) mm) : MG p l e R s m args below meth c Qm nL b0 ad cA D cells slots pc sh ls st mm := ms_so E so no_C (by unfold o_aload; rw [h]; exact k)
theorem ms_astore {i x : Nat} {ls' : Lz} (E : Em p R s m args c nL b0 ad cA D own cc d) (so : SO mi 0 own cc nL none pc nx (o_astore i)) (h : prevok ls i = true) (hl : ls.set i (some (.ref x)) = ls') (k : MG p l e R s m args below meth c Qm nL b0 ad cA D cells slots nx sh ls' st mm) : MG p l e R s m args below meth c Qm nL b0 ad cA D cells slots pc sh ls (.ref x :: st) mm := ms_so E so no_C (by subst hl; unfold o_astore; simp only [h]; exact k)
theorem ms_iload {i : Nat} {x : Int32} (E : Em p R s m args c nL b0 ad cA D own cc d) (so : SO mi 0 own cc nL none pc nx (o_iload i)) (h : ls[i]? = some (some (.int x))) (k : MG p l e R s m args below meth c Qm nL b0 ad cA D cells slots nx sh ls (.int x :: st) mm) : MG p l e R s m args below meth c Qm nL b0 ad cA D cells slots pc sh ls st mm := ms_so E so no_C (by unfold o_iload; rw [h]; exact k)
theorem ms_istore {i : Nat} {x : Int32} {ls' : Lz} (E : Em p R s m args c nL b0 ad cA D own cc d) (so : SO mi 0 own cc nL none pc nx (o_istore i)) (h : prevok ls i = true) (hl : ls.set i (some (.int x)) = ls') (k : MG p l e R s m args below meth c Qm nL b0 ad cA D cells slots nx sh ls' st mm) : MG p l e R s m args below meth c Qm nL b0 ad cA D cells slots pc sh ls (.int x :: st) mm := ms_so E so no_C (by subst hl; unfold o_istore; simp only [h]; exact k)
theorem ms_iinc {i : Nat} {n x y : Int32} {ls' : Lz} (E : Em p R s m args c nL b0 ad cA D own cc d) (so : SO mi 0 own cc nL none pc nx (o_iinc i n)) (h0 : ls[i]? = some (some (.int x))) (h : prevok ls i = true) (hy : x + n = y) (hl : ls.set i (some (.int y)) = ls') (k : MG p l e R s m args below meth c Qm nL b0 ad cA D cells slots nx sh ls' st mm) : MG p l e R s m args below meth c Qm nL b0 ad cA D cells slots pc sh ls st mm := ms_so E so no_C (by subst hl; subst hy; unfold o_iinc; rw [h0]; simp only [h]; exact k)
theorem ms_dup {x : Nat} (E : Em p R s m args c nL b0 ad cA D own cc d) (so : SO mi 0 own cc nL none pc nx o_dup) (k : MG p l e R s m args below meth c Qm nL b0 ad cA D cells slots nx sh ls (.ref x :: .ref x :: st) mm) : MG p l e R s m args below meth c Qm nL b0 ad cA D cells slots pc sh ls (.ref x :: st) mm := ms_so E so no_C k
theorem ms_goto {t : Nat} (E : Em p R s m args c nL b0 ad cA D own cc d) (so : SO mi 0 own cc nL none pc nx (o_goto t)) (k : MG p l e R s m args below meth c Qm nL b0 ad cA D cells slots t sh ls st mm) : MG p l e R s m args below meth c Qm nL b0 ad cA D cells slots pc sh ls st mm := ms_so E so no_C k
theorem ms_if2 {f : Int32 → Int32 → Prop} {t : Nat} {x y : Int32} (E : Em p R s m args c nL b0 ad cA D own cc d) (so : SO mi 0 own cc nL none pc nx (o_if2 f t)) (h : f x y) (k : MG p l e R s m args below meth c Qm nL b0 ad cA D cells slots t sh ls st mm) : MG p l e R s m args below meth c Qm nL b0 ad cA D cells slots pc sh ls (.int y :: .int x :: st) mm := ms_so E so no_C ⟨fun _ => k, fun z => absurd h z⟩
theorem ms_if2n {f : Int32 → Int32 → Prop} {t : Nat} {x y : Int32} (E : Em p R s m args c nL b0 ad cA D own cc d) (so : SO mi 0 own cc nL none pc nx (o_if2 f t)) (h : ¬ f x y) (k : MG p l e R s m args below meth c Qm nL b0 ad cA D cells slots nx sh ls st mm) : MG p l e R s m args below meth c Qm nL b0 ad cA D cells slots pc sh ls (.int y :: .int x :: st) mm := ms_so E so no_C ⟨fun z => absurd z h, fun _ => k⟩
theorem ms_ii {f : Int32 → Int32 → Int32} {x y z : Int32} (E : Em p R s m args c nL b0 ad cA D own cc d) (so : SO mi 0 own cc nL none pc nx (o_ii f)) (hz : f x y = z) (k : MG p l e R s m args below meth c Qm nL b0 ad cA D cells slots nx sh ls (.int z :: st) mm) : MG p l e R s m args below meth c Qm nL b0 ad cA D cells slots pc sh ls (.int y :: .int x :: st) mm := ms_so E so no_C (by subst hz; exact k)
theorem ms_getf {ci j k0 dd : Nat} {fds : List Nat} {v : Value} (E : Em p R s m args c nL b0 ad cA D own cc d) (so : SO mi 0 own cc nL none pc nx (o_getf ci j)) (h1 : sh[k0]? = some (.inl (ci, fds))) (h2 : fds[j]? = some dd) (hv : fval mm k0 j dd = v) (k : MG p l e R s m args below meth c Qm nL b0 ad cA D cells slots nx sh ls (v :: st) mm) : MG p l e R s m args below meth c Qm nL b0 ad cA D cells slots pc sh ls (.ref k0 :: st) mm := ms_so E so no_C (by subst hv; unfold o_getf; simp only [h1, Nat.beq_refl, h2]; exact k)
theorem ms_puti {ci j k0 : Nat} {fds : List Nat} {v : Int32} (E : Em p R s m args c nL b0 ad cA D own cc d) (so : SO mi 0 own cc nL none pc nx (o_puti ci j)) (h1 : sh[k0]? = some (.inl (ci, fds))) (h2 : fds[j]? = some 0) (k : MG p l e R s m args below meth c Qm nL b0 ad cA D cells slots nx sh ls st (mu mm.1 k0 j v, mm.2)) : MG p l e R s m args below meth c Qm nL b0 ad cA D cells slots pc sh ls (.int v :: .ref k0 :: st) mm := ms_so E so no_C (by unfold o_puti; simp only [h1, Nat.beq_refl, h2]; exact k)
theorem ms_alen {a t : Nat} {rs : List Nat} {n : Int32} (E : Em p R s m args c nL b0 ad cA D own cc d) (so : SO mi 0 own cc nL none pc nx o_alen) (h1 : sh[a]? = some (.inr (.inr (t, rs)))) (ht : Nat.blt t 4 = true) (hn : nI rs.length = n) (k : MG p l e R s m args below meth c Qm nL b0 ad cA D cells slots nx sh ls (.int n :: st) mm) : MG p l e R s m args below meth c Qm nL b0 ad cA D cells slots pc sh ls (.ref a :: st) mm := ms_so E so no_C (by subst hn; unfold o_alen; simp only [h1, ht]; exact k)
theorem ms_iast {a n j : Nat} {i x : Int32} (E : Em p R s m args c nL b0 ad cA D own cc d) (so : SO mi 0 own cc nL none pc nx o_iast) (h1 : sh[a]? = some (.inr (.inl (0, n)))) (hv : vp_in i n) (hj : i.toNatClampNeg = j) (k : MG p l e R s m args below meth c Qm nL b0 ad cA D cells slots nx sh ls st (mu mm.1 a j x, mm.2)) : MG p l e R s m args below meth c Qm nL b0 ad cA D cells slots pc sh ls (.int x :: .int i :: .ref a :: st) mm := ms_so E so no_C (by subst hj; unfold o_iast; simp only [h1]; exact ⟨hv, k⟩)
def cds0 (y : Nat) : Nat × List (Nat × Op) := if y = 80 then (2, c_X5_add) else if y = 81 then (2, c_X5_endPart) else if y = 136 then (10, c_X7_spell) else (0, [])
theorem ok_cds0 (y : Nat) : (cds0 y).2 = [] ∨ MOK mi 0 cds0 y := by
  by_cases h1 : y = 80
  · subst h1; exact Or.inr ⟨ok_X5_add, rfl, rfl, by decide, by decide +kernel⟩
  by_cases h2 : y = 81
  · subst h2; exact Or.inr ⟨ok_X5_endPart, rfl, rfl, by decide, by decide +kernel⟩
  by_cases h3 : y = 136
  · subst h3; exact Or.inr ⟨ok_X7_spell, rfl, rfl, by decide, by decide +kernel⟩
  · exact Or.inl (by unfold cds0; rw [if_neg h1, if_neg h2, if_neg h3])
theorem ms_call {y n ci k0 : Nat} {fds : List Nat} {m1 : Mm} (E : Em p R s m args c nL b0 ad cA D own cc d) (so : SO mi 0 own cc nL none pc nx (o_callV y n ci)) {st0 : Sk} (hd : st0.drop n = .ref k0 :: st) (h1 : sh[k0]? = some (.inl (ci, fds))) (h3 : Nat.ble (catsum st) 8 = true) (hc : ∀ Q : Qr, Q none m1 → callT cds0 sh d y (.ref k0 :: (st0.take n).reverse) mm Q) (k : MG p l e R s m args below meth c Qm nL b0 ad cA D cells slots nx sh ls st m1) : MG p l e R s m args below meth c Qm nL b0 ad cA D cells slots pc sh ls st0 mm :=
  ms_so E so (fun y a mm Q' h => call_ok ok_cds0 l b0 ad cA D sh d y a mm Q' h) (by unfold o_callV; rw [hd]; simp only [h1, Nat.beq_refl, h3]; exact hc _ k)
theorem vS_up {A : Nat → Prop} {H0 H H1 : Heap} {locs : List Loc} (hS : va_S A H0 H locs) (z1 : H1.size = H.size + 1) (o1 : ∀ q, q < H.size → H1[q]? = H[q]?) : va_S A H0 H1 locs := ⟨Nat.le_trans hS.1 (by omega), fun x h1 h2 => (o1 x (Nat.lt_of_lt_of_le h1 hS.1)).trans (hS.2.1 x h1 h2), hS.2.2⟩
theorem ms_new {ci ix N q cells' slots' : Nat} {C0 : String} {T : u_T} {ty : Nat → FieldType} {fds : List Nat} (E : Em p R s m args c nL b0 ad cA D own cc d) (hc : vcl[ci]? = some (C0, T, N)) (hin : ∀ w ∈ u_ws C0 T N, w ∈ tT) (hty : ∀ k, k < N → parseFieldDescriptor (T k).2.2.1 = some (ty k)) (hcl : Cond.classLink own ix C0 ∈ tT) (hinst : Cond.instantiable C0 N ∈ tT) (hini : Cond.initialized C0 ∈ tT) (hfd : ∀ j, j < N → (fds[j]? = some 0 ∧ defaultValue (ty j) = .int 0) ∨ (fds[j]? = some 1 ∧ defaultValue (ty j) = .long 0) ∨ (fds[j]? = some 2 ∧ defaultValue (ty j) = .null)) (hd : decode cc pc = .ok (.new ix, 3)) (hq : sh.length = q) (hs : sh ++ [.inl (ci, fds)] = sh') (hce : cells + 1 = cells') (hsl : slots + N = slots') (hcell : cells' ≤ R.cells) (hslot : slots' ≤ R.slots) (hlen : sh'.length ≤ 999) (k : MG p l e R s m args below meth c Qm nL b0 ad cA D cells' slots' (pc + 3) sh' ls (.ref q :: st) (zr q mm)) : MG p l e R s m args below meth c Qm nL b0 ad cA D cells slots pc sh ls st mm := by
  subst hq; subst hs; subst hce; subst hsl
  intro _ _ _ H locs lsA hW hS hL
  have hKn := E.2.1.1.1 ci _ hc
  have hl : sh.length < 1000 := by simp only [List.length_append, List.length_cons, List.length_nil] at hlen; omega
  have hsz : H.size = ad sh.length := by rw [hW.2.2 rfl, E.2.1.2.1 _ hl]
  refine W.newcK E.1.1 E.1.2.1 E.1.2.2.2.1 (E.1.2.2.2.2 _ hcl) (E.1.2.2.2.2 _ hinst) (E.1.2.2.2.2 _ hini) rfl hd hcell hslot hKn.2.1 rfl (fun H1 kC hkC e1 z1 o1 => ?_)
  have hb := u_born ty E.1.2.2.2.2 hin hKn hkC e1 hty
  rw [hsz] at hb ⊢
  refine k hcell hslot hlen H1 locs lsA (Wd_push hW o1 z1 ⟨_, hc, hb.to (fun j hj => ?_)⟩) (vS_up hS z1 o1) hL
  rcases hfd j hj with ⟨h1, h2⟩ | ⟨h1, h2⟩ | ⟨h1, h2⟩ <;> simp [vp_V, List.getElem?_mapIdx, h1, h2, fval, zr, cv]
theorem ms_newa {t N q cells' slots' : Nat} {n : Int32} {ay : ArrayType} (E : Em p R s m args c nL b0 ad cA D own cc d) (harr : Cond.arrayClass (newarray.typeOf ay) ∈ tT) (ht : (t = 0 ∧ ay = .int) ∨ (t = 1 ∧ ay = .boolean)) (hn : ¬ n < 0) (hN : n.toNatClampNeg = N) (hb : N * componentBytes (newarray.typeOf ay) ≤ 536870912) (hd : decode cc pc = .ok (.newarray ay, 2)) (hq : sh.length = q) (hs : sh ++ [.inr (.inl (t, N))] = sh') (hce : cells + 1 = cells') (hsl : slots + N = slots') (hcell : cells' ≤ R.cells) (hslot : slots' ≤ R.slots) (hlen : sh'.length ≤ 999) (k : MG p l e R s m args below meth c Qm nL b0 ad cA D cells' slots' (pc + 2) sh' ls (.ref q :: st) (zr q mm)) : MG p l e R s m args below meth c Qm nL b0 ad cA D cells slots pc sh ls (.int n :: st) mm := by
  subst hq; subst hs; subst hce; subst hsl
  intro _ _ _ H locs lsA hW hS hL
  have hl : sh.length < 1000 := by simp only [List.length_append, List.length_cons, List.length_nil] at hlen; omega
  have hsz : H.size = ad sh.length := by rw [hW.2.2 rfl, E.2.1.2.1 _ hl]
  refine va_newaK E.1.1 E.1.2.1 (E.1.2.2.2.2 _ harr) rfl hd rfl hn hN hb hcell hslot rfl (fun H1 cB e1 z1 o1 hAr hNm => ?_)
  rw [hsz] at e1 ⊢
  refine k hcell hslot hlen H1 locs lsA (Wd_push hW o1 z1 ?_) (vS_up hS z1 o1) hL
  show H1[ad sh.length]? = some (vp_cell (cA t) (N, .inl ((zr sh.length mm).1 sh.length)))
  rw [e1, vp_cell_i]
  have hz : (zr sh.length mm).1 sh.length = fun _ => 0 := by simp [zr]
  rw [hz]
  rcases ht with ⟨rfl, rfl⟩ | ⟨rfl, rfl⟩
  · rw [Option.some.inj (hNm.symm.trans (E.2.1.1.2 0 _ (show (tys cA)[0]? = some (cA 0, .int) from rfl)).2)]
    rfl
  · rw [Option.some.inj (hNm.symm.trans (E.2.1.1.2 1 _ (show (tys cA)[1]? = some (cA 1, .boolean) from rfl)).2)]
    rfl
theorem ty_at {t : Nat} {C0 : String} (ht : tyOf t = .object C0) (ht4 : t < 4) : (tys cA)[t]? = some (cA t, .object C0) := by
  rw [← ht]
  rcases (show t = 0 ∨ t = 1 ∨ t = 2 ∨ t = 3 by omega) with rfl | rfl | rfl | rfl <;> rfl
theorem ms_anew {t N q ix cells' slots' : Nat} {n : Int32} {C0 : String} (E : Em p R s m args c nL b0 ad cA D own cc d) (ht : tyOf t = .object C0) (ht4 : t < 4) (hover : va_AO C0 s) (hcl : Cond.classLink own ix C0 ∈ tT) (hn : ¬ n < 0) (hN : n.toNatClampNeg = N) (hb : N * 4 ≤ 536870912) (hd : decode cc pc = .ok (.anewarray ix, 3)) (hq : sh.length = q) (hs : sh ++ [.inr (.inr (t, List.replicate N 2))] = sh') (hce : cells + 1 = cells') (hsl : slots + N = slots') (hcell : cells' ≤ R.cells) (hslot : slots' ≤ R.slots) (hlen : sh'.length ≤ 999) (k : MG p l e R s m args below meth c Qm nL b0 ad cA D cells' slots' (pc + 3) sh' ls (.ref q :: st) (zr q mm)) : MG p l e R s m args below meth c Qm nL b0 ad cA D cells slots pc sh ls (.int n :: st) mm := by
  subst hq; subst hs; subst hce; subst hsl; subst hN
  intro _ _ _ H locs lsA hW hS hL
  have hl : sh.length < 1000 := by simp only [List.length_append, List.length_cons, List.length_nil] at hlen; omega
  have hsz : H.size = ad sh.length := by rw [hW.2.2 rfl, E.2.1.2.1 _ hl]
  refine W.anew E.1.1 E.1.2.1 E.1.2.2.2.1 (E.1.2.2.2.2 _ hcl) (va_AO.use hover) rfl hd rfl hn hb hcell hslot (fun cB kA comp f1 f2 f3 f4 => ?_)
  generalize hH1 : H.push ({ cls := cB, slots := Array.replicate n.toNatClampNeg .null, vm := .none } : Cell) = H1
  have z1 : H1.size = H.size + 1 := by rw [← hH1, Array.size_push]
  have e1 : H1[H.size]? = some (arrV cB n.toNatClampNeg (fun _ => .null)) := by rw [← hH1, Array.getElem?_push_size, ← arrV_new]
  have o1 : ∀ q : Nat, q < H.size → H1[q]? = H[q]? := fun q hq => by rw [← hH1, Array.getElem?_push, if_neg (Nat.ne_of_lt hq)]
  rw [hsz] at e1 ⊢
  refine k hcell hslot hlen H1 locs lsA (Wd_push hW o1 z1 ?_) (vS_up hS z1 o1) hL
  show H1[ad sh.length]? = some (vp_cell (cA t) ((List.replicate n.toNatClampNeg 2).length, .inr (.inr (.inr (.inr (rfo ad (List.replicate n.toNatClampNeg 2)))))))
  obtain ⟨_, _, _, _, _, g4⟩ := (E.2.1.1.2 t _ (ty_at ht ht4)).2
  rw [e1, vp_cell_q, rfo_nil, List.length_replicate, Option.some.inj (f1.symm.trans g4)]
  rfl
theorem ms_putr {ci j ix N k0 k1 : Nat} {C0 : String} {T : u_T} {ty : FieldType} {fds : List Nat} (E : Em p R s m args c nL b0 ad cA D own cc d) (hi : meth.name = "<init>") (hc : vcl[ci]? = some (C0, T, N)) (hj : j < N) (hin : ∀ w ∈ u_ws C0 T N, w ∈ tT) (hw : Cond.fieldLink own ix (T j).1 (T j).2.1 (T j).2.2.1 ∈ tT) (ty0 : Nat → FieldType) (hty : ∀ k, k < N → parseFieldDescriptor (T k).2.2.1 = some (ty0 k)) (hnm : ∀ a, a < N → ∀ b, b < N → a ≠ b → (T a).2.1 ≠ (T b).2.1) (hfin : (T j).2.2.2 = true) (hdecl : (T j).1 = own) (hpd : parseFieldDescriptor (T j).2.2.1 = some ty) (hnr : ∀ a, narrow ty (.ref a) = .ref a) (hft : ∀ a, fits ty (.ref a) = true) (h1 : sh[k0]? = some (.inl (ci, fds))) (h2 : fds[j]? = some 2) (hd : decode cc pc = .ok (.putfield ix, 3)) (hs : sh.set k0 (.inl (ci, fds.set j (k1 + 3))) = sh') (k : MG p l e R s m args below meth c Qm nL b0 ad cA D cells slots (pc + 3) sh' ls st mm) : MG p l e R s m args below meth c Qm nL b0 ad cA D cells slots pc sh ls (.ref k1 :: .ref k0 :: st) mm := by
  subst hs
  intro hc1 hs1 hl1 H locs lsA hW hS hL
  have hD := wd_D (cA := cA) (m := mm) E.2.1.2.1 (show sh.length ≤ 1000 by omega)
  have he := wd_get (ad := ad) (cA := cA) (m := mm) h1
  have hjl : j < (fds.mapIdx (fun j d => cv ad (fval mm k0 j d))).length := by simpa using (List.getElem?_eq_some_iff.mp h2).1
  have hap := va_apart (own := own) E.1.2.2.2.2 hin ty0 hty hnm E.2.1.1 hc
  obtain ⟨q, g1, cell, q1, q2, q3, q4⟩ := hW.1 k0 _ he
  have hq : q = (C0, T, N) := Option.some.inj (g1.symm.trans hc)
  subst hq
  obtain ⟨hSl, hfc, kC, hkC, hkind⟩ := E.2.1.1.1 ci _ hc
  obtain ⟨cf, kf, fi, f, hfi, hsl⟩ := hSl j hj
  have hlay := E.1.2.2.2.2 _ (hin _ (u_in_lay hj))
  unfold u_lay at hlay
  rw [if_pos hfin] at hlay
  have hst := (u_facts hfc hkC (u_lays E.1.2.2.2.2 hin hj) hfi).1
  have hcf : m.cls = cf := by
    obtain ⟨_, _, c', _, _, _, -, -, hf', -, -, -, hown2, -⟩ := Cond.laysFinal_spec hlay
    have e1 : c' = cf := by have := hfi.symm.trans hf'; simp at this; exact this.1.symm
    rw [hdecl] at hown2
    rw [← e1]; exact Option.some.inj (E.1.2.2.2.1.symm.trans hown2)
  have h6 := u_fits hfc hkC hkind (Or.inr hlay) hfi hpd (hnr (ad k1)) (hft (ad k1))
  refine W.putFinK E.1.1 E.1.2.1 E.1.2.2.2.1 (E.1.2.2.2.2 _ hw) hfi hst hcf hi (by rw [q2]; exact h6) q1 q3 (by rw [hsl]; exact k2_hasslot (q4 j hj)) rfl rfl hd fun H' f1 f2 f3 => ?_
  rw [hsl] at f1 ⊢
  refine k hc1 hs1 (by rw [List.length_set]; exact hl1) H' _ lsA ⟨?_, by rw [f2, List.length_set]; exact hW.2.1, fun z => by rw [f2, List.length_set]; exact hW.2.2 z⟩ (hS.put f2 f3 (hD.2 k0 _ he)) hL
  rw [← wd_shp (c' := .inl (ci, fds.set j (k1 + 3))) h1]
  refine hW.1.set hD he ?_ f3
  show va_at D vcl (ad k0, .inr (ci, (fds.set j (k1 + 3)).mapIdx (fun j d => cv ad (fval mm k0 j d)))) H'
  rw [← fds_put h2]
  exact ⟨_, hc, t_OB.to (V := updV (vp_V (fds.mapIdx (fun j d => cv ad (fval mm k0 j d)))) j (.ref (ad k1))) ⟨_, f1, q2, q3, t_set q4 hap hj (.ref (ad k1))⟩ (fun i _ => vp_updV_set hjl (.ref (ad k1)) i)⟩
theorem ms_aast {a t k0 ci j : Nat} {rs vs : List Nat} {i : Int32} {r : vw_C} (E : Em p R s m args c nL b0 ad cA D own cc d) (ht : tyOf t = .object r.1) (ht4 : t < 4) (hc : vcl[ci]? = some r) (h1 : sh[a]? = some (.inr (.inr (t, rs)))) (h2 : sh[k0]? = some (.inl (ci, vs))) (hv : vp_in i rs.length) (hj : i.toNatClampNeg = j) (hd : decode cc pc = .ok (.aastore, 1)) (hs : sh.set a (.inr (.inr (t, rs.set j (k0 + 3)))) = sh') (k : MG p l e R s m args below meth c Qm nL b0 ad cA D cells slots (pc + 1) sh' ls st mm) : MG p l e R s m args below meth c Qm nL b0 ad cA D cells slots pc sh ls (.ref k0 :: .int i :: .ref a :: st) mm := by
  subst hs; subst hj
  intro hc1 hs1 hl1 H locs lsA hW hS hL
  have hD := wd_D (cA := cA) (m := mm) E.2.1.2.1 (show sh.length ≤ 1000 by omega)
  have ha := wd_get (ad := ad) (cA := cA) (m := mm) h1
  have hk := wd_get (ad := ad) (cA := cA) (m := mm) h2
  have hlt : i.toNatClampNeg < rs.length := Nat.not_le.mp fun q => hv (Or.inr q)
  have h0 : ¬ i < 0 := fun q => hv (Or.inl q)
  obtain ⟨r', hr', cellV, g1, g2, g3, -⟩ := hW.1 k0 _ hk
  have hcls := (E.2.1.1.1 ci r hc).2
  have hty := E.2.1.1.2 t _ (ty_at ht ht4)
  obtain ⟨kA, comp, k1, k2, k3, -⟩ := hty.2
  have hcomp : comp = D.1 ci := Option.some.inj (k3.symm.trans hcls.1)
  subst hcomp
  obtain ⟨kC, hkC, -⟩ := hcls.2
  refine W.aast E.1.1 E.1.2.1 (hW.1 a _ ha) (fun q h => by cases h) (fun h => by cases h) k1 k2 rfl hkC ⟨h0, by show _ < (arrV _ _ _).slots.size; rw [arrV_size]; exact hlt⟩ g1 (fun q h => by rw [g3] at h; cases h) (by rw [g2]; exact hkC) (by rw [g2]; exact va_assign hcls) rfl rfl hd fun H' f1 f2 f3 => ?_
  refine k hc1 hs1 (by rw [List.length_set]; exact hl1) H' _ lsA ⟨?_, by rw [f2, List.length_set]; exact hW.2.1, fun z => by rw [f2, List.length_set]; exact hW.2.2 z⟩ (hS.put f2 f3 (hD.2 a _ ha)) hL
  rw [← wd_shp (c' := .inr (.inr (t, rs.set i.toNatClampNeg (k0 + 3)))) h1]
  refine hW.1.set hD ha ?_ f3
  show H'[ad a]? = some (vp_cell (cA t) ((rs.set i.toNatClampNeg (k0 + 3)).length, .inr (.inr (.inr (.inr (rfo ad (rs.set i.toNatClampNeg (k0 + 3))))))))
  rw [f1, ← rfo_set hlt, List.length_set]
  show some ((vp_cell (cA t) (rs.length, .inr (.inr (.inr (.inr (rfo ad rs)))))).setSlot _ _) = _
  rw [vp_cell_q, vp_cell_q, arrV_store]
  congr 2
  funext q
  by_cases hq : q = i.toNatClampNeg
  · subst hq
    simp [updV, va_up, va_rf]
  · simp [updV, va_up, hq]
theorem ms_obj {ix k0 : Nat} (E : Em p R s m args c nL b0 ad cA D own cc d) (hlk : Cond.methodLink own ix Lib.objectInit ∈ tT) (hins : Cond.instanceMethod Lib.objectInit ∈ tT) (hcd : Cond.code Lib.objectInit ⟨#[0xb1]⟩ 1 none ∈ tT) (hd : decode cc pc = .ok (.invokespecial ix, 3)) (k : MG p l e R s m args below meth c Qm nL b0 ad cA D cells slots (pc + 3) sh ls [] mm) : MG p l e R s m args below meth c Qm nL b0 ad cA D cells slots pc sh ls [.ref k0] mm := by
  intro hc1 hs1 hl1 H locs lsA hW hS hL
  have hR := E.2.2
  refine W.objInit E.1.1 E.1.2.1 E.1.2.2.2.1 (E.1.2.2.2.2 _ hlk) (E.1.2.2.2.2 _ hins) (E.1.2.2.2.2 _ hcd) rfl (hL.1.trans E.1.2.2.1.symm) rfl hd (by omega) (by show 2 * 0 + 0 + 12 ≤ R.locals; omega) (k hc1 hs1 hl1 H locs lsA hW hS hL)
/-- a maker's contract -/
def CMk (l : Launch) (Z : State → Prop) (y : MethodName) (bytes : ByteArray) (mx d mc ms b0 : Nat) (ad : Nat → Nat) (cA : Nat → ClassId) (D : va_G) (k : Nat) (sh sh' : List Shp) (mm mm' : Mm) : Prop :=
  Met l y (Cond.code y bytes mx none :: tT) { frames := d, cells := mc, slots := ms, locals := 60 * d } (va_Pc [.ref (ad k)] (fun U => (FK b0 ad cA D U ∧ Z U) ∧ Wd 0 b0 ad cA D sh U.heap mm)) (fun _ st oc t => (oc = .returned none ∧ Wd 0 b0 ad cA D sh' t.heap mm') ∧ va_F (up0 b0) st t) mc ms (up0 b0)
theorem mk_of {Z : State → Prop} {y : MethodName} {bytes : ByteArray} {mx mc ms k : Nat} {sh sh' : List Shp} {mm mm' : Mm} (hpl : plainFor y = true) (hl : sh.length ≤ 999) (hmx : 1 ≤ mx ∧ mx ≤ 40) (hyi : y.name = "<init>")
    (body : ∀ (p : Program) (e : Env) (R : Room) (s : State) (m : MethodId) (args : Array Value) (below : List Frame) (meth : Method) (c : Code) (Qm : State → Prop), R.cells = mc → R.slots = ms → Em p R s m args c mx b0 ad cA D y.cls bytes d → meth.name = "<init>" → Z s → (∀ (pc : Nat) (ls : Lz), decode bytes pc = .ok (.return_, 1) → MG p l e R s m args below meth c Qm mx b0 ad cA D mc ms pc sh' ls [] mm') →
      MG p l e R s m args below meth c Qm mx b0 ad cA D 0 0 0 sh (entL mx [.ref k]) [] mm) : CMk l Z y bytes mx (d + 1) mc ms b0 ad cA D k sh sh' mm mm' := by
  unfold CMk
  refine va_MetF (cc := bytes) (maxL := mx) (ret := none) hpl rfl ?_
  intro p e s m args below meth c s₁ B hml hv
  obtain ⟨rfl, ⟨F, hZ⟩, hW⟩ := hv
  have hts := atoms_spec (ws := Cond.code y bytes mx none :: tT) B.pre
  have X : CallFix p m c bytes mx s [Value.ref (ad k)].toArray tT y.cls := ⟨B.exec, B.bytes, hml, findClass_of_methodNamed B.named, fun w hw => hts w (List.mem_cons_of_mem _ hw)⟩
  have hlocks := B.notSynchronized
  rw [lg_entry_eq]
  refine body p e (headSpec (Cond.code y bytes mx none :: tT) { frames := d + 1, cells := mc, slots := ms, locals := 60 * (d + 1) }).room s m _ below meth c _ rfl rfl ⟨X, F, Nat.le_refl _, hmx.2, Nat.le_refl _⟩ ((name_of_methodNamed B.named B.method).1.trans hyi) hZ (fun pc ls hd => ?_) (Nat.zero_le _) (Nat.zero_le _) hl s.heap [] _ hW va_S.rf (LH.start (a := [.ref k]) (Nat.ble_eq.mpr hmx.1))
  intro _ _ _ H locs lsA hW1 hS1 _
  exact W.vret X.1 X.2.1 B.returns (fun t ht hU => ⟨⟨rfl, by rw [ht]; exact hW1⟩, hS1.F ht⟩) hS1.2.2 hd
end MKG
