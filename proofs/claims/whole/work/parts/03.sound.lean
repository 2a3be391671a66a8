/-! WHAT THE ABSTRACT RUN IS ON THE MACHINE -/
def cv (ad : Nat → Nat) : Value → Value
  | .ref k => .ref (ad k)
  | v => v
def rfo (ad : Nat → Nat) (rs : List Nat) (j : Nat) : Option Nat := match rs[j]? with
  | some (d + 3) => some (ad d)
  | _ => none
def ce (ad : Nat → Nat) (cA : Nat → ClassId) (m : Mm) (k : Nat) : Shp → va_E
  | .inl (ci, fds) => .inr (ci, fds.mapIdx (fun j d => cv ad (fval m k j d)))
  | .inr (.inl (t, n)) => .inl (cA t, n, .inl (m.1 k))
  | .inr (.inr (t, rs)) => .inl (cA t, rs.length, .inr (.inr (.inr (.inr (rfo ad rs)))))
def wd (ad : Nat → Nat) (cA : Nat → ClassId) (sh : List Shp) (m : Mm) : va_W := sh.mapIdx (fun k c => (ad k, ce ad cA m k c))
def tyOf : Nat → FieldType
  | 0 => .int
  | 1 => .boolean
  | 2 => .object "SevenInTheHay$Text"
  | _ => .object "SevenInTheHay$Sheet"
def tys (cA : Nat → ClassId) : List (ClassId × FieldType) := [(cA 0, tyOf 0), (cA 1, tyOf 1), (cA 2, tyOf 2), (cA 3, tyOf 3)]
def Wd (ex b0 : Nat) (ad : Nat → Nat) (cA : Nat → ClassId) (D : va_G) (sh : List Shp) (H : Heap) (m : Mm) : Prop := va_P D vcl (wd ad cA sh m) H ∧ b0 + sh.length ≤ H.size ∧ (ex = 0 → H.size = b0 + sh.length)
/-- the locals -/
def LH (ad : Nat → Nat) (lsA : Array Slot) (nL : Nat) (ls : Lz) : Prop := lsA.size = nL ∧ lv_wf lsA ∧ ∀ (i : Nat) (v : Value), ls[i]? = some (some v) → lsA[i]? = some (.val (cv ad v))
def up0 (b0 : Nat) : Nat → Prop := fun q => b0 ≤ q
/-- what lies outside: two texts, one row of numbers, one static -/
def Ext (b0 : Nat) (ad : Nat → Nat) (U : State) (H : Heap) : Prop :=
  vk_S 2 [84, 8] [by0, by1] (fun i => ad (1000 + i)) (fun i => ad (1002 + i)) (up0 b0) U H ∧ vk_R RX1 ixA tx0 (ad 1000) U ∧ vk_R RX1 ixB tx1 (ad 1001) U ∧ va_Z RX6 "KIND_ABOVE" "[I" (.ref (ad 1004)) (up0 b0) U H ∧ va_T .int (ad 1004) 6 (fun j => .int (kab j)) (up0 b0) U H ∧ va_Z RJ0 "COMPACT_STRINGS" "Z" (.int 1) (up0 b0) U H ∧ (va_Z "jdk/internal/util/Preconditions" "SIOOBE_FORMATTER" "Ljava/util/function/BiFunction;" .null (up0 b0) U H ∨ va_Z "jdk/internal/util/Preconditions" "SIOOBE_FORMATTER" "Ljava/util/function/BiFunction;" (.ref (ad 1005)) (up0 b0) U H)
def Fx (b0 : Nat) (ad : Nat → Nat) (cA : Nat → ClassId) (D : va_G) (sh : List Shp) (U : State) (H : Heap) : Prop :=
  va_K D vcl (tys cA) U ∧ (∀ k, k < 1000 → ad k = b0 + k) ∧ sh.length ≤ 1000 ∧ b0 ≤ H.size ∧ Ext b0 ad U H
theorem Ext.moved {b0 : Nat} {ad : Nat → Nat} {u U : State} {H : Heap} (hvm : u.vm.Alike U.vm) (hR : ∀ own k tx a, vk_R own k tx a u → vk_R own k tx a U) (h : Ext b0 ad u H) : Ext b0 ad U H :=
  ⟨h.1.moved hvm, hR _ _ _ _ h.2.1, hR _ _ _ _ h.2.2.1, h.2.2.2.1.moved hvm, h.2.2.2.2.1.moved hvm, h.2.2.2.2.2.1.moved hvm, h.2.2.2.2.2.2.imp (fun z => z.moved hvm) (fun z => z.moved hvm)⟩
theorem Ext.kept {b0 : Nat} {ad : Nat → Nat} {U : State} {H H1 : Heap} (h : Ext b0 ad U H) (hq : ∀ a : Nat, a < H.size → ¬ up0 b0 a → H1[a]? = H[a]?) : Ext b0 ad U H1 :=
  ⟨h.1.kept hq, h.2.1, h.2.2.1, h.2.2.2.1.kept hq, h.2.2.2.2.1.kept hq, h.2.2.2.2.2.1.kept hq, h.2.2.2.2.2.2.imp (fun z => z.kept hq) (fun z => z.kept hq)⟩
theorem wd_get {ad : Nat → Nat} {cA : Nat → ClassId} {sh : List Shp} {m : Mm} {k : Nat} {c : Shp} (h : sh[k]? = some c) : (wd ad cA sh m)[k]? = some (ad k, ce ad cA m k c) := by
  simp [wd, List.getElem?_mapIdx, h]
theorem wd_len {ad : Nat → Nat} {cA : Nat → ClassId} {sh : List Shp} {m : Mm} : (wd ad cA sh m).length = sh.length := by simp [wd]
theorem wd_D {b0 : Nat} {ad : Nat → Nat} {cA : Nat → ClassId} {sh : List Shp} {m : Mm} (ha : ∀ k, k < 1000 → ad k = b0 + k) (hl : sh.length ≤ 1000) : va_D (up0 b0) (wd ad cA sh m) := by
  have key : ∀ (k : Nat) (q : Nat × va_E), (wd ad cA sh m)[k]? = some q → k < 1000 ∧ q.1 = b0 + k := by
    intro k q hq
    have hk : k < sh.length := by
      have := (List.getElem?_eq_some_iff.mp hq).1
      rwa [wd_len] at this
    have hg := wd_get (ad := ad) (cA := cA) (m := m) (List.getElem?_eq_getElem hk)
    rw [hg] at hq
    cases hq
    exact ⟨by omega, ha k (by omega)⟩
  refine ⟨fun i j p q hi hj e => ?_, fun k q hq => ?_⟩
  · have h1 := (key i p hi).2
    have h2 := (key j q hj).2
    omega
  · have h1 := (key k q hq).2
    show b0 ≤ q.1
    omega
/-- a world with one cell changed -/
theorem wd_set {ad : Nat → Nat} {cA : Nat → ClassId} {sh : List Shp} {m m' : Mm} {k : Nat} {c : Shp} {e : va_E} (h : sh[k]? = some c) (hc : ce ad cA m' k c = e) (ho : ∀ a, a ≠ k → m'.1 a = m.1 a ∧ m'.2 a = m.2 a) : (wd ad cA sh m).set k (ad k, e) = wd ad cA sh m' := by
  apply List.ext_getElem?
  intro i
  have hk : k < sh.length := (List.getElem?_eq_some_iff.mp h).1
  by_cases hi : i = k
  · subst hi
    rw [List.getElem?_set_self (by rw [wd_len]; exact hk), wd_get h, hc]
  · rw [List.getElem?_set_ne (Ne.symm hi)]
    simp only [wd, List.getElem?_mapIdx]
    cases hs : sh[i]? with
    | none => rfl
    | some c2 =>
      simp only [Option.map_some]
      congr 2
      obtain ⟨h1, h2⟩ := ho i hi
      rcases c2 with ⟨ci, fds⟩ | ⟨t, n⟩ | ⟨t, rs⟩
      · simp only [ce]
        congr 2
        apply List.ext_getElem?
        intro j
        simp only [List.getElem?_mapIdx]
        cases fds[j]? with
        | none => rfl
        | some d =>
          simp only [Option.map_some]
          match d with
          | 0 => simp [fval, h1]
          | 1 => simp [fval, h2]
          | 2 => rfl
          | d + 3 => rfl
      · simp only [ce, h1]
      · rfl
theorem vS_here {A : Nat → Prop} {H0 H : Heap} {locs : List Loc} (h : va_S A H0 H locs) : va_S A H H locs := ⟨Nat.le_refl _, fun _ _ _ => rfl, h.2.2⟩
theorem vS_tr {A : Nat → Prop} {H0 H H1 : Heap} {locs locs1 : List Loc} (h : va_S A H0 H locs) (h' : va_S A H H1 locs1) : va_S A H0 H1 locs1 := ⟨Nat.le_trans h.1 h'.1, fun q a b => (h'.2.1 q (Nat.lt_of_lt_of_le a h.1) b).trans (h.2.1 q a b), h'.2.2⟩
section SND
/-- the machine goes on from here as the abstract run does -/
def G (p : Program) (l : Launch) (e : Env) (R : Room) (s : State) (m : MethodId) (args : Array Value) (below : List Frame) (meth : Method) (c : Code) (Qm : State → Prop) (nL : Nat) (ex b0 : Nat) (ad : Nat → Nat) (cA : Nat → ClassId) (D : va_G) (sh : List Shp) (cells slots : Nat) (pc : Nat) (ls : Lz) (st : Sk) (mm : Mm) : Prop :=
  ∀ (H : Heap) (locs : List Loc) (lsA : Array Slot), Wd ex b0 ad cA D sh H mm → va_S (up0 b0) s.heap H locs → LH ad lsA nL ls → W p l e R s m args below meth c H locs cells slots Qm (F0 m pc lsA (st.map (cv ad)))
/-- what a return asks -/
def RetOK (ret : Option FieldType) (cc : ByteArray) (p : Program) (l : Launch) (e : Env) (R : Room) (s : State) (m : MethodId) (args : Array Value) (below : List Frame) (meth : Method) (c : Code) (Qm : State → Prop) (ex b0 : Nat) (ad : Nat → Nat) (cA : Nat → ClassId) (D : va_G) (sh : List Shp) (cells slots : Nat) (Q : Qr) : Prop :=
  ∀ (mm : Mm) (H : Heap) (locs : List Loc) (lsA : Array Slot) (pc : Nat), Wd ex b0 ad cA D sh H mm → va_S (up0 b0) s.heap H locs →
    (∀ (v : Int32) (ty : FieldType), ret = some ty → narrow ty (.int v) = .int v → Q (some (.int v)) mm → decode cc pc = .ok (.ireturn, 1) → W p l e R s m args below meth c H locs cells slots Qm (F0 m pc lsA [.int v])) ∧
    (∀ (v : Int64), ret = some .long → Q (some (.long v)) mm → decode cc pc = .ok (.lreturn, 1) → W p l e R s m args below meth c H locs cells slots Qm (F0 m pc lsA [.long v])) ∧
    (∀ (v : Value) (ty : FieldType), ret = some ty → ((∃ n, ty = .object n) ∨ ∃ t, ty = .array t) → (v = .null ∨ ∃ a, v = .ref a) → Q (some v) mm → decode cc pc = .ok (.areturn, 1) → W p l e R s m args below meth c H locs cells slots Qm (F0 m pc lsA [cv ad v])) ∧
    (ret = none → Q none mm → decode cc pc = .ok (.return_, 1) → W p l e R s m args below meth c H locs cells slots Qm (F0 m pc lsA []))
/-- a method's contract on the machine -/
def CMet (mi : Nat → MethodName × ByteArray × Nat × Option FieldType) (l : Launch) (ex b0 : Nat) (ad : Nat → Nat) (cA : Nat → ClassId) (D : va_G) (sh : List Shp) (d y : Nat) (a : List Value) (mm : Mm) (Q : Qr) : Prop :=
  Met l (mi y).1 (Cond.code (mi y).1 (mi y).2.1 (mi y).2.2.1 (mi y).2.2.2 :: tT) { frames := d, cells := 0, slots := 0, locals := 60 * d } (va_Pc (a.map (cv ad)) (fun U => Fx b0 ad cA D sh U U.heap ∧ Wd ex b0 ad cA D sh U.heap mm))
    (fun _ st oc t => (∃ (r : Option Value) (m' : Mm), Q r m' ∧ oc = .returned (r.map (cv ad)) ∧ Wd ex b0 ad cA D sh t.heap m') ∧ va_F (up0 b0) st t) 0 0 (up0 b0)
/-- a step is right at its place -/
def SO (mi : Nat → MethodName × ByteArray × Nat × Option FieldType) (ex : Nat) (own : String) (cc : ByteArray) (nL : Nat) (ret : Option FieldType) (pc nx : Nat) (op : Op) : Prop :=
  ∀ (p : Program) (l : Launch) (e : Env) (R : Room) (s : State) (m : MethodId) (args : Array Value) (below : List Frame) (meth : Method) (c : Code) (Qm : State → Prop) (b0 : Nat) (ad : Nat → Nat) (cA : Nat → ClassId) (D : va_G) (sh : List Shp) (cells slots d : Nat) (C : Cr) (Q : Qr),
    CallFix p m c cc nL s args tT own → Fx b0 ad cA D sh s s.heap → (d + 1 ≤ R.frames ∧ nL ≤ 40 ∧ 60 * (d + 1) ≤ R.locals ∧ cells ≤ R.cells ∧ slots ≤ R.slots) →
    (∀ (y : Nat) (a : List Value) (mm : Mm) (Q' : Qr), C y a mm Q' → CMet mi l ex b0 ad cA D sh d y a mm Q') →
    RetOK ret cc p l e R s m args below meth c Qm ex b0 ad cA D sh cells slots Q →
    ∀ (ls : Lz) (st : Sk) (mm : Mm) (kn : Kn) (kt : Nat → Kn), op sh C Q ls st mm kn kt →
      (∀ ls st mm, kn ls st mm → G p l e R s m args below meth c Qm nL ex b0 ad cA D sh cells slots nx ls st mm) →
      (∀ t ls st mm, kt t ls st mm → G p l e R s m args below meth c Qm nL ex b0 ad cA D sh cells slots t ls st mm) →
      G p l e R s m args below meth c Qm nL ex b0 ad cA D sh cells slots pc ls st mm
variable {mi : Nat → MethodName × ByteArray × Nat × Option FieldType} {own : String} {cc : ByteArray} {nL : Nat} {ret : Option FieldType} {pc nx : Nat}
theorem cv_cat {ad : Nat → Nat} (v : Value) : (cv ad v).category = v.category := by cases v <;> rfl
def ent (ad : Nat → Nat) (ls : Lz) : List (Nat × Value) := ls.zipIdx.filterMap (fun q => q.1.map (fun v => (q.2, cv ad v)))
theorem ent_mem {ad : Nat → Nat} {ls : Lz} {q : Nat × Value} : q ∈ ent ad ls ↔ ∃ v, ls[q.1]? = some (some v) ∧ q.2 = cv ad v := by
  unfold ent
  rw [List.mem_filterMap]
  constructor
  · rintro ⟨⟨o, i⟩, h1, h2⟩
    cases o with
    | none => simp at h2
    | some v =>
      simp only [Option.map_some, Option.some.injEq] at h2
      subst h2
      exact ⟨v, List.mem_zipIdx_iff_getElem?.mp h1, rfl⟩
  · rintro ⟨v, h1, h2⟩
    refine ⟨(some v, q.1), List.mem_zipIdx_iff_getElem?.mpr h1, ?_⟩
    simp [← h2]
theorem LH.has {ad : Nat → Nat} {lsA : Array Slot} {nL : Nat} {ls : Lz} (h : LH ad lsA nL ls) : lv_has lsA nL (ent ad ls) := by
  refine ⟨h.1, h.2.1, fun q hq => ?_⟩
  obtain ⟨v, h1, h2⟩ := ent_mem.mp hq
  rw [h2]
  exact h.2.2 _ _ h1
theorem LH.at1 {ad : Nat → Nat} {lsA : Array Slot} {nL : Nat} {ls : Lz} (h : LH ad lsA nL ls) {i : Nat} {v : Value} (hv : ls[i]? = some (some v)) : lsA[i]? = some (.val (cv ad v)) := h.2.2 i v hv
theorem LH.set1 {ad : Nat → Nat} {ls' : Array Slot} {nL : Nat} {ls : Lz} {i : Nat} {v : Value} (hp : prevok ls i = true)
    (h' : lv_has ls' nL ((i, cv ad v) :: (ent ad ls).filter (fun q => !(q.1 == i) && !(q.1 + 1 == i && q.2.category == 2)))) : LH ad ls' nL (ls.set i (some v)) := by
  refine ⟨h'.1, h'.2.1, fun j w hj => ?_⟩
  refine h'.2.2 (j, cv ad w) ?_
  by_cases hji : j = i
  · subst hji
    rw [List.getElem?_set] at hj
    simp only [if_true] at hj
    split at hj
    · simp only [Option.some.injEq] at hj
      subst hj
      exact List.mem_cons_self
    · cases hj
  · rw [List.getElem?_set_ne (Ne.symm hji)] at hj
    refine List.mem_cons_of_mem _ (List.mem_filter.mpr ⟨ent_mem.mpr ⟨w, hj, rfl⟩, ?_⟩)
    have e1 : (j == i) = false := by simpa using hji
    rw [e1]
    by_cases h2 : j + 1 = i
    · subst h2
      have : w.category = 1 := by
        simp only [prevok, hj] at hp
        cases w <;> first | rfl | simp at hp
      simp [cv_cat, this]
    · have e2 : (j + 1 == i) = false := by simpa using h2
      simp [e2]
theorem LH.set2 {ad : Nat → Nat} {ls' : Array Slot} {nL : Nat} {ls : Lz} {i : Nat} {v : Value} (hp : prevok ls i = true)
    (h' : lv_has ls' nL ((i, cv ad v) :: (ent ad ls).filter (fun q => !(q.1 == i) && (!(q.1 == i + 1) && !(q.1 + 1 == i && q.2.category == 2))))) : LH ad ls' nL ((ls.set i (some v)).set (i + 1) none) := by
  refine ⟨h'.1, h'.2.1, fun j w hj => ?_⟩
  refine h'.2.2 (j, cv ad w) ?_
  by_cases hj1 : j = i + 1
  · subst hj1
    rw [List.getElem?_set] at hj
    simp only [if_true] at hj
    split at hj
    · simp at hj
    · cases hj
  rw [List.getElem?_set_ne (Ne.symm hj1)] at hj
  by_cases hji : j = i
  · subst hji
    rw [List.getElem?_set] at hj
    simp only [if_true] at hj
    split at hj
    · simp only [Option.some.injEq] at hj
      subst hj
      exact List.mem_cons_self
    · cases hj
  · rw [List.getElem?_set_ne (Ne.symm hji)] at hj
    refine List.mem_cons_of_mem _ (List.mem_filter.mpr ⟨ent_mem.mpr ⟨w, hj, rfl⟩, ?_⟩)
    have e1 : (j == i) = false := by simpa using hji
    have e3 : (j == i + 1) = false := by simpa using hj1
    rw [e1, e3]
    by_cases h2 : j + 1 = i
    · subst h2
      have : w.category = 1 := by
        simp only [prevok, hj] at hp
        cases w <;> first | rfl | simp at hp
      simp [cv_cat, this]
    · have e2 : (j + 1 == i) = false := by simpa using h2
      simp [e2]
end SND
