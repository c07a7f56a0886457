/-! ROWS OVER A MAP: the world as a map from addresses to cells; every row of the kit that reads or writes the heap, said of the map -/
abbrev Mp : Type := Nat → Option va_E
def mU (M : Mp) (a : Nat) (x : va_E) : Mp := fun b => if b = a then some x else M b
theorem mU_s (M : Mp) (a : Nat) (x : va_E) : mU M a x a = some x := by simp [mU]
theorem mU_n (M : Mp) {a b : Nat} (x : va_E) (h : b ≠ a) : mU M a x b = M b := by simp [mU, h]
theorem mU_mU (M : Mp) (a : Nat) (x y : va_E) : mU (mU M a x) a y = mU M a y := by
  funext b; simp only [mU]; split <;> rfl
theorem mU_self {M : Mp} {a : Nat} {x : va_E} (h : M a = some x) : mU M a x = M := by
  funext b; simp only [mU]; split
  · rename_i q; rw [q, h]
  · rfl
theorem mU_at {M : Mp} {a b : Nat} {x y : va_E} (h : mU M a x b = some y) : (b = a ∧ x = y) ∨ (b ≠ a ∧ M b = some y) := by
  by_cases q : b = a
  · subst q; rw [mU_s] at h; exact Or.inl ⟨rfl, Option.some.inj h⟩
  · rw [mU_n _ _ q] at h; exact Or.inr ⟨q, h⟩
def mL (L : List Nat) (f : Nat → va_E) : Mp := fun a => if a ∈ L then some (f a) else none
theorem mL_some {L : List Nat} {f : Nat → va_E} {a : Nat} {x : va_E} (h : mL L f a = some x) : a ∈ L ∧ f a = x := by
  unfold mL at h
  split at h
  · rename_i q; exact ⟨q, Option.some.inj h⟩
  · cases h
theorem mL_up {L : List Nat} {f : Nat → va_E} {a : Nat} {x : va_E} (h : a ∈ L) : mL L (va_up f a x) = mU (mL L f) a x := by
  funext b
  by_cases q : b = a
  · subst q; rw [mU_s]; simp [mL, h, va_up_self]
  · rw [mU_n _ _ q]; simp [mL, va_up_ne _ _ q]
theorem mL_push {L : List Nat} {f : Nat → va_E} {a : Nat} {x : va_E} : mL (L ++ [a]) (va_up f a x) = mU (mL L f) a x := by
  funext b
  by_cases q : b = a
  · subst q; rw [mU_s]; simp [mL, va_up_self]
  · rw [mU_n _ _ q]; simp [mL, va_up_ne _ _ q, q]
/-- the world: the heap H holds the map M, whose cells lie from z on; since H0 nothing below z has changed -/
def wd (D : va_G) (cl : List vw_C) (z : Nat) (M : Mp) (H0 H : Heap) (locs : List Loc) : Prop :=
  ∃ (L : List Nat) (f : Nat → va_E), M = mL L f ∧ va_P D cl ([] ++ va_pl L f) H ∧ va_D (fun q => z ≤ q) ([] ++ va_pl L f) ∧ va_S (fun q => z ≤ q) H0 H locs ∧ z ≤ H0.size
theorem wd.lt {D : va_G} {cl : List vw_C} {z : Nat} {M : Mp} {H0 H : Heap} {locs : List Loc} (h : wd D cl z M H0 H locs) {a : Nat} {x : va_E} (hM : M a = some x) : a < H.size := by
  obtain ⟨L, f, rfl, hP, hD, hS, hz⟩ := h
  obtain ⟨hm, -⟩ := mL_some hM
  exact va_pl_lt hP hm
theorem wd.ge {D : va_G} {cl : List vw_C} {z : Nat} {M : Mp} {H0 H : Heap} {locs : List Loc} (h : wd D cl z M H0 H locs) {a : Nat} {x : va_E} (hM : M a = some x) : z ≤ a := by
  obtain ⟨L, f, rfl, hP, hD, hS, hz⟩ := h
  obtain ⟨hm, -⟩ := mL_some hM
  obtain ⟨k, hk⟩ := va_pl_get (X := []) (f := f) hm
  exact hD.2 k _ hk
theorem wd.S {D : va_G} {cl : List vw_C} {z : Nat} {M : Mp} {H0 H : Heap} {locs : List Loc} (h : wd D cl z M H0 H locs) : va_S (fun q => z ≤ q) H0 H locs := by
  obtain ⟨L, f, -, -, -, hS, -⟩ := h; exact hS
theorem wd.at {D : va_G} {cl : List vw_C} {z : Nat} {M : Mp} {H0 H : Heap} {locs : List Loc} (h : wd D cl z M H0 H locs) {a : Nat} {x : va_E} (hM : M a = some x) : va_at D cl (a, x) H := by
  obtain ⟨L, f, rfl, hP, hD, hS, hz⟩ := h
  obtain ⟨hm, he⟩ := mL_some hM
  obtain ⟨k, hk⟩ := va_pl_get (X := []) (f := f) hm
  rw [he] at hk
  exact hP k _ hk
/-- the same world, said from here on -/
theorem wd.now {D : va_G} {cl : List vw_C} {z : Nat} {M : Mp} {H0 H : Heap} {locs : List Loc} (h : wd D cl z M H0 H locs) : wd D cl z M H H [] := by
  obtain ⟨L, f, h1, hP, hD, hS, hz⟩ := h
  exact ⟨L, f, h1, hP, hD, va_S.rf, Nat.le_trans hz hS.1⟩
/-- a world that came back from a call -/
theorem wd.back {D : va_G} {cl : List vw_C} {z : Nat} {M M' : Mp} {H0 H H1 H2 : Heap} {locs locs1 l2 : List Loc} (h : wd D cl z M H0 H locs) (h' : wd D cl z M' H2 H1 l2) (hS : va_S (fun q => z ≤ q) H0 H1 locs1) : wd D cl z M' H0 H1 locs1 := by
  obtain ⟨L, f, h1, hP, hD, -, -⟩ := h'
  obtain ⟨-, -, -, -, -, -, hz⟩ := h
  exact ⟨L, f, h1, hP, hD, hS, hz⟩
theorem wd.new {D : va_G} {cl : List vw_C} {z : Nat} {L : List Nat} {f : Nat → va_E} {H0 H H1 : Heap} {locs : List Loc} {q : Nat} {x : va_E} (hq : q ∉ L) (hP : va_P D cl (([] ++ va_pl L f) ++ [(q, x)]) H1) (hD : va_D (fun q => z ≤ q) (([] ++ va_pl L f) ++ [(q, x)])) (hS : va_S (fun q => z ≤ q) H0 H1 locs) (hz : z ≤ H0.size) : wd D cl z (mU (mL L f) q x) H0 H1 locs := by
  rw [List.append_assoc, va_pl_push hq] at hP hD
  exact ⟨L ++ [q], va_up f q x, mL_push.symm, hP, hD, hS, hz⟩
theorem wd.set {D : va_G} {cl : List vw_C} {z : Nat} {L : List Nat} {f : Nat → va_E} {H0 H1 : Heap} {locs : List Loc} {a k : Nat} {x y : va_E} (ha : a ∈ L) (hy : f a = y) (hk : ([] ++ va_pl L f)[k]? = some (a, y)) (hD0 : va_D (fun q => z ≤ q) ([] ++ va_pl L f)) (hP : va_P D cl (([] ++ va_pl L f).set k (a, x)) H1) (hD : va_D (fun q => z ≤ q) (([] ++ va_pl L f).set k (a, x))) (hS : va_S (fun q => z ≤ q) H0 H1 locs) (hz : z ≤ H0.size) : wd D cl z (mU (mL L f) a x) H0 H1 locs := by
  subst hy
  rw [va_pl_set hD0 ha hk] at hP hD
  exact ⟨L, va_up f a x, (mL_up ha).symm, hP, hD, hS, hz⟩
section HM
variable {p : Program} {l : Launch} {e : Env} {R : Room} {s : State} {m : MethodId} {args : Array Value} {below : List Frame} {meth : Method} {c : Code} {H : Heap} {locs : List Loc} {cells slots : Nat} {Q : State → Prop}
variable {cc : ByteArray} {pc : Nat} {ls : Array Slot} {rest : List Value} {D : va_G} {cl : List vw_C} {a z : Nat} {tys : List (ClassId × FieldType)} {M : Mp} {H0 : Heap}
variable {own ref C : String} {T : u_T} {N ci index : Nat} {Ts : List Cond}
/-- a method's surroundings: the machine, its code, its class, the words, the classes known -/
def Cx (p : Program) (s : State) (m : MethodId) (args : Array Value) (c : Code) (cc : ByteArray) (own : String) (Ts : List Cond) (D : va_G) (cl : List vw_C) (tys : List (ClassId × FieldType)) : Prop :=
  p.tables.exec = Jvm.exec ∧ c.code = cc ∧ s.vm.findClass own = some m.cls ∧ (∀ w ∈ Ts, w.before args s = true) ∧ va_K D cl tys s
theorem h_get (X : Cx p s m args c cc own Ts D cl tys) (hin : ∀ w ∈ u_ws C T N, w ∈ Ts) (hc : cl[ci]? = some (C, T, N)) (k : Nat) (hk : k < N) (hlink : Cond.fieldLink own index ref (T k).2.1 (T k).2.2.1 ∈ Ts) (hsame : ∀ x, s.fieldFound? (T k).1 (T k).2.1 (T k).2.2.1 = some x → s.fieldFound? ref (T k).2.1 (T k).2.2.1 = some x)
    (hw : wd D cl z M H0 H locs) {fs : List Value} (hM : M a = some (.inr (ci, fs))) {v : Value} (hv : fs[k]? = some v) (hdg : decode cc pc = .ok (.getfield index, 3))
    (kk : W p l e R s m args below meth c H locs cells slots Q (F0 m (pc + 3) ls (v :: rest))) : W p l e R s m args below meth c H locs cells slots Q (F0 m pc ls (.ref a :: rest)) := by
  obtain ⟨hx, hb, hown, hts, hK⟩ := X
  obtain ⟨L, f, rfl, hP, hD, hS, hz⟩ := hw
  obtain ⟨hm, he⟩ := mL_some hM
  obtain ⟨q0, hq⟩ := va_pl_get (X := []) (f := f) hm
  rw [he] at hq
  exact va_get hx hb hts hin hown hK hP q0 hq hc k hk (hts _ hlink) hsame hv hdg kk
theorem h_getN {host : String} (X : Cx p s m args c cc own Ts D cl tys) (hin : ∀ w ∈ u_ws C T N, w ∈ Ts) (hc : cl[ci]? = some (C, T, N)) (k : Nat) (hk : k < N) (hlink : Cond.fieldLinkNest own index ref (T k).2.1 (T k).2.2.1 host ∈ Ts) (hsame : ∀ x, s.fieldFound? (T k).1 (T k).2.1 (T k).2.2.1 = some x → s.fieldFound? ref (T k).2.1 (T k).2.2.1 = some x)
    (hw : wd D cl z M H0 H locs) {fs : List Value} (hM : M a = some (.inr (ci, fs))) {v : Value} (hv : fs[k]? = some v) (hdg : decode cc pc = .ok (.getfield index, 3))
    (kk : W p l e R s m args below meth c H locs cells slots Q (F0 m (pc + 3) ls (v :: rest))) : W p l e R s m args below meth c H locs cells slots Q (F0 m pc ls (.ref a :: rest)) := by
  obtain ⟨hx, hb, hown, hts, hK⟩ := X
  obtain ⟨L, f, rfl, hP, hD, hS, hz⟩ := hw
  obtain ⟨hm, he⟩ := mL_some hM
  obtain ⟨q0, hq⟩ := va_pl_get (X := []) (f := f) hm
  rw [he] at hq
  exact va_getN hx hb hts hin hown hK hP q0 hq hc k hk (hts _ hlink) hsame hv hdg kk
theorem h_put (X : Cx p s m args c cc own Ts D cl tys) (hin : ∀ w ∈ u_ws C T N, w ∈ Ts) (hc : cl[ci]? = some (C, T, N)) (ty0 : Nat → FieldType) (hty : ∀ k, k < N → parseFieldDescriptor (T k).2.2.1 = some (ty0 k)) (hnm : ∀ a, a < N → ∀ b, b < N → a ≠ b → (T a).2.1 ≠ (T b).2.1) (k : Nat) (hk : k < N) (hlink : Cond.fieldLink own index ref (T k).2.1 (T k).2.2.1 ∈ Ts) (hsame : ∀ x, s.fieldFound? (T k).1 (T k).2.1 (T k).2.2.1 = some x → s.fieldFound? ref (T k).2.1 (T k).2.2.1 = some x) (hfin : (T k).2.2.2 = false)
    (hw : wd D cl z M H0 H locs) {fs : List Value} (hM : M a = some (.inr (ci, fs))) {ty : FieldType} {v : Value} (hd : parseFieldDescriptor (T k).2.2.1 = some ty) (hn : narrow ty v = v) (hfit : fits ty v = true) (hl : k < fs.length) (hdg : decode cc pc = .ok (.putfield index, 3))
    (kk : ∀ (H1 : Heap) (locs1 : List Loc), wd D cl z (mU M a (.inr (ci, fs.set k v))) H0 H1 locs1 → W p l e R s m args below meth c H1 locs1 cells slots Q (F0 m (pc + 3) ls rest)) : W p l e R s m args below meth c H locs cells slots Q (F0 m pc ls (v :: .ref a :: rest)) := by
  obtain ⟨hx, hb, hown, hts, hK⟩ := X
  obtain ⟨L, f, rfl, hP, hD, hS, hz⟩ := hw
  obtain ⟨hm, he⟩ := mL_some hM
  obtain ⟨q0, hq⟩ := va_pl_get (X := []) (f := f) hm
  rw [he] at hq
  exact va_put hx hb hts hin ty0 hty hnm hown hK hP hD hS q0 hq hc k hk (hts _ hlink) hsame hfin hd hn hfit hl hdg (fun H1 locs1 h1 h2 h3 => kk H1 locs1 (wd.set hm he hq hD h1 h2 h3 hz))
theorem h_putN {host : String} (X : Cx p s m args c cc own Ts D cl tys) (hin : ∀ w ∈ u_ws C T N, w ∈ Ts) (hc : cl[ci]? = some (C, T, N)) (ty0 : Nat → FieldType) (hty : ∀ k, k < N → parseFieldDescriptor (T k).2.2.1 = some (ty0 k)) (hnm : ∀ a, a < N → ∀ b, b < N → a ≠ b → (T a).2.1 ≠ (T b).2.1) (k : Nat) (hk : k < N) (hlink : Cond.fieldLinkNest own index ref (T k).2.1 (T k).2.2.1 host ∈ Ts) (hsame : ∀ x, s.fieldFound? (T k).1 (T k).2.1 (T k).2.2.1 = some x → s.fieldFound? ref (T k).2.1 (T k).2.2.1 = some x) (hfin : (T k).2.2.2 = false)
    (hw : wd D cl z M H0 H locs) {fs : List Value} (hM : M a = some (.inr (ci, fs))) {ty : FieldType} {v : Value} (hd : parseFieldDescriptor (T k).2.2.1 = some ty) (hn : narrow ty v = v) (hfit : fits ty v = true) (hl : k < fs.length) (hdg : decode cc pc = .ok (.putfield index, 3))
    (kk : ∀ (H1 : Heap) (locs1 : List Loc), wd D cl z (mU M a (.inr (ci, fs.set k v))) H0 H1 locs1 → W p l e R s m args below meth c H1 locs1 cells slots Q (F0 m (pc + 3) ls rest)) : W p l e R s m args below meth c H locs cells slots Q (F0 m pc ls (v :: .ref a :: rest)) := by
  obtain ⟨hx, hb, hown, hts, hK⟩ := X
  obtain ⟨L, f, rfl, hP, hD, hS, hz⟩ := hw
  obtain ⟨hm, he⟩ := mL_some hM
  obtain ⟨q0, hq⟩ := va_pl_get (X := []) (f := f) hm
  rw [he] at hq
  exact va_putN hx hb hts hin ty0 hty hnm hown hK hP hD hS q0 hq hc k hk (hts _ hlink) hsame hfin hd hn hfit hl hdg (fun H1 locs1 h1 h2 h3 => kk H1 locs1 (wd.set hm he hq hD h1 h2 h3 hz))
theorem h_putF (X : Cx p s m args c cc own Ts D cl tys) (hin : ∀ w ∈ u_ws C T N, w ∈ Ts) (hc : cl[ci]? = some (C, T, N)) (ty0 : Nat → FieldType) (hty : ∀ k, k < N → parseFieldDescriptor (T k).2.2.1 = some (ty0 k)) (hnm : ∀ a, a < N → ∀ b, b < N → a ≠ b → (T a).2.1 ≠ (T b).2.1) (k : Nat) (hk : k < N) (hlink : Cond.fieldLink own index ref (T k).2.1 (T k).2.2.1 ∈ Ts) (hsame : ∀ x, s.fieldFound? (T k).1 (T k).2.1 (T k).2.2.1 = some x → s.fieldFound? ref (T k).2.1 (T k).2.2.1 = some x) (hfin : (T k).2.2.2 = true) (hin2 : meth.name = "<init>") (hdecl : (T k).1 = own)
    (hw : wd D cl z M H0 H locs) {fs : List Value} (hM : M a = some (.inr (ci, fs))) {ty : FieldType} {v : Value} (hd : parseFieldDescriptor (T k).2.2.1 = some ty) (hn : narrow ty v = v) (hfit : fits ty v = true) (hl : k < fs.length) (hdg : decode cc pc = .ok (.putfield index, 3))
    (kk : ∀ (H1 : Heap) (locs1 : List Loc), wd D cl z (mU M a (.inr (ci, fs.set k v))) H0 H1 locs1 → W p l e R s m args below meth c H1 locs1 cells slots Q (F0 m (pc + 3) ls rest)) : W p l e R s m args below meth c H locs cells slots Q (F0 m pc ls (v :: .ref a :: rest)) := by
  obtain ⟨hx, hb, hown, hts, hK⟩ := X
  obtain ⟨L, f, rfl, hP, hD, hS, hz⟩ := hw
  obtain ⟨hm, he⟩ := mL_some hM
  obtain ⟨q0, hq⟩ := va_pl_get (X := []) (f := f) hm
  rw [he] at hq
  exact va_putF hx hb hts hin ty0 hty hnm hown hK hP hD hS q0 hq hc k hk (hts _ hlink) hsame hfin hin2 hdecl hd hn hfit hl hdg (fun H1 locs1 h1 h2 h3 => kk H1 locs1 (wd.set hm he hq hD h1 h2 h3 hz))
theorem h_iald (X : Cx p s m args c cc own Ts D cl tys) (t0 : Nat) {cA : ClassId} (ht : tys[t0]? = some (cA, .int)) (hw : wd D cl z M H0 H locs) {n : Nat} {f : Nat → Int32} (hM : M a = some (.inl (cA, n, .inl f))) {i : Int32} (hin : vp_in i n) (hdg : decode cc pc = .ok (.iaload, 1))
    (kk : W p l e R s m args below meth c H locs cells slots Q (F0 m (pc + 1) ls (.int (f i.toNatClampNeg) :: rest))) : W p l e R s m args below meth c H locs cells slots Q (F0 m pc ls (.int i :: .ref a :: rest)) := by
  obtain ⟨hx, hb, hown, hts, hK⟩ := X
  obtain ⟨L, g, rfl, hP, hD, hS, hz⟩ := hw
  obtain ⟨hm, he⟩ := mL_some hM
  obtain ⟨q0, hq⟩ := va_pl_get (X := []) (f := g) hm
  rw [he] at hq
  exact va_iald hx hb hK hP q0 t0 hq ht hin hdg kk
theorem h_bald (X : Cx p s m args c cc own Ts D cl tys) (t0 : Nat) {cA : ClassId} (ht : tys[t0]? = some (cA, .byte)) (hw : wd D cl z M H0 H locs) {n : Nat} {f : Nat → Int32} (hM : M a = some (.inl (cA, n, .inl f))) {i : Int32} (hin : vp_in i n) (hdg : decode cc pc = .ok (.baload, 1))
    (kk : W p l e R s m args below meth c H locs cells slots Q (F0 m (pc + 1) ls (.int (f i.toNatClampNeg) :: rest))) : W p l e R s m args below meth c H locs cells slots Q (F0 m pc ls (.int i :: .ref a :: rest)) := by
  obtain ⟨hx, hb, hown, hts, hK⟩ := X
  obtain ⟨L, g, rfl, hP, hD, hS, hz⟩ := hw
  obtain ⟨hm, he⟩ := mL_some hM
  obtain ⟨q0, hq⟩ := va_pl_get (X := []) (f := g) hm
  rw [he] at hq
  exact va_bald hx hb hK hP q0 t0 hq ht hin hdg kk
theorem h_zald (X : Cx p s m args c cc own Ts D cl tys) (t0 : Nat) {cA : ClassId} (ht : tys[t0]? = some (cA, .boolean)) (hw : wd D cl z M H0 H locs) {n : Nat} {f : Nat → Int32} (hM : M a = some (.inl (cA, n, .inl f))) {i : Int32} (hin : vp_in i n) (hdg : decode cc pc = .ok (.baload, 1))
    (kk : W p l e R s m args below meth c H locs cells slots Q (F0 m (pc + 1) ls (.int (f i.toNatClampNeg) :: rest))) : W p l e R s m args below meth c H locs cells slots Q (F0 m pc ls (.int i :: .ref a :: rest)) := by
  obtain ⟨hx, hb, hown, hts, hK⟩ := X
  obtain ⟨L, g, rfl, hP, hD, hS, hz⟩ := hw
  obtain ⟨hm, he⟩ := mL_some hM
  obtain ⟨q0, hq⟩ := va_pl_get (X := []) (f := g) hm
  rw [he] at hq
  exact va_zald hx hb hK hP q0 t0 hq ht hin hdg kk
theorem h_cald (X : Cx p s m args c cc own Ts D cl tys) (t0 : Nat) {cA : ClassId} (ht : tys[t0]? = some (cA, .char)) (hw : wd D cl z M H0 H locs) {n : Nat} {f : Nat → Int32} (hM : M a = some (.inl (cA, n, .inl f))) {i : Int32} (hin : vp_in i n) (hdg : decode cc pc = .ok (.caload, 1))
    (kk : W p l e R s m args below meth c H locs cells slots Q (F0 m (pc + 1) ls (.int (f i.toNatClampNeg) :: rest))) : W p l e R s m args below meth c H locs cells slots Q (F0 m pc ls (.int i :: .ref a :: rest)) := by
  obtain ⟨hx, hb, hown, hts, hK⟩ := X
  obtain ⟨L, g, rfl, hP, hD, hS, hz⟩ := hw
  obtain ⟨hm, he⟩ := mL_some hM
  obtain ⟨q0, hq⟩ := va_pl_get (X := []) (f := g) hm
  rw [he] at hq
  exact va_cald hx hb hK hP q0 t0 hq ht hin hdg kk
theorem h_sald (X : Cx p s m args c cc own Ts D cl tys) (t0 : Nat) {cA : ClassId} (ht : tys[t0]? = some (cA, .short)) (hw : wd D cl z M H0 H locs) {n : Nat} {f : Nat → Int32} (hM : M a = some (.inl (cA, n, .inl f))) {i : Int32} (hin : vp_in i n) (hdg : decode cc pc = .ok (.saload, 1))
    (kk : W p l e R s m args below meth c H locs cells slots Q (F0 m (pc + 1) ls (.int (f i.toNatClampNeg) :: rest))) : W p l e R s m args below meth c H locs cells slots Q (F0 m pc ls (.int i :: .ref a :: rest)) := by
  obtain ⟨hx, hb, hown, hts, hK⟩ := X
  obtain ⟨L, g, rfl, hP, hD, hS, hz⟩ := hw
  obtain ⟨hm, he⟩ := mL_some hM
  obtain ⟨q0, hq⟩ := va_pl_get (X := []) (f := g) hm
  rw [he] at hq
  exact va_sald hx hb hK hP q0 t0 hq ht hin hdg kk
theorem h_fald (X : Cx p s m args c cc own Ts D cl tys) (t0 : Nat) {cA : ClassId} (ht : tys[t0]? = some (cA, .float)) (hw : wd D cl z M H0 H locs) {n : Nat} {f : Nat → UInt32} (hM : M a = some (.inl (cA, n, .inr (.inr (.inl f))))) {i : Int32} (hin : vp_in i n) (hdg : decode cc pc = .ok (.faload, 1))
    (kk : W p l e R s m args below meth c H locs cells slots Q (F0 m (pc + 1) ls (.float (f i.toNatClampNeg) :: rest))) : W p l e R s m args below meth c H locs cells slots Q (F0 m pc ls (.int i :: .ref a :: rest)) := by
  obtain ⟨hx, hb, hown, hts, hK⟩ := X
  obtain ⟨L, g, rfl, hP, hD, hS, hz⟩ := hw
  obtain ⟨hm, he⟩ := mL_some hM
  obtain ⟨q0, hq⟩ := va_pl_get (X := []) (f := g) hm
  rw [he] at hq
  exact va_fald hx hb hK hP q0 t0 hq ht hin hdg kk
theorem h_aldq (X : Cx p s m args c cc own Ts D cl tys) (t0 : Nat) {cA : ClassId} {E : String} (ht : tys[t0]? = some (cA, .object E)) (hw : wd D cl z M H0 H locs) {n : Nat} {f : Nat → Option Nat} (hM : M a = some (.inl (cA, n, .inr (.inr (.inr (.inr f)))))) {i : Int32} (hin : vp_in i n) (hdg : decode cc pc = .ok (.aaload, 1))
    (kk : W p l e R s m args below meth c H locs cells slots Q (F0 m (pc + 1) ls (va_rf (f i.toNatClampNeg) :: rest))) : W p l e R s m args below meth c H locs cells slots Q (F0 m pc ls (.int i :: .ref a :: rest)) := by
  obtain ⟨hx, hb, hown, hts, hK⟩ := X
  obtain ⟨L, g, rfl, hP, hD, hS, hz⟩ := hw
  obtain ⟨hm, he⟩ := mL_some hM
  obtain ⟨q0, hq⟩ := va_pl_get (X := []) (f := g) hm
  rw [he] at hq
  exact va_aldq hx hb hK hP q0 t0 hq ht hin hdg kk
theorem h_alen (X : Cx p s m args c cc own Ts D cl tys) (t0 : Nat) {cA : ClassId} {ty : FieldType} (ht : tys[t0]? = some (cA, ty)) (hw : wd D cl z M H0 H locs) {x : vp_A} (hM : M a = some (.inl (cA, x))) {v : Int32} (hv : Int32.ofNat x.1 = v) (hdg : decode cc pc = .ok (.arraylength, 1))
    (kk : W p l e R s m args below meth c H locs cells slots Q (F0 m (pc + 1) ls (.int v :: rest))) : W p l e R s m args below meth c H locs cells slots Q (F0 m pc ls (.ref a :: rest)) := by
  obtain ⟨hx, hb, hown, hts, hK⟩ := X
  obtain ⟨L, g, rfl, hP, hD, hS, hz⟩ := hw
  obtain ⟨hm, he⟩ := mL_some hM
  obtain ⟨q0, hq⟩ := va_pl_get (X := []) (f := g) hm
  rw [he] at hq
  exact va_alen hx hb hK hP q0 t0 hq ht hv hdg kk
theorem h_iast (X : Cx p s m args c cc own Ts D cl tys) (t0 : Nat) {cA : ClassId} (ht : tys[t0]? = some (cA, .int)) (hw : wd D cl z M H0 H locs) {n : Nat} {f : Nat → Int32} (hM : M a = some (.inl (cA, n, .inl f))) {i x : Int32} (hin : vp_in i n) (hdg : decode cc pc = .ok (.iastore, 1))
    (kk : ∀ (H1 : Heap) (locs1 : List Loc), wd D cl z (mU M a (.inl (cA, n, .inl (upd f i.toNatClampNeg x)))) H0 H1 locs1 → W p l e R s m args below meth c H1 locs1 cells slots Q (F0 m (pc + 1) ls rest)) : W p l e R s m args below meth c H locs cells slots Q (F0 m pc ls (.int x :: .int i :: .ref a :: rest)) := by
  obtain ⟨hx, hb, hown, hts, hK⟩ := X
  obtain ⟨L, g, rfl, hP, hD, hS, hz⟩ := hw
  obtain ⟨hm, he⟩ := mL_some hM
  obtain ⟨q0, hq⟩ := va_pl_get (X := []) (f := g) hm
  rw [he] at hq
  exact va_iast hx hb hK hP hD hS q0 t0 hq ht hin hdg (fun H1 locs1 h1 h2 h3 => kk H1 locs1 (wd.set hm he hq hD h1 h2 h3 hz))
theorem h_bast (X : Cx p s m args c cc own Ts D cl tys) (t0 : Nat) {cA : ClassId} (ht : tys[t0]? = some (cA, .byte)) (hw : wd D cl z M H0 H locs) {n : Nat} {f : Nat → Int32} (hM : M a = some (.inl (cA, n, .inl f))) {i x : Int32} (hin : vp_in i n) (hdg : decode cc pc = .ok (.bastore, 1))
    (kk : ∀ (H1 : Heap) (locs1 : List Loc), wd D cl z (mU M a (.inl (cA, n, .inl (upd f i.toNatClampNeg (vp_nar .byte x))))) H0 H1 locs1 → W p l e R s m args below meth c H1 locs1 cells slots Q (F0 m (pc + 1) ls rest)) : W p l e R s m args below meth c H locs cells slots Q (F0 m pc ls (.int x :: .int i :: .ref a :: rest)) := by
  obtain ⟨hx, hb, hown, hts, hK⟩ := X
  obtain ⟨L, g, rfl, hP, hD, hS, hz⟩ := hw
  obtain ⟨hm, he⟩ := mL_some hM
  obtain ⟨q0, hq⟩ := va_pl_get (X := []) (f := g) hm
  rw [he] at hq
  exact va_bast hx hb hK hP hD hS q0 t0 hq ht hin hdg (fun H1 locs1 h1 h2 h3 => kk H1 locs1 (wd.set hm he hq hD h1 h2 h3 hz))
theorem h_zast (X : Cx p s m args c cc own Ts D cl tys) (t0 : Nat) {cA : ClassId} (ht : tys[t0]? = some (cA, .boolean)) (hw : wd D cl z M H0 H locs) {n : Nat} {f : Nat → Int32} (hM : M a = some (.inl (cA, n, .inl f))) {i x : Int32} (hin : vp_in i n) (hdg : decode cc pc = .ok (.bastore, 1))
    (kk : ∀ (H1 : Heap) (locs1 : List Loc), wd D cl z (mU M a (.inl (cA, n, .inl (upd f i.toNatClampNeg (vp_nar .boolean x))))) H0 H1 locs1 → W p l e R s m args below meth c H1 locs1 cells slots Q (F0 m (pc + 1) ls rest)) : W p l e R s m args below meth c H locs cells slots Q (F0 m pc ls (.int x :: .int i :: .ref a :: rest)) := by
  obtain ⟨hx, hb, hown, hts, hK⟩ := X
  obtain ⟨L, g, rfl, hP, hD, hS, hz⟩ := hw
  obtain ⟨hm, he⟩ := mL_some hM
  obtain ⟨q0, hq⟩ := va_pl_get (X := []) (f := g) hm
  rw [he] at hq
  exact va_zast hx hb hK hP hD hS q0 t0 hq ht hin hdg (fun H1 locs1 h1 h2 h3 => kk H1 locs1 (wd.set hm he hq hD h1 h2 h3 hz))
theorem h_cast (X : Cx p s m args c cc own Ts D cl tys) (t0 : Nat) {cA : ClassId} (ht : tys[t0]? = some (cA, .char)) (hw : wd D cl z M H0 H locs) {n : Nat} {f : Nat → Int32} (hM : M a = some (.inl (cA, n, .inl f))) {i x : Int32} (hin : vp_in i n) (hdg : decode cc pc = .ok (.castore, 1))
    (kk : ∀ (H1 : Heap) (locs1 : List Loc), wd D cl z (mU M a (.inl (cA, n, .inl (upd f i.toNatClampNeg (vp_nar .char x))))) H0 H1 locs1 → W p l e R s m args below meth c H1 locs1 cells slots Q (F0 m (pc + 1) ls rest)) : W p l e R s m args below meth c H locs cells slots Q (F0 m pc ls (.int x :: .int i :: .ref a :: rest)) := by
  obtain ⟨hx, hb, hown, hts, hK⟩ := X
  obtain ⟨L, g, rfl, hP, hD, hS, hz⟩ := hw
  obtain ⟨hm, he⟩ := mL_some hM
  obtain ⟨q0, hq⟩ := va_pl_get (X := []) (f := g) hm
  rw [he] at hq
  exact va_cast hx hb hK hP hD hS q0 t0 hq ht hin hdg (fun H1 locs1 h1 h2 h3 => kk H1 locs1 (wd.set hm he hq hD h1 h2 h3 hz))
theorem h_sast (X : Cx p s m args c cc own Ts D cl tys) (t0 : Nat) {cA : ClassId} (ht : tys[t0]? = some (cA, .short)) (hw : wd D cl z M H0 H locs) {n : Nat} {f : Nat → Int32} (hM : M a = some (.inl (cA, n, .inl f))) {i x : Int32} (hin : vp_in i n) (hdg : decode cc pc = .ok (.sastore, 1))
    (kk : ∀ (H1 : Heap) (locs1 : List Loc), wd D cl z (mU M a (.inl (cA, n, .inl (upd f i.toNatClampNeg (vp_nar .short x))))) H0 H1 locs1 → W p l e R s m args below meth c H1 locs1 cells slots Q (F0 m (pc + 1) ls rest)) : W p l e R s m args below meth c H locs cells slots Q (F0 m pc ls (.int x :: .int i :: .ref a :: rest)) := by
  obtain ⟨hx, hb, hown, hts, hK⟩ := X
  obtain ⟨L, g, rfl, hP, hD, hS, hz⟩ := hw
  obtain ⟨hm, he⟩ := mL_some hM
  obtain ⟨q0, hq⟩ := va_pl_get (X := []) (f := g) hm
  rw [he] at hq
  exact va_sast hx hb hK hP hD hS q0 t0 hq ht hin hdg (fun H1 locs1 h1 h2 h3 => kk H1 locs1 (wd.set hm he hq hD h1 h2 h3 hz))
theorem h_fast (X : Cx p s m args c cc own Ts D cl tys) (t0 : Nat) {cA : ClassId} (ht : tys[t0]? = some (cA, .float)) (hw : wd D cl z M H0 H locs) {n : Nat} {f : Nat → UInt32} (hM : M a = some (.inl (cA, n, .inr (.inr (.inl f))))) {i : Int32} {x : UInt32} (hin : vp_in i n) (hdg : decode cc pc = .ok (.fastore, 1))
    (kk : ∀ (H1 : Heap) (locs1 : List Loc), wd D cl z (mU M a (.inl (cA, n, .inr (.inr (.inl (vf_upd f i.toNatClampNeg x)))))) H0 H1 locs1 → W p l e R s m args below meth c H1 locs1 cells slots Q (F0 m (pc + 1) ls rest)) : W p l e R s m args below meth c H locs cells slots Q (F0 m pc ls (.float x :: .int i :: .ref a :: rest)) := by
  obtain ⟨hx, hb, hown, hts, hK⟩ := X
  obtain ⟨L, g, rfl, hP, hD, hS, hz⟩ := hw
  obtain ⟨hm, he⟩ := mL_some hM
  obtain ⟨q0, hq⟩ := va_pl_get (X := []) (f := g) hm
  rw [he] at hq
  exact va_fast hx hb hK hP hD hS q0 t0 hq ht hin hdg (fun H1 locs1 h1 h2 h3 => kk H1 locs1 (wd.set hm he hq hD h1 h2 h3 hz))
theorem h_fresh {L : List Nat} {g : Nat → va_E} {q : Nat} {x : va_E} {A : Nat → Prop} (h2 : va_D A (([] ++ va_pl L g) ++ [(q, x)])) : q ∉ L := by
  intro hm
  obtain ⟨k, hk⟩ := va_pl_get (X := []) (f := g) hm
  have hl := (List.getElem?_eq_some_iff.mp hk).1
  have e1 : (([] ++ va_pl L g) ++ [(q, x)])[k]? = some (q, g q) := by rw [List.getElem?_append_left hl]; exact hk
  have e2 : (([] ++ va_pl L g) ++ [(q, x)])[([] ++ va_pl L g).length]? = some (q, x) := by rw [List.getElem?_append_right (Nat.le_refl _)]; simp
  have := h2.1 k _ _ _ e1 e2 rfl
  omega
theorem mL_none {L : List Nat} {g : Nat → va_E} {q : Nat} (h : q ∉ L) : mL L g q = none := by simp [mL, h]
theorem h_new (X : Cx p s m args c cc own Ts D cl tys) (hin : ∀ w ∈ u_ws C T N, w ∈ Ts) (hc : cl[ci]? = some (C, T, N)) (ty : Nat → FieldType) (hty : ∀ k, k < N → parseFieldDescriptor (T k).2.2.1 = some (ty k)) (hcl : Cond.classLink own index C ∈ Ts) (hinst : Cond.instantiable C N ∈ Ts) (hini : Cond.initialized C ∈ Ts)
    (hw : wd D cl z M H0 H locs) {fs : List Value} (hfs : ∀ j, j < N → defaultValue (ty j) = vp_V fs j) (hcells : cells + 1 ≤ R.cells) (hslots : slots + N ≤ R.slots) (hdg : decode cc pc = .ok (.new index, 3))
    (kk : ∀ (q : Nat) (H1 : Heap), M q = none → wd D cl z (mU M q (.inr (ci, fs))) H0 H1 locs →
      W p l e R s m args below meth c H1 locs (cells + 1) (slots + N) Q (F0 m (pc + 3) ls (.ref q :: rest))) : W p l e R s m args below meth c H locs cells slots Q (F0 m pc ls rest) := by
  obtain ⟨hx, hb, hown, hts, hK⟩ := X
  obtain ⟨L, g, rfl, hP, hD, hS, hz⟩ := hw
  exact va_new hx hb hts hin ty hty hown (hts _ hcl) (hts _ hinst) (hts _ hini) hK hP hD hS (fun q h => Nat.le_trans hz h) hc hfs hcells hslots hdg (fun q H1 h1 h2 h3 => kk q H1 (mL_none (h_fresh h2)) (wd.new (h_fresh h2) h1 h2 h3 hz))
theorem h_newa (X : Cx p s m args c cc own Ts D cl tys) {atype : ArrayType} (harr : Cond.arrayClass (newarray.typeOf atype) ∈ Ts) {ty : FieldType} (hty : newarray.typeOf atype = ty) (t0 : Nat) {cA : ClassId} (ht : tys[t0]? = some (cA, ty)) (hno : ∀ x, ty ≠ .object x)
    (hw : wd D cl z M H0 H locs) {n : Int32} {N' : Nat} {a0 : vp_A} (ha : ∀ cA : ClassId, vp_cell cA a0 = arrV cA N' (fun _ => defaultValue ty)) (hn : ¬ n < 0) (hN : n.toNatClampNeg = N') (hbytes : N' * componentBytes ty ≤ 536870912) (hcells : cells + 1 ≤ R.cells) (hslots : slots + N' ≤ R.slots) (hdg : decode cc pc = .ok (.newarray atype, 2))
    (kk : ∀ (q : Nat) (H1 : Heap), M q = none → wd D cl z (mU M q (.inl (cA, a0))) H0 H1 locs →
      W p l e R s m args below meth c H1 locs (cells + 1) (slots + N') Q (F0 m (pc + 2) ls (.ref q :: rest))) : W p l e R s m args below meth c H locs cells slots Q (F0 m pc ls (.int n :: rest)) := by
  obtain ⟨hx, hb, hown, hts, hK⟩ := X
  obtain ⟨L, g, rfl, hP, hD, hS, hz⟩ := hw
  refine va_newa hx hb (hts _ harr) hty hK hP hD hS (fun q h => Nat.le_trans hz h) ha hn hN hbytes hcells hslots hdg (fun q cB H1 h0 h1 h2 h3 => ?_)
  have e : cB = cA := by
    have q1 := (hK.2 t0 _ ht).2
    have q2 := (h0.2 tys.length (cB, ty) (by simp)).2
    cases ty with
    | object x => exact absurd rfl (hno x)
    | _ => exact Option.some.inj (q2.symm.trans q1)
  subst e
  exact kk q H1 (mL_none (h_fresh h2)) (wd.new (h_fresh h2) h1 h2 h3 hz)
theorem h_newq (X : Cx p s m args c cc own Ts D cl tys) {E : String} (hclink : Cond.classLink own index E ∈ Ts) (hover : Cond.arrayOver (.object E) ∈ Ts) (t0 : Nat) {cA : ClassId} (ht : tys[t0]? = some (cA, .object E))
    (hw : wd D cl z M H0 H locs) {n : Int32} {N' : Nat} (hn : ¬ n < 0) (hN : n.toNatClampNeg = N') (hbytes : N' * 4 ≤ 536870912) (hcells : cells + 1 ≤ R.cells) (hslots : slots + N' ≤ R.slots) (hdg : decode cc pc = .ok (.anewarray index, 3))
    (kk : ∀ (q : Nat) (H1 : Heap), M q = none → wd D cl z (mU M q (.inl (cA, N', .inr (.inr (.inr (.inr (fun _ => none))))))) H0 H1 locs →
      W p l e R s m args below meth c H1 locs (cells + 1) (slots + N') Q (F0 m (pc + 3) ls (.ref q :: rest))) : W p l e R s m args below meth c H locs cells slots Q (F0 m pc ls (.int n :: rest)) := by
  obtain ⟨hx, hb, hown, hts, hK⟩ := X
  obtain ⟨L, g, rfl, hP, hD, hS, hz⟩ := hw
  refine va_newq hx hb hown (hts _ hclink) (va_AO.of (hts _ hover)) hK hP hD hS (fun q h => Nat.le_trans hz h) hn hN hbytes hcells hslots hdg (fun q cB H1 h0 h1 h2 h3 => ?_)
  have e : cB = cA := by
    obtain ⟨_, _, -, -, -, q1⟩ := (hK.2 t0 _ ht).2
    obtain ⟨_, _, -, -, -, q2⟩ := (h0.2 tys.length (cB, .object E) (by simp)).2
    exact Option.some.inj (q2.symm.trans q1)
  subst e
  exact kk q H1 (mL_none (h_fresh h2)) (wd.new (h_fresh h2) h1 h2 h3 hz)
theorem h_astq (X : Cx p s m args c cc own Ts D cl tys) (t0 : Nat) {cA : ClassId} {r : vw_C} (ht : tys[t0]? = some (cA, .object r.1)) (hc : cl[ci]? = some r) (hw : wd D cl z M H0 H locs) {n v : Nat} {vs : List Value} {f : Nat → Option Nat} (hM : M a = some (.inl (cA, n, .inr (.inr (.inr (.inr f)))))) (hV : M v = some (.inr (ci, vs))) {i : Int32} (hin : vp_in i n) (hdg : decode cc pc = .ok (.aastore, 1))
    (kk : ∀ (H1 : Heap) (locs1 : List Loc), wd D cl z (mU M a (.inl (cA, n, .inr (.inr (.inr (.inr (va_up f i.toNatClampNeg (some v)))))))) H0 H1 locs1 → W p l e R s m args below meth c H1 locs1 cells slots Q (F0 m (pc + 1) ls rest)) : W p l e R s m args below meth c H locs cells slots Q (F0 m pc ls (.ref v :: .int i :: .ref a :: rest)) := by
  obtain ⟨hx, hb, hown, hts, hK⟩ := X
  obtain ⟨L, g, rfl, hP, hD, hS, hz⟩ := hw
  obtain ⟨hm, he⟩ := mL_some hM
  obtain ⟨q0, hq⟩ := va_pl_get (X := []) (f := g) hm
  rw [he] at hq
  obtain ⟨hm2, he2⟩ := mL_some hV
  obtain ⟨q2, hq2⟩ := va_pl_get (X := []) (f := g) hm2
  rw [he2] at hq2
  exact va_astq hx hb hK hP hD hS q0 t0 q2 ci hq ht hq2 hc hin hdg (fun H1 locs1 h1 h2 h3 => kk H1 locs1 (wd.set hm he hq hD h1 h2 h3 hz))
theorem h_lald (X : Cx p s m args c cc own Ts D cl tys) (t0 : Nat) {cA : ClassId} (ht : tys[t0]? = some (cA, .long)) (hw : wd D cl z M H0 H locs) {n : Nat} {f : Nat → Int64} (hM : M a = some (.inl (cA, n, .inr (.inl f)))) {i : Int32} (hin : vp_in i n) (hdg : decode cc pc = .ok (.laload, 1))
    (kk : W p l e R s m args below meth c H locs cells slots Q (F0 m (pc + 1) ls (.long (f i.toNatClampNeg) :: rest))) : W p l e R s m args below meth c H locs cells slots Q (F0 m pc ls (.int i :: .ref a :: rest)) := by
  obtain ⟨hx, hb, hown, hts, hK⟩ := X
  obtain ⟨L, g, rfl, hP, hD, hS, hz⟩ := hw
  obtain ⟨hm, he⟩ := mL_some hM
  obtain ⟨q0, hq⟩ := va_pl_get (X := []) (f := g) hm
  rw [he] at hq
  exact va_lald hx hb hK hP q0 t0 hq ht hin hdg kk
theorem h_last (X : Cx p s m args c cc own Ts D cl tys) (t0 : Nat) {cA : ClassId} (ht : tys[t0]? = some (cA, .long)) (hw : wd D cl z M H0 H locs) {n : Nat} {f : Nat → Int64} (hM : M a = some (.inl (cA, n, .inr (.inl f)))) {i : Int32} {x : Int64} (hin : vp_in i n) (hdg : decode cc pc = .ok (.lastore, 1))
    (kk : ∀ (H1 : Heap) (locs1 : List Loc), wd D cl z (mU M a (.inl (cA, n, .inr (.inl (vp_updL f i.toNatClampNeg x))))) H0 H1 locs1 → W p l e R s m args below meth c H1 locs1 cells slots Q (F0 m (pc + 1) ls rest)) : W p l e R s m args below meth c H locs cells slots Q (F0 m pc ls (.long x :: .int i :: .ref a :: rest)) := by
  obtain ⟨hx, hb, hown, hts, hK⟩ := X
  obtain ⟨L, g, rfl, hP, hD, hS, hz⟩ := hw
  obtain ⟨hm, he⟩ := mL_some hM
  obtain ⟨q0, hq⟩ := va_pl_get (X := []) (f := g) hm
  rw [he] at hq
  exact va_last hx hb hK hP hD hS q0 t0 hq ht hin hdg (fun H1 locs1 h1 h2 h3 => kk H1 locs1 (wd.set hm he hq hD h1 h2 h3 hz))
theorem h_aldA (X : Cx p s m args c cc own Ts D cl tys) (t0 : Nat) {cA : ClassId} {ty : FieldType} (ht : tys[t0]? = some (cA, .array ty)) (hw : wd D cl z M H0 H locs) {n : Nat} {f : Nat → Option Nat} (hM : M a = some (.inl (cA, n, .inr (.inr (.inr (.inr f)))))) {i : Int32} (hin : vp_in i n) (hdg : decode cc pc = .ok (.aaload, 1))
    (kk : W p l e R s m args below meth c H locs cells slots Q (F0 m (pc + 1) ls (va_rf (f i.toNatClampNeg) :: rest))) : W p l e R s m args below meth c H locs cells slots Q (F0 m pc ls (.int i :: .ref a :: rest)) := by
  obtain ⟨hx, hb, hown, hts, hK⟩ := X
  have hat := hw.at hM
  have hlt : i.toNatClampNeg < n := Nat.not_le.mp fun q => hin (Or.inr q)
  exact W.aald (v := va_rf (f i.toNatClampNeg)) (ty := .array ty) hx hb hat ((hK.2 t0 _ ht).1 n (fun j => va_rf (f j))) rfl (fun q => by cases q) (by show ¬ (i < 0 ∨ (arrV _ _ _).slots.size ≤ _); rw [arrV_size]; exact hin) (by show (arrV _ _ _).slots[_]? = _; rw [arrV_read _ _ hlt]) rfl rfl hdg kk
theorem h_astO (X : Cx p s m args c cc own Ts D cl tys) (t0 : Nat) {E : String} {cA : ClassId} {r : vw_C} (ht : tys[t0]? = some (cA, .object E)) (hc : cl[ci]? = some r) (hca : Cond.castable r.1 E ∈ Ts) (hw : wd D cl z M H0 H locs) {n v : Nat} {vs : List Value} {f : Nat → Option Nat} (hM : M a = some (.inl (cA, n, .inr (.inr (.inr (.inr f)))))) (hV : M v = some (.inr (ci, vs))) {i : Int32} (hin : vp_in i n) (hdg : decode cc pc = .ok (.aastore, 1))
    (kk : ∀ (H1 : Heap) (locs1 : List Loc), wd D cl z (mU M a (.inl (cA, n, .inr (.inr (.inr (.inr (va_up f i.toNatClampNeg (some v)))))))) H0 H1 locs1 → W p l e R s m args below meth c H1 locs1 cells slots Q (F0 m (pc + 1) ls rest)) : W p l e R s m args below meth c H locs cells slots Q (F0 m pc ls (.ref v :: .int i :: .ref a :: rest)) := by
  obtain ⟨hx, hb, hown, hts, hK⟩ := X
  obtain ⟨L, g, rfl, hP, hD, hS, hz⟩ := hw
  obtain ⟨hm, he⟩ := mL_some hM
  obtain ⟨q0, hq⟩ := va_pl_get (X := []) (f := g) hm
  rw [he] at hq
  obtain ⟨hm2, he2⟩ := mL_some hV
  obtain ⟨q2, hq2⟩ := va_pl_get (X := []) (f := g) hm2
  rw [he2] at hq2
  exact va_astqO hx hb hK hP hD hS q0 t0 q2 ci hq ht (va_Nw.of rfl (hts _ hca)) hq2 hc hin hdg (fun H1 locs1 h1 h2 h3 => kk H1 locs1 (wd.set hm he hq hD h1 h2 h3 hz))
end HM
