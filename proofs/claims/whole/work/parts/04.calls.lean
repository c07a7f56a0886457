/-! THE WORDS MOVE: what the tables say at a method's entry they say at every later entry -/
def lw_nst : List Cond := lw_tbl.filter (fun w => !goodWord w)
theorem nst_moves {w : Cond} (h : (match w with | .methodLinkNest .. => true | .declares _ => true | .castable .. => true | .arrayOver _ => true | _ => false) = true) {args a' : Array Value} {s U : State} (hW : s.WarmedH U.vm) (hw : w.before args s = true) : w.before a' U = true := by
  cases w <;> simp only [Bool.false_eq_true] at h
  case methodLinkNest => exact va_Nw.use rfl (va_Nw.warmM hW (va_Nw.of rfl hw))
  case declares => exact va_Nw.use rfl (va_Nw.warmD hW (va_Nw.of rfl hw))
  case castable => exact va_Nw.use rfl (va_Nw.warmC hW (va_Nw.of rfl hw))
  case arrayOver => exact Cond.before_shiftedFace (State.Shifted.of_warmed hW) _ rfl hw
set_option maxRecDepth 20000 in
theorem tbl_kinds : ∀ w ∈ lw_tbl, (goodWord w || (match w with | .methodLinkNest .. => true | .declares _ => true | .castable .. => true | .arrayOver _ => true | _ => false)) = true := by
  decide +kernel
theorem tbl_moves {args : Array Value} {s : State} (hts : ∀ w ∈ lw_tbl, w.before args s = true) : ∀ w ∈ lw_tbl, ∀ (a' : Array Value) (U : State), s.WarmedH U.vm → w.before a' U = true := by
  intro w hw a' U hW
  have h := tbl_kinds w hw
  rw [Bool.or_eq_true] at h
  rcases h with h | h
  · exact word_at hW (good_of_word h) (hts w hw)
  · exact nst_moves h hW (hts w hw)
/-- a method's words: its code, and the tables -/
abbrev ws_ (y : MethodName) (b : ByteArray) (n : Nat) (r : Option FieldType) : List Cond := Cond.code y b n r :: lw_tbl
theorem ws_moves {args : Array Value} {s : State} (hts : ∀ w ∈ lw_tbl, w.before args s = true) {y : MethodName} {b : ByteArray} {n : Nat} {r : Option FieldType} (hc : Cond.code y b n r ∈ lw_tbl) : ∀ w ∈ ws_ y b n r, ∀ (a' : Array Value) (U : State), s.WarmedH U.vm → w.before a' U = true := by
  intro w hw
  rcases List.mem_cons.mp hw with rfl | h
  · exact tbl_moves hts _ hc
  · exact tbl_moves hts _ h
theorem len_of {x : MethodName} {n : Nat} (h : (parseMethodDescriptor x.desc).map (fun d => d.parameters.length) = some n) : ∀ sig, parseMethodDescriptor x.desc = some sig → n = sig.parameters.length := by
  intro sig hs
  rw [hs] at h
  exact (Option.some.inj h).symm
/-! CONTRACTS OVER MAPS: entries, ends and calls -/
def Pw (D : va_G) (cl : List vw_C) (tys : List (ClassId × FieldType)) (z : Nat) (M : Mp) (U : State) : Prop := wd D cl z M U.heap U.heap [] ∧ va_K D cl tys U
section HC
variable {p : Program} {l : Launch} {e : Env} {R : Room} {s : State} {m : MethodId} {args : Array Value} {below : List Frame} {meth : Method} {c : Code} {H : Heap} {locs : List Loc} {cells slots : Nat} {Q : State → Prop}
variable {cc : ByteArray} {pc : Nat} {ls : Array Slot} {rest : List Value} {D : va_G} {cl : List vw_C} {z : Nat} {tys : List (ClassId × FieldType)} {M : Mp} {H0 : Heap}
variable {own C : String} {ci index : Nat} {Ts ws ws' : List Cond} {y : MethodName} {rm : Room} {bytes : ByteArray} {maxL nL n mc ms : Nat} {ret : Option FieldType} {free : Addr → Prop} {Qc : Array Value → State → Outcome → State → Prop} {b : Nat} {As : List Value}
theorem pw_blind {av : List Value} : FrameBlind (va_Pc av (Pw D cl tys z M)) := fun a U g mk q => by
  obtain ⟨q0, q1, q2⟩ := q
  exact ⟨q0, q1, va_K.moved (u := U) (U := U.calling g mk a) (Vm.Alike.refl U.vm) q2⟩
theorem pw_at (hK : va_K D cl tys s) (hw : wd D cl z M H0 H locs) {av : List Value} (U : State) (hU : U.heap = H) (hW : s.WarmedH U.vm) : va_Pc av (Pw D cl tys z M) av.toArray U :=
  ⟨rfl, by rw [hU]; exact hw.now, va_K.moved hW.alike hK⟩
theorem h_recv {q : vw_C} (hK : va_K D cl tys s) (hw : wd D cl z M H0 H locs) (hc : cl[ci]? = some q) {fs : List Value} (hM : M b = some (.inr (ci, fs))) : ∃ cell : Cell, H[b]? = some cell ∧ cell.vm.isStatics = false ∧ s.vm.findClass q.1 = some cell.cls := by
  obtain ⟨L, f, rfl, hP, hD, hS, hz⟩ := hw
  obtain ⟨hm, he⟩ := mL_some hM
  obtain ⟨q0, hq⟩ := va_pl_get (X := []) (f := f) hm
  rw [he] at hq
  exact va_recv hK hP hc hq
theorem ct_of {av : List Value} (hy : plainName y.cls = true) (hw : ws = Cond.code y cc maxL ret :: ws') (hlen : (lg_sl av).length ≤ maxL)
    (body : ∀ (p : Program) (e : Env) (s : State) (m : MethodId) (below : List Frame) (meth : Method) (c : Code), Cx p s m av.toArray c cc y.cls ws' D cl tys → c.maxLocals = maxL → meth.sig.returnType = ret → meth.name = y.name → meth.locks = false → wd D cl z M s.heap s.heap [] → ∀ ls : Array Slot, lv_has ls maxL (lv_args 0 av) →
      W p l e rm s m av.toArray below meth c s.heap [] 0 0 (MQ below Qc av.toArray s mc ms free) (F0 m 0 ls [])) : Met l y ws rm (va_Pc av (Pw D cl tys z M)) Qc mc ms free := by
  refine Met.ofW (cc := cc) (maxL := maxL) (ret := ret) hy hw ?_
  intro p e s m args below meth c s₁ B hml hv
  obtain ⟨rfl, hwd, hK⟩ := hv
  have hts := atoms_spec (ws := ws) B.pre
  have hown : s.vm.findClass y.cls = some m.cls := findClass_of_methodNamed B.named
  have hl := lv_entry av (n := maxL) hlen
  rw [lg_entry_eq]
  exact body p e s m below meth c ⟨B.exec, B.bytes, hown, fun w h => hts w (by rw [hw]; exact List.mem_cons_of_mem _ h), hK⟩ hml B.returns (name_of_methodNamed B.named B.method).1 B.notSynchronized hwd _ hl
theorem h_iret {post : Int32 → Mp → Prop} {v : Int32} (X : Cx p s m args c cc own Ts D cl tys) (hr : meth.sig.returnType = some .int) (hlk : meth.locks = false) (hc : cells ≤ mc) (hs : slots ≤ ms) (hw : wd D cl z M s.heap H locs) (hp : post v M) (hdg : decode cc pc = .ok (.ireturn, 1)) :
    W p l e R s m args below meth c H locs cells slots (MQ below (va_Qi post (fun M' t => Pw D cl tys z M' t) (fun q => z ≤ q)) args s mc ms (fun q => z ≤ q)) (F0 m pc ls [.int v]) := by
  obtain ⟨hx, hb, hown, hts, hK⟩ := X
  refine W.widen hc hs ?_
  exact W.iret hx hb hr (fun t ht hW => ⟨⟨v, M, rfl, hp, by rw [ht]; exact hw.now, va_K.moved hW.alike hK⟩, hw.S.F ht⟩) hw.S.2.2 hdg hlk
theorem h_zret {post : Int32 → Mp → Prop} {v : Int32} {ty : FieldType} (X : Cx p s m args c cc own Ts D cl tys) (hr : meth.sig.returnType = some ty) (hn : narrow ty (.int v) = .int v) (hlk : meth.locks = false) (hc : cells ≤ mc) (hs : slots ≤ ms) (hw : wd D cl z M s.heap H locs) (hp : post v M) (hdg : decode cc pc = .ok (.ireturn, 1)) :
    W p l e R s m args below meth c H locs cells slots (MQ below (va_Qi post (fun M' t => Pw D cl tys z M' t) (fun q => z ≤ q)) args s mc ms (fun q => z ≤ q)) (F0 m pc ls [.int v]) := by
  obtain ⟨hx, hb, hown, hts, hK⟩ := X
  refine W.widen hc hs ?_
  exact W.zret hx hb hr hn (fun t ht hW => ⟨⟨v, M, rfl, hp, by rw [ht]; exact hw.now, va_K.moved hW.alike hK⟩, hw.S.F ht⟩) hw.S.2.2 hdg hlk
theorem h_fret {post : UInt32 → Mp → Prop} {v : UInt32} (X : Cx p s m args c cc own Ts D cl tys) (hr : meth.sig.returnType = some .float) (hlk : meth.locks = false) (hc : cells ≤ mc) (hs : slots ≤ ms) (hw : wd D cl z M s.heap H locs) (hp : post v M) (hdg : decode cc pc = .ok (.freturn, 1)) :
    W p l e R s m args below meth c H locs cells slots (MQ below (va_Qf post (fun M' t => Pw D cl tys z M' t) (fun q => z ≤ q)) args s mc ms (fun q => z ≤ q)) (F0 m pc ls [.float v]) := by
  obtain ⟨hx, hb, hown, hts, hK⟩ := X
  refine W.widen hc hs ?_
  exact W.fret hx hb hr (fun t ht hW => ⟨⟨v, M, rfl, hp, by rw [ht]; exact hw.now, va_K.moved hW.alike hK⟩, hw.S.F ht⟩) hw.S.2.2 hdg hlk
theorem h_vret {post : Mp → Prop} (X : Cx p s m args c cc own Ts D cl tys) (hr : meth.sig.returnType = none) (hlk : meth.locks = false) (hc : cells ≤ mc) (hs : slots ≤ ms) (hw : wd D cl z M s.heap H locs) (hp : post M) (hdg : decode cc pc = .ok (.return_, 1)) :
    W p l e R s m args below meth c H locs cells slots (MQ below (va_Qv post (fun M' t => Pw D cl tys z M' t) (fun q => z ≤ q)) args s mc ms (fun q => z ≤ q)) (F0 m pc ls []) := by
  obtain ⟨hx, hb, hown, hts, hK⟩ := X
  refine W.widen hc hs ?_
  exact W.vret hx hb hr (fun t ht hW => ⟨⟨M, rfl, hp, by rw [ht]; exact hw.now, va_K.moved hW.alike hK⟩, hw.S.F ht⟩) hw.S.2.2 hdg hlk
variable {st0 : List Value} {a : Array Value}
theorem h_calli {post : Int32 → Mp → Prop} (hr : va_Run p l e R s m args below meth c H locs cells slots mc ms (F0 m pc ls st0) rest (va_Qi post (fun M' t => Pw D cl tys z M' t) (fun q => z ≤ q) a) (fun q => z ≤ q)) (hw : wd D cl z M H0 H locs)
    (kk : ∀ (r : Int32) (M' : Mp) (H1 : Heap) (locs1 : List Loc), post r M' → wd D cl z M' H0 H1 locs1 → W p l e R s m args below meth c H1 locs1 (cells + mc) (slots + ms) Q (F0 m (pc + 3) ls (.int r :: rest))) : W p l e R s m args below meth c H locs cells slots Q (F0 m pc ls st0) :=
  va_calli hr hw.S (fun q _ h => h) (fun q h => h) (fun r M' t H1 locs1 ht hvm hp hB _ _ hS => kk r M' H1 locs1 hp (hw.back (by have := hB.1; rw [ht] at this; exact this) hS))
theorem h_callf {post : UInt32 → Mp → Prop} (hr : va_Run p l e R s m args below meth c H locs cells slots mc ms (F0 m pc ls st0) rest (va_Qf post (fun M' t => Pw D cl tys z M' t) (fun q => z ≤ q) a) (fun q => z ≤ q)) (hw : wd D cl z M H0 H locs)
    (kk : ∀ (r : UInt32) (M' : Mp) (H1 : Heap) (locs1 : List Loc), post r M' → wd D cl z M' H0 H1 locs1 → W p l e R s m args below meth c H1 locs1 (cells + mc) (slots + ms) Q (F0 m (pc + 3) ls (.float r :: rest))) : W p l e R s m args below meth c H locs cells slots Q (F0 m pc ls st0) :=
  va_callf hr hw.S (fun q _ h => h) (fun q h => h) (fun r M' t H1 locs1 ht hvm hp hB _ _ hS => kk r M' H1 locs1 hp (hw.back (by have := hB.1; rw [ht] at this; exact this) hS))
theorem h_callv {post : Mp → Prop} (hr : va_Run p l e R s m args below meth c H locs cells slots mc ms (F0 m pc ls st0) rest (va_Qv post (fun M' t => Pw D cl tys z M' t) (fun q => z ≤ q) a) (fun q => z ≤ q)) (hw : wd D cl z M H0 H locs)
    (kk : ∀ (M' : Mp) (H1 : Heap) (locs1 : List Loc), post M' → wd D cl z M' H0 H1 locs1 → W p l e R s m args below meth c H1 locs1 (cells + mc) (slots + ms) Q (F0 m (pc + 3) ls rest)) : W p l e R s m args below meth c H locs cells slots Q (F0 m pc ls st0) :=
  va_callv hr hw.S (fun q _ h => h) (fun q h => h) (fun M' t H1 locs1 ht hvm hp hB _ _ hS => kk M' H1 locs1 hp (hw.back (by have := hB.1; rw [ht] at this; exact this) hS))
/-- what a call needs of the callee, beside its contract -/
def nMH (n : String) : Prop := n ≠ "java/lang/invoke/MethodHandle" ∧ n ≠ "java/lang/invoke/VarHandle"
theorem h_cb (hts : ∀ w ∈ lw_tbl, w.before args s = true) (hc : Cond.code y bytes maxL ret ∈ lw_tbl) (hini : Cond.initialized y.cls ∈ lw_tbl) (hl : Cond.methodLink own index y ∈ lw_tbl) (hd : nMH y.cls) (hp : (parseMethodDescriptor y.desc).map (fun d => d.parameters.length) = some n) (hR : rm.frames + 1 ≤ R.frames ∧ 8 + (maxL + 11) + rm.locals ≤ R.locals) :
    CallB R s args own index y bytes maxL ret (ws_ y bytes maxL ret) rm rm.cells rm.slots n :=
  ⟨rfl, rfl, hR.1, hR.2, ws_moves hts hc, List.mem_cons_self, hts _ hc, hts _ hini, hd, len_of hp, hts _ hl⟩
/-- invokevirtual of a method that the receiver's own class has -/
theorem h_runV (X : Cx p s m args c cc own lw_tbl D cl tys) (hml : c.maxLocals = nL) (hcd : Cond.code y bytes maxL ret ∈ lw_tbl) (hini : Cond.initialized y.cls ∈ lw_tbl) (hl : Cond.methodLink own index y ∈ lw_tbl) (hin : Cond.instanceMethod y ∈ lw_tbl) (hse : Cond.selects C y y ∈ lw_tbl) (hd : nMH y.cls) (hpd : (parseMethodDescriptor y.desc).map (fun d => d.parameters.length) = some n)
    (hct : Met l y (ws_ y bytes maxL ret) rm (va_Pc (.ref b :: As) (Pw D cl tys z M)) Qc rm.cells rm.slots free) (hR : rm.frames + 1 ≤ R.frames ∧ 8 + (maxL + 11) + rm.locals ≤ R.locals) (hw : wd D cl z M H0 H locs) {q : vw_C} (hc : cl[ci]? = some q) (hq : q.1 = C) {fs : List Value} (hM : M b = some (.inr (ci, fs)))
    (hn : As.length = n) (hsize : ls.size = nL) (hst : st0 = As.reverse ++ .ref b :: rest) (hW : 2 * (F0 m pc ls st0).monitorRoom + (rest.map fun v => v.category).sum ≤ 8) (hdg : decode cc pc = .ok (.invokevirtual index, 3)) (hf : cells + rm.cells ≤ R.cells ∧ slots + rm.slots ≤ R.slots) :
    va_Run p l e R s m args below meth c H locs cells slots rm.cells rm.slots (F0 m pc ls st0) rest (Qc (Value.ref b :: As).toArray) free := by
  obtain ⟨hx, hb, hown, hts, hK⟩ := X
  subst hst
  exact va_runV ⟨hx, hb, hml, hown, hts⟩ hct ⟨h_cb hts hcd hini hl hd hpd hR, hts _ hin, hts _ hse⟩ ⟨pw_blind, by rw [← hq]; exact h_recv hK hw hc hM, fun U hU hW => pw_at hK hw U hU hW⟩ rfl hn hsize rfl hW hdg hf
/-- invokespecial of a constructor -/
theorem h_runI (X : Cx p s m args c cc own lw_tbl D cl tys) (hml : c.maxLocals = nL) (hcd : Cond.code y bytes maxL none ∈ lw_tbl) (hini : Cond.initialized y.cls ∈ lw_tbl) (hl : Cond.methodLink own index y ∈ lw_tbl) (hin : Cond.instanceMethod y ∈ lw_tbl) (hy1 : y.name = "<init>") (hd : nMH y.cls) (hpd : (parseMethodDescriptor y.desc).map (fun d => d.parameters.length) = some n)
    (hct : Met l y (ws_ y bytes maxL none) rm (va_Pc (.ref b :: As) (Pw D cl tys z M)) Qc rm.cells rm.slots free) (hR : rm.frames + 1 ≤ R.frames ∧ 8 + (maxL + 11) + rm.locals ≤ R.locals) (hw : wd D cl z M H0 H locs)
    (hn : As.length = n) (hsize : ls.size = nL) (hst : st0 = As.reverse ++ .ref b :: rest) (hW : 2 * (F0 m pc ls st0).monitorRoom + (rest.map fun v => v.category).sum ≤ 8) (hdg : decode cc pc = .ok (.invokespecial index, 3)) (hf : cells + rm.cells ≤ R.cells ∧ slots + rm.slots ≤ R.slots) :
    va_Run p l e R s m args below meth c H locs cells slots rm.cells rm.slots (F0 m pc ls st0) rest (Qc (Value.ref b :: As).toArray) free := by
  obtain ⟨hx, hb, hown, hts, hK⟩ := X
  subst hst
  exact va_runI ⟨hx, hb, hml, hown, hts⟩ hct ⟨h_cb hts hcd hini hl hd hpd hR, hy1, hts _ hin⟩ ⟨pw_blind, fun U hU hW => pw_at hK hw U hU hW⟩ rfl hn hsize rfl hW hdg hf
/-- invokespecial of a nest mate's private constructor -/
theorem h_runIN {host : String} (X : Cx p s m args c cc own lw_tbl D cl tys) (hml : c.maxLocals = nL) (hcd : Cond.code y bytes maxL none ∈ lw_tbl) (hini : Cond.initialized y.cls ∈ lw_tbl) (hl : Cond.methodLinkNest own index y host ∈ lw_tbl) (hin : Cond.instanceMethod y ∈ lw_tbl) (hy1 : y.name = "<init>") (hd : nMH y.cls) (hpd : (parseMethodDescriptor y.desc).map (fun d => d.parameters.length) = some n)
    (hct : Met l y (ws_ y bytes maxL none) rm (va_Pc (.ref b :: As) (Pw D cl tys z M)) Qc rm.cells rm.slots free) (hR : rm.frames + 1 ≤ R.frames ∧ 8 + (maxL + 11) + rm.locals ≤ R.locals) (hw : wd D cl z M H0 H locs)
    (hn : As.length = n) (hsize : ls.size = nL) (hst : st0 = As.reverse ++ .ref b :: rest) (hW : 2 * (F0 m pc ls st0).monitorRoom + (rest.map fun v => v.category).sum ≤ 8) (hdg : decode cc pc = .ok (.invokespecial index, 3)) (hf : cells + rm.cells ≤ R.cells ∧ slots + rm.slots ≤ R.slots) :
    va_Run p l e R s m args below meth c H locs cells slots rm.cells rm.slots (F0 m pc ls st0) rest (Qc (Value.ref b :: As).toArray) free := by
  obtain ⟨hx, hb, hown, hts, hK⟩ := X
  subst hst
  exact va_runIN ⟨hx, hb, hml, hown, hts⟩ hct ⟨⟨⟨rfl, rfl, hR.1, hR.2, ws_moves hts hcd, List.mem_cons_self⟩, hts _ hcd, hts _ hini, hd, len_of hpd, hts _ hl⟩, hy1, hts _ hin⟩ ⟨pw_blind, fun U hU hW => pw_at hK hw U hU hW⟩ rfl hn hsize rfl hW hdg hf
/-- invokestatic -/
theorem h_runS (X : Cx p s m args c cc own lw_tbl D cl tys) (hml : c.maxLocals = nL) (hcd : Cond.code y bytes maxL ret ∈ lw_tbl) (hini : Cond.initialized y.cls ∈ lw_tbl) (hl : Cond.methodLink own index y ∈ lw_tbl) (hin : Cond.static y ∈ lw_tbl) (hd : nMH y.cls) (hpd : (parseMethodDescriptor y.desc).map (fun d => d.parameters.length) = some n)
    (hct : Met l y (ws_ y bytes maxL ret) rm (va_Pc As (Pw D cl tys z M)) Qc rm.cells rm.slots free) (hR : rm.frames + 1 ≤ R.frames ∧ 8 + (maxL + 11) + rm.locals ≤ R.locals) (hw : wd D cl z M H0 H locs)
    (hn : As.length = n) (hsize : ls.size = nL) (hst : st0 = As.reverse ++ rest) (hW : 2 * (F0 m pc ls st0).monitorRoom + (rest.map fun v => v.category).sum ≤ 8) (hdg : decode cc pc = .ok (.invokestatic index, 3)) (hf : cells + rm.cells ≤ R.cells ∧ slots + rm.slots ≤ R.slots) :
    va_Run p l e R s m args below meth c H locs cells slots rm.cells rm.slots (F0 m pc ls st0) rest (Qc As.toArray) free := by
  obtain ⟨hx, hb, hown, hts, hK⟩ := X
  subst hst
  exact va_runS ⟨hx, hb, hml, hown, hts⟩ hct ⟨h_cb hts hcd hini hl hd hpd hR, hts _ hin⟩ ⟨pw_blind, fun U hU hW => pw_at hK hw U hU hW⟩ rfl hn hsize rfl hW hdg hf
/-- invokevirtual of x, found at owner, on an object of class C, where it is y (x declared above, abstract or not) -/
theorem h_runA {owner : String} {x : MethodName} (X : Cx p s m args c cc own lw_tbl D cl tys) (hml : c.maxLocals = nL) (hcd : Cond.code y bytes maxL ret ∈ lw_tbl) (hini : Cond.initialized y.cls ∈ lw_tbl) (hl : Cond.methodLink own index x ∈ lw_tbl) (hsm : Cond.sameMethod x.cls owner x.name x.desc ∈ lw_tbl) (hse : Cond.selects C x y ∈ lw_tbl) (hin : Cond.instanceMethod y ∈ lw_tbl) (hz : va_Decl s ⟨owner, x.name, x.desc⟩)
    (hd : nMH owner) (hpd : (parseMethodDescriptor x.desc).map (fun d => d.parameters.length) = some n)
    (hct : Met l y (ws_ y bytes maxL ret) rm (va_Pc (.ref b :: As) (Pw D cl tys z M)) Qc rm.cells rm.slots free) (hR : rm.frames + 1 ≤ R.frames ∧ 8 + (maxL + 11) + rm.locals ≤ R.locals) (hw : wd D cl z M H0 H locs) {q : vw_C} (hc : cl[ci]? = some q) (hq : q.1 = C) {fs : List Value} (hM : M b = some (.inr (ci, fs)))
    (hn : As.length = n) (hsize : ls.size = nL) (hst : st0 = As.reverse ++ .ref b :: rest) (hW : 2 * (F0 m pc ls st0).monitorRoom + (rest.map fun v => v.category).sum ≤ 8) (hdg : decode cc pc = .ok (.invokevirtual index, 3)) (hf : cells + rm.cells ≤ R.cells ∧ slots + rm.slots ≤ R.slots) :
    va_Run p l e R s m args below meth c H locs cells slots rm.cells rm.slots (F0 m pc ls st0) rest (Qc (Value.ref b :: As).toArray) free := by
  obtain ⟨hx, hb, hown, hts, hK⟩ := X
  subst hst
  exact va_runU ⟨hx, hb, hml, hown, hts⟩ hct ⟨⟨rfl, rfl, hR.1, hR.2, ws_moves hts hcd, List.mem_cons_self⟩, hts _ hcd, hts _ hini, hd, len_of hpd, hts _ hl, hts _ hsm, hz, hts _ hse, hts _ hin⟩ ⟨pw_blind, by rw [← hq]; exact h_recv hK hw hc hM, fun U hU hW => pw_at hK hw U hU hW⟩ rfl hn hsize rfl hW hdg hf
end HC
