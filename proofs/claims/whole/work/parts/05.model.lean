/-! THE REFERENCE AS FUNCTIONS: its memory is a tuple (cells, sizes, pegs, taken, hasBoard, rows, width, told) -/
abbrev aT (dA : Nat → ClassId) : List (ClassId × FieldType) := [(dA 0, .char), (dA 1, .short), (dA 2, .float), (dA 3, .boolean), (dA 4, .byte), (dA 5, .int), (dA 6, .long), (dA 7, .object "KeeperRolls$Roll"), (dA 8, .array .int)]
abbrev CQ (l : Launch) (D : va_G) (dA : Nat → ClassId) (z : Nat) (y : MethodName) (b : ByteArray) (n : Nat) (ret : Option FieldType) (av : List Value) (rm : Room) (M : Mp) (Qc : Array Value → State → Outcome → State → Prop) : Prop :=
  Met l y (ws_ y b n ret) rm (va_Pc av (Pw D vwCl (aT dA) z M)) Qc rm.cells rm.slots (fun q => z ≤ q)
abbrev Qi (D : va_G) (dA : Nat → ClassId) (z : Nat) (post : Int32 → Mp → Prop) : Array Value → State → Outcome → State → Prop := va_Qi post (fun M' t => Pw D vwCl (aT dA) z M' t) (fun q => z ≤ q)
abbrev Ql (D : va_G) (dA : Nat → ClassId) (z : Nat) (post : Int64 → Mp → Prop) : Array Value → State → Outcome → State → Prop := va_Ql post (fun M' t => Pw D vwCl (aT dA) z M' t) (fun q => z ≤ q)
abbrev Qf (D : va_G) (dA : Nat → ClassId) (z : Nat) (post : UInt32 → Mp → Prop) : Array Value → State → Outcome → State → Prop := va_Qf post (fun M' t => Pw D vwCl (aT dA) z M' t) (fun q => z ≤ q)
abbrev Qv (D : va_G) (dA : Nat → ClassId) (z : Nat) (post : Mp → Prop) : Array Value → State → Outcome → State → Prop := va_Qv post (fun M' t => Pw D vwCl (aT dA) z M' t) (fun q => z ≤ q)
abbrev rmN (f q : Nat) : Room := { frames := f, cells := 0, slots := 0, locals := q }
section HL
variable {p : Program} {l : Launch} {e : Env} {R : Room} {s : State} {m : MethodId} {args : Array Value} {below : List Frame} {meth : Method} {c : Code} {H : Heap} {locs : List Loc} {cells slots : Nat} {Q : State → Prop}
variable {cc : ByteArray} {pc : Nat} {ls : Array Slot} {rest : List Value} {D : va_G} {cl : List vw_C} {z : Nat} {tys : List (ClassId × FieldType)} {M : Mp} {H0 : Heap} {own : String} {Ts : List Cond} {mc ms : Nat} {st0 : List Value} {a : Array Value}
theorem h_lret {post : Int64 → Mp → Prop} {v : Int64} (X : Cx p s m args c cc own Ts D cl tys) (hr : meth.sig.returnType = some .long) (hlk : meth.locks = false) (hc : cells ≤ mc) (hs : slots ≤ ms) (hw : wd D cl z M s.heap H locs) (hp : post v M) (hdg : decode cc pc = .ok (.lreturn, 1)) :
    W p l e R s m args below meth c H locs cells slots (MQ below (va_Ql post (fun M' t => Pw D cl tys z M' t) (fun q => z ≤ q)) args s mc ms (fun q => z ≤ q)) (F0 m pc ls [.long v]) := by
  obtain ⟨hx, hb, hown, hts, hK⟩ := X
  refine W.widen hc hs ?_
  exact W.lret hx hb hr (fun t ht hW => ⟨⟨v, M, rfl, hp, by rw [ht]; exact hw.now, va_K.moved hW.alike hK⟩, hw.S.F ht⟩) hw.S.2.2 hdg hlk
theorem h_calll {post : Int64 → Mp → Prop} (hr : va_Run p l e R s m args below meth c H locs cells slots mc ms (F0 m pc ls st0) rest (va_Ql post (fun M' t => Pw D cl tys z M' t) (fun q => z ≤ q) a) (fun q => z ≤ q)) (hw : wd D cl z M H0 H locs)
    (kk : ∀ (r : Int64) (M' : Mp) (H1 : Heap) (locs1 : List Loc), post r M' → wd D cl z M' H0 H1 locs1 → W p l e R s m args below meth c H1 locs1 (cells + mc) (slots + ms) Q (F0 m (pc + 3) ls (.long r :: rest))) : W p l e R s m args below meth c H locs cells slots Q (F0 m pc ls st0) :=
  va_calll hr hw.S (fun q _ h => h) (fun q h => h) (fun r M' t H1 locs1 ht hvm hp hB _ _ hS => kk r M' H1 locs1 hp (hw.back (by have := hB.1; rw [ht] at this; exact this) hS))
end HL
abbrev St : Type := (Nat → Int64) × (Nat → Int32) × (Nat → Int32) × (Nat → Int32) × Int32 × Int32 × Int32 × Int32
/-- the reference's five cells hold the tuple -/
def MR (dA : Nat → ClassId) (M : Mp) (md : Nat → Nat) (σ : St) : Prop :=
  M (md 0) = some (.inr (7, [.ref (md 1), .ref (md 2), .ref (md 3), .ref (md 4), .int σ.2.2.2.2.1, .int σ.2.2.2.2.2.1, .int σ.2.2.2.2.2.2.1, .int σ.2.2.2.2.2.2.2])) ∧
  M (md 1) = some (.inl (dA 6, 1000, .inr (.inl σ.1))) ∧ M (md 2) = some (.inl (dA 5, 5, .inl σ.2.1)) ∧ M (md 3) = some (.inl (dA 5, 1600, .inl σ.2.2.1)) ∧ M (md 4) = some (.inl (dA 3, 40, .inl σ.2.2.2.1))
/-- nothing but the cells at md 0 .. md (n - 1) has changed -/
def Same (md : Nat → Nat) (n : Nat) (M M' : Mp) : Prop := ∀ a, (∀ i, i < n → a ≠ md i) → M' a = M a
theorem Same.rf {md : Nat → Nat} {n : Nat} {M : Mp} : Same md n M M := fun _ _ => rfl
theorem Same.put {md : Nat → Nat} {n i : Nat} {M M' : Mp} {x : va_E} (h : Same md n M M') (hi : i < n) : Same md n M (mU M' (md i) x) := fun a ha => by rw [mU_n _ _ (ha i hi)]; exact h a ha
theorem Same.tr {md : Nat → Nat} {n : Nat} {M M' M'' : Mp} (h : Same md n M M') (h' : Same md n M' M'') : Same md n M M'' := fun a ha => (h' a ha).trans (h a ha)
/-- different cells lie at different places -/
theorem mp_ne {M : Mp} {a b : Nat} {x y : va_E} (ha : M a = some x) (hb : M b = some y) (h : x ≠ y) : a ≠ b := by
  intro q; subst q; exact h (Option.some.inj (ha.symm.trans hb))
theorem ne_or (c1 c2 : ClassId) (n1 n2 : Nat) (f1 f2) (h : n1 ≠ n2) : (.inl (c1, n1, f1) : va_E) ≠ .inl (c2, n2, f2) := by
  intro q; cases q; exact h rfl
theorem MR.ne {dA : Nat → ClassId} {M : Mp} {md : Nat → Nat} {σ : St} (h : MR dA M md σ) : ∀ i j : Nat, i < 5 → j < 5 → i ≠ j → md i ≠ md j := by
  obtain ⟨h0, h1, h2, h3, h4⟩ := h
  have n01 : md 0 ≠ md 1 := mp_ne h0 h1 (by intro q; cases q)
  have n02 : md 0 ≠ md 2 := mp_ne h0 h2 (by intro q; cases q)
  have n03 : md 0 ≠ md 3 := mp_ne h0 h3 (by intro q; cases q)
  have n04 : md 0 ≠ md 4 := mp_ne h0 h4 (by intro q; cases q)
  have n12 : md 1 ≠ md 2 := mp_ne h1 h2 (ne_or _ _ _ _ _ _ (by decide))
  have n13 : md 1 ≠ md 3 := mp_ne h1 h3 (ne_or _ _ _ _ _ _ (by decide))
  have n14 : md 1 ≠ md 4 := mp_ne h1 h4 (ne_or _ _ _ _ _ _ (by decide))
  have n23 : md 2 ≠ md 3 := mp_ne h2 h3 (ne_or _ _ _ _ _ _ (by decide))
  have n24 : md 2 ≠ md 4 := mp_ne h2 h4 (ne_or _ _ _ _ _ _ (by decide))
  have n34 : md 3 ≠ md 4 := mp_ne h3 h4 (ne_or _ _ _ _ _ _ (by decide))
  intro i j hi hj hij
  rcases (show i = 0 ∨ i = 1 ∨ i = 2 ∨ i = 3 ∨ i = 4 by omega) with rfl | rfl | rfl | rfl | rfl <;> rcases (show j = 0 ∨ j = 1 ∨ j = 2 ∨ j = 3 ∨ j = 4 by omega) with rfl | rfl | rfl | rfl | rfl <;> first | exact absurd rfl hij | assumption | exact Ne.symm (by assumption)
def f_isRoll (x : Int32) : Int32 := if x < 0 then 0 else if 5 ≤ x then 0 else 1
theorem f_isRoll_1 {x : Int32} (h : ¬ f_isRoll x = 0) : ∃ j : Nat, j < 5 ∧ x = nI j := by
  unfold f_isRoll at h
  split at h
  · exact absurd rfl h
  · rename_i h0
    split at h
    · exact absurd rfl h
    · rename_i h5
      obtain ⟨j, hj, rfl⟩ := nI_of h0
      refine ⟨j, ?_, rfl⟩
      rcases Nat.lt_or_ge j 5 with q | q
      · exact q
      · exact absurd (nI_le (a := 5) (b := j) q hj) h5
theorem f_isRoll_nI {j : Nat} (h : j < 5) : f_isRoll (nI j) = 1 := by
  unfold f_isRoll
  rw [if_neg (nI_pos (by omega)), if_neg (nI_ge (a := j) (b := 5) h (by omega))]
theorem isRoll_in {x : Int32} (h : ¬ f_isRoll x = 0) : vp_in x 5 := by
  obtain ⟨j, hj, rfl⟩ := f_isRoll_1 h
  exact vp_in_nI hj (by omega)
-- each mirrors the bytecode's own conditions
def f_lacks (S : Nat → Int32) (r i : Int32) : Int32 := if f_isRoll r = 0 then 1 else if 0 ≤ S r.toNatClampNeg then (if i < 0 then 3 else if i < S r.toNatClampNeg then 0 else 3) else 2
def f_bounded (v : Int64) : Int64 := if v ≤ 8000000 then (if -8000000 ≤ v then v else -8000000) else 8000000
def f_low (v a : Int64) : Int64 := if 0 ≤ v - v / a * a then v - v / a * a else v - v / a * a + a
def f_lowest (v a : Int64) (g : Int32) : Int64 := if g = 0 then f_low v a else if f_low v a < a / 2 then f_low v a else f_low v a - a
/-- to 24 binary digits, the nearest; of two the even one -/
def rndN (n : Nat) : Nat := Jvm.FP.Core.nearest n (2 ^ (n.log2 - 23)) * 2 ^ (n.log2 - 23)
def rndI (x : Int) : Int := if x < 0 then -(rndN x.natAbs : Int) else (rndN x.natAbs : Int)
def f_rounded (v : Int64) : Int64 := Int64.ofInt (rndI v.toInt)
def f_fitted (r : Int32) (v : Int64) : Int64 := if r = 2 then f_rounded v else if r = 3 then (if v = 0 then 0 else 1) else if r = 0 then f_lowest v 65536 0 else if r = 1 then f_lowest v 65536 1 else f_lowest v 256 1
def f_raised (r : Int32) (w v : Int64) : Int64 := if r = 2 then f_bounded (f_rounded (w + f_rounded v)) else if r = 3 then (if v - v / 2 * 2 = 0 then w else 1 - w) else f_fitted r (w + v)
def f_multiplied (r : Int32) (w v : Int64) : Int64 := if r = 2 then f_bounded (w * f_rounded v) else if r = 3 then (if v = 0 then 0 else w) else f_fitted r (w * v)
def f_cap (v : Int64) : Int32 := if v ≤ 2147483647 then v.toInt32 else 2147483647
/-- the place of a roll's cell in the reference's one row -/
def f_at (r i : Int32) : Nat := (200 * r + i).toNatClampNeg
def s_tells (σ : St) (r i : Int32) (v : Int64) : St := (vp_updL σ.1 (f_at r i) v, σ.2.1, σ.2.2.1, σ.2.2.2.1, σ.2.2.2.2.1, σ.2.2.2.2.2.1, σ.2.2.2.2.2.2.1, f_cap v)
def s_told (σ : St) (v : Int32) : St := (σ.1, σ.2.1, σ.2.2.1, σ.2.2.2.1, σ.2.2.2.2.1, σ.2.2.2.2.2.1, σ.2.2.2.2.2.2.1, v)
def r_tear (σ : St) (r : Int32) : Int32 × St := if f_isRoll r = 0 then (1, σ) else if 0 ≤ σ.2.1 r.toNatClampNeg then (0, (σ.1, upd σ.2.1 r.toNatClampNeg (-1), σ.2.2)) else (2, σ)
def r_read (σ : St) (r i : Int32) : Int32 × St := if f_lacks σ.2.1 r i ≤ 0 then (0, s_tells σ r i (σ.1 (f_at r i))) else (f_lacks σ.2.1 r i, σ)
def r_mark (σ : St) (r i v : Int32) : Int32 × St := if f_lacks σ.2.1 r i ≤ 0 then (0, s_tells σ r i (f_fitted r v.toInt64)) else (f_lacks σ.2.1 r i, σ)
def r_more (σ : St) (r i v : Int32) : Int32 × St := if f_lacks σ.2.1 r i ≤ 0 then (0, s_tells σ r i (f_raised r (σ.1 (f_at r i)) v.toInt64)) else (f_lacks σ.2.1 r i, σ)
def r_times (σ : St) (r i v : Int32) : Int32 × St := if f_lacks σ.2.1 r i ≤ 0 then (0, s_tells σ r i (f_multiplied r (σ.1 (f_at r i)) v.toInt64)) else (f_lacks σ.2.1 r i, σ)
def r_size (σ : St) (r : Int32) : Int32 × St := if f_isRoll r = 0 then (1, σ) else if 0 ≤ σ.2.1 r.toNatClampNeg then (0, s_told σ (σ.2.1 r.toNatClampNeg)) else (2, σ)
def f_clip (v : Int64) : Int64 := if v ≤ 2147483647 then v else 2147483647
def r_pour (σ : St) (r i t j : Int32) : Int32 × St := if f_isRoll r = 0 then (1, σ) else if f_isRoll t = 0 then (1, σ) else if f_lacks σ.2.1 r i ≤ 0 then (if f_lacks σ.2.1 t j ≤ 0 then (0, s_tells σ t j (f_fitted t (f_clip (σ.1 (f_at r i))))) else (f_lacks σ.2.1 t j, σ)) else (f_lacks σ.2.1 r i, σ)
def f_lacksRow (σ : St) (r : Int32) : Int32 := if σ.2.2.2.2.1 = 0 then 2 else if r < 0 then 3 else if r < σ.2.2.2.2.2.1 then (if σ.2.2.2.1 r.toNatClampNeg = 0 then 0 else 2) else 3
def f_lacksPeg (σ : St) (r k : Int32) : Int32 := if f_lacksRow σ r ≤ 0 then (if k < 0 then 3 else if k < σ.2.2.2.2.2.2.1 then 0 else 3) else f_lacksRow σ r
def f_pat (r k : Int32) : Nat := (40 * r + k).toNatClampNeg
def r_peg (σ : St) (r k v : Int32) : Int32 × St := if f_lacksPeg σ r k ≤ 0 then (0, (σ.1, σ.2.1, upd σ.2.2.1 (f_pat r k) v, σ.2.2.2.1, σ.2.2.2.2.1, σ.2.2.2.2.2.1, σ.2.2.2.2.2.2.1, v)) else (f_lacksPeg σ r k, σ)
def r_look (σ : St) (r k : Int32) : Int32 × St := if f_lacksPeg σ r k ≤ 0 then (0, s_told σ (σ.2.2.1 (f_pat r k))) else (f_lacksPeg σ r k, σ)
def r_take (σ : St) (r : Int32) : Int32 × St := if σ.2.2.2.2.1 = 0 then (2, σ) else if r < 0 then (3, σ) else if r < σ.2.2.2.2.2.1 then (0, (σ.1, σ.2.1, σ.2.2.1, upd σ.2.2.2.1 r.toNatClampNeg 1, σ.2.2.2.2)) else (3, σ)
def r_width (σ : St) (r : Int32) : Int32 × St := if f_lacksRow σ r ≤ 0 then (0, s_told σ σ.2.2.2.2.2.2.1) else (f_lacksRow σ r, σ)
/-- what the reference's memory keeps to -/
def Ok (σ : St) : Prop := (∀ q, q < 5 → σ.2.1 q ≤ 200) ∧ σ.2.2.2.2.2.1 ≤ 40 ∧ σ.2.2.2.2.2.2.1 ≤ 40 ∧ (∀ j, j < 1000 → (σ.1 j).toInt.natAbs ≤ 2147483648) ∧ ∀ j, j < 200 → σ.1 (600 + j) = 0 ∨ σ.1 (600 + j) = 1
theorem row_0 {σ : St} {r : Int32} (hO : Ok σ) (h0 : ¬ r < 0) (h1 : r < σ.2.2.2.2.2.1) : ∃ q : Nat, q < 40 ∧ r = nI q := by
  obtain ⟨q, hq, rfl⟩ := nI_of h0
  refine ⟨q, ?_, rfl⟩
  have h2 := hO.2.1
  rw [Int32.lt_iff_toInt_lt, nI_toInt hq] at h1
  rw [Int32.le_iff_toInt_le] at h2
  have : (40 : Int32).toInt = 40 := by decide
  omega
theorem row_in {σ : St} {r : Int32} (hO : Ok σ) (h0 : ¬ r < 0) (h1 : r < σ.2.2.2.2.2.1) : vp_in r 40 := by
  obtain ⟨q, hq, rfl⟩ := row_0 hO h0 h1
  exact vp_in_nI hq (by omega)
theorem lacksRow_0 {σ : St} {r : Int32} (hO : Ok σ) (h : f_lacksRow σ r ≤ 0) : ∃ q : Nat, q < 40 ∧ r = nI q ∧ r < σ.2.2.2.2.2.1 ∧ ¬ σ.2.2.2.2.1 = 0 ∧ σ.2.2.2.1 q = 0 := by
  unfold f_lacksRow at h
  split at h
  · exact absurd h (by decide)
  · rename_i hb
    split at h
    · exact absurd h (by decide)
    · rename_i h0
      split at h
      · rename_i h1
        obtain ⟨q, hq, rfl⟩ := row_0 hO h0 h1
        rw [nI_clamp (by omega)] at h
        split at h
        · rename_i h2
          exact ⟨q, hq, rfl, h1, hb, h2⟩
        · exact absurd h (by decide)
      · exact absurd h (by decide)
theorem lacksPeg_0 {σ : St} {r k : Int32} (hO : Ok σ) (h : f_lacksPeg σ r k ≤ 0) : ∃ q j : Nat, q < 40 ∧ j < 40 ∧ r = nI q ∧ k = nI j ∧ f_lacksRow σ r ≤ 0 ∧ k < σ.2.2.2.2.2.2.1 := by
  unfold f_lacksPeg at h
  split at h
  · rename_i hr
    obtain ⟨q, hq, rfl, -, -, -⟩ := lacksRow_0 hO hr
    split at h
    · exact absurd h (by decide)
    · rename_i h0
      split at h
      · rename_i h1
        obtain ⟨j, hj, rfl⟩ := nI_of h0
        refine ⟨q, j, hq, ?_, rfl, rfl, hr, h1⟩
        have h2 := hO.2.2.1
        rw [Int32.lt_iff_toInt_lt, nI_toInt hj] at h1
        rw [Int32.le_iff_toInt_le] at h2
        have : (40 : Int32).toInt = 40 := by decide
        omega
      · exact absurd h (by decide)
  · rename_i hr
    exact absurd h hr
theorem pat_nI {q j : Nat} (hq : q < 40) (hj : j < 40) : (40 : Int32) * nI q + nI j = nI (40 * q + j) := by
  have e : (40 : Int32) = nI 40 := by decide
  rw [e, pk_mul, nI_add]
theorem lacksPeg_in {σ : St} {r k : Int32} (hO : Ok σ) (h : f_lacksPeg σ r k ≤ 0) : vp_in (40 * r + k) 1600 := by
  obtain ⟨q, j, hq, hj, rfl, rfl, -, -⟩ := lacksPeg_0 hO h
  rw [pat_nI hq hj]
  exact vp_in_nI (by omega) (by omega)
theorem i32_abs (v : Int32) : v.toInt64.toInt.natAbs ≤ 2147483648 := by
  rw [Int32.toInt_toInt64]
  have h1 := Int32.le_toInt v
  have h2 := Int32.toInt_lt v
  omega
theorem clip_abs {v : Int64} (h : v.toInt.natAbs ≤ 2147483648) : (f_clip v).toInt.natAbs ≤ 2147483648 := by
  unfold f_clip
  split
  · exact h
  · decide
theorem lacks_0 {S : Nat → Int32} {r i : Int32} (hS : ∀ q, q < 5 → S q ≤ 200) (h : f_lacks S r i ≤ 0) : ∃ q j : Nat, q < 5 ∧ j < 200 ∧ r = nI q ∧ i = nI j ∧ nI j < S q := by
  unfold f_lacks at h
  split at h
  · exact absurd h (by decide)
  · rename_i h1
    obtain ⟨q, hq, rfl⟩ := f_isRoll_1 h1
    rw [nI_clamp (by omega)] at h
    split at h
    · split at h
      · exact absurd h (by decide)
      · rename_i h3
        split at h
        · rename_i h4
          obtain ⟨j, hj, rfl⟩ := nI_of h3
          refine ⟨q, j, hq, ?_, rfl, rfl, h4⟩
          have h5 := hS q hq
          rw [Int32.lt_iff_toInt_lt, nI_toInt hj] at h4
          rw [Int32.le_iff_toInt_le] at h5
          have : (200 : Int32).toInt = 200 := by decide
          omega
        · exact absurd h (by decide)
    · exact absurd h (by decide)
theorem at_nI {q j : Nat} (hq : q < 5) (hj : j < 200) : (200 : Int32) * nI q + nI j = nI (200 * q + j) := by
  have e : (200 : Int32) = nI 200 := by decide
  rw [e, pk_mul, nI_add]
theorem lacks_in {S : Nat → Int32} {r i : Int32} (hS : ∀ q, q < 5 → S q ≤ 200) (h : f_lacks S r i ≤ 0) : vp_in (200 * r + i) 1000 := by
  obtain ⟨q, j, hq, hj, rfl, rfl, -⟩ := lacks_0 hS h
  rw [at_nI hq hj]
  exact vp_in_nI (by omega) (by omega)
