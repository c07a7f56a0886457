set_option maxHeartbeats 4000000 in
set_option maxRecDepth 100000 in
theorem c_X9_lacksRow (l : Launch) (D : va_G) (dA : Nat → ClassId) (z : Nat) (M : Mp) (md : Nat → Nat) (C : Nat → Int64) (S P T : Nat → Int32) (b w v o : Int32) (x1 : Int32) (hM : MR dA M md (C, S, P, T, b, w, v, o)) (hO : Ok (C, S, P, T, b, w, v, o)) : CQ l D dA z yX9_lacksRow cX9_lacksRow 2 (some .int) [.ref (md 0), .int x1] (rmN 0 0) M (Qi D dA z (fun r M' => M' = M ∧ r = f_lacksRow (C, S, P, T, b, w, v, o) x1)) := by
  refine ct_of (cc := cX9_lacksRow) (maxL := 2) (ret := some .int) (by decide) rfl (by decide) ?_
  intro p e s m below meth c X hml hr hin hlk hw ls hl
  have X : Cx p s m _ c cX9_lacksRow RX9 lw_tbl D vwCl (aT dA) := X
  obtain ⟨hx, hb, hown, hts, hK⟩ := id X
  have hl : lv_has ls 2 [(0, .ref (md 0)), (1, .int x1)] := hl
  obtain ⟨h0, h1, h2, h3, h4⟩ := id hM
  have hn := hM.ne
  have h0 : M (md 0) = some (.inr (7, [.ref (md 1), .ref (md 2), .ref (md 3), .ref (md 4), .int b, .int w, .int v, .int o])) := h0
  have h1 : M (md 1) = some (.inl (dA 6, 1000, .inr (.inl C))) := h1
  have h2 : M (md 2) = some (.inl (dA 5, 5, .inl S)) := h2
  have h3 : M (md 3) = some (.inl (dA 5, 1600, .inl P)) := h3
  have h4 : M (md 4) = some (.inl (dA 3, 40, .inl T)) := h4
  refine lv_aload_n hx hb dX9_lacksRow_0 rfl (lv_at hl 0 rfl) ?_
  refine h_get X inX9 (rfl : vwCl[7]? = some (RX9, TX9, 8)) 4 (by decide) tb_339 (fun _ h => h) hw h0 rfl dX9_lacksRow_1 ?_
  refine lv_if_ne (tgt := 9) hx hb dX9_lacksRow_4 (by decide) (fun c_4 => ?_) (fun c_4 => ?_)
  · refine lv_iload_n hx hb dX9_lacksRow_9 rfl (lv_at hl 1 rfl) ?_
    refine lv_if_lt (tgt := 21) hx hb dX9_lacksRow_10 (by decide) (fun c_10 => ?_) (fun c_10 => ?_)
    · refine lv_iconst (v := 3) hx hb dX9_lacksRow_21 (by decide) ?_
      exact h_iret X hr hlk (Nat.le_of_ble_eq_true rfl) (Nat.le_of_ble_eq_true rfl) hw ⟨rfl, by simp only [f_lacksRow, c_4, c_10, not_false_eq_true, not_true_eq_false, if_true, if_false, ↓reduceIte]⟩ dX9_lacksRow_22
    · refine lv_iload_n hx hb dX9_lacksRow_13 rfl (lv_at hl 1 rfl) ?_
      refine lv_aload_n hx hb dX9_lacksRow_14 rfl (lv_at hl 0 rfl) ?_
      refine h_get X inX9 (rfl : vwCl[7]? = some (RX9, TX9, 8)) 5 (by decide) tb_340 (fun _ h => h) hw h0 rfl dX9_lacksRow_15 ?_
      refine lv_icmp_lt (tgt := 23) hx hb dX9_lacksRow_18 (by decide) (fun c_18 => ?_) (fun c_18 => ?_)
      · refine lv_aload_n hx hb dX9_lacksRow_23 rfl (lv_at hl 0 rfl) ?_
        refine h_get X inX9 (rfl : vwCl[7]? = some (RX9, TX9, 8)) 3 (by decide) tb_338 (fun _ h => h) hw h0 rfl dX9_lacksRow_24 ?_
        refine lv_iload_n hx hb dX9_lacksRow_27 rfl (lv_at hl 1 rfl) ?_
        refine h_zald X 3 rfl hw h4 (row_in hO c_10 c_18) dX9_lacksRow_28 ?_
        refine lv_if_eq (tgt := 36) hx hb dX9_lacksRow_29 (by decide) (fun c_29 => ?_) (fun c_29 => ?_)
        · refine lv_iconst (v := 0) hx hb dX9_lacksRow_36 (by decide) ?_
          exact h_iret X hr hlk (Nat.le_of_ble_eq_true rfl) (Nat.le_of_ble_eq_true rfl) hw ⟨rfl, by simp only [f_lacksRow, c_4, c_10, c_18, c_29, not_false_eq_true, not_true_eq_false, if_true, if_false, ↓reduceIte]⟩ dX9_lacksRow_37
        · refine lv_iconst (v := 2) hx hb dX9_lacksRow_32 (by decide) ?_
          refine lv_goto (tgt := 37) hx hb dX9_lacksRow_33 (by decide) ?_
          exact h_iret X hr hlk (Nat.le_of_ble_eq_true rfl) (Nat.le_of_ble_eq_true rfl) hw ⟨rfl, by simp only [f_lacksRow, c_4, c_10, c_18, c_29, not_false_eq_true, not_true_eq_false, if_true, if_false, ↓reduceIte]⟩ dX9_lacksRow_37
      · refine lv_iconst (v := 3) hx hb dX9_lacksRow_21 (by decide) ?_
        exact h_iret X hr hlk (Nat.le_of_ble_eq_true rfl) (Nat.le_of_ble_eq_true rfl) hw ⟨rfl, by simp only [f_lacksRow, c_4, c_10, c_18, not_false_eq_true, not_true_eq_false, if_true, if_false, ↓reduceIte]⟩ dX9_lacksRow_22
  · refine lv_iconst (v := 2) hx hb dX9_lacksRow_7 (by decide) ?_
    exact h_iret X hr hlk (Nat.le_of_ble_eq_true rfl) (Nat.le_of_ble_eq_true rfl) hw ⟨rfl, by simp only [f_lacksRow, c_4, not_false_eq_true, not_true_eq_false, if_true, if_false, ↓reduceIte]⟩ dX9_lacksRow_8
set_option maxHeartbeats 4000000 in
set_option maxRecDepth 100000 in
theorem c_X9_lacksPeg (l : Launch) (D : va_G) (dA : Nat → ClassId) (z : Nat) (M : Mp) (md : Nat → Nat) (C : Nat → Int64) (S P T : Nat → Int32) (b w v o : Int32) (x1 : Int32) (x2 : Int32) (hM : MR dA M md (C, S, P, T, b, w, v, o)) (hO : Ok (C, S, P, T, b, w, v, o)) : CQ l D dA z yX9_lacksPeg cX9_lacksPeg 4 (some .int) [.ref (md 0), .int x1, .int x2] (rmN 1 21) M (Qi D dA z (fun r M' => M' = M ∧ r = f_lacksPeg (C, S, P, T, b, w, v, o) x1 x2)) := by
  refine ct_of (cc := cX9_lacksPeg) (maxL := 4) (ret := some .int) (by decide) rfl (by decide) ?_
  intro p e s m below meth c X hml hr hin hlk hw ls hl
  have X : Cx p s m _ c cX9_lacksPeg RX9 lw_tbl D vwCl (aT dA) := X
  obtain ⟨hx, hb, hown, hts, hK⟩ := id X
  have hl : lv_has ls 4 [(0, .ref (md 0)), (1, .int x1), (2, .int x2)] := hl
  obtain ⟨h0, h1, h2, h3, h4⟩ := id hM
  have hn := hM.ne
  have h0 : M (md 0) = some (.inr (7, [.ref (md 1), .ref (md 2), .ref (md 3), .ref (md 4), .int b, .int w, .int v, .int o])) := h0
  have h1 : M (md 1) = some (.inl (dA 6, 1000, .inr (.inl C))) := h1
  have h2 : M (md 2) = some (.inl (dA 5, 5, .inl S)) := h2
  have h3 : M (md 3) = some (.inl (dA 5, 1600, .inl P)) := h3
  have h4 : M (md 4) = some (.inl (dA 3, 40, .inl T)) := h4
  refine lv_aload_n hx hb dX9_lacksPeg_0 rfl (lv_at hl 0 rfl) ?_
  refine lv_iload_n hx hb dX9_lacksPeg_1 rfl (lv_at hl 1 rfl) ?_
  refine h_calli (h_runV (rest := []) X hml tb_445 tb_10 tb_442 tb_444 tp_lacksRow9 (by decide +kernel) (by decide +kernel) (c_X9_lacksRow l D dA z M md C S P T b w v o x1 hM hO) ⟨(Nat.le_of_ble_eq_true rfl), (Nat.le_of_ble_eq_true rfl)⟩ hw (rfl : vwCl[7]? = some (RX9, TX9, 8)) rfl h0 rfl hl.1 rfl (lv_room (Nat.le_of_ble_eq_true rfl)) dX9_lacksPeg_2 ⟨(Nat.le_of_ble_eq_true rfl), (Nat.le_of_ble_eq_true rfl)⟩) hw (fun r_2 M_2 H locs hp hw => ?_)
  obtain ⟨rfl, rfl⟩ := hp
  refine lv_istore_n (lv' := [(3, .int (f_lacksRow (C, S, P, T, b, w, v, o) x1)), (0, .ref (md 0)), (1, .int x1), (2, .int x2)]) hx hb dX9_lacksPeg_5 rfl hl (by decide) rfl (fun ls hl => ?_)
  refine lv_iload_n hx hb dX9_lacksPeg_6 rfl (lv_at hl 0 rfl) ?_
  refine lv_if_le (tgt := 14) hx hb dX9_lacksPeg_7 (by decide) (fun c_7 => ?_) (fun c_7 => ?_)
  · refine lv_iload_n hx hb dX9_lacksPeg_14 rfl (lv_at hl 3 rfl) ?_
    refine lv_if_lt (tgt := 26) hx hb dX9_lacksPeg_15 (by decide) (fun c_15 => ?_) (fun c_15 => ?_)
    · refine lv_iconst (v := 3) hx hb dX9_lacksPeg_26 (by decide) ?_
      refine lv_goto (tgt := 31) hx hb dX9_lacksPeg_27 (by decide) ?_
      exact h_iret X hr hlk (Nat.le_of_ble_eq_true rfl) (Nat.le_of_ble_eq_true rfl) hw ⟨rfl, by simp only [f_lacksPeg, c_7, c_15, not_false_eq_true, not_true_eq_false, if_true, if_false, ↓reduceIte]⟩ dX9_lacksPeg_31
    · refine lv_iload_n hx hb dX9_lacksPeg_18 rfl (lv_at hl 3 rfl) ?_
      refine lv_aload_n hx hb dX9_lacksPeg_19 rfl (lv_at hl 1 rfl) ?_
      refine h_get X inX9 (rfl : vwCl[7]? = some (RX9, TX9, 8)) 6 (by decide) tb_341 (fun _ h => h) hw h0 rfl dX9_lacksPeg_20 ?_
      refine lv_icmp_lt (tgt := 30) hx hb dX9_lacksPeg_23 (by decide) (fun c_23 => ?_) (fun c_23 => ?_)
      · refine lv_iconst (v := 0) hx hb dX9_lacksPeg_30 (by decide) ?_
        exact h_iret X hr hlk (Nat.le_of_ble_eq_true rfl) (Nat.le_of_ble_eq_true rfl) hw ⟨rfl, by simp only [f_lacksPeg, c_7, c_15, c_23, not_false_eq_true, not_true_eq_false, if_true, if_false, ↓reduceIte]⟩ dX9_lacksPeg_31
      · refine lv_iconst (v := 3) hx hb dX9_lacksPeg_26 (by decide) ?_
        refine lv_goto (tgt := 31) hx hb dX9_lacksPeg_27 (by decide) ?_
        exact h_iret X hr hlk (Nat.le_of_ble_eq_true rfl) (Nat.le_of_ble_eq_true rfl) hw ⟨rfl, by simp only [f_lacksPeg, c_7, c_15, c_23, not_false_eq_true, not_true_eq_false, if_true, if_false, ↓reduceIte]⟩ dX9_lacksPeg_31
  · refine lv_iload_n hx hb dX9_lacksPeg_10 rfl (lv_at hl 0 rfl) ?_
    refine lv_goto (tgt := 31) hx hb dX9_lacksPeg_11 (by decide) ?_
    exact h_iret X hr hlk (Nat.le_of_ble_eq_true rfl) (Nat.le_of_ble_eq_true rfl) hw ⟨rfl, by simp only [f_lacksPeg, c_7, not_false_eq_true, not_true_eq_false, if_true, if_false, ↓reduceIte]⟩ dX9_lacksPeg_31
set_option maxHeartbeats 4000000 in
set_option maxRecDepth 100000 in
theorem c_X9_peg (l : Launch) (D : va_G) (dA : Nat → ClassId) (z : Nat) (M : Mp) (md : Nat → Nat) (C : Nat → Int64) (S P T : Nat → Int32) (b w v o : Int32) (x1 : Int32) (x2 : Int32) (x3 : Int32) (hM : MR dA M md (C, S, P, T, b, w, v, o)) (hO : Ok (C, S, P, T, b, w, v, o)) : CQ l D dA z yX9_peg cX9_peg 5 (some .int) [.ref (md 0), .int x1, .int x2, .int x3] (rmN 2 44) M (Qi D dA z (fun r M' => r = (r_peg (C, S, P, T, b, w, v, o) x1 x2 x3).1 ∧ MR dA M' md (r_peg (C, S, P, T, b, w, v, o) x1 x2 x3).2 ∧ Same md 5 M M')) := by
  refine ct_of (cc := cX9_peg) (maxL := 5) (ret := some .int) (by decide) rfl (by decide) ?_
  intro p e s m below meth c X hml hr hin hlk hw ls hl
  have X : Cx p s m _ c cX9_peg RX9 lw_tbl D vwCl (aT dA) := X
  obtain ⟨hx, hb, hown, hts, hK⟩ := id X
  have hl : lv_has ls 5 [(0, .ref (md 0)), (1, .int x1), (2, .int x2), (3, .int x3)] := hl
  obtain ⟨h0, h1, h2, h3, h4⟩ := id hM
  have hn := hM.ne
  have h0 : M (md 0) = some (.inr (7, [.ref (md 1), .ref (md 2), .ref (md 3), .ref (md 4), .int b, .int w, .int v, .int o])) := h0
  have h1 : M (md 1) = some (.inl (dA 6, 1000, .inr (.inl C))) := h1
  have h2 : M (md 2) = some (.inl (dA 5, 5, .inl S)) := h2
  have h3 : M (md 3) = some (.inl (dA 5, 1600, .inl P)) := h3
  have h4 : M (md 4) = some (.inl (dA 3, 40, .inl T)) := h4
  refine lv_aload_n hx hb dX9_peg_0 rfl (lv_at hl 0 rfl) ?_
  refine lv_iload_n hx hb dX9_peg_1 rfl (lv_at hl 1 rfl) ?_
  refine lv_iload_n hx hb dX9_peg_2 rfl (lv_at hl 2 rfl) ?_
  refine h_calli (h_runV (rest := []) X hml tb_441 tb_10 tb_438 tb_440 tp_lacksPeg9 (by decide +kernel) (by decide +kernel) (c_X9_lacksPeg l D dA z M md C S P T b w v o x1 x2 hM hO) ⟨(Nat.le_of_ble_eq_true rfl), (Nat.le_of_ble_eq_true rfl)⟩ hw (rfl : vwCl[7]? = some (RX9, TX9, 8)) rfl h0 rfl hl.1 rfl (lv_room (Nat.le_of_ble_eq_true rfl)) dX9_peg_3 ⟨(Nat.le_of_ble_eq_true rfl), (Nat.le_of_ble_eq_true rfl)⟩) hw (fun r_3 M_3 H locs hp hw => ?_)
  obtain ⟨rfl, rfl⟩ := hp
  refine lv_istore (lv' := [(4, .int (f_lacksPeg (C, S, P, T, b, w, v, o) x1 x2)), (0, .ref (md 0)), (1, .int x1), (2, .int x2), (3, .int x3)]) hx hb dX9_peg_6 hl (by decide) rfl (fun ls hl => ?_)
  refine lv_iload hx hb dX9_peg_8 (lv_at hl 0 rfl) ?_
  refine lv_if_le (tgt := 16) hx hb dX9_peg_10 (by decide) (fun c_10 => ?_) (fun c_10 => ?_)
  · refine lv_aload_n hx hb dX9_peg_16 rfl (lv_at hl 1 rfl) ?_
    refine h_get X inX9 (rfl : vwCl[7]? = some (RX9, TX9, 8)) 2 (by decide) tb_337 (fun _ h => h) hw h0 rfl dX9_peg_17 ?_
    refine lv_bipush (v := 40) hx hb dX9_peg_20 (by decide) ?_
    refine lv_iload_n hx hb dX9_peg_22 rfl (lv_at hl 2 rfl) ?_
    refine lv_imul hx hb dX9_peg_23 ?_
    refine lv_iload_n hx hb dX9_peg_24 rfl (lv_at hl 3 rfl) ?_
    refine lv_iadd hx hb dX9_peg_25 ?_
    refine lv_iload_n hx hb dX9_peg_26 rfl (lv_at hl 4 rfl) ?_
    refine h_iast X 5 rfl hw h3 (lacksPeg_in hO c_10) dX9_peg_27 (fun H locs hw => ?_)
    have hw : wd D vwCl z (mU M (md 3) (.inl (dA 5, 1600, .inl (upd P ((40 * x1) + x2).toNatClampNeg x3)))) s.heap H locs := hw
    have hk2 := (mU_n (M) (.inl (dA 5, 1600, .inl (upd P ((40 * x1) + x2).toNatClampNeg x3))) (hn 0 3 (by decide) (by decide) (by decide))).trans h0
    have hk3 := (mU_n (M) (.inl (dA 5, 1600, .inl (upd P ((40 * x1) + x2).toNatClampNeg x3))) (hn 1 3 (by decide) (by decide) (by decide))).trans h1
    have hk4 := (mU_n (M) (.inl (dA 5, 1600, .inl (upd P ((40 * x1) + x2).toNatClampNeg x3))) (hn 2 3 (by decide) (by decide) (by decide))).trans h2
    have hk5 := (mU_n (M) (.inl (dA 5, 1600, .inl (upd P ((40 * x1) + x2).toNatClampNeg x3))) (hn 4 3 (by decide) (by decide) (by decide))).trans h4
    have hk6 := mU_s (M) (md 3) (.inl (dA 5, 1600, .inl (upd P ((40 * x1) + x2).toNatClampNeg x3)))
    refine lv_aload_n hx hb dX9_peg_28 rfl (lv_at hl 1 rfl) ?_
    refine lv_iload_n hx hb dX9_peg_29 rfl (lv_at hl 4 rfl) ?_
    refine h_put X inX9 (rfl : vwCl[7]? = some (RX9, TX9, 8)) tyX9 tyX9_ok nmX9 7 (by decide) tb_342 (fun _ h => h) rfl hw hk2 (ty := .int) (by decide +kernel) rfl rfl (Nat.le_of_ble_eq_true rfl) dX9_peg_30 (fun H locs hw => ?_)
    have hw : wd D vwCl z (mU (mU M (md 3) (.inl (dA 5, 1600, .inl (upd P ((40 * x1) + x2).toNatClampNeg x3)))) (md 0) (.inr (7, [.ref (md 1), .ref (md 2), .ref (md 3), .ref (md 4), .int b, .int w, .int v, .int x3]))) s.heap H locs := hw
    have hk8 := (mU_n (mU M (md 3) (.inl (dA 5, 1600, .inl (upd P ((40 * x1) + x2).toNatClampNeg x3)))) (.inr (7, [.ref (md 1), .ref (md 2), .ref (md 3), .ref (md 4), .int b, .int w, .int v, .int x3])) (hn 1 0 (by decide) (by decide) (by decide))).trans hk3
    have hk9 := (mU_n (mU M (md 3) (.inl (dA 5, 1600, .inl (upd P ((40 * x1) + x2).toNatClampNeg x3)))) (.inr (7, [.ref (md 1), .ref (md 2), .ref (md 3), .ref (md 4), .int b, .int w, .int v, .int x3])) (hn 2 0 (by decide) (by decide) (by decide))).trans hk4
    have hk10 := (mU_n (mU M (md 3) (.inl (dA 5, 1600, .inl (upd P ((40 * x1) + x2).toNatClampNeg x3)))) (.inr (7, [.ref (md 1), .ref (md 2), .ref (md 3), .ref (md 4), .int b, .int w, .int v, .int x3])) (hn 4 0 (by decide) (by decide) (by decide))).trans hk5
    have hk11 := (mU_n (mU M (md 3) (.inl (dA 5, 1600, .inl (upd P ((40 * x1) + x2).toNatClampNeg x3)))) (.inr (7, [.ref (md 1), .ref (md 2), .ref (md 3), .ref (md 4), .int b, .int w, .int v, .int x3])) (hn 3 0 (by decide) (by decide) (by decide))).trans hk6
    have hk12 := mU_s (mU M (md 3) (.inl (dA 5, 1600, .inl (upd P ((40 * x1) + x2).toNatClampNeg x3)))) (md 0) (.inr (7, [.ref (md 1), .ref (md 2), .ref (md 3), .ref (md 4), .int b, .int w, .int v, .int x3]))
    refine lv_iconst (v := 0) hx hb dX9_peg_33 (by decide) ?_
    have e9 : r_peg (C, S, P, T, b, w, v, o) x1 x2 x3 = (0, (C, S, (upd P ((40 * x1) + x2).toNatClampNeg x3), T, b, w, v, x3)) := by simp only [r_peg, f_pat, c_10, not_false_eq_true, not_true_eq_false, if_true, if_false, ↓reduceIte]
    exact h_iret X hr hlk (Nat.le_of_ble_eq_true rfl) (Nat.le_of_ble_eq_true rfl) hw (by rw [e9]; exact ⟨rfl, ⟨hk12, hk8, hk9, hk11, hk10⟩, (Same.put (Same.put Same.rf (show 3 < 5 by decide)) (show 0 < 5 by decide))⟩) dX9_peg_34
  · refine lv_iload hx hb dX9_peg_13 (lv_at hl 0 rfl) ?_
    have e9 : r_peg (C, S, P, T, b, w, v, o) x1 x2 x3 = (f_lacksPeg (C, S, P, T, b, w, v, o) x1 x2, (C, S, P, T, b, w, v, o)) := by simp only [r_peg, f_pat, c_10, not_false_eq_true, not_true_eq_false, if_true, if_false, ↓reduceIte]
    exact h_iret X hr hlk (Nat.le_of_ble_eq_true rfl) (Nat.le_of_ble_eq_true rfl) hw (by rw [e9]; exact ⟨rfl, ⟨h0, h1, h2, h3, h4⟩, Same.rf⟩) dX9_peg_15
set_option maxHeartbeats 4000000 in
set_option maxRecDepth 100000 in
theorem c_X9_look (l : Launch) (D : va_G) (dA : Nat → ClassId) (z : Nat) (M : Mp) (md : Nat → Nat) (C : Nat → Int64) (S P T : Nat → Int32) (b w v o : Int32) (x1 : Int32) (x2 : Int32) (hM : MR dA M md (C, S, P, T, b, w, v, o)) (hO : Ok (C, S, P, T, b, w, v, o)) : CQ l D dA z yX9_look cX9_look 4 (some .int) [.ref (md 0), .int x1, .int x2] (rmN 2 44) M (Qi D dA z (fun r M' => r = (r_look (C, S, P, T, b, w, v, o) x1 x2).1 ∧ MR dA M' md (r_look (C, S, P, T, b, w, v, o) x1 x2).2 ∧ Same md 5 M M')) := by
  refine ct_of (cc := cX9_look) (maxL := 4) (ret := some .int) (by decide) rfl (by decide) ?_
  intro p e s m below meth c X hml hr hin hlk hw ls hl
  have X : Cx p s m _ c cX9_look RX9 lw_tbl D vwCl (aT dA) := X
  obtain ⟨hx, hb, hown, hts, hK⟩ := id X
  have hl : lv_has ls 4 [(0, .ref (md 0)), (1, .int x1), (2, .int x2)] := hl
  obtain ⟨h0, h1, h2, h3, h4⟩ := id hM
  have hn := hM.ne
  have h0 : M (md 0) = some (.inr (7, [.ref (md 1), .ref (md 2), .ref (md 3), .ref (md 4), .int b, .int w, .int v, .int o])) := h0
  have h1 : M (md 1) = some (.inl (dA 6, 1000, .inr (.inl C))) := h1
  have h2 : M (md 2) = some (.inl (dA 5, 5, .inl S)) := h2
  have h3 : M (md 3) = some (.inl (dA 5, 1600, .inl P)) := h3
  have h4 : M (md 4) = some (.inl (dA 3, 40, .inl T)) := h4
  refine lv_aload_n hx hb dX9_look_0 rfl (lv_at hl 0 rfl) ?_
  refine lv_iload_n hx hb dX9_look_1 rfl (lv_at hl 1 rfl) ?_
  refine lv_iload_n hx hb dX9_look_2 rfl (lv_at hl 2 rfl) ?_
  refine h_calli (h_runV (rest := []) X hml tb_441 tb_10 tb_438 tb_440 tp_lacksPeg9 (by decide +kernel) (by decide +kernel) (c_X9_lacksPeg l D dA z M md C S P T b w v o x1 x2 hM hO) ⟨(Nat.le_of_ble_eq_true rfl), (Nat.le_of_ble_eq_true rfl)⟩ hw (rfl : vwCl[7]? = some (RX9, TX9, 8)) rfl h0 rfl hl.1 rfl (lv_room (Nat.le_of_ble_eq_true rfl)) dX9_look_3 ⟨(Nat.le_of_ble_eq_true rfl), (Nat.le_of_ble_eq_true rfl)⟩) hw (fun r_3 M_3 H locs hp hw => ?_)
  obtain ⟨rfl, rfl⟩ := hp
  refine lv_istore_n (lv' := [(3, .int (f_lacksPeg (C, S, P, T, b, w, v, o) x1 x2)), (0, .ref (md 0)), (1, .int x1), (2, .int x2)]) hx hb dX9_look_6 rfl hl (by decide) rfl (fun ls hl => ?_)
  refine lv_iload_n hx hb dX9_look_7 rfl (lv_at hl 0 rfl) ?_
  refine lv_if_le (tgt := 13) hx hb dX9_look_8 (by decide) (fun c_8 => ?_) (fun c_8 => ?_)
  · refine lv_aload_n hx hb dX9_look_13 rfl (lv_at hl 1 rfl) ?_
    refine lv_aload_n hx hb dX9_look_14 rfl (lv_at hl 1 rfl) ?_
    refine h_get X inX9 (rfl : vwCl[7]? = some (RX9, TX9, 8)) 2 (by decide) tb_337 (fun _ h => h) hw h0 rfl dX9_look_15 ?_
    refine lv_bipush (v := 40) hx hb dX9_look_18 (by decide) ?_
    refine lv_iload_n hx hb dX9_look_20 rfl (lv_at hl 2 rfl) ?_
    refine lv_imul hx hb dX9_look_21 ?_
    refine lv_iload_n hx hb dX9_look_22 rfl (lv_at hl 3 rfl) ?_
    refine lv_iadd hx hb dX9_look_23 ?_
    refine h_iald X 5 rfl hw h3 (lacksPeg_in hO c_8) dX9_look_24 ?_
    refine h_put X inX9 (rfl : vwCl[7]? = some (RX9, TX9, 8)) tyX9 tyX9_ok nmX9 7 (by decide) tb_342 (fun _ h => h) rfl hw h0 (ty := .int) (by decide +kernel) rfl rfl (Nat.le_of_ble_eq_true rfl) dX9_look_25 (fun H locs hw => ?_)
    have hw : wd D vwCl z (mU M (md 0) (.inr (7, [.ref (md 1), .ref (md 2), .ref (md 3), .ref (md 4), .int b, .int w, .int v, .int ((P ((40 * x1) + x2).toNatClampNeg))]))) s.heap H locs := hw
    have hk2 := (mU_n (M) (.inr (7, [.ref (md 1), .ref (md 2), .ref (md 3), .ref (md 4), .int b, .int w, .int v, .int ((P ((40 * x1) + x2).toNatClampNeg))])) (hn 1 0 (by decide) (by decide) (by decide))).trans h1
    have hk3 := (mU_n (M) (.inr (7, [.ref (md 1), .ref (md 2), .ref (md 3), .ref (md 4), .int b, .int w, .int v, .int ((P ((40 * x1) + x2).toNatClampNeg))])) (hn 2 0 (by decide) (by decide) (by decide))).trans h2
    have hk4 := (mU_n (M) (.inr (7, [.ref (md 1), .ref (md 2), .ref (md 3), .ref (md 4), .int b, .int w, .int v, .int ((P ((40 * x1) + x2).toNatClampNeg))])) (hn 3 0 (by decide) (by decide) (by decide))).trans h3
    have hk5 := (mU_n (M) (.inr (7, [.ref (md 1), .ref (md 2), .ref (md 3), .ref (md 4), .int b, .int w, .int v, .int ((P ((40 * x1) + x2).toNatClampNeg))])) (hn 4 0 (by decide) (by decide) (by decide))).trans h4
    have hk6 := mU_s (M) (md 0) (.inr (7, [.ref (md 1), .ref (md 2), .ref (md 3), .ref (md 4), .int b, .int w, .int v, .int ((P ((40 * x1) + x2).toNatClampNeg))]))
    refine lv_iconst (v := 0) hx hb dX9_look_28 (by decide) ?_
    have e9 : r_look (C, S, P, T, b, w, v, o) x1 x2 = (0, (C, S, P, T, b, w, v, (P ((40 * x1) + x2).toNatClampNeg))) := by simp only [r_look, f_pat, s_told, c_8, not_false_eq_true, not_true_eq_false, if_true, if_false, ↓reduceIte]
    exact h_iret X hr hlk (Nat.le_of_ble_eq_true rfl) (Nat.le_of_ble_eq_true rfl) hw (by rw [e9]; exact ⟨rfl, ⟨hk6, hk2, hk3, hk4, hk5⟩, (Same.put Same.rf (show 0 < 5 by decide))⟩) dX9_look_29
  · refine lv_iload_n hx hb dX9_look_11 rfl (lv_at hl 0 rfl) ?_
    have e9 : r_look (C, S, P, T, b, w, v, o) x1 x2 = (f_lacksPeg (C, S, P, T, b, w, v, o) x1 x2, (C, S, P, T, b, w, v, o)) := by simp only [r_look, f_pat, s_told, c_8, not_false_eq_true, not_true_eq_false, if_true, if_false, ↓reduceIte]
    exact h_iret X hr hlk (Nat.le_of_ble_eq_true rfl) (Nat.le_of_ble_eq_true rfl) hw (by rw [e9]; exact ⟨rfl, ⟨h0, h1, h2, h3, h4⟩, Same.rf⟩) dX9_look_12
set_option maxHeartbeats 4000000 in
set_option maxRecDepth 100000 in
theorem c_X9_take (l : Launch) (D : va_G) (dA : Nat → ClassId) (z : Nat) (M : Mp) (md : Nat → Nat) (C : Nat → Int64) (S P T : Nat → Int32) (b w v o : Int32) (x1 : Int32) (hM : MR dA M md (C, S, P, T, b, w, v, o)) (hO : Ok (C, S, P, T, b, w, v, o)) : CQ l D dA z yX9_take cX9_take 2 (some .int) [.ref (md 0), .int x1] (rmN 0 0) M (Qi D dA z (fun r M' => r = (r_take (C, S, P, T, b, w, v, o) x1).1 ∧ MR dA M' md (r_take (C, S, P, T, b, w, v, o) x1).2 ∧ Same md 5 M M')) := by
  refine ct_of (cc := cX9_take) (maxL := 2) (ret := some .int) (by decide) rfl (by decide) ?_
  intro p e s m below meth c X hml hr hin hlk hw ls hl
  have X : Cx p s m _ c cX9_take RX9 lw_tbl D vwCl (aT dA) := X
  obtain ⟨hx, hb, hown, hts, hK⟩ := id X
  have hl : lv_has ls 2 [(0, .ref (md 0)), (1, .int x1)] := hl
  obtain ⟨h0, h1, h2, h3, h4⟩ := id hM
  have hn := hM.ne
  have h0 : M (md 0) = some (.inr (7, [.ref (md 1), .ref (md 2), .ref (md 3), .ref (md 4), .int b, .int w, .int v, .int o])) := h0
  have h1 : M (md 1) = some (.inl (dA 6, 1000, .inr (.inl C))) := h1
  have h2 : M (md 2) = some (.inl (dA 5, 5, .inl S)) := h2
  have h3 : M (md 3) = some (.inl (dA 5, 1600, .inl P)) := h3
  have h4 : M (md 4) = some (.inl (dA 3, 40, .inl T)) := h4
  refine lv_aload_n hx hb dX9_take_0 rfl (lv_at hl 0 rfl) ?_
  refine h_get X inX9 (rfl : vwCl[7]? = some (RX9, TX9, 8)) 4 (by decide) tb_339 (fun _ h => h) hw h0 rfl dX9_take_1 ?_
  refine lv_if_ne (tgt := 9) hx hb dX9_take_4 (by decide) (fun c_4 => ?_) (fun c_4 => ?_)
  · refine lv_iload_n hx hb dX9_take_9 rfl (lv_at hl 1 rfl) ?_
    refine lv_if_lt (tgt := 21) hx hb dX9_take_10 (by decide) (fun c_10 => ?_) (fun c_10 => ?_)
    · refine lv_iconst (v := 3) hx hb dX9_take_21 (by decide) ?_
      have e9 : r_take (C, S, P, T, b, w, v, o) x1 = (3, (C, S, P, T, b, w, v, o)) := by simp only [r_take, vp_nb1, c_4, c_10, not_false_eq_true, not_true_eq_false, if_true, if_false, ↓reduceIte]
      exact h_iret X hr hlk (Nat.le_of_ble_eq_true rfl) (Nat.le_of_ble_eq_true rfl) hw (by rw [e9]; exact ⟨rfl, ⟨h0, h1, h2, h3, h4⟩, Same.rf⟩) dX9_take_22
    · refine lv_iload_n hx hb dX9_take_13 rfl (lv_at hl 1 rfl) ?_
      refine lv_aload_n hx hb dX9_take_14 rfl (lv_at hl 0 rfl) ?_
      refine h_get X inX9 (rfl : vwCl[7]? = some (RX9, TX9, 8)) 5 (by decide) tb_340 (fun _ h => h) hw h0 rfl dX9_take_15 ?_
      refine lv_icmp_lt (tgt := 23) hx hb dX9_take_18 (by decide) (fun c_18 => ?_) (fun c_18 => ?_)
      · refine lv_aload_n hx hb dX9_take_23 rfl (lv_at hl 0 rfl) ?_
        refine h_get X inX9 (rfl : vwCl[7]? = some (RX9, TX9, 8)) 3 (by decide) tb_338 (fun _ h => h) hw h0 rfl dX9_take_24 ?_
        refine lv_iload_n hx hb dX9_take_27 rfl (lv_at hl 1 rfl) ?_
        refine lv_iconst (v := 1) hx hb dX9_take_28 (by decide) ?_
        refine h_zast X 3 rfl hw h4 (row_in hO c_10 c_18) dX9_take_29 (fun H locs hw => ?_)
        have hw : wd D vwCl z (mU M (md 4) (.inl (dA 3, 40, .inl (upd T x1.toNatClampNeg (vp_nar .boolean 1))))) s.heap H locs := hw
        have hk2 := (mU_n (M) (.inl (dA 3, 40, .inl (upd T x1.toNatClampNeg (vp_nar .boolean 1)))) (hn 0 4 (by decide) (by decide) (by decide))).trans h0
        have hk3 := (mU_n (M) (.inl (dA 3, 40, .inl (upd T x1.toNatClampNeg (vp_nar .boolean 1)))) (hn 1 4 (by decide) (by decide) (by decide))).trans h1
        have hk4 := (mU_n (M) (.inl (dA 3, 40, .inl (upd T x1.toNatClampNeg (vp_nar .boolean 1)))) (hn 2 4 (by decide) (by decide) (by decide))).trans h2
        have hk5 := (mU_n (M) (.inl (dA 3, 40, .inl (upd T x1.toNatClampNeg (vp_nar .boolean 1)))) (hn 3 4 (by decide) (by decide) (by decide))).trans h3
        have hk6 := mU_s (M) (md 4) (.inl (dA 3, 40, .inl (upd T x1.toNatClampNeg (vp_nar .boolean 1))))
        refine lv_iconst (v := 0) hx hb dX9_take_30 (by decide) ?_
        have e9 : r_take (C, S, P, T, b, w, v, o) x1 = (0, (C, S, P, (upd T x1.toNatClampNeg (vp_nar .boolean 1)), b, w, v, o)) := by simp only [r_take, vp_nb1, c_4, c_10, c_18, not_false_eq_true, not_true_eq_false, if_true, if_false, ↓reduceIte]
        exact h_iret X hr hlk (Nat.le_of_ble_eq_true rfl) (Nat.le_of_ble_eq_true rfl) hw (by rw [e9]; exact ⟨rfl, ⟨hk2, hk3, hk4, hk5, hk6⟩, (Same.put Same.rf (show 4 < 5 by decide))⟩) dX9_take_31
      · refine lv_iconst (v := 3) hx hb dX9_take_21 (by decide) ?_
        have e9 : r_take (C, S, P, T, b, w, v, o) x1 = (3, (C, S, P, T, b, w, v, o)) := by simp only [r_take, vp_nb1, c_4, c_10, c_18, not_false_eq_true, not_true_eq_false, if_true, if_false, ↓reduceIte]
        exact h_iret X hr hlk (Nat.le_of_ble_eq_true rfl) (Nat.le_of_ble_eq_true rfl) hw (by rw [e9]; exact ⟨rfl, ⟨h0, h1, h2, h3, h4⟩, Same.rf⟩) dX9_take_22
  · refine lv_iconst (v := 2) hx hb dX9_take_7 (by decide) ?_
    have e9 : r_take (C, S, P, T, b, w, v, o) x1 = (2, (C, S, P, T, b, w, v, o)) := by simp only [r_take, vp_nb1, c_4, not_false_eq_true, not_true_eq_false, if_true, if_false, ↓reduceIte]
    exact h_iret X hr hlk (Nat.le_of_ble_eq_true rfl) (Nat.le_of_ble_eq_true rfl) hw (by rw [e9]; exact ⟨rfl, ⟨h0, h1, h2, h3, h4⟩, Same.rf⟩) dX9_take_8
set_option maxHeartbeats 4000000 in
set_option maxRecDepth 100000 in
theorem c_X9_width (l : Launch) (D : va_G) (dA : Nat → ClassId) (z : Nat) (M : Mp) (md : Nat → Nat) (C : Nat → Int64) (S P T : Nat → Int32) (b w v o : Int32) (x1 : Int32) (hM : MR dA M md (C, S, P, T, b, w, v, o)) (hO : Ok (C, S, P, T, b, w, v, o)) : CQ l D dA z yX9_width cX9_width 3 (some .int) [.ref (md 0), .int x1] (rmN 1 21) M (Qi D dA z (fun r M' => r = (r_width (C, S, P, T, b, w, v, o) x1).1 ∧ MR dA M' md (r_width (C, S, P, T, b, w, v, o) x1).2 ∧ Same md 5 M M')) := by
  refine ct_of (cc := cX9_width) (maxL := 3) (ret := some .int) (by decide) rfl (by decide) ?_
  intro p e s m below meth c X hml hr hin hlk hw ls hl
  have X : Cx p s m _ c cX9_width RX9 lw_tbl D vwCl (aT dA) := X
  obtain ⟨hx, hb, hown, hts, hK⟩ := id X
  have hl : lv_has ls 3 [(0, .ref (md 0)), (1, .int x1)] := hl
  obtain ⟨h0, h1, h2, h3, h4⟩ := id hM
  have hn := hM.ne
  have h0 : M (md 0) = some (.inr (7, [.ref (md 1), .ref (md 2), .ref (md 3), .ref (md 4), .int b, .int w, .int v, .int o])) := h0
  have h1 : M (md 1) = some (.inl (dA 6, 1000, .inr (.inl C))) := h1
  have h2 : M (md 2) = some (.inl (dA 5, 5, .inl S)) := h2
  have h3 : M (md 3) = some (.inl (dA 5, 1600, .inl P)) := h3
  have h4 : M (md 4) = some (.inl (dA 3, 40, .inl T)) := h4
  refine lv_aload_n hx hb dX9_width_0 rfl (lv_at hl 0 rfl) ?_
  refine lv_iload_n hx hb dX9_width_1 rfl (lv_at hl 1 rfl) ?_
  refine h_calli (h_runV (rest := []) X hml tb_445 tb_10 tb_442 tb_444 tp_lacksRow9 (by decide +kernel) (by decide +kernel) (c_X9_lacksRow l D dA z M md C S P T b w v o x1 hM hO) ⟨(Nat.le_of_ble_eq_true rfl), (Nat.le_of_ble_eq_true rfl)⟩ hw (rfl : vwCl[7]? = some (RX9, TX9, 8)) rfl h0 rfl hl.1 rfl (lv_room (Nat.le_of_ble_eq_true rfl)) dX9_width_2 ⟨(Nat.le_of_ble_eq_true rfl), (Nat.le_of_ble_eq_true rfl)⟩) hw (fun r_2 M_2 H locs hp hw => ?_)
  obtain ⟨rfl, rfl⟩ := hp
  refine lv_istore_n (lv' := [(2, .int (f_lacksRow (C, S, P, T, b, w, v, o) x1)), (0, .ref (md 0)), (1, .int x1)]) hx hb dX9_width_5 rfl hl (by decide) rfl (fun ls hl => ?_)
  refine lv_iload_n hx hb dX9_width_6 rfl (lv_at hl 0 rfl) ?_
  refine lv_if_le (tgt := 12) hx hb dX9_width_7 (by decide) (fun c_7 => ?_) (fun c_7 => ?_)
  · refine lv_aload_n hx hb dX9_width_12 rfl (lv_at hl 1 rfl) ?_
    refine lv_aload_n hx hb dX9_width_13 rfl (lv_at hl 1 rfl) ?_
    refine h_get X inX9 (rfl : vwCl[7]? = some (RX9, TX9, 8)) 6 (by decide) tb_341 (fun _ h => h) hw h0 rfl dX9_width_14 ?_
    refine h_put X inX9 (rfl : vwCl[7]? = some (RX9, TX9, 8)) tyX9 tyX9_ok nmX9 7 (by decide) tb_342 (fun _ h => h) rfl hw h0 (ty := .int) (by decide +kernel) rfl rfl (Nat.le_of_ble_eq_true rfl) dX9_width_17 (fun H locs hw => ?_)
    have hw : wd D vwCl z (mU M (md 0) (.inr (7, [.ref (md 1), .ref (md 2), .ref (md 3), .ref (md 4), .int b, .int w, .int v, .int v]))) s.heap H locs := hw
    have hk2 := (mU_n (M) (.inr (7, [.ref (md 1), .ref (md 2), .ref (md 3), .ref (md 4), .int b, .int w, .int v, .int v])) (hn 1 0 (by decide) (by decide) (by decide))).trans h1
    have hk3 := (mU_n (M) (.inr (7, [.ref (md 1), .ref (md 2), .ref (md 3), .ref (md 4), .int b, .int w, .int v, .int v])) (hn 2 0 (by decide) (by decide) (by decide))).trans h2
    have hk4 := (mU_n (M) (.inr (7, [.ref (md 1), .ref (md 2), .ref (md 3), .ref (md 4), .int b, .int w, .int v, .int v])) (hn 3 0 (by decide) (by decide) (by decide))).trans h3
    have hk5 := (mU_n (M) (.inr (7, [.ref (md 1), .ref (md 2), .ref (md 3), .ref (md 4), .int b, .int w, .int v, .int v])) (hn 4 0 (by decide) (by decide) (by decide))).trans h4
    have hk6 := mU_s (M) (md 0) (.inr (7, [.ref (md 1), .ref (md 2), .ref (md 3), .ref (md 4), .int b, .int w, .int v, .int v]))
    refine lv_iconst (v := 0) hx hb dX9_width_20 (by decide) ?_
    have e9 : r_width (C, S, P, T, b, w, v, o) x1 = (0, (C, S, P, T, b, w, v, v)) := by simp only [r_width, s_told, c_7, not_false_eq_true, not_true_eq_false, if_true, if_false, ↓reduceIte]
    exact h_iret X hr hlk (Nat.le_of_ble_eq_true rfl) (Nat.le_of_ble_eq_true rfl) hw (by rw [e9]; exact ⟨rfl, ⟨hk6, hk2, hk3, hk4, hk5⟩, (Same.put Same.rf (show 0 < 5 by decide))⟩) dX9_width_21
  · refine lv_iload_n hx hb dX9_width_10 rfl (lv_at hl 0 rfl) ?_
    have e9 : r_width (C, S, P, T, b, w, v, o) x1 = (f_lacksRow (C, S, P, T, b, w, v, o) x1, (C, S, P, T, b, w, v, o)) := by simp only [r_width, s_told, c_7, not_false_eq_true, not_true_eq_false, if_true, if_false, ↓reduceIte]
    exact h_iret X hr hlk (Nat.le_of_ble_eq_true rfl) (Nat.le_of_ble_eq_true rfl) hw (by rw [e9]; exact ⟨rfl, ⟨h0, h1, h2, h3, h4⟩, Same.rf⟩) dX9_width_11
set_option maxHeartbeats 4000000 in
set_option maxRecDepth 100000 in
theorem c_X9_told (l : Launch) (D : va_G) (dA : Nat → ClassId) (z : Nat) (M : Mp) (md : Nat → Nat) (C : Nat → Int64) (S P T : Nat → Int32) (b w v o : Int32) (hM : MR dA M md (C, S, P, T, b, w, v, o)) : CQ l D dA z yX9_told cX9_told 1 (some .int) [.ref (md 0)] (rmN 0 0) M (Qi D dA z (fun r M' => M' = M ∧ r = o)) := by
  refine ct_of (cc := cX9_told) (maxL := 1) (ret := some .int) (by decide) rfl (by decide) ?_
  intro p e s m below meth c X hml hr hin hlk hw ls hl
  have X : Cx p s m _ c cX9_told RX9 lw_tbl D vwCl (aT dA) := X
  obtain ⟨hx, hb, hown, hts, hK⟩ := id X
  have hl : lv_has ls 1 [(0, .ref (md 0))] := hl
  obtain ⟨h0, h1, h2, h3, h4⟩ := id hM
  have hn := hM.ne
  have h0 : M (md 0) = some (.inr (7, [.ref (md 1), .ref (md 2), .ref (md 3), .ref (md 4), .int b, .int w, .int v, .int o])) := h0
  have h1 : M (md 1) = some (.inl (dA 6, 1000, .inr (.inl C))) := h1
  have h2 : M (md 2) = some (.inl (dA 5, 5, .inl S)) := h2
  have h3 : M (md 3) = some (.inl (dA 5, 1600, .inl P)) := h3
  have h4 : M (md 4) = some (.inl (dA 3, 40, .inl T)) := h4
  refine lv_aload_n hx hb dX9_told_0 rfl (lv_at hl 0 rfl) ?_
  refine h_get X inX9 (rfl : vwCl[7]? = some (RX9, TX9, 8)) 7 (by decide) tb_342 (fun _ h => h) hw h0 rfl dX9_told_1 ?_
  exact h_iret X hr hlk (Nat.le_of_ble_eq_true rfl) (Nat.le_of_ble_eq_true rfl) hw ⟨rfl, by simp only [eq_self, not_false_eq_true, not_true_eq_false, if_true, if_false, ↓reduceIte]⟩ dX9_told_4
