set_option maxHeartbeats 4000000 in
set_option maxRecDepth 100000 in
theorem c_X9_lacks (l : Launch) (D : va_G) (dA : Nat → ClassId) (z : Nat) (M : Mp) (md : Nat → Nat) (C : Nat → Int64) (S P T : Nat → Int32) (b w v o : Int32) (x1 : Int32) (x2 : Int32) (hM : MR dA M md (C, S, P, T, b, w, v, o)) : CQ l D dA z yX9_lacks cX9_lacks 3 (some .int) [.ref (md 0), .int x1, .int x2] (rmN 1 20) M (Qi D dA z (fun r M' => M' = M ∧ r = f_lacks S x1 x2)) := by
  refine ct_of (cc := cX9_lacks) (maxL := 3) (ret := some .int) (by decide) rfl (by decide) ?_
  intro p e s m below meth c X hml hr hin hlk hw ls hl
  have X : Cx p s m _ c cX9_lacks RX9 lw_tbl D vwCl (aT dA) := X
  obtain ⟨hx, hb, hown, hts, hK⟩ := id X
  have hl : lv_has ls 3 [(0, .ref (md 0)), (1, .int x1), (2, .int x2)] := hl
  obtain ⟨h0, h1, h2, h3, h4⟩ := id hM
  have hn := hM.ne
  have h0 : M (md 0) = some (.inr (7, [.ref (md 1), .ref (md 2), .ref (md 3), .ref (md 4), .int b, .int w, .int v, .int o])) := h0
  have h1 : M (md 1) = some (.inl (dA 6, 1000, .inr (.inl C))) := h1
  have h2 : M (md 2) = some (.inl (dA 5, 5, .inl S)) := h2
  have h3 : M (md 3) = some (.inl (dA 5, 1600, .inl P)) := h3
  have h4 : M (md 4) = some (.inl (dA 3, 40, .inl T)) := h4
  refine lv_iload_n hx hb dX9_lacks_0 rfl (lv_at hl 1 rfl) ?_
  refine h_calli (h_runS (rest := []) X hml tb_367 tb_10 tb_365 tb_366 (by decide +kernel) (by decide +kernel) (c_X9_isRoll l D dA z M x1) ⟨(Nat.le_of_ble_eq_true rfl), (Nat.le_of_ble_eq_true rfl)⟩ hw rfl hl.1 rfl (lv_room (Nat.le_of_ble_eq_true rfl)) dX9_lacks_1 ⟨(Nat.le_of_ble_eq_true rfl), (Nat.le_of_ble_eq_true rfl)⟩) hw (fun r_1 M_1 H locs hp hw => ?_)
  obtain ⟨rfl, rfl⟩ := hp
  refine lv_if_ne (tgt := 9) hx hb dX9_lacks_4 (by decide) (fun c_4 => ?_) (fun c_4 => ?_)
  · refine lv_aload_n hx hb dX9_lacks_9 rfl (lv_at hl 0 rfl) ?_
    refine h_get X inX9 (rfl : vwCl[7]? = some (RX9, TX9, 8)) 1 (by decide) tb_336 (fun _ h => h) hw h0 rfl dX9_lacks_10 ?_
    refine lv_iload_n hx hb dX9_lacks_13 rfl (lv_at hl 1 rfl) ?_
    refine h_iald X 5 rfl hw h2 (isRoll_in c_4) dX9_lacks_14 ?_
    refine lv_if_ge (tgt := 20) hx hb dX9_lacks_15 (by decide) (fun c_15 => ?_) (fun c_15 => ?_)
    · refine lv_iload_n hx hb dX9_lacks_20 rfl (lv_at hl 2 rfl) ?_
      refine lv_if_lt (tgt := 34) hx hb dX9_lacks_21 (by decide) (fun c_21 => ?_) (fun c_21 => ?_)
      · refine lv_iconst (v := 3) hx hb dX9_lacks_34 (by decide) ?_
        refine lv_goto (tgt := 39) hx hb dX9_lacks_35 (by decide) ?_
        exact h_iret X hr hlk (Nat.le_of_ble_eq_true rfl) (Nat.le_of_ble_eq_true rfl) hw ⟨rfl, by simp only [f_lacks, c_4, c_15, c_21, not_false_eq_true, not_true_eq_false, if_true, if_false, ↓reduceIte]⟩ dX9_lacks_39
      · refine lv_iload_n hx hb dX9_lacks_24 rfl (lv_at hl 2 rfl) ?_
        refine lv_aload_n hx hb dX9_lacks_25 rfl (lv_at hl 0 rfl) ?_
        refine h_get X inX9 (rfl : vwCl[7]? = some (RX9, TX9, 8)) 1 (by decide) tb_336 (fun _ h => h) hw h0 rfl dX9_lacks_26 ?_
        refine lv_iload_n hx hb dX9_lacks_29 rfl (lv_at hl 1 rfl) ?_
        refine h_iald X 5 rfl hw h2 (isRoll_in c_4) dX9_lacks_30 ?_
        refine lv_icmp_lt (tgt := 38) hx hb dX9_lacks_31 (by decide) (fun c_31 => ?_) (fun c_31 => ?_)
        · refine lv_iconst (v := 0) hx hb dX9_lacks_38 (by decide) ?_
          exact h_iret X hr hlk (Nat.le_of_ble_eq_true rfl) (Nat.le_of_ble_eq_true rfl) hw ⟨rfl, by simp only [f_lacks, c_4, c_15, c_21, c_31, not_false_eq_true, not_true_eq_false, if_true, if_false, ↓reduceIte]⟩ dX9_lacks_39
        · refine lv_iconst (v := 3) hx hb dX9_lacks_34 (by decide) ?_
          refine lv_goto (tgt := 39) hx hb dX9_lacks_35 (by decide) ?_
          exact h_iret X hr hlk (Nat.le_of_ble_eq_true rfl) (Nat.le_of_ble_eq_true rfl) hw ⟨rfl, by simp only [f_lacks, c_4, c_15, c_21, c_31, not_false_eq_true, not_true_eq_false, if_true, if_false, ↓reduceIte]⟩ dX9_lacks_39
    · refine lv_iconst (v := 2) hx hb dX9_lacks_18 (by decide) ?_
      exact h_iret X hr hlk (Nat.le_of_ble_eq_true rfl) (Nat.le_of_ble_eq_true rfl) hw ⟨rfl, by simp only [f_lacks, c_4, c_15, not_false_eq_true, not_true_eq_false, if_true, if_false, ↓reduceIte]⟩ dX9_lacks_19
  · refine lv_iconst (v := 1) hx hb dX9_lacks_7 (by decide) ?_
    exact h_iret X hr hlk (Nat.le_of_ble_eq_true rfl) (Nat.le_of_ble_eq_true rfl) hw ⟨rfl, by simp only [f_lacks, c_4, not_false_eq_true, not_true_eq_false, if_true, if_false, ↓reduceIte]⟩ dX9_lacks_8
set_option maxHeartbeats 4000000 in
set_option maxRecDepth 100000 in
theorem c_X9_tells (l : Launch) (D : va_G) (dA : Nat → ClassId) (z : Nat) (M : Mp) (md : Nat → Nat) (C : Nat → Int64) (S P T : Nat → Int32) (b w v o : Int32) (x1 : Int32) (x2 : Int32) (x3 : Int64) (hM : MR dA M md (C, S, P, T, b, w, v, o)) (hi : vp_in (200 * x1 + x2) 1000) : CQ l D dA z yX9_tells cX9_tells 5 (some .int) [.ref (md 0), .int x1, .int x2, .long x3] (rmN 0 0) M (Qi D dA z (fun r M' => r = 0 ∧ MR dA M' md (s_tells (C, S, P, T, b, w, v, o) x1 x2 x3) ∧ Same md 5 M M')) := by
  refine ct_of (cc := cX9_tells) (maxL := 5) (ret := some .int) (by decide) rfl (by decide) ?_
  intro p e s m below meth c X hml hr hin hlk hw ls hl
  have X : Cx p s m _ c cX9_tells RX9 lw_tbl D vwCl (aT dA) := X
  obtain ⟨hx, hb, hown, hts, hK⟩ := id X
  have hl : lv_has ls 5 [(0, .ref (md 0)), (1, .int x1), (2, .int x2), (3, .long x3)] := hl
  obtain ⟨h0, h1, h2, h3, h4⟩ := id hM
  have hn := hM.ne
  have h0 : M (md 0) = some (.inr (7, [.ref (md 1), .ref (md 2), .ref (md 3), .ref (md 4), .int b, .int w, .int v, .int o])) := h0
  have h1 : M (md 1) = some (.inl (dA 6, 1000, .inr (.inl C))) := h1
  have h2 : M (md 2) = some (.inl (dA 5, 5, .inl S)) := h2
  have h3 : M (md 3) = some (.inl (dA 5, 1600, .inl P)) := h3
  have h4 : M (md 4) = some (.inl (dA 3, 40, .inl T)) := h4
  refine lv_aload_n hx hb dX9_tells_0 rfl (lv_at hl 0 rfl) ?_
  refine h_get X inX9 (rfl : vwCl[7]? = some (RX9, TX9, 8)) 0 (by decide) tb_335 (fun _ h => h) hw h0 rfl dX9_tells_1 ?_
  refine lv_sipush (v := 200) hx hb dX9_tells_4 (by decide) ?_
  refine lv_iload_n hx hb dX9_tells_7 rfl (lv_at hl 1 rfl) ?_
  refine lv_imul hx hb dX9_tells_8 ?_
  refine lv_iload_n hx hb dX9_tells_9 rfl (lv_at hl 2 rfl) ?_
  refine lv_iadd hx hb dX9_tells_10 ?_
  refine lv_lload_n hx hb dX9_tells_11 rfl (lv_at hl 3 rfl) ?_
  refine h_last X 6 rfl hw h1 hi dX9_tells_12 (fun H locs hw => ?_)
  have hw : wd D vwCl z (mU M (md 1) (.inl (dA 6, 1000, .inr (.inl (vp_updL C ((200 * x1) + x2).toNatClampNeg x3))))) s.heap H locs := hw
  have hk2 := (mU_n (M) (.inl (dA 6, 1000, .inr (.inl (vp_updL C ((200 * x1) + x2).toNatClampNeg x3)))) (hn 0 1 (by decide) (by decide) (by decide))).trans h0
  have hk3 := (mU_n (M) (.inl (dA 6, 1000, .inr (.inl (vp_updL C ((200 * x1) + x2).toNatClampNeg x3)))) (hn 2 1 (by decide) (by decide) (by decide))).trans h2
  have hk4 := (mU_n (M) (.inl (dA 6, 1000, .inr (.inl (vp_updL C ((200 * x1) + x2).toNatClampNeg x3)))) (hn 3 1 (by decide) (by decide) (by decide))).trans h3
  have hk5 := (mU_n (M) (.inl (dA 6, 1000, .inr (.inl (vp_updL C ((200 * x1) + x2).toNatClampNeg x3)))) (hn 4 1 (by decide) (by decide) (by decide))).trans h4
  have hk6 := mU_s (M) (md 1) (.inl (dA 6, 1000, .inr (.inl (vp_updL C ((200 * x1) + x2).toNatClampNeg x3))))
  refine lv_aload_n hx hb dX9_tells_13 rfl (lv_at hl 0 rfl) ?_
  refine lv_lload_n hx hb dX9_tells_14 rfl (lv_at hl 3 rfl) ?_
  refine lv_ldc2 (v := 2147483647) hx hb hown (hts _ tb_384) dX9_tells_15 ?_
  refine W.lcmp hx hb dX9_tells_18 ?_
  refine lv_if_le (tgt := 27) hx hb dX9_tells_19 (by decide) (fun c_19 => ?_) (fun c_19 => ?_)
  · have c_19 := (lg_cmp_le _ _).mp c_19
    refine lv_lload_n hx hb dX9_tells_27 rfl (lv_at hl 3 rfl) ?_
    refine lv_l2i hx hb dX9_tells_28 rfl ?_
    refine h_put X inX9 (rfl : vwCl[7]? = some (RX9, TX9, 8)) tyX9 tyX9_ok nmX9 7 (by decide) tb_342 (fun _ h => h) rfl hw hk2 (ty := .int) (by decide +kernel) rfl rfl (Nat.le_of_ble_eq_true rfl) dX9_tells_29 (fun H locs hw => ?_)
    have hw : wd D vwCl z (mU (mU M (md 1) (.inl (dA 6, 1000, .inr (.inl (vp_updL C ((200 * x1) + x2).toNatClampNeg x3))))) (md 0) (.inr (7, [.ref (md 1), .ref (md 2), .ref (md 3), .ref (md 4), .int b, .int w, .int v, .int (x3.toInt32)]))) s.heap H locs := hw
    have hk8 := (mU_n (mU M (md 1) (.inl (dA 6, 1000, .inr (.inl (vp_updL C ((200 * x1) + x2).toNatClampNeg x3))))) (.inr (7, [.ref (md 1), .ref (md 2), .ref (md 3), .ref (md 4), .int b, .int w, .int v, .int (x3.toInt32)])) (hn 2 0 (by decide) (by decide) (by decide))).trans hk3
    have hk9 := (mU_n (mU M (md 1) (.inl (dA 6, 1000, .inr (.inl (vp_updL C ((200 * x1) + x2).toNatClampNeg x3))))) (.inr (7, [.ref (md 1), .ref (md 2), .ref (md 3), .ref (md 4), .int b, .int w, .int v, .int (x3.toInt32)])) (hn 3 0 (by decide) (by decide) (by decide))).trans hk4
    have hk10 := (mU_n (mU M (md 1) (.inl (dA 6, 1000, .inr (.inl (vp_updL C ((200 * x1) + x2).toNatClampNeg x3))))) (.inr (7, [.ref (md 1), .ref (md 2), .ref (md 3), .ref (md 4), .int b, .int w, .int v, .int (x3.toInt32)])) (hn 4 0 (by decide) (by decide) (by decide))).trans hk5
    have hk11 := (mU_n (mU M (md 1) (.inl (dA 6, 1000, .inr (.inl (vp_updL C ((200 * x1) + x2).toNatClampNeg x3))))) (.inr (7, [.ref (md 1), .ref (md 2), .ref (md 3), .ref (md 4), .int b, .int w, .int v, .int (x3.toInt32)])) (hn 1 0 (by decide) (by decide) (by decide))).trans hk6
    have hk12 := mU_s (mU M (md 1) (.inl (dA 6, 1000, .inr (.inl (vp_updL C ((200 * x1) + x2).toNatClampNeg x3))))) (md 0) (.inr (7, [.ref (md 1), .ref (md 2), .ref (md 3), .ref (md 4), .int b, .int w, .int v, .int (x3.toInt32)]))
    refine lv_iconst (v := 0) hx hb dX9_tells_32 (by decide) ?_
    have e9 : s_tells (C, S, P, T, b, w, v, o) x1 x2 x3 = ((vp_updL C ((200 * x1) + x2).toNatClampNeg x3), S, P, T, b, w, v, x3.toInt32) := by simp only [s_tells, f_at, f_cap, c_19, not_false_eq_true, not_true_eq_false, if_true, if_false, ↓reduceIte]
    exact h_iret X hr hlk (Nat.le_of_ble_eq_true rfl) (Nat.le_of_ble_eq_true rfl) hw (by rw [e9]; exact ⟨rfl, ⟨hk12, hk11, hk8, hk9, hk10⟩, (Same.put (Same.put Same.rf (show 1 < 5 by decide)) (show 0 < 5 by decide))⟩) dX9_tells_33
  · have c_19 := (not_congr (lg_cmp_le _ _)).mp c_19
    refine lv_ldc (v := 2147483647) hx hb hown (hts _ tb_385) dX9_tells_22 ?_
    refine lv_goto (tgt := 29) hx hb dX9_tells_24 (by decide) ?_
    refine h_put X inX9 (rfl : vwCl[7]? = some (RX9, TX9, 8)) tyX9 tyX9_ok nmX9 7 (by decide) tb_342 (fun _ h => h) rfl hw hk2 (ty := .int) (by decide +kernel) rfl rfl (Nat.le_of_ble_eq_true rfl) dX9_tells_29 (fun H locs hw => ?_)
    have hw : wd D vwCl z (mU (mU M (md 1) (.inl (dA 6, 1000, .inr (.inl (vp_updL C ((200 * x1) + x2).toNatClampNeg x3))))) (md 0) (.inr (7, [.ref (md 1), .ref (md 2), .ref (md 3), .ref (md 4), .int b, .int w, .int v, .int 2147483647]))) s.heap H locs := hw
    have hk14 := (mU_n (mU M (md 1) (.inl (dA 6, 1000, .inr (.inl (vp_updL C ((200 * x1) + x2).toNatClampNeg x3))))) (.inr (7, [.ref (md 1), .ref (md 2), .ref (md 3), .ref (md 4), .int b, .int w, .int v, .int 2147483647])) (hn 2 0 (by decide) (by decide) (by decide))).trans hk3
    have hk15 := (mU_n (mU M (md 1) (.inl (dA 6, 1000, .inr (.inl (vp_updL C ((200 * x1) + x2).toNatClampNeg x3))))) (.inr (7, [.ref (md 1), .ref (md 2), .ref (md 3), .ref (md 4), .int b, .int w, .int v, .int 2147483647])) (hn 3 0 (by decide) (by decide) (by decide))).trans hk4
    have hk16 := (mU_n (mU M (md 1) (.inl (dA 6, 1000, .inr (.inl (vp_updL C ((200 * x1) + x2).toNatClampNeg x3))))) (.inr (7, [.ref (md 1), .ref (md 2), .ref (md 3), .ref (md 4), .int b, .int w, .int v, .int 2147483647])) (hn 4 0 (by decide) (by decide) (by decide))).trans hk5
    have hk17 := (mU_n (mU M (md 1) (.inl (dA 6, 1000, .inr (.inl (vp_updL C ((200 * x1) + x2).toNatClampNeg x3))))) (.inr (7, [.ref (md 1), .ref (md 2), .ref (md 3), .ref (md 4), .int b, .int w, .int v, .int 2147483647])) (hn 1 0 (by decide) (by decide) (by decide))).trans hk6
    have hk18 := mU_s (mU M (md 1) (.inl (dA 6, 1000, .inr (.inl (vp_updL C ((200 * x1) + x2).toNatClampNeg x3))))) (md 0) (.inr (7, [.ref (md 1), .ref (md 2), .ref (md 3), .ref (md 4), .int b, .int w, .int v, .int 2147483647]))
    refine lv_iconst (v := 0) hx hb dX9_tells_32 (by decide) ?_
    have e9 : s_tells (C, S, P, T, b, w, v, o) x1 x2 x3 = ((vp_updL C ((200 * x1) + x2).toNatClampNeg x3), S, P, T, b, w, v, 2147483647) := by simp only [s_tells, f_at, f_cap, c_19, not_false_eq_true, not_true_eq_false, if_true, if_false, ↓reduceIte]
    exact h_iret X hr hlk (Nat.le_of_ble_eq_true rfl) (Nat.le_of_ble_eq_true rfl) hw (by rw [e9]; exact ⟨rfl, ⟨hk18, hk17, hk14, hk15, hk16⟩, (Same.put (Same.put Same.rf (show 1 < 5 by decide)) (show 0 < 5 by decide))⟩) dX9_tells_33
set_option maxHeartbeats 4000000 in
set_option maxRecDepth 100000 in
theorem c_X9_tear (l : Launch) (D : va_G) (dA : Nat → ClassId) (z : Nat) (M : Mp) (md : Nat → Nat) (C : Nat → Int64) (S P T : Nat → Int32) (b w v o : Int32) (x1 : Int32) (hM : MR dA M md (C, S, P, T, b, w, v, o)) : CQ l D dA z yX9_tear cX9_tear 2 (some .int) [.ref (md 0), .int x1] (rmN 1 20) M (Qi D dA z (fun r M' => r = (r_tear (C, S, P, T, b, w, v, o) x1).1 ∧ MR dA M' md (r_tear (C, S, P, T, b, w, v, o) x1).2 ∧ Same md 5 M M')) := by
  refine ct_of (cc := cX9_tear) (maxL := 2) (ret := some .int) (by decide) rfl (by decide) ?_
  intro p e s m below meth c X hml hr hin hlk hw ls hl
  have X : Cx p s m _ c cX9_tear RX9 lw_tbl D vwCl (aT dA) := X
  obtain ⟨hx, hb, hown, hts, hK⟩ := id X
  have hl : lv_has ls 2 [(0, .ref (md 0)), (1, .int x1)] := hl
  obtain ⟨h0, h1, h2, h3, h4⟩ := id hM
  have hn := hM.ne
  have h0 : M (md 0) = some (.inr (7, [.ref (md 1), .ref (md 2), .ref (md 3), .ref (md 4), .int b, .int w, .int v, .int o])) := h0
  have h1 : M (md 1) = some (.inl (dA 6, 1000, .inr (.inl C))) := h1
  have h2 : M (md 2) = some (.inl (dA 5, 5, .inl S)) := h2
  have h3 : M (md 3) = some (.inl (dA 5, 1600, .inl P)) := h3
  have h4 : M (md 4) = some (.inl (dA 3, 40, .inl T)) := h4
  refine lv_iload_n hx hb dX9_tear_0 rfl (lv_at hl 1 rfl) ?_
  refine h_calli (h_runS (rest := []) X hml tb_367 tb_10 tb_365 tb_366 (by decide +kernel) (by decide +kernel) (c_X9_isRoll l D dA z M x1) ⟨(Nat.le_of_ble_eq_true rfl), (Nat.le_of_ble_eq_true rfl)⟩ hw rfl hl.1 rfl (lv_room (Nat.le_of_ble_eq_true rfl)) dX9_tear_1 ⟨(Nat.le_of_ble_eq_true rfl), (Nat.le_of_ble_eq_true rfl)⟩) hw (fun r_1 M_1 H locs hp hw => ?_)
  obtain ⟨rfl, rfl⟩ := hp
  refine lv_if_ne (tgt := 9) hx hb dX9_tear_4 (by decide) (fun c_4 => ?_) (fun c_4 => ?_)
  · refine lv_aload_n hx hb dX9_tear_9 rfl (lv_at hl 0 rfl) ?_
    refine h_get X inX9 (rfl : vwCl[7]? = some (RX9, TX9, 8)) 1 (by decide) tb_336 (fun _ h => h) hw h0 rfl dX9_tear_10 ?_
    refine lv_iload_n hx hb dX9_tear_13 rfl (lv_at hl 1 rfl) ?_
    refine h_iald X 5 rfl hw h2 (isRoll_in c_4) dX9_tear_14 ?_
    refine lv_if_ge (tgt := 20) hx hb dX9_tear_15 (by decide) (fun c_15 => ?_) (fun c_15 => ?_)
    · refine lv_aload_n hx hb dX9_tear_20 rfl (lv_at hl 0 rfl) ?_
      refine h_get X inX9 (rfl : vwCl[7]? = some (RX9, TX9, 8)) 1 (by decide) tb_336 (fun _ h => h) hw h0 rfl dX9_tear_21 ?_
      refine lv_iload_n hx hb dX9_tear_24 rfl (lv_at hl 1 rfl) ?_
      refine lv_iconst (v := -1) hx hb dX9_tear_25 (by decide) ?_
      refine h_iast X 5 rfl hw h2 (isRoll_in c_4) dX9_tear_26 (fun H locs hw => ?_)
      have hw : wd D vwCl z (mU M (md 2) (.inl (dA 5, 5, .inl (upd S x1.toNatClampNeg (-1))))) s.heap H locs := hw
      have hk2 := (mU_n (M) (.inl (dA 5, 5, .inl (upd S x1.toNatClampNeg (-1)))) (hn 0 2 (by decide) (by decide) (by decide))).trans h0
      have hk3 := (mU_n (M) (.inl (dA 5, 5, .inl (upd S x1.toNatClampNeg (-1)))) (hn 1 2 (by decide) (by decide) (by decide))).trans h1
      have hk4 := (mU_n (M) (.inl (dA 5, 5, .inl (upd S x1.toNatClampNeg (-1)))) (hn 3 2 (by decide) (by decide) (by decide))).trans h3
      have hk5 := (mU_n (M) (.inl (dA 5, 5, .inl (upd S x1.toNatClampNeg (-1)))) (hn 4 2 (by decide) (by decide) (by decide))).trans h4
      have hk6 := mU_s (M) (md 2) (.inl (dA 5, 5, .inl (upd S x1.toNatClampNeg (-1))))
      refine lv_iconst (v := 0) hx hb dX9_tear_27 (by decide) ?_
      have e9 : r_tear (C, S, P, T, b, w, v, o) x1 = (0, (C, (upd S x1.toNatClampNeg (-1)), P, T, b, w, v, o)) := by simp only [r_tear, c_4, c_15, not_false_eq_true, not_true_eq_false, if_true, if_false, ↓reduceIte]
      exact h_iret X hr hlk (Nat.le_of_ble_eq_true rfl) (Nat.le_of_ble_eq_true rfl) hw (by rw [e9]; exact ⟨rfl, ⟨hk2, hk3, hk6, hk4, hk5⟩, (Same.put Same.rf (show 2 < 5 by decide))⟩) dX9_tear_28
    · refine lv_iconst (v := 2) hx hb dX9_tear_18 (by decide) ?_
      have e9 : r_tear (C, S, P, T, b, w, v, o) x1 = (2, (C, S, P, T, b, w, v, o)) := by simp only [r_tear, c_4, c_15, not_false_eq_true, not_true_eq_false, if_true, if_false, ↓reduceIte]
      exact h_iret X hr hlk (Nat.le_of_ble_eq_true rfl) (Nat.le_of_ble_eq_true rfl) hw (by rw [e9]; exact ⟨rfl, ⟨h0, h1, h2, h3, h4⟩, Same.rf⟩) dX9_tear_19
  · refine lv_iconst (v := 1) hx hb dX9_tear_7 (by decide) ?_
    have e9 : r_tear (C, S, P, T, b, w, v, o) x1 = (1, (C, S, P, T, b, w, v, o)) := by simp only [r_tear, c_4, not_false_eq_true, not_true_eq_false, if_true, if_false, ↓reduceIte]
    exact h_iret X hr hlk (Nat.le_of_ble_eq_true rfl) (Nat.le_of_ble_eq_true rfl) hw (by rw [e9]; exact ⟨rfl, ⟨h0, h1, h2, h3, h4⟩, Same.rf⟩) dX9_tear_8
set_option maxHeartbeats 4000000 in
set_option maxRecDepth 100000 in
theorem c_X9_read (l : Launch) (D : va_G) (dA : Nat → ClassId) (z : Nat) (M : Mp) (md : Nat → Nat) (C : Nat → Int64) (S P T : Nat → Int32) (b w v o : Int32) (x1 : Int32) (x2 : Int32) (hM : MR dA M md (C, S, P, T, b, w, v, o)) (hO : Ok (C, S, P, T, b, w, v, o)) : CQ l D dA z yX9_read cX9_read 4 (some .int) [.ref (md 0), .int x1, .int x2] (rmN 2 45) M (Qi D dA z (fun r M' => r = (r_read (C, S, P, T, b, w, v, o) x1 x2).1 ∧ MR dA M' md (r_read (C, S, P, T, b, w, v, o) x1 x2).2 ∧ Same md 5 M M')) := by
  refine ct_of (cc := cX9_read) (maxL := 4) (ret := some .int) (by decide) rfl (by decide) ?_
  intro p e s m below meth c X hml hr hin hlk hw ls hl
  have X : Cx p s m _ c cX9_read RX9 lw_tbl D vwCl (aT dA) := X
  obtain ⟨hx, hb, hown, hts, hK⟩ := id X
  have hl : lv_has ls 4 [(0, .ref (md 0)), (1, .int x1), (2, .int x2)] := hl
  obtain ⟨h0, h1, h2, h3, h4⟩ := id hM
  have hn := hM.ne
  have h0 : M (md 0) = some (.inr (7, [.ref (md 1), .ref (md 2), .ref (md 3), .ref (md 4), .int b, .int w, .int v, .int o])) := h0
  have h1 : M (md 1) = some (.inl (dA 6, 1000, .inr (.inl C))) := h1
  have h2 : M (md 2) = some (.inl (dA 5, 5, .inl S)) := h2
  have h3 : M (md 3) = some (.inl (dA 5, 1600, .inl P)) := h3
  have h4 : M (md 4) = some (.inl (dA 3, 40, .inl T)) := h4
  refine lv_aload_n hx hb dX9_read_0 rfl (lv_at hl 0 rfl) ?_
  refine lv_iload_n hx hb dX9_read_1 rfl (lv_at hl 1 rfl) ?_
  refine lv_iload_n hx hb dX9_read_2 rfl (lv_at hl 2 rfl) ?_
  refine h_calli (h_runV (rest := []) X hml tb_379 tb_10 tb_376 tb_378 tp_lacks9 (by decide +kernel) (by decide +kernel) (c_X9_lacks l D dA z M md C S P T b w v o x1 x2 hM) ⟨(Nat.le_of_ble_eq_true rfl), (Nat.le_of_ble_eq_true rfl)⟩ hw (rfl : vwCl[7]? = some (RX9, TX9, 8)) rfl h0 rfl hl.1 rfl (lv_room (Nat.le_of_ble_eq_true rfl)) dX9_read_3 ⟨(Nat.le_of_ble_eq_true rfl), (Nat.le_of_ble_eq_true rfl)⟩) hw (fun r_3 M_3 H locs hp hw => ?_)
  obtain ⟨rfl, rfl⟩ := hp
  refine lv_istore_n (lv' := [(3, .int (f_lacks S x1 x2)), (0, .ref (md 0)), (1, .int x1), (2, .int x2)]) hx hb dX9_read_6 rfl hl (by decide) rfl (fun ls hl => ?_)
  refine lv_iload_n hx hb dX9_read_7 rfl (lv_at hl 0 rfl) ?_
  refine lv_if_le (tgt := 15) hx hb dX9_read_8 (by decide) (fun c_8 => ?_) (fun c_8 => ?_)
  · refine lv_aload_n hx hb dX9_read_15 rfl (lv_at hl 1 rfl) ?_
    refine lv_iload_n hx hb dX9_read_16 rfl (lv_at hl 2 rfl) ?_
    refine lv_iload_n hx hb dX9_read_17 rfl (lv_at hl 3 rfl) ?_
    refine lv_aload_n hx hb dX9_read_18 rfl (lv_at hl 1 rfl) ?_
    refine h_get X inX9 (rfl : vwCl[7]? = some (RX9, TX9, 8)) 0 (by decide) tb_335 (fun _ h => h) hw h0 rfl dX9_read_19 ?_
    refine lv_sipush (v := 200) hx hb dX9_read_22 (by decide) ?_
    refine lv_iload_n hx hb dX9_read_25 rfl (lv_at hl 2 rfl) ?_
    refine lv_imul hx hb dX9_read_26 ?_
    refine lv_iload_n hx hb dX9_read_27 rfl (lv_at hl 3 rfl) ?_
    refine lv_iadd hx hb dX9_read_28 ?_
    refine h_lald X 6 rfl hw h1 (lacks_in hO.1 c_8) dX9_read_29 ?_
    refine h_calli (h_runV (rest := []) X hml tb_383 tb_10 tb_380 tb_382 tp_tells9 (by decide +kernel) (by decide +kernel) (c_X9_tells l D dA z M md C S P T b w v o x1 x2 (C ((200 * x1) + x2).toNatClampNeg) hM (lacks_in hO.1 c_8)) ⟨(Nat.le_of_ble_eq_true rfl), (Nat.le_of_ble_eq_true rfl)⟩ hw (rfl : vwCl[7]? = some (RX9, TX9, 8)) rfl h0 rfl hl.1 rfl (lv_room (Nat.le_of_ble_eq_true rfl)) dX9_read_30 ⟨(Nat.le_of_ble_eq_true rfl), (Nat.le_of_ble_eq_true rfl)⟩) hw (fun r_30 M_30 H locs hp hw => ?_)
    obtain ⟨rfl, hM2, hS2⟩ := hp
    have e9 : r_read (C, S, P, T, b, w, v, o) x1 x2 = (0, s_tells (C, S, P, T, b, w, v, o) x1 x2 (C ((200 * x1) + x2).toNatClampNeg)) := by simp only [r_read, f_at, c_8, not_false_eq_true, not_true_eq_false, if_true, if_false, ↓reduceIte]
    exact h_iret X hr hlk (Nat.le_of_ble_eq_true rfl) (Nat.le_of_ble_eq_true rfl) hw (by rw [e9]; exact ⟨rfl, hM2, hS2⟩) dX9_read_33
  · refine lv_iload_n hx hb dX9_read_11 rfl (lv_at hl 0 rfl) ?_
    refine lv_goto (tgt := 33) hx hb dX9_read_12 (by decide) ?_
    have e9 : r_read (C, S, P, T, b, w, v, o) x1 x2 = (f_lacks S x1 x2, (C, S, P, T, b, w, v, o)) := by simp only [r_read, f_at, c_8, not_false_eq_true, not_true_eq_false, if_true, if_false, ↓reduceIte]
    exact h_iret X hr hlk (Nat.le_of_ble_eq_true rfl) (Nat.le_of_ble_eq_true rfl) hw (by rw [e9]; exact ⟨rfl, ⟨h0, h1, h2, h3, h4⟩, Same.rf⟩) dX9_read_33
set_option maxHeartbeats 4000000 in
set_option maxRecDepth 100000 in
theorem c_X9_mark (l : Launch) (D : va_G) (dA : Nat → ClassId) (z : Nat) (M : Mp) (md : Nat → Nat) (C : Nat → Int64) (S P T : Nat → Int32) (b w v o : Int32) (x1 : Int32) (x2 : Int32) (x3 : Int32) (hM : MR dA M md (C, S, P, T, b, w, v, o)) (hO : Ok (C, S, P, T, b, w, v, o)) : CQ l D dA z yX9_mark cX9_mark 5 (some .int) [.ref (md 0), .int x1, .int x2, .int x3] (rmN 2 62) M (Qi D dA z (fun r M' => r = (r_mark (C, S, P, T, b, w, v, o) x1 x2 x3).1 ∧ MR dA M' md (r_mark (C, S, P, T, b, w, v, o) x1 x2 x3).2 ∧ Same md 5 M M')) := by
  refine ct_of (cc := cX9_mark) (maxL := 5) (ret := some .int) (by decide) rfl (by decide) ?_
  intro p e s m below meth c X hml hr hin hlk hw ls hl
  have X : Cx p s m _ c cX9_mark RX9 lw_tbl D vwCl (aT dA) := X
  obtain ⟨hx, hb, hown, hts, hK⟩ := id X
  have hl : lv_has ls 5 [(0, .ref (md 0)), (1, .int x1), (2, .int x2), (3, .int x3)] := hl
  obtain ⟨h0, h1, h2, h3, h4⟩ := id hM
  have hn := hM.ne
  have h0 : M (md 0) = some (.inr (7, [.ref (md 1), .ref (md 2), .ref (md 3), .ref (md 4), .int b, .int w, .int v, .int o])) := h0
  have h1 : M (md 1) = some (.inl (dA 6, 1000, .inr (.inl C))) := h1
  have h2 : M (md 2) = some (.inl (dA 5, 5, .inl S)) := h2
  have h3 : M (md 3) = some (.inl (dA 5, 1600, .inl P)) := h3
  have h4 : M (md 4) = some (.inl (dA 3, 40, .inl T)) := h4
  refine lv_aload_n hx hb dX9_mark_0 rfl (lv_at hl 0 rfl) ?_
  refine lv_iload_n hx hb dX9_mark_1 rfl (lv_at hl 1 rfl) ?_
  refine lv_iload_n hx hb dX9_mark_2 rfl (lv_at hl 2 rfl) ?_
  refine h_calli (h_runV (rest := []) X hml tb_379 tb_10 tb_376 tb_378 tp_lacks9 (by decide +kernel) (by decide +kernel) (c_X9_lacks l D dA z M md C S P T b w v o x1 x2 hM) ⟨(Nat.le_of_ble_eq_true rfl), (Nat.le_of_ble_eq_true rfl)⟩ hw (rfl : vwCl[7]? = some (RX9, TX9, 8)) rfl h0 rfl hl.1 rfl (lv_room (Nat.le_of_ble_eq_true rfl)) dX9_mark_3 ⟨(Nat.le_of_ble_eq_true rfl), (Nat.le_of_ble_eq_true rfl)⟩) hw (fun r_3 M_3 H locs hp hw => ?_)
  obtain ⟨rfl, rfl⟩ := hp
  refine lv_istore (lv' := [(4, .int (f_lacks S x1 x2)), (0, .ref (md 0)), (1, .int x1), (2, .int x2), (3, .int x3)]) hx hb dX9_mark_6 hl (by decide) rfl (fun ls hl => ?_)
  refine lv_iload hx hb dX9_mark_8 (lv_at hl 0 rfl) ?_
  refine lv_if_le (tgt := 18) hx hb dX9_mark_10 (by decide) (fun c_10 => ?_) (fun c_10 => ?_)
  · refine lv_aload_n hx hb dX9_mark_18 rfl (lv_at hl 1 rfl) ?_
    refine lv_iload_n hx hb dX9_mark_19 rfl (lv_at hl 2 rfl) ?_
    refine lv_iload_n hx hb dX9_mark_20 rfl (lv_at hl 3 rfl) ?_
    refine lv_iload_n hx hb dX9_mark_21 rfl (lv_at hl 2 rfl) ?_
    refine lv_iload_n hx hb dX9_mark_22 rfl (lv_at hl 4 rfl) ?_
    refine lv_i2l hx hb dX9_mark_23 rfl ?_
    refine h_calll (h_runS (rest := [.int x2, .int x1, .ref (md 0)]) X hml tb_392 tb_10 tb_390 tb_391 (by decide +kernel) (by decide +kernel) (c_X9_fitted l D dA z M x1 x3.toInt64 (fun _ => Nat.lt_of_le_of_lt (i32_abs x3) (by decide))) ⟨(Nat.le_of_ble_eq_true rfl), (Nat.le_of_ble_eq_true rfl)⟩ hw rfl hl.1 rfl (lv_room (Nat.le_of_ble_eq_true rfl)) dX9_mark_24 ⟨(Nat.le_of_ble_eq_true rfl), (Nat.le_of_ble_eq_true rfl)⟩) hw (fun r_24 M_24 H locs hp hw => ?_)
    obtain ⟨rfl, rfl⟩ := hp
    refine h_calli (h_runV (rest := []) X hml tb_383 tb_10 tb_380 tb_382 tp_tells9 (by decide +kernel) (by decide +kernel) (c_X9_tells l D dA z M md C S P T b w v o x1 x2 (f_fitted x1 x3.toInt64) hM (lacks_in hO.1 c_10)) ⟨(Nat.le_of_ble_eq_true rfl), (Nat.le_of_ble_eq_true rfl)⟩ hw (rfl : vwCl[7]? = some (RX9, TX9, 8)) rfl h0 rfl hl.1 rfl (lv_room (Nat.le_of_ble_eq_true rfl)) dX9_mark_27 ⟨(Nat.le_of_ble_eq_true rfl), (Nat.le_of_ble_eq_true rfl)⟩) hw (fun r_27 M_27 H locs hp hw => ?_)
    obtain ⟨rfl, hM2, hS2⟩ := hp
    have e9 : r_mark (C, S, P, T, b, w, v, o) x1 x2 x3 = (0, s_tells (C, S, P, T, b, w, v, o) x1 x2 (f_fitted x1 x3.toInt64)) := by simp only [r_mark, f_at, c_10, not_false_eq_true, not_true_eq_false, if_true, if_false, ↓reduceIte]
    exact h_iret X hr hlk (Nat.le_of_ble_eq_true rfl) (Nat.le_of_ble_eq_true rfl) hw (by rw [e9]; exact ⟨rfl, hM2, hS2⟩) dX9_mark_30
  · refine lv_iload hx hb dX9_mark_13 (lv_at hl 0 rfl) ?_
    refine lv_goto (tgt := 30) hx hb dX9_mark_15 (by decide) ?_
    have e9 : r_mark (C, S, P, T, b, w, v, o) x1 x2 x3 = (f_lacks S x1 x2, (C, S, P, T, b, w, v, o)) := by simp only [r_mark, f_at, c_10, not_false_eq_true, not_true_eq_false, if_true, if_false, ↓reduceIte]
    exact h_iret X hr hlk (Nat.le_of_ble_eq_true rfl) (Nat.le_of_ble_eq_true rfl) hw (by rw [e9]; exact ⟨rfl, ⟨h0, h1, h2, h3, h4⟩, Same.rf⟩) dX9_mark_30
set_option maxHeartbeats 4000000 in
set_option maxRecDepth 100000 in
theorem c_X9_more (l : Launch) (D : va_G) (dA : Nat → ClassId) (z : Nat) (M : Mp) (md : Nat → Nat) (C : Nat → Int64) (S P T : Nat → Int32) (b w v o : Int32) (x1 : Int32) (x2 : Int32) (x3 : Int32) (hM : MR dA M md (C, S, P, T, b, w, v, o)) (hO : Ok (C, S, P, T, b, w, v, o)) : CQ l D dA z yX9_more cX9_more 5 (some .int) [.ref (md 0), .int x1, .int x2, .int x3] (rmN 3 104) M (Qi D dA z (fun r M' => r = (r_more (C, S, P, T, b, w, v, o) x1 x2 x3).1 ∧ MR dA M' md (r_more (C, S, P, T, b, w, v, o) x1 x2 x3).2 ∧ Same md 5 M M')) := by
  refine ct_of (cc := cX9_more) (maxL := 5) (ret := some .int) (by decide) rfl (by decide) ?_
  intro p e s m below meth c X hml hr hin hlk hw ls hl
  have X : Cx p s m _ c cX9_more RX9 lw_tbl D vwCl (aT dA) := X
  obtain ⟨hx, hb, hown, hts, hK⟩ := id X
  have hl : lv_has ls 5 [(0, .ref (md 0)), (1, .int x1), (2, .int x2), (3, .int x3)] := hl
  obtain ⟨h0, h1, h2, h3, h4⟩ := id hM
  have hn := hM.ne
  have h0 : M (md 0) = some (.inr (7, [.ref (md 1), .ref (md 2), .ref (md 3), .ref (md 4), .int b, .int w, .int v, .int o])) := h0
  have h1 : M (md 1) = some (.inl (dA 6, 1000, .inr (.inl C))) := h1
  have h2 : M (md 2) = some (.inl (dA 5, 5, .inl S)) := h2
  have h3 : M (md 3) = some (.inl (dA 5, 1600, .inl P)) := h3
  have h4 : M (md 4) = some (.inl (dA 3, 40, .inl T)) := h4
  refine lv_aload_n hx hb dX9_more_0 rfl (lv_at hl 0 rfl) ?_
  refine lv_iload_n hx hb dX9_more_1 rfl (lv_at hl 1 rfl) ?_
  refine lv_iload_n hx hb dX9_more_2 rfl (lv_at hl 2 rfl) ?_
  refine h_calli (h_runV (rest := []) X hml tb_379 tb_10 tb_376 tb_378 tp_lacks9 (by decide +kernel) (by decide +kernel) (c_X9_lacks l D dA z M md C S P T b w v o x1 x2 hM) ⟨(Nat.le_of_ble_eq_true rfl), (Nat.le_of_ble_eq_true rfl)⟩ hw (rfl : vwCl[7]? = some (RX9, TX9, 8)) rfl h0 rfl hl.1 rfl (lv_room (Nat.le_of_ble_eq_true rfl)) dX9_more_3 ⟨(Nat.le_of_ble_eq_true rfl), (Nat.le_of_ble_eq_true rfl)⟩) hw (fun r_3 M_3 H locs hp hw => ?_)
  obtain ⟨rfl, rfl⟩ := hp
  refine lv_istore (lv' := [(4, .int (f_lacks S x1 x2)), (0, .ref (md 0)), (1, .int x1), (2, .int x2), (3, .int x3)]) hx hb dX9_more_6 hl (by decide) rfl (fun ls hl => ?_)
  refine lv_iload hx hb dX9_more_8 (lv_at hl 0 rfl) ?_
  refine lv_if_le (tgt := 18) hx hb dX9_more_10 (by decide) (fun c_10 => ?_) (fun c_10 => ?_)
  · refine lv_aload_n hx hb dX9_more_18 rfl (lv_at hl 1 rfl) ?_
    refine lv_iload_n hx hb dX9_more_19 rfl (lv_at hl 2 rfl) ?_
    refine lv_iload_n hx hb dX9_more_20 rfl (lv_at hl 3 rfl) ?_
    refine lv_iload_n hx hb dX9_more_21 rfl (lv_at hl 2 rfl) ?_
    refine lv_aload_n hx hb dX9_more_22 rfl (lv_at hl 1 rfl) ?_
    refine h_get X inX9 (rfl : vwCl[7]? = some (RX9, TX9, 8)) 0 (by decide) tb_335 (fun _ h => h) hw h0 rfl dX9_more_23 ?_
    refine lv_sipush (v := 200) hx hb dX9_more_26 (by decide) ?_
    refine lv_iload_n hx hb dX9_more_29 rfl (lv_at hl 2 rfl) ?_
    refine lv_imul hx hb dX9_more_30 ?_
    refine lv_iload_n hx hb dX9_more_31 rfl (lv_at hl 3 rfl) ?_
    refine lv_iadd hx hb dX9_more_32 ?_
    refine h_lald X 6 rfl hw h1 (lacks_in hO.1 c_10) dX9_more_33 ?_
    refine lv_iload_n hx hb dX9_more_34 rfl (lv_at hl 4 rfl) ?_
    refine lv_i2l hx hb dX9_more_35 rfl ?_
    refine h_calll (h_runS (rest := [.int x2, .int x1, .ref (md 0)]) X hml tb_409 tb_10 tb_407 tb_408 (by decide +kernel) (by decide +kernel) (c_X9_raised l D dA z M x1 (C ((200 * x1) + x2).toNatClampNeg) x3.toInt64 (hO.2.2.2.1 _ (vp_lt (lacks_in hO.1 c_10))) (i32_abs x3)) ⟨(Nat.le_of_ble_eq_true rfl), (Nat.le_of_ble_eq_true rfl)⟩ hw rfl hl.1 rfl (lv_room (Nat.le_of_ble_eq_true rfl)) dX9_more_36 ⟨(Nat.le_of_ble_eq_true rfl), (Nat.le_of_ble_eq_true rfl)⟩) hw (fun r_36 M_36 H locs hp hw => ?_)
    obtain ⟨rfl, rfl⟩ := hp
    refine h_calli (h_runV (rest := []) X hml tb_383 tb_10 tb_380 tb_382 tp_tells9 (by decide +kernel) (by decide +kernel) (c_X9_tells l D dA z M md C S P T b w v o x1 x2 (f_raised x1 (C ((200 * x1) + x2).toNatClampNeg) x3.toInt64) hM (lacks_in hO.1 c_10)) ⟨(Nat.le_of_ble_eq_true rfl), (Nat.le_of_ble_eq_true rfl)⟩ hw (rfl : vwCl[7]? = some (RX9, TX9, 8)) rfl h0 rfl hl.1 rfl (lv_room (Nat.le_of_ble_eq_true rfl)) dX9_more_39 ⟨(Nat.le_of_ble_eq_true rfl), (Nat.le_of_ble_eq_true rfl)⟩) hw (fun r_39 M_39 H locs hp hw => ?_)
    obtain ⟨rfl, hM2, hS2⟩ := hp
    have e9 : r_more (C, S, P, T, b, w, v, o) x1 x2 x3 = (0, s_tells (C, S, P, T, b, w, v, o) x1 x2 (f_raised x1 (C ((200 * x1) + x2).toNatClampNeg) x3.toInt64)) := by simp only [r_more, f_at, c_10, not_false_eq_true, not_true_eq_false, if_true, if_false, ↓reduceIte]
    exact h_iret X hr hlk (Nat.le_of_ble_eq_true rfl) (Nat.le_of_ble_eq_true rfl) hw (by rw [e9]; exact ⟨rfl, hM2, hS2⟩) dX9_more_42
  · refine lv_iload hx hb dX9_more_13 (lv_at hl 0 rfl) ?_
    refine lv_goto (tgt := 42) hx hb dX9_more_15 (by decide) ?_
    have e9 : r_more (C, S, P, T, b, w, v, o) x1 x2 x3 = (f_lacks S x1 x2, (C, S, P, T, b, w, v, o)) := by simp only [r_more, f_at, c_10, not_false_eq_true, not_true_eq_false, if_true, if_false, ↓reduceIte]
    exact h_iret X hr hlk (Nat.le_of_ble_eq_true rfl) (Nat.le_of_ble_eq_true rfl) hw (by rw [e9]; exact ⟨rfl, ⟨h0, h1, h2, h3, h4⟩, Same.rf⟩) dX9_more_42
set_option maxHeartbeats 4000000 in
set_option maxRecDepth 100000 in
theorem c_X9_times (l : Launch) (D : va_G) (dA : Nat → ClassId) (z : Nat) (M : Mp) (md : Nat → Nat) (C : Nat → Int64) (S P T : Nat → Int32) (b w v o : Int32) (x1 : Int32) (x2 : Int32) (x3 : Int32) (hM : MR dA M md (C, S, P, T, b, w, v, o)) (hO : Ok (C, S, P, T, b, w, v, o)) : CQ l D dA z yX9_times cX9_times 5 (some .int) [.ref (md 0), .int x1, .int x2, .int x3] (rmN 3 104) M (Qi D dA z (fun r M' => r = (r_times (C, S, P, T, b, w, v, o) x1 x2 x3).1 ∧ MR dA M' md (r_times (C, S, P, T, b, w, v, o) x1 x2 x3).2 ∧ Same md 5 M M')) := by
  refine ct_of (cc := cX9_times) (maxL := 5) (ret := some .int) (by decide) rfl (by decide) ?_
  intro p e s m below meth c X hml hr hin hlk hw ls hl
  have X : Cx p s m _ c cX9_times RX9 lw_tbl D vwCl (aT dA) := X
  obtain ⟨hx, hb, hown, hts, hK⟩ := id X
  have hl : lv_has ls 5 [(0, .ref (md 0)), (1, .int x1), (2, .int x2), (3, .int x3)] := hl
  obtain ⟨h0, h1, h2, h3, h4⟩ := id hM
  have hn := hM.ne
  have h0 : M (md 0) = some (.inr (7, [.ref (md 1), .ref (md 2), .ref (md 3), .ref (md 4), .int b, .int w, .int v, .int o])) := h0
  have h1 : M (md 1) = some (.inl (dA 6, 1000, .inr (.inl C))) := h1
  have h2 : M (md 2) = some (.inl (dA 5, 5, .inl S)) := h2
  have h3 : M (md 3) = some (.inl (dA 5, 1600, .inl P)) := h3
  have h4 : M (md 4) = some (.inl (dA 3, 40, .inl T)) := h4
  refine lv_aload_n hx hb dX9_times_0 rfl (lv_at hl 0 rfl) ?_
  refine lv_iload_n hx hb dX9_times_1 rfl (lv_at hl 1 rfl) ?_
  refine lv_iload_n hx hb dX9_times_2 rfl (lv_at hl 2 rfl) ?_
  refine h_calli (h_runV (rest := []) X hml tb_379 tb_10 tb_376 tb_378 tp_lacks9 (by decide +kernel) (by decide +kernel) (c_X9_lacks l D dA z M md C S P T b w v o x1 x2 hM) ⟨(Nat.le_of_ble_eq_true rfl), (Nat.le_of_ble_eq_true rfl)⟩ hw (rfl : vwCl[7]? = some (RX9, TX9, 8)) rfl h0 rfl hl.1 rfl (lv_room (Nat.le_of_ble_eq_true rfl)) dX9_times_3 ⟨(Nat.le_of_ble_eq_true rfl), (Nat.le_of_ble_eq_true rfl)⟩) hw (fun r_3 M_3 H locs hp hw => ?_)
  obtain ⟨rfl, rfl⟩ := hp
  refine lv_istore (lv' := [(4, .int (f_lacks S x1 x2)), (0, .ref (md 0)), (1, .int x1), (2, .int x2), (3, .int x3)]) hx hb dX9_times_6 hl (by decide) rfl (fun ls hl => ?_)
  refine lv_iload hx hb dX9_times_8 (lv_at hl 0 rfl) ?_
  refine lv_if_le (tgt := 18) hx hb dX9_times_10 (by decide) (fun c_10 => ?_) (fun c_10 => ?_)
  · refine lv_aload_n hx hb dX9_times_18 rfl (lv_at hl 1 rfl) ?_
    refine lv_iload_n hx hb dX9_times_19 rfl (lv_at hl 2 rfl) ?_
    refine lv_iload_n hx hb dX9_times_20 rfl (lv_at hl 3 rfl) ?_
    refine lv_iload_n hx hb dX9_times_21 rfl (lv_at hl 2 rfl) ?_
    refine lv_aload_n hx hb dX9_times_22 rfl (lv_at hl 1 rfl) ?_
    refine h_get X inX9 (rfl : vwCl[7]? = some (RX9, TX9, 8)) 0 (by decide) tb_335 (fun _ h => h) hw h0 rfl dX9_times_23 ?_
    refine lv_sipush (v := 200) hx hb dX9_times_26 (by decide) ?_
    refine lv_iload_n hx hb dX9_times_29 rfl (lv_at hl 2 rfl) ?_
    refine lv_imul hx hb dX9_times_30 ?_
    refine lv_iload_n hx hb dX9_times_31 rfl (lv_at hl 3 rfl) ?_
    refine lv_iadd hx hb dX9_times_32 ?_
    refine h_lald X 6 rfl hw h1 (lacks_in hO.1 c_10) dX9_times_33 ?_
    refine lv_iload_n hx hb dX9_times_34 rfl (lv_at hl 4 rfl) ?_
    refine lv_i2l hx hb dX9_times_35 rfl ?_
    refine h_calll (h_runS (rest := [.int x2, .int x1, .ref (md 0)]) X hml tb_421 tb_10 tb_419 tb_420 (by decide +kernel) (by decide +kernel) (c_X9_multiplied l D dA z M x1 (C ((200 * x1) + x2).toNatClampNeg) x3.toInt64 (i32_abs x3)) ⟨(Nat.le_of_ble_eq_true rfl), (Nat.le_of_ble_eq_true rfl)⟩ hw rfl hl.1 rfl (lv_room (Nat.le_of_ble_eq_true rfl)) dX9_times_36 ⟨(Nat.le_of_ble_eq_true rfl), (Nat.le_of_ble_eq_true rfl)⟩) hw (fun r_36 M_36 H locs hp hw => ?_)
    obtain ⟨rfl, rfl⟩ := hp
    refine h_calli (h_runV (rest := []) X hml tb_383 tb_10 tb_380 tb_382 tp_tells9 (by decide +kernel) (by decide +kernel) (c_X9_tells l D dA z M md C S P T b w v o x1 x2 (f_multiplied x1 (C ((200 * x1) + x2).toNatClampNeg) x3.toInt64) hM (lacks_in hO.1 c_10)) ⟨(Nat.le_of_ble_eq_true rfl), (Nat.le_of_ble_eq_true rfl)⟩ hw (rfl : vwCl[7]? = some (RX9, TX9, 8)) rfl h0 rfl hl.1 rfl (lv_room (Nat.le_of_ble_eq_true rfl)) dX9_times_39 ⟨(Nat.le_of_ble_eq_true rfl), (Nat.le_of_ble_eq_true rfl)⟩) hw (fun r_39 M_39 H locs hp hw => ?_)
    obtain ⟨rfl, hM2, hS2⟩ := hp
    have e9 : r_times (C, S, P, T, b, w, v, o) x1 x2 x3 = (0, s_tells (C, S, P, T, b, w, v, o) x1 x2 (f_multiplied x1 (C ((200 * x1) + x2).toNatClampNeg) x3.toInt64)) := by simp only [r_times, f_at, c_10, not_false_eq_true, not_true_eq_false, if_true, if_false, ↓reduceIte]
    exact h_iret X hr hlk (Nat.le_of_ble_eq_true rfl) (Nat.le_of_ble_eq_true rfl) hw (by rw [e9]; exact ⟨rfl, hM2, hS2⟩) dX9_times_42
  · refine lv_iload hx hb dX9_times_13 (lv_at hl 0 rfl) ?_
    refine lv_goto (tgt := 42) hx hb dX9_times_15 (by decide) ?_
    have e9 : r_times (C, S, P, T, b, w, v, o) x1 x2 x3 = (f_lacks S x1 x2, (C, S, P, T, b, w, v, o)) := by simp only [r_times, f_at, c_10, not_false_eq_true, not_true_eq_false, if_true, if_false, ↓reduceIte]
    exact h_iret X hr hlk (Nat.le_of_ble_eq_true rfl) (Nat.le_of_ble_eq_true rfl) hw (by rw [e9]; exact ⟨rfl, ⟨h0, h1, h2, h3, h4⟩, Same.rf⟩) dX9_times_42
set_option maxHeartbeats 4000000 in
set_option maxRecDepth 100000 in
theorem c_X9_size (l : Launch) (D : va_G) (dA : Nat → ClassId) (z : Nat) (M : Mp) (md : Nat → Nat) (C : Nat → Int64) (S P T : Nat → Int32) (b w v o : Int32) (x1 : Int32) (hM : MR dA M md (C, S, P, T, b, w, v, o)) : CQ l D dA z yX9_size cX9_size 2 (some .int) [.ref (md 0), .int x1] (rmN 1 20) M (Qi D dA z (fun r M' => r = (r_size (C, S, P, T, b, w, v, o) x1).1 ∧ MR dA M' md (r_size (C, S, P, T, b, w, v, o) x1).2 ∧ Same md 5 M M')) := by
  refine ct_of (cc := cX9_size) (maxL := 2) (ret := some .int) (by decide) rfl (by decide) ?_
  intro p e s m below meth c X hml hr hin hlk hw ls hl
  have X : Cx p s m _ c cX9_size RX9 lw_tbl D vwCl (aT dA) := X
  obtain ⟨hx, hb, hown, hts, hK⟩ := id X
  have hl : lv_has ls 2 [(0, .ref (md 0)), (1, .int x1)] := hl
  obtain ⟨h0, h1, h2, h3, h4⟩ := id hM
  have hn := hM.ne
  have h0 : M (md 0) = some (.inr (7, [.ref (md 1), .ref (md 2), .ref (md 3), .ref (md 4), .int b, .int w, .int v, .int o])) := h0
  have h1 : M (md 1) = some (.inl (dA 6, 1000, .inr (.inl C))) := h1
  have h2 : M (md 2) = some (.inl (dA 5, 5, .inl S)) := h2
  have h3 : M (md 3) = some (.inl (dA 5, 1600, .inl P)) := h3
  have h4 : M (md 4) = some (.inl (dA 3, 40, .inl T)) := h4
  refine lv_iload_n hx hb dX9_size_0 rfl (lv_at hl 1 rfl) ?_
  refine h_calli (h_runS (rest := []) X hml tb_367 tb_10 tb_365 tb_366 (by decide +kernel) (by decide +kernel) (c_X9_isRoll l D dA z M x1) ⟨(Nat.le_of_ble_eq_true rfl), (Nat.le_of_ble_eq_true rfl)⟩ hw rfl hl.1 rfl (lv_room (Nat.le_of_ble_eq_true rfl)) dX9_size_1 ⟨(Nat.le_of_ble_eq_true rfl), (Nat.le_of_ble_eq_true rfl)⟩) hw (fun r_1 M_1 H locs hp hw => ?_)
  obtain ⟨rfl, rfl⟩ := hp
  refine lv_if_ne (tgt := 9) hx hb dX9_size_4 (by decide) (fun c_4 => ?_) (fun c_4 => ?_)
  · refine lv_aload_n hx hb dX9_size_9 rfl (lv_at hl 0 rfl) ?_
    refine h_get X inX9 (rfl : vwCl[7]? = some (RX9, TX9, 8)) 1 (by decide) tb_336 (fun _ h => h) hw h0 rfl dX9_size_10 ?_
    refine lv_iload_n hx hb dX9_size_13 rfl (lv_at hl 1 rfl) ?_
    refine h_iald X 5 rfl hw h2 (isRoll_in c_4) dX9_size_14 ?_
    refine lv_if_ge (tgt := 20) hx hb dX9_size_15 (by decide) (fun c_15 => ?_) (fun c_15 => ?_)
    · refine lv_aload_n hx hb dX9_size_20 rfl (lv_at hl 0 rfl) ?_
      refine lv_aload_n hx hb dX9_size_21 rfl (lv_at hl 0 rfl) ?_
      refine h_get X inX9 (rfl : vwCl[7]? = some (RX9, TX9, 8)) 1 (by decide) tb_336 (fun _ h => h) hw h0 rfl dX9_size_22 ?_
      refine lv_iload_n hx hb dX9_size_25 rfl (lv_at hl 1 rfl) ?_
      refine h_iald X 5 rfl hw h2 (isRoll_in c_4) dX9_size_26 ?_
      refine h_put X inX9 (rfl : vwCl[7]? = some (RX9, TX9, 8)) tyX9 tyX9_ok nmX9 7 (by decide) tb_342 (fun _ h => h) rfl hw h0 (ty := .int) (by decide +kernel) rfl rfl (Nat.le_of_ble_eq_true rfl) dX9_size_27 (fun H locs hw => ?_)
      have hw : wd D vwCl z (mU M (md 0) (.inr (7, [.ref (md 1), .ref (md 2), .ref (md 3), .ref (md 4), .int b, .int w, .int v, .int ((S x1.toNatClampNeg))]))) s.heap H locs := hw
      have hk2 := (mU_n (M) (.inr (7, [.ref (md 1), .ref (md 2), .ref (md 3), .ref (md 4), .int b, .int w, .int v, .int ((S x1.toNatClampNeg))])) (hn 1 0 (by decide) (by decide) (by decide))).trans h1
      have hk3 := (mU_n (M) (.inr (7, [.ref (md 1), .ref (md 2), .ref (md 3), .ref (md 4), .int b, .int w, .int v, .int ((S x1.toNatClampNeg))])) (hn 2 0 (by decide) (by decide) (by decide))).trans h2
      have hk4 := (mU_n (M) (.inr (7, [.ref (md 1), .ref (md 2), .ref (md 3), .ref (md 4), .int b, .int w, .int v, .int ((S x1.toNatClampNeg))])) (hn 3 0 (by decide) (by decide) (by decide))).trans h3
      have hk5 := (mU_n (M) (.inr (7, [.ref (md 1), .ref (md 2), .ref (md 3), .ref (md 4), .int b, .int w, .int v, .int ((S x1.toNatClampNeg))])) (hn 4 0 (by decide) (by decide) (by decide))).trans h4
      have hk6 := mU_s (M) (md 0) (.inr (7, [.ref (md 1), .ref (md 2), .ref (md 3), .ref (md 4), .int b, .int w, .int v, .int ((S x1.toNatClampNeg))]))
      refine lv_iconst (v := 0) hx hb dX9_size_30 (by decide) ?_
      have e9 : r_size (C, S, P, T, b, w, v, o) x1 = (0, (C, S, P, T, b, w, v, (S x1.toNatClampNeg))) := by simp only [r_size, s_told, c_4, c_15, not_false_eq_true, not_true_eq_false, if_true, if_false, ↓reduceIte]
      exact h_iret X hr hlk (Nat.le_of_ble_eq_true rfl) (Nat.le_of_ble_eq_true rfl) hw (by rw [e9]; exact ⟨rfl, ⟨hk6, hk2, hk3, hk4, hk5⟩, (Same.put Same.rf (show 0 < 5 by decide))⟩) dX9_size_31
    · refine lv_iconst (v := 2) hx hb dX9_size_18 (by decide) ?_
      have e9 : r_size (C, S, P, T, b, w, v, o) x1 = (2, (C, S, P, T, b, w, v, o)) := by simp only [r_size, s_told, c_4, c_15, not_false_eq_true, not_true_eq_false, if_true, if_false, ↓reduceIte]
      exact h_iret X hr hlk (Nat.le_of_ble_eq_true rfl) (Nat.le_of_ble_eq_true rfl) hw (by rw [e9]; exact ⟨rfl, ⟨h0, h1, h2, h3, h4⟩, Same.rf⟩) dX9_size_19
  · refine lv_iconst (v := 1) hx hb dX9_size_7 (by decide) ?_
    have e9 : r_size (C, S, P, T, b, w, v, o) x1 = (1, (C, S, P, T, b, w, v, o)) := by simp only [r_size, s_told, c_4, not_false_eq_true, not_true_eq_false, if_true, if_false, ↓reduceIte]
    exact h_iret X hr hlk (Nat.le_of_ble_eq_true rfl) (Nat.le_of_ble_eq_true rfl) hw (by rw [e9]; exact ⟨rfl, ⟨h0, h1, h2, h3, h4⟩, Same.rf⟩) dX9_size_8
set_option maxHeartbeats 4000000 in
set_option maxRecDepth 100000 in
theorem c_X9_pour (l : Launch) (D : va_G) (dA : Nat → ClassId) (z : Nat) (M : Mp) (md : Nat → Nat) (C : Nat → Int64) (S P T : Nat → Int32) (b w v o : Int32) (x1 : Int32) (x2 : Int32) (x3 : Int32) (x4 : Int32) (hM : MR dA M md (C, S, P, T, b, w, v, o)) (hO : Ok (C, S, P, T, b, w, v, o)) : CQ l D dA z yX9_pour cX9_pour 8 (some .int) [.ref (md 0), .int x1, .int x2, .int x3, .int x4] (rmN 2 62) M (Qi D dA z (fun r M' => r = (r_pour (C, S, P, T, b, w, v, o) x1 x2 x3 x4).1 ∧ MR dA M' md (r_pour (C, S, P, T, b, w, v, o) x1 x2 x3 x4).2 ∧ Same md 5 M M')) := by
  refine ct_of (cc := cX9_pour) (maxL := 8) (ret := some .int) (by decide) rfl (by decide) ?_
  intro p e s m below meth c X hml hr hin hlk hw ls hl
  have X : Cx p s m _ c cX9_pour RX9 lw_tbl D vwCl (aT dA) := X
  obtain ⟨hx, hb, hown, hts, hK⟩ := id X
  have hl : lv_has ls 8 [(0, .ref (md 0)), (1, .int x1), (2, .int x2), (3, .int x3), (4, .int x4)] := hl
  obtain ⟨h0, h1, h2, h3, h4⟩ := id hM
  have hn := hM.ne
  have h0 : M (md 0) = some (.inr (7, [.ref (md 1), .ref (md 2), .ref (md 3), .ref (md 4), .int b, .int w, .int v, .int o])) := h0
  have h1 : M (md 1) = some (.inl (dA 6, 1000, .inr (.inl C))) := h1
  have h2 : M (md 2) = some (.inl (dA 5, 5, .inl S)) := h2
  have h3 : M (md 3) = some (.inl (dA 5, 1600, .inl P)) := h3
  have h4 : M (md 4) = some (.inl (dA 3, 40, .inl T)) := h4
  refine lv_iload_n hx hb dX9_pour_0 rfl (lv_at hl 1 rfl) ?_
  refine h_calli (h_runS (rest := []) X hml tb_367 tb_10 tb_365 tb_366 (by decide +kernel) (by decide +kernel) (c_X9_isRoll l D dA z M x1) ⟨(Nat.le_of_ble_eq_true rfl), (Nat.le_of_ble_eq_true rfl)⟩ hw rfl hl.1 rfl (lv_room (Nat.le_of_ble_eq_true rfl)) dX9_pour_1 ⟨(Nat.le_of_ble_eq_true rfl), (Nat.le_of_ble_eq_true rfl)⟩) hw (fun r_1 M_1 H locs hp hw => ?_)
  obtain ⟨rfl, rfl⟩ := hp
  refine lv_if_eq (tgt := 14) hx hb dX9_pour_4 (by decide) (fun c_4 => ?_) (fun c_4 => ?_)
  · refine lv_iconst (v := 1) hx hb dX9_pour_14 (by decide) ?_
    have e9 : r_pour (C, S, P, T, b, w, v, o) x1 x2 x3 x4 = (1, (C, S, P, T, b, w, v, o)) := by simp only [r_pour, f_at, f_clip, c_4, not_false_eq_true, not_true_eq_false, if_true, if_false, ↓reduceIte]
    exact h_iret X hr hlk (Nat.le_of_ble_eq_true rfl) (Nat.le_of_ble_eq_true rfl) hw (by rw [e9]; exact ⟨rfl, ⟨h0, h1, h2, h3, h4⟩, Same.rf⟩) dX9_pour_15
  · refine lv_iload_n hx hb dX9_pour_7 rfl (lv_at hl 3 rfl) ?_
    refine h_calli (h_runS (rest := []) X hml tb_367 tb_10 tb_365 tb_366 (by decide +kernel) (by decide +kernel) (c_X9_isRoll l D dA z M x3) ⟨(Nat.le_of_ble_eq_true rfl), (Nat.le_of_ble_eq_true rfl)⟩ hw rfl hl.1 rfl (lv_room (Nat.le_of_ble_eq_true rfl)) dX9_pour_8 ⟨(Nat.le_of_ble_eq_true rfl), (Nat.le_of_ble_eq_true rfl)⟩) hw (fun r_8 M_8 H locs hp hw => ?_)
    obtain ⟨rfl, rfl⟩ := hp
    refine lv_if_ne (tgt := 16) hx hb dX9_pour_11 (by decide) (fun c_11 => ?_) (fun c_11 => ?_)
    · refine lv_aload_n hx hb dX9_pour_16 rfl (lv_at hl 0 rfl) ?_
      refine lv_iload_n hx hb dX9_pour_17 rfl (lv_at hl 1 rfl) ?_
      refine lv_iload_n hx hb dX9_pour_18 rfl (lv_at hl 2 rfl) ?_
      refine h_calli (h_runV (rest := []) X hml tb_379 tb_10 tb_376 tb_378 tp_lacks9 (by decide +kernel) (by decide +kernel) (c_X9_lacks l D dA z M md C S P T b w v o x1 x2 hM) ⟨(Nat.le_of_ble_eq_true rfl), (Nat.le_of_ble_eq_true rfl)⟩ hw (rfl : vwCl[7]? = some (RX9, TX9, 8)) rfl h0 rfl hl.1 rfl (lv_room (Nat.le_of_ble_eq_true rfl)) dX9_pour_19 ⟨(Nat.le_of_ble_eq_true rfl), (Nat.le_of_ble_eq_true rfl)⟩) hw (fun r_19 M_19 H locs hp hw => ?_)
      obtain ⟨rfl, rfl⟩ := hp
      refine lv_istore (lv' := [(5, .int (f_lacks S x1 x2)), (0, .ref (md 0)), (1, .int x1), (2, .int x2), (3, .int x3), (4, .int x4)]) hx hb dX9_pour_22 hl (by decide) rfl (fun ls hl => ?_)
      refine lv_iload hx hb dX9_pour_24 (lv_at hl 0 rfl) ?_
      refine lv_if_le (tgt := 34) hx hb dX9_pour_26 (by decide) (fun c_26 => ?_) (fun c_26 => ?_)
      · refine lv_aload_n hx hb dX9_pour_34 rfl (lv_at hl 1 rfl) ?_
        refine lv_iload_n hx hb dX9_pour_35 rfl (lv_at hl 4 rfl) ?_
        refine lv_iload hx hb dX9_pour_36 (lv_at hl 5 rfl) ?_
        refine h_calli (h_runV (rest := []) X hml tb_379 tb_10 tb_376 tb_378 tp_lacks9 (by decide +kernel) (by decide +kernel) (c_X9_lacks l D dA z M md C S P T b w v o x3 x4 hM) ⟨(Nat.le_of_ble_eq_true rfl), (Nat.le_of_ble_eq_true rfl)⟩ hw (rfl : vwCl[7]? = some (RX9, TX9, 8)) rfl h0 rfl hl.1 rfl (lv_room (Nat.le_of_ble_eq_true rfl)) dX9_pour_38 ⟨(Nat.le_of_ble_eq_true rfl), (Nat.le_of_ble_eq_true rfl)⟩) hw (fun r_38 M_38 H locs hp hw => ?_)
        obtain ⟨rfl, rfl⟩ := hp
        refine lv_istore (lv' := [(5, .int (f_lacks S x3 x4)), (0, .ref (md 0)), (1, .int x1), (2, .int x2), (3, .int x3), (4, .int x4)]) hx hb dX9_pour_41 hl (by decide) rfl (fun ls hl => ?_)
        refine lv_iload hx hb dX9_pour_43 (lv_at hl 0 rfl) ?_
        refine lv_if_le (tgt := 51) hx hb dX9_pour_45 (by decide) (fun c_45 => ?_) (fun c_45 => ?_)
        · refine lv_aload_n hx hb dX9_pour_51 rfl (lv_at hl 1 rfl) ?_
          refine h_get X inX9 (rfl : vwCl[7]? = some (RX9, TX9, 8)) 0 (by decide) tb_335 (fun _ h => h) hw h0 rfl dX9_pour_52 ?_
          refine lv_sipush (v := 200) hx hb dX9_pour_55 (by decide) ?_
          refine lv_iload_n hx hb dX9_pour_58 rfl (lv_at hl 2 rfl) ?_
          refine lv_imul hx hb dX9_pour_59 ?_
          refine lv_iload_n hx hb dX9_pour_60 rfl (lv_at hl 3 rfl) ?_
          refine lv_iadd hx hb dX9_pour_61 ?_
          refine h_lald X 6 rfl hw h1 (lacks_in hO.1 c_26) dX9_pour_62 ?_
          refine lv_lstore (lv' := [(6, .long ((C ((200 * x1) + x2).toNatClampNeg))), (5, .int (f_lacks S x3 x4)), (0, .ref (md 0)), (1, .int x1), (2, .int x2), (3, .int x3), (4, .int x4)]) hx hb dX9_pour_63 hl (by decide) rfl (fun ls hl => ?_)
          refine lv_aload_n hx hb dX9_pour_65 rfl (lv_at hl 2 rfl) ?_
          refine lv_iload_n hx hb dX9_pour_66 rfl (lv_at hl 5 rfl) ?_
          refine lv_iload hx hb dX9_pour_67 (lv_at hl 6 rfl) ?_
          refine lv_iload_n hx hb dX9_pour_69 rfl (lv_at hl 5 rfl) ?_
          refine lv_lload hx hb dX9_pour_70 (lv_at hl 0 rfl) ?_
          refine lv_ldc2 (v := 2147483647) hx hb hown (hts _ tb_384) dX9_pour_72 ?_
          refine W.lcmp hx hb dX9_pour_75 ?_
          refine lv_if_le (tgt := 85) hx hb dX9_pour_76 (by decide) (fun c_76 => ?_) (fun c_76 => ?_)
          · have c_76 := (lg_cmp_le _ _).mp c_76
            refine lv_lload hx hb dX9_pour_85 (lv_at hl 0 rfl) ?_
            refine h_calll (h_runS (rest := [.int x4, .int x3, .ref (md 0)]) X hml tb_392 tb_10 tb_390 tb_391 (by decide +kernel) (by decide +kernel) (c_X9_fitted l D dA z M x3 (C ((200 * x1) + x2).toNatClampNeg) (fun _ => Nat.lt_of_le_of_lt (by first | exact hO.2.2.2.1 _ (vp_lt (lacks_in hO.1 c_26)) | decide) (by decide))) ⟨(Nat.le_of_ble_eq_true rfl), (Nat.le_of_ble_eq_true rfl)⟩ hw rfl hl.1 rfl (lv_room (Nat.le_of_ble_eq_true rfl)) dX9_pour_87 ⟨(Nat.le_of_ble_eq_true rfl), (Nat.le_of_ble_eq_true rfl)⟩) hw (fun r_87 M_87 H locs hp hw => ?_)
            obtain ⟨rfl, rfl⟩ := hp
            refine h_calli (h_runV (rest := []) X hml tb_383 tb_10 tb_380 tb_382 tp_tells9 (by decide +kernel) (by decide +kernel) (c_X9_tells l D dA z M md C S P T b w v o x3 x4 (f_fitted x3 (C ((200 * x1) + x2).toNatClampNeg)) hM (lacks_in hO.1 c_45)) ⟨(Nat.le_of_ble_eq_true rfl), (Nat.le_of_ble_eq_true rfl)⟩ hw (rfl : vwCl[7]? = some (RX9, TX9, 8)) rfl h0 rfl hl.1 rfl (lv_room (Nat.le_of_ble_eq_true rfl)) dX9_pour_90 ⟨(Nat.le_of_ble_eq_true rfl), (Nat.le_of_ble_eq_true rfl)⟩) hw (fun r_90 M_90 H locs hp hw => ?_)
            obtain ⟨rfl, hM2, hS2⟩ := hp
            have e9 : r_pour (C, S, P, T, b, w, v, o) x1 x2 x3 x4 = (0, s_tells (C, S, P, T, b, w, v, o) x3 x4 (f_fitted x3 (C ((200 * x1) + x2).toNatClampNeg))) := by simp only [r_pour, f_at, f_clip, c_4, c_11, c_26, c_45, c_76, not_false_eq_true, not_true_eq_false, if_true, if_false, ↓reduceIte]
            exact h_iret X hr hlk (Nat.le_of_ble_eq_true rfl) (Nat.le_of_ble_eq_true rfl) hw (by rw [e9]; exact ⟨rfl, hM2, hS2⟩) dX9_pour_93
          · have c_76 := (not_congr (lg_cmp_le _ _)).mp c_76
            refine lv_ldc2 (v := 2147483647) hx hb hown (hts _ tb_384) dX9_pour_79 ?_
            refine lv_goto (tgt := 87) hx hb dX9_pour_82 (by decide) ?_
            refine h_calll (h_runS (rest := [.int x4, .int x3, .ref (md 0)]) X hml tb_392 tb_10 tb_390 tb_391 (by decide +kernel) (by decide +kernel) (c_X9_fitted l D dA z M x3 2147483647 (fun _ => Nat.lt_of_le_of_lt (by first | exact hO.2.2.2.1 _ (vp_lt (lacks_in hO.1 c_26)) | decide) (by decide))) ⟨(Nat.le_of_ble_eq_true rfl), (Nat.le_of_ble_eq_true rfl)⟩ hw rfl hl.1 rfl (lv_room (Nat.le_of_ble_eq_true rfl)) dX9_pour_87 ⟨(Nat.le_of_ble_eq_true rfl), (Nat.le_of_ble_eq_true rfl)⟩) hw (fun r_87 M_87 H locs hp hw => ?_)
            obtain ⟨rfl, rfl⟩ := hp
            refine h_calli (h_runV (rest := []) X hml tb_383 tb_10 tb_380 tb_382 tp_tells9 (by decide +kernel) (by decide +kernel) (c_X9_tells l D dA z M md C S P T b w v o x3 x4 (f_fitted x3 2147483647) hM (lacks_in hO.1 c_45)) ⟨(Nat.le_of_ble_eq_true rfl), (Nat.le_of_ble_eq_true rfl)⟩ hw (rfl : vwCl[7]? = some (RX9, TX9, 8)) rfl h0 rfl hl.1 rfl (lv_room (Nat.le_of_ble_eq_true rfl)) dX9_pour_90 ⟨(Nat.le_of_ble_eq_true rfl), (Nat.le_of_ble_eq_true rfl)⟩) hw (fun r_90 M_90 H locs hp hw => ?_)
            obtain ⟨rfl, hM2, hS2⟩ := hp
            have e9 : r_pour (C, S, P, T, b, w, v, o) x1 x2 x3 x4 = (0, s_tells (C, S, P, T, b, w, v, o) x3 x4 (f_fitted x3 2147483647)) := by simp only [r_pour, f_at, f_clip, c_4, c_11, c_26, c_45, c_76, not_false_eq_true, not_true_eq_false, if_true, if_false, ↓reduceIte]
            exact h_iret X hr hlk (Nat.le_of_ble_eq_true rfl) (Nat.le_of_ble_eq_true rfl) hw (by rw [e9]; exact ⟨rfl, hM2, hS2⟩) dX9_pour_93
        · refine lv_iload hx hb dX9_pour_48 (lv_at hl 0 rfl) ?_
          have e9 : r_pour (C, S, P, T, b, w, v, o) x1 x2 x3 x4 = (f_lacks S x3 x4, (C, S, P, T, b, w, v, o)) := by simp only [r_pour, f_at, f_clip, c_4, c_11, c_26, c_45, not_false_eq_true, not_true_eq_false, if_true, if_false, ↓reduceIte]
          exact h_iret X hr hlk (Nat.le_of_ble_eq_true rfl) (Nat.le_of_ble_eq_true rfl) hw (by rw [e9]; exact ⟨rfl, ⟨h0, h1, h2, h3, h4⟩, Same.rf⟩) dX9_pour_50
      · refine lv_iload hx hb dX9_pour_29 (lv_at hl 0 rfl) ?_
        refine lv_goto (tgt := 41) hx hb dX9_pour_31 (by decide) ?_
        refine lv_istore (lv' := [(5, .int (f_lacks S x1 x2)), (0, .ref (md 0)), (1, .int x1), (2, .int x2), (3, .int x3), (4, .int x4)]) hx hb dX9_pour_41 hl (by decide) rfl (fun ls hl => ?_)
        refine lv_iload hx hb dX9_pour_43 (lv_at hl 0 rfl) ?_
        refine lv_if_le (tgt := 51) hx hb dX9_pour_45 (by decide) (fun c_45 => ?_) (fun c_45 => ?_)
        · refine lv_aload_n hx hb dX9_pour_51 rfl (lv_at hl 1 rfl) ?_
          refine h_get X inX9 (rfl : vwCl[7]? = some (RX9, TX9, 8)) 0 (by decide) tb_335 (fun _ h => h) hw h0 rfl dX9_pour_52 ?_
          refine lv_sipush (v := 200) hx hb dX9_pour_55 (by decide) ?_
          refine lv_iload_n hx hb dX9_pour_58 rfl (lv_at hl 2 rfl) ?_
          refine lv_imul hx hb dX9_pour_59 ?_
          refine lv_iload_n hx hb dX9_pour_60 rfl (lv_at hl 3 rfl) ?_
          refine lv_iadd hx hb dX9_pour_61 ?_
          refine h_lald X 6 rfl hw h1 (lacks_in hO.1 c_26) dX9_pour_62 ?_
          refine lv_lstore (lv' := [(6, .long ((C ((200 * x1) + x2).toNatClampNeg))), (5, .int (f_lacks S x1 x2)), (0, .ref (md 0)), (1, .int x1), (2, .int x2), (3, .int x3), (4, .int x4)]) hx hb dX9_pour_63 hl (by decide) rfl (fun ls hl => ?_)
          refine lv_aload_n hx hb dX9_pour_65 rfl (lv_at hl 2 rfl) ?_
          refine lv_iload_n hx hb dX9_pour_66 rfl (lv_at hl 5 rfl) ?_
          refine lv_iload hx hb dX9_pour_67 (lv_at hl 6 rfl) ?_
          refine lv_iload_n hx hb dX9_pour_69 rfl (lv_at hl 5 rfl) ?_
          refine lv_lload hx hb dX9_pour_70 (lv_at hl 0 rfl) ?_
          refine lv_ldc2 (v := 2147483647) hx hb hown (hts _ tb_384) dX9_pour_72 ?_
          refine W.lcmp hx hb dX9_pour_75 ?_
          refine lv_if_le (tgt := 85) hx hb dX9_pour_76 (by decide) (fun c_76 => ?_) (fun c_76 => ?_)
          · have c_76 := (lg_cmp_le _ _).mp c_76
            refine lv_lload hx hb dX9_pour_85 (lv_at hl 0 rfl) ?_
            refine h_calll (h_runS (rest := [.int x4, .int x3, .ref (md 0)]) X hml tb_392 tb_10 tb_390 tb_391 (by decide +kernel) (by decide +kernel) (c_X9_fitted l D dA z M x3 (C ((200 * x1) + x2).toNatClampNeg) (fun _ => Nat.lt_of_le_of_lt (by first | exact hO.2.2.2.1 _ (vp_lt (lacks_in hO.1 c_26)) | decide) (by decide))) ⟨(Nat.le_of_ble_eq_true rfl), (Nat.le_of_ble_eq_true rfl)⟩ hw rfl hl.1 rfl (lv_room (Nat.le_of_ble_eq_true rfl)) dX9_pour_87 ⟨(Nat.le_of_ble_eq_true rfl), (Nat.le_of_ble_eq_true rfl)⟩) hw (fun r_87 M_87 H locs hp hw => ?_)
            obtain ⟨rfl, rfl⟩ := hp
            refine h_calli (h_runV (rest := []) X hml tb_383 tb_10 tb_380 tb_382 tp_tells9 (by decide +kernel) (by decide +kernel) (c_X9_tells l D dA z M md C S P T b w v o x3 x4 (f_fitted x3 (C ((200 * x1) + x2).toNatClampNeg)) hM (lacks_in hO.1 c_45)) ⟨(Nat.le_of_ble_eq_true rfl), (Nat.le_of_ble_eq_true rfl)⟩ hw (rfl : vwCl[7]? = some (RX9, TX9, 8)) rfl h0 rfl hl.1 rfl (lv_room (Nat.le_of_ble_eq_true rfl)) dX9_pour_90 ⟨(Nat.le_of_ble_eq_true rfl), (Nat.le_of_ble_eq_true rfl)⟩) hw (fun r_90 M_90 H locs hp hw => ?_)
            obtain ⟨rfl, hM2, hS2⟩ := hp
            have e9 : r_pour (C, S, P, T, b, w, v, o) x1 x2 x3 x4 = (0, s_tells (C, S, P, T, b, w, v, o) x3 x4 (f_fitted x3 (C ((200 * x1) + x2).toNatClampNeg))) := by simp only [r_pour, f_at, f_clip, c_4, c_11, c_26, c_45, c_76, not_false_eq_true, not_true_eq_false, if_true, if_false, ↓reduceIte]
            exact h_iret X hr hlk (Nat.le_of_ble_eq_true rfl) (Nat.le_of_ble_eq_true rfl) hw (by rw [e9]; exact ⟨rfl, hM2, hS2⟩) dX9_pour_93
          · have c_76 := (not_congr (lg_cmp_le _ _)).mp c_76
            refine lv_ldc2 (v := 2147483647) hx hb hown (hts _ tb_384) dX9_pour_79 ?_
            refine lv_goto (tgt := 87) hx hb dX9_pour_82 (by decide) ?_
            refine h_calll (h_runS (rest := [.int x4, .int x3, .ref (md 0)]) X hml tb_392 tb_10 tb_390 tb_391 (by decide +kernel) (by decide +kernel) (c_X9_fitted l D dA z M x3 2147483647 (fun _ => Nat.lt_of_le_of_lt (by first | exact hO.2.2.2.1 _ (vp_lt (lacks_in hO.1 c_26)) | decide) (by decide))) ⟨(Nat.le_of_ble_eq_true rfl), (Nat.le_of_ble_eq_true rfl)⟩ hw rfl hl.1 rfl (lv_room (Nat.le_of_ble_eq_true rfl)) dX9_pour_87 ⟨(Nat.le_of_ble_eq_true rfl), (Nat.le_of_ble_eq_true rfl)⟩) hw (fun r_87 M_87 H locs hp hw => ?_)
            obtain ⟨rfl, rfl⟩ := hp
            refine h_calli (h_runV (rest := []) X hml tb_383 tb_10 tb_380 tb_382 tp_tells9 (by decide +kernel) (by decide +kernel) (c_X9_tells l D dA z M md C S P T b w v o x3 x4 (f_fitted x3 2147483647) hM (lacks_in hO.1 c_45)) ⟨(Nat.le_of_ble_eq_true rfl), (Nat.le_of_ble_eq_true rfl)⟩ hw (rfl : vwCl[7]? = some (RX9, TX9, 8)) rfl h0 rfl hl.1 rfl (lv_room (Nat.le_of_ble_eq_true rfl)) dX9_pour_90 ⟨(Nat.le_of_ble_eq_true rfl), (Nat.le_of_ble_eq_true rfl)⟩) hw (fun r_90 M_90 H locs hp hw => ?_)
            obtain ⟨rfl, hM2, hS2⟩ := hp
            have e9 : r_pour (C, S, P, T, b, w, v, o) x1 x2 x3 x4 = (0, s_tells (C, S, P, T, b, w, v, o) x3 x4 (f_fitted x3 2147483647)) := by simp only [r_pour, f_at, f_clip, c_4, c_11, c_26, c_45, c_76, not_false_eq_true, not_true_eq_false, if_true, if_false, ↓reduceIte]
            exact h_iret X hr hlk (Nat.le_of_ble_eq_true rfl) (Nat.le_of_ble_eq_true rfl) hw (by rw [e9]; exact ⟨rfl, hM2, hS2⟩) dX9_pour_93
        · refine lv_iload hx hb dX9_pour_48 (lv_at hl 0 rfl) ?_
          have e9 : r_pour (C, S, P, T, b, w, v, o) x1 x2 x3 x4 = (f_lacks S x1 x2, (C, S, P, T, b, w, v, o)) := by simp only [r_pour, f_at, f_clip, c_4, c_11, c_26, c_45, not_false_eq_true, not_true_eq_false, if_true, if_false, ↓reduceIte]
          exact h_iret X hr hlk (Nat.le_of_ble_eq_true rfl) (Nat.le_of_ble_eq_true rfl) hw (by rw [e9]; exact ⟨rfl, ⟨h0, h1, h2, h3, h4⟩, Same.rf⟩) dX9_pour_50
    · refine lv_iconst (v := 1) hx hb dX9_pour_14 (by decide) ?_
      have e9 : r_pour (C, S, P, T, b, w, v, o) x1 x2 x3 x4 = (1, (C, S, P, T, b, w, v, o)) := by simp only [r_pour, f_at, f_clip, c_4, c_11, not_false_eq_true, not_true_eq_false, if_true, if_false, ↓reduceIte]
      exact h_iret X hr hlk (Nat.le_of_ble_eq_true rfl) (Nat.le_of_ble_eq_true rfl) hw (by rw [e9]; exact ⟨rfl, ⟨h0, h1, h2, h3, h4⟩, Same.rf⟩) dX9_pour_15
