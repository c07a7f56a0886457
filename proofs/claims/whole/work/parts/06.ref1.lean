set_option maxHeartbeats 4000000 in
set_option maxRecDepth 100000 in
theorem c_X9_isRoll (l : Launch) (D : va_G) (dA : Nat → ClassId) (z : Nat) (M : Mp) (x0 : Int32) : CQ l D dA z yX9_isRoll cX9_isRoll 1 (some .boolean) [.int x0] (rmN 0 0) M (Qi D dA z (fun r M' => M' = M ∧ r = f_isRoll x0)) := by
  refine ct_of (cc := cX9_isRoll) (maxL := 1) (ret := some .boolean) (by decide) rfl (by decide) ?_
  intro p e s m below meth c X hml hr hin hlk hw ls hl
  have X : Cx p s m _ c cX9_isRoll RX9 lw_tbl D vwCl (aT dA) := X
  obtain ⟨hx, hb, hown, hts, hK⟩ := id X
  have hl : lv_has ls 1 [(0, .int x0)] := hl
  refine lv_iload_n hx hb dX9_isRoll_0 rfl (lv_at hl 0 rfl) ?_
  refine lv_if_lt (tgt := 13) hx hb dX9_isRoll_1 (by decide) (fun c_1 => ?_) (fun c_1 => ?_)
  · refine lv_iconst (v := 0) hx hb dX9_isRoll_13 (by decide) ?_
    exact h_zret X hr (by decide) hlk (Nat.le_of_ble_eq_true rfl) (Nat.le_of_ble_eq_true rfl) hw ⟨rfl, by simp only [f_isRoll, c_1, not_false_eq_true, not_true_eq_false, if_true, if_false, ↓reduceIte]⟩ dX9_isRoll_14
  · refine lv_iload_n hx hb dX9_isRoll_4 rfl (lv_at hl 0 rfl) ?_
    refine lv_iconst (v := 5) hx hb dX9_isRoll_5 (by decide) ?_
    refine lv_icmp_ge (tgt := 13) hx hb dX9_isRoll_6 (by decide) (fun c_6 => ?_) (fun c_6 => ?_)
    · refine lv_iconst (v := 0) hx hb dX9_isRoll_13 (by decide) ?_
      exact h_zret X hr (by decide) hlk (Nat.le_of_ble_eq_true rfl) (Nat.le_of_ble_eq_true rfl) hw ⟨rfl, by simp only [f_isRoll, c_1, c_6, not_false_eq_true, not_true_eq_false, if_true, if_false, ↓reduceIte]⟩ dX9_isRoll_14
    · refine lv_iconst (v := 1) hx hb dX9_isRoll_9 (by decide) ?_
      refine lv_goto (tgt := 14) hx hb dX9_isRoll_10 (by decide) ?_
      exact h_zret X hr (by decide) hlk (Nat.le_of_ble_eq_true rfl) (Nat.le_of_ble_eq_true rfl) hw ⟨rfl, by simp only [f_isRoll, c_1, c_6, not_false_eq_true, not_true_eq_false, if_true, if_false, ↓reduceIte]⟩ dX9_isRoll_14
set_option maxHeartbeats 4000000 in
set_option maxRecDepth 100000 in
theorem c_X9_bounded (l : Launch) (D : va_G) (dA : Nat → ClassId) (z : Nat) (M : Mp) (x0 : Int64) : CQ l D dA z yX9_bounded cX9_bounded 2 (some .long) [.long x0] (rmN 0 0) M (Ql D dA z (fun r M' => M' = M ∧ r = f_bounded x0)) := by
  refine ct_of (cc := cX9_bounded) (maxL := 2) (ret := some .long) (by decide) rfl (by decide) ?_
  intro p e s m below meth c X hml hr hin hlk hw ls hl
  have X : Cx p s m _ c cX9_bounded RX9 lw_tbl D vwCl (aT dA) := X
  obtain ⟨hx, hb, hown, hts, hK⟩ := id X
  have hl : lv_has ls 2 [(0, .long x0)] := hl
  refine lv_lload_n hx hb dX9_bounded_0 rfl (lv_at hl 0 rfl) ?_
  refine lv_ldc2 (v := 8000000) hx hb hown (hts _ tb_413) dX9_bounded_1 ?_
  refine W.lcmp hx hb dX9_bounded_4 ?_
  refine lv_if_le (tgt := 14) hx hb dX9_bounded_5 (by decide) (fun c_5 => ?_) (fun c_5 => ?_)
  · have c_5 := (lg_cmp_le _ _).mp c_5
    refine lv_lload_n hx hb dX9_bounded_14 rfl (lv_at hl 0 rfl) ?_
    refine lv_ldc2 (v := -8000000) hx hb hown (hts _ tb_414) dX9_bounded_15 ?_
    refine W.lcmp hx hb dX9_bounded_18 ?_
    refine lv_if_ge (tgt := 28) hx hb dX9_bounded_19 (by decide) (fun c_19 => ?_) (fun c_19 => ?_)
    · have c_19 := (lg_cmp_ge _ _).mp c_19
      refine lv_lload_n hx hb dX9_bounded_28 rfl (lv_at hl 0 rfl) ?_
      exact h_lret X hr hlk (Nat.le_of_ble_eq_true rfl) (Nat.le_of_ble_eq_true rfl) hw ⟨rfl, by simp only [f_bounded, c_5, c_19, not_false_eq_true, not_true_eq_false, if_true, if_false, ↓reduceIte]⟩ dX9_bounded_29
    · have c_19 := (not_congr (lg_cmp_ge _ _)).mp c_19
      refine lv_ldc2 (v := -8000000) hx hb hown (hts _ tb_414) dX9_bounded_22 ?_
      refine lv_goto (tgt := 29) hx hb dX9_bounded_25 (by decide) ?_
      exact h_lret X hr hlk (Nat.le_of_ble_eq_true rfl) (Nat.le_of_ble_eq_true rfl) hw ⟨rfl, by simp only [f_bounded, c_5, c_19, not_false_eq_true, not_true_eq_false, if_true, if_false, ↓reduceIte]⟩ dX9_bounded_29
  · have c_5 := (not_congr (lg_cmp_le _ _)).mp c_5
    refine lv_ldc2 (v := 8000000) hx hb hown (hts _ tb_413) dX9_bounded_8 ?_
    refine lv_goto (tgt := 29) hx hb dX9_bounded_11 (by decide) ?_
    exact h_lret X hr hlk (Nat.le_of_ble_eq_true rfl) (Nat.le_of_ble_eq_true rfl) hw ⟨rfl, by simp only [f_bounded, c_5, not_false_eq_true, not_true_eq_false, if_true, if_false, ↓reduceIte]⟩ dX9_bounded_29
set_option maxHeartbeats 4000000 in
set_option maxRecDepth 100000 in
theorem c_X9_lowest (l : Launch) (D : va_G) (dA : Nat → ClassId) (z : Nat) (M : Mp) (x0 x1 : Int64) (g0 : Int32) (hne : ¬ x1 = 0) : CQ l D dA z yX9_lowest cX9_lowest 7 (some .long) [.long x0, .long x1, .int g0] (rmN 0 0) M (Ql D dA z (fun r M' => M' = M ∧ r = f_lowest x0 x1 g0)) := by
  refine ct_of (cc := cX9_lowest) (maxL := 7) (ret := some .long) (by decide) rfl (by decide) ?_
  intro p e s m below meth c X hml hr hin hlk hw ls hl
  have X : Cx p s m _ c cX9_lowest RX9 lw_tbl D vwCl (aT dA) := X
  obtain ⟨hx, hb, hown, hts, hK⟩ := id X
  have hl : lv_has ls 7 [(0, .long x0), (2, .long x1), (4, .int g0)] := hl
  refine lv_lload_n hx hb dX9_lowest_0 rfl (lv_at hl 0 rfl) ?_
  refine lv_lload_n hx hb dX9_lowest_1 rfl (lv_at hl 1 rfl) ?_
  refine lv_lrem hx hb dX9_lowest_2 hne ?_
  refine lv_lstore (lv' := [(5, .long ((x0 - x0 / x1 * x1))), (0, .long x0), (2, .long x1), (4, .int g0)]) hx hb dX9_lowest_3 hl (by decide) rfl (fun ls hl => ?_)
  refine lv_lload hx hb dX9_lowest_5 (lv_at hl 0 rfl) ?_
  refine lv_lconst (v := 0) hx hb dX9_lowest_7 (by decide) ?_
  refine W.lcmp hx hb dX9_lowest_8 ?_
  refine lv_if_ge (tgt := 19) hx hb dX9_lowest_9 (by decide) (fun c_9 => ?_) (fun c_9 => ?_)
  · have c_9 := (lg_cmp_ge _ _).mp c_9
    refine lv_lload hx hb dX9_lowest_19 (lv_at hl 0 rfl) ?_
    refine lv_lstore (lv' := [(5, .long ((x0 - x0 / x1 * x1))), (0, .long x0), (2, .long x1), (4, .int g0)]) hx hb dX9_lowest_21 hl (by decide) rfl (fun ls hl => ?_)
    refine lv_iload hx hb dX9_lowest_23 (lv_at hl 3 rfl) ?_
    refine lv_if_eq (tgt := 46) hx hb dX9_lowest_25 (by decide) (fun c_25 => ?_) (fun c_25 => ?_)
    · refine lv_lload hx hb dX9_lowest_46 (lv_at hl 0 rfl) ?_
      exact h_lret X hr hlk (Nat.le_of_ble_eq_true rfl) (Nat.le_of_ble_eq_true rfl) hw ⟨rfl, by simp only [f_lowest, f_low, c_9, c_25, not_false_eq_true, not_true_eq_false, if_true, if_false, ↓reduceIte]⟩ dX9_lowest_48
    · refine lv_lload hx hb dX9_lowest_28 (lv_at hl 0 rfl) ?_
      refine lv_lload_n hx hb dX9_lowest_30 rfl (lv_at hl 2 rfl) ?_
      refine lv_ldc2 (v := 2) hx hb hown (hts _ tb_397) dX9_lowest_31 ?_
      refine lv_ldiv hx hb dX9_lowest_34 (by decide) ?_
      refine W.lcmp hx hb dX9_lowest_35 ?_
      refine lv_if_lt (tgt := 46) hx hb dX9_lowest_36 (by decide) (fun c_36 => ?_) (fun c_36 => ?_)
      · have c_36 := (lg_cmp_lt _ _).mp c_36
        refine lv_lload hx hb dX9_lowest_46 (lv_at hl 0 rfl) ?_
        exact h_lret X hr hlk (Nat.le_of_ble_eq_true rfl) (Nat.le_of_ble_eq_true rfl) hw ⟨rfl, by simp only [f_lowest, f_low, c_9, c_25, c_36, not_false_eq_true, not_true_eq_false, if_true, if_false, ↓reduceIte]⟩ dX9_lowest_48
      · have c_36 := (not_congr (lg_cmp_lt _ _)).mp c_36
        refine lv_lload hx hb dX9_lowest_39 (lv_at hl 0 rfl) ?_
        refine lv_lload_n hx hb dX9_lowest_41 rfl (lv_at hl 2 rfl) ?_
        refine lv_lsub hx hb dX9_lowest_42 ?_
        refine lv_goto (tgt := 48) hx hb dX9_lowest_43 (by decide) ?_
        exact h_lret X hr hlk (Nat.le_of_ble_eq_true rfl) (Nat.le_of_ble_eq_true rfl) hw ⟨rfl, by simp only [f_lowest, f_low, c_9, c_25, c_36, not_false_eq_true, not_true_eq_false, if_true, if_false, ↓reduceIte]⟩ dX9_lowest_48
  · have c_9 := (not_congr (lg_cmp_ge _ _)).mp c_9
    refine lv_lload hx hb dX9_lowest_12 (lv_at hl 0 rfl) ?_
    refine lv_lload_n hx hb dX9_lowest_14 rfl (lv_at hl 2 rfl) ?_
    refine lv_ladd hx hb dX9_lowest_15 ?_
    refine lv_goto (tgt := 21) hx hb dX9_lowest_16 (by decide) ?_
    refine lv_lstore (lv' := [(5, .long (((x0 - x0 / x1 * x1) + x1))), (0, .long x0), (2, .long x1), (4, .int g0)]) hx hb dX9_lowest_21 hl (by decide) rfl (fun ls hl => ?_)
    refine lv_iload hx hb dX9_lowest_23 (lv_at hl 3 rfl) ?_
    refine lv_if_eq (tgt := 46) hx hb dX9_lowest_25 (by decide) (fun c_25 => ?_) (fun c_25 => ?_)
    · refine lv_lload hx hb dX9_lowest_46 (lv_at hl 0 rfl) ?_
      exact h_lret X hr hlk (Nat.le_of_ble_eq_true rfl) (Nat.le_of_ble_eq_true rfl) hw ⟨rfl, by simp only [f_lowest, f_low, c_9, c_25, not_false_eq_true, not_true_eq_false, if_true, if_false, ↓reduceIte]⟩ dX9_lowest_48
    · refine lv_lload hx hb dX9_lowest_28 (lv_at hl 0 rfl) ?_
      refine lv_lload_n hx hb dX9_lowest_30 rfl (lv_at hl 2 rfl) ?_
      refine lv_ldc2 (v := 2) hx hb hown (hts _ tb_397) dX9_lowest_31 ?_
      refine lv_ldiv hx hb dX9_lowest_34 (by decide) ?_
      refine W.lcmp hx hb dX9_lowest_35 ?_
      refine lv_if_lt (tgt := 46) hx hb dX9_lowest_36 (by decide) (fun c_36 => ?_) (fun c_36 => ?_)
      · have c_36 := (lg_cmp_lt _ _).mp c_36
        refine lv_lload hx hb dX9_lowest_46 (lv_at hl 0 rfl) ?_
        exact h_lret X hr hlk (Nat.le_of_ble_eq_true rfl) (Nat.le_of_ble_eq_true rfl) hw ⟨rfl, by simp only [f_lowest, f_low, c_9, c_25, c_36, not_false_eq_true, not_true_eq_false, if_true, if_false, ↓reduceIte]⟩ dX9_lowest_48
      · have c_36 := (not_congr (lg_cmp_lt _ _)).mp c_36
        refine lv_lload hx hb dX9_lowest_39 (lv_at hl 0 rfl) ?_
        refine lv_lload_n hx hb dX9_lowest_41 rfl (lv_at hl 2 rfl) ?_
        refine lv_lsub hx hb dX9_lowest_42 ?_
        refine lv_goto (tgt := 48) hx hb dX9_lowest_43 (by decide) ?_
        exact h_lret X hr hlk (Nat.le_of_ble_eq_true rfl) (Nat.le_of_ble_eq_true rfl) hw ⟨rfl, by simp only [f_lowest, f_low, c_9, c_25, c_36, not_false_eq_true, not_true_eq_false, if_true, if_false, ↓reduceIte]⟩ dX9_lowest_48
