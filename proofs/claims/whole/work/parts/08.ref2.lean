set_option maxHeartbeats 4000000 in
set_option maxRecDepth 100000 in
theorem c_X9_fitted (l : Launch) (D : va_G) (dA : Nat → ClassId) (z : Nat) (M : Mp) (x0 : Int32) (x1 : Int64) (hv : x0 = 2 → x1.toInt.natAbs < 1099511627776) : CQ l D dA z yX9_fitted cX9_fitted 3 (some .long) [.int x0, .long x1] (rmN 1 40) M (Ql D dA z (fun r M' => M' = M ∧ r = f_fitted x0 x1)) := by
  refine ct_of (cc := cX9_fitted) (maxL := 3) (ret := some .long) (by decide) rfl (by decide) ?_
  intro p e s m below meth c X hml hr hin hlk hw ls hl
  have X : Cx p s m _ c cX9_fitted RX9 lw_tbl D vwCl (aT dA) := X
  obtain ⟨hx, hb, hown, hts, hK⟩ := id X
  have hl : lv_has ls 3 [(0, .int x0), (1, .long x1)] := hl
  refine lv_iload_n hx hb dX9_fitted_0 rfl (lv_at hl 0 rfl) ?_
  refine lv_iconst (v := 2) hx hb dX9_fitted_1 (by decide) ?_
  refine lv_icmp_ne (tgt := 10) hx hb dX9_fitted_2 (by decide) (fun c_2 => ?_) (fun c_2 => ?_)
  · refine lv_iload_n hx hb dX9_fitted_10 rfl (lv_at hl 0 rfl) ?_
    refine lv_iconst (v := 3) hx hb dX9_fitted_11 (by decide) ?_
    refine lv_icmp_ne (tgt := 27) hx hb dX9_fitted_12 (by decide) (fun c_12 => ?_) (fun c_12 => ?_)
    · refine lv_iload_n hx hb dX9_fitted_27 rfl (lv_at hl 0 rfl) ?_
      refine lv_if_ne (tgt := 42) hx hb dX9_fitted_28 (by decide) (fun c_28 => ?_) (fun c_28 => ?_)
      · refine lv_iload_n hx hb dX9_fitted_42 rfl (lv_at hl 0 rfl) ?_
        refine lv_iconst (v := 1) hx hb dX9_fitted_43 (by decide) ?_
        refine lv_icmp_ne (tgt := 58) hx hb dX9_fitted_44 (by decide) (fun c_44 => ?_) (fun c_44 => ?_)
        · refine lv_lload_n hx hb dX9_fitted_58 rfl (lv_at hl 1 rfl) ?_
          refine lv_ldc2 (v := 256) hx hb hown (hts _ tb_402) dX9_fitted_59 ?_
          refine lv_iconst (v := 1) hx hb dX9_fitted_62 (by decide) ?_
          refine h_calll (h_runS (rest := []) X hml tb_401 tb_10 tb_399 tb_400 (by decide +kernel) (by decide +kernel) (c_X9_lowest l D dA z M x1 256 1 (by decide)) ⟨(Nat.le_of_ble_eq_true rfl), (Nat.le_of_ble_eq_true rfl)⟩ hw rfl hl.1 rfl (lv_room (Nat.le_of_ble_eq_true rfl)) dX9_fitted_63 ⟨(Nat.le_of_ble_eq_true rfl), (Nat.le_of_ble_eq_true rfl)⟩) hw (fun r_63 M_63 H locs hp hw => ?_)
          obtain ⟨rfl, rfl⟩ := hp
          exact h_lret X hr hlk (Nat.le_of_ble_eq_true rfl) (Nat.le_of_ble_eq_true rfl) hw ⟨rfl, by simp only [f_fitted, c_2, c_12, c_28, c_44, not_false_eq_true, not_true_eq_false, if_true, if_false, ↓reduceIte]⟩ dX9_fitted_66
        · refine lv_lload_n hx hb dX9_fitted_47 rfl (lv_at hl 1 rfl) ?_
          refine lv_ldc2 (v := 65536) hx hb hown (hts _ tb_398) dX9_fitted_48 ?_
          refine lv_iconst (v := 1) hx hb dX9_fitted_51 (by decide) ?_
          refine h_calll (h_runS (rest := []) X hml tb_401 tb_10 tb_399 tb_400 (by decide +kernel) (by decide +kernel) (c_X9_lowest l D dA z M x1 65536 1 (by decide)) ⟨(Nat.le_of_ble_eq_true rfl), (Nat.le_of_ble_eq_true rfl)⟩ hw rfl hl.1 rfl (lv_room (Nat.le_of_ble_eq_true rfl)) dX9_fitted_52 ⟨(Nat.le_of_ble_eq_true rfl), (Nat.le_of_ble_eq_true rfl)⟩) hw (fun r_52 M_52 H locs hp hw => ?_)
          obtain ⟨rfl, rfl⟩ := hp
          refine lv_goto (tgt := 66) hx hb dX9_fitted_55 (by decide) ?_
          exact h_lret X hr hlk (Nat.le_of_ble_eq_true rfl) (Nat.le_of_ble_eq_true rfl) hw ⟨rfl, by simp only [f_fitted, c_2, c_12, c_28, c_44, not_false_eq_true, not_true_eq_false, if_true, if_false, ↓reduceIte]⟩ dX9_fitted_66
      · refine lv_lload_n hx hb dX9_fitted_31 rfl (lv_at hl 1 rfl) ?_
        refine lv_ldc2 (v := 65536) hx hb hown (hts _ tb_398) dX9_fitted_32 ?_
        refine lv_iconst (v := 0) hx hb dX9_fitted_35 (by decide) ?_
        refine h_calll (h_runS (rest := []) X hml tb_401 tb_10 tb_399 tb_400 (by decide +kernel) (by decide +kernel) (c_X9_lowest l D dA z M x1 65536 0 (by decide)) ⟨(Nat.le_of_ble_eq_true rfl), (Nat.le_of_ble_eq_true rfl)⟩ hw rfl hl.1 rfl (lv_room (Nat.le_of_ble_eq_true rfl)) dX9_fitted_36 ⟨(Nat.le_of_ble_eq_true rfl), (Nat.le_of_ble_eq_true rfl)⟩) hw (fun r_36 M_36 H locs hp hw => ?_)
        obtain ⟨rfl, rfl⟩ := hp
        refine lv_goto (tgt := 66) hx hb dX9_fitted_39 (by decide) ?_
        exact h_lret X hr hlk (Nat.le_of_ble_eq_true rfl) (Nat.le_of_ble_eq_true rfl) hw ⟨rfl, by simp only [f_fitted, c_2, c_12, c_28, not_false_eq_true, not_true_eq_false, if_true, if_false, ↓reduceIte]⟩ dX9_fitted_66
    · refine lv_lload_n hx hb dX9_fitted_15 rfl (lv_at hl 1 rfl) ?_
      refine lv_lconst (v := 0) hx hb dX9_fitted_16 (by decide) ?_
      refine W.lcmp hx hb dX9_fitted_17 ?_
      refine lv_if_eq (tgt := 25) hx hb dX9_fitted_18 (by decide) (fun c_18 => ?_) (fun c_18 => ?_)
      · have c_18 := (lg_cmp_eq _ _).mp c_18
        refine lv_lconst (v := 0) hx hb dX9_fitted_25 (by decide) ?_
        exact h_lret X hr hlk (Nat.le_of_ble_eq_true rfl) (Nat.le_of_ble_eq_true rfl) hw ⟨rfl, by simp only [f_fitted, c_2, c_12, c_18, not_false_eq_true, not_true_eq_false, if_true, if_false, ↓reduceIte]⟩ dX9_fitted_26
      · have c_18 := (not_congr (lg_cmp_eq _ _)).mp c_18
        refine lv_lconst (v := 1) hx hb dX9_fitted_21 (by decide) ?_
        refine lv_goto (tgt := 26) hx hb dX9_fitted_22 (by decide) ?_
        exact h_lret X hr hlk (Nat.le_of_ble_eq_true rfl) (Nat.le_of_ble_eq_true rfl) hw ⟨rfl, by simp only [f_fitted, c_2, c_12, c_18, not_false_eq_true, not_true_eq_false, if_true, if_false, ↓reduceIte]⟩ dX9_fitted_26
  · refine lv_lload_n hx hb dX9_fitted_5 rfl (lv_at hl 1 rfl) ?_
    refine h_calll (h_runS (rest := []) X hml tb_395 tb_10 tb_393 tb_394 (by decide +kernel) (by decide +kernel) (c_X9_rounded l D dA z M x1 (hv c_2)) ⟨(Nat.le_of_ble_eq_true rfl), (Nat.le_of_ble_eq_true rfl)⟩ hw rfl hl.1 rfl (lv_room (Nat.le_of_ble_eq_true rfl)) dX9_fitted_6 ⟨(Nat.le_of_ble_eq_true rfl), (Nat.le_of_ble_eq_true rfl)⟩) hw (fun r_6 M_6 H locs hp hw => ?_)
    obtain ⟨rfl, rfl⟩ := hp
    exact h_lret X hr hlk (Nat.le_of_ble_eq_true rfl) (Nat.le_of_ble_eq_true rfl) hw ⟨rfl, by simp only [f_fitted, c_2, not_false_eq_true, not_true_eq_false, if_true, if_false, ↓reduceIte]⟩ dX9_fitted_9
set_option maxHeartbeats 4000000 in
set_option maxRecDepth 100000 in
theorem c_X9_raised (l : Launch) (D : va_G) (dA : Nat → ClassId) (z : Nat) (M : Mp) (x0 : Int32) (x1 x3 : Int64) (h1 : x1.toInt.natAbs ≤ 2147483648) (h3 : x3.toInt.natAbs ≤ 2147483648) : CQ l D dA z yX9_raised cX9_raised 5 (some .long) [.int x0, .long x1, .long x3] (rmN 2 80) M (Ql D dA z (fun r M' => M' = M ∧ r = f_raised x0 x1 x3)) := by
  refine ct_of (cc := cX9_raised) (maxL := 5) (ret := some .long) (by decide) rfl (by decide) ?_
  intro p e s m below meth c X hml hr hin hlk hw ls hl
  have X : Cx p s m _ c cX9_raised RX9 lw_tbl D vwCl (aT dA) := X
  obtain ⟨hx, hb, hown, hts, hK⟩ := id X
  have hl : lv_has ls 5 [(0, .int x0), (1, .long x1), (3, .long x3)] := hl
  refine lv_iload_n hx hb dX9_raised_0 rfl (lv_at hl 0 rfl) ?_
  refine lv_iconst (v := 2) hx hb dX9_raised_1 (by decide) ?_
  refine lv_icmp_ne (tgt := 18) hx hb dX9_raised_2 (by decide) (fun c_2 => ?_) (fun c_2 => ?_)
  · refine lv_iload_n hx hb dX9_raised_18 rfl (lv_at hl 0 rfl) ?_
    refine lv_iconst (v := 3) hx hb dX9_raised_19 (by decide) ?_
    refine lv_icmp_ne (tgt := 41) hx hb dX9_raised_20 (by decide) (fun c_20 => ?_) (fun c_20 => ?_)
    · refine lv_iload_n hx hb dX9_raised_41 rfl (lv_at hl 0 rfl) ?_
      refine lv_lload_n hx hb dX9_raised_42 rfl (lv_at hl 1 rfl) ?_
      refine lv_lload_n hx hb dX9_raised_43 rfl (lv_at hl 2 rfl) ?_
      refine lv_ladd hx hb dX9_raised_44 ?_
      refine h_calll (h_runS (rest := []) X hml tb_392 tb_10 tb_390 tb_391 (by decide +kernel) (by decide +kernel) (c_X9_fitted l D dA z M x0 (x1 + x3) (fun q => absurd q c_2)) ⟨(Nat.le_of_ble_eq_true rfl), (Nat.le_of_ble_eq_true rfl)⟩ hw rfl hl.1 rfl (lv_room (Nat.le_of_ble_eq_true rfl)) dX9_raised_45 ⟨(Nat.le_of_ble_eq_true rfl), (Nat.le_of_ble_eq_true rfl)⟩) hw (fun r_45 M_45 H locs hp hw => ?_)
      obtain ⟨rfl, rfl⟩ := hp
      exact h_lret X hr hlk (Nat.le_of_ble_eq_true rfl) (Nat.le_of_ble_eq_true rfl) hw ⟨rfl, by simp only [f_raised, c_2, c_20, not_false_eq_true, not_true_eq_false, if_true, if_false, ↓reduceIte]⟩ dX9_raised_48
    · refine lv_lload_n hx hb dX9_raised_23 rfl (lv_at hl 2 rfl) ?_
      refine lv_ldc2 (v := 2) hx hb hown (hts _ tb_397) dX9_raised_24 ?_
      refine lv_lrem hx hb dX9_raised_27 (by decide) ?_
      refine lv_lconst (v := 0) hx hb dX9_raised_28 (by decide) ?_
      refine W.lcmp hx hb dX9_raised_29 ?_
      refine lv_if_eq (tgt := 39) hx hb dX9_raised_30 (by decide) (fun c_30 => ?_) (fun c_30 => ?_)
      · have c_30 := (lg_cmp_eq _ _).mp c_30
        refine lv_lload_n hx hb dX9_raised_39 rfl (lv_at hl 1 rfl) ?_
        exact h_lret X hr hlk (Nat.le_of_ble_eq_true rfl) (Nat.le_of_ble_eq_true rfl) hw ⟨rfl, by simp only [f_raised, c_2, c_20, c_30, not_false_eq_true, not_true_eq_false, if_true, if_false, ↓reduceIte]⟩ dX9_raised_40
      · have c_30 := (not_congr (lg_cmp_eq _ _)).mp c_30
        refine lv_lconst (v := 1) hx hb dX9_raised_33 (by decide) ?_
        refine lv_lload_n hx hb dX9_raised_34 rfl (lv_at hl 1 rfl) ?_
        refine lv_lsub hx hb dX9_raised_35 ?_
        refine lv_goto (tgt := 40) hx hb dX9_raised_36 (by decide) ?_
        exact h_lret X hr hlk (Nat.le_of_ble_eq_true rfl) (Nat.le_of_ble_eq_true rfl) hw ⟨rfl, by simp only [f_raised, c_2, c_20, c_30, not_false_eq_true, not_true_eq_false, if_true, if_false, ↓reduceIte]⟩ dX9_raised_40
  · refine lv_lload_n hx hb dX9_raised_5 rfl (lv_at hl 1 rfl) ?_
    refine lv_lload_n hx hb dX9_raised_6 rfl (lv_at hl 2 rfl) ?_
    refine h_calll (h_runS (rest := [.long x1]) X hml tb_395 tb_10 tb_393 tb_394 (by decide +kernel) (by decide +kernel) (c_X9_rounded l D dA z M x3 (by omega)) ⟨(Nat.le_of_ble_eq_true rfl), (Nat.le_of_ble_eq_true rfl)⟩ hw rfl hl.1 rfl (lv_room (Nat.le_of_ble_eq_true rfl)) dX9_raised_7 ⟨(Nat.le_of_ble_eq_true rfl), (Nat.le_of_ble_eq_true rfl)⟩) hw (fun r_7 M_7 H locs hp hw => ?_)
    obtain ⟨rfl, rfl⟩ := hp
    refine lv_ladd hx hb dX9_raised_10 ?_
    refine h_calll (h_runS (rest := []) X hml tb_395 tb_10 tb_393 tb_394 (by decide +kernel) (by decide +kernel) (c_X9_rounded l D dA z M (x1 + f_rounded x3) (sum_small h1 (rounded_abs h3))) ⟨(Nat.le_of_ble_eq_true rfl), (Nat.le_of_ble_eq_true rfl)⟩ hw rfl hl.1 rfl (lv_room (Nat.le_of_ble_eq_true rfl)) dX9_raised_11 ⟨(Nat.le_of_ble_eq_true rfl), (Nat.le_of_ble_eq_true rfl)⟩) hw (fun r_11 M_11 H locs hp hw => ?_)
    obtain ⟨rfl, rfl⟩ := hp
    refine h_calll (h_runS (rest := []) X hml tb_412 tb_10 tb_410 tb_411 (by decide +kernel) (by decide +kernel) (c_X9_bounded l D dA z M (f_rounded (x1 + f_rounded x3))) ⟨(Nat.le_of_ble_eq_true rfl), (Nat.le_of_ble_eq_true rfl)⟩ hw rfl hl.1 rfl (lv_room (Nat.le_of_ble_eq_true rfl)) dX9_raised_14 ⟨(Nat.le_of_ble_eq_true rfl), (Nat.le_of_ble_eq_true rfl)⟩) hw (fun r_14 M_14 H locs hp hw => ?_)
    obtain ⟨rfl, rfl⟩ := hp
    exact h_lret X hr hlk (Nat.le_of_ble_eq_true rfl) (Nat.le_of_ble_eq_true rfl) hw ⟨rfl, by simp only [f_raised, c_2, not_false_eq_true, not_true_eq_false, if_true, if_false, ↓reduceIte]⟩ dX9_raised_17
set_option maxHeartbeats 4000000 in
set_option maxRecDepth 100000 in
theorem c_X9_multiplied (l : Launch) (D : va_G) (dA : Nat → ClassId) (z : Nat) (M : Mp) (x0 : Int32) (x1 x3 : Int64) (h3 : x3.toInt.natAbs ≤ 2147483648) : CQ l D dA z yX9_multiplied cX9_multiplied 5 (some .long) [.int x0, .long x1, .long x3] (rmN 2 80) M (Ql D dA z (fun r M' => M' = M ∧ r = f_multiplied x0 x1 x3)) := by
  refine ct_of (cc := cX9_multiplied) (maxL := 5) (ret := some .long) (by decide) rfl (by decide) ?_
  intro p e s m below meth c X hml hr hin hlk hw ls hl
  have X : Cx p s m _ c cX9_multiplied RX9 lw_tbl D vwCl (aT dA) := X
  obtain ⟨hx, hb, hown, hts, hK⟩ := id X
  have hl : lv_has ls 5 [(0, .int x0), (1, .long x1), (3, .long x3)] := hl
  refine lv_iload_n hx hb dX9_multiplied_0 rfl (lv_at hl 0 rfl) ?_
  refine lv_iconst (v := 2) hx hb dX9_multiplied_1 (by decide) ?_
  refine lv_icmp_ne (tgt := 15) hx hb dX9_multiplied_2 (by decide) (fun c_2 => ?_) (fun c_2 => ?_)
  · refine lv_iload_n hx hb dX9_multiplied_15 rfl (lv_at hl 0 rfl) ?_
    refine lv_iconst (v := 3) hx hb dX9_multiplied_16 (by decide) ?_
    refine lv_icmp_ne (tgt := 32) hx hb dX9_multiplied_17 (by decide) (fun c_17 => ?_) (fun c_17 => ?_)
    · refine lv_iload_n hx hb dX9_multiplied_32 rfl (lv_at hl 0 rfl) ?_
      refine lv_lload_n hx hb dX9_multiplied_33 rfl (lv_at hl 1 rfl) ?_
      refine lv_lload_n hx hb dX9_multiplied_34 rfl (lv_at hl 2 rfl) ?_
      refine lv_lmul hx hb dX9_multiplied_35 ?_
      refine h_calll (h_runS (rest := []) X hml tb_392 tb_10 tb_390 tb_391 (by decide +kernel) (by decide +kernel) (c_X9_fitted l D dA z M x0 (x1 * x3) (fun q => absurd q c_2)) ⟨(Nat.le_of_ble_eq_true rfl), (Nat.le_of_ble_eq_true rfl)⟩ hw rfl hl.1 rfl (lv_room (Nat.le_of_ble_eq_true rfl)) dX9_multiplied_36 ⟨(Nat.le_of_ble_eq_true rfl), (Nat.le_of_ble_eq_true rfl)⟩) hw (fun r_36 M_36 H locs hp hw => ?_)
      obtain ⟨rfl, rfl⟩ := hp
      exact h_lret X hr hlk (Nat.le_of_ble_eq_true rfl) (Nat.le_of_ble_eq_true rfl) hw ⟨rfl, by simp only [f_multiplied, c_2, c_17, not_false_eq_true, not_true_eq_false, if_true, if_false, ↓reduceIte]⟩ dX9_multiplied_39
    · refine lv_lload_n hx hb dX9_multiplied_20 rfl (lv_at hl 2 rfl) ?_
      refine lv_lconst (v := 0) hx hb dX9_multiplied_21 (by decide) ?_
      refine W.lcmp hx hb dX9_multiplied_22 ?_
      refine lv_if_ne (tgt := 30) hx hb dX9_multiplied_23 (by decide) (fun c_23 => ?_) (fun c_23 => ?_)
      · have c_23 := (not_congr (lg_cmp_eq _ _)).mp c_23
        refine lv_lload_n hx hb dX9_multiplied_30 rfl (lv_at hl 1 rfl) ?_
        exact h_lret X hr hlk (Nat.le_of_ble_eq_true rfl) (Nat.le_of_ble_eq_true rfl) hw ⟨rfl, by simp only [f_multiplied, c_2, c_17, c_23, not_false_eq_true, not_true_eq_false, if_true, if_false, ↓reduceIte]⟩ dX9_multiplied_31
      · have c_23 := (lg_cmp_eq _ _).mp c_23
        refine lv_lconst (v := 0) hx hb dX9_multiplied_26 (by decide) ?_
        refine lv_goto (tgt := 31) hx hb dX9_multiplied_27 (by decide) ?_
        exact h_lret X hr hlk (Nat.le_of_ble_eq_true rfl) (Nat.le_of_ble_eq_true rfl) hw ⟨rfl, by simp only [f_multiplied, c_2, c_17, c_23, not_false_eq_true, not_true_eq_false, if_true, if_false, ↓reduceIte]⟩ dX9_multiplied_31
  · refine lv_lload_n hx hb dX9_multiplied_5 rfl (lv_at hl 1 rfl) ?_
    refine lv_lload_n hx hb dX9_multiplied_6 rfl (lv_at hl 2 rfl) ?_
    refine h_calll (h_runS (rest := [.long x1]) X hml tb_395 tb_10 tb_393 tb_394 (by decide +kernel) (by decide +kernel) (c_X9_rounded l D dA z M x3 (by omega)) ⟨(Nat.le_of_ble_eq_true rfl), (Nat.le_of_ble_eq_true rfl)⟩ hw rfl hl.1 rfl (lv_room (Nat.le_of_ble_eq_true rfl)) dX9_multiplied_7 ⟨(Nat.le_of_ble_eq_true rfl), (Nat.le_of_ble_eq_true rfl)⟩) hw (fun r_7 M_7 H locs hp hw => ?_)
    obtain ⟨rfl, rfl⟩ := hp
    refine lv_lmul hx hb dX9_multiplied_10 ?_
    refine h_calll (h_runS (rest := []) X hml tb_412 tb_10 tb_410 tb_411 (by decide +kernel) (by decide +kernel) (c_X9_bounded l D dA z M (x1 * f_rounded x3)) ⟨(Nat.le_of_ble_eq_true rfl), (Nat.le_of_ble_eq_true rfl)⟩ hw rfl hl.1 rfl (lv_room (Nat.le_of_ble_eq_true rfl)) dX9_multiplied_11 ⟨(Nat.le_of_ble_eq_true rfl), (Nat.le_of_ble_eq_true rfl)⟩) hw (fun r_11 M_11 H locs hp hw => ?_)
    obtain ⟨rfl, rfl⟩ := hp
    exact h_lret X hr hlk (Nat.le_of_ble_eq_true rfl) (Nat.le_of_ble_eq_true rfl) hw ⟨rfl, by simp only [f_multiplied, c_2, not_false_eq_true, not_true_eq_false, if_true, if_false, ↓reduceIte]⟩ dX9_multiplied_14
