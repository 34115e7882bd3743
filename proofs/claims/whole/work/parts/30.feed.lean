abbrev P_X8_append (v : Int64) (M : Mem) : Option Value → Mem → Prop := oI (fun zz MM => BP (M 18 1 ≤ 312) zz ∧ ((M 18 1 ≤ 312 ∧ fedK M v MM) ∨ (312 < M 18 1 ∧ MM = M)))
set_option maxRecDepth 100000 in
set_option maxHeartbeats 4000000 in
theorem c_X8_append {l : Launch} {G : va_G} {ad : Nat → Nat} {CA : Nat → ClassId} {nt : Nat} (hnt : 6 ≤ nt) (v : Int64) (M : Mem) (hTp : 0 ≤ M 18 1 ∧ M 18 1 ≤ 320) : Mt l yX8_append cX8_append 4 (some .boolean) 0 0 G ad CA nt LyK [.ref (ad 18), .long v] M (P_X8_append v M) := by
  refine Mt.of (by decide) (Nat.le_of_ble_eq_true rfl) (fun p e s m args below meth c hx hb hr hml hts hown hlocks hnm hW ls hl => ?_)
  have hl : lv_has ls 4 [(0, .ref (ad 18)), (1, .long v)] := hl
  have hnt4 : 4 ≤ nt := by omega
  obtain ⟨H, hH⟩ : ∃ z, z = s.heap := ⟨_, rfl⟩
  obtain ⟨locs, hlo⟩ : ∃ z : List Loc, z = [] := ⟨_, rfl⟩
  rw [← hH, ← hlo] at hW ⊢
  refine lv_aload_n hx hb dX8_append_0 rfl (lv_at hl 0 rfl) ?_
  refine rw_getI hx hb hts hown hW 18 lk_18 1 1 rfl rfl fX8_15 dX8_append_1 (v := (M 18 1)) rfl ?_
  refine rw_if_lt (tgt := 17) hx hb dX8_append_4 (by decide) (by omega) (fun c_4 => ?_) (fun c_4 => ?_)
  · exfalso; omega
  · refine lv_aload_n hx hb dX8_append_7 rfl (lv_at hl 0 rfl) ?_
    refine rw_getI hx hb hts hown hW 18 lk_18 1 1 rfl rfl fX8_15 dX8_append_8 (v := (M 18 1)) rfl ?_
    refine rw_sipush hx hb dX8_append_11 (by decide) ?_
    refine rw_icmp_le (tgt := 19) hx hb dX8_append_14 (by decide) (by omega) (by decide) (fun c_14 => ?_) (fun c_14 => ?_)
    · refine rw_bipush hx hb dX8_append_19 (by decide) ?_
      refine lv_istore_n (lv' := [(3, .int (iN 56)), (0, .ref (ad 18)), (1, .long v)]) hx hb dX8_append_21 rfl hl (by decide) rfl (fun ls hl => ?_)
      refine lv_iload_n hx hb dX8_append_22 rfl (lv_at hl 0 rfl) ?_
      refine rw_if_lt (tgt := 56) hx hb dX8_append_23 (by decide) (by decide) (fun c => absurd c (by decide)) (fun _ => ?_)
      refine lv_aload_n hx hb dX8_append_26 rfl (lv_at hl 1 rfl) ?_
      refine rw_getR hx hb hts hown hW 18 lk_18 0 19 rfl fX8_9 dX8_append_27 ?_
      refine lv_aload_n hx hb dX8_append_30 rfl (lv_at hl 1 rfl) ?_
      refine rw_getI hx hb hts hown hW 18 lk_18 1 1 rfl rfl fX8_15 dX8_append_31 (v := (M 18 1)) rfl ?_
      refine lv_lload_n hx hb dX8_append_34 rfl (lv_at hl 2 rfl) ?_
      refine lv_iload_n hx hb dX8_append_35 rfl (lv_at hl 0 rfl) ?_
      refine lv_lshr hx hb dX8_append_36 rfl ?_
      refine lv_l2i hx hb dX8_append_37 rfl ?_
      refine lv_i2b hx hb dX8_append_38 rfl ?_
      refine rw_bast hx hb hW hnt4 19 lk_19 (by omega) (by omega) (by decide) dX8_append_39 (fun H locs hW => ?_)
      obtain ⟨M1, hM1⟩ : ∃ z, z = upd2 M 19 (M 18 1) ((((v >>> ((iN 56).toInt64 &&& 63)).toInt32).toInt8.toInt32.toInt8.toInt32).toInt) := ⟨_, rfl⟩
      rw [← hM1] at hW
      refine lv_aload_n hx hb dX8_append_40 rfl (lv_at hl 1 rfl) ?_
      refine lv_dup hx hb dX8_append_41 rfl ?_
      refine rw_getI hx hb hts hown hW 18 lk_18 1 1 rfl rfl fX8_15 dX8_append_42 (v := (M 18 1)) (by rw [hM1, upd2_ne1 (by omega)]) ?_
      refine rw_iconst hx hb dX8_append_45 ?_
      refine rw_iadd hx hb dX8_append_46 ?_
      refine rw_putI hx hb hts hown hW 18 lk_18 1 1 rfl rfl qX8_15 (v := (M 18 1) + 1) dX8_append_47 (fun H locs hW => ?_)
      obtain ⟨M2, hM2⟩ : ∃ z, z = upd2 M1 18 1 ((M 18 1) + 1) := ⟨_, rfl⟩
      rw [← hM2] at hW
      refine rw_iinc (lv' := [(3, .int (iN 48)), (0, .ref (ad 18)), (1, .long v)]) hx hb dX8_append_50 hl (k := 0) rfl (by decide) rfl (fun ls hl => ?_)
      refine lv_goto (tgt := 22) hx hb dX8_append_53 (by decide) ?_
      refine lv_iload_n hx hb dX8_append_22 rfl (lv_at hl 0 rfl) ?_
      refine rw_if_lt (tgt := 56) hx hb dX8_append_23 (by decide) (by decide) (fun c => absurd c (by decide)) (fun _ => ?_)
      refine lv_aload_n hx hb dX8_append_26 rfl (lv_at hl 1 rfl) ?_
      refine rw_getR hx hb hts hown hW 18 lk_18 0 19 rfl fX8_9 dX8_append_27 ?_
      refine lv_aload_n hx hb dX8_append_30 rfl (lv_at hl 1 rfl) ?_
      refine rw_getI hx hb hts hown hW 18 lk_18 1 1 rfl rfl fX8_15 dX8_append_31 (v := ((M 18 1) + 1)) (by rw [hM2, upd2_eq]) ?_
      refine lv_lload_n hx hb dX8_append_34 rfl (lv_at hl 2 rfl) ?_
      refine lv_iload_n hx hb dX8_append_35 rfl (lv_at hl 0 rfl) ?_
      refine lv_lshr hx hb dX8_append_36 rfl ?_
      refine lv_l2i hx hb dX8_append_37 rfl ?_
      refine lv_i2b hx hb dX8_append_38 rfl ?_
      refine rw_bast hx hb hW hnt4 19 lk_19 (by omega) (by omega) (by decide) dX8_append_39 (fun H locs hW => ?_)
      obtain ⟨M3, hM3⟩ : ∃ z, z = upd2 M2 19 ((M 18 1) + 1) ((((v >>> ((iN 48).toInt64 &&& 63)).toInt32).toInt8.toInt32.toInt8.toInt32).toInt) := ⟨_, rfl⟩
      rw [← hM3] at hW
      refine lv_aload_n hx hb dX8_append_40 rfl (lv_at hl 1 rfl) ?_
      refine lv_dup hx hb dX8_append_41 rfl ?_
      refine rw_getI hx hb hts hown hW 18 lk_18 1 1 rfl rfl fX8_15 dX8_append_42 (v := ((M 18 1) + 1)) (by rw [hM3, upd2_ne1 (by omega), hM2, upd2_eq]) ?_
      refine rw_iconst hx hb dX8_append_45 ?_
      refine rw_iadd hx hb dX8_append_46 ?_
      refine rw_putI hx hb hts hown hW 18 lk_18 1 1 rfl rfl qX8_15 (v := ((M 18 1) + 1) + 1) dX8_append_47 (fun H locs hW => ?_)
      obtain ⟨M4, hM4⟩ : ∃ z, z = upd2 M3 18 1 (((M 18 1) + 1) + 1) := ⟨_, rfl⟩
      rw [← hM4] at hW
      refine rw_iinc (lv' := [(3, .int (iN 40)), (0, .ref (ad 18)), (1, .long v)]) hx hb dX8_append_50 hl (k := 0) rfl (by decide) rfl (fun ls hl => ?_)
      refine lv_goto (tgt := 22) hx hb dX8_append_53 (by decide) ?_
      refine lv_iload_n hx hb dX8_append_22 rfl (lv_at hl 0 rfl) ?_
      refine rw_if_lt (tgt := 56) hx hb dX8_append_23 (by decide) (by decide) (fun c => absurd c (by decide)) (fun _ => ?_)
      refine lv_aload_n hx hb dX8_append_26 rfl (lv_at hl 1 rfl) ?_
      refine rw_getR hx hb hts hown hW 18 lk_18 0 19 rfl fX8_9 dX8_append_27 ?_
      refine lv_aload_n hx hb dX8_append_30 rfl (lv_at hl 1 rfl) ?_
      refine rw_getI hx hb hts hown hW 18 lk_18 1 1 rfl rfl fX8_15 dX8_append_31 (v := (((M 18 1) + 1) + 1)) (by rw [hM4, upd2_eq]) ?_
      refine lv_lload_n hx hb dX8_append_34 rfl (lv_at hl 2 rfl) ?_
      refine lv_iload_n hx hb dX8_append_35 rfl (lv_at hl 0 rfl) ?_
      refine lv_lshr hx hb dX8_append_36 rfl ?_
      refine lv_l2i hx hb dX8_append_37 rfl ?_
      refine lv_i2b hx hb dX8_append_38 rfl ?_
      refine rw_bast hx hb hW hnt4 19 lk_19 (by omega) (by omega) (by decide) dX8_append_39 (fun H locs hW => ?_)
      obtain ⟨M5, hM5⟩ : ∃ z, z = upd2 M4 19 (((M 18 1) + 1) + 1) ((((v >>> ((iN 40).toInt64 &&& 63)).toInt32).toInt8.toInt32.toInt8.toInt32).toInt) := ⟨_, rfl⟩
      rw [← hM5] at hW
      refine lv_aload_n hx hb dX8_append_40 rfl (lv_at hl 1 rfl) ?_
      refine lv_dup hx hb dX8_append_41 rfl ?_
      refine rw_getI hx hb hts hown hW 18 lk_18 1 1 rfl rfl fX8_15 dX8_append_42 (v := (((M 18 1) + 1) + 1)) (by rw [hM5, upd2_ne1 (by omega), hM4, upd2_eq]) ?_
      refine rw_iconst hx hb dX8_append_45 ?_
      refine rw_iadd hx hb dX8_append_46 ?_
      refine rw_putI hx hb hts hown hW 18 lk_18 1 1 rfl rfl qX8_15 (v := (((M 18 1) + 1) + 1) + 1) dX8_append_47 (fun H locs hW => ?_)
      obtain ⟨M6, hM6⟩ : ∃ z, z = upd2 M5 18 1 ((((M 18 1) + 1) + 1) + 1) := ⟨_, rfl⟩
      rw [← hM6] at hW
      refine rw_iinc (lv' := [(3, .int (iN 32)), (0, .ref (ad 18)), (1, .long v)]) hx hb dX8_append_50 hl (k := 0) rfl (by decide) rfl (fun ls hl => ?_)
      refine lv_goto (tgt := 22) hx hb dX8_append_53 (by decide) ?_
      refine lv_iload_n hx hb dX8_append_22 rfl (lv_at hl 0 rfl) ?_
      refine rw_if_lt (tgt := 56) hx hb dX8_append_23 (by decide) (by decide) (fun c => absurd c (by decide)) (fun _ => ?_)
      refine lv_aload_n hx hb dX8_append_26 rfl (lv_at hl 1 rfl) ?_
      refine rw_getR hx hb hts hown hW 18 lk_18 0 19 rfl fX8_9 dX8_append_27 ?_
      refine lv_aload_n hx hb dX8_append_30 rfl (lv_at hl 1 rfl) ?_
      refine rw_getI hx hb hts hown hW 18 lk_18 1 1 rfl rfl fX8_15 dX8_append_31 (v := ((((M 18 1) + 1) + 1) + 1)) (by rw [hM6, upd2_eq]) ?_
      refine lv_lload_n hx hb dX8_append_34 rfl (lv_at hl 2 rfl) ?_
      refine lv_iload_n hx hb dX8_append_35 rfl (lv_at hl 0 rfl) ?_
      refine lv_lshr hx hb dX8_append_36 rfl ?_
      refine lv_l2i hx hb dX8_append_37 rfl ?_
      refine lv_i2b hx hb dX8_append_38 rfl ?_
      refine rw_bast hx hb hW hnt4 19 lk_19 (by omega) (by omega) (by decide) dX8_append_39 (fun H locs hW => ?_)
      obtain ⟨M7, hM7⟩ : ∃ z, z = upd2 M6 19 ((((M 18 1) + 1) + 1) + 1) ((((v >>> ((iN 32).toInt64 &&& 63)).toInt32).toInt8.toInt32.toInt8.toInt32).toInt) := ⟨_, rfl⟩
      rw [← hM7] at hW
      refine lv_aload_n hx hb dX8_append_40 rfl (lv_at hl 1 rfl) ?_
      refine lv_dup hx hb dX8_append_41 rfl ?_
      refine rw_getI hx hb hts hown hW 18 lk_18 1 1 rfl rfl fX8_15 dX8_append_42 (v := ((((M 18 1) + 1) + 1) + 1)) (by rw [hM7, upd2_ne1 (by omega), hM6, upd2_eq]) ?_
      refine rw_iconst hx hb dX8_append_45 ?_
      refine rw_iadd hx hb dX8_append_46 ?_
      refine rw_putI hx hb hts hown hW 18 lk_18 1 1 rfl rfl qX8_15 (v := ((((M 18 1) + 1) + 1) + 1) + 1) dX8_append_47 (fun H locs hW => ?_)
      obtain ⟨M8, hM8⟩ : ∃ z, z = upd2 M7 18 1 (((((M 18 1) + 1) + 1) + 1) + 1) := ⟨_, rfl⟩
      rw [← hM8] at hW
      refine rw_iinc (lv' := [(3, .int (iN 24)), (0, .ref (ad 18)), (1, .long v)]) hx hb dX8_append_50 hl (k := 0) rfl (by decide) rfl (fun ls hl => ?_)
      refine lv_goto (tgt := 22) hx hb dX8_append_53 (by decide) ?_
      refine lv_iload_n hx hb dX8_append_22 rfl (lv_at hl 0 rfl) ?_
      refine rw_if_lt (tgt := 56) hx hb dX8_append_23 (by decide) (by decide) (fun c => absurd c (by decide)) (fun _ => ?_)
      refine lv_aload_n hx hb dX8_append_26 rfl (lv_at hl 1 rfl) ?_
      refine rw_getR hx hb hts hown hW 18 lk_18 0 19 rfl fX8_9 dX8_append_27 ?_
      refine lv_aload_n hx hb dX8_append_30 rfl (lv_at hl 1 rfl) ?_
      refine rw_getI hx hb hts hown hW 18 lk_18 1 1 rfl rfl fX8_15 dX8_append_31 (v := (((((M 18 1) + 1) + 1) + 1) + 1)) (by rw [hM8, upd2_eq]) ?_
      refine lv_lload_n hx hb dX8_append_34 rfl (lv_at hl 2 rfl) ?_
      refine lv_iload_n hx hb dX8_append_35 rfl (lv_at hl 0 rfl) ?_
      refine lv_lshr hx hb dX8_append_36 rfl ?_
      refine lv_l2i hx hb dX8_append_37 rfl ?_
      refine lv_i2b hx hb dX8_append_38 rfl ?_
      refine rw_bast hx hb hW hnt4 19 lk_19 (by omega) (by omega) (by decide) dX8_append_39 (fun H locs hW => ?_)
      obtain ⟨M9, hM9⟩ : ∃ z, z = upd2 M8 19 (((((M 18 1) + 1) + 1) + 1) + 1) ((((v >>> ((iN 24).toInt64 &&& 63)).toInt32).toInt8.toInt32.toInt8.toInt32).toInt) := ⟨_, rfl⟩
      rw [← hM9] at hW
      refine lv_aload_n hx hb dX8_append_40 rfl (lv_at hl 1 rfl) ?_
      refine lv_dup hx hb dX8_append_41 rfl ?_
      refine rw_getI hx hb hts hown hW 18 lk_18 1 1 rfl rfl fX8_15 dX8_append_42 (v := (((((M 18 1) + 1) + 1) + 1) + 1)) (by rw [hM9, upd2_ne1 (by omega), hM8, upd2_eq]) ?_
      refine rw_iconst hx hb dX8_append_45 ?_
      refine rw_iadd hx hb dX8_append_46 ?_
      refine rw_putI hx hb hts hown hW 18 lk_18 1 1 rfl rfl qX8_15 (v := (((((M 18 1) + 1) + 1) + 1) + 1) + 1) dX8_append_47 (fun H locs hW => ?_)
      obtain ⟨M10, hM10⟩ : ∃ z, z = upd2 M9 18 1 ((((((M 18 1) + 1) + 1) + 1) + 1) + 1) := ⟨_, rfl⟩
      rw [← hM10] at hW
      refine rw_iinc (lv' := [(3, .int (iN 16)), (0, .ref (ad 18)), (1, .long v)]) hx hb dX8_append_50 hl (k := 0) rfl (by decide) rfl (fun ls hl => ?_)
      refine lv_goto (tgt := 22) hx hb dX8_append_53 (by decide) ?_
      refine lv_iload_n hx hb dX8_append_22 rfl (lv_at hl 0 rfl) ?_
      refine rw_if_lt (tgt := 56) hx hb dX8_append_23 (by decide) (by decide) (fun c => absurd c (by decide)) (fun _ => ?_)
      refine lv_aload_n hx hb dX8_append_26 rfl (lv_at hl 1 rfl) ?_
      refine rw_getR hx hb hts hown hW 18 lk_18 0 19 rfl fX8_9 dX8_append_27 ?_
      refine lv_aload_n hx hb dX8_append_30 rfl (lv_at hl 1 rfl) ?_
      refine rw_getI hx hb hts hown hW 18 lk_18 1 1 rfl rfl fX8_15 dX8_append_31 (v := ((((((M 18 1) + 1) + 1) + 1) + 1) + 1)) (by rw [hM10, upd2_eq]) ?_
      refine lv_lload_n hx hb dX8_append_34 rfl (lv_at hl 2 rfl) ?_
      refine lv_iload_n hx hb dX8_append_35 rfl (lv_at hl 0 rfl) ?_
      refine lv_lshr hx hb dX8_append_36 rfl ?_
      refine lv_l2i hx hb dX8_append_37 rfl ?_
      refine lv_i2b hx hb dX8_append_38 rfl ?_
      refine rw_bast hx hb hW hnt4 19 lk_19 (by omega) (by omega) (by decide) dX8_append_39 (fun H locs hW => ?_)
      obtain ⟨M11, hM11⟩ : ∃ z, z = upd2 M10 19 ((((((M 18 1) + 1) + 1) + 1) + 1) + 1) ((((v >>> ((iN 16).toInt64 &&& 63)).toInt32).toInt8.toInt32.toInt8.toInt32).toInt) := ⟨_, rfl⟩
      rw [← hM11] at hW
      refine lv_aload_n hx hb dX8_append_40 rfl (lv_at hl 1 rfl) ?_
      refine lv_dup hx hb dX8_append_41 rfl ?_
      refine rw_getI hx hb hts hown hW 18 lk_18 1 1 rfl rfl fX8_15 dX8_append_42 (v := ((((((M 18 1) + 1) + 1) + 1) + 1) + 1)) (by rw [hM11, upd2_ne1 (by omega), hM10, upd2_eq]) ?_
      refine rw_iconst hx hb dX8_append_45 ?_
      refine rw_iadd hx hb dX8_append_46 ?_
      refine rw_putI hx hb hts hown hW 18 lk_18 1 1 rfl rfl qX8_15 (v := ((((((M 18 1) + 1) + 1) + 1) + 1) + 1) + 1) dX8_append_47 (fun H locs hW => ?_)
      obtain ⟨M12, hM12⟩ : ∃ z, z = upd2 M11 18 1 (((((((M 18 1) + 1) + 1) + 1) + 1) + 1) + 1) := ⟨_, rfl⟩
      rw [← hM12] at hW
      refine rw_iinc (lv' := [(3, .int (iN 8)), (0, .ref (ad 18)), (1, .long v)]) hx hb dX8_append_50 hl (k := 0) rfl (by decide) rfl (fun ls hl => ?_)
      refine lv_goto (tgt := 22) hx hb dX8_append_53 (by decide) ?_
      refine lv_iload_n hx hb dX8_append_22 rfl (lv_at hl 0 rfl) ?_
      refine rw_if_lt (tgt := 56) hx hb dX8_append_23 (by decide) (by decide) (fun c => absurd c (by decide)) (fun _ => ?_)
      refine lv_aload_n hx hb dX8_append_26 rfl (lv_at hl 1 rfl) ?_
      refine rw_getR hx hb hts hown hW 18 lk_18 0 19 rfl fX8_9 dX8_append_27 ?_
      refine lv_aload_n hx hb dX8_append_30 rfl (lv_at hl 1 rfl) ?_
      refine rw_getI hx hb hts hown hW 18 lk_18 1 1 rfl rfl fX8_15 dX8_append_31 (v := (((((((M 18 1) + 1) + 1) + 1) + 1) + 1) + 1)) (by rw [hM12, upd2_eq]) ?_
      refine lv_lload_n hx hb dX8_append_34 rfl (lv_at hl 2 rfl) ?_
      refine lv_iload_n hx hb dX8_append_35 rfl (lv_at hl 0 rfl) ?_
      refine lv_lshr hx hb dX8_append_36 rfl ?_
      refine lv_l2i hx hb dX8_append_37 rfl ?_
      refine lv_i2b hx hb dX8_append_38 rfl ?_
      refine rw_bast hx hb hW hnt4 19 lk_19 (by omega) (by omega) (by decide) dX8_append_39 (fun H locs hW => ?_)
      obtain ⟨M13, hM13⟩ : ∃ z, z = upd2 M12 19 (((((((M 18 1) + 1) + 1) + 1) + 1) + 1) + 1) ((((v >>> ((iN 8).toInt64 &&& 63)).toInt32).toInt8.toInt32.toInt8.toInt32).toInt) := ⟨_, rfl⟩
      rw [← hM13] at hW
      refine lv_aload_n hx hb dX8_append_40 rfl (lv_at hl 1 rfl) ?_
      refine lv_dup hx hb dX8_append_41 rfl ?_
      refine rw_getI hx hb hts hown hW 18 lk_18 1 1 rfl rfl fX8_15 dX8_append_42 (v := (((((((M 18 1) + 1) + 1) + 1) + 1) + 1) + 1)) (by rw [hM13, upd2_ne1 (by omega), hM12, upd2_eq]) ?_
      refine rw_iconst hx hb dX8_append_45 ?_
      refine rw_iadd hx hb dX8_append_46 ?_
      refine rw_putI hx hb hts hown hW 18 lk_18 1 1 rfl rfl qX8_15 (v := (((((((M 18 1) + 1) + 1) + 1) + 1) + 1) + 1) + 1) dX8_append_47 (fun H locs hW => ?_)
      obtain ⟨M14, hM14⟩ : ∃ z, z = upd2 M13 18 1 ((((((((M 18 1) + 1) + 1) + 1) + 1) + 1) + 1) + 1) := ⟨_, rfl⟩
      rw [← hM14] at hW
      refine rw_iinc (lv' := [(3, .int (iN 0)), (0, .ref (ad 18)), (1, .long v)]) hx hb dX8_append_50 hl (k := 0) rfl (by decide) rfl (fun ls hl => ?_)
      refine lv_goto (tgt := 22) hx hb dX8_append_53 (by decide) ?_
      refine lv_iload_n hx hb dX8_append_22 rfl (lv_at hl 0 rfl) ?_
      refine rw_if_lt (tgt := 56) hx hb dX8_append_23 (by decide) (by decide) (fun c => absurd c (by decide)) (fun _ => ?_)
      refine lv_aload_n hx hb dX8_append_26 rfl (lv_at hl 1 rfl) ?_
      refine rw_getR hx hb hts hown hW 18 lk_18 0 19 rfl fX8_9 dX8_append_27 ?_
      refine lv_aload_n hx hb dX8_append_30 rfl (lv_at hl 1 rfl) ?_
      refine rw_getI hx hb hts hown hW 18 lk_18 1 1 rfl rfl fX8_15 dX8_append_31 (v := ((((((((M 18 1) + 1) + 1) + 1) + 1) + 1) + 1) + 1)) (by rw [hM14, upd2_eq]) ?_
      refine lv_lload_n hx hb dX8_append_34 rfl (lv_at hl 2 rfl) ?_
      refine lv_iload_n hx hb dX8_append_35 rfl (lv_at hl 0 rfl) ?_
      refine lv_lshr hx hb dX8_append_36 rfl ?_
      refine lv_l2i hx hb dX8_append_37 rfl ?_
      refine lv_i2b hx hb dX8_append_38 rfl ?_
      refine rw_bast hx hb hW hnt4 19 lk_19 (by omega) (by omega) (by decide) dX8_append_39 (fun H locs hW => ?_)
      obtain ⟨M15, hM15⟩ : ∃ z, z = upd2 M14 19 ((((((((M 18 1) + 1) + 1) + 1) + 1) + 1) + 1) + 1) ((((v >>> ((iN 0).toInt64 &&& 63)).toInt32).toInt8.toInt32.toInt8.toInt32).toInt) := ⟨_, rfl⟩
      rw [← hM15] at hW
      refine lv_aload_n hx hb dX8_append_40 rfl (lv_at hl 1 rfl) ?_
      refine lv_dup hx hb dX8_append_41 rfl ?_
      refine rw_getI hx hb hts hown hW 18 lk_18 1 1 rfl rfl fX8_15 dX8_append_42 (v := ((((((((M 18 1) + 1) + 1) + 1) + 1) + 1) + 1) + 1)) (by rw [hM15, upd2_ne1 (by omega), hM14, upd2_eq]) ?_
      refine rw_iconst hx hb dX8_append_45 ?_
      refine rw_iadd hx hb dX8_append_46 ?_
      refine rw_putI hx hb hts hown hW 18 lk_18 1 1 rfl rfl qX8_15 (v := ((((((((M 18 1) + 1) + 1) + 1) + 1) + 1) + 1) + 1) + 1) dX8_append_47 (fun H locs hW => ?_)
      obtain ⟨M16, hM16⟩ : ∃ z, z = upd2 M15 18 1 (((((((((M 18 1) + 1) + 1) + 1) + 1) + 1) + 1) + 1) + 1) := ⟨_, rfl⟩
      rw [← hM16] at hW
      refine rw_iinc (lv' := [(3, .int (iN (-8))), (0, .ref (ad 18)), (1, .long v)]) hx hb dX8_append_50 hl (k := 0) rfl (by decide) rfl (fun ls hl => ?_)
      refine lv_goto (tgt := 22) hx hb dX8_append_53 (by decide) ?_
      refine lv_iload_n hx hb dX8_append_22 rfl (lv_at hl 0 rfl) ?_
      refine rw_if_lt (tgt := 56) hx hb dX8_append_23 (by decide) (by decide) (fun _ => ?_) (fun c => absurd (by decide) c)
      refine rw_iconst hx hb dX8_append_56 ?_
      refine rw_zret hx hb hr hlocks hW dX8_append_57 (Or.inr rfl) (⟨1, rfl, ?_⟩)
      refine ⟨BP.t (by omega), Or.inl ⟨by omega, ?_, fun j h1 h2 => ?_, fun i h1 => ?_, fun q j h1 h2 => ?_⟩⟩
      · simp only [hM1, hM2, hM3, hM4, hM5, hM6, hM7, hM8, hM9, hM10, hM11, hM12, hM13, hM14, hM15, hM16, upd2_at]; simp; omega
      · rcases (show j = 0 ∨ j = 1 ∨ j = 2 ∨ j = 3 ∨ j = 4 ∨ j = 5 ∨ j = 6 ∨ j = 7 by omega) with rfl | rfl | rfl | rfl | rfl | rfl | rfl | rfl <;> (simp only [hM1, hM2, hM3, hM4, hM5, hM6, hM7, hM8, hM9, hM10, hM11, hM12, hM13, hM14, hM15, hM16, upd2_at]; simp [bytC]; (try (repeat' split) <;> first | rfl | omega))
      · simp only [hM1, hM2, hM3, hM4, hM5, hM6, hM7, hM8, hM9, hM10, hM11, hM12, hM13, hM14, hM15, hM16, upd2_at]; simp; (repeat' rw [if_neg (by omega)])
      · simp only [hM1, hM2, hM3, hM4, hM5, hM6, hM7, hM8, hM9, hM10, hM11, hM12, hM13, hM14, hM15, hM16, upd2_at]; simp only [h1, h2, false_and, if_false]
    · refine rw_iconst hx hb dX8_append_17 ?_
      refine rw_zret hx hb hr hlocks hW dX8_append_18 (Or.inl rfl) (⟨0, rfl, ?_⟩)
      exact ⟨BP.f (by omega), Or.inr ⟨by omega, rfl⟩⟩
abbrev P_X10_feed (v : Int64) (M : Mem) : Option Value → Mem → Prop := oI (fun zz MM => (M 18 1 ≤ 312 ∧ zz = M 18 1 + 8 ∧ fedK M v MM) ∨ (312 < M 18 1 ∧ zz = -3 ∧ MM = M))
set_option maxRecDepth 100000 in
set_option maxHeartbeats 4000000 in
theorem c_X10_feed {l : Launch} {G : va_G} {ad : Nat → Nat} {CA : Nat → ClassId} {nt : Nat} (hnt : 6 ≤ nt) (v : Int64) (M : Mem) (hKI : KI M) : Mt l yX10_feed cX10_feed 3 (some .int) 1 23 G ad CA nt LyK [.ref (ad 0), .long v] M (P_X10_feed v M) := by
  refine Mt.of (by decide) (Nat.le_of_ble_eq_true rfl) (fun p e s m args below meth c hx hb hr hml hts hown hlocks hnm hW ls hl => ?_)
  have hl : lv_has ls 3 [(0, .ref (ad 0)), (1, .long v)] := hl
  have hnt4 : 4 ≤ nt := by omega
  obtain ⟨H, hH⟩ : ∃ z, z = s.heap := ⟨_, rfl⟩
  obtain ⟨locs, hlo⟩ : ∃ z : List Loc, z = [] := ⟨_, rfl⟩
  rw [← hH, ← hlo] at hW ⊢
  have hTp := hKI.tape
  refine lv_aload_n hx hb dX10_feed_0 rfl (lv_at hl 0 rfl) ?_
  refine rw_getR hx hb hts hown hW 0 lk_0 2 17 rfl fX10_22 dX10_feed_1 ?_
  refine rw_getR hx hb hts hown hW 17 lk_17 0 18 rfl fX10_67 dX10_feed_4 ?_
  refine lv_lload_n hx hb dX10_feed_7 rfl (lv_at hl 1 rfl) ?_
  refine rw_callV hx hb hml hts hown hW ⟨Nat.le_refl 0, Nat.le_refl 0⟩ [.long v] 18 lk_18 rfl (c_X8_append (l := l) (G := G) (ad := ad) (CA := CA) (nt := nt) (by omega) v M (by omega)) kX10_71 rfl ⟨Nat.le_of_ble_eq_true rfl, Nat.le_of_ble_eq_true rfl⟩ hl.1 rfl (Nat.le_of_ble_eq_true rfl) dX10_feed_8 (fun v1 M2 H locs hp3 hW => ?_)
  obtain ⟨a4, rfl, hp3, hM2⟩ := hp3
  rcases hp3 with ⟨rfl, hp3⟩ | ⟨rfl, hp3⟩
  · refine rw_stk (st' := [.int (iN 1)]) rfl ?_
    refine rw_if_eq (tgt := 27) hx hb dX10_feed_11 (by decide) (by decide) (fun c => absurd c (by decide)) (fun _ => ?_)
    refine lv_aload_n hx hb dX10_feed_14 rfl (lv_at hl 0 rfl) ?_
    refine rw_getR hx hb hts hown hW 0 lk_0 2 17 rfl fX10_22 dX10_feed_15 ?_
    refine rw_getR hx hb hts hown hW 17 lk_17 0 18 rfl fX10_67 dX10_feed_18 ?_
    refine rw_getI hx hb hts hown hW 18 lk_18 1 1 rfl rfl fX10_77 dX10_feed_21 (v := (M2 18 1)) rfl ?_
    refine lv_goto (tgt := 29) hx hb dX10_feed_24 (by decide) ?_
    refine rw_iret hx hb hr hlocks hW dX10_feed_29 (⟨(M2 18 1), rfl, ?_⟩)
    rcases hM2 with ⟨q1, q2⟩ | ⟨q1, q2⟩
    · exact Or.inl ⟨q1, q2.1, q2⟩
    · exfalso; omega
  · refine rw_stk (st' := [.int (iN 0)]) rfl ?_
    refine rw_if_eq (tgt := 27) hx hb dX10_feed_11 (by decide) (by decide) (fun _ => ?_) (fun c => absurd (by decide) c)
    refine rw_bipush hx hb dX10_feed_27 (by decide) ?_
    refine rw_iret hx hb hr hlocks hW dX10_feed_29 (⟨(-3), rfl, ?_⟩)
    rcases hM2 with ⟨q1, q2⟩ | ⟨q1, q2⟩
    · exfalso; omega
    · exact Or.inr ⟨q1, rfl, q2⟩
