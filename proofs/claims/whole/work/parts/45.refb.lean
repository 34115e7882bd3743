abbrev P_X11_rule (w : Int) (M : Mem) : Option Value → Mem → Prop := oI (fun zz MM => zz = (if w = 0 then pg M 0 47 else if w = 1 then pg M 0 27 else if w = 2 then pg M 0 44 else if w = 3 then pg M 0 45 else if w = 4 then pg M 0 46 else -1) ∧ MM = M)
set_option maxRecDepth 100000 in
set_option maxHeartbeats 4000000 in
theorem c_X11_rule {l : Launch} {G : va_G} {ad : Nat → Nat} {CA : Nat → ClassId} {nt : Nat} (hnt : 6 ≤ nt) (w : Int) (hw9 : in32 w) (M : Mem) : Mt l yX11_rule cX11_rule 2 (some .int) 1 21 G ad CA nt LyM [.ref (ad 0), .int (iN w)] M (P_X11_rule w M) := by
  refine Mt.of (by decide) (Nat.le_of_ble_eq_true rfl) (fun p e s m args below meth c hx hb hr hml hts hown hlocks hnm hW ls hl => ?_)
  have hl : lv_has ls 2 [(0, .ref (ad 0)), (1, .int (iN w))] := hl
  have hnt4 : 4 ≤ nt := by omega
  obtain ⟨H, hH⟩ : ∃ z, z = s.heap := ⟨_, rfl⟩
  obtain ⟨locs, hlo⟩ : ∃ z : List Loc, z = [] := ⟨_, rfl⟩
  rw [← hH, ← hlo] at hW ⊢
  refine lv_iload_n hx hb dX11_rule_0 rfl (lv_at hl 1 rfl) ?_
  refine rw_if_ne (tgt := 11) hx hb dX11_rule_1 (by decide) (by omega) (fun c_1 => ?_) (fun c_1 => ?_)
  · refine lv_iload_n hx hb dX11_rule_11 rfl (lv_at hl 1 rfl) ?_
    refine rw_iconst hx hb dX11_rule_12 ?_
    refine rw_icmp_ne (tgt := 24) hx hb dX11_rule_13 (by decide) (by omega) (by decide) (fun c_13 => ?_) (fun c_13 => ?_)
    · refine lv_iload_n hx hb dX11_rule_24 rfl (lv_at hl 1 rfl) ?_
      refine rw_iconst hx hb dX11_rule_25 ?_
      refine rw_icmp_ne (tgt := 41) hx hb dX11_rule_26 (by decide) (by omega) (by decide) (fun c_26 => ?_) (fun c_26 => ?_)
      · refine lv_iload_n hx hb dX11_rule_41 rfl (lv_at hl 1 rfl) ?_
        refine rw_iconst hx hb dX11_rule_42 ?_
        refine rw_icmp_ne (tgt := 56) hx hb dX11_rule_43 (by decide) (by omega) (by decide) (fun c_43 => ?_) (fun c_43 => ?_)
        · refine lv_iload_n hx hb dX11_rule_56 rfl (lv_at hl 1 rfl) ?_
          refine rw_iconst hx hb dX11_rule_57 ?_
          refine rw_icmp_ne (tgt := 71) hx hb dX11_rule_58 (by decide) (by omega) (by decide) (fun c_58 => ?_) (fun c_58 => ?_)
          · refine rw_iconst hx hb dX11_rule_71 ?_
            refine rw_iret hx hb hr hlocks hW dX11_rule_72 (⟨(-1), rfl, ?_⟩)
            exact ⟨by (repeat' split) <;> first | rfl | (exfalso; omega), rfl⟩
          · refine lv_aload_n hx hb dX11_rule_61 rfl (lv_at hl 0 rfl) ?_
            refine rw_getR hx hb hts hown hW 0 lm_0 0 1 rfl fX11_7 dX11_rule_62 ?_
            refine rw_bipush hx hb dX11_rule_65 (by decide) ?_
            refine rw_iald hx hb hW hnt4 1 lm_1 (by omega) (by omega) (by decide) dX11_rule_67 (v := (M 1 46)) rfl ?_
            refine lv_goto (tgt := 72) hx hb dX11_rule_68 (by decide) ?_
            refine rw_iret hx hb hr hlocks hW dX11_rule_72 (⟨(M 1 46), rfl, ?_⟩)
            exact ⟨by (repeat' split) <;> first | rfl | (exfalso; omega), rfl⟩
        · refine lv_aload_n hx hb dX11_rule_46 rfl (lv_at hl 0 rfl) ?_
          refine rw_getR hx hb hts hown hW 0 lm_0 0 1 rfl fX11_7 dX11_rule_47 ?_
          refine rw_bipush hx hb dX11_rule_50 (by decide) ?_
          refine rw_iald hx hb hW hnt4 1 lm_1 (by omega) (by omega) (by decide) dX11_rule_52 (v := (M 1 45)) rfl ?_
          refine lv_goto (tgt := 72) hx hb dX11_rule_53 (by decide) ?_
          refine rw_iret hx hb hr hlocks hW dX11_rule_72 (⟨(M 1 45), rfl, ?_⟩)
          exact ⟨by (repeat' split) <;> first | rfl | (exfalso; omega), rfl⟩
      · refine lv_aload_n hx hb dX11_rule_29 rfl (lv_at hl 0 rfl) ?_
        refine rw_getR hx hb hts hown hW 0 lm_0 0 1 rfl fX11_7 dX11_rule_30 ?_
        refine rw_bipush hx hb dX11_rule_33 (by decide) ?_
        refine rw_iald hx hb hW hnt4 1 lm_1 (by omega) (by omega) (by decide) dX11_rule_35 (v := (M 1 44)) rfl ?_
        refine rw_iconst hx hb dX11_rule_36 ?_
        refine rw_iadd hx hb dX11_rule_37 ?_
        refine lv_goto (tgt := 72) hx hb dX11_rule_38 (by decide) ?_
        refine rw_iret hx hb hr hlocks hW dX11_rule_72 (⟨(M 1 44) + 2, rfl, ?_⟩)
        exact ⟨by (repeat' split) <;> first | rfl | (exfalso; omega), rfl⟩
    · refine lv_aload_n hx hb dX11_rule_16 rfl (lv_at hl 0 rfl) ?_
      refine rw_iconst hx hb dX11_rule_17 ?_
      refine rw_callV hx hb hml hts hown hW ⟨Nat.le_refl 0, Nat.le_refl 0⟩ [.int (iN 0)] 0 lm_0 rfl (c_X11_keg (l := l) (G := G) (ad := ad) (CA := CA) (nt := nt) (by omega) 0 (by first | omega | decide) M) kX11_146 rfl ⟨Nat.le_of_ble_eq_true rfl, Nat.le_of_ble_eq_true rfl⟩ hl.1 rfl (Nat.le_of_ble_eq_true rfl) dX11_rule_18 (fun v1 M2 H locs hp3 hW => ?_)
      obtain ⟨_, rfl, rfl, hp3⟩ := hp3
      rw [hp3] at hW
      refine rw_stk (st' := [.int (iN (pg M 0 27))]) rfl ?_
      refine lv_goto (tgt := 72) hx hb dX11_rule_21 (by decide) ?_
      refine rw_iret hx hb hr hlocks hW dX11_rule_72 (⟨pg M 0 27, rfl, ?_⟩)
      exact ⟨by (repeat' split) <;> first | rfl | (exfalso; omega), rfl⟩
  · refine lv_aload_n hx hb dX11_rule_4 rfl (lv_at hl 0 rfl) ?_
    refine rw_getI hx hb hts hown hW 0 lm_0 1 1 rfl rfl fX11_13 dX11_rule_5 (v := (M 0 1)) rfl ?_
    refine lv_goto (tgt := 72) hx hb dX11_rule_8 (by decide) ?_
    refine rw_iret hx hb hr hlocks hW dX11_rule_72 (⟨(M 0 1), rfl, ?_⟩)
    exact ⟨by (repeat' split) <;> first | rfl | (exfalso; omega), rfl⟩
abbrev P_X11_cell (i : Int) (w : Int) (M : Mem) : Option Value → Mem → Prop := oI (fun zz MM => zz = (if (0 ≤ i ∧ i < pg M 0 47) ∧ 0 ≤ w ∧ w ≤ 2 then pg M 0 (3 * i + w) else -1) ∧ MM = M)
set_option maxRecDepth 100000 in
set_option maxHeartbeats 4000000 in
theorem c_X11_cell {l : Launch} {G : va_G} {ad : Nat → Nat} {CA : Nat → ClassId} {nt : Nat} (hnt : 6 ≤ nt) (i : Int) (hi9 : in32 i) (w : Int) (hw9 : in32 w) (M : Mem) (hI : InvF (pg M 0)) : Mt l yX11_cell cX11_cell 3 (some .int) 2 46 G ad CA nt LyM [.ref (ad 0), .int (iN i), .int (iN w)] M (P_X11_cell i w M) := by
  refine Mt.of (by decide) (Nat.le_of_ble_eq_true rfl) (fun p e s m args below meth c hx hb hr hml hts hown hlocks hnm hW ls hl => ?_)
  have hl : lv_has ls 3 [(0, .ref (ad 0)), (1, .int (iN i)), (2, .int (iN w))] := hl
  have hnt4 : 4 ≤ nt := by omega
  obtain ⟨H, hH⟩ : ∃ z, z = s.heap := ⟨_, rfl⟩
  obtain ⟨locs, hlo⟩ : ∃ z : List Loc, z = [] := ⟨_, rfl⟩
  rw [← hH, ← hlo] at hW ⊢
  have hc := hI.1
  have hk := hI.2.1
  have h47 : pg M 0 47 = M 0 1 := rfl
  have hrr := hI.2.2.1
  have hm := hI.2.2.2.2.1
  have hz0 := InvF.sd _ hI (s := 0) (Or.inl rfl)
  have hz1 := InvF.sd _ hI (s := 1) (Or.inr rfl)
  have hf0 := hz0.1
  have hf1 := hz1.1
  have hq0 := hz0.2.2.2.2.2
  have hq1 := hz1.2.2.2.2.2
  have hg0 := hz0.2.1
  have hg1 := hz1.2.1
  have hg2 := hz0.2.2.1
  have hg3 := hz1.2.2.1
  have hg4 := hz0.2.2.2.1
  have hg5 := hz1.2.2.2.1
  have hg6 := hz0.2.2.2.2.1
  have hg7 := hz1.2.2.2.2.1
  refine lv_aload_n hx hb dX11_cell_0 rfl (lv_at hl 0 rfl) ?_
  refine lv_iload_n hx hb dX11_cell_1 rfl (lv_at hl 1 rfl) ?_
  refine rw_callV hx hb hml hts hown hW ⟨Nat.le_refl 0, Nat.le_refl 0⟩ [.int (iN i)] 0 lm_0 rfl (c_X11_isCell (l := l) (G := G) (ad := ad) (CA := CA) (nt := nt) (by omega) i (by first | omega | decide) M hc) kX11_142 rfl ⟨Nat.le_of_ble_eq_true rfl, Nat.le_of_ble_eq_true rfl⟩ hl.1 rfl (Nat.le_of_ble_eq_true rfl) dX11_cell_2 (fun v1 M2 H locs hp3 hW => ?_)
  obtain ⟨a4, rfl, hp3, hp3m⟩ := hp3
  rw [hp3m] at hW
  rcases hp3 with ⟨rfl, hp3⟩ | ⟨rfl, hp3⟩
  · refine rw_stk (st' := [.int (iN 1)]) rfl ?_
    refine rw_if_eq (tgt := 20) hx hb dX11_cell_5 (by decide) (by decide) (fun c => absurd c (by decide)) (fun _ => ?_)
    refine lv_iload_n hx hb dX11_cell_8 rfl (lv_at hl 2 rfl) ?_
    refine rw_i2l hx hb dX11_cell_9 (by omega) ?_
    refine lv_lconst (v := jN 0) hx hb dX11_cell_10 rfl ?_
    refine lv_ldc2 (v := 2) hx hb hown (hts _ (wm_20 _ (List.mem_of_getElem? (i := 4) rfl))) dX11_cell_11 ?_
    refine rw_stk (st' := [.long (jN 2), .long (jN 0), .long (jN w)]) (by rw [show (2 : Int64) = jN 2 from by decide]) ?_
    refine rw_callS hx hb hml hts hown hW ⟨Nat.le_refl 0, Nat.le_refl 0⟩ [.long (jN w), .long (jN 0), .long (jN 2)] (c_X11_in (l := l) (G := G) (ad := ad) (CA := CA) (nt := nt) w 0 2 (by first | omega | decide) (by first | omega | decide) (by first | omega | decide) M) kX11_57 rfl ⟨Nat.le_of_ble_eq_true rfl, Nat.le_of_ble_eq_true rfl⟩ hl.1 rfl (Nat.le_of_ble_eq_true rfl) dX11_cell_14 (fun v5 M6 H locs hp7 hW => ?_)
    obtain ⟨a8, rfl, hp7, hp7m⟩ := hp7
    rw [hp7m] at hW
    rcases hp7 with ⟨rfl, hp7⟩ | ⟨rfl, hp7⟩
    · refine rw_stk (st' := [.int (iN 1)]) rfl ?_
      refine rw_if_ne (tgt := 22) hx hb dX11_cell_17 (by decide) (by decide) (fun _ => ?_) (fun c => absurd c (by decide))
      refine lv_iload_n hx hb dX11_cell_22 rfl (lv_at hl 2 rfl) ?_
      refine rw_if_ne (tgt := 40) hx hb dX11_cell_23 (by decide) (by omega) (fun c_23 => ?_) (fun c_23 => ?_)
      · refine lv_iload_n hx hb dX11_cell_40 rfl (lv_at hl 2 rfl) ?_
        refine rw_iconst hx hb dX11_cell_41 ?_
        refine rw_icmp_ne (tgt := 60) hx hb dX11_cell_42 (by decide) (by omega) (by decide) (fun c_42 => ?_) (fun c_42 => ?_)
        · refine lv_aload_n hx hb dX11_cell_60 rfl (lv_at hl 0 rfl) ?_
          refine rw_getR hx hb hts hown hW 0 lm_0 0 1 rfl fX11_7 dX11_cell_61 ?_
          refine rw_iconst hx hb dX11_cell_64 ?_
          refine lv_iload_n hx hb dX11_cell_65 rfl (lv_at hl 1 rfl) ?_
          refine rw_imul hx hb dX11_cell_66 ?_
          refine rw_iconst hx hb dX11_cell_67 ?_
          refine rw_iadd hx hb dX11_cell_68 ?_
          refine rw_iald hx hb hW hnt4 1 lm_1 (by omega) (by omega) (by decide) dX11_cell_69 (v := (M 1 ((3 * i) + 2))) rfl ?_
          refine rw_iret hx hb hr hlocks hW dX11_cell_70 (⟨(M 1 ((3 * i) + 2)), rfl, ?_⟩)
          refine ⟨?_, rfl⟩
          rw [if_pos (by omega)]
          rw [show w = 2 by omega, pg_h M 0 (by omega), Int.zero_add]
        · refine lv_aload_n hx hb dX11_cell_45 rfl (lv_at hl 0 rfl) ?_
          refine rw_getR hx hb hts hown hW 0 lm_0 0 1 rfl fX11_7 dX11_cell_46 ?_
          refine rw_iconst hx hb dX11_cell_49 ?_
          refine lv_iload_n hx hb dX11_cell_50 rfl (lv_at hl 1 rfl) ?_
          refine rw_imul hx hb dX11_cell_51 ?_
          refine rw_iconst hx hb dX11_cell_52 ?_
          refine rw_iadd hx hb dX11_cell_53 ?_
          refine rw_iald hx hb hW hnt4 1 lm_1 (by omega) (by omega) (by decide) dX11_cell_54 (v := (M 1 ((3 * i) + 1))) rfl ?_
          refine rw_iconst hx hb dX11_cell_55 ?_
          refine rw_iadd hx hb dX11_cell_56 ?_
          refine lv_goto (tgt := 70) hx hb dX11_cell_57 (by decide) ?_
          refine rw_iret hx hb hr hlocks hW dX11_cell_70 (⟨(M 1 ((3 * i) + 1)) + 3, rfl, ?_⟩)
          refine ⟨?_, rfl⟩
          rw [if_pos (by omega)]
          rw [show w = 1 by omega, pg_l M 0 (by omega), Int.zero_add]
      · refine rw_bipush hx hb dX11_cell_26 (by decide) ?_
        refine lv_aload_n hx hb dX11_cell_28 rfl (lv_at hl 0 rfl) ?_
        refine rw_getR hx hb hts hown hW 0 lm_0 0 1 rfl fX11_7 dX11_cell_29 ?_
        refine rw_iconst hx hb dX11_cell_32 ?_
        refine lv_iload_n hx hb dX11_cell_33 rfl (lv_at hl 1 rfl) ?_
        refine rw_imul hx hb dX11_cell_34 ?_
        refine rw_iald hx hb hW hnt4 1 lm_1 (by omega) (by omega) (by decide) dX11_cell_35 (v := (M 1 (3 * i))) rfl ?_
        refine rw_isub hx hb dX11_cell_36 ?_
        refine lv_goto (tgt := 70) hx hb dX11_cell_37 (by decide) ?_
        refine rw_iret hx hb hr hlocks hW dX11_cell_70 (⟨12 - (M 1 (3 * i)), rfl, ?_⟩)
        refine ⟨?_, rfl⟩
        rw [if_pos (by omega)]
        rw [show w = 0 by omega, Int.add_zero, pg_r M 0 (by omega), Int.zero_add]
    · refine rw_stk (st' := [.int (iN 0)]) rfl ?_
      refine rw_if_ne (tgt := 22) hx hb dX11_cell_17 (by decide) (by decide) (fun c => absurd c (by decide)) (fun _ => ?_)
      refine rw_iconst hx hb dX11_cell_20 ?_
      refine rw_iret hx hb hr hlocks hW dX11_cell_21 (⟨(-1), rfl, ?_⟩)
      exact ⟨by rw [if_neg (by omega)], rfl⟩
  · refine rw_stk (st' := [.int (iN 0)]) rfl ?_
    refine rw_if_eq (tgt := 20) hx hb dX11_cell_5 (by decide) (by decide) (fun _ => ?_) (fun c => absurd (by decide) c)
    refine rw_iconst hx hb dX11_cell_20 ?_
    refine rw_iret hx hb hr hlocks hW dX11_cell_21 (⟨(-1), rfl, ?_⟩)
    exact ⟨by rw [if_neg (by omega)], rfl⟩
abbrev P_X11_side (sx : Int) (w : Int) (M : Mem) : Option Value → Mem → Prop := oI (fun zz MM => zz = (if sx = 0 ∨ sx = 1 then ansS (sdF (pg M 0) sx) w else -1) ∧ MM = M)
set_option maxRecDepth 100000 in
set_option maxHeartbeats 4000000 in
theorem c_X11_side {l : Launch} {G : va_G} {ad : Nat → Nat} {CA : Nat → ClassId} {nt : Nat} (hnt : 6 ≤ nt) (sx : Int) (hsx9 : in32 sx) (w : Int) (hw9 : in32 w) (M : Mem) : Mt l yX11_side cX11_side 3 (some .int) 2 45 G ad CA nt LyM [.ref (ad 0), .int (iN sx), .int (iN w)] M (P_X11_side sx w M) := by
  refine Mt.of (by decide) (Nat.le_of_ble_eq_true rfl) (fun p e s m args below meth c hx hb hr hml hts hown hlocks hnm hW ls hl => ?_)
  have hl : lv_has ls 3 [(0, .ref (ad 0)), (1, .int (iN sx)), (2, .int (iN w))] := hl
  have hnt4 : 4 ≤ nt := by omega
  obtain ⟨H, hH⟩ : ∃ z, z = s.heap := ⟨_, rfl⟩
  obtain ⟨locs, hlo⟩ : ∃ z : List Loc, z = [] := ⟨_, rfl⟩
  rw [← hH, ← hlo] at hW ⊢
  refine lv_iload_n hx hb dX11_side_0 rfl (lv_at hl 1 rfl) ?_
  refine rw_callS hx hb hml hts hown hW ⟨Nat.le_refl 0, Nat.le_refl 0⟩ [.int (iN sx)] (c_X11_isSide (l := l) (G := G) (ad := ad) (CA := CA) (nt := nt) sx (by first | omega | decide) M) kX11_151 rfl ⟨Nat.le_of_ble_eq_true rfl, Nat.le_of_ble_eq_true rfl⟩ hl.1 rfl (Nat.le_of_ble_eq_true rfl) dX11_side_1 (fun v1 M2 H locs hp3 hW => ?_)
  obtain ⟨a4, rfl, hp3, hp3m⟩ := hp3
  rw [hp3m] at hW
  rcases hp3 with ⟨rfl, hp3⟩ | ⟨rfl, hp3⟩
  · rcases hp3 with rfl | rfl
    · refine rw_stk (st' := [.int (iN 1)]) rfl ?_
      refine rw_if_eq (tgt := 29) hx hb dX11_side_4 (by decide) (by decide) (fun c => absurd c (by decide)) (fun _ => ?_)
      refine lv_iload_n hx hb dX11_side_7 rfl (lv_at hl 2 rfl) ?_
      refine rw_i2l hx hb dX11_side_8 (by omega) ?_
      refine lv_lconst (v := jN 0) hx hb dX11_side_9 rfl ?_
      refine lv_ldc2 (v := 7) hx hb hown (hts _ (wm_21 _ (List.mem_of_getElem? (i := 1) rfl))) dX11_side_10 ?_
      refine rw_stk (st' := [.long (jN 7), .long (jN 0), .long (jN w)]) (by rw [show (7 : Int64) = jN 7 from by decide]) ?_
      refine rw_callS hx hb hml hts hown hW ⟨Nat.le_refl 0, Nat.le_refl 0⟩ [.long (jN w), .long (jN 0), .long (jN 7)] (c_X11_in (l := l) (G := G) (ad := ad) (CA := CA) (nt := nt) w 0 7 (by first | omega | decide) (by first | omega | decide) (by first | omega | decide) M) kX11_57 rfl ⟨Nat.le_of_ble_eq_true rfl, Nat.le_of_ble_eq_true rfl⟩ hl.1 rfl (Nat.le_of_ble_eq_true rfl) dX11_side_13 (fun v5 M6 H locs hp7 hW => ?_)
      obtain ⟨a8, rfl, hp7, hp7m⟩ := hp7
      rw [hp7m] at hW
      rcases hp7 with ⟨rfl, hp7⟩ | ⟨rfl, hp7⟩
      · refine rw_stk (st' := [.int (iN 1)]) rfl ?_
        refine rw_if_eq (tgt := 29) hx hb dX11_side_16 (by decide) (by decide) (fun c => absurd c (by decide)) (fun _ => ?_)
        refine lv_aload_n hx hb dX11_side_19 rfl (lv_at hl 0 rfl) ?_
        refine rw_iconst hx hb dX11_side_20 ?_
        refine lv_iload_n hx hb dX11_side_21 rfl (lv_at hl 1 rfl) ?_
        refine lv_iload_n hx hb dX11_side_22 rfl (lv_at hl 2 rfl) ?_
        refine rw_callV hx hb hml hts hown hW ⟨Nat.le_refl 0, Nat.le_refl 0⟩ [.int (iN 0), .int (iN 0), .int (iN w)] 0 lm_0 rfl (c_X11_ofSide (l := l) (G := G) (ad := ad) (CA := CA) (nt := nt) (by omega) 0 (by first | omega | decide) 0 (by first | omega | decide) w (by first | omega | decide) M) kX11_156 rfl ⟨Nat.le_of_ble_eq_true rfl, Nat.le_of_ble_eq_true rfl⟩ hl.1 rfl (Nat.le_of_ble_eq_true rfl) dX11_side_23 (fun v9 M10 H locs hp11 hW => ?_)
        obtain ⟨_, rfl, rfl, hp11⟩ := hp11
        rw [hp11] at hW
        refine rw_stk (st' := [.int (iN (sdF (pg M 0) 0 w))]) rfl ?_
        refine lv_goto (tgt := 30) hx hb dX11_side_26 (by decide) ?_
        refine rw_iret hx hb hr hlocks hW dX11_side_30 (⟨sdF (pg M 0) 0 w, rfl, ?_⟩)
        exact ⟨by rw [if_pos (by omega), ansS_k _ (by omega)], rfl⟩
      · refine rw_stk (st' := [.int (iN 0)]) rfl ?_
        refine rw_if_eq (tgt := 29) hx hb dX11_side_16 (by decide) (by decide) (fun _ => ?_) (fun c => absurd (by decide) c)
        refine rw_iconst hx hb dX11_side_29 ?_
        refine rw_iret hx hb hr hlocks hW dX11_side_30 (⟨(-1), rfl, ?_⟩)
        refine ⟨?_, rfl⟩
        first | rw [if_neg (by omega)] | (rw [if_pos (by omega), ansS_o _ (by omega)])
    · refine rw_stk (st' := [.int (iN 1)]) rfl ?_
      refine rw_if_eq (tgt := 29) hx hb dX11_side_4 (by decide) (by decide) (fun c => absurd c (by decide)) (fun _ => ?_)
      refine lv_iload_n hx hb dX11_side_7 rfl (lv_at hl 2 rfl) ?_
      refine rw_i2l hx hb dX11_side_8 (by omega) ?_
      refine lv_lconst (v := jN 0) hx hb dX11_side_9 rfl ?_
      refine lv_ldc2 (v := 7) hx hb hown (hts _ (wm_21 _ (List.mem_of_getElem? (i := 1) rfl))) dX11_side_10 ?_
      refine rw_stk (st' := [.long (jN 7), .long (jN 0), .long (jN w)]) (by rw [show (7 : Int64) = jN 7 from by decide]) ?_
      refine rw_callS hx hb hml hts hown hW ⟨Nat.le_refl 0, Nat.le_refl 0⟩ [.long (jN w), .long (jN 0), .long (jN 7)] (c_X11_in (l := l) (G := G) (ad := ad) (CA := CA) (nt := nt) w 0 7 (by first | omega | decide) (by first | omega | decide) (by first | omega | decide) M) kX11_57 rfl ⟨Nat.le_of_ble_eq_true rfl, Nat.le_of_ble_eq_true rfl⟩ hl.1 rfl (Nat.le_of_ble_eq_true rfl) dX11_side_13 (fun v12 M13 H locs hp14 hW => ?_)
      obtain ⟨a15, rfl, hp14, hp14m⟩ := hp14
      rw [hp14m] at hW
      rcases hp14 with ⟨rfl, hp14⟩ | ⟨rfl, hp14⟩
      · refine rw_stk (st' := [.int (iN 1)]) rfl ?_
        refine rw_if_eq (tgt := 29) hx hb dX11_side_16 (by decide) (by decide) (fun c => absurd c (by decide)) (fun _ => ?_)
        refine lv_aload_n hx hb dX11_side_19 rfl (lv_at hl 0 rfl) ?_
        refine rw_iconst hx hb dX11_side_20 ?_
        refine lv_iload_n hx hb dX11_side_21 rfl (lv_at hl 1 rfl) ?_
        refine lv_iload_n hx hb dX11_side_22 rfl (lv_at hl 2 rfl) ?_
        refine rw_callV hx hb hml hts hown hW ⟨Nat.le_refl 0, Nat.le_refl 0⟩ [.int (iN 0), .int (iN 1), .int (iN w)] 0 lm_0 rfl (c_X11_ofSide (l := l) (G := G) (ad := ad) (CA := CA) (nt := nt) (by omega) 0 (by first | omega | decide) 1 (by first | omega | decide) w (by first | omega | decide) M) kX11_156 rfl ⟨Nat.le_of_ble_eq_true rfl, Nat.le_of_ble_eq_true rfl⟩ hl.1 rfl (Nat.le_of_ble_eq_true rfl) dX11_side_23 (fun v16 M17 H locs hp18 hW => ?_)
        obtain ⟨_, rfl, rfl, hp18⟩ := hp18
        rw [hp18] at hW
        refine rw_stk (st' := [.int (iN (sdF (pg M 0) 1 w))]) rfl ?_
        refine lv_goto (tgt := 30) hx hb dX11_side_26 (by decide) ?_
        refine rw_iret hx hb hr hlocks hW dX11_side_30 (⟨sdF (pg M 0) 1 w, rfl, ?_⟩)
        exact ⟨by rw [if_pos (by omega), ansS_k _ (by omega)], rfl⟩
      · refine rw_stk (st' := [.int (iN 0)]) rfl ?_
        refine rw_if_eq (tgt := 29) hx hb dX11_side_16 (by decide) (by decide) (fun _ => ?_) (fun c => absurd (by decide) c)
        refine rw_iconst hx hb dX11_side_29 ?_
        refine rw_iret hx hb hr hlocks hW dX11_side_30 (⟨(-1), rfl, ?_⟩)
        refine ⟨?_, rfl⟩
        first | rw [if_neg (by omega)] | (rw [if_pos (by omega), ansS_o _ (by omega)])
  · refine rw_stk (st' := [.int (iN 0)]) rfl ?_
    refine rw_if_eq (tgt := 29) hx hb dX11_side_4 (by decide) (by decide) (fun _ => ?_) (fun c => absurd (by decide) c)
    refine rw_iconst hx hb dX11_side_29 ?_
    refine rw_iret hx hb hr hlocks hW dX11_side_30 (⟨(-1), rfl, ?_⟩)
    refine ⟨?_, rfl⟩
    first | rw [if_neg (by omega)] | (rw [if_pos (by omega), ansS_o _ (by omega)])
abbrev P_X11_room (i : Int) (v : Int) (M : Mem) : Option Value → Mem → Prop := oI (fun zz MM => (((0 ≤ i ∧ i < pg M 0 47) ∧ 1 ≤ v ∧ v ≤ 12) ∧ zz = pg M 0 (3 * i) ∧ pg MM 0 = setF (pg M 0) (3 * i) v ∧ SameS M MM 0) ∨ (¬ ((0 ≤ i ∧ i < pg M 0 47) ∧ 1 ≤ v ∧ v ≤ 12) ∧ zz = -1 ∧ MM = M))
set_option maxRecDepth 100000 in
set_option maxHeartbeats 4000000 in
theorem c_X11_room {l : Launch} {G : va_G} {ad : Nat → Nat} {CA : Nat → ClassId} {nt : Nat} (hnt : 6 ≤ nt) (i : Int) (hi9 : in32 i) (v : Int) (hv9 : in32 v) (M : Mem) (hI : InvF (pg M 0)) : Mt l yX11_room cX11_room 3 (some .int) 2 46 G ad CA nt LyM [.ref (ad 0), .int (iN i), .int (iN v)] M (P_X11_room i v M) := by
  refine Mt.of (by decide) (Nat.le_of_ble_eq_true rfl) (fun p e s m args below meth c hx hb hr hml hts hown hlocks hnm hW ls hl => ?_)
  have hl : lv_has ls 3 [(0, .ref (ad 0)), (1, .int (iN i)), (2, .int (iN v))] := hl
  have hnt4 : 4 ≤ nt := by omega
  obtain ⟨H, hH⟩ : ∃ z, z = s.heap := ⟨_, rfl⟩
  obtain ⟨locs, hlo⟩ : ∃ z : List Loc, z = [] := ⟨_, rfl⟩
  rw [← hH, ← hlo] at hW ⊢
  have hc := hI.1
  have hk := hI.2.1
  have h47 : pg M 0 47 = M 0 1 := rfl
  have hrr := hI.2.2.1
  have hm := hI.2.2.2.2.1
  have hz0 := InvF.sd _ hI (s := 0) (Or.inl rfl)
  have hz1 := InvF.sd _ hI (s := 1) (Or.inr rfl)
  have hf0 := hz0.1
  have hf1 := hz1.1
  have hq0 := hz0.2.2.2.2.2
  have hq1 := hz1.2.2.2.2.2
  have hg0 := hz0.2.1
  have hg1 := hz1.2.1
  have hg2 := hz0.2.2.1
  have hg3 := hz1.2.2.1
  have hg4 := hz0.2.2.2.1
  have hg5 := hz1.2.2.2.1
  have hg6 := hz0.2.2.2.2.1
  have hg7 := hz1.2.2.2.2.1
  refine lv_aload_n hx hb dX11_room_0 rfl (lv_at hl 0 rfl) ?_
  refine lv_iload_n hx hb dX11_room_1 rfl (lv_at hl 1 rfl) ?_
  refine rw_callV hx hb hml hts hown hW ⟨Nat.le_refl 0, Nat.le_refl 0⟩ [.int (iN i)] 0 lm_0 rfl (c_X11_isCell (l := l) (G := G) (ad := ad) (CA := CA) (nt := nt) (by omega) i (by first | omega | decide) M hc) kX11_142 rfl ⟨Nat.le_of_ble_eq_true rfl, Nat.le_of_ble_eq_true rfl⟩ hl.1 rfl (Nat.le_of_ble_eq_true rfl) dX11_room_2 (fun v1 M2 H locs hp3 hW => ?_)
  obtain ⟨a4, rfl, hp3, hp3m⟩ := hp3
  rw [hp3m] at hW
  rcases hp3 with ⟨rfl, hp3⟩ | ⟨rfl, hp3⟩
  · refine rw_stk (st' := [.int (iN 1)]) rfl ?_
    refine rw_if_eq (tgt := 37) hx hb dX11_room_5 (by decide) (by decide) (fun c => absurd c (by decide)) (fun _ => ?_)
    refine lv_iload_n hx hb dX11_room_8 rfl (lv_at hl 2 rfl) ?_
    refine rw_i2l hx hb dX11_room_9 (by omega) ?_
    refine lv_lconst (v := jN 1) hx hb dX11_room_10 rfl ?_
    refine lv_ldc2 (v := 12) hx hb hown (hts _ (wm_21 _ (List.mem_of_getElem? (i := 18) rfl))) dX11_room_11 ?_
    refine rw_stk (st' := [.long (jN 12), .long (jN 1), .long (jN v)]) (by rw [show (12 : Int64) = jN 12 from by decide]) ?_
    refine rw_callS hx hb hml hts hown hW ⟨Nat.le_refl 0, Nat.le_refl 0⟩ [.long (jN v), .long (jN 1), .long (jN 12)] (c_X11_in (l := l) (G := G) (ad := ad) (CA := CA) (nt := nt) v 1 12 (by first | omega | decide) (by first | omega | decide) (by first | omega | decide) M) kX11_57 rfl ⟨Nat.le_of_ble_eq_true rfl, Nat.le_of_ble_eq_true rfl⟩ hl.1 rfl (Nat.le_of_ble_eq_true rfl) dX11_room_14 (fun v5 M6 H locs hp7 hW => ?_)
    obtain ⟨a8, rfl, hp7, hp7m⟩ := hp7
    rw [hp7m] at hW
    rcases hp7 with ⟨rfl, hp7⟩ | ⟨rfl, hp7⟩
    · refine rw_stk (st' := [.int (iN 1)]) rfl ?_
      refine rw_if_eq (tgt := 37) hx hb dX11_room_17 (by decide) (by decide) (fun c => absurd c (by decide)) (fun _ => ?_)
      refine rw_bipush hx hb dX11_room_20 (by decide) ?_
      refine lv_aload_n hx hb dX11_room_22 rfl (lv_at hl 0 rfl) ?_
      refine rw_iconst hx hb dX11_room_23 ?_
      refine lv_iload_n hx hb dX11_room_24 rfl (lv_at hl 1 rfl) ?_
      refine rw_imul hx hb dX11_room_25 ?_
      refine rw_bipush hx hb dX11_room_26 (by decide) ?_
      refine lv_iload_n hx hb dX11_room_28 rfl (lv_at hl 2 rfl) ?_
      refine rw_isub hx hb dX11_room_29 ?_
      refine rw_callV hx hb hml hts hown hW ⟨Nat.le_refl 0, Nat.le_refl 0⟩ [.int (iN (3 * i)), .int (iN (12 - v))] 0 lm_0 rfl (c_X11_sets (l := l) (G := G) (ad := ad) (CA := CA) (nt := nt) (by omega) (3 * i) (by first | omega | decide) (12 - v) M) kX11_161 rfl ⟨Nat.le_of_ble_eq_true rfl, Nat.le_of_ble_eq_true rfl⟩ hl.1 rfl (Nat.le_of_ble_eq_true rfl) dX11_room_30 (fun v9 M10 H locs hp11 hW => ?_)
      obtain ⟨_, rfl, rfl, hM10⟩ := hp11
      refine rw_stk (st' := [.int (iN (M 1 (3 * i))), .int (iN 12)]) rfl ?_
      refine rw_isub hx hb dX11_room_33 ?_
      refine lv_goto (tgt := 38) hx hb dX11_room_34 (by decide) ?_
      refine rw_iret hx hb hr hlocks hW dX11_room_38 (⟨12 - (M 1 (3 * i)), rfl, ?_⟩)
      refine Or.inl ⟨by omega, ?_, ?_, ?_⟩
      · rw [pg_r M 0 (by omega), Int.zero_add]
      · rw [hM10]; exact pg_put M (i := 3 * i) (by omega) (by omega) (by rw [pgV_r (by omega)]; omega)
      · rw [hM10]; exact SameS.rf.up (by omega)
    · refine rw_stk (st' := [.int (iN 0)]) rfl ?_
      refine rw_if_eq (tgt := 37) hx hb dX11_room_17 (by decide) (by decide) (fun _ => ?_) (fun c => absurd (by decide) c)
      refine rw_iconst hx hb dX11_room_37 ?_
      refine rw_iret hx hb hr hlocks hW dX11_room_38 (⟨(-1), rfl, ?_⟩)
      exact Or.inr ⟨by omega, rfl, rfl⟩
  · refine rw_stk (st' := [.int (iN 0)]) rfl ?_
    refine rw_if_eq (tgt := 37) hx hb dX11_room_5 (by decide) (by decide) (fun _ => ?_) (fun c => absurd (by decide) c)
    refine rw_iconst hx hb dX11_room_37 ?_
    refine rw_iret hx hb hr hlocks hW dX11_room_38 (⟨(-1), rfl, ?_⟩)
    exact Or.inr ⟨by omega, rfl, rfl⟩
abbrev P_X11_slope (i : Int) (v : Int) (M : Mem) : Option Value → Mem → Prop := oI (fun zz MM => (((0 ≤ i ∧ i < pg M 0 47) ∧ 0 ≤ v ∧ v ≤ 6) ∧ zz = pg M 0 (3 * i + 1) ∧ pg MM 0 = setF (pg M 0) (3 * i + 1) v ∧ SameS M MM 0) ∨ (¬ ((0 ≤ i ∧ i < pg M 0 47) ∧ 0 ≤ v ∧ v ≤ 6) ∧ zz = -1 ∧ MM = M))
set_option maxRecDepth 100000 in
set_option maxHeartbeats 4000000 in
theorem c_X11_slope {l : Launch} {G : va_G} {ad : Nat → Nat} {CA : Nat → ClassId} {nt : Nat} (hnt : 6 ≤ nt) (i : Int) (hi9 : in32 i) (v : Int) (hv9 : in32 v) (M : Mem) (hI : InvF (pg M 0)) : Mt l yX11_slope cX11_slope 3 (some .int) 2 46 G ad CA nt LyM [.ref (ad 0), .int (iN i), .int (iN v)] M (P_X11_slope i v M) := by
  refine Mt.of (by decide) (Nat.le_of_ble_eq_true rfl) (fun p e s m args below meth c hx hb hr hml hts hown hlocks hnm hW ls hl => ?_)
  have hl : lv_has ls 3 [(0, .ref (ad 0)), (1, .int (iN i)), (2, .int (iN v))] := hl
  have hnt4 : 4 ≤ nt := by omega
  obtain ⟨H, hH⟩ : ∃ z, z = s.heap := ⟨_, rfl⟩
  obtain ⟨locs, hlo⟩ : ∃ z : List Loc, z = [] := ⟨_, rfl⟩
  rw [← hH, ← hlo] at hW ⊢
  have hc := hI.1
  have hk := hI.2.1
  have h47 : pg M 0 47 = M 0 1 := rfl
  have hrr := hI.2.2.1
  have hm := hI.2.2.2.2.1
  have hz0 := InvF.sd _ hI (s := 0) (Or.inl rfl)
  have hz1 := InvF.sd _ hI (s := 1) (Or.inr rfl)
  have hf0 := hz0.1
  have hf1 := hz1.1
  have hq0 := hz0.2.2.2.2.2
  have hq1 := hz1.2.2.2.2.2
  have hg0 := hz0.2.1
  have hg1 := hz1.2.1
  have hg2 := hz0.2.2.1
  have hg3 := hz1.2.2.1
  have hg4 := hz0.2.2.2.1
  have hg5 := hz1.2.2.2.1
  have hg6 := hz0.2.2.2.2.1
  have hg7 := hz1.2.2.2.2.1
  refine lv_aload_n hx hb dX11_slope_0 rfl (lv_at hl 0 rfl) ?_
  refine lv_iload_n hx hb dX11_slope_1 rfl (lv_at hl 1 rfl) ?_
  refine rw_callV hx hb hml hts hown hW ⟨Nat.le_refl 0, Nat.le_refl 0⟩ [.int (iN i)] 0 lm_0 rfl (c_X11_isCell (l := l) (G := G) (ad := ad) (CA := CA) (nt := nt) (by omega) i (by first | omega | decide) M hc) kX11_142 rfl ⟨Nat.le_of_ble_eq_true rfl, Nat.le_of_ble_eq_true rfl⟩ hl.1 rfl (Nat.le_of_ble_eq_true rfl) dX11_slope_2 (fun v1 M2 H locs hp3 hW => ?_)
  obtain ⟨a4, rfl, hp3, hp3m⟩ := hp3
  rw [hp3m] at hW
  rcases hp3 with ⟨rfl, hp3⟩ | ⟨rfl, hp3⟩
  · refine rw_stk (st' := [.int (iN 1)]) rfl ?_
    refine rw_if_eq (tgt := 37) hx hb dX11_slope_5 (by decide) (by decide) (fun c => absurd c (by decide)) (fun _ => ?_)
    refine lv_iload_n hx hb dX11_slope_8 rfl (lv_at hl 2 rfl) ?_
    refine rw_i2l hx hb dX11_slope_9 (by omega) ?_
    refine lv_lconst (v := jN 0) hx hb dX11_slope_10 rfl ?_
    refine lv_ldc2 (v := 6) hx hb hown (hts _ (wm_22 _ (List.mem_of_getElem? (i := 7) rfl))) dX11_slope_11 ?_
    refine rw_stk (st' := [.long (jN 6), .long (jN 0), .long (jN v)]) (by rw [show (6 : Int64) = jN 6 from by decide]) ?_
    refine rw_callS hx hb hml hts hown hW ⟨Nat.le_refl 0, Nat.le_refl 0⟩ [.long (jN v), .long (jN 0), .long (jN 6)] (c_X11_in (l := l) (G := G) (ad := ad) (CA := CA) (nt := nt) v 0 6 (by first | omega | decide) (by first | omega | decide) (by first | omega | decide) M) kX11_57 rfl ⟨Nat.le_of_ble_eq_true rfl, Nat.le_of_ble_eq_true rfl⟩ hl.1 rfl (Nat.le_of_ble_eq_true rfl) dX11_slope_14 (fun v5 M6 H locs hp7 hW => ?_)
    obtain ⟨a8, rfl, hp7, hp7m⟩ := hp7
    rw [hp7m] at hW
    rcases hp7 with ⟨rfl, hp7⟩ | ⟨rfl, hp7⟩
    · refine rw_stk (st' := [.int (iN 1)]) rfl ?_
      refine rw_if_eq (tgt := 37) hx hb dX11_slope_17 (by decide) (by decide) (fun c => absurd c (by decide)) (fun _ => ?_)
      refine rw_iconst hx hb dX11_slope_20 ?_
      refine lv_aload_n hx hb dX11_slope_21 rfl (lv_at hl 0 rfl) ?_
      refine rw_iconst hx hb dX11_slope_22 ?_
      refine lv_iload_n hx hb dX11_slope_23 rfl (lv_at hl 1 rfl) ?_
      refine rw_imul hx hb dX11_slope_24 ?_
      refine rw_iconst hx hb dX11_slope_25 ?_
      refine rw_iadd hx hb dX11_slope_26 ?_
      refine lv_iload_n hx hb dX11_slope_27 rfl (lv_at hl 2 rfl) ?_
      refine rw_iconst hx hb dX11_slope_28 ?_
      refine rw_isub hx hb dX11_slope_29 ?_
      refine rw_callV hx hb hml hts hown hW ⟨Nat.le_refl 0, Nat.le_refl 0⟩ [.int (iN ((3 * i) + 1)), .int (iN (v - 3))] 0 lm_0 rfl (c_X11_sets (l := l) (G := G) (ad := ad) (CA := CA) (nt := nt) (by omega) ((3 * i) + 1) (by first | omega | decide) (v - 3) M) kX11_161 rfl ⟨Nat.le_of_ble_eq_true rfl, Nat.le_of_ble_eq_true rfl⟩ hl.1 rfl (Nat.le_of_ble_eq_true rfl) dX11_slope_30 (fun v9 M10 H locs hp11 hW => ?_)
      obtain ⟨_, rfl, rfl, hM10⟩ := hp11
      refine rw_stk (st' := [.int (iN (M 1 ((3 * i) + 1))), .int (iN 3)]) rfl ?_
      refine rw_iadd hx hb dX11_slope_33 ?_
      refine lv_goto (tgt := 38) hx hb dX11_slope_34 (by decide) ?_
      refine rw_iret hx hb hr hlocks hW dX11_slope_38 (⟨3 + (M 1 ((3 * i) + 1)), rfl, ?_⟩)
      refine Or.inl ⟨by omega, ?_, ?_, ?_⟩
      · rw [pg_l M 0 (by omega), Int.zero_add]; omega
      · rw [hM10]; exact pg_put M (i := 3 * i + 1) (by omega) (by omega) (by rw [pgV_l (by omega)]; omega)
      · rw [hM10]; exact SameS.rf.up (by omega)
    · refine rw_stk (st' := [.int (iN 0)]) rfl ?_
      refine rw_if_eq (tgt := 37) hx hb dX11_slope_17 (by decide) (by decide) (fun _ => ?_) (fun c => absurd (by decide) c)
      refine rw_iconst hx hb dX11_slope_37 ?_
      refine rw_iret hx hb hr hlocks hW dX11_slope_38 (⟨(-1), rfl, ?_⟩)
      exact Or.inr ⟨by omega, rfl, rfl⟩
  · refine rw_stk (st' := [.int (iN 0)]) rfl ?_
    refine rw_if_eq (tgt := 37) hx hb dX11_slope_5 (by decide) (by decide) (fun _ => ?_) (fun c => absurd (by decide) c)
    refine rw_iconst hx hb dX11_slope_37 ?_
    refine rw_iret hx hb hr hlocks hW dX11_slope_38 (⟨(-1), rfl, ?_⟩)
    exact Or.inr ⟨by omega, rfl, rfl⟩
abbrev P_X11_hedge (i : Int) (v : Int) (M : Mem) : Option Value → Mem → Prop := oI (fun zz MM => (((0 ≤ i ∧ i < pg M 0 47) ∧ 0 ≤ v ∧ v ≤ 9) ∧ zz = pg M 0 (3 * i + 2) ∧ pg MM 0 = setF (pg M 0) (3 * i + 2) v ∧ SameS M MM 0) ∨ (¬ ((0 ≤ i ∧ i < pg M 0 47) ∧ 0 ≤ v ∧ v ≤ 9) ∧ zz = -1 ∧ MM = M))
set_option maxRecDepth 100000 in
set_option maxHeartbeats 4000000 in
theorem c_X11_hedge {l : Launch} {G : va_G} {ad : Nat → Nat} {CA : Nat → ClassId} {nt : Nat} (hnt : 6 ≤ nt) (i : Int) (hi9 : in32 i) (v : Int) (hv9 : in32 v) (M : Mem) (hI : InvF (pg M 0)) : Mt l yX11_hedge cX11_hedge 3 (some .int) 2 46 G ad CA nt LyM [.ref (ad 0), .int (iN i), .int (iN v)] M (P_X11_hedge i v M) := by
  refine Mt.of (by decide) (Nat.le_of_ble_eq_true rfl) (fun p e s m args below meth c hx hb hr hml hts hown hlocks hnm hW ls hl => ?_)
  have hl : lv_has ls 3 [(0, .ref (ad 0)), (1, .int (iN i)), (2, .int (iN v))] := hl
  have hnt4 : 4 ≤ nt := by omega
  obtain ⟨H, hH⟩ : ∃ z, z = s.heap := ⟨_, rfl⟩
  obtain ⟨locs, hlo⟩ : ∃ z : List Loc, z = [] := ⟨_, rfl⟩
  rw [← hH, ← hlo] at hW ⊢
  have hc := hI.1
  have hk := hI.2.1
  have h47 : pg M 0 47 = M 0 1 := rfl
  have hrr := hI.2.2.1
  have hm := hI.2.2.2.2.1
  have hz0 := InvF.sd _ hI (s := 0) (Or.inl rfl)
  have hz1 := InvF.sd _ hI (s := 1) (Or.inr rfl)
  have hf0 := hz0.1
  have hf1 := hz1.1
  have hq0 := hz0.2.2.2.2.2
  have hq1 := hz1.2.2.2.2.2
  have hg0 := hz0.2.1
  have hg1 := hz1.2.1
  have hg2 := hz0.2.2.1
  have hg3 := hz1.2.2.1
  have hg4 := hz0.2.2.2.1
  have hg5 := hz1.2.2.2.1
  have hg6 := hz0.2.2.2.2.1
  have hg7 := hz1.2.2.2.2.1
  refine lv_aload_n hx hb dX11_hedge_0 rfl (lv_at hl 0 rfl) ?_
  refine lv_iload_n hx hb dX11_hedge_1 rfl (lv_at hl 1 rfl) ?_
  refine rw_callV hx hb hml hts hown hW ⟨Nat.le_refl 0, Nat.le_refl 0⟩ [.int (iN i)] 0 lm_0 rfl (c_X11_isCell (l := l) (G := G) (ad := ad) (CA := CA) (nt := nt) (by omega) i (by first | omega | decide) M hc) kX11_142 rfl ⟨Nat.le_of_ble_eq_true rfl, Nat.le_of_ble_eq_true rfl⟩ hl.1 rfl (Nat.le_of_ble_eq_true rfl) dX11_hedge_2 (fun v1 M2 H locs hp3 hW => ?_)
  obtain ⟨a4, rfl, hp3, hp3m⟩ := hp3
  rw [hp3m] at hW
  rcases hp3 with ⟨rfl, hp3⟩ | ⟨rfl, hp3⟩
  · refine rw_stk (st' := [.int (iN 1)]) rfl ?_
    refine rw_if_eq (tgt := 33) hx hb dX11_hedge_5 (by decide) (by decide) (fun c => absurd c (by decide)) (fun _ => ?_)
    refine lv_iload_n hx hb dX11_hedge_8 rfl (lv_at hl 2 rfl) ?_
    refine rw_i2l hx hb dX11_hedge_9 (by omega) ?_
    refine lv_lconst (v := jN 0) hx hb dX11_hedge_10 rfl ?_
    refine lv_ldc2 (v := 9) hx hb hown (hts _ (wm_22 _ (List.mem_of_getElem? (i := 16) rfl))) dX11_hedge_11 ?_
    refine rw_stk (st' := [.long (jN 9), .long (jN 0), .long (jN v)]) (by rw [show (9 : Int64) = jN 9 from by decide]) ?_
    refine rw_callS hx hb hml hts hown hW ⟨Nat.le_refl 0, Nat.le_refl 0⟩ [.long (jN v), .long (jN 0), .long (jN 9)] (c_X11_in (l := l) (G := G) (ad := ad) (CA := CA) (nt := nt) v 0 9 (by first | omega | decide) (by first | omega | decide) (by first | omega | decide) M) kX11_57 rfl ⟨Nat.le_of_ble_eq_true rfl, Nat.le_of_ble_eq_true rfl⟩ hl.1 rfl (Nat.le_of_ble_eq_true rfl) dX11_hedge_14 (fun v5 M6 H locs hp7 hW => ?_)
    obtain ⟨a8, rfl, hp7, hp7m⟩ := hp7
    rw [hp7m] at hW
    rcases hp7 with ⟨rfl, hp7⟩ | ⟨rfl, hp7⟩
    · refine rw_stk (st' := [.int (iN 1)]) rfl ?_
      refine rw_if_eq (tgt := 33) hx hb dX11_hedge_17 (by decide) (by decide) (fun c => absurd c (by decide)) (fun _ => ?_)
      refine lv_aload_n hx hb dX11_hedge_20 rfl (lv_at hl 0 rfl) ?_
      refine rw_iconst hx hb dX11_hedge_21 ?_
      refine lv_iload_n hx hb dX11_hedge_22 rfl (lv_at hl 1 rfl) ?_
      refine rw_imul hx hb dX11_hedge_23 ?_
      refine rw_iconst hx hb dX11_hedge_24 ?_
      refine rw_iadd hx hb dX11_hedge_25 ?_
      refine lv_iload_n hx hb dX11_hedge_26 rfl (lv_at hl 2 rfl) ?_
      refine rw_callV hx hb hml hts hown hW ⟨Nat.le_refl 0, Nat.le_refl 0⟩ [.int (iN ((3 * i) + 2)), .int (iN v)] 0 lm_0 rfl (c_X11_sets (l := l) (G := G) (ad := ad) (CA := CA) (nt := nt) (by omega) ((3 * i) + 2) (by first | omega | decide) v M) kX11_161 rfl ⟨Nat.le_of_ble_eq_true rfl, Nat.le_of_ble_eq_true rfl⟩ hl.1 rfl (Nat.le_of_ble_eq_true rfl) dX11_hedge_27 (fun v9 M10 H locs hp11 hW => ?_)
      obtain ⟨_, rfl, rfl, hM10⟩ := hp11
      refine rw_stk (st' := [.int (iN (M 1 ((3 * i) + 2)))]) rfl ?_
      refine lv_goto (tgt := 34) hx hb dX11_hedge_30 (by decide) ?_
      refine rw_iret hx hb hr hlocks hW dX11_hedge_34 (⟨M 1 ((3 * i) + 2), rfl, ?_⟩)
      refine Or.inl ⟨by omega, ?_, ?_, ?_⟩
      · rw [pg_h M 0 (by omega), Int.zero_add]
      · rw [hM10]; exact pg_put M (i := 3 * i + 2) (by omega) (by omega) (by rw [pgV_h (by omega)])
      · rw [hM10]; exact SameS.rf.up (by omega)
    · refine rw_stk (st' := [.int (iN 0)]) rfl ?_
      refine rw_if_eq (tgt := 33) hx hb dX11_hedge_17 (by decide) (by decide) (fun _ => ?_) (fun c => absurd (by decide) c)
      refine rw_iconst hx hb dX11_hedge_33 ?_
      refine rw_iret hx hb hr hlocks hW dX11_hedge_34 (⟨(-1), rfl, ?_⟩)
      exact Or.inr ⟨by omega, rfl, rfl⟩
  · refine rw_stk (st' := [.int (iN 0)]) rfl ?_
    refine rw_if_eq (tgt := 33) hx hb dX11_hedge_5 (by decide) (by decide) (fun _ => ?_) (fun c => absurd (by decide) c)
    refine rw_iconst hx hb dX11_hedge_33 ?_
    refine rw_iret hx hb hr hlocks hW dX11_hedge_34 (⟨(-1), rfl, ?_⟩)
    exact Or.inr ⟨by omega, rfl, rfl⟩
abbrev P_X11_fool (sx : Int) (v : Int) (M : Mem) : Option Value → Mem → Prop := oI (fun zz MM => (((sx = 0 ∨ sx = 1) ∧ 0 ≤ v ∧ v ≤ 5) ∧ zz = sdF (pg M 0) sx 5 ∧ pg MM 0 = setF (pg M 0) (28 + 8 * sx + 5) v ∧ SameS M MM 0) ∨ (¬ ((sx = 0 ∨ sx = 1) ∧ 0 ≤ v ∧ v ≤ 5) ∧ zz = -1 ∧ MM = M))
set_option maxRecDepth 100000 in
set_option maxHeartbeats 4000000 in
theorem c_X11_fool {l : Launch} {G : va_G} {ad : Nat → Nat} {CA : Nat → ClassId} {nt : Nat} (hnt : 6 ≤ nt) (sx : Int) (hsx9 : in32 sx) (v : Int) (hv9 : in32 v) (M : Mem) : Mt l yX11_fool cX11_fool 3 (some .int) 2 45 G ad CA nt LyM [.ref (ad 0), .int (iN sx), .int (iN v)] M (P_X11_fool sx v M) := by
  refine Mt.of (by decide) (Nat.le_of_ble_eq_true rfl) (fun p e s m args below meth c hx hb hr hml hts hown hlocks hnm hW ls hl => ?_)
  have hl : lv_has ls 3 [(0, .ref (ad 0)), (1, .int (iN sx)), (2, .int (iN v))] := hl
  have hnt4 : 4 ≤ nt := by omega
  obtain ⟨H, hH⟩ : ∃ z, z = s.heap := ⟨_, rfl⟩
  obtain ⟨locs, hlo⟩ : ∃ z : List Loc, z = [] := ⟨_, rfl⟩
  rw [← hH, ← hlo] at hW ⊢
  refine lv_iload_n hx hb dX11_fool_0 rfl (lv_at hl 1 rfl) ?_
  refine rw_callS hx hb hml hts hown hW ⟨Nat.le_refl 0, Nat.le_refl 0⟩ [.int (iN sx)] (c_X11_isSide (l := l) (G := G) (ad := ad) (CA := CA) (nt := nt) sx (by first | omega | decide) M) kX11_151 rfl ⟨Nat.le_of_ble_eq_true rfl, Nat.le_of_ble_eq_true rfl⟩ hl.1 rfl (Nat.le_of_ble_eq_true rfl) dX11_fool_1 (fun v1 M2 H locs hp3 hW => ?_)
  obtain ⟨a4, rfl, hp3, hp3m⟩ := hp3
  rw [hp3m] at hW
  rcases hp3 with ⟨rfl, hp3⟩ | ⟨rfl, hp3⟩
  · rcases hp3 with rfl | rfl
    · refine rw_stk (st' := [.int (iN 1)]) rfl ?_
      refine rw_if_eq (tgt := 36) hx hb dX11_fool_4 (by decide) (by decide) (fun c => absurd c (by decide)) (fun _ => ?_)
      refine lv_iload_n hx hb dX11_fool_7 rfl (lv_at hl 2 rfl) ?_
      refine rw_i2l hx hb dX11_fool_8 (by omega) ?_
      refine lv_lconst (v := jN 0) hx hb dX11_fool_9 rfl ?_
      refine lv_ldc2 (v := 5) hx hb hown (hts _ (wm_23 _ (List.mem_of_getElem? (i := 2) rfl))) dX11_fool_10 ?_
      refine rw_stk (st' := [.long (jN 5), .long (jN 0), .long (jN v)]) (by rw [show (5 : Int64) = jN 5 from by decide]) ?_
      refine rw_callS hx hb hml hts hown hW ⟨Nat.le_refl 0, Nat.le_refl 0⟩ [.long (jN v), .long (jN 0), .long (jN 5)] (c_X11_in (l := l) (G := G) (ad := ad) (CA := CA) (nt := nt) v 0 5 (by first | omega | decide) (by first | omega | decide) (by first | omega | decide) M) kX11_57 rfl ⟨Nat.le_of_ble_eq_true rfl, Nat.le_of_ble_eq_true rfl⟩ hl.1 rfl (Nat.le_of_ble_eq_true rfl) dX11_fool_13 (fun v5 M6 H locs hp7 hW => ?_)
      obtain ⟨a8, rfl, hp7, hp7m⟩ := hp7
      rw [hp7m] at hW
      rcases hp7 with ⟨rfl, hp7⟩ | ⟨rfl, hp7⟩
      · refine rw_stk (st' := [.int (iN 1)]) rfl ?_
        refine rw_if_eq (tgt := 36) hx hb dX11_fool_16 (by decide) (by decide) (fun c => absurd c (by decide)) (fun _ => ?_)
        refine lv_aload_n hx hb dX11_fool_19 rfl (lv_at hl 0 rfl) ?_
        refine rw_bipush hx hb dX11_fool_20 (by decide) ?_
        refine rw_bipush hx hb dX11_fool_22 (by decide) ?_
        refine lv_iload_n hx hb dX11_fool_24 rfl (lv_at hl 1 rfl) ?_
        refine rw_imul hx hb dX11_fool_25 ?_
        refine rw_stk (st' := [.int (iN 0), .int (iN 28), .ref (ad 0)]) rfl ?_
        refine rw_iadd hx hb dX11_fool_26 ?_
        refine rw_stk (st' := [.int (iN 28), .ref (ad 0)]) rfl ?_
        refine rw_iconst hx hb dX11_fool_27 ?_
        refine rw_iadd hx hb dX11_fool_28 ?_
        refine rw_stk (st' := [.int (iN 33), .ref (ad 0)]) rfl ?_
        refine lv_iload_n hx hb dX11_fool_29 rfl (lv_at hl 2 rfl) ?_
        refine rw_callV hx hb hml hts hown hW ⟨Nat.le_refl 0, Nat.le_refl 0⟩ [.int (iN 33), .int (iN v)] 0 lm_0 rfl (c_X11_sets (l := l) (G := G) (ad := ad) (CA := CA) (nt := nt) (by omega) 33 (by first | omega | decide) v M) kX11_161 rfl ⟨Nat.le_of_ble_eq_true rfl, Nat.le_of_ble_eq_true rfl⟩ hl.1 rfl (Nat.le_of_ble_eq_true rfl) dX11_fool_30 (fun v9 M10 H locs hp11 hW => ?_)
        obtain ⟨_, rfl, rfl, hM10⟩ := hp11
        refine rw_stk (st' := [.int (iN (M 1 33))]) rfl ?_
        refine lv_goto (tgt := 37) hx hb dX11_fool_33 (by decide) ?_
        refine rw_iret hx hb hr hlocks hW dX11_fool_37 (⟨M 1 33, rfl, ?_⟩)
        refine Or.inl ⟨by omega, rfl, ?_, ?_⟩
        · rw [hM10]; exact pg_put M (i := 33) (by decide) (by decide) rfl
        · rw [hM10]; exact SameS.rf.up (by decide)
      · refine rw_stk (st' := [.int (iN 0)]) rfl ?_
        refine rw_if_eq (tgt := 36) hx hb dX11_fool_16 (by decide) (by decide) (fun _ => ?_) (fun c => absurd (by decide) c)
        refine rw_iconst hx hb dX11_fool_36 ?_
        refine rw_iret hx hb hr hlocks hW dX11_fool_37 (⟨(-1), rfl, ?_⟩)
        exact Or.inr ⟨by omega, rfl, rfl⟩
    · refine rw_stk (st' := [.int (iN 1)]) rfl ?_
      refine rw_if_eq (tgt := 36) hx hb dX11_fool_4 (by decide) (by decide) (fun c => absurd c (by decide)) (fun _ => ?_)
      refine lv_iload_n hx hb dX11_fool_7 rfl (lv_at hl 2 rfl) ?_
      refine rw_i2l hx hb dX11_fool_8 (by omega) ?_
      refine lv_lconst (v := jN 0) hx hb dX11_fool_9 rfl ?_
      refine lv_ldc2 (v := 5) hx hb hown (hts _ (wm_23 _ (List.mem_of_getElem? (i := 2) rfl))) dX11_fool_10 ?_
      refine rw_stk (st' := [.long (jN 5), .long (jN 0), .long (jN v)]) (by rw [show (5 : Int64) = jN 5 from by decide]) ?_
      refine rw_callS hx hb hml hts hown hW ⟨Nat.le_refl 0, Nat.le_refl 0⟩ [.long (jN v), .long (jN 0), .long (jN 5)] (c_X11_in (l := l) (G := G) (ad := ad) (CA := CA) (nt := nt) v 0 5 (by first | omega | decide) (by first | omega | decide) (by first | omega | decide) M) kX11_57 rfl ⟨Nat.le_of_ble_eq_true rfl, Nat.le_of_ble_eq_true rfl⟩ hl.1 rfl (Nat.le_of_ble_eq_true rfl) dX11_fool_13 (fun v12 M13 H locs hp14 hW => ?_)
      obtain ⟨a15, rfl, hp14, hp14m⟩ := hp14
      rw [hp14m] at hW
      rcases hp14 with ⟨rfl, hp14⟩ | ⟨rfl, hp14⟩
      · refine rw_stk (st' := [.int (iN 1)]) rfl ?_
        refine rw_if_eq (tgt := 36) hx hb dX11_fool_16 (by decide) (by decide) (fun c => absurd c (by decide)) (fun _ => ?_)
        refine lv_aload_n hx hb dX11_fool_19 rfl (lv_at hl 0 rfl) ?_
        refine rw_bipush hx hb dX11_fool_20 (by decide) ?_
        refine rw_bipush hx hb dX11_fool_22 (by decide) ?_
        refine lv_iload_n hx hb dX11_fool_24 rfl (lv_at hl 1 rfl) ?_
        refine rw_imul hx hb dX11_fool_25 ?_
        refine rw_stk (st' := [.int (iN 8), .int (iN 28), .ref (ad 0)]) rfl ?_
        refine rw_iadd hx hb dX11_fool_26 ?_
        refine rw_stk (st' := [.int (iN 36), .ref (ad 0)]) rfl ?_
        refine rw_iconst hx hb dX11_fool_27 ?_
        refine rw_iadd hx hb dX11_fool_28 ?_
        refine rw_stk (st' := [.int (iN 41), .ref (ad 0)]) rfl ?_
        refine lv_iload_n hx hb dX11_fool_29 rfl (lv_at hl 2 rfl) ?_
        refine rw_callV hx hb hml hts hown hW ⟨Nat.le_refl 0, Nat.le_refl 0⟩ [.int (iN 41), .int (iN v)] 0 lm_0 rfl (c_X11_sets (l := l) (G := G) (ad := ad) (CA := CA) (nt := nt) (by omega) 41 (by first | omega | decide) v M) kX11_161 rfl ⟨Nat.le_of_ble_eq_true rfl, Nat.le_of_ble_eq_true rfl⟩ hl.1 rfl (Nat.le_of_ble_eq_true rfl) dX11_fool_30 (fun v16 M17 H locs hp18 hW => ?_)
        obtain ⟨_, rfl, rfl, hM17⟩ := hp18
        refine rw_stk (st' := [.int (iN (M 1 41))]) rfl ?_
        refine lv_goto (tgt := 37) hx hb dX11_fool_33 (by decide) ?_
        refine rw_iret hx hb hr hlocks hW dX11_fool_37 (⟨M 1 41, rfl, ?_⟩)
        refine Or.inl ⟨by omega, rfl, ?_, ?_⟩
        · rw [hM17]; exact pg_put M (i := 41) (by decide) (by decide) rfl
        · rw [hM17]; exact SameS.rf.up (by decide)
      · refine rw_stk (st' := [.int (iN 0)]) rfl ?_
        refine rw_if_eq (tgt := 36) hx hb dX11_fool_16 (by decide) (by decide) (fun _ => ?_) (fun c => absurd (by decide) c)
        refine rw_iconst hx hb dX11_fool_36 ?_
        refine rw_iret hx hb hr hlocks hW dX11_fool_37 (⟨(-1), rfl, ?_⟩)
        exact Or.inr ⟨by omega, rfl, rfl⟩
  · refine rw_stk (st' := [.int (iN 0)]) rfl ?_
    refine rw_if_eq (tgt := 36) hx hb dX11_fool_4 (by decide) (by decide) (fun _ => ?_) (fun c => absurd (by decide) c)
    refine rw_iconst hx hb dX11_fool_36 ?_
    refine rw_iret hx hb hr hlocks hW dX11_fool_37 (⟨(-1), rfl, ?_⟩)
    exact Or.inr ⟨by omega, rfl, rfl⟩
abbrev P_X11_men (sx : Int) (v : Int) (M : Mem) : Option Value → Mem → Prop := oI (fun zz MM => (((sx = 0 ∨ sx = 1) ∧ 0 ≤ v ∧ v ≤ 12 - restS (sdF (pg M 0) sx)) ∧ zz = sdF (pg M 0) sx 0 ∧ pg MM 0 = setF (pg M 0) (28 + 8 * sx + 0) v ∧ SameS M MM 0) ∨ (¬ ((sx = 0 ∨ sx = 1) ∧ 0 ≤ v ∧ v ≤ 12 - restS (sdF (pg M 0) sx)) ∧ zz = -1 ∧ MM = M))
set_option maxRecDepth 100000 in
set_option maxHeartbeats 4000000 in
theorem c_X11_men {l : Launch} {G : va_G} {ad : Nat → Nat} {CA : Nat → ClassId} {nt : Nat} (hnt : 6 ≤ nt) (sx : Int) (hsx9 : in32 sx) (v : Int) (hv9 : in32 v) (M : Mem) (hI : InvF (pg M 0)) : Mt l yX11_men cX11_men 3 (some .int) 2 45 G ad CA nt LyM [.ref (ad 0), .int (iN sx), .int (iN v)] M (P_X11_men sx v M) := by
  refine Mt.of (by decide) (Nat.le_of_ble_eq_true rfl) (fun p e s m args below meth c hx hb hr hml hts hown hlocks hnm hW ls hl => ?_)
  have hl : lv_has ls 3 [(0, .ref (ad 0)), (1, .int (iN sx)), (2, .int (iN v))] := hl
  have hnt4 : 4 ≤ nt := by omega
  obtain ⟨H, hH⟩ : ∃ z, z = s.heap := ⟨_, rfl⟩
  obtain ⟨locs, hlo⟩ : ∃ z : List Loc, z = [] := ⟨_, rfl⟩
  rw [← hH, ← hlo] at hW ⊢
  have hc := hI.1
  have hk := hI.2.1
  have h47 : pg M 0 47 = M 0 1 := rfl
  have hrr := hI.2.2.1
  have hm := hI.2.2.2.2.1
  have hz0 := InvF.sd _ hI (s := 0) (Or.inl rfl)
  have hz1 := InvF.sd _ hI (s := 1) (Or.inr rfl)
  have hf0 := hz0.1
  have hf1 := hz1.1
  have hq0 := hz0.2.2.2.2.2
  have hq1 := hz1.2.2.2.2.2
  have hg0 := hz0.2.1
  have hg1 := hz1.2.1
  have hg2 := hz0.2.2.1
  have hg3 := hz1.2.2.1
  have hg4 := hz0.2.2.2.1
  have hg5 := hz1.2.2.2.1
  have hg6 := hz0.2.2.2.2.1
  have hg7 := hz1.2.2.2.2.1
  have hrs0 := restS_rng hz0
  have hrs1 := restS_rng hz1
  refine lv_iload_n hx hb dX11_men_0 rfl (lv_at hl 1 rfl) ?_
  refine rw_callS hx hb hml hts hown hW ⟨Nat.le_refl 0, Nat.le_refl 0⟩ [.int (iN sx)] (c_X11_isSide (l := l) (G := G) (ad := ad) (CA := CA) (nt := nt) sx (by first | omega | decide) M) kX11_151 rfl ⟨Nat.le_of_ble_eq_true rfl, Nat.le_of_ble_eq_true rfl⟩ hl.1 rfl (Nat.le_of_ble_eq_true rfl) dX11_men_1 (fun v1 M2 H locs hp3 hW => ?_)
  obtain ⟨a4, rfl, hp3, hp3m⟩ := hp3
  rw [hp3m] at hW
  rcases hp3 with ⟨rfl, hp3⟩ | ⟨rfl, hp3⟩
  · rcases hp3 with rfl | rfl
    · refine rw_stk (st' := [.int (iN 1)]) rfl ?_
      refine rw_if_eq (tgt := 51) hx hb dX11_men_4 (by decide) (by decide) (fun c => absurd c (by decide)) (fun _ => ?_)
      refine lv_iload_n hx hb dX11_men_7 rfl (lv_at hl 2 rfl) ?_
      refine rw_i2l hx hb dX11_men_8 (by omega) ?_
      refine lv_lconst (v := jN 0) hx hb dX11_men_9 rfl ?_
      refine rw_bipush hx hb dX11_men_10 (by decide) ?_
      refine lv_aload_n hx hb dX11_men_12 rfl (lv_at hl 0 rfl) ?_
      refine lv_iload_n hx hb dX11_men_13 rfl (lv_at hl 1 rfl) ?_
      refine rw_callS hx hb hml hts hown hW ⟨Nat.le_refl 0, Nat.le_refl 0⟩ [.int (iN 0)] (c_X11_isSide (l := l) (G := G) (ad := ad) (CA := CA) (nt := nt) 0 (by first | omega | decide) M) kX11_151 rfl ⟨Nat.le_of_ble_eq_true rfl, Nat.le_of_ble_eq_true rfl⟩ hl.1 rfl (Nat.le_of_ble_eq_true rfl) dX11_men_14 (fun v5 M6 H locs hp7 hW => ?_)
      obtain ⟨a8, rfl, hp7, hp7m⟩ := hp7
      rw [hp7m] at hW
      rcases hp7 with ⟨rfl, hp7⟩ | ⟨rfl, hp7⟩
      · refine rw_stk (st' := [.int (iN 1), .ref (ad 0), .int (iN 12), .long (jN 0), .long (jN v)]) rfl ?_
        refine rw_if_eq (tgt := 24) hx hb dX11_men_17 (by decide) (by decide) (fun c => absurd c (by decide)) (fun _ => ?_)
        refine lv_iload_n hx hb dX11_men_20 rfl (lv_at hl 1 rfl) ?_
        refine lv_goto (tgt := 25) hx hb dX11_men_21 (by decide) ?_
        refine rw_callV hx hb hml hts hown hW ⟨Nat.le_refl 0, Nat.le_refl 0⟩ [.int (iN 0)] 0 lm_0 rfl (c_X11_resting (l := l) (G := G) (ad := ad) (CA := CA) (nt := nt) (by omega) 0 (by first | omega | decide) M) kX11_170 rfl ⟨Nat.le_of_ble_eq_true rfl, Nat.le_of_ble_eq_true rfl⟩ hl.1 rfl (Nat.le_of_ble_eq_true rfl) dX11_men_25 (fun v9 M10 H locs hp11 hW => ?_)
        obtain ⟨_, rfl, rfl, hp11⟩ := hp11
        rw [hp11] at hW
        refine rw_stk (st' := [.int (iN (restS (sdF (pg M 0) 0))), .int (iN 12), .long (jN 0), .long (jN v)]) rfl ?_
        refine rw_isub hx hb dX11_men_28 ?_
        refine rw_i2l hx hb dX11_men_29 (by omega) ?_
        refine rw_callS hx hb hml hts hown hW ⟨Nat.le_refl 0, Nat.le_refl 0⟩ [.long (jN v), .long (jN 0), .long (jN (12 - (restS (sdF (pg M 0) 0))))] (c_X11_in (l := l) (G := G) (ad := ad) (CA := CA) (nt := nt) v 0 (12 - (restS (sdF (pg M 0) 0))) (by first | omega | decide) (by first | omega | decide) (by first | omega | decide) M) kX11_57 rfl ⟨Nat.le_of_ble_eq_true rfl, Nat.le_of_ble_eq_true rfl⟩ hl.1 rfl (Nat.le_of_ble_eq_true rfl) dX11_men_30 (fun v12 M13 H locs hp14 hW => ?_)
        obtain ⟨a15, rfl, hp14, hp14m⟩ := hp14
        rw [hp14m] at hW
        rcases hp14 with ⟨rfl, hp14⟩ | ⟨rfl, hp14⟩
        · refine rw_stk (st' := [.int (iN 1)]) rfl ?_
          refine rw_if_eq (tgt := 51) hx hb dX11_men_33 (by decide) (by decide) (fun c => absurd c (by decide)) (fun _ => ?_)
          refine lv_aload_n hx hb dX11_men_36 rfl (lv_at hl 0 rfl) ?_
          refine rw_bipush hx hb dX11_men_37 (by decide) ?_
          refine rw_bipush hx hb dX11_men_39 (by decide) ?_
          refine lv_iload_n hx hb dX11_men_41 rfl (lv_at hl 1 rfl) ?_
          refine rw_imul hx hb dX11_men_42 ?_
          refine rw_stk (st' := [.int (iN 0), .int (iN 28), .ref (ad 0)]) rfl ?_
          refine rw_iadd hx hb dX11_men_43 ?_
          refine rw_stk (st' := [.int (iN 28), .ref (ad 0)]) rfl ?_
          refine lv_iload_n hx hb dX11_men_44 rfl (lv_at hl 2 rfl) ?_
          refine rw_callV hx hb hml hts hown hW ⟨Nat.le_refl 0, Nat.le_refl 0⟩ [.int (iN 28), .int (iN v)] 0 lm_0 rfl (c_X11_sets (l := l) (G := G) (ad := ad) (CA := CA) (nt := nt) (by omega) 28 (by first | omega | decide) v M) kX11_161 rfl ⟨Nat.le_of_ble_eq_true rfl, Nat.le_of_ble_eq_true rfl⟩ hl.1 rfl (Nat.le_of_ble_eq_true rfl) dX11_men_45 (fun v16 M17 H locs hp18 hW => ?_)
          obtain ⟨_, rfl, rfl, hM17⟩ := hp18
          refine rw_stk (st' := [.int (iN (M 1 28))]) rfl ?_
          refine lv_goto (tgt := 52) hx hb dX11_men_48 (by decide) ?_
          refine rw_iret hx hb hr hlocks hW dX11_men_52 (⟨M 1 28, rfl, ?_⟩)
          refine Or.inl ⟨by omega, rfl, ?_, ?_⟩
          · rw [hM17]; exact pg_put M (i := 28) (by decide) (by decide) rfl
          · rw [hM17]; exact SameS.rf.up (by decide)
        · refine rw_stk (st' := [.int (iN 0)]) rfl ?_
          refine rw_if_eq (tgt := 51) hx hb dX11_men_33 (by decide) (by decide) (fun _ => ?_) (fun c => absurd (by decide) c)
          refine rw_iconst hx hb dX11_men_51 ?_
          refine rw_iret hx hb hr hlocks hW dX11_men_52 (⟨(-1), rfl, ?_⟩)
          exact Or.inr ⟨by omega, rfl, rfl⟩
      · exfalso; omega
    · refine rw_stk (st' := [.int (iN 1)]) rfl ?_
      refine rw_if_eq (tgt := 51) hx hb dX11_men_4 (by decide) (by decide) (fun c => absurd c (by decide)) (fun _ => ?_)
      refine lv_iload_n hx hb dX11_men_7 rfl (lv_at hl 2 rfl) ?_
      refine rw_i2l hx hb dX11_men_8 (by omega) ?_
      refine lv_lconst (v := jN 0) hx hb dX11_men_9 rfl ?_
      refine rw_bipush hx hb dX11_men_10 (by decide) ?_
      refine lv_aload_n hx hb dX11_men_12 rfl (lv_at hl 0 rfl) ?_
      refine lv_iload_n hx hb dX11_men_13 rfl (lv_at hl 1 rfl) ?_
      refine rw_callS hx hb hml hts hown hW ⟨Nat.le_refl 0, Nat.le_refl 0⟩ [.int (iN 1)] (c_X11_isSide (l := l) (G := G) (ad := ad) (CA := CA) (nt := nt) 1 (by first | omega | decide) M) kX11_151 rfl ⟨Nat.le_of_ble_eq_true rfl, Nat.le_of_ble_eq_true rfl⟩ hl.1 rfl (Nat.le_of_ble_eq_true rfl) dX11_men_14 (fun v19 M20 H locs hp21 hW => ?_)
      obtain ⟨a22, rfl, hp21, hp21m⟩ := hp21
      rw [hp21m] at hW
      rcases hp21 with ⟨rfl, hp21⟩ | ⟨rfl, hp21⟩
      · refine rw_stk (st' := [.int (iN 1), .ref (ad 0), .int (iN 12), .long (jN 0), .long (jN v)]) rfl ?_
        refine rw_if_eq (tgt := 24) hx hb dX11_men_17 (by decide) (by decide) (fun c => absurd c (by decide)) (fun _ => ?_)
        refine lv_iload_n hx hb dX11_men_20 rfl (lv_at hl 1 rfl) ?_
        refine lv_goto (tgt := 25) hx hb dX11_men_21 (by decide) ?_
        refine rw_callV hx hb hml hts hown hW ⟨Nat.le_refl 0, Nat.le_refl 0⟩ [.int (iN 1)] 0 lm_0 rfl (c_X11_resting (l := l) (G := G) (ad := ad) (CA := CA) (nt := nt) (by omega) 1 (by first | omega | decide) M) kX11_170 rfl ⟨Nat.le_of_ble_eq_true rfl, Nat.le_of_ble_eq_true rfl⟩ hl.1 rfl (Nat.le_of_ble_eq_true rfl) dX11_men_25 (fun v23 M24 H locs hp25 hW => ?_)
        obtain ⟨_, rfl, rfl, hp25⟩ := hp25
        rw [hp25] at hW
        refine rw_stk (st' := [.int (iN (restS (sdF (pg M 0) 1))), .int (iN 12), .long (jN 0), .long (jN v)]) rfl ?_
        refine rw_isub hx hb dX11_men_28 ?_
        refine rw_i2l hx hb dX11_men_29 (by omega) ?_
        refine rw_callS hx hb hml hts hown hW ⟨Nat.le_refl 0, Nat.le_refl 0⟩ [.long (jN v), .long (jN 0), .long (jN (12 - (restS (sdF (pg M 0) 1))))] (c_X11_in (l := l) (G := G) (ad := ad) (CA := CA) (nt := nt) v 0 (12 - (restS (sdF (pg M 0) 1))) (by first | omega | decide) (by first | omega | decide) (by first | omega | decide) M) kX11_57 rfl ⟨Nat.le_of_ble_eq_true rfl, Nat.le_of_ble_eq_true rfl⟩ hl.1 rfl (Nat.le_of_ble_eq_true rfl) dX11_men_30 (fun v26 M27 H locs hp28 hW => ?_)
        obtain ⟨a29, rfl, hp28, hp28m⟩ := hp28
        rw [hp28m] at hW
        rcases hp28 with ⟨rfl, hp28⟩ | ⟨rfl, hp28⟩
        · refine rw_stk (st' := [.int (iN 1)]) rfl ?_
          refine rw_if_eq (tgt := 51) hx hb dX11_men_33 (by decide) (by decide) (fun c => absurd c (by decide)) (fun _ => ?_)
          refine lv_aload_n hx hb dX11_men_36 rfl (lv_at hl 0 rfl) ?_
          refine rw_bipush hx hb dX11_men_37 (by decide) ?_
          refine rw_bipush hx hb dX11_men_39 (by decide) ?_
          refine lv_iload_n hx hb dX11_men_41 rfl (lv_at hl 1 rfl) ?_
          refine rw_imul hx hb dX11_men_42 ?_
          refine rw_stk (st' := [.int (iN 8), .int (iN 28), .ref (ad 0)]) rfl ?_
          refine rw_iadd hx hb dX11_men_43 ?_
          refine rw_stk (st' := [.int (iN 36), .ref (ad 0)]) rfl ?_
          refine lv_iload_n hx hb dX11_men_44 rfl (lv_at hl 2 rfl) ?_
          refine rw_callV hx hb hml hts hown hW ⟨Nat.le_refl 0, Nat.le_refl 0⟩ [.int (iN 36), .int (iN v)] 0 lm_0 rfl (c_X11_sets (l := l) (G := G) (ad := ad) (CA := CA) (nt := nt) (by omega) 36 (by first | omega | decide) v M) kX11_161 rfl ⟨Nat.le_of_ble_eq_true rfl, Nat.le_of_ble_eq_true rfl⟩ hl.1 rfl (Nat.le_of_ble_eq_true rfl) dX11_men_45 (fun v30 M31 H locs hp32 hW => ?_)
          obtain ⟨_, rfl, rfl, hM31⟩ := hp32
          refine rw_stk (st' := [.int (iN (M 1 36))]) rfl ?_
          refine lv_goto (tgt := 52) hx hb dX11_men_48 (by decide) ?_
          refine rw_iret hx hb hr hlocks hW dX11_men_52 (⟨M 1 36, rfl, ?_⟩)
          refine Or.inl ⟨by omega, rfl, ?_, ?_⟩
          · rw [hM31]; exact pg_put M (i := 36) (by decide) (by decide) rfl
          · rw [hM31]; exact SameS.rf.up (by decide)
        · refine rw_stk (st' := [.int (iN 0)]) rfl ?_
          refine rw_if_eq (tgt := 51) hx hb dX11_men_33 (by decide) (by decide) (fun _ => ?_) (fun c => absurd (by decide) c)
          refine rw_iconst hx hb dX11_men_51 ?_
          refine rw_iret hx hb hr hlocks hW dX11_men_52 (⟨(-1), rfl, ?_⟩)
          exact Or.inr ⟨by omega, rfl, rfl⟩
      · exfalso; omega
  · refine rw_stk (st' := [.int (iN 0)]) rfl ?_
    refine rw_if_eq (tgt := 51) hx hb dX11_men_4 (by decide) (by decide) (fun _ => ?_) (fun c => absurd (by decide) c)
    refine rw_iconst hx hb dX11_men_51 ?_
    refine rw_iret hx hb hr hlocks hW dX11_men_52 (⟨(-1), rfl, ?_⟩)
    exact Or.inr ⟨by omega, rfl, rfl⟩
abbrev P_X11_captain (sx : Int) (kd : Int) (v : Int) (M : Mem) : Option Value → Mem → Prop := oI (fun zz MM => (((sx = 0 ∨ sx = 1) ∧ (0 ≤ kd ∧ kd ≤ 4) ∧ 0 ≤ v ∧ v ≤ 12) ∧ zz = sdF (pg M 0) sx 6 ∧ pg MM 0 = setF (setF (pg M 0) (28 + 8 * sx + 7) v) (28 + 8 * sx + 6) kd ∧ SameS M MM 0) ∨ (¬ ((sx = 0 ∨ sx = 1) ∧ (0 ≤ kd ∧ kd ≤ 4) ∧ 0 ≤ v ∧ v ≤ 12) ∧ zz = -1 ∧ MM = M))
set_option maxRecDepth 100000 in
set_option maxHeartbeats 4000000 in
theorem c_X11_captain {l : Launch} {G : va_G} {ad : Nat → Nat} {CA : Nat → ClassId} {nt : Nat} (hnt : 6 ≤ nt) (sx : Int) (hsx9 : in32 sx) (kd : Int) (hkd9 : in32 kd) (v : Int) (hv9 : in32 v) (M : Mem) : Mt l yX11_captain cX11_captain 4 (some .int) 2 45 G ad CA nt LyM [.ref (ad 0), .int (iN sx), .int (iN kd), .int (iN v)] M (P_X11_captain sx kd v M) := by
  refine Mt.of (by decide) (Nat.le_of_ble_eq_true rfl) (fun p e s m args below meth c hx hb hr hml hts hown hlocks hnm hW ls hl => ?_)
  have hl : lv_has ls 4 [(0, .ref (ad 0)), (1, .int (iN sx)), (2, .int (iN kd)), (3, .int (iN v))] := hl
  have hnt4 : 4 ≤ nt := by omega
  obtain ⟨H, hH⟩ : ∃ z, z = s.heap := ⟨_, rfl⟩
  obtain ⟨locs, hlo⟩ : ∃ z : List Loc, z = [] := ⟨_, rfl⟩
  rw [← hH, ← hlo] at hW ⊢
  refine lv_iload_n hx hb dX11_captain_0 rfl (lv_at hl 1 rfl) ?_
  refine rw_callS hx hb hml hts hown hW ⟨Nat.le_refl 0, Nat.le_refl 0⟩ [.int (iN sx)] (c_X11_isSide (l := l) (G := G) (ad := ad) (CA := CA) (nt := nt) sx (by first | omega | decide) M) kX11_151 rfl ⟨Nat.le_of_ble_eq_true rfl, Nat.le_of_ble_eq_true rfl⟩ hl.1 rfl (Nat.le_of_ble_eq_true rfl) dX11_captain_1 (fun v1 M2 H locs hp3 hW => ?_)
  obtain ⟨a4, rfl, hp3, hp3m⟩ := hp3
  rw [hp3m] at hW
  rcases hp3 with ⟨rfl, hp3⟩ | ⟨rfl, hp3⟩
  · rcases hp3 with rfl | rfl
    · refine rw_stk (st' := [.int (iN 1)]) rfl ?_
      refine rw_if_eq (tgt := 31) hx hb dX11_captain_4 (by decide) (by decide) (fun c => absurd c (by decide)) (fun _ => ?_)
      refine lv_iload_n hx hb dX11_captain_7 rfl (lv_at hl 2 rfl) ?_
      refine rw_i2l hx hb dX11_captain_8 (by omega) ?_
      refine lv_lconst (v := jN 0) hx hb dX11_captain_9 rfl ?_
      refine lv_ldc2 (v := 4) hx hb hown (hts _ (wm_24 _ (List.mem_of_getElem? (i := 9) rfl))) dX11_captain_10 ?_
      refine rw_stk (st' := [.long (jN 4), .long (jN 0), .long (jN kd)]) (by rw [show (4 : Int64) = jN 4 from by decide]) ?_
      refine rw_callS hx hb hml hts hown hW ⟨Nat.le_refl 0, Nat.le_refl 0⟩ [.long (jN kd), .long (jN 0), .long (jN 4)] (c_X11_in (l := l) (G := G) (ad := ad) (CA := CA) (nt := nt) kd 0 4 (by first | omega | decide) (by first | omega | decide) (by first | omega | decide) M) kX11_57 rfl ⟨Nat.le_of_ble_eq_true rfl, Nat.le_of_ble_eq_true rfl⟩ hl.1 rfl (Nat.le_of_ble_eq_true rfl) dX11_captain_13 (fun v5 M6 H locs hp7 hW => ?_)
      obtain ⟨a8, rfl, hp7, hp7m⟩ := hp7
      rw [hp7m] at hW
      rcases hp7 with ⟨rfl, hp7⟩ | ⟨rfl, hp7⟩
      · refine rw_stk (st' := [.int (iN 1)]) rfl ?_
        refine rw_if_eq (tgt := 31) hx hb dX11_captain_16 (by decide) (by decide) (fun c => absurd c (by decide)) (fun _ => ?_)
        refine lv_iload_n hx hb dX11_captain_19 rfl (lv_at hl 3 rfl) ?_
        refine rw_i2l hx hb dX11_captain_20 (by omega) ?_
        refine lv_lconst (v := jN 0) hx hb dX11_captain_21 rfl ?_
        refine lv_ldc2 (v := 12) hx hb hown (hts _ (wm_21 _ (List.mem_of_getElem? (i := 18) rfl))) dX11_captain_22 ?_
        refine rw_stk (st' := [.long (jN 12), .long (jN 0), .long (jN v)]) (by rw [show (12 : Int64) = jN 12 from by decide]) ?_
        refine rw_callS hx hb hml hts hown hW ⟨Nat.le_refl 0, Nat.le_refl 0⟩ [.long (jN v), .long (jN 0), .long (jN 12)] (c_X11_in (l := l) (G := G) (ad := ad) (CA := CA) (nt := nt) v 0 12 (by first | omega | decide) (by first | omega | decide) (by first | omega | decide) M) kX11_57 rfl ⟨Nat.le_of_ble_eq_true rfl, Nat.le_of_ble_eq_true rfl⟩ hl.1 rfl (Nat.le_of_ble_eq_true rfl) dX11_captain_25 (fun v9 M10 H locs hp11 hW => ?_)
        obtain ⟨a12, rfl, hp11, hp11m⟩ := hp11
        rw [hp11m] at hW
        rcases hp11 with ⟨rfl, hp11⟩ | ⟨rfl, hp11⟩
        · refine rw_stk (st' := [.int (iN 1)]) rfl ?_
          refine rw_if_ne (tgt := 33) hx hb dX11_captain_28 (by decide) (by decide) (fun _ => ?_) (fun c => absurd c (by decide))
          refine lv_aload_n hx hb dX11_captain_33 rfl (lv_at hl 0 rfl) ?_
          refine rw_bipush hx hb dX11_captain_34 (by decide) ?_
          refine rw_bipush hx hb dX11_captain_36 (by decide) ?_
          refine lv_iload_n hx hb dX11_captain_38 rfl (lv_at hl 1 rfl) ?_
          refine rw_imul hx hb dX11_captain_39 ?_
          refine rw_stk (st' := [.int (iN 0), .int (iN 28), .ref (ad 0)]) rfl ?_
          refine rw_iadd hx hb dX11_captain_40 ?_
          refine rw_stk (st' := [.int (iN 28), .ref (ad 0)]) rfl ?_
          refine rw_bipush hx hb dX11_captain_41 (by decide) ?_
          refine rw_iadd hx hb dX11_captain_43 ?_
          refine rw_stk (st' := [.int (iN 35), .ref (ad 0)]) rfl ?_
          refine lv_iload_n hx hb dX11_captain_44 rfl (lv_at hl 3 rfl) ?_
          refine rw_callV hx hb hml hts hown hW ⟨Nat.le_refl 0, Nat.le_refl 0⟩ [.int (iN 35), .int (iN v)] 0 lm_0 rfl (c_X11_sets (l := l) (G := G) (ad := ad) (CA := CA) (nt := nt) (by omega) 35 (by first | omega | decide) v M) kX11_161 rfl ⟨Nat.le_of_ble_eq_true rfl, Nat.le_of_ble_eq_true rfl⟩ hl.1 rfl (Nat.le_of_ble_eq_true rfl) dX11_captain_45 (fun v13 M14 H locs hp15 hW => ?_)
          obtain ⟨_, rfl, rfl, hM14⟩ := hp15
          refine rw_stk (st' := [.int (iN (M 1 35))]) rfl ?_
          refine lv_pop hx hb dX11_captain_48 rfl ?_
          refine lv_aload_n hx hb dX11_captain_49 rfl (lv_at hl 0 rfl) ?_
          refine rw_bipush hx hb dX11_captain_50 (by decide) ?_
          refine rw_bipush hx hb dX11_captain_52 (by decide) ?_
          refine lv_iload_n hx hb dX11_captain_54 rfl (lv_at hl 1 rfl) ?_
          refine rw_imul hx hb dX11_captain_55 ?_
          refine rw_stk (st' := [.int (iN 0), .int (iN 28), .ref (ad 0)]) rfl ?_
          refine rw_iadd hx hb dX11_captain_56 ?_
          refine rw_stk (st' := [.int (iN 28), .ref (ad 0)]) rfl ?_
          refine rw_bipush hx hb dX11_captain_57 (by decide) ?_
          refine rw_iadd hx hb dX11_captain_59 ?_
          refine rw_stk (st' := [.int (iN 34), .ref (ad 0)]) rfl ?_
          refine lv_iload_n hx hb dX11_captain_60 rfl (lv_at hl 2 rfl) ?_
          refine rw_callV hx hb hml hts hown hW ⟨Nat.le_refl 0, Nat.le_refl 0⟩ [.int (iN 34), .int (iN kd)] 0 lm_0 rfl (c_X11_sets (l := l) (G := G) (ad := ad) (CA := CA) (nt := nt) (by omega) 34 (by first | omega | decide) kd M14) kX11_161 rfl ⟨Nat.le_of_ble_eq_true rfl, Nat.le_of_ble_eq_true rfl⟩ hl.1 rfl (Nat.le_of_ble_eq_true rfl) dX11_captain_61 (fun v16 M17 H locs hp18 hW => ?_)
          obtain ⟨_, rfl, rfl, hM17⟩ := hp18
          refine rw_stk (st' := [.int (iN (M14 1 34))]) rfl ?_
          refine rw_iret hx hb hr hlocks hW dX11_captain_64 (⟨M14 1 34, rfl, ?_⟩)
          refine Or.inl ⟨by omega, ?_, ?_, ?_⟩
          · rw [hM14, upd2_ne2 (by decide)]; rfl
          · rw [hM17, pg_put M14 (i := 34) (by decide) (by decide) rfl, hM14, pg_put M (i := 35) (by decide) (by decide) rfl]; rfl
          · rw [hM17, hM14]; exact (SameS.rf.up (by decide)).up (by decide)
        · refine rw_stk (st' := [.int (iN 0)]) rfl ?_
          refine rw_if_ne (tgt := 33) hx hb dX11_captain_28 (by decide) (by decide) (fun c => absurd c (by decide)) (fun _ => ?_)
          refine rw_iconst hx hb dX11_captain_31 ?_
          refine rw_iret hx hb hr hlocks hW dX11_captain_32 (⟨(-1), rfl, ?_⟩)
          exact Or.inr ⟨by omega, rfl, rfl⟩
      · refine rw_stk (st' := [.int (iN 0)]) rfl ?_
        refine rw_if_eq (tgt := 31) hx hb dX11_captain_16 (by decide) (by decide) (fun _ => ?_) (fun c => absurd (by decide) c)
        refine rw_iconst hx hb dX11_captain_31 ?_
        refine rw_iret hx hb hr hlocks hW dX11_captain_32 (⟨(-1), rfl, ?_⟩)
        exact Or.inr ⟨by omega, rfl, rfl⟩
    · refine rw_stk (st' := [.int (iN 1)]) rfl ?_
      refine rw_if_eq (tgt := 31) hx hb dX11_captain_4 (by decide) (by decide) (fun c => absurd c (by decide)) (fun _ => ?_)
      refine lv_iload_n hx hb dX11_captain_7 rfl (lv_at hl 2 rfl) ?_
      refine rw_i2l hx hb dX11_captain_8 (by omega) ?_
      refine lv_lconst (v := jN 0) hx hb dX11_captain_9 rfl ?_
      refine lv_ldc2 (v := 4) hx hb hown (hts _ (wm_24 _ (List.mem_of_getElem? (i := 9) rfl))) dX11_captain_10 ?_
      refine rw_stk (st' := [.long (jN 4), .long (jN 0), .long (jN kd)]) (by rw [show (4 : Int64) = jN 4 from by decide]) ?_
      refine rw_callS hx hb hml hts hown hW ⟨Nat.le_refl 0, Nat.le_refl 0⟩ [.long (jN kd), .long (jN 0), .long (jN 4)] (c_X11_in (l := l) (G := G) (ad := ad) (CA := CA) (nt := nt) kd 0 4 (by first | omega | decide) (by first | omega | decide) (by first | omega | decide) M) kX11_57 rfl ⟨Nat.le_of_ble_eq_true rfl, Nat.le_of_ble_eq_true rfl⟩ hl.1 rfl (Nat.le_of_ble_eq_true rfl) dX11_captain_13 (fun v19 M20 H locs hp21 hW => ?_)
      obtain ⟨a22, rfl, hp21, hp21m⟩ := hp21
      rw [hp21m] at hW
      rcases hp21 with ⟨rfl, hp21⟩ | ⟨rfl, hp21⟩
      · refine rw_stk (st' := [.int (iN 1)]) rfl ?_
        refine rw_if_eq (tgt := 31) hx hb dX11_captain_16 (by decide) (by decide) (fun c => absurd c (by decide)) (fun _ => ?_)
        refine lv_iload_n hx hb dX11_captain_19 rfl (lv_at hl 3 rfl) ?_
        refine rw_i2l hx hb dX11_captain_20 (by omega) ?_
        refine lv_lconst (v := jN 0) hx hb dX11_captain_21 rfl ?_
        refine lv_ldc2 (v := 12) hx hb hown (hts _ (wm_21 _ (List.mem_of_getElem? (i := 18) rfl))) dX11_captain_22 ?_
        refine rw_stk (st' := [.long (jN 12), .long (jN 0), .long (jN v)]) (by rw [show (12 : Int64) = jN 12 from by decide]) ?_
        refine rw_callS hx hb hml hts hown hW ⟨Nat.le_refl 0, Nat.le_refl 0⟩ [.long (jN v), .long (jN 0), .long (jN 12)] (c_X11_in (l := l) (G := G) (ad := ad) (CA := CA) (nt := nt) v 0 12 (by first | omega | decide) (by first | omega | decide) (by first | omega | decide) M) kX11_57 rfl ⟨Nat.le_of_ble_eq_true rfl, Nat.le_of_ble_eq_true rfl⟩ hl.1 rfl (Nat.le_of_ble_eq_true rfl) dX11_captain_25 (fun v23 M24 H locs hp25 hW => ?_)
        obtain ⟨a26, rfl, hp25, hp25m⟩ := hp25
        rw [hp25m] at hW
        rcases hp25 with ⟨rfl, hp25⟩ | ⟨rfl, hp25⟩
        · refine rw_stk (st' := [.int (iN 1)]) rfl ?_
          refine rw_if_ne (tgt := 33) hx hb dX11_captain_28 (by decide) (by decide) (fun _ => ?_) (fun c => absurd c (by decide))
          refine lv_aload_n hx hb dX11_captain_33 rfl (lv_at hl 0 rfl) ?_
          refine rw_bipush hx hb dX11_captain_34 (by decide) ?_
          refine rw_bipush hx hb dX11_captain_36 (by decide) ?_
          refine lv_iload_n hx hb dX11_captain_38 rfl (lv_at hl 1 rfl) ?_
          refine rw_imul hx hb dX11_captain_39 ?_
          refine rw_stk (st' := [.int (iN 8), .int (iN 28), .ref (ad 0)]) rfl ?_
          refine rw_iadd hx hb dX11_captain_40 ?_
          refine rw_stk (st' := [.int (iN 36), .ref (ad 0)]) rfl ?_
          refine rw_bipush hx hb dX11_captain_41 (by decide) ?_
          refine rw_iadd hx hb dX11_captain_43 ?_
          refine rw_stk (st' := [.int (iN 43), .ref (ad 0)]) rfl ?_
          refine lv_iload_n hx hb dX11_captain_44 rfl (lv_at hl 3 rfl) ?_
          refine rw_callV hx hb hml hts hown hW ⟨Nat.le_refl 0, Nat.le_refl 0⟩ [.int (iN 43), .int (iN v)] 0 lm_0 rfl (c_X11_sets (l := l) (G := G) (ad := ad) (CA := CA) (nt := nt) (by omega) 43 (by first | omega | decide) v M) kX11_161 rfl ⟨Nat.le_of_ble_eq_true rfl, Nat.le_of_ble_eq_true rfl⟩ hl.1 rfl (Nat.le_of_ble_eq_true rfl) dX11_captain_45 (fun v27 M28 H locs hp29 hW => ?_)
          obtain ⟨_, rfl, rfl, hM28⟩ := hp29
          refine rw_stk (st' := [.int (iN (M 1 43))]) rfl ?_
          refine lv_pop hx hb dX11_captain_48 rfl ?_
          refine lv_aload_n hx hb dX11_captain_49 rfl (lv_at hl 0 rfl) ?_
          refine rw_bipush hx hb dX11_captain_50 (by decide) ?_
          refine rw_bipush hx hb dX11_captain_52 (by decide) ?_
          refine lv_iload_n hx hb dX11_captain_54 rfl (lv_at hl 1 rfl) ?_
          refine rw_imul hx hb dX11_captain_55 ?_
          refine rw_stk (st' := [.int (iN 8), .int (iN 28), .ref (ad 0)]) rfl ?_
          refine rw_iadd hx hb dX11_captain_56 ?_
          refine rw_stk (st' := [.int (iN 36), .ref (ad 0)]) rfl ?_
          refine rw_bipush hx hb dX11_captain_57 (by decide) ?_
          refine rw_iadd hx hb dX11_captain_59 ?_
          refine rw_stk (st' := [.int (iN 42), .ref (ad 0)]) rfl ?_
          refine lv_iload_n hx hb dX11_captain_60 rfl (lv_at hl 2 rfl) ?_
          refine rw_callV hx hb hml hts hown hW ⟨Nat.le_refl 0, Nat.le_refl 0⟩ [.int (iN 42), .int (iN kd)] 0 lm_0 rfl (c_X11_sets (l := l) (G := G) (ad := ad) (CA := CA) (nt := nt) (by omega) 42 (by first | omega | decide) kd M28) kX11_161 rfl ⟨Nat.le_of_ble_eq_true rfl, Nat.le_of_ble_eq_true rfl⟩ hl.1 rfl (Nat.le_of_ble_eq_true rfl) dX11_captain_61 (fun v30 M31 H locs hp32 hW => ?_)
          obtain ⟨_, rfl, rfl, hM31⟩ := hp32
          refine rw_stk (st' := [.int (iN (M28 1 42))]) rfl ?_
          refine rw_iret hx hb hr hlocks hW dX11_captain_64 (⟨M28 1 42, rfl, ?_⟩)
          refine Or.inl ⟨by omega, ?_, ?_, ?_⟩
          · rw [hM28, upd2_ne2 (by decide)]; rfl
          · rw [hM31, pg_put M28 (i := 42) (by decide) (by decide) rfl, hM28, pg_put M (i := 43) (by decide) (by decide) rfl]; rfl
          · rw [hM31, hM28]; exact (SameS.rf.up (by decide)).up (by decide)
        · refine rw_stk (st' := [.int (iN 0)]) rfl ?_
          refine rw_if_ne (tgt := 33) hx hb dX11_captain_28 (by decide) (by decide) (fun c => absurd c (by decide)) (fun _ => ?_)
          refine rw_iconst hx hb dX11_captain_31 ?_
          refine rw_iret hx hb hr hlocks hW dX11_captain_32 (⟨(-1), rfl, ?_⟩)
          exact Or.inr ⟨by omega, rfl, rfl⟩
      · refine rw_stk (st' := [.int (iN 0)]) rfl ?_
        refine rw_if_eq (tgt := 31) hx hb dX11_captain_16 (by decide) (by decide) (fun _ => ?_) (fun c => absurd (by decide) c)
        refine rw_iconst hx hb dX11_captain_31 ?_
        refine rw_iret hx hb hr hlocks hW dX11_captain_32 (⟨(-1), rfl, ?_⟩)
        exact Or.inr ⟨by omega, rfl, rfl⟩
  · refine rw_stk (st' := [.int (iN 0)]) rfl ?_
    refine rw_if_eq (tgt := 31) hx hb dX11_captain_4 (by decide) (by decide) (fun _ => ?_) (fun c => absurd (by decide) c)
    refine rw_iconst hx hb dX11_captain_31 ?_
    refine rw_iret hx hb hr hlocks hW dX11_captain_32 (⟨(-1), rfl, ?_⟩)
    exact Or.inr ⟨by omega, rfl, rfl⟩
abbrev P_X11_rest (v : Int) (M : Mem) : Option Value → Mem → Prop := oI (fun zz MM => ((1 ≤ v ∧ v ≤ 4) ∧ zz = pg M 0 (44) ∧ pg MM 0 = setF (pg M 0) (44) v ∧ SameS M MM 0) ∨ (¬ (1 ≤ v ∧ v ≤ 4) ∧ zz = -1 ∧ MM = M))
set_option maxRecDepth 100000 in
set_option maxHeartbeats 4000000 in
theorem c_X11_rest {l : Launch} {G : va_G} {ad : Nat → Nat} {CA : Nat → ClassId} {nt : Nat} (hnt : 6 ≤ nt) (v : Int) (hv9 : in32 v) (M : Mem) : Mt l yX11_rest cX11_rest 2 (some .int) 1 25 G ad CA nt LyM [.ref (ad 0), .int (iN v)] M (P_X11_rest v M) := by
  refine Mt.of (by decide) (Nat.le_of_ble_eq_true rfl) (fun p e s m args below meth c hx hb hr hml hts hown hlocks hnm hW ls hl => ?_)
  have hl : lv_has ls 2 [(0, .ref (ad 0)), (1, .int (iN v))] := hl
  have hnt4 : 4 ≤ nt := by omega
  obtain ⟨H, hH⟩ : ∃ z, z = s.heap := ⟨_, rfl⟩
  obtain ⟨locs, hlo⟩ : ∃ z : List Loc, z = [] := ⟨_, rfl⟩
  rw [← hH, ← hlo] at hW ⊢
  refine lv_iload_n hx hb dX11_rest_0 rfl (lv_at hl 1 rfl) ?_
  refine rw_i2l hx hb dX11_rest_1 (by omega) ?_
  refine lv_lconst (v := jN 1) hx hb dX11_rest_2 rfl ?_
  refine lv_ldc2 (v := 4) hx hb hown (hts _ (wm_24 _ (List.mem_of_getElem? (i := 9) rfl))) dX11_rest_3 ?_
  refine rw_stk (st' := [.long (jN 4), .long (jN 1), .long (jN v)]) (by rw [show (4 : Int64) = jN 4 from by decide]) ?_
  refine rw_callS hx hb hml hts hown hW ⟨Nat.le_refl 0, Nat.le_refl 0⟩ [.long (jN v), .long (jN 1), .long (jN 4)] (c_X11_in (l := l) (G := G) (ad := ad) (CA := CA) (nt := nt) v 1 4 (by first | omega | decide) (by first | omega | decide) (by first | omega | decide) M) kX11_57 rfl ⟨Nat.le_of_ble_eq_true rfl, Nat.le_of_ble_eq_true rfl⟩ hl.1 rfl (Nat.le_of_ble_eq_true rfl) dX11_rest_6 (fun v1 M2 H locs hp3 hW => ?_)
  obtain ⟨a4, rfl, hp3, hp3m⟩ := hp3
  rw [hp3m] at hW
  rcases hp3 with ⟨rfl, hp3⟩ | ⟨rfl, hp3⟩
  · refine rw_stk (st' := [.int (iN 1)]) rfl ?_
    refine rw_if_eq (tgt := 26) hx hb dX11_rest_9 (by decide) (by decide) (fun c => absurd c (by decide)) (fun _ => ?_)
    refine rw_iconst hx hb dX11_rest_12 ?_
    refine lv_aload_n hx hb dX11_rest_13 rfl (lv_at hl 0 rfl) ?_
    refine rw_bipush hx hb dX11_rest_14 (by decide) ?_
    refine lv_iload_n hx hb dX11_rest_16 rfl (lv_at hl 1 rfl) ?_
    refine rw_iconst hx hb dX11_rest_17 ?_
    refine rw_isub hx hb dX11_rest_18 ?_
    refine rw_callV hx hb hml hts hown hW ⟨Nat.le_refl 0, Nat.le_refl 0⟩ [.int (iN 44), .int (iN (v - 2))] 0 lm_0 rfl (c_X11_sets (l := l) (G := G) (ad := ad) (CA := CA) (nt := nt) (by omega) 44 (by first | omega | decide) (v - 2) M) kX11_161 rfl ⟨Nat.le_of_ble_eq_true rfl, Nat.le_of_ble_eq_true rfl⟩ hl.1 rfl (Nat.le_of_ble_eq_true rfl) dX11_rest_19 (fun v5 M6 H locs hp7 hW => ?_)
    obtain ⟨_, rfl, rfl, hM6⟩ := hp7
    refine rw_stk (st' := [.int (iN (M 1 44)), .int (iN 2)]) rfl ?_
    refine rw_iadd hx hb dX11_rest_22 ?_
    refine lv_goto (tgt := 27) hx hb dX11_rest_23 (by decide) ?_
    refine rw_iret hx hb hr hlocks hW dX11_rest_27 (⟨2 + (M 1 44), rfl, ?_⟩)
    refine Or.inl ⟨by omega, ?_, ?_, ?_⟩
    · rw [pg_44, Int.zero_add]; omega
    · rw [hM6]; exact pg_put M (i := 44) (by omega) (by omega) (by rw [pgV_44]; omega)
    · rw [hM6]; exact SameS.rf.up (by omega)
  · refine rw_stk (st' := [.int (iN 0)]) rfl ?_
    refine rw_if_eq (tgt := 26) hx hb dX11_rest_9 (by decide) (by decide) (fun _ => ?_) (fun c => absurd (by decide) c)
    refine rw_iconst hx hb dX11_rest_26 ?_
    refine rw_iret hx hb hr hlocks hW dX11_rest_27 (⟨(-1), rfl, ?_⟩)
    exact Or.inr ⟨by omega, rfl, rfl⟩
abbrev P_X11_breaks (v : Int) (M : Mem) : Option Value → Mem → Prop := oI (fun zz MM => ((0 ≤ v ∧ v ≤ 7) ∧ zz = pg M 0 (45) ∧ pg MM 0 = setF (pg M 0) (45) v ∧ SameS M MM 0) ∨ (¬ (0 ≤ v ∧ v ≤ 7) ∧ zz = -1 ∧ MM = M))
set_option maxRecDepth 100000 in
set_option maxHeartbeats 4000000 in
theorem c_X11_breaks {l : Launch} {G : va_G} {ad : Nat → Nat} {CA : Nat → ClassId} {nt : Nat} (hnt : 6 ≤ nt) (v : Int) (hv9 : in32 v) (M : Mem) : Mt l yX11_breaks cX11_breaks 2 (some .int) 1 25 G ad CA nt LyM [.ref (ad 0), .int (iN v)] M (P_X11_breaks v M) := by
  refine Mt.of (by decide) (Nat.le_of_ble_eq_true rfl) (fun p e s m args below meth c hx hb hr hml hts hown hlocks hnm hW ls hl => ?_)
  have hl : lv_has ls 2 [(0, .ref (ad 0)), (1, .int (iN v))] := hl
  have hnt4 : 4 ≤ nt := by omega
  obtain ⟨H, hH⟩ : ∃ z, z = s.heap := ⟨_, rfl⟩
  obtain ⟨locs, hlo⟩ : ∃ z : List Loc, z = [] := ⟨_, rfl⟩
  rw [← hH, ← hlo] at hW ⊢
  refine lv_iload_n hx hb dX11_breaks_0 rfl (lv_at hl 1 rfl) ?_
  refine rw_i2l hx hb dX11_breaks_1 (by omega) ?_
  refine lv_lconst (v := jN 0) hx hb dX11_breaks_2 rfl ?_
  refine lv_ldc2 (v := 7) hx hb hown (hts _ (wm_21 _ (List.mem_of_getElem? (i := 1) rfl))) dX11_breaks_3 ?_
  refine rw_stk (st' := [.long (jN 7), .long (jN 0), .long (jN v)]) (by rw [show (7 : Int64) = jN 7 from by decide]) ?_
  refine rw_callS hx hb hml hts hown hW ⟨Nat.le_refl 0, Nat.le_refl 0⟩ [.long (jN v), .long (jN 0), .long (jN 7)] (c_X11_in (l := l) (G := G) (ad := ad) (CA := CA) (nt := nt) v 0 7 (by first | omega | decide) (by first | omega | decide) (by first | omega | decide) M) kX11_57 rfl ⟨Nat.le_of_ble_eq_true rfl, Nat.le_of_ble_eq_true rfl⟩ hl.1 rfl (Nat.le_of_ble_eq_true rfl) dX11_breaks_6 (fun v1 M2 H locs hp3 hW => ?_)
  obtain ⟨a4, rfl, hp3, hp3m⟩ := hp3
  rw [hp3m] at hW
  rcases hp3 with ⟨rfl, hp3⟩ | ⟨rfl, hp3⟩
  · refine rw_stk (st' := [.int (iN 1)]) rfl ?_
    refine rw_if_eq (tgt := 22) hx hb dX11_breaks_9 (by decide) (by decide) (fun c => absurd c (by decide)) (fun _ => ?_)
    refine lv_aload_n hx hb dX11_breaks_12 rfl (lv_at hl 0 rfl) ?_
    refine rw_bipush hx hb dX11_breaks_13 (by decide) ?_
    refine lv_iload_n hx hb dX11_breaks_15 rfl (lv_at hl 1 rfl) ?_
    refine rw_callV hx hb hml hts hown hW ⟨Nat.le_refl 0, Nat.le_refl 0⟩ [.int (iN 45), .int (iN v)] 0 lm_0 rfl (c_X11_sets (l := l) (G := G) (ad := ad) (CA := CA) (nt := nt) (by omega) 45 (by first | omega | decide) v M) kX11_161 rfl ⟨Nat.le_of_ble_eq_true rfl, Nat.le_of_ble_eq_true rfl⟩ hl.1 rfl (Nat.le_of_ble_eq_true rfl) dX11_breaks_16 (fun v5 M6 H locs hp7 hW => ?_)
    obtain ⟨_, rfl, rfl, hM6⟩ := hp7
    refine rw_stk (st' := [.int (iN (M 1 45))]) rfl ?_
    refine lv_goto (tgt := 23) hx hb dX11_breaks_19 (by decide) ?_
    refine rw_iret hx hb hr hlocks hW dX11_breaks_23 (⟨M 1 45, rfl, ?_⟩)
    refine Or.inl ⟨by omega, ?_, ?_, ?_⟩
    · rfl
    · rw [hM6]; exact pg_put M (i := 45) (by omega) (by omega) (by rw [pgV_raw (by decide)])
    · rw [hM6]; exact SameS.rf.up (by omega)
  · refine rw_stk (st' := [.int (iN 0)]) rfl ?_
    refine rw_if_eq (tgt := 22) hx hb dX11_breaks_9 (by decide) (by decide) (fun _ => ?_) (fun c => absurd (by decide) c)
    refine rw_iconst hx hb dX11_breaks_22 ?_
    refine rw_iret hx hb hr hlocks hW dX11_breaks_23 (⟨(-1), rfl, ?_⟩)
    exact Or.inr ⟨by omega, rfl, rfl⟩
abbrev P_X11_put (i : Int) (M : Mem) : Option Value → Mem → Prop := oI (fun zz MM => ((0 ≤ i ∧ i < pg M 0 47) ∧ zz = pg M 0 (27) ∧ pg MM 0 = setF (pg M 0) (27) i ∧ SameS M MM 0) ∨ (¬ (0 ≤ i ∧ i < pg M 0 47) ∧ zz = -1 ∧ MM = M))
set_option maxRecDepth 100000 in
set_option maxHeartbeats 4000000 in
theorem c_X11_put {l : Launch} {G : va_G} {ad : Nat → Nat} {CA : Nat → ClassId} {nt : Nat} (hnt : 6 ≤ nt) (i : Int) (hi9 : in32 i) (M : Mem) (hI : InvF (pg M 0)) : Mt l yX11_put cX11_put 2 (some .int) 2 46 G ad CA nt LyM [.ref (ad 0), .int (iN i)] M (P_X11_put i M) := by
  refine Mt.of (by decide) (Nat.le_of_ble_eq_true rfl) (fun p e s m args below meth c hx hb hr hml hts hown hlocks hnm hW ls hl => ?_)
  have hl : lv_has ls 2 [(0, .ref (ad 0)), (1, .int (iN i))] := hl
  have hnt4 : 4 ≤ nt := by omega
  obtain ⟨H, hH⟩ : ∃ z, z = s.heap := ⟨_, rfl⟩
  obtain ⟨locs, hlo⟩ : ∃ z : List Loc, z = [] := ⟨_, rfl⟩
  rw [← hH, ← hlo] at hW ⊢
  have hc := hI.1
  have hk := hI.2.1
  have h47 : pg M 0 47 = M 0 1 := rfl
  have hrr := hI.2.2.1
  have hm := hI.2.2.2.2.1
  have hz0 := InvF.sd _ hI (s := 0) (Or.inl rfl)
  have hz1 := InvF.sd _ hI (s := 1) (Or.inr rfl)
  have hf0 := hz0.1
  have hf1 := hz1.1
  have hq0 := hz0.2.2.2.2.2
  have hq1 := hz1.2.2.2.2.2
  have hg0 := hz0.2.1
  have hg1 := hz1.2.1
  have hg2 := hz0.2.2.1
  have hg3 := hz1.2.2.1
  have hg4 := hz0.2.2.2.1
  have hg5 := hz1.2.2.2.1
  have hg6 := hz0.2.2.2.2.1
  have hg7 := hz1.2.2.2.2.1
  refine lv_aload_n hx hb dX11_put_0 rfl (lv_at hl 0 rfl) ?_
  refine lv_iload_n hx hb dX11_put_1 rfl (lv_at hl 1 rfl) ?_
  refine rw_callV hx hb hml hts hown hW ⟨Nat.le_refl 0, Nat.le_refl 0⟩ [.int (iN i)] 0 lm_0 rfl (c_X11_isCell (l := l) (G := G) (ad := ad) (CA := CA) (nt := nt) (by omega) i (by first | omega | decide) M hc) kX11_142 rfl ⟨Nat.le_of_ble_eq_true rfl, Nat.le_of_ble_eq_true rfl⟩ hl.1 rfl (Nat.le_of_ble_eq_true rfl) dX11_put_2 (fun v1 M2 H locs hp3 hW => ?_)
  obtain ⟨a4, rfl, hp3, hp3m⟩ := hp3
  rw [hp3m] at hW
  rcases hp3 with ⟨rfl, hp3⟩ | ⟨rfl, hp3⟩
  · refine rw_stk (st' := [.int (iN 1)]) rfl ?_
    refine rw_if_eq (tgt := 22) hx hb dX11_put_5 (by decide) (by decide) (fun c => absurd c (by decide)) (fun _ => ?_)
    refine rw_iconst hx hb dX11_put_8 ?_
    refine lv_aload_n hx hb dX11_put_9 rfl (lv_at hl 0 rfl) ?_
    refine rw_bipush hx hb dX11_put_10 (by decide) ?_
    refine lv_iload_n hx hb dX11_put_12 rfl (lv_at hl 1 rfl) ?_
    refine rw_iconst hx hb dX11_put_13 ?_
    refine rw_isub hx hb dX11_put_14 ?_
    refine rw_callV hx hb hml hts hown hW ⟨Nat.le_refl 0, Nat.le_refl 0⟩ [.int (iN 27), .int (iN (i - 2))] 0 lm_0 rfl (c_X11_sets (l := l) (G := G) (ad := ad) (CA := CA) (nt := nt) (by omega) 27 (by first | omega | decide) (i - 2) M) kX11_161 rfl ⟨Nat.le_of_ble_eq_true rfl, Nat.le_of_ble_eq_true rfl⟩ hl.1 rfl (Nat.le_of_ble_eq_true rfl) dX11_put_15 (fun v5 M6 H locs hp7 hW => ?_)
    obtain ⟨_, rfl, rfl, hM6⟩ := hp7
    refine rw_stk (st' := [.int (iN (M 1 27)), .int (iN 2)]) rfl ?_
    refine rw_iadd hx hb dX11_put_18 ?_
    refine lv_goto (tgt := 23) hx hb dX11_put_19 (by decide) ?_
    refine rw_iret hx hb hr hlocks hW dX11_put_23 (⟨2 + (M 1 27), rfl, ?_⟩)
    refine Or.inl ⟨by omega, ?_, ?_, ?_⟩
    · rw [pg_27, Int.zero_add]; omega
    · rw [hM6]; exact pg_put M (i := 27) (by omega) (by omega) (by rw [pgV_27]; omega)
    · rw [hM6]; exact SameS.rf.up (by omega)
  · refine rw_stk (st' := [.int (iN 0)]) rfl ?_
    refine rw_if_eq (tgt := 22) hx hb dX11_put_5 (by decide) (by decide) (fun _ => ?_) (fun c => absurd (by decide) c)
    refine rw_iconst hx hb dX11_put_22 ?_
    refine rw_iret hx hb hr hlocks hW dX11_put_23 (⟨(-1), rfl, ?_⟩)
    exact Or.inr ⟨by omega, rfl, rfl⟩
abbrev P_X11_canSend (x : Int) (y : Int) (M : Mem) : Option Value → Mem → Prop := oI (fun zz MM => BP ((0 ≤ x ∧ x ≤ sdF (pg M 0) 0 0) ∧ 0 ≤ y ∧ y ≤ sdF (pg M 0) 1 0) zz ∧ MM = M)
set_option maxRecDepth 100000 in
set_option maxHeartbeats 4000000 in
theorem c_X11_canSend {l : Launch} {G : va_G} {ad : Nat → Nat} {CA : Nat → ClassId} {nt : Nat} (hnt : 6 ≤ nt) (x : Int) (hx9 : in32 x) (y : Int) (hy9 : in32 y) (M : Mem) (hI : InvF (pg M 0)) : Mt l yX11_canSend cX11_canSend 3 (some .boolean) 1 25 G ad CA nt LyM [.ref (ad 0), .int (iN x), .int (iN y)] M (P_X11_canSend x y M) := by
  refine Mt.of (by decide) (Nat.le_of_ble_eq_true rfl) (fun p e s m args below meth c hx hb hr hml hts hown hlocks hnm hW ls hl => ?_)
  have hl : lv_has ls 3 [(0, .ref (ad 0)), (1, .int (iN x)), (2, .int (iN y))] := hl
  have hnt4 : 4 ≤ nt := by omega
  obtain ⟨H, hH⟩ : ∃ z, z = s.heap := ⟨_, rfl⟩
  obtain ⟨locs, hlo⟩ : ∃ z : List Loc, z = [] := ⟨_, rfl⟩
  rw [← hH, ← hlo] at hW ⊢
  have hc := hI.1
  have hk := hI.2.1
  have h47 : pg M 0 47 = M 0 1 := rfl
  have hrr := hI.2.2.1
  have hm := hI.2.2.2.2.1
  have hz0 := InvF.sd _ hI (s := 0) (Or.inl rfl)
  have hz1 := InvF.sd _ hI (s := 1) (Or.inr rfl)
  have hf0 := hz0.1
  have hf1 := hz1.1
  have hq0 := hz0.2.2.2.2.2
  have hq1 := hz1.2.2.2.2.2
  have hg0 := hz0.2.1
  have hg1 := hz1.2.1
  have hg2 := hz0.2.2.1
  have hg3 := hz1.2.2.1
  have hg4 := hz0.2.2.2.1
  have hg5 := hz1.2.2.2.1
  have hg6 := hz0.2.2.2.2.1
  have hg7 := hz1.2.2.2.2.1
  refine lv_iload_n hx hb dX11_canSend_0 rfl (lv_at hl 1 rfl) ?_
  refine rw_i2l hx hb dX11_canSend_1 (by omega) ?_
  refine lv_lconst (v := jN 0) hx hb dX11_canSend_2 rfl ?_
  refine lv_aload_n hx hb dX11_canSend_3 rfl (lv_at hl 0 rfl) ?_
  refine rw_iconst hx hb dX11_canSend_4 ?_
  refine rw_iconst hx hb dX11_canSend_5 ?_
  refine rw_iconst hx hb dX11_canSend_6 ?_
  refine rw_callV hx hb hml hts hown hW ⟨Nat.le_refl 0, Nat.le_refl 0⟩ [.int (iN 0), .int (iN 0), .int (iN 0)] 0 lm_0 rfl (c_X11_ofSide (l := l) (G := G) (ad := ad) (CA := CA) (nt := nt) (by omega) 0 (by first | omega | decide) 0 (by first | omega | decide) 0 (by first | omega | decide) M) kX11_156 rfl ⟨Nat.le_of_ble_eq_true rfl, Nat.le_of_ble_eq_true rfl⟩ hl.1 rfl (Nat.le_of_ble_eq_true rfl) dX11_canSend_7 (fun v1 M2 H locs hp3 hW => ?_)
  obtain ⟨_, rfl, rfl, hp3⟩ := hp3
  rw [hp3] at hW
  refine rw_stk (st' := [.int (iN (sdF (pg M 0) 0 0)), .long (jN 0), .long (jN x)]) rfl ?_
  refine rw_i2l hx hb dX11_canSend_10 (by omega) ?_
  refine rw_callS hx hb hml hts hown hW ⟨Nat.le_refl 0, Nat.le_refl 0⟩ [.long (jN x), .long (jN 0), .long (jN (sdF (pg M 0) 0 0))] (c_X11_in (l := l) (G := G) (ad := ad) (CA := CA) (nt := nt) x 0 (sdF (pg M 0) 0 0) (by first | omega | decide) (by first | omega | decide) (by first | omega | decide) M) kX11_57 rfl ⟨Nat.le_of_ble_eq_true rfl, Nat.le_of_ble_eq_true rfl⟩ hl.1 rfl (Nat.le_of_ble_eq_true rfl) dX11_canSend_11 (fun v4 M5 H locs hp6 hW => ?_)
  obtain ⟨a7, rfl, hp6, hp6m⟩ := hp6
  rw [hp6m] at hW
  rcases hp6 with ⟨rfl, hp6⟩ | ⟨rfl, hp6⟩
  · refine rw_stk (st' := [.int (iN 1)]) rfl ?_
    refine rw_if_eq (tgt := 38) hx hb dX11_canSend_14 (by decide) (by decide) (fun c => absurd c (by decide)) (fun _ => ?_)
    refine lv_iload_n hx hb dX11_canSend_17 rfl (lv_at hl 2 rfl) ?_
    refine rw_i2l hx hb dX11_canSend_18 (by omega) ?_
    refine lv_lconst (v := jN 0) hx hb dX11_canSend_19 rfl ?_
    refine lv_aload_n hx hb dX11_canSend_20 rfl (lv_at hl 0 rfl) ?_
    refine rw_iconst hx hb dX11_canSend_21 ?_
    refine rw_iconst hx hb dX11_canSend_22 ?_
    refine rw_iconst hx hb dX11_canSend_23 ?_
    refine rw_callV hx hb hml hts hown hW ⟨Nat.le_refl 0, Nat.le_refl 0⟩ [.int (iN 0), .int (iN 1), .int (iN 0)] 0 lm_0 rfl (c_X11_ofSide (l := l) (G := G) (ad := ad) (CA := CA) (nt := nt) (by omega) 0 (by first | omega | decide) 1 (by first | omega | decide) 0 (by first | omega | decide) M) kX11_156 rfl ⟨Nat.le_of_ble_eq_true rfl, Nat.le_of_ble_eq_true rfl⟩ hl.1 rfl (Nat.le_of_ble_eq_true rfl) dX11_canSend_24 (fun v8 M9 H locs hp10 hW => ?_)
    obtain ⟨_, rfl, rfl, hp10⟩ := hp10
    rw [hp10] at hW
    refine rw_stk (st' := [.int (iN (sdF (pg M 0) 1 0)), .long (jN 0), .long (jN y)]) rfl ?_
    refine rw_i2l hx hb dX11_canSend_27 (by omega) ?_
    refine rw_callS hx hb hml hts hown hW ⟨Nat.le_refl 0, Nat.le_refl 0⟩ [.long (jN y), .long (jN 0), .long (jN (sdF (pg M 0) 1 0))] (c_X11_in (l := l) (G := G) (ad := ad) (CA := CA) (nt := nt) y 0 (sdF (pg M 0) 1 0) (by first | omega | decide) (by first | omega | decide) (by first | omega | decide) M) kX11_57 rfl ⟨Nat.le_of_ble_eq_true rfl, Nat.le_of_ble_eq_true rfl⟩ hl.1 rfl (Nat.le_of_ble_eq_true rfl) dX11_canSend_28 (fun v11 M12 H locs hp13 hW => ?_)
    obtain ⟨a14, rfl, hp13, hp13m⟩ := hp13
    rw [hp13m] at hW
    rcases hp13 with ⟨rfl, hp13⟩ | ⟨rfl, hp13⟩
    · refine rw_stk (st' := [.int (iN 1)]) rfl ?_
      refine rw_if_eq (tgt := 38) hx hb dX11_canSend_31 (by decide) (by decide) (fun c => absurd c (by decide)) (fun _ => ?_)
      refine rw_iconst hx hb dX11_canSend_34 ?_
      refine lv_goto (tgt := 39) hx hb dX11_canSend_35 (by decide) ?_
      refine rw_zret hx hb hr hlocks hW dX11_canSend_39 (Or.inr rfl) (⟨1, rfl, ?_⟩)
      first | exact ⟨Or.inl ⟨rfl, by omega⟩, rfl⟩ | exact ⟨Or.inr ⟨rfl, by omega⟩, rfl⟩
    · refine rw_stk (st' := [.int (iN 0)]) rfl ?_
      refine rw_if_eq (tgt := 38) hx hb dX11_canSend_31 (by decide) (by decide) (fun _ => ?_) (fun c => absurd (by decide) c)
      refine rw_iconst hx hb dX11_canSend_38 ?_
      refine rw_zret hx hb hr hlocks hW dX11_canSend_39 (Or.inl rfl) (⟨0, rfl, ?_⟩)
      first | exact ⟨Or.inl ⟨rfl, by omega⟩, rfl⟩ | exact ⟨Or.inr ⟨rfl, by omega⟩, rfl⟩
  · refine rw_stk (st' := [.int (iN 0)]) rfl ?_
    refine rw_if_eq (tgt := 38) hx hb dX11_canSend_14 (by decide) (by decide) (fun _ => ?_) (fun c => absurd (by decide) c)
    refine rw_iconst hx hb dX11_canSend_38 ?_
    refine rw_zret hx hb hr hlocks hW dX11_canSend_39 (Or.inl rfl) (⟨0, rfl, ?_⟩)
    first | exact ⟨Or.inl ⟨rfl, by omega⟩, rfl⟩ | exact ⟨Or.inr ⟨rfl, by omega⟩, rfl⟩
abbrev P_X11_sends (sx : Int) (M : Mem) : Option Value → Mem → Prop := oI (fun zz MM => zz = (if sx = 0 ∨ sx = 1 then (if pg M 0 47 ≤ pg M 0 27 then -2 else sentF (pg M 0) sx) else -1) ∧ MM = M)
set_option maxRecDepth 100000 in
set_option maxHeartbeats 4000000 in
theorem c_X11_sends {l : Launch} {G : va_G} {ad : Nat → Nat} {CA : Nat → ClassId} {nt : Nat} (hnt : 6 ≤ nt) (sx : Int) (hsx9 : in32 sx) (M : Mem) (hI : InvF (pg M 0)) : Mt l yX11_sends cX11_sends 2 (some .int) 2 49 G ad CA nt LyM [.ref (ad 0), .int (iN sx)] M (P_X11_sends sx M) := by
  refine Mt.of (by decide) (Nat.le_of_ble_eq_true rfl) (fun p e s m args below meth c hx hb hr hml hts hown hlocks hnm hW ls hl => ?_)
  have hl : lv_has ls 2 [(0, .ref (ad 0)), (1, .int (iN sx))] := hl
  have hnt4 : 4 ≤ nt := by omega
  obtain ⟨H, hH⟩ : ∃ z, z = s.heap := ⟨_, rfl⟩
  obtain ⟨locs, hlo⟩ : ∃ z : List Loc, z = [] := ⟨_, rfl⟩
  rw [← hH, ← hlo] at hW ⊢
  have hc := hI.1
  have hk := hI.2.1
  have h47 : pg M 0 47 = M 0 1 := rfl
  have hrr := hI.2.2.1
  have hm := hI.2.2.2.2.1
  have hz0 := InvF.sd _ hI (s := 0) (Or.inl rfl)
  have hz1 := InvF.sd _ hI (s := 1) (Or.inr rfl)
  have hf0 := hz0.1
  have hf1 := hz1.1
  have hq0 := hz0.2.2.2.2.2
  have hq1 := hz1.2.2.2.2.2
  have hg0 := hz0.2.1
  have hg1 := hz1.2.1
  have hg2 := hz0.2.2.1
  have hg3 := hz1.2.2.1
  have hg4 := hz0.2.2.2.1
  have hg5 := hz1.2.2.2.1
  have hg6 := hz0.2.2.2.2.1
  have hg7 := hz1.2.2.2.2.1
  refine lv_iload_n hx hb dX11_sends_0 rfl (lv_at hl 1 rfl) ?_
  refine rw_callS hx hb hml hts hown hW ⟨Nat.le_refl 0, Nat.le_refl 0⟩ [.int (iN sx)] (c_X11_isSide (l := l) (G := G) (ad := ad) (CA := CA) (nt := nt) sx (by first | omega | decide) M) kX11_151 rfl ⟨Nat.le_of_ble_eq_true rfl, Nat.le_of_ble_eq_true rfl⟩ hl.1 rfl (Nat.le_of_ble_eq_true rfl) dX11_sends_1 (fun v1 M2 H locs hp3 hW => ?_)
  obtain ⟨a4, rfl, hp3, hp3m⟩ := hp3
  rw [hp3m] at hW
  rcases hp3 with ⟨rfl, hp3⟩ | ⟨rfl, hp3⟩
  · rcases hp3 with rfl | rfl
    · refine rw_stk (st' := [.int (iN 1)]) rfl ?_
      refine rw_if_ne (tgt := 11) hx hb dX11_sends_4 (by decide) (by decide) (fun _ => ?_) (fun c => absurd c (by decide))
      refine lv_aload_n hx hb dX11_sends_11 rfl (lv_at hl 0 rfl) ?_
      refine rw_iconst hx hb dX11_sends_12 ?_
      refine rw_callV hx hb hml hts hown hW ⟨Nat.le_refl 0, Nat.le_refl 0⟩ [.int (iN 0)] 0 lm_0 rfl (c_X11_isOver (l := l) (G := G) (ad := ad) (CA := CA) (nt := nt) (by omega) 0 (by first | omega | decide) M hI) kX11_188 rfl ⟨Nat.le_of_ble_eq_true rfl, Nat.le_of_ble_eq_true rfl⟩ hl.1 rfl (Nat.le_of_ble_eq_true rfl) dX11_sends_13 (fun v5 M6 H locs hp7 hW => ?_)
      obtain ⟨a8, rfl, hp7, hp7m⟩ := hp7
      rw [hp7m] at hW
      rcases hp7 with ⟨rfl, hp7⟩ | ⟨rfl, hp7⟩
      · refine rw_stk (st' := [.int (iN 1)]) rfl ?_
        refine rw_if_eq (tgt := 24) hx hb dX11_sends_16 (by decide) (by decide) (fun c => absurd c (by decide)) (fun _ => ?_)
        refine rw_bipush hx hb dX11_sends_19 (by decide) ?_
        refine lv_goto (tgt := 30) hx hb dX11_sends_21 (by decide) ?_
        refine rw_iret hx hb hr hlocks hW dX11_sends_30 (⟨(-2), rfl, ?_⟩)
        refine ⟨?_, rfl⟩
        repeat' split
        all_goals first | rfl | omega
      · refine rw_stk (st' := [.int (iN 0)]) rfl ?_
        refine rw_if_eq (tgt := 24) hx hb dX11_sends_16 (by decide) (by decide) (fun _ => ?_) (fun c => absurd (by decide) c)
        refine lv_aload_n hx hb dX11_sends_24 rfl (lv_at hl 0 rfl) ?_
        refine rw_iconst hx hb dX11_sends_25 ?_
        refine lv_iload_n hx hb dX11_sends_26 rfl (lv_at hl 1 rfl) ?_
        refine rw_callV hx hb hml hts hown hW ⟨Nat.le_refl 0, Nat.le_refl 0⟩ [.int (iN 0), .int (iN 0)] 0 lm_0 rfl (c_X11_sentBy (l := l) (G := G) (ad := ad) (CA := CA) (nt := nt) (by omega) 0 (by first | omega | decide) 0 (by first | omega | decide) M hI) kX11_191 rfl ⟨Nat.le_of_ble_eq_true rfl, Nat.le_of_ble_eq_true rfl⟩ hl.1 rfl (Nat.le_of_ble_eq_true rfl) dX11_sends_27 (fun v9 M10 H locs hp11 hW => ?_)
        obtain ⟨_, rfl, rfl, hp11⟩ := hp11
        rw [hp11] at hW
        refine rw_stk (st' := [.int (iN (sentF (pg M 0) 0))]) rfl ?_
        refine rw_iret hx hb hr hlocks hW dX11_sends_30 (⟨sentF (pg M 0) 0, rfl, ?_⟩)
        refine ⟨?_, rfl⟩
        repeat' split
        all_goals first | rfl | omega
    · refine rw_stk (st' := [.int (iN 1)]) rfl ?_
      refine rw_if_ne (tgt := 11) hx hb dX11_sends_4 (by decide) (by decide) (fun _ => ?_) (fun c => absurd c (by decide))
      refine lv_aload_n hx hb dX11_sends_11 rfl (lv_at hl 0 rfl) ?_
      refine rw_iconst hx hb dX11_sends_12 ?_
      refine rw_callV hx hb hml hts hown hW ⟨Nat.le_refl 0, Nat.le_refl 0⟩ [.int (iN 0)] 0 lm_0 rfl (c_X11_isOver (l := l) (G := G) (ad := ad) (CA := CA) (nt := nt) (by omega) 0 (by first | omega | decide) M hI) kX11_188 rfl ⟨Nat.le_of_ble_eq_true rfl, Nat.le_of_ble_eq_true rfl⟩ hl.1 rfl (Nat.le_of_ble_eq_true rfl) dX11_sends_13 (fun v12 M13 H locs hp14 hW => ?_)
      obtain ⟨a15, rfl, hp14, hp14m⟩ := hp14
      rw [hp14m] at hW
      rcases hp14 with ⟨rfl, hp14⟩ | ⟨rfl, hp14⟩
      · refine rw_stk (st' := [.int (iN 1)]) rfl ?_
        refine rw_if_eq (tgt := 24) hx hb dX11_sends_16 (by decide) (by decide) (fun c => absurd c (by decide)) (fun _ => ?_)
        refine rw_bipush hx hb dX11_sends_19 (by decide) ?_
        refine lv_goto (tgt := 30) hx hb dX11_sends_21 (by decide) ?_
        refine rw_iret hx hb hr hlocks hW dX11_sends_30 (⟨(-2), rfl, ?_⟩)
        refine ⟨?_, rfl⟩
        repeat' split
        all_goals first | rfl | omega
      · refine rw_stk (st' := [.int (iN 0)]) rfl ?_
        refine rw_if_eq (tgt := 24) hx hb dX11_sends_16 (by decide) (by decide) (fun _ => ?_) (fun c => absurd (by decide) c)
        refine lv_aload_n hx hb dX11_sends_24 rfl (lv_at hl 0 rfl) ?_
        refine rw_iconst hx hb dX11_sends_25 ?_
        refine lv_iload_n hx hb dX11_sends_26 rfl (lv_at hl 1 rfl) ?_
        refine rw_callV hx hb hml hts hown hW ⟨Nat.le_refl 0, Nat.le_refl 0⟩ [.int (iN 0), .int (iN 1)] 0 lm_0 rfl (c_X11_sentBy (l := l) (G := G) (ad := ad) (CA := CA) (nt := nt) (by omega) 0 (by first | omega | decide) 1 (by first | omega | decide) M hI) kX11_191 rfl ⟨Nat.le_of_ble_eq_true rfl, Nat.le_of_ble_eq_true rfl⟩ hl.1 rfl (Nat.le_of_ble_eq_true rfl) dX11_sends_27 (fun v16 M17 H locs hp18 hW => ?_)
        obtain ⟨_, rfl, rfl, hp18⟩ := hp18
        rw [hp18] at hW
        refine rw_stk (st' := [.int (iN (sentF (pg M 0) 1))]) rfl ?_
        refine rw_iret hx hb hr hlocks hW dX11_sends_30 (⟨sentF (pg M 0) 1, rfl, ?_⟩)
        refine ⟨?_, rfl⟩
        repeat' split
        all_goals first | rfl | omega
  · refine rw_stk (st' := [.int (iN 0)]) rfl ?_
    refine rw_if_ne (tgt := 11) hx hb dX11_sends_4 (by decide) (by decide) (fun c => absurd c (by decide)) (fun _ => ?_)
    refine rw_iconst hx hb dX11_sends_7 ?_
    refine lv_goto (tgt := 30) hx hb dX11_sends_8 (by decide) ?_
    refine rw_iret hx hb hr hlocks hW dX11_sends_30 (⟨(-1), rfl, ?_⟩)
    refine ⟨?_, rfl⟩
    repeat' split
    all_goals first | rfl | omega
abbrev P_X11_net (x : Int) (y : Int) (M : Mem) : Option Value → Mem → Prop := oI (fun zz MM => zz = (if (0 ≤ x ∧ x ≤ sdF (pg M 0) 0 0) ∧ 0 ≤ y ∧ y ≤ sdF (pg M 0) 1 0 then (if pg M 0 47 ≤ pg M 0 27 then -2 else 100 + netF (pg M 0) x y) else -1) ∧ MM = M)
set_option maxRecDepth 100000 in
set_option maxHeartbeats 4000000 in
theorem c_X11_net {l : Launch} {G : va_G} {ad : Nat → Nat} {CA : Nat → ClassId} {nt : Nat} (hnt : 6 ≤ nt) (x : Int) (hx9 : in32 x) (y : Int) (hy9 : in32 y) (M : Mem) (hI : InvF (pg M 0)) : Mt l yX11_net cX11_net 3 (some .int) 3 71 G ad CA nt LyM [.ref (ad 0), .int (iN x), .int (iN y)] M (P_X11_net x y M) := by
  refine Mt.of (by decide) (Nat.le_of_ble_eq_true rfl) (fun p e s m args below meth c hx hb hr hml hts hown hlocks hnm hW ls hl => ?_)
  have hl : lv_has ls 3 [(0, .ref (ad 0)), (1, .int (iN x)), (2, .int (iN y))] := hl
  have hnt4 : 4 ≤ nt := by omega
  obtain ⟨H, hH⟩ : ∃ z, z = s.heap := ⟨_, rfl⟩
  obtain ⟨locs, hlo⟩ : ∃ z : List Loc, z = [] := ⟨_, rfl⟩
  rw [← hH, ← hlo] at hW ⊢
  have hc := hI.1
  have hk := hI.2.1
  have h47 : pg M 0 47 = M 0 1 := rfl
  have hrr := hI.2.2.1
  have hm := hI.2.2.2.2.1
  have hz0 := InvF.sd _ hI (s := 0) (Or.inl rfl)
  have hz1 := InvF.sd _ hI (s := 1) (Or.inr rfl)
  have hf0 := hz0.1
  have hf1 := hz1.1
  have hq0 := hz0.2.2.2.2.2
  have hq1 := hz1.2.2.2.2.2
  have hg0 := hz0.2.1
  have hg1 := hz1.2.1
  have hg2 := hz0.2.2.1
  have hg3 := hz1.2.2.1
  have hg4 := hz0.2.2.2.1
  have hg5 := hz1.2.2.2.1
  have hg6 := hz0.2.2.2.2.1
  have hg7 := hz1.2.2.2.2.1
  refine lv_aload_n hx hb dX11_net_0 rfl (lv_at hl 0 rfl) ?_
  refine lv_iload_n hx hb dX11_net_1 rfl (lv_at hl 1 rfl) ?_
  refine lv_iload_n hx hb dX11_net_2 rfl (lv_at hl 2 rfl) ?_
  refine rw_callV hx hb hml hts hown hW ⟨Nat.le_refl 0, Nat.le_refl 0⟩ [.int (iN x), .int (iN y)] 0 lm_0 rfl (c_X11_canSend (l := l) (G := G) (ad := ad) (CA := CA) (nt := nt) (by omega) x (by first | omega | decide) y (by first | omega | decide) M hI) kX11_194 rfl ⟨Nat.le_of_ble_eq_true rfl, Nat.le_of_ble_eq_true rfl⟩ hl.1 rfl (Nat.le_of_ble_eq_true rfl) dX11_net_3 (fun v1 M2 H locs hp3 hW => ?_)
  obtain ⟨a4, rfl, hp3, hp3m⟩ := hp3
  rw [hp3m] at hW
  rcases hp3 with ⟨rfl, hp3⟩ | ⟨rfl, hp3⟩
  · refine rw_stk (st' := [.int (iN 1)]) rfl ?_
    refine rw_if_ne (tgt := 13) hx hb dX11_net_6 (by decide) (by decide) (fun _ => ?_) (fun c => absurd c (by decide))
    refine lv_aload_n hx hb dX11_net_13 rfl (lv_at hl 0 rfl) ?_
    refine rw_iconst hx hb dX11_net_14 ?_
    refine rw_callV hx hb hml hts hown hW ⟨Nat.le_refl 0, Nat.le_refl 0⟩ [.int (iN 0)] 0 lm_0 rfl (c_X11_isOver (l := l) (G := G) (ad := ad) (CA := CA) (nt := nt) (by omega) 0 (by first | omega | decide) M hI) kX11_188 rfl ⟨Nat.le_of_ble_eq_true rfl, Nat.le_of_ble_eq_true rfl⟩ hl.1 rfl (Nat.le_of_ble_eq_true rfl) dX11_net_15 (fun v5 M6 H locs hp7 hW => ?_)
    obtain ⟨a8, rfl, hp7, hp7m⟩ := hp7
    rw [hp7m] at hW
    rcases hp7 with ⟨rfl, hp7⟩ | ⟨rfl, hp7⟩
    · refine rw_stk (st' := [.int (iN 1)]) rfl ?_
      refine rw_if_eq (tgt := 26) hx hb dX11_net_18 (by decide) (by decide) (fun c => absurd c (by decide)) (fun _ => ?_)
      refine rw_bipush hx hb dX11_net_21 (by decide) ?_
      refine lv_goto (tgt := 36) hx hb dX11_net_23 (by decide) ?_
      refine rw_iret hx hb hr hlocks hW dX11_net_36 (⟨(-2), rfl, ?_⟩)
      refine ⟨?_, rfl⟩
      repeat' split
      all_goals first | rfl | omega
    · refine rw_stk (st' := [.int (iN 0)]) rfl ?_
      refine rw_if_eq (tgt := 26) hx hb dX11_net_18 (by decide) (by decide) (fun _ => ?_) (fun c => absurd (by decide) c)
      refine rw_bipush hx hb dX11_net_26 (by decide) ?_
      refine lv_aload_n hx hb dX11_net_28 rfl (lv_at hl 0 rfl) ?_
      refine rw_iconst hx hb dX11_net_29 ?_
      refine lv_iload_n hx hb dX11_net_30 rfl (lv_at hl 1 rfl) ?_
      refine lv_iload_n hx hb dX11_net_31 rfl (lv_at hl 2 rfl) ?_
      refine rw_callV hx hb hml hts hown hW ⟨Nat.le_refl 0, Nat.le_refl 0⟩ [.int (iN 0), .int (iN x), .int (iN y)] 0 lm_0 rfl (c_X11_netOf (l := l) (G := G) (ad := ad) (CA := CA) (nt := nt) (by omega) 0 (by first | omega | decide) x y (by first | omega | decide) (by first | omega | decide) M hI (by first | omega | decide)) kX11_178 rfl ⟨Nat.le_of_ble_eq_true rfl, Nat.le_of_ble_eq_true rfl⟩ hl.1 rfl (Nat.le_of_ble_eq_true rfl) dX11_net_32 (fun v9 M10 H locs hp11 hW => ?_)
      obtain ⟨_, rfl, rfl, hp11⟩ := hp11
      rw [hp11] at hW
      refine rw_stk (st' := [.int (iN (netF (pg M 0) x y)), .int (iN 100)]) rfl ?_
      refine rw_iadd hx hb dX11_net_35 ?_
      refine rw_iret hx hb hr hlocks hW dX11_net_36 (⟨100 + (netF (pg M 0) x y), rfl, ?_⟩)
      refine ⟨?_, rfl⟩
      repeat' split
      all_goals first | rfl | omega
  · refine rw_stk (st' := [.int (iN 0)]) rfl ?_
    refine rw_if_ne (tgt := 13) hx hb dX11_net_6 (by decide) (by decide) (fun c => absurd c (by decide)) (fun _ => ?_)
    refine rw_iconst hx hb dX11_net_9 ?_
    refine lv_goto (tgt := 36) hx hb dX11_net_10 (by decide) ?_
    refine rw_iret hx hb hr hlocks hW dX11_net_36 (⟨(-1), rfl, ?_⟩)
    refine ⟨?_, rfl⟩
    repeat' split
    all_goals first | rfl | omega
abbrev P_X11_goes (x : Int) (y : Int) (w : Int) (M : Mem) : Option Value → Mem → Prop := oI (fun zz MM => (refF (pg M 0) x y = 0 ∧ pg MM 0 = passF (pg M 0) x y w ∧ SameS M MM 0 ∧ zz = passF (pg M 0) x y w 27) ∨ (refF (pg M 0) x y ≠ 0 ∧ MM = M ∧ zz = refF (pg M 0) x y))
set_option maxRecDepth 100000 in
set_option maxHeartbeats 4000000 in
theorem c_X11_goes {l : Launch} {G : va_G} {ad : Nat → Nat} {CA : Nat → ClassId} {nt : Nat} (hnt : 6 ≤ nt) (x : Int) (hx9 : in32 x) (y : Int) (hy9 : in32 y) (w : Int) (hw : w = 0 ∨ w = 1) (M : Mem) (hI : InvF (pg M 0)) (hm9 : pg M 0 46 ≤ 999) : Mt l yX11_goes cX11_goes 4 (some .int) 4 99 G ad CA nt LyM [.ref (ad 0), .int (iN x), .int (iN y), .int (iN w)] M (P_X11_goes x y w M) := by
  refine Mt.of (by decide) (Nat.le_of_ble_eq_true rfl) (fun p e s m args below meth c hx hb hr hml hts hown hlocks hnm hW ls hl => ?_)
  have hl : lv_has ls 4 [(0, .ref (ad 0)), (1, .int (iN x)), (2, .int (iN y)), (3, .int (iN w))] := hl
  have hnt4 : 4 ≤ nt := by omega
  obtain ⟨H, hH⟩ : ∃ z, z = s.heap := ⟨_, rfl⟩
  obtain ⟨locs, hlo⟩ : ∃ z : List Loc, z = [] := ⟨_, rfl⟩
  rw [← hH, ← hlo] at hW ⊢
  have hc := hI.1
  have hk := hI.2.1
  have h47 : pg M 0 47 = M 0 1 := rfl
  have hrr := hI.2.2.1
  have hm := hI.2.2.2.2.1
  have hz0 := InvF.sd _ hI (s := 0) (Or.inl rfl)
  have hz1 := InvF.sd _ hI (s := 1) (Or.inr rfl)
  have hf0 := hz0.1
  have hf1 := hz1.1
  have hq0 := hz0.2.2.2.2.2
  have hq1 := hz1.2.2.2.2.2
  have hg0 := hz0.2.1
  have hg1 := hz1.2.1
  have hg2 := hz0.2.2.1
  have hg3 := hz1.2.2.1
  have hg4 := hz0.2.2.2.1
  have hg5 := hz1.2.2.2.1
  have hg6 := hz0.2.2.2.2.1
  have hg7 := hz1.2.2.2.2.1
  have h46 : pg M 0 46 = M 1 46 := by rw [pg_46, Int.zero_add]
  refine lv_aload_n hx hb dX11_goes_0 rfl (lv_at hl 0 rfl) ?_
  refine lv_iload_n hx hb dX11_goes_1 rfl (lv_at hl 1 rfl) ?_
  refine lv_iload_n hx hb dX11_goes_2 rfl (lv_at hl 2 rfl) ?_
  refine rw_callV hx hb hml hts hown hW ⟨Nat.le_refl 0, Nat.le_refl 0⟩ [.int (iN x), .int (iN y)] 0 lm_0 rfl (c_X11_canSend (l := l) (G := G) (ad := ad) (CA := CA) (nt := nt) (by omega) x (by first | omega | decide) y (by first | omega | decide) M hI) kX11_194 rfl ⟨Nat.le_of_ble_eq_true rfl, Nat.le_of_ble_eq_true rfl⟩ hl.1 rfl (Nat.le_of_ble_eq_true rfl) dX11_goes_3 (fun v1 M2 H locs hp3 hW => ?_)
  obtain ⟨a4, rfl, hp3, hp3m⟩ := hp3
  rw [hp3m] at hW
  rcases hp3 with ⟨rfl, hp3⟩ | ⟨rfl, hp3⟩
  · refine rw_stk (st' := [.int (iN 1)]) rfl ?_
    refine rw_if_ne (tgt := 11) hx hb dX11_goes_6 (by decide) (by decide) (fun _ => ?_) (fun c => absurd c (by decide))
    refine lv_aload_n hx hb dX11_goes_11 rfl (lv_at hl 0 rfl) ?_
    refine rw_iconst hx hb dX11_goes_12 ?_
    refine rw_callV hx hb hml hts hown hW ⟨Nat.le_refl 0, Nat.le_refl 0⟩ [.int (iN 0)] 0 lm_0 rfl (c_X11_isOver (l := l) (G := G) (ad := ad) (CA := CA) (nt := nt) (by omega) 0 (by first | omega | decide) M hI) kX11_188 rfl ⟨Nat.le_of_ble_eq_true rfl, Nat.le_of_ble_eq_true rfl⟩ hl.1 rfl (Nat.le_of_ble_eq_true rfl) dX11_goes_13 (fun v5 M6 H locs hp7 hW => ?_)
    obtain ⟨a8, rfl, hp7, hp7m⟩ := hp7
    rw [hp7m] at hW
    rcases hp7 with ⟨rfl, hp7⟩ | ⟨rfl, hp7⟩
    · refine rw_stk (st' := [.int (iN 1)]) rfl ?_
      refine rw_if_eq (tgt := 22) hx hb dX11_goes_16 (by decide) (by decide) (fun c => absurd c (by decide)) (fun _ => ?_)
      refine rw_bipush hx hb dX11_goes_19 (by decide) ?_
      refine rw_iret hx hb hr hlocks hW dX11_goes_21 (⟨(-2), rfl, ?_⟩)
      have e : refF (pg M 0) x y = (-2) := by
        unfold refF
        (repeat' split) <;> omega
      exact Or.inr ⟨by rw [e]; decide, rfl, e.symm⟩
    · refine rw_stk (st' := [.int (iN 0)]) rfl ?_
      refine rw_if_eq (tgt := 22) hx hb dX11_goes_16 (by decide) (by decide) (fun _ => ?_) (fun c => absurd (by decide) c)
      refine lv_aload_n hx hb dX11_goes_22 rfl (lv_at hl 0 rfl) ?_
      refine rw_getR hx hb hts hown hW 0 lm_0 0 1 rfl fX11_7 dX11_goes_23 ?_
      refine rw_bipush hx hb dX11_goes_26 (by decide) ?_
      refine rw_iald hx hb hW hnt4 1 lm_1 (by omega) (by omega) (by decide) dX11_goes_28 (v := (M 1 46)) rfl ?_
      refine rw_sipush hx hb dX11_goes_29 (by decide) ?_
      refine rw_icmp_ne (tgt := 38) hx hb dX11_goes_32 (by decide) (by omega) (by decide) (fun c_32 => ?_) (fun c_32 => ?_)
      · refine lv_aload_n hx hb dX11_goes_38 rfl (lv_at hl 0 rfl) ?_
        refine rw_iconst hx hb dX11_goes_39 ?_
        refine lv_iload_n hx hb dX11_goes_40 rfl (lv_at hl 1 rfl) ?_
        refine lv_iload_n hx hb dX11_goes_41 rfl (lv_at hl 2 rfl) ?_
        refine lv_iload_n hx hb dX11_goes_42 rfl (lv_at hl 3 rfl) ?_
        refine rw_callV hx hb hml hts hown hW ⟨Nat.le_refl 0, Nat.le_refl 0⟩ [.int (iN 0), .int (iN x), .int (iN y), .int (iN w)] 0 lm_0 rfl (c_X11_minutes (l := l) (G := G) (ad := ad) (CA := CA) (nt := nt) (by omega) 0 (by first | omega | decide) x y w (by first | omega | decide) M hI (by first | omega | decide) (by first | omega | decide) (by first | omega | decide)) kX11_198 rfl ⟨Nat.le_of_ble_eq_true rfl, Nat.le_of_ble_eq_true rfl⟩ hl.1 rfl (Nat.le_of_ble_eq_true rfl) dX11_goes_43 (fun v9 M10 H locs hp11 hW => ?_)
        obtain ⟨rfl, hM10⟩ := hp11
        refine rw_stk (st' := []) rfl ?_
        refine lv_aload_n hx hb dX11_goes_46 rfl (lv_at hl 0 rfl) ?_
        refine rw_iconst hx hb dX11_goes_47 ?_
        refine rw_callV hx hb hml hts hown hW ⟨Nat.le_refl 0, Nat.le_refl 0⟩ [.int (iN 0)] 0 lm_0 rfl (c_X11_keg (l := l) (G := G) (ad := ad) (CA := CA) (nt := nt) (by omega) 0 (by first | omega | decide) M10) kX11_146 rfl ⟨Nat.le_of_ble_eq_true rfl, Nat.le_of_ble_eq_true rfl⟩ hl.1 rfl (Nat.le_of_ble_eq_true rfl) dX11_goes_48 (fun v12 M13 H locs hp14 hW => ?_)
        obtain ⟨_, rfl, rfl, hp14⟩ := hp14
        rw [hp14] at hW
        refine rw_stk (st' := [.int (iN (pg M10 0 27))]) rfl ?_
        refine rw_iret hx hb hr hlocks hW dX11_goes_51 (⟨pg M10 0 27, rfl, ?_⟩)
        have e : refF (pg M 0) x y = 0 := by
          unfold refF
          (repeat' split) <;> omega
        exact Or.inl ⟨e, hM10.1, hM10.2, by rw [← hM10.1]⟩
      · refine rw_bipush hx hb dX11_goes_35 (by decide) ?_
        refine rw_iret hx hb hr hlocks hW dX11_goes_37 (⟨(-3), rfl, ?_⟩)
        have e : refF (pg M 0) x y = (-3) := by
          unfold refF
          (repeat' split) <;> omega
        exact Or.inr ⟨by rw [e]; decide, rfl, e.symm⟩
  · refine rw_stk (st' := [.int (iN 0)]) rfl ?_
    refine rw_if_ne (tgt := 11) hx hb dX11_goes_6 (by decide) (by decide) (fun c => absurd c (by decide)) (fun _ => ?_)
    refine rw_iconst hx hb dX11_goes_9 ?_
    refine rw_iret hx hb hr hlocks hW dX11_goes_10 (⟨(-1), rfl, ?_⟩)
    have e : refF (pg M 0) x y = (-1) := by
      unfold refF
      (repeat' split) <;> omega
    exact Or.inr ⟨by rw [e]; decide, rfl, e.symm⟩
abbrev P_X11_go (x : Int) (y : Int) (w : Int) (M : Mem) : Option Value → Mem → Prop := oI (fun zz MM => (refF (pg M 0) x y = 0 ∧ pg MM 0 = passF (pg M 0) x y w ∧ SameS M MM 0 ∧ zz = passF (pg M 0) x y w 27) ∨ (refF (pg M 0) x y ≠ 0 ∧ MM = M ∧ zz = refF (pg M 0) x y))
set_option maxRecDepth 100000 in
set_option maxHeartbeats 4000000 in
theorem c_X11_go {l : Launch} {G : va_G} {ad : Nat → Nat} {CA : Nat → ClassId} {nt : Nat} (hnt : 6 ≤ nt) (x : Int) (hx9 : in32 x) (y : Int) (hy9 : in32 y) (w : Int) (hw : w = 0 ∨ w = 1) (M : Mem) (hI : InvF (pg M 0)) (hm9 : pg M 0 46 ≤ 999) : Mt l yX11_go cX11_go 4 (some .int) 5 122 G ad CA nt LyM [.ref (ad 0), .int (iN x), .int (iN y), .int (iN w)] M (P_X11_go x y w M) := by
  refine Mt.of (by decide) (Nat.le_of_ble_eq_true rfl) (fun p e s m args below meth c hx hb hr hml hts hown hlocks hnm hW ls hl => ?_)
  have hl : lv_has ls 4 [(0, .ref (ad 0)), (1, .int (iN x)), (2, .int (iN y)), (3, .int (iN w))] := hl
  have hnt4 : 4 ≤ nt := by omega
  obtain ⟨H, hH⟩ : ∃ z, z = s.heap := ⟨_, rfl⟩
  obtain ⟨locs, hlo⟩ : ∃ z : List Loc, z = [] := ⟨_, rfl⟩
  rw [← hH, ← hlo] at hW ⊢
  refine lv_aload_n hx hb dX11_go_0 rfl (lv_at hl 0 rfl) ?_
  refine lv_iload_n hx hb dX11_go_1 rfl (lv_at hl 1 rfl) ?_
  refine lv_iload_n hx hb dX11_go_2 rfl (lv_at hl 2 rfl) ?_
  refine lv_iload_n hx hb dX11_go_3 rfl (lv_at hl 3 rfl) ?_
  refine rw_callV hx hb hml hts hown hW ⟨Nat.le_refl 0, Nat.le_refl 0⟩ [.int (iN x), .int (iN y), .int (iN w)] 0 lm_0 rfl (c_X11_goes (l := l) (G := G) (ad := ad) (CA := CA) (nt := nt) (by omega) x (by first | omega | decide) y (by first | omega | decide) w (by first | omega | decide) M hI (by first | omega | decide)) kX11_202 rfl ⟨Nat.le_of_ble_eq_true rfl, Nat.le_of_ble_eq_true rfl⟩ hl.1 rfl (Nat.le_of_ble_eq_true rfl) dX11_go_4 (fun v1 M2 H locs hp3 hW => ?_)
  obtain ⟨a4, rfl, hM2⟩ := hp3
  refine rw_stk (st' := [.int (iN a4)]) rfl ?_
  refine rw_iret hx hb hr hlocks hW dX11_go_7 (⟨a4, rfl, ?_⟩)
  exact hM2
