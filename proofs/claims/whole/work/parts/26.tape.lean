abbrev P_X8_byteAt (i : Int) (M : Mem) : Option Value → Mem → Prop := oI (fun zz MM => zz = byteF (tb M) (M 18 1) i ∧ MM = M)
set_option maxRecDepth 100000 in
set_option maxHeartbeats 4000000 in
theorem c_X8_byteAt {l : Launch} {G : va_G} {ad : Nat → Nat} {CA : Nat → ClassId} {nt : Nat} (hnt : 6 ≤ nt) (i : Int) (hi : in32 i) (M : Mem) (hTp : 0 ≤ M 18 1 ∧ M 18 1 ≤ 320) : Mt l yX8_byteAt cX8_byteAt 2 (some .int) 0 0 G ad CA nt LyK [.ref (ad 18), .int (iN i)] M (P_X8_byteAt i M) := by
  refine Mt.of (by decide) (Nat.le_of_ble_eq_true rfl) (fun p e s m args below meth c hx hb hr hml hts hown hlocks hnm hW ls hl => ?_)
  have hl : lv_has ls 2 [(0, .ref (ad 18)), (1, .int (iN i))] := hl
  have hnt4 : 4 ≤ nt := by omega
  obtain ⟨H, hH⟩ : ∃ z, z = s.heap := ⟨_, rfl⟩
  obtain ⟨locs, hlo⟩ : ∃ z : List Loc, z = [] := ⟨_, rfl⟩
  rw [← hH, ← hlo] at hW ⊢
  refine lv_iload_n hx hb dX8_byteAt_0 rfl (lv_at hl 1 rfl) ?_
  refine rw_if_lt (tgt := 32) hx hb dX8_byteAt_1 (by decide) (by omega) (fun c_1 => ?_) (fun c_1 => ?_)
  · refine rw_iconst hx hb dX8_byteAt_32 ?_
    refine rw_iret hx hb hr hlocks hW dX8_byteAt_33 (⟨(-1), rfl, ?_⟩)
    exact ⟨by rw [byteF, if_neg (by omega)], rfl⟩
  · refine lv_iload_n hx hb dX8_byteAt_4 rfl (lv_at hl 1 rfl) ?_
    refine lv_aload_n hx hb dX8_byteAt_5 rfl (lv_at hl 0 rfl) ?_
    refine rw_getI hx hb hts hown hW 18 lk_18 1 1 rfl rfl fX8_15 dX8_byteAt_6 (v := (M 18 1)) rfl ?_
    refine rw_icmp_ge (tgt := 32) hx hb dX8_byteAt_9 (by decide) (by omega) (by omega) (fun c_9 => ?_) (fun c_9 => ?_)
    · refine rw_iconst hx hb dX8_byteAt_32 ?_
      refine rw_iret hx hb hr hlocks hW dX8_byteAt_33 (⟨(-1), rfl, ?_⟩)
      exact ⟨by rw [byteF, if_neg (by omega)], rfl⟩
    · refine lv_iload_n hx hb dX8_byteAt_12 rfl (lv_at hl 1 rfl) ?_
      refine rw_sipush hx hb dX8_byteAt_13 (by decide) ?_
      refine rw_icmp_ge (tgt := 32) hx hb dX8_byteAt_16 (by decide) (by omega) (by decide) (fun c_16 => ?_) (fun c_16 => ?_)
      · refine rw_iconst hx hb dX8_byteAt_32 ?_
        refine rw_iret hx hb hr hlocks hW dX8_byteAt_33 (⟨(-1), rfl, ?_⟩)
        exact ⟨by rw [byteF, if_neg (by omega)], rfl⟩
      · refine lv_aload_n hx hb dX8_byteAt_19 rfl (lv_at hl 0 rfl) ?_
        refine rw_getR hx hb hts hown hW 18 lk_18 0 19 rfl fX8_9 dX8_byteAt_20 ?_
        refine lv_iload_n hx hb dX8_byteAt_23 rfl (lv_at hl 1 rfl) ?_
        refine rw_bald hx hb hW hnt4 19 lk_19 (by omega) (by omega) (by decide) dX8_byteAt_24 (v := (M 19 i)) rfl ?_
        refine rw_sipush hx hb dX8_byteAt_25 (by decide) ?_
        refine rw_iand hx hb dX8_byteAt_28 ?_
        refine lv_goto (tgt := 33) hx hb dX8_byteAt_29 (by decide) ?_
        refine rw_iret hx hb hr hlocks hW dX8_byteAt_33 (⟨band (M 19 i) 255, rfl, ?_⟩)
        exact ⟨by rw [byteF, if_pos (by omega)]; rfl, rfl⟩
abbrev P_X8_kindOf (x : Int) (M : Mem) : Option Value → Mem → Prop := oI (fun zz MM => zz = kindF x ∧ MM = M)
set_option maxRecDepth 100000 in
set_option maxHeartbeats 4000000 in
theorem c_X8_kindOf {l : Launch} {G : va_G} {ad : Nat → Nat} {CA : Nat → ClassId} {nt : Nat} {Ly : List LD} (x : Int) (hx1 : in32 x) (M : Mem) : Mt l yX8_kindOf cX8_kindOf 1 (some .int) 0 0 G ad CA nt Ly [.int (iN x)] M (P_X8_kindOf x M) := by
  refine Mt.of (by decide) (Nat.le_of_ble_eq_true rfl) (fun p e s m args below meth c hx hb hr hml hts hown hlocks hnm hW ls hl => ?_)
  have hl : lv_has ls 1 [(0, .int (iN x))] := hl
  obtain ⟨H, hH⟩ : ∃ z, z = s.heap := ⟨_, rfl⟩
  obtain ⟨locs, hlo⟩ : ∃ z : List Loc, z = [] := ⟨_, rfl⟩
  rw [← hH, ← hlo] at hW ⊢
  refine lv_iload_n hx hb dX8_kindOf_0 rfl (lv_at hl 0 rfl) ?_
  refine rw_if_ge (tgt := 6) hx hb dX8_kindOf_1 (by decide) (by omega) (fun c_1 => ?_) (fun c_1 => ?_)
  · refine lv_iload_n hx hb dX8_kindOf_6 rfl (lv_at hl 0 rfl) ?_
    refine rw_bipush hx hb dX8_kindOf_7 (by decide) ?_
    refine rw_icmp_lt (tgt := 20) hx hb dX8_kindOf_9 (by decide) (by omega) (by decide) (fun c_9 => ?_) (fun c_9 => ?_)
    · refine lv_iload_n hx hb dX8_kindOf_20 rfl (lv_at hl 0 rfl) ?_
      refine rw_bipush hx hb dX8_kindOf_21 (by decide) ?_
      refine rw_icmp_lt (tgt := 34) hx hb dX8_kindOf_23 (by decide) (by omega) (by decide) (fun c_23 => ?_) (fun c_23 => ?_)
      · refine lv_iload_n hx hb dX8_kindOf_34 rfl (lv_at hl 0 rfl) ?_
        refine rw_bipush hx hb dX8_kindOf_35 (by decide) ?_
        refine rw_icmp_ne (tgt := 44) hx hb dX8_kindOf_37 (by decide) (by omega) (by decide) (fun c_37 => ?_) (fun c_37 => ?_)
        · refine rw_iconst hx hb dX8_kindOf_44 ?_
          refine rw_iret hx hb hr hlocks hW dX8_kindOf_45 (⟨4, rfl, ?_⟩)
          exact ⟨by unfold kindF; (repeat' split) <;> omega, rfl⟩
        · refine rw_iconst hx hb dX8_kindOf_40 ?_
          refine lv_goto (tgt := 45) hx hb dX8_kindOf_41 (by decide) ?_
          refine rw_iret hx hb hr hlocks hW dX8_kindOf_45 (⟨3, rfl, ?_⟩)
          exact ⟨by unfold kindF; (repeat' split) <;> omega, rfl⟩
      · refine lv_iload_n hx hb dX8_kindOf_26 rfl (lv_at hl 0 rfl) ?_
        refine rw_bipush hx hb dX8_kindOf_27 (by decide) ?_
        refine rw_icmp_gt (tgt := 34) hx hb dX8_kindOf_29 (by decide) (by omega) (by decide) (fun c_29 => ?_) (fun c_29 => ?_)
        · refine lv_iload_n hx hb dX8_kindOf_34 rfl (lv_at hl 0 rfl) ?_
          refine rw_bipush hx hb dX8_kindOf_35 (by decide) ?_
          refine rw_icmp_ne (tgt := 44) hx hb dX8_kindOf_37 (by decide) (by omega) (by decide) (fun c_37 => ?_) (fun c_37 => ?_)
          · refine rw_iconst hx hb dX8_kindOf_44 ?_
            refine rw_iret hx hb hr hlocks hW dX8_kindOf_45 (⟨4, rfl, ?_⟩)
            exact ⟨by unfold kindF; (repeat' split) <;> omega, rfl⟩
          · refine rw_iconst hx hb dX8_kindOf_40 ?_
            refine lv_goto (tgt := 45) hx hb dX8_kindOf_41 (by decide) ?_
            refine rw_iret hx hb hr hlocks hW dX8_kindOf_45 (⟨3, rfl, ?_⟩)
            exact ⟨by unfold kindF; (repeat' split) <;> omega, rfl⟩
        · refine rw_iconst hx hb dX8_kindOf_32 ?_
          refine rw_iret hx hb hr hlocks hW dX8_kindOf_33 (⟨2, rfl, ?_⟩)
          exact ⟨by unfold kindF; (repeat' split) <;> omega, rfl⟩
    · refine lv_iload_n hx hb dX8_kindOf_12 rfl (lv_at hl 0 rfl) ?_
      refine rw_bipush hx hb dX8_kindOf_13 (by decide) ?_
      refine rw_icmp_gt (tgt := 20) hx hb dX8_kindOf_15 (by decide) (by omega) (by decide) (fun c_15 => ?_) (fun c_15 => ?_)
      · refine lv_iload_n hx hb dX8_kindOf_20 rfl (lv_at hl 0 rfl) ?_
        refine rw_bipush hx hb dX8_kindOf_21 (by decide) ?_
        refine rw_icmp_lt (tgt := 34) hx hb dX8_kindOf_23 (by decide) (by omega) (by decide) (fun c_23 => ?_) (fun c_23 => ?_)
        · refine lv_iload_n hx hb dX8_kindOf_34 rfl (lv_at hl 0 rfl) ?_
          refine rw_bipush hx hb dX8_kindOf_35 (by decide) ?_
          refine rw_icmp_ne (tgt := 44) hx hb dX8_kindOf_37 (by decide) (by omega) (by decide) (fun c_37 => ?_) (fun c_37 => ?_)
          · refine rw_iconst hx hb dX8_kindOf_44 ?_
            refine rw_iret hx hb hr hlocks hW dX8_kindOf_45 (⟨4, rfl, ?_⟩)
            exact ⟨by unfold kindF; (repeat' split) <;> omega, rfl⟩
          · refine rw_iconst hx hb dX8_kindOf_40 ?_
            refine lv_goto (tgt := 45) hx hb dX8_kindOf_41 (by decide) ?_
            refine rw_iret hx hb hr hlocks hW dX8_kindOf_45 (⟨3, rfl, ?_⟩)
            exact ⟨by unfold kindF; (repeat' split) <;> omega, rfl⟩
        · refine lv_iload_n hx hb dX8_kindOf_26 rfl (lv_at hl 0 rfl) ?_
          refine rw_bipush hx hb dX8_kindOf_27 (by decide) ?_
          refine rw_icmp_gt (tgt := 34) hx hb dX8_kindOf_29 (by decide) (by omega) (by decide) (fun c_29 => ?_) (fun c_29 => ?_)
          · refine lv_iload_n hx hb dX8_kindOf_34 rfl (lv_at hl 0 rfl) ?_
            refine rw_bipush hx hb dX8_kindOf_35 (by decide) ?_
            refine rw_icmp_ne (tgt := 44) hx hb dX8_kindOf_37 (by decide) (by omega) (by decide) (fun c_37 => ?_) (fun c_37 => ?_)
            · refine rw_iconst hx hb dX8_kindOf_44 ?_
              refine rw_iret hx hb hr hlocks hW dX8_kindOf_45 (⟨4, rfl, ?_⟩)
              exact ⟨by unfold kindF; (repeat' split) <;> omega, rfl⟩
            · refine rw_iconst hx hb dX8_kindOf_40 ?_
              refine lv_goto (tgt := 45) hx hb dX8_kindOf_41 (by decide) ?_
              refine rw_iret hx hb hr hlocks hW dX8_kindOf_45 (⟨3, rfl, ?_⟩)
              exact ⟨by unfold kindF; (repeat' split) <;> omega, rfl⟩
          · refine rw_iconst hx hb dX8_kindOf_32 ?_
            refine rw_iret hx hb hr hlocks hW dX8_kindOf_33 (⟨2, rfl, ?_⟩)
            exact ⟨by unfold kindF; (repeat' split) <;> omega, rfl⟩
      · refine rw_iconst hx hb dX8_kindOf_18 ?_
        refine rw_iret hx hb hr hlocks hW dX8_kindOf_19 (⟨1, rfl, ?_⟩)
        exact ⟨by unfold kindF; (repeat' split) <;> omega, rfl⟩
  · refine rw_iconst hx hb dX8_kindOf_4 ?_
    refine rw_iret hx hb hr hlocks hW dX8_kindOf_5 (⟨0, rfl, ?_⟩)
    exact ⟨by unfold kindF; (repeat' split) <;> omega, rfl⟩
abbrev P_X8_rewind (M : Mem) : Option Value → Mem → Prop := oV (fun MM => MM = upd2 M 18 2 0)
set_option maxRecDepth 100000 in
set_option maxHeartbeats 4000000 in
theorem c_X8_rewind {l : Launch} {G : va_G} {ad : Nat → Nat} {CA : Nat → ClassId} {nt : Nat} (M : Mem) : Mt l yX8_rewind cX8_rewind 1 none 0 0 G ad CA nt LyK [.ref (ad 18)] M (P_X8_rewind M) := by
  refine Mt.of (by decide) (Nat.le_of_ble_eq_true rfl) (fun p e s m args below meth c hx hb hr hml hts hown hlocks hnm hW ls hl => ?_)
  have hl : lv_has ls 1 [(0, .ref (ad 18))] := hl
  obtain ⟨H, hH⟩ : ∃ z, z = s.heap := ⟨_, rfl⟩
  obtain ⟨locs, hlo⟩ : ∃ z : List Loc, z = [] := ⟨_, rfl⟩
  rw [← hH, ← hlo] at hW ⊢
  refine lv_aload_n hx hb dX8_rewind_0 rfl (lv_at hl 0 rfl) ?_
  refine rw_iconst hx hb dX8_rewind_1 ?_
  refine rw_putI hx hb hts hown hW 18 lk_18 2 2 rfl rfl qX8_19 (v := 0) dX8_rewind_2 (fun H locs hW => ?_)
  obtain ⟨M1, hM1⟩ : ∃ z, z = upd2 M 18 2 0 := ⟨_, rfl⟩
  rw [← hM1] at hW
  refine rw_vret hx hb hr hlocks hW dX8_rewind_5 (⟨rfl, ?_⟩)
  rw [hM1]
abbrev P_X0_clear (o : Nat) (M : Mem) : Option Value → Mem → Prop := oV (fun MM => fld MM o = clearF ∧ Same M MM o 8)
set_option maxRecDepth 100000 in
set_option maxHeartbeats 4000000 in
theorem c_X0_clear {l : Launch} {G : va_G} {ad : Nat → Nat} {CA : Nat → ClassId} {nt : Nat} {Ly : List LD} (hnt : 4 ≤ nt) (o : Nat) (hF : FAt Ly o) (M : Mem) : Mt l yX0_clear cX0_clear 2 none 1 21 G ad CA nt Ly [.ref (ad o)] M (P_X0_clear o M) := by
  refine Mt.of (by decide) (Nat.le_of_ble_eq_true rfl) (fun p e s m args below meth c hx hb hr hml hts hown hlocks hnm hW ls hl => ?_)
  have hl : lv_has ls 2 [(0, .ref (ad o))] := hl
  have hnt4 : 4 ≤ nt := by omega
  obtain ⟨H, hH⟩ : ∃ z, z = s.heap := ⟨_, rfl⟩
  obtain ⟨locs, hlo⟩ : ∃ z : List Loc, z = [] := ⟨_, rfl⟩
  rw [← hH, ← hlo] at hW ⊢
  have hC_27 : ∀ N : Nat, ∀ (i : Int) (Mx : Mem) (H : Heap) (locs : List Loc) (ls : Array Slot), (9 - i).toNat < N → (0 ≤ i ∧ i ≤ 9) → (Mx o 0 = 5 ∧ Mx o 1 = 2 ∧ Mx o 2 = 2 ∧ Mx o 3 = 0 ∧ Mx o 4 = 0) → (∀ j, 0 ≤ j → j < i → Mx (o + 1) j = 12) → (∀ j, 0 ≤ j → j < i → Mx (o + 2) j = 3) → (∀ j, 0 ≤ j → j < i → Mx (o + 3) j = 0) → (Same M Mx o 8) → Wo G ad CA nt Ly (wA ad Ly) s Mx H locs → lv_has ls 2 [(0, .ref (ad o)), (1, .int (iN i))] → Wf l 1 21 G ad CA nt Ly (P_X0_clear o M) p e s m args below meth c H locs (F0 m 27 ls []) := by
    intro N
    induction N with
    | zero => intro i Mx H locs ls hN; exact absurd hN (Nat.not_lt_zero _)
    | succ N ih =>
      intro i Mx H locs ls hN hi h0 hr1 hr2 hr3 hs hW hl
      refine lv_iload_n hx hb dX0_clear_27 rfl (lv_at hl 1 rfl) ?_
      refine rw_bipush hx hb dX0_clear_28 (by decide) ?_
      refine rw_icmp_ge (tgt := 61) hx hb dX0_clear_30 (by decide) (by omega) (by decide) (fun c_30 => ?_) (fun c_30 => ?_)
      · refine lv_aload_n hx hb dX0_clear_61 rfl (lv_at hl 0 rfl) ?_
        refine rw_getR hx hb hts hown hW o hF.1 8 (o + 4) rfl fX0_24 dX0_clear_62 ?_
        refine rw_callV hx hb hml hts hown hW ⟨Nat.le_refl 0, Nat.le_refl 0⟩ [] (o + 4) hF.2.2.2.2.1.1 rfl (c_X6_clear (l := l) (G := G) (ad := ad) (CA := CA) (nt := nt) (by omega) (o + 4) hF.2.2.2.2.1 Mx) kX0_50 rfl ⟨Nat.le_of_ble_eq_true rfl, Nat.le_of_ble_eq_true rfl⟩ hl.1 rfl (Nat.le_of_ble_eq_true rfl) dX0_clear_65 (fun v1 M2 H locs hp3 hW => ?_)
        obtain ⟨rfl, hM2⟩ := hp3
        refine rw_stk (st' := []) rfl ?_
        refine lv_aload_n hx hb dX0_clear_68 rfl (lv_at hl 0 rfl) ?_
        refine rw_getR hx hb hts hown hW o hF.1 9 (o + 6) rfl fX0_28 dX0_clear_69 ?_
        refine rw_callV hx hb hml hts hown hW ⟨Nat.le_refl 0, Nat.le_refl 0⟩ [] (o + 6) hF.2.2.2.2.2.1 rfl (c_X6_clear (l := l) (G := G) (ad := ad) (CA := CA) (nt := nt) (by omega) (o + 6) hF.2.2.2.2.2 M2) kX0_50 rfl ⟨Nat.le_of_ble_eq_true rfl, Nat.le_of_ble_eq_true rfl⟩ hl.1 rfl (Nat.le_of_ble_eq_true rfl) dX0_clear_72 (fun v4 M5 H locs hp6 hW => ?_)
        obtain ⟨rfl, hM5⟩ := hp6
        refine rw_stk (st' := []) rfl ?_
        refine rw_vret hx hb hr hlocks hW dX0_clear_75 (⟨rfl, ?_⟩)
        have e2 : ∀ q, q < o + 6 ∨ o + 8 ≤ q → M5 q = M2 q := fun q hq => hM5.2 q (by omega)
        have e1 : ∀ q, q < o + 4 ∨ o + 6 ≤ q → M2 q = Mx q := fun q hq => hM2.2 q (by omega)
        have eo : ∀ q, q < o + 4 → M5 q = Mx q := fun q hq => (e2 q (by omega)).trans (e1 q (by omega))
        refine ⟨fld_ext (by rw [eo o (by omega)]; exact h0.1) (by rw [eo o (by omega)]; exact h0.2.1) (by rw [eo o (by omega)]; exact h0.2.2.1) (by rw [eo o (by omega)]; exact h0.2.2.2.1) (by rw [eo o (by omega)]; exact h0.2.2.2.2) (fun i q1 q2 => ?_) (fun i q1 q2 => ?_) (fun i q1 q2 => ?_) (fun j q1 q2 => ?_) (fun j q1 q2 => ?_) (fun i q => ?_), fun q hq => ?_⟩
        · rw [eo (o + 1) (by omega), hr1 i q1 (by omega)]; unfold clearF; rw [if_neg (by omega), if_neg (by omega), if_neg (by omega), if_pos (by omega), if_pos (by omega)]
        · rw [eo (o + 2) (by omega), hr2 i q1 (by omega)]; unfold clearF; rw [if_neg (by omega), if_neg (by omega), if_neg (by omega), if_pos (by omega), if_neg (by omega), if_pos (by omega)]
        · rw [eo (o + 3) (by omega), hr3 i q1 (by omega)]; unfold clearF; rw [if_neg (by omega), if_neg (by omega), if_neg (by omega), if_pos (by omega), if_neg (by omega), if_neg (by omega)]
        · rw [sd_same (e2 (o + 4) (by omega)) (e2 (o + 4 + 1) (by omega)), hM2.1]; unfold clearF; rw [if_neg (by omega), if_neg (by omega), if_neg (by omega), if_neg (by omega)]
        · rw [hM5.1]; unfold clearF; rw [if_neg (by omega), if_neg (by omega), if_neg (by omega), if_neg (by omega)]
        · unfold clearF; rw [if_neg (by omega), if_neg (by omega), if_neg (by omega), if_neg (by omega)]
        · rw [e2 q (by omega), e1 q (by omega), hs q (by omega)]
      · refine lv_aload_n hx hb dX0_clear_33 rfl (lv_at hl 0 rfl) ?_
        refine rw_getR hx hb hts hown hW o hF.1 5 (o + 1) rfl fX0_9 dX0_clear_34 ?_
        refine lv_iload_n hx hb dX0_clear_37 rfl (lv_at hl 1 rfl) ?_
        refine rw_bipush hx hb dX0_clear_38 (by decide) ?_
        refine rw_iast hx hb hW hnt4 (o + 1) hF.2.1 (v := 12) (by omega) (by omega) (by decide) dX0_clear_40 (fun H locs hW => ?_)
        obtain ⟨M7, hM7⟩ : ∃ z, z = upd2 Mx (o + 1) i 12 := ⟨_, rfl⟩
        rw [← hM7] at hW
        refine lv_aload_n hx hb dX0_clear_41 rfl (lv_at hl 0 rfl) ?_
        refine rw_getR hx hb hts hown hW o hF.1 6 (o + 2) rfl fX0_15 dX0_clear_42 ?_
        refine lv_iload_n hx hb dX0_clear_45 rfl (lv_at hl 1 rfl) ?_
        refine rw_iconst hx hb dX0_clear_46 ?_
        refine rw_iast hx hb hW hnt4 (o + 2) hF.2.2.1 (v := 3) (by omega) (by omega) (by decide) dX0_clear_47 (fun H locs hW => ?_)
        obtain ⟨M8, hM8⟩ : ∃ z, z = upd2 M7 (o + 2) i 3 := ⟨_, rfl⟩
        rw [← hM8] at hW
        refine lv_aload_n hx hb dX0_clear_48 rfl (lv_at hl 0 rfl) ?_
        refine rw_getR hx hb hts hown hW o hF.1 7 (o + 3) rfl fX0_18 dX0_clear_49 ?_
        refine lv_iload_n hx hb dX0_clear_52 rfl (lv_at hl 1 rfl) ?_
        refine rw_iconst hx hb dX0_clear_53 ?_
        refine rw_iast hx hb hW hnt4 (o + 3) hF.2.2.2.1 (v := 0) (by omega) (by omega) (by decide) dX0_clear_54 (fun H locs hW => ?_)
        obtain ⟨M9, hM9⟩ : ∃ z, z = upd2 M8 (o + 3) i 0 := ⟨_, rfl⟩
        rw [← hM9] at hW
        refine rw_iinc (lv' := [(1, .int (iN (i + 1))), (0, .ref (ad o))]) hx hb dX0_clear_55 hl (k := 1) rfl (by decide) rfl (fun ls hl => ?_)
        refine lv_goto (tgt := 27) hx hb dX0_clear_58 (by decide) ?_
        exact ih (i + 1) M9 H locs ls (by omega) (by omega) (by simp [hM7, hM8, hM9, upd2_at]; exact h0) (fun j q1 q2 => by by_cases e : j = i; subst e; simp [hM7, hM8, hM9, upd2_at]; simp [hM7, hM8, hM9, upd2_at, e]; exact hr1 j q1 (by omega)) (fun j q1 q2 => by by_cases e : j = i; subst e; simp [hM7, hM8, hM9, upd2_at]; simp [hM7, hM8, hM9, upd2_at, e]; exact hr2 j q1 (by omega)) (fun j q1 q2 => by by_cases e : j = i; subst e; simp [hM7, hM8, hM9, upd2_at]; simp [hM7, hM8, hM9, upd2_at, e]; exact hr3 j q1 (by omega)) (by rw [hM9, hM8, hM7]; exact ((hs.up (by omega) (by omega)).up (by omega) (by omega)).up (by omega) (by omega)) hW (lv_sub hl [1, 0] rfl)
  refine lv_aload_n hx hb dX0_clear_0 rfl (lv_at hl 0 rfl) ?_
  refine rw_iconst hx hb dX0_clear_1 ?_
  refine rw_putI hx hb hts hown hW o hF.1 0 0 rfl rfl qX0_34 (v := 5) dX0_clear_2 (fun H locs hW => ?_)
  obtain ⟨M10, hM10⟩ : ∃ z, z = upd2 M o 0 5 := ⟨_, rfl⟩
  rw [← hM10] at hW
  refine lv_aload_n hx hb dX0_clear_5 rfl (lv_at hl 0 rfl) ?_
  refine rw_iconst hx hb dX0_clear_6 ?_
  refine rw_putI hx hb hts hown hW o hF.1 1 1 rfl rfl qX0_38 (v := 2) dX0_clear_7 (fun H locs hW => ?_)
  obtain ⟨M11, hM11⟩ : ∃ z, z = upd2 M10 o 1 2 := ⟨_, rfl⟩
  rw [← hM11] at hW
  refine lv_aload_n hx hb dX0_clear_10 rfl (lv_at hl 0 rfl) ?_
  refine rw_iconst hx hb dX0_clear_11 ?_
  refine rw_putI hx hb hts hown hW o hF.1 2 2 rfl rfl qX0_41 (v := 2) dX0_clear_12 (fun H locs hW => ?_)
  obtain ⟨M12, hM12⟩ : ∃ z, z = upd2 M11 o 2 2 := ⟨_, rfl⟩
  rw [← hM12] at hW
  refine lv_aload_n hx hb dX0_clear_15 rfl (lv_at hl 0 rfl) ?_
  refine rw_iconst hx hb dX0_clear_16 ?_
  refine rw_putI hx hb hts hown hW o hF.1 3 3 rfl rfl qX0_44 (v := 0) dX0_clear_17 (fun H locs hW => ?_)
  obtain ⟨M13, hM13⟩ : ∃ z, z = upd2 M12 o 3 0 := ⟨_, rfl⟩
  rw [← hM13] at hW
  refine lv_aload_n hx hb dX0_clear_20 rfl (lv_at hl 0 rfl) ?_
  refine rw_iconst hx hb dX0_clear_21 ?_
  refine rw_putI hx hb hts hown hW o hF.1 4 4 rfl rfl qX0_47 (v := 0) dX0_clear_22 (fun H locs hW => ?_)
  obtain ⟨M14, hM14⟩ : ∃ z, z = upd2 M13 o 4 0 := ⟨_, rfl⟩
  rw [← hM14] at hW
  refine rw_iconst hx hb dX0_clear_25 ?_
  refine lv_istore_n (lv' := [(1, .int (iN 0)), (0, .ref (ad o))]) hx hb dX0_clear_26 rfl hl (by decide) rfl (fun ls hl => ?_)
  exact hC_27 _ 0 M14 H locs ls (Nat.lt_succ_self _) (by omega) (by simp [hM10, hM11, hM12, hM13, hM14, upd2_at]) (fun j q1 q2 => absurd q2 (by omega)) (fun j q1 q2 => absurd q2 (by omega)) (fun j q1 q2 => absurd q2 (by omega)) (by rw [hM14, hM13, hM12, hM11, hM10]; exact ((((upd2_Same (by omega) (by omega)).up (by omega) (by omega)).up (by omega) (by omega)).up (by omega) (by omega)).up (by omega) (by omega)) hW (lv_sub hl [1, 0] rfl)
abbrev P_X8_advance (M : Mem) : Option Value → Mem → Prop := oV (fun MM => MM 18 3 = tokK (tb M) (M 18 1) (M 18 2) ∧ MM 18 4 = tokS (tb M) (M 18 1) (M 18 2) ∧ MM 18 2 = tokN (tb M) (M 18 1) (M 18 2) ∧ (tokK (tb M) (M 18 1) (M 18 2) = 2 → MM 18 5 = tokV (tb M) (M 18 1) (M 18 2)) ∧ ∀ (q : Nat) (j : Int), ¬ (q = 18 ∧ 2 ≤ j) → MM q j = M q j)
set_option maxRecDepth 100000 in
set_option maxHeartbeats 4000000 in
theorem c_X8_advance {l : Launch} {G : va_G} {ad : Nat → Nat} {CA : Nat → ClassId} {nt : Nat} (hnt : 6 ≤ nt) (M : Mem) (hTp : 0 ≤ M 18 1 ∧ M 18 1 ≤ 320) (hN : 0 ≤ M 18 2 ∧ M 18 2 ≤ M 18 1) : Mt l yX8_advance cX8_advance 1 none 1 21 G ad CA nt LyK [.ref (ad 18)] M (P_X8_advance M) := by
  refine Mt.of (by decide) (Nat.le_of_ble_eq_true rfl) (fun p e s m args below meth c hx hb hr hml hts hown hlocks hnm hW ls hl => ?_)
  have hl : lv_has ls 1 [(0, .ref (ad 18))] := hl
  have hnt4 : 4 ≤ nt := by omega
  obtain ⟨H, hH⟩ : ∃ z, z = s.heap := ⟨_, rfl⟩
  obtain ⟨locs, hlo⟩ : ∃ z : List Loc, z = [] := ⟨_, rfl⟩
  rw [← hH, ← hlo] at hW ⊢
  have hsr := tokS_rng (t := tb M) (len := M 18 1) (n := M 18 2) hN.2
  have hC_199 : ∀ (Mx : Mem) (H : Heap) (locs : List Loc) (ls : Array Slot), (∀ (q : Nat) (j : Int), ¬ (q = 18 ∧ 2 ≤ j) → Mx q j = M q j) → (Mx 18 3 = tokK0 (tb M) (M 18 1) (M 18 2)) → (Mx 18 4 = tokS (tb M) (M 18 1) (M 18 2)) → (Mx 18 2 = tokN (tb M) (M 18 1) (M 18 2)) → (tokK0 (tb M) (M 18 1) (M 18 2) = 2 → Mx 18 5 = digF (tb M) (M 18 1) (M 18 1 - tokS (tb M) (M 18 1) (M 18 2)).toNat (tokS (tb M) (M 18 1) (M 18 2)) 0) → (0 ≤ Mx 18 4 ∧ Mx 18 4 ≤ Mx 18 2 ∧ Mx 18 2 ≤ 321) → (0 ≤ Mx 18 3 ∧ Mx 18 3 ≤ 4) → Wo G ad CA nt LyK (wA ad LyK) s Mx H locs → lv_has ls 1 [(0, .ref (ad 18))] → Wf l 1 21 G ad CA nt LyK (P_X8_advance M) p e s m args below meth c H locs (F0 m 199 ls []) := by
    intro Mx H locs ls hfr h3 h4 h2 hv hr1 hk1 hW hl
    refine lv_aload_n hx hb dX8_advance_199 rfl (lv_at hl 0 rfl) ?_
    refine rw_getI hx hb hts hown hW 18 lk_18 3 3 rfl rfl fX8_32 dX8_advance_200 (v := (Mx 18 3)) rfl ?_
    refine rw_iconst hx hb dX8_advance_203 ?_
    refine rw_icmp_ne (tgt := 225) hx hb dX8_advance_204 (by decide) (by omega) (by decide) (fun c_204 => ?_) (fun c_204 => ?_)
    · refine rw_vret hx hb hr hlocks hW dX8_advance_225 (⟨rfl, ?_⟩)
      have e : tokK (tb M) (M 18 1) (M 18 2) = tokK0 (tb M) (M 18 1) (M 18 2) := by unfold tokK; rw [if_neg (by omega)]
      rw [e]
      refine ⟨?_, ?_, ?_, ?_, ?_⟩
      · exact h3
      · exact h4
      · exact h2
      · intro z; rw [hv z]; exact digF_tok hN.1 hN.2 (by rw [e]; exact z)
      · exact hfr
    · refine lv_aload_n hx hb dX8_advance_207 rfl (lv_at hl 0 rfl) ?_
      refine rw_getI hx hb hts hown hW 18 lk_18 2 2 rfl rfl fX8_19 dX8_advance_208 (v := (Mx 18 2)) rfl ?_
      refine lv_aload_n hx hb dX8_advance_211 rfl (lv_at hl 0 rfl) ?_
      refine rw_getI hx hb hts hown hW 18 lk_18 4 4 rfl rfl fX8_26 dX8_advance_212 (v := (Mx 18 4)) rfl ?_
      refine rw_isub hx hb dX8_advance_215 ?_
      refine rw_iconst hx hb dX8_advance_216 ?_
      refine rw_icmp_le (tgt := 225) hx hb dX8_advance_217 (by decide) (by omega) (by decide) (fun c_217 => ?_) (fun c_217 => ?_)
      · refine rw_vret hx hb hr hlocks hW dX8_advance_225 (⟨rfl, ?_⟩)
        have e : tokK (tb M) (M 18 1) (M 18 2) = tokK0 (tb M) (M 18 1) (M 18 2) := by unfold tokK; rw [if_neg (by omega)]
        rw [e]
        refine ⟨?_, ?_, ?_, ?_, ?_⟩
        · exact h3
        · exact h4
        · exact h2
        · intro z; rw [hv z]; exact digF_tok hN.1 hN.2 (by rw [e]; exact z)
        · exact hfr
      · refine lv_aload_n hx hb dX8_advance_220 rfl (lv_at hl 0 rfl) ?_
        refine rw_iconst hx hb dX8_advance_221 ?_
        refine rw_putI hx hb hts hown hW 18 lk_18 3 3 rfl rfl qX8_32 (v := 4) dX8_advance_222 (fun H locs hW => ?_)
        obtain ⟨M1, hM1⟩ : ∃ z, z = upd2 Mx 18 3 4 := ⟨_, rfl⟩
        rw [← hM1] at hW
        refine rw_vret hx hb hr hlocks hW dX8_advance_225 (⟨rfl, ?_⟩)
        have e : tokK (tb M) (M 18 1) (M 18 2) = 4 := by unfold tokK; rw [if_pos ⟨by omega, by omega⟩]
        rw [e]
        refine ⟨?_, ?_, ?_, ?_, ?_⟩
        · simp [hM1, upd2_at]
        · simp [hM1, upd2_at]; exact h4
        · simp [hM1, upd2_at]; exact h2
        · intro z; exact absurd z (by decide)
        · exact (fun q j hq => by rw [hM1, upd2_at, if_neg (by omega)]; exact hfr q j hq)
  have hC_73 : ∀ N : Nat, ∀ (Mx : Mem) (H : Heap) (locs : List Loc) (ls : Array Slot), (M 18 1 - Mx 18 2).toNat < N → (∀ (q : Nat) (j : Int), ¬ (q = 18 ∧ 2 ≤ j) → Mx q j = M q j) → (Mx 18 3 = 1) → (tokK0 (tb M) (M 18 1) (M 18 2) = 1) → (Mx 18 4 = tokS (tb M) (M 18 1) (M 18 2)) → (M 18 2 ≤ Mx 18 4 ∧ Mx 18 4 ≤ Mx 18 2 ∧ Mx 18 2 ≤ M 18 1) → (scanF (isK 1) (tb M) (M 18 1) (M 18 1 - Mx 18 2).toNat (Mx 18 2) = tokN (tb M) (M 18 1) (M 18 2)) → Wo G ad CA nt LyK (wA ad LyK) s Mx H locs → lv_has ls 1 [(0, .ref (ad 18))] → Wf l 1 21 G ad CA nt LyK (P_X8_advance M) p e s m args below meth c H locs (F0 m 73 ls []) := by
    intro N
    induction N with
    | zero => intro Mx H locs ls hN; exact absurd hN (Nat.not_lt_zero _)
    | succ N ih =>
      intro Mx H locs ls hN hfr h1k hk0 h4 hp hscan hW hl
      have hln : Mx 18 1 = M 18 1 := hfr 18 1 (by omega)
      have hTpx : 0 ≤ Mx 18 1 ∧ Mx 18 1 ≤ 320 := by omega
      refine lv_aload_n hx hb dX8_advance_73 rfl (lv_at hl 0 rfl) ?_
      refine rw_getI hx hb hts hown hW 18 lk_18 2 2 rfl rfl fX8_19 dX8_advance_74 (v := (Mx 18 2)) rfl ?_
      refine lv_aload_n hx hb dX8_advance_77 rfl (lv_at hl 0 rfl) ?_
      refine rw_getI hx hb hts hown hW 18 lk_18 1 1 rfl rfl fX8_15 dX8_advance_78 (v := (Mx 18 1)) rfl ?_
      refine rw_icmp_ge (tgt := 199) hx hb dX8_advance_81 (by decide) (by omega) (by omega) (fun c_81 => ?_) (fun c_81 => ?_)
      · exact hC_199 Mx H locs ls hfr (by rw [h1k, hk0]) h4 (by rw [← hscan, scanF_off]; rintro ⟨z1, z2⟩; omega) (fun z => absurd z (by omega)) (by omega) (by omega) hW (lv_sub hl [0] rfl)
      · refine lv_aload_n hx hb dX8_advance_84 rfl (lv_at hl 0 rfl) ?_
        refine lv_aload_n hx hb dX8_advance_85 rfl (lv_at hl 0 rfl) ?_
        refine rw_getI hx hb hts hown hW 18 lk_18 2 2 rfl rfl fX8_19 dX8_advance_86 (v := (Mx 18 2)) rfl ?_
        refine rw_callV hx hb hml hts hown hW ⟨Nat.le_refl 0, Nat.le_refl 0⟩ [.int (iN (Mx 18 2))] 18 lk_18 rfl (c_X8_byteAt (l := l) (G := G) (ad := ad) (CA := CA) (nt := nt) (by omega) (Mx 18 2) (by omega) Mx (by have := (show ∀ (q : Nat) (j : Int), ¬ (q = 18 ∧ 2 ≤ j) → Mx q j = M q j from hfr) 18 1 (by omega); omega)) kX8_22 rfl ⟨Nat.le_of_ble_eq_true rfl, Nat.le_of_ble_eq_true rfl⟩ hl.1 rfl (Nat.le_of_ble_eq_true rfl) dX8_advance_89 (fun v2 M3 H locs hp4 hW => ?_)
        obtain ⟨_, rfl, rfl, hp4⟩ := hp4
        rw [hp4] at hW
        refine rw_stk (st' := [.int (iN (byteF (tb Mx) (Mx 18 1) (Mx 18 2)))]) rfl ?_
        have hfc : ∀ (q : Nat) (j : Int), ¬ (q = 18 ∧ 2 ≤ j) → Mx q j = M q j := hfr
        have htb : tb Mx = tb M := by funext i; unfold tb; rw [hfc 19 i (by omega)]
        rw [htb, show (Mx 18 1) = M 18 1 from hfc 18 1 (by omega)]
        have hbr := byteF_rng M (M 18 1) (Mx 18 2)
        refine rw_callS hx hb hml hts hown hW ⟨Nat.le_refl 0, Nat.le_refl 0⟩ [.int (iN (byteF (tb M) (M 18 1) (Mx 18 2)))] (c_X8_kindOf (l := l) (G := G) (ad := ad) (CA := CA) (nt := nt) (byteF (tb M) (M 18 1) (Mx 18 2)) (by omega) Mx) kX8_29 rfl ⟨Nat.le_of_ble_eq_true rfl, Nat.le_of_ble_eq_true rfl⟩ hl.1 rfl (Nat.le_of_ble_eq_true rfl) dX8_advance_92 (fun v5 M6 H locs hp7 hW => ?_)
        obtain ⟨_, rfl, rfl, hp7⟩ := hp7
        rw [hp7] at hW
        refine rw_stk (st' := [.int (iN (kindF (byteF (tb M) (M 18 1) (Mx 18 2))))]) rfl ?_
        have hkr := kindF_rng (byteF (tb M) (M 18 1) (Mx 18 2))
        refine rw_iconst hx hb dX8_advance_95 ?_
        refine rw_icmp_ne (tgt := 199) hx hb dX8_advance_96 (by decide) (by omega) (by decide) (fun c_96 => ?_) (fun c_96 => ?_)
        · exact hC_199 Mx H locs ls hfr (by rw [h1k, hk0]) h4 (by rw [← hscan, scanF_off]; rintro ⟨z1, z2⟩; rw [isK_iff, ← byteF_in (t := tb M) (len := M 18 1) (by omega)] at z2; omega) (fun z => absurd z (by omega)) (by omega) (by omega) hW (lv_sub hl [0] rfl)
        · refine lv_aload_n hx hb dX8_advance_99 rfl (lv_at hl 0 rfl) ?_
          refine lv_dup hx hb dX8_advance_100 rfl ?_
          refine rw_getI hx hb hts hown hW 18 lk_18 2 2 rfl rfl fX8_19 dX8_advance_101 (v := (Mx 18 2)) rfl ?_
          refine rw_iconst hx hb dX8_advance_104 ?_
          refine rw_iadd hx hb dX8_advance_105 ?_
          refine rw_putI hx hb hts hown hW 18 lk_18 2 2 rfl rfl qX8_19 (v := (Mx 18 2) + 1) dX8_advance_106 (fun H locs hW => ?_)
          obtain ⟨M8, hM8⟩ : ∃ z, z = upd2 Mx 18 2 ((Mx 18 2) + 1) := ⟨_, rfl⟩
          rw [← hM8] at hW
          refine lv_goto (tgt := 73) hx hb dX8_advance_109 (by decide) ?_
          exact ih M8 H locs ls (by simp [hM8, upd2_at]; omega) (fun q j hq => by rw [hM8, upd2_at, if_neg (by omega)]; exact hfr q j hq) (by simp [hM8, upd2_at]; exact h1k) hk0 (by simp [hM8, upd2_at]; exact h4) (by simp [hM8, upd2_at]; omega) (by simp [hM8, upd2_at]; rw [← hscan]; exact (scanF_on (by omega) (by rw [isK_iff, ← byteF_in (t := tb M) (len := M 18 1) (by omega)]; exact c_96)).symm) hW (lv_sub hl [0] rfl)
  have hC_120 : ∀ N : Nat, ∀ (Mx : Mem) (H : Heap) (locs : List Loc) (ls : Array Slot), (M 18 1 - Mx 18 2).toNat < N → (∀ (q : Nat) (j : Int), ¬ (q = 18 ∧ 2 ≤ j) → Mx q j = M q j) → (Mx 18 3 = 2) → (tokK0 (tb M) (M 18 1) (M 18 2) = 2) → (Mx 18 4 = tokS (tb M) (M 18 1) (M 18 2)) → (M 18 2 ≤ Mx 18 4 ∧ Mx 18 4 ≤ Mx 18 2 ∧ Mx 18 2 ≤ M 18 1) → (scanF (isK 2) (tb M) (M 18 1) (M 18 1 - Mx 18 2).toNat (Mx 18 2) = tokN (tb M) (M 18 1) (M 18 2)) → (digF (tb M) (M 18 1) (M 18 1 - Mx 18 2).toNat (Mx 18 2) (Mx 18 5) = digF (tb M) (M 18 1) (M 18 1 - tokS (tb M) (M 18 1) (M 18 2)).toNat (tokS (tb M) (M 18 1) (M 18 2)) 0) → Wo G ad CA nt LyK (wA ad LyK) s Mx H locs → lv_has ls 1 [(0, .ref (ad 18))] → Wf l 1 21 G ad CA nt LyK (P_X8_advance M) p e s m args below meth c H locs (F0 m 120 ls []) := by
    intro N
    induction N with
    | zero => intro Mx H locs ls hN; exact absurd hN (Nat.not_lt_zero _)
    | succ N ih =>
      intro Mx H locs ls hN hfr h1k hk0 h4 hp hscan hdig hW hl
      have hln : Mx 18 1 = M 18 1 := hfr 18 1 (by omega)
      have hTpx : 0 ≤ Mx 18 1 ∧ Mx 18 1 ≤ 320 := by omega
      refine lv_aload_n hx hb dX8_advance_120 rfl (lv_at hl 0 rfl) ?_
      refine rw_getI hx hb hts hown hW 18 lk_18 2 2 rfl rfl fX8_19 dX8_advance_121 (v := (Mx 18 2)) rfl ?_
      refine lv_aload_n hx hb dX8_advance_124 rfl (lv_at hl 0 rfl) ?_
      refine rw_getI hx hb hts hown hW 18 lk_18 1 1 rfl rfl fX8_15 dX8_advance_125 (v := (Mx 18 1)) rfl ?_
      refine rw_icmp_ge (tgt := 199) hx hb dX8_advance_128 (by decide) (by omega) (by omega) (fun c_128 => ?_) (fun c_128 => ?_)
      · exact hC_199 Mx H locs ls hfr (by rw [h1k, hk0]) h4 (by rw [← hscan, scanF_off]; rintro ⟨z1, z2⟩; omega) (fun _ => by rw [← hdig, digF_off]; rintro ⟨z1, z2⟩; omega) (by omega) (by omega) hW (lv_sub hl [0] rfl)
      · refine lv_aload_n hx hb dX8_advance_131 rfl (lv_at hl 0 rfl) ?_
        refine lv_aload_n hx hb dX8_advance_132 rfl (lv_at hl 0 rfl) ?_
        refine rw_getI hx hb hts hown hW 18 lk_18 2 2 rfl rfl fX8_19 dX8_advance_133 (v := (Mx 18 2)) rfl ?_
        refine rw_callV hx hb hml hts hown hW ⟨Nat.le_refl 0, Nat.le_refl 0⟩ [.int (iN (Mx 18 2))] 18 lk_18 rfl (c_X8_byteAt (l := l) (G := G) (ad := ad) (CA := CA) (nt := nt) (by omega) (Mx 18 2) (by omega) Mx (by have := (show ∀ (q : Nat) (j : Int), ¬ (q = 18 ∧ 2 ≤ j) → Mx q j = M q j from hfr) 18 1 (by omega); omega)) kX8_22 rfl ⟨Nat.le_of_ble_eq_true rfl, Nat.le_of_ble_eq_true rfl⟩ hl.1 rfl (Nat.le_of_ble_eq_true rfl) dX8_advance_136 (fun v9 M10 H locs hp11 hW => ?_)
        obtain ⟨_, rfl, rfl, hp11⟩ := hp11
        rw [hp11] at hW
        refine rw_stk (st' := [.int (iN (byteF (tb Mx) (Mx 18 1) (Mx 18 2)))]) rfl ?_
        have hfc : ∀ (q : Nat) (j : Int), ¬ (q = 18 ∧ 2 ≤ j) → Mx q j = M q j := hfr
        have htb : tb Mx = tb M := by funext i; unfold tb; rw [hfc 19 i (by omega)]
        rw [htb, show (Mx 18 1) = M 18 1 from hfc 18 1 (by omega)]
        have hbr := byteF_rng M (M 18 1) (Mx 18 2)
        refine rw_callS hx hb hml hts hown hW ⟨Nat.le_refl 0, Nat.le_refl 0⟩ [.int (iN (byteF (tb M) (M 18 1) (Mx 18 2)))] (c_X8_kindOf (l := l) (G := G) (ad := ad) (CA := CA) (nt := nt) (byteF (tb M) (M 18 1) (Mx 18 2)) (by omega) Mx) kX8_29 rfl ⟨Nat.le_of_ble_eq_true rfl, Nat.le_of_ble_eq_true rfl⟩ hl.1 rfl (Nat.le_of_ble_eq_true rfl) dX8_advance_139 (fun v12 M13 H locs hp14 hW => ?_)
        obtain ⟨_, rfl, rfl, hp14⟩ := hp14
        rw [hp14] at hW
        refine rw_stk (st' := [.int (iN (kindF (byteF (tb M) (M 18 1) (Mx 18 2))))]) rfl ?_
        have hkr := kindF_rng (byteF (tb M) (M 18 1) (Mx 18 2))
        refine rw_iconst hx hb dX8_advance_142 ?_
        refine rw_icmp_ne (tgt := 199) hx hb dX8_advance_143 (by decide) (by omega) (by decide) (fun c_143 => ?_) (fun c_143 => ?_)
        · exact hC_199 Mx H locs ls hfr (by rw [h1k, hk0]) h4 (by rw [← hscan, scanF_off]; rintro ⟨z1, z2⟩; rw [isK_iff, ← byteF_in (t := tb M) (len := M 18 1) (by omega)] at z2; omega) (fun _ => by rw [← hdig, digF_off]; rintro ⟨z1, z2⟩; rw [isK_iff, ← byteF_in (t := tb M) (len := M 18 1) (by omega)] at z2; omega) (by omega) (by omega) hW (lv_sub hl [0] rfl)
        · refine lv_aload_n hx hb dX8_advance_146 rfl (lv_at hl 0 rfl) ?_
          refine lv_aload_n hx hb dX8_advance_147 rfl (lv_at hl 0 rfl) ?_
          refine rw_getI hx hb hts hown hW 18 lk_18 5 5 rfl rfl fX8_35 dX8_advance_148 (v := (Mx 18 5)) rfl ?_
          refine rw_bipush hx hb dX8_advance_151 (by decide) ?_
          refine rw_imul hx hb dX8_advance_153 ?_
          refine lv_aload_n hx hb dX8_advance_154 rfl (lv_at hl 0 rfl) ?_
          refine lv_aload_n hx hb dX8_advance_155 rfl (lv_at hl 0 rfl) ?_
          refine rw_getI hx hb hts hown hW 18 lk_18 2 2 rfl rfl fX8_19 dX8_advance_156 (v := (Mx 18 2)) rfl ?_
          refine rw_callV hx hb hml hts hown hW ⟨Nat.le_refl 0, Nat.le_refl 0⟩ [.int (iN (Mx 18 2))] 18 lk_18 rfl (c_X8_byteAt (l := l) (G := G) (ad := ad) (CA := CA) (nt := nt) (by omega) (Mx 18 2) (by omega) Mx (by have := (show ∀ (q : Nat) (j : Int), ¬ (q = 18 ∧ 2 ≤ j) → Mx q j = M q j from hfr) 18 1 (by omega); omega)) kX8_22 rfl ⟨Nat.le_of_ble_eq_true rfl, Nat.le_of_ble_eq_true rfl⟩ hl.1 rfl (Nat.le_of_ble_eq_true rfl) dX8_advance_159 (fun v15 M16 H locs hp17 hW => ?_)
          obtain ⟨_, rfl, rfl, hp17⟩ := hp17
          rw [hp17] at hW
          refine rw_stk (st' := [.int (iN (byteF (tb Mx) (Mx 18 1) (Mx 18 2))), .int (iN ((Mx 18 5) * 10)), .ref (ad 18)]) rfl ?_
          have hfc : ∀ (q : Nat) (j : Int), ¬ (q = 18 ∧ 2 ≤ j) → Mx q j = M q j := hfr
          have htb : tb Mx = tb M := by funext i; unfold tb; rw [hfc 19 i (by omega)]
          rw [htb, show (Mx 18 1) = M 18 1 from hfc 18 1 (by omega)]
          have hbr := byteF_rng M (M 18 1) (Mx 18 2)
          refine rw_iadd hx hb dX8_advance_162 ?_
          refine rw_bipush hx hb dX8_advance_163 (by decide) ?_
          refine rw_isub hx hb dX8_advance_165 ?_
          refine rw_putI hx hb hts hown hW 18 lk_18 5 5 rfl rfl qX8_35 (v := (((Mx 18 5) * 10) + (byteF (tb M) (M 18 1) (Mx 18 2))) - 48) dX8_advance_166 (fun H locs hW => ?_)
          obtain ⟨M18, hM18⟩ : ∃ z, z = upd2 Mx 18 5 ((((Mx 18 5) * 10) + (byteF (tb M) (M 18 1) (Mx 18 2))) - 48) := ⟨_, rfl⟩
          rw [← hM18] at hW
          refine lv_aload_n hx hb dX8_advance_169 rfl (lv_at hl 0 rfl) ?_
          refine lv_dup hx hb dX8_advance_170 rfl ?_
          refine rw_getI hx hb hts hown hW 18 lk_18 2 2 rfl rfl fX8_19 dX8_advance_171 (v := (Mx 18 2)) (by rw [hM18, upd2_ne2 (by decide)]) ?_
          refine rw_iconst hx hb dX8_advance_174 ?_
          refine rw_iadd hx hb dX8_advance_175 ?_
          refine rw_putI hx hb hts hown hW 18 lk_18 2 2 rfl rfl qX8_19 (v := (Mx 18 2) + 1) dX8_advance_176 (fun H locs hW => ?_)
          obtain ⟨M19, hM19⟩ : ∃ z, z = upd2 M18 18 2 ((Mx 18 2) + 1) := ⟨_, rfl⟩
          rw [← hM19] at hW
          refine lv_goto (tgt := 120) hx hb dX8_advance_179 (by decide) ?_
          exact ih M19 H locs ls (by simp [hM18, hM19, upd2_at]; omega) (fun q j hq => by rw [hM19, upd2_at, if_neg (by omega), hM18, upd2_at, if_neg (by omega)]; exact hfr q j hq) (by simp [hM18, hM19, upd2_at]; exact h1k) hk0 (by simp [hM18, hM19, upd2_at]; exact h4) (by simp [hM18, hM19, upd2_at]; omega) (by simp [hM18, hM19, upd2_at]; rw [← hscan]; exact (scanF_on (by omega) (by rw [isK_iff, ← byteF_in (t := tb M) (len := M 18 1) (by omega)]; exact c_143)).symm) (by simp [hM18, hM19, upd2_at]; rw [← hdig, digF_on (t := tb M) (len := M 18 1) (i := Mx 18 2) (v := Mx 18 5) (by omega) (by rw [isK_iff, ← byteF_in (t := tb M) (len := M 18 1) (by omega)]; exact c_143), byteF_in (t := tb M) (i := Mx 18 2) (by omega)]) hW (lv_sub hl [0] rfl)
  have hC_37 : ∀ (Mx : Mem) (H : Heap) (locs : List Loc) (ls : Array Slot), (∀ (q : Nat) (j : Int), ¬ (q = 18 ∧ 2 ≤ j) → Mx q j = M q j) → (M 18 2 ≤ Mx 18 2 ∧ Mx 18 2 ≤ M 18 1) → (Mx 18 2 = tokS (tb M) (M 18 1) (M 18 2)) → Wo G ad CA nt LyK (wA ad LyK) s Mx H locs → lv_has ls 1 [(0, .ref (ad 18))] → Wf l 1 21 G ad CA nt LyK (P_X8_advance M) p e s m args below meth c H locs (F0 m 37 ls []) := by
    intro Mx H locs ls hfr hp hst hW hl
    have hln : Mx 18 1 = M 18 1 := hfr 18 1 (by omega)
    have hTpx : 0 ≤ Mx 18 1 ∧ Mx 18 1 ≤ 320 := by omega
    refine lv_aload_n hx hb dX8_advance_37 rfl (lv_at hl 0 rfl) ?_
    refine lv_aload_n hx hb dX8_advance_38 rfl (lv_at hl 0 rfl) ?_
    refine rw_getI hx hb hts hown hW 18 lk_18 2 2 rfl rfl fX8_19 dX8_advance_39 (v := (Mx 18 2)) rfl ?_
    refine rw_putI hx hb hts hown hW 18 lk_18 4 4 rfl rfl qX8_26 (v := (Mx 18 2)) dX8_advance_42 (fun H locs hW => ?_)
    obtain ⟨M20, hM20⟩ : ∃ z, z = upd2 Mx 18 4 (Mx 18 2) := ⟨_, rfl⟩
    rw [← hM20] at hW
    refine lv_aload_n hx hb dX8_advance_45 rfl (lv_at hl 0 rfl) ?_
    refine lv_aload_n hx hb dX8_advance_46 rfl (lv_at hl 0 rfl) ?_
    refine lv_aload_n hx hb dX8_advance_47 rfl (lv_at hl 0 rfl) ?_
    refine rw_getI hx hb hts hown hW 18 lk_18 2 2 rfl rfl fX8_19 dX8_advance_48 (v := (Mx 18 2)) (by rw [hM20, upd2_ne2 (by decide)]) ?_
    refine rw_callV hx hb hml hts hown hW ⟨Nat.le_refl 0, Nat.le_refl 0⟩ [.int (iN (Mx 18 2))] 18 lk_18 rfl (c_X8_byteAt (l := l) (G := G) (ad := ad) (CA := CA) (nt := nt) (by omega) (Mx 18 2) (by omega) M20 (by have := (show ∀ (q : Nat) (j : Int), ¬ (q = 18 ∧ 2 ≤ j) → M20 q j = M q j from (fun q j hq => by rw [hM20, upd2_at, if_neg (by omega)]; exact hfr q j hq)) 18 1 (by omega); omega)) kX8_22 rfl ⟨Nat.le_of_ble_eq_true rfl, Nat.le_of_ble_eq_true rfl⟩ hl.1 rfl (Nat.le_of_ble_eq_true rfl) dX8_advance_51 (fun v21 M22 H locs hp23 hW => ?_)
    obtain ⟨_, rfl, rfl, hp23⟩ := hp23
    rw [hp23] at hW
    refine rw_stk (st' := [.int (iN (byteF (tb M20) (M20 18 1) (Mx 18 2))), .ref (ad 18)]) rfl ?_
    have hfc : ∀ (q : Nat) (j : Int), ¬ (q = 18 ∧ 2 ≤ j) → M20 q j = M q j := (fun q j hq => by rw [hM20, upd2_at, if_neg (by omega)]; exact hfr q j hq)
    have htb : tb M20 = tb M := by funext i; unfold tb; rw [hfc 19 i (by omega)]
    rw [htb, show (M20 18 1) = M 18 1 from hfc 18 1 (by omega)]
    have hbr := byteF_rng M (M 18 1) (Mx 18 2)
    refine rw_callS hx hb hml hts hown hW ⟨Nat.le_refl 0, Nat.le_refl 0⟩ [.int (iN (byteF (tb M) (M 18 1) (Mx 18 2)))] (c_X8_kindOf (l := l) (G := G) (ad := ad) (CA := CA) (nt := nt) (byteF (tb M) (M 18 1) (Mx 18 2)) (by omega) M20) kX8_29 rfl ⟨Nat.le_of_ble_eq_true rfl, Nat.le_of_ble_eq_true rfl⟩ hl.1 rfl (Nat.le_of_ble_eq_true rfl) dX8_advance_54 (fun v24 M25 H locs hp26 hW => ?_)
    obtain ⟨_, rfl, rfl, hp26⟩ := hp26
    rw [hp26] at hW
    refine rw_stk (st' := [.int (iN (kindF (byteF (tb M) (M 18 1) (Mx 18 2)))), .ref (ad 18)]) rfl ?_
    have hkr := kindF_rng (byteF (tb M) (M 18 1) (Mx 18 2))
    refine rw_putI hx hb hts hown hW 18 lk_18 3 3 rfl rfl qX8_32 (v := kindF (byteF (tb M) (M 18 1) (Mx 18 2))) dX8_advance_57 (fun H locs hW => ?_)
    obtain ⟨M27, hM27⟩ : ∃ z, z = upd2 M20 18 3 (kindF (byteF (tb M) (M 18 1) (Mx 18 2))) := ⟨_, rfl⟩
    rw [← hM27] at hW
    refine lv_aload_n hx hb dX8_advance_60 rfl (lv_at hl 0 rfl) ?_
    refine rw_iconst hx hb dX8_advance_61 ?_
    refine rw_putI hx hb hts hown hW 18 lk_18 5 5 rfl rfl qX8_35 (v := 0) dX8_advance_62 (fun H locs hW => ?_)
    obtain ⟨M28, hM28⟩ : ∃ z, z = upd2 M27 18 5 0 := ⟨_, rfl⟩
    rw [← hM28] at hW
    refine lv_aload_n hx hb dX8_advance_65 rfl (lv_at hl 0 rfl) ?_
    refine rw_getI hx hb hts hown hW 18 lk_18 3 3 rfl rfl fX8_32 dX8_advance_66 (v := (kindF (byteF (tb M) (M 18 1) (Mx 18 2)))) (by rw [hM28, upd2_ne2 (by decide), hM27, upd2_eq]) ?_
    refine rw_iconst hx hb dX8_advance_69 ?_
    refine rw_icmp_ne (tgt := 112) hx hb dX8_advance_70 (by decide) (by omega) (by decide) (fun c_70 => ?_) (fun c_70 => ?_)
    · refine lv_aload_n hx hb dX8_advance_112 rfl (lv_at hl 0 rfl) ?_
      refine rw_getI hx hb hts hown hW 18 lk_18 3 3 rfl rfl fX8_32 dX8_advance_113 (v := (kindF (byteF (tb M) (M 18 1) (Mx 18 2)))) (by rw [hM28, upd2_ne2 (by decide), hM27, upd2_eq]) ?_
      refine rw_iconst hx hb dX8_advance_116 ?_
      refine rw_icmp_ne (tgt := 182) hx hb dX8_advance_117 (by decide) (by omega) (by decide) (fun c_117 => ?_) (fun c_117 => ?_)
      · refine lv_aload_n hx hb dX8_advance_182 rfl (lv_at hl 0 rfl) ?_
        refine rw_getI hx hb hts hown hW 18 lk_18 3 3 rfl rfl fX8_32 dX8_advance_183 (v := (kindF (byteF (tb M) (M 18 1) (Mx 18 2)))) (by rw [hM28, upd2_ne2 (by decide), hM27, upd2_eq]) ?_
        refine rw_if_eq (tgt := 199) hx hb dX8_advance_186 (by decide) (by omega) (fun c_186 => ?_) (fun c_186 => ?_)
        · exact hC_199 M28 H locs ls (fun q j hq => by rw [hM28, upd2_at, if_neg (by omega), hM27, upd2_at, if_neg (by omega), hM20, upd2_at, if_neg (by omega)]; exact hfr q j hq) (by simp [hM20, hM27, hM28, upd2_at]; rw [hst]; rfl) (by simp [hM20, hM27, hM28, upd2_at]; exact hst) (by simp [hM20, hM27, hM28, upd2_at]; unfold tokN tokK0; rw [← hst]; rw [if_neg (by omega), if_neg (by omega)]; rw [if_pos (by omega)]) (fun z => by unfold tokK0 at z; rw [← hst] at z; exfalso; omega) (by simp [hM20, hM27, hM28, upd2_at]; omega) (by simp [hM20, hM27, hM28, upd2_at]; omega) hW (lv_sub hl [0] rfl)
        · refine lv_aload_n hx hb dX8_advance_189 rfl (lv_at hl 0 rfl) ?_
          refine lv_dup hx hb dX8_advance_190 rfl ?_
          refine rw_getI hx hb hts hown hW 18 lk_18 2 2 rfl rfl fX8_19 dX8_advance_191 (v := (Mx 18 2)) (by rw [hM28, upd2_ne2 (by decide), hM27, upd2_ne2 (by decide), hM20, upd2_ne2 (by decide)]) ?_
          refine rw_iconst hx hb dX8_advance_194 ?_
          refine rw_iadd hx hb dX8_advance_195 ?_
          refine rw_putI hx hb hts hown hW 18 lk_18 2 2 rfl rfl qX8_19 (v := (Mx 18 2) + 1) dX8_advance_196 (fun H locs hW => ?_)
          obtain ⟨M29, hM29⟩ : ∃ z, z = upd2 M28 18 2 ((Mx 18 2) + 1) := ⟨_, rfl⟩
          rw [← hM29] at hW
          exact hC_199 M29 H locs ls (fun q j hq => by rw [hM29, upd2_at, if_neg (by omega), hM28, upd2_at, if_neg (by omega), hM27, upd2_at, if_neg (by omega), hM20, upd2_at, if_neg (by omega)]; exact hfr q j hq) (by simp [hM20, hM27, hM28, hM29, upd2_at]; rw [hst]; rfl) (by simp [hM20, hM27, hM28, hM29, upd2_at]; exact hst) (by simp [hM20, hM27, hM28, hM29, upd2_at]; unfold tokN tokK0; rw [← hst]; rw [if_neg (by omega), if_neg (by omega)]; rw [if_neg (by omega)]) (fun z => by unfold tokK0 at z; rw [← hst] at z; exfalso; omega) (by simp [hM20, hM27, hM28, hM29, upd2_at]; omega) (by simp [hM20, hM27, hM28, hM29, upd2_at]; omega) hW (lv_sub hl [0] rfl)
      · exact hC_120 _ M28 H locs ls (Nat.lt_succ_self _) (fun q j hq => by rw [hM28, upd2_at, if_neg (by omega), hM27, upd2_at, if_neg (by omega), hM20, upd2_at, if_neg (by omega)]; exact hfr q j hq) (by simp [hM20, hM27, hM28, upd2_at]; exact c_117) (by unfold tokK0; rw [← hst]; exact c_117) (by simp [hM20, hM27, hM28, upd2_at]; exact hst) (by simp [hM20, hM27, hM28, upd2_at]; omega) (by simp [hM20, hM27, hM28, upd2_at]; unfold tokN; rw [if_neg (by unfold tokK0; rw [← hst]; omega), if_pos (by unfold tokK0; rw [← hst]; exact c_117), ← hst]) (by simp [hM20, hM27, hM28, upd2_at]; rw [← hst]) hW (lv_sub hl [0] rfl)
    · exact hC_73 _ M28 H locs ls (Nat.lt_succ_self _) (fun q j hq => by rw [hM28, upd2_at, if_neg (by omega), hM27, upd2_at, if_neg (by omega), hM20, upd2_at, if_neg (by omega)]; exact hfr q j hq) (by simp [hM20, hM27, hM28, upd2_at]; exact c_70) (by unfold tokK0; rw [← hst]; exact c_70) (by simp [hM20, hM27, hM28, upd2_at]; exact hst) (by simp [hM20, hM27, hM28, upd2_at]; omega) (by simp [hM20, hM27, hM28, upd2_at]; unfold tokN; rw [if_pos (by unfold tokK0; rw [← hst]; exact c_70), ← hst]) hW (lv_sub hl [0] rfl)
  have hC_0 : ∀ N : Nat, ∀ (Mx : Mem) (H : Heap) (locs : List Loc) (ls : Array Slot), (M 18 1 - Mx 18 2).toNat < N → (∀ (q : Nat) (j : Int), ¬ (q = 18 ∧ 2 ≤ j) → Mx q j = M q j) → (M 18 2 ≤ Mx 18 2 ∧ Mx 18 2 ≤ M 18 1) → (scanF isB (tb M) (M 18 1) (M 18 1 - Mx 18 2).toNat (Mx 18 2) = tokS (tb M) (M 18 1) (M 18 2)) → Wo G ad CA nt LyK (wA ad LyK) s Mx H locs → lv_has ls 1 [(0, .ref (ad 18))] → Wf l 1 21 G ad CA nt LyK (P_X8_advance M) p e s m args below meth c H locs (F0 m 0 ls []) := by
    intro N
    induction N with
    | zero => intro Mx H locs ls hN; exact absurd hN (Nat.not_lt_zero _)
    | succ N ih =>
      intro Mx H locs ls hN hfr hp hscan hW hl
      have hln : Mx 18 1 = M 18 1 := hfr 18 1 (by omega)
      have hTpx : 0 ≤ Mx 18 1 ∧ Mx 18 1 ≤ 320 := by omega
      refine lv_aload_n hx hb dX8_advance_0 rfl (lv_at hl 0 rfl) ?_
      refine rw_getI hx hb hts hown hW 18 lk_18 2 2 rfl rfl fX8_19 dX8_advance_1 (v := (Mx 18 2)) rfl ?_
      refine lv_aload_n hx hb dX8_advance_4 rfl (lv_at hl 0 rfl) ?_
      refine rw_getI hx hb hts hown hW 18 lk_18 1 1 rfl rfl fX8_15 dX8_advance_5 (v := (Mx 18 1)) rfl ?_
      refine rw_icmp_ge (tgt := 37) hx hb dX8_advance_8 (by decide) (by omega) (by omega) (fun c_8 => ?_) (fun c_8 => ?_)
      · exact hC_37 Mx H locs ls hfr (by omega) (by rw [← hscan, scanF_off]; rintro ⟨z1, z2⟩; omega) hW (lv_sub hl [0] rfl)
      · refine lv_aload_n hx hb dX8_advance_11 rfl (lv_at hl 0 rfl) ?_
        refine lv_aload_n hx hb dX8_advance_12 rfl (lv_at hl 0 rfl) ?_
        refine rw_getI hx hb hts hown hW 18 lk_18 2 2 rfl rfl fX8_19 dX8_advance_13 (v := (Mx 18 2)) rfl ?_
        refine rw_callV hx hb hml hts hown hW ⟨Nat.le_refl 0, Nat.le_refl 0⟩ [.int (iN (Mx 18 2))] 18 lk_18 rfl (c_X8_byteAt (l := l) (G := G) (ad := ad) (CA := CA) (nt := nt) (by omega) (Mx 18 2) (by omega) Mx (by have := (show ∀ (q : Nat) (j : Int), ¬ (q = 18 ∧ 2 ≤ j) → Mx q j = M q j from hfr) 18 1 (by omega); omega)) kX8_22 rfl ⟨Nat.le_of_ble_eq_true rfl, Nat.le_of_ble_eq_true rfl⟩ hl.1 rfl (Nat.le_of_ble_eq_true rfl) dX8_advance_16 (fun v30 M31 H locs hp32 hW => ?_)
        obtain ⟨_, rfl, rfl, hp32⟩ := hp32
        rw [hp32] at hW
        refine rw_stk (st' := [.int (iN (byteF (tb Mx) (Mx 18 1) (Mx 18 2)))]) rfl ?_
        have hfc : ∀ (q : Nat) (j : Int), ¬ (q = 18 ∧ 2 ≤ j) → Mx q j = M q j := hfr
        have htb : tb Mx = tb M := by funext i; unfold tb; rw [hfc 19 i (by omega)]
        rw [htb, show (Mx 18 1) = M 18 1 from hfc 18 1 (by omega)]
        have hbr := byteF_rng M (M 18 1) (Mx 18 2)
        refine rw_bipush hx hb dX8_advance_19 (by decide) ?_
        refine rw_icmp_ne (tgt := 37) hx hb dX8_advance_21 (by decide) (by omega) (by decide) (fun c_21 => ?_) (fun c_21 => ?_)
        · exact hC_37 Mx H locs ls hfr (by omega) (by rw [← hscan, scanF_off]; rintro ⟨z1, z2⟩; rw [isB_iff, ← byteF_in (t := tb M) (len := M 18 1) (by omega)] at z2; omega) hW (lv_sub hl [0] rfl)
        · refine lv_aload_n hx hb dX8_advance_24 rfl (lv_at hl 0 rfl) ?_
          refine lv_dup hx hb dX8_advance_25 rfl ?_
          refine rw_getI hx hb hts hown hW 18 lk_18 2 2 rfl rfl fX8_19 dX8_advance_26 (v := (Mx 18 2)) rfl ?_
          refine rw_iconst hx hb dX8_advance_29 ?_
          refine rw_iadd hx hb dX8_advance_30 ?_
          refine rw_putI hx hb hts hown hW 18 lk_18 2 2 rfl rfl qX8_19 (v := (Mx 18 2) + 1) dX8_advance_31 (fun H locs hW => ?_)
          obtain ⟨M33, hM33⟩ : ∃ z, z = upd2 Mx 18 2 ((Mx 18 2) + 1) := ⟨_, rfl⟩
          rw [← hM33] at hW
          refine lv_goto (tgt := 0) hx hb dX8_advance_34 (by decide) ?_
          exact ih M33 H locs ls (by simp [hM33, upd2_at]; omega) (fun q j hq => by rw [hM33, upd2_at, if_neg (by omega)]; exact hfr q j hq) (by simp [hM33, upd2_at]; omega) (by simp [hM33, upd2_at]; rw [← hscan]; exact (scanF_on (by omega) (by rw [isB_iff, ← byteF_in (t := tb M) (len := M 18 1) (by omega)]; exact c_21)).symm) hW (lv_sub hl [0] rfl)
  exact hC_0 _ M H locs ls (Nat.lt_succ_self _) (fun _ _ _ => rfl) (by omega) rfl hW (lv_sub hl [0] rfl)
