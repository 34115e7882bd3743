abbrev P_X11_fault (M : Mem) : Option Value → Mem → Prop := oI (fun zz MM => zz = M 0 10 ∧ MM = M)
set_option maxRecDepth 100000 in
set_option maxHeartbeats 4000000 in
theorem c_X11_fault {l : Launch} {G : va_G} {ad : Nat → Nat} {CA : Nat → ClassId} {nt : Nat} (hnt : 6 ≤ nt) (M : Mem) : Mt l yX11_fault cX11_fault 1 (some .int) 0 0 G ad CA nt LyM [.ref (ad 0)] M (P_X11_fault M) := by
  refine Mt.of (by decide) (Nat.le_of_ble_eq_true rfl) (fun p e s m args below meth c hx hb hr hml hts hown hlocks hnm hW ls hl => ?_)
  have hl : lv_has ls 1 [(0, .ref (ad 0))] := hl
  have hnt4 : 4 ≤ nt := by omega
  obtain ⟨H, hH⟩ : ∃ z, z = s.heap := ⟨_, rfl⟩
  obtain ⟨locs, hlo⟩ : ∃ z : List Loc, z = [] := ⟨_, rfl⟩
  rw [← hH, ← hlo] at hW ⊢
  refine lv_aload_n hx hb dX11_fault_0 rfl (lv_at hl 0 rfl) ?_
  refine rw_getI hx hb hts hown hW 0 lm_0 10 10 rfl rfl fX11_136 dX11_fault_1 (v := (M 0 10)) rfl ?_
  refine rw_iret hx hb hr hlocks hW dX11_fault_4 (⟨(M 0 10), rfl, ?_⟩)
  exact ⟨rfl, rfl⟩
abbrev P_X11_torn (M : Mem) : Option Value → Mem → Prop := oI (fun zz MM => zz = M 0 27 ∧ MM = M)
set_option maxRecDepth 100000 in
set_option maxHeartbeats 4000000 in
theorem c_X11_torn {l : Launch} {G : va_G} {ad : Nat → Nat} {CA : Nat → ClassId} {nt : Nat} (hnt : 6 ≤ nt) (M : Mem) : Mt l yX11_torn cX11_torn 1 (some .int) 0 0 G ad CA nt LyM [.ref (ad 0)] M (P_X11_torn M) := by
  refine Mt.of (by decide) (Nat.le_of_ble_eq_true rfl) (fun p e s m args below meth c hx hb hr hml hts hown hlocks hnm hW ls hl => ?_)
  have hl : lv_has ls 1 [(0, .ref (ad 0))] := hl
  have hnt4 : 4 ≤ nt := by omega
  obtain ⟨H, hH⟩ : ∃ z, z = s.heap := ⟨_, rfl⟩
  obtain ⟨locs, hlo⟩ : ∃ z : List Loc, z = [] := ⟨_, rfl⟩
  rw [← hH, ← hlo] at hW ⊢
  refine lv_aload_n hx hb dX11_torn_0 rfl (lv_at hl 0 rfl) ?_
  refine rw_getI hx hb hts hown hW 0 lm_0 27 27 rfl rfl fX11_252 dX11_torn_1 (v := (M 0 27)) rfl ?_
  refine rw_iret hx hb hr hlocks hW dX11_torn_4 (⟨(M 0 27), rfl, ?_⟩)
  exact ⟨rfl, rfl⟩
abbrev P_X11_end (n : Int) (M : Mem) : Option Value → Mem → Prop := oI (fun zz MM => ((0 ≤ n ∧ n ≤ M 0 9) ∧ zz = M 0 9 ∧ MM = upd2 M 0 9 n) ∨ (¬ (0 ≤ n ∧ n ≤ M 0 9) ∧ zz = -1 ∧ MM = M))
set_option maxRecDepth 100000 in
set_option maxHeartbeats 4000000 in
theorem c_X11_end {l : Launch} {G : va_G} {ad : Nat → Nat} {CA : Nat → ClassId} {nt : Nat} (hnt : 6 ≤ nt) (n : Int) (hn9 : in32 n) (M : Mem) (hTp : 0 ≤ M 0 9 ∧ M 0 9 ≤ 320) : Mt l yX11_end cX11_end 3 (some .int) 1 25 G ad CA nt LyM [.ref (ad 0), .int (iN n)] M (P_X11_end n M) := by
  refine Mt.of (by decide) (Nat.le_of_ble_eq_true rfl) (fun p e s m args below meth c hx hb hr hml hts hown hlocks hnm hW ls hl => ?_)
  have hl : lv_has ls 3 [(0, .ref (ad 0)), (1, .int (iN n))] := hl
  have hnt4 : 4 ≤ nt := by omega
  obtain ⟨H, hH⟩ : ∃ z, z = s.heap := ⟨_, rfl⟩
  obtain ⟨locs, hlo⟩ : ∃ z : List Loc, z = [] := ⟨_, rfl⟩
  rw [← hH, ← hlo] at hW ⊢
  refine lv_iload_n hx hb dX11_end_0 rfl (lv_at hl 1 rfl) ?_
  refine rw_i2l hx hb dX11_end_1 (by omega) ?_
  refine lv_lconst (v := jN 0) hx hb dX11_end_2 rfl ?_
  refine lv_aload_n hx hb dX11_end_3 rfl (lv_at hl 0 rfl) ?_
  refine rw_getI hx hb hts hown hW 0 lm_0 9 9 rfl rfl fX11_54 dX11_end_4 (v := (M 0 9)) rfl ?_
  refine rw_i2l hx hb dX11_end_7 (by omega) ?_
  refine rw_callS hx hb hml hts hown hW ⟨Nat.le_refl 0, Nat.le_refl 0⟩ [.long (jN n), .long (jN 0), .long (jN (M 0 9))] (c_X11_in (l := l) (G := G) (ad := ad) (CA := CA) (nt := nt) n 0 (M 0 9) (by first | omega | decide) (by first | omega | decide) (by first | omega | decide) M) kX11_57 rfl ⟨Nat.le_of_ble_eq_true rfl, Nat.le_of_ble_eq_true rfl⟩ hl.1 rfl (Nat.le_of_ble_eq_true rfl) dX11_end_8 (fun v1 M2 H locs hp3 hW => ?_)
  obtain ⟨a4, rfl, hp3, hp3m⟩ := hp3
  rw [hp3m] at hW
  rcases hp3 with ⟨rfl, hp3⟩ | ⟨rfl, hp3⟩
  · refine rw_stk (st' := [.int (iN 1)]) rfl ?_
    refine rw_if_ne (tgt := 16) hx hb dX11_end_11 (by decide) (by decide) (fun _ => ?_) (fun c => absurd c (by decide))
    refine lv_aload_n hx hb dX11_end_16 rfl (lv_at hl 0 rfl) ?_
    refine rw_getI hx hb hts hown hW 0 lm_0 9 9 rfl rfl fX11_54 dX11_end_17 (v := (M 0 9)) rfl ?_
    refine lv_istore_n (lv' := [(2, .int (iN (M 0 9))), (0, .ref (ad 0)), (1, .int (iN n))]) hx hb dX11_end_20 rfl hl (by decide) rfl (fun ls hl => ?_)
    refine lv_aload_n hx hb dX11_end_21 rfl (lv_at hl 1 rfl) ?_
    refine lv_iload_n hx hb dX11_end_22 rfl (lv_at hl 2 rfl) ?_
    refine rw_putI hx hb hts hown hW 0 lm_0 9 9 rfl rfl qX11_54 (v := n) dX11_end_23 (fun H locs hW => ?_)
    obtain ⟨M5, hM5⟩ : ∃ z, z = upd2 M 0 9 n := ⟨_, rfl⟩
    rw [← hM5] at hW
    refine lv_iload_n hx hb dX11_end_26 rfl (lv_at hl 0 rfl) ?_
    refine rw_iret hx hb hr hlocks hW dX11_end_27 (⟨(M 0 9), rfl, ?_⟩)
    refine Or.inl ⟨by omega, rfl, ?_⟩
    rw [hM5]
  · refine rw_stk (st' := [.int (iN 0)]) rfl ?_
    refine rw_if_ne (tgt := 16) hx hb dX11_end_11 (by decide) (by decide) (fun c => absurd c (by decide)) (fun _ => ?_)
    refine rw_iconst hx hb dX11_end_14 ?_
    refine rw_iret hx hb hr hlocks hW dX11_end_15 (⟨(-1), rfl, ?_⟩)
    exact Or.inr ⟨by omega, rfl, rfl⟩
abbrev P_X11_forget (n : Int) (M : Mem) : Option Value → Mem → Prop := oI (fun zz MM => ((0 ≤ n ∧ n ≤ M 0 22) ∧ zz = M 0 22 ∧ MM = upd2 M 0 22 n) ∨ (¬ (0 ≤ n ∧ n ≤ M 0 22) ∧ zz = -1 ∧ MM = M))
set_option maxRecDepth 100000 in
set_option maxHeartbeats 4000000 in
theorem c_X11_forget {l : Launch} {G : va_G} {ad : Nat → Nat} {CA : Nat → ClassId} {nt : Nat} (hnt : 6 ≤ nt) (n : Int) (hn9 : in32 n) (M : Mem) (hT : toldR M) : Mt l yX11_forget cX11_forget 3 (some .int) 1 25 G ad CA nt LyM [.ref (ad 0), .int (iN n)] M (P_X11_forget n M) := by
  refine Mt.of (by decide) (Nat.le_of_ble_eq_true rfl) (fun p e s m args below meth c hx hb hr hml hts hown hlocks hnm hW ls hl => ?_)
  have hl : lv_has ls 3 [(0, .ref (ad 0)), (1, .int (iN n))] := hl
  have hnt4 : 4 ≤ nt := by omega
  obtain ⟨H, hH⟩ : ∃ z, z = s.heap := ⟨_, rfl⟩
  obtain ⟨locs, hlo⟩ : ∃ z : List Loc, z = [] := ⟨_, rfl⟩
  rw [← hH, ← hlo] at hW ⊢
  have hz := hT.1
  refine lv_iload_n hx hb dX11_forget_0 rfl (lv_at hl 1 rfl) ?_
  refine rw_i2l hx hb dX11_forget_1 (by omega) ?_
  refine lv_lconst (v := jN 0) hx hb dX11_forget_2 rfl ?_
  refine lv_aload_n hx hb dX11_forget_3 rfl (lv_at hl 0 rfl) ?_
  refine rw_getI hx hb hts hown hW 0 lm_0 22 22 rfl rfl fX11_139 dX11_forget_4 (v := (M 0 22)) rfl ?_
  refine rw_i2l hx hb dX11_forget_7 (by omega) ?_
  refine rw_callS hx hb hml hts hown hW ⟨Nat.le_refl 0, Nat.le_refl 0⟩ [.long (jN n), .long (jN 0), .long (jN (M 0 22))] (c_X11_in (l := l) (G := G) (ad := ad) (CA := CA) (nt := nt) n 0 (M 0 22) (by first | omega | decide) (by first | omega | decide) (by first | omega | decide) M) kX11_57 rfl ⟨Nat.le_of_ble_eq_true rfl, Nat.le_of_ble_eq_true rfl⟩ hl.1 rfl (Nat.le_of_ble_eq_true rfl) dX11_forget_8 (fun v1 M2 H locs hp3 hW => ?_)
  obtain ⟨a4, rfl, hp3, hp3m⟩ := hp3
  rw [hp3m] at hW
  rcases hp3 with ⟨rfl, hp3⟩ | ⟨rfl, hp3⟩
  · refine rw_stk (st' := [.int (iN 1)]) rfl ?_
    refine rw_if_ne (tgt := 16) hx hb dX11_forget_11 (by decide) (by decide) (fun _ => ?_) (fun c => absurd c (by decide))
    refine lv_aload_n hx hb dX11_forget_16 rfl (lv_at hl 0 rfl) ?_
    refine rw_getI hx hb hts hown hW 0 lm_0 22 22 rfl rfl fX11_139 dX11_forget_17 (v := (M 0 22)) rfl ?_
    refine lv_istore_n (lv' := [(2, .int (iN (M 0 22))), (0, .ref (ad 0)), (1, .int (iN n))]) hx hb dX11_forget_20 rfl hl (by decide) rfl (fun ls hl => ?_)
    refine lv_aload_n hx hb dX11_forget_21 rfl (lv_at hl 1 rfl) ?_
    refine lv_iload_n hx hb dX11_forget_22 rfl (lv_at hl 2 rfl) ?_
    refine rw_putI hx hb hts hown hW 0 lm_0 22 22 rfl rfl qX11_139 (v := n) dX11_forget_23 (fun H locs hW => ?_)
    obtain ⟨M5, hM5⟩ : ∃ z, z = upd2 M 0 22 n := ⟨_, rfl⟩
    rw [← hM5] at hW
    refine lv_iload_n hx hb dX11_forget_26 rfl (lv_at hl 0 rfl) ?_
    refine rw_iret hx hb hr hlocks hW dX11_forget_27 (⟨(M 0 22), rfl, ?_⟩)
    refine Or.inl ⟨by omega, rfl, ?_⟩
    rw [hM5]
  · refine rw_stk (st' := [.int (iN 0)]) rfl ?_
    refine rw_if_ne (tgt := 16) hx hb dX11_forget_11 (by decide) (by decide) (fun c => absurd c (by decide)) (fun _ => ?_)
    refine rw_iconst hx hb dX11_forget_14 ?_
    refine rw_iret hx hb hr hlocks hW dX11_forget_15 (⟨(-1), rfl, ?_⟩)
    exact Or.inr ⟨by omega, rfl, rfl⟩
abbrev P_X11_tell (n : Int) (i : Int) (M : Mem) : Option Value → Mem → Prop := oI (fun zz MM => (((0 ≤ n ∧ n ≤ 12) ∧ ((0 ≤ i ∧ i < pg M 0 47) ∨ i = 20 ∨ i = 21)) ∧ ((M 0 22 < 8 ∧ zz = M 0 22 + 1 ∧ MM = upd2 (upd2 (upd2 M 9 (2 * M 0 22) n) 9 (2 * M 0 22 + 1) i) 0 22 (M 0 22 + 1)) ∨ (M 0 22 = 8 ∧ zz = -3 ∧ MM = M))) ∨ (¬ ((0 ≤ n ∧ n ≤ 12) ∧ ((0 ≤ i ∧ i < pg M 0 47) ∨ i = 20 ∨ i = 21)) ∧ zz = -1 ∧ MM = M))
set_option maxRecDepth 100000 in
set_option maxHeartbeats 4000000 in
theorem c_X11_tell {l : Launch} {G : va_G} {ad : Nat → Nat} {CA : Nat → ClassId} {nt : Nat} (hnt : 6 ≤ nt) (n : Int) (hn9 : in32 n) (i : Int) (hi9 : in32 i) (M : Mem) (hT : toldR M) (hI : InvF (pg M 0)) (hm : pg M 0 46 ≤ 999) : Mt l yX11_tell cX11_tell 3 (some .int) 3 67 G ad CA nt LyM [.ref (ad 0), .int (iN n), .int (iN i)] M (P_X11_tell n i M) := by
  refine Mt.of (by decide) (Nat.le_of_ble_eq_true rfl) (fun p e s m args below meth c hx hb hr hml hts hown hlocks hnm hW ls hl => ?_)
  have hl : lv_has ls 3 [(0, .ref (ad 0)), (1, .int (iN n)), (2, .int (iN i))] := hl
  have hnt4 : 4 ≤ nt := by omega
  obtain ⟨H, hH⟩ : ∃ z, z = s.heap := ⟨_, rfl⟩
  obtain ⟨locs, hlo⟩ : ∃ z : List Loc, z = [] := ⟨_, rfl⟩
  rw [← hH, ← hlo] at hW ⊢
  have hc := hI.1
  have h47 : pg M 0 47 = M 0 1 := rfl
  have hz := hT.1
  refine lv_iload_n hx hb dX11_tell_0 rfl (lv_at hl 1 rfl) ?_
  refine rw_i2l hx hb dX11_tell_1 (by omega) ?_
  refine lv_lconst (v := jN 0) hx hb dX11_tell_2 rfl ?_
  refine lv_ldc2 (v := 12) hx hb hown (hts _ (wm_21 _ (List.mem_of_getElem? (i := 18) rfl))) dX11_tell_3 ?_
  refine rw_stk (st' := [.long (jN 12), .long (jN 0), .long (jN n)]) (by rw [show (12 : Int64) = jN 12 from by decide]) ?_
  refine rw_callS hx hb hml hts hown hW ⟨Nat.le_refl 0, Nat.le_refl 0⟩ [.long (jN n), .long (jN 0), .long (jN 12)] (c_X11_in (l := l) (G := G) (ad := ad) (CA := CA) (nt := nt) n 0 12 (by first | omega | decide) (by first | omega | decide) (by first | omega | decide) M) kX11_57 rfl ⟨Nat.le_of_ble_eq_true rfl, Nat.le_of_ble_eq_true rfl⟩ hl.1 rfl (Nat.le_of_ble_eq_true rfl) dX11_tell_6 (fun v1 M2 H locs hp3 hW => ?_)
  obtain ⟨a4, rfl, hp3, hp3m⟩ := hp3
  rw [hp3m] at hW
  rcases hp3 with ⟨rfl, hp3⟩ | ⟨rfl, hp3⟩
  · refine rw_stk (st' := [.int (iN 1)]) rfl ?_
    refine rw_if_eq (tgt := 20) hx hb dX11_tell_9 (by decide) (by decide) (fun c => absurd c (by decide)) (fun _ => ?_)
    refine lv_aload_n hx hb dX11_tell_12 rfl (lv_at hl 0 rfl) ?_
    refine lv_iload_n hx hb dX11_tell_13 rfl (lv_at hl 2 rfl) ?_
    refine rw_callV hx hb hml hts hown hW ⟨Nat.le_refl 0, Nat.le_refl 0⟩ [.int (iN i)] 0 lm_0 rfl (c_X11_isSpot (l := l) (G := G) (ad := ad) (CA := CA) (nt := nt) (by omega) i (by first | omega | decide) M hc) kX11_219 rfl ⟨Nat.le_of_ble_eq_true rfl, Nat.le_of_ble_eq_true rfl⟩ hl.1 rfl (Nat.le_of_ble_eq_true rfl) dX11_tell_14 (fun v5 M6 H locs hp7 hW => ?_)
    obtain ⟨a8, rfl, hp7, hp7m⟩ := hp7
    rw [hp7m] at hW
    rcases hp7 with ⟨rfl, hp7⟩ | ⟨rfl, hp7⟩
    · refine rw_stk (st' := [.int (iN 1)]) rfl ?_
      refine rw_if_ne (tgt := 22) hx hb dX11_tell_17 (by decide) (by decide) (fun _ => ?_) (fun c => absurd c (by decide))
      refine lv_aload_n hx hb dX11_tell_22 rfl (lv_at hl 0 rfl) ?_
      refine rw_getI hx hb hts hown hW 0 lm_0 22 22 rfl rfl fX11_139 dX11_tell_23 (v := (M 0 22)) rfl ?_
      refine rw_bipush hx hb dX11_tell_26 (by decide) ?_
      refine rw_icmp_ne (tgt := 34) hx hb dX11_tell_28 (by decide) (by omega) (by decide) (fun c_28 => ?_) (fun c_28 => ?_)
      · refine lv_aload_n hx hb dX11_tell_34 rfl (lv_at hl 0 rfl) ?_
        refine rw_getR hx hb hts hown hW 0 lm_0 21 9 rfl fX11_38 dX11_tell_35 ?_
        refine rw_iconst hx hb dX11_tell_38 ?_
        refine lv_aload_n hx hb dX11_tell_39 rfl (lv_at hl 0 rfl) ?_
        refine rw_getI hx hb hts hown hW 0 lm_0 22 22 rfl rfl fX11_139 dX11_tell_40 (v := (M 0 22)) rfl ?_
        refine rw_imul hx hb dX11_tell_43 ?_
        refine lv_iload_n hx hb dX11_tell_44 rfl (lv_at hl 1 rfl) ?_
        refine rw_iast hx hb hW hnt4 9 lm_9 (v := n) (by omega) (by omega) (by decide) dX11_tell_45 (fun H locs hW => ?_)
        obtain ⟨M9, hM9⟩ : ∃ z, z = upd2 M 9 (2 * (M 0 22)) n := ⟨_, rfl⟩
        rw [← hM9] at hW
        refine lv_aload_n hx hb dX11_tell_46 rfl (lv_at hl 0 rfl) ?_
        refine rw_getR hx hb hts hown hW 0 lm_0 21 9 rfl fX11_38 dX11_tell_47 ?_
        refine rw_iconst hx hb dX11_tell_50 ?_
        refine lv_aload_n hx hb dX11_tell_51 rfl (lv_at hl 0 rfl) ?_
        refine rw_getI hx hb hts hown hW 0 lm_0 22 22 rfl rfl fX11_139 dX11_tell_52 (v := (M 0 22)) (by rw [hM9, upd2_ne1 (by omega)]) ?_
        refine rw_imul hx hb dX11_tell_55 ?_
        refine rw_iconst hx hb dX11_tell_56 ?_
        refine rw_iadd hx hb dX11_tell_57 ?_
        refine lv_iload_n hx hb dX11_tell_58 rfl (lv_at hl 2 rfl) ?_
        refine rw_iast hx hb hW hnt4 9 lm_9 (v := i) (by omega) (by omega) (by decide) dX11_tell_59 (fun H locs hW => ?_)
        obtain ⟨M10, hM10⟩ : ∃ z, z = upd2 M9 9 ((2 * (M 0 22)) + 1) i := ⟨_, rfl⟩
        rw [← hM10] at hW
        refine lv_aload_n hx hb dX11_tell_60 rfl (lv_at hl 0 rfl) ?_
        refine lv_dup hx hb dX11_tell_61 rfl ?_
        refine rw_getI hx hb hts hown hW 0 lm_0 22 22 rfl rfl fX11_139 dX11_tell_62 (v := (M 0 22)) (by rw [hM10, upd2_ne1 (by omega), hM9, upd2_ne1 (by omega)]) ?_
        refine rw_iconst hx hb dX11_tell_65 ?_
        refine rw_iadd hx hb dX11_tell_66 ?_
        refine rw_putI hx hb hts hown hW 0 lm_0 22 22 rfl rfl qX11_139 (v := (M 0 22) + 1) dX11_tell_67 (fun H locs hW => ?_)
        obtain ⟨M11, hM11⟩ : ∃ z, z = upd2 M10 0 22 ((M 0 22) + 1) := ⟨_, rfl⟩
        rw [← hM11] at hW
        refine lv_aload_n hx hb dX11_tell_70 rfl (lv_at hl 0 rfl) ?_
        refine rw_getI hx hb hts hown hW 0 lm_0 22 22 rfl rfl fX11_139 dX11_tell_71 (v := ((M 0 22) + 1)) (by rw [hM11, upd2_eq]) ?_
        refine rw_iret hx hb hr hlocks hW dX11_tell_74 (⟨((M 0 22) + 1), rfl, ?_⟩)
        exact Or.inl ⟨by omega, Or.inl ⟨by omega, rfl, by rw [hM11, hM10, hM9]⟩⟩
      · refine rw_bipush hx hb dX11_tell_31 (by decide) ?_
        refine rw_iret hx hb hr hlocks hW dX11_tell_33 (⟨(-3), rfl, ?_⟩)
        exact Or.inl ⟨by omega, Or.inr ⟨by omega, rfl, rfl⟩⟩
    · refine rw_stk (st' := [.int (iN 0)]) rfl ?_
      refine rw_if_ne (tgt := 22) hx hb dX11_tell_17 (by decide) (by decide) (fun c => absurd c (by decide)) (fun _ => ?_)
      refine rw_iconst hx hb dX11_tell_20 ?_
      refine rw_iret hx hb hr hlocks hW dX11_tell_21 (⟨(-1), rfl, ?_⟩)
      exact Or.inr ⟨by omega, rfl, rfl⟩
  · refine rw_stk (st' := [.int (iN 0)]) rfl ?_
    refine rw_if_eq (tgt := 20) hx hb dX11_tell_9 (by decide) (by decide) (fun _ => ?_) (fun c => absurd (by decide) c)
    refine rw_iconst hx hb dX11_tell_20 ?_
    refine rw_iret hx hb hr hlocks hW dX11_tell_21 (⟨(-1), rfl, ?_⟩)
    exact Or.inr ⟨by omega, rfl, rfl⟩
abbrev P_X11_liesFrom (x : Int) (M : Mem) : Option Value → Mem → Prop := oI (fun zz MM => zz = liesR (setF (pg M 0) 27 x) M ∧ SameS M MM 188)
set_option maxRecDepth 100000 in
set_option maxHeartbeats 4000000 in
theorem c_X11_liesFrom {l : Launch} {G : va_G} {ad : Nat → Nat} {CA : Nat → ClassId} {nt : Nat} (hnt : 6 ≤ nt) (x : Int) (M : Mem) (hx1 : (0 ≤ x ∧ x < pg M 0 47) ∨ x = 20 ∨ x = 21) (hT : toldR M) (hI : InvF (pg M 0)) (hm : pg M 0 46 ≤ 999) : Mt l yX11_liesFrom cX11_liesFrom 4 (some .int) 6 143 G ad CA nt LyM [.ref (ad 0), .int (iN x)] M (P_X11_liesFrom x M) := by
  refine Mt.of (by decide) (Nat.le_of_ble_eq_true rfl) (fun p e s m args below meth c hx hb hr hml hts hown hlocks hnm hW ls hl => ?_)
  have hl : lv_has ls 4 [(0, .ref (ad 0)), (1, .int (iN x))] := hl
  have hnt4 : 4 ≤ nt := by omega
  obtain ⟨H, hH⟩ : ∃ z, z = s.heap := ⟨_, rfl⟩
  obtain ⟨locs, hlo⟩ : ∃ z : List Loc, z = [] := ⟨_, rfl⟩
  rw [← hH, ← hlo] at hW ⊢
  have hc := hI.1
  have hz := hT.1
  have hJ0 : InvF (setF (pg M 0) 27 x) := InvF_own hI (Or.inl ⟨rfl, hx1⟩)
  have hC_4 : ∀ N : Nat, ∀ (acc : Int) (k : Int) (Mx : Mem) (H : Heap) (locs : List Loc) (ls : Array Slot), (9 - k).toNat < N → (0 ≤ k ∧ k ≤ M 0 22) → (SameS M Mx 188) → (acc = ((bitsOf (lieR (setF (pg M 0) 27 x) M) k.toNat : Nat) : Int)) → Wo G ad CA nt LyM (wA ad LyM) s Mx H locs → lv_has ls 4 [(0, .ref (ad 0)), (1, .int (iN x)), (2, .int (iN acc)), (3, .int (iN k))] → Wf l 6 143 G ad CA nt LyM (P_X11_liesFrom x M) p e s m args below meth c H locs (F0 m 4 ls []) := by
    intro N
    induction N with
    | zero => intro acc k Mx H locs ls hN; exact absurd hN (Nat.not_lt_zero _)
    | succ N ih4 =>
      intro acc k Mx H locs ls hN hk hs hacc hW hl
      have h9 : Mx 9 = M 9 := hs.1 9 (by decide)
      have h22 : Mx 0 22 = M 0 22 := congrFun (hs.1 0 (by decide)) 22
      have hnow : pg Mx 0 = pg M 0 := pg_same hs (by decide)
      refine lv_iload_n hx hb dX11_liesFrom_4 rfl (lv_at hl 3 rfl) ?_
      refine lv_aload_n hx hb dX11_liesFrom_5 rfl (lv_at hl 0 rfl) ?_
      refine rw_getI hx hb hts hown hW 0 lm_0 22 22 rfl rfl fX11_139 dX11_liesFrom_6 (v := (Mx 0 22)) rfl ?_
      refine rw_icmp_ge (tgt := 72) hx hb dX11_liesFrom_9 (by decide) (by omega) (by omega) (fun c_9 => ?_) (fun c_9 => ?_)
      · refine lv_iload_n hx hb dX11_liesFrom_72 rfl (lv_at hl 2 rfl) ?_
        refine rw_iret hx hb hr hlocks hW dX11_liesFrom_73 (⟨acc, rfl, ?_⟩)
        have e : k = M 0 22 := by omega
        subst e
        exact ⟨hacc, hs⟩
      · have hT2 := hT.2 k hk.1 (by omega)
        rw [← h9] at hT2
        refine lv_aload_n hx hb dX11_liesFrom_12 rfl (lv_at hl 0 rfl) ?_
        refine rw_iconst hx hb dX11_liesFrom_13 ?_
        refine rw_sipush hx hb dX11_liesFrom_14 (by decide) ?_
        refine rw_callV hx hb hml hts hown hW ⟨Nat.le_refl 0, Nat.le_refl 0⟩ [.int (iN 0), .int (iN 188)] 0 lm_0 rfl (c_X11_copies (l := l) (G := G) (ad := ad) (CA := CA) (nt := nt) (by omega) 0 188 (by first | omega | decide) (by first | omega | decide) (by first | omega | decide) Mx) kX11_212 rfl ⟨Nat.le_of_ble_eq_true rfl, Nat.le_of_ble_eq_true rfl⟩ hl.1 rfl (Nat.le_of_ble_eq_true rfl) dX11_liesFrom_17 (fun v1 M2 H locs hp3 hW => ?_)
        obtain ⟨rfl, hM2⟩ := hp3
        refine rw_stk (st' := []) rfl ?_
        refine lv_aload_n hx hb dX11_liesFrom_20 rfl (lv_at hl 0 rfl) ?_
        refine rw_getR hx hb hts hown hW 0 lm_0 0 1 rfl fX11_7 dX11_liesFrom_21 ?_
        refine rw_sipush hx hb dX11_liesFrom_24 (by decide) ?_
        refine lv_iload_n hx hb dX11_liesFrom_27 rfl (lv_at hl 1 rfl) ?_
        refine rw_iconst hx hb dX11_liesFrom_28 ?_
        refine rw_isub hx hb dX11_liesFrom_29 ?_
        refine rw_iast hx hb hW hnt4 1 lm_1 (v := x - 2) (by omega) (by omega) (by decide) dX11_liesFrom_30 (fun H locs hW => ?_)
        obtain ⟨M4, hM4⟩ : ∃ z, z = upd2 M2 1 215 (x - 2) := ⟨_, rfl⟩
        rw [← hM4] at hW
        have e3 : pg M4 188 = setF (pg M 0) 27 x := by rw [hM4, ← hnow, ← hM2.1]; exact pg_put M2 (i := 27) (by decide) (by decide) (by rw [pgV_27]; omega)
        have hs3 : SameS M M4 188 := by rw [hM4]; exact (hs.trans hM2.2).up (by decide)
        refine lv_iload_n hx hb dX11_liesFrom_31 rfl (lv_at hl 2 rfl) ?_
        refine lv_aload_n hx hb dX11_liesFrom_32 rfl (lv_at hl 0 rfl) ?_
        refine lv_aload_n hx hb dX11_liesFrom_33 rfl (lv_at hl 0 rfl) ?_
        refine rw_getR hx hb hts hown hW 0 lm_0 21 9 rfl fX11_38 dX11_liesFrom_34 ?_
        refine rw_iconst hx hb dX11_liesFrom_37 ?_
        refine lv_iload_n hx hb dX11_liesFrom_38 rfl (lv_at hl 3 rfl) ?_
        refine rw_imul hx hb dX11_liesFrom_39 ?_
        refine rw_iald hx hb hW hnt4 9 lm_9 (by omega) (by omega) (by decide) dX11_liesFrom_40 (v := (Mx 9 (2 * k))) (by rw [hM4, upd2_ne1 (by omega), hM2.2.1 9 (by decide)]) ?_
        refine rw_callV hx hb hml hts hown hW ⟨Nat.le_refl 0, Nat.le_refl 0⟩ [.int (iN (Mx 9 (2 * k)))] 0 lm_0 rfl (c_X11_triesOn (l := l) (G := G) (ad := ad) (CA := CA) (nt := nt) (by omega) (Mx 9 (2 * k)) (by first | omega | decide) M4 (by rw [e3]; exact hJ0) (by rw [e3, setF_ne _ _ (by decide)]; omega)) kX11_216 rfl ⟨Nat.le_of_ble_eq_true rfl, Nat.le_of_ble_eq_true rfl⟩ hl.1 rfl (Nat.le_of_ble_eq_true rfl) dX11_liesFrom_41 (fun v5 M6 H locs hp7 hW => ?_)
        obtain ⟨a8, rfl, hM6⟩ := hp7
        refine rw_stk (st' := [.int (iN a8), .int (iN acc)]) rfl ?_
        rw [e3] at hM6
        have hkr : 0 ≤ a8 ∧ a8 ≤ 21 := by have q := (capN_inv hJ0 (Mx 9 (2 * k)).toNat (by rw [setF_ne _ _ (by decide)]; omega)).1; rw [hM6.1]; have q1 := q.1; have q2 := q.2.1; omega
        refine lv_aload_n hx hb dX11_liesFrom_44 rfl (lv_at hl 0 rfl) ?_
        refine rw_getR hx hb hts hown hW 0 lm_0 21 9 rfl fX11_38 dX11_liesFrom_45 ?_
        refine rw_iconst hx hb dX11_liesFrom_48 ?_
        refine lv_iload_n hx hb dX11_liesFrom_49 rfl (lv_at hl 3 rfl) ?_
        refine rw_imul hx hb dX11_liesFrom_50 ?_
        refine rw_iconst hx hb dX11_liesFrom_51 ?_
        refine rw_iadd hx hb dX11_liesFrom_52 ?_
        refine rw_iald hx hb hW hnt4 9 lm_9 (by omega) (by omega) (by decide) dX11_liesFrom_53 (v := (Mx 9 ((2 * k) + 1))) (by rw [hM6.2.2.1 9 (by decide), hM4, upd2_ne1 (by omega), hM2.2.1 9 (by decide)]) ?_
        refine rw_icmp_eq (tgt := 63) hx hb dX11_liesFrom_54 (by decide) (by omega) (by omega) (fun c_54 => ?_) (fun c_54 => ?_)
        · refine rw_iconst hx hb dX11_liesFrom_63 ?_
          refine rw_ior hx hb dX11_liesFrom_64 ?_
          refine lv_istore_n (lv' := [(2, .int (iN (bor acc 0))), (0, .ref (ad 0)), (1, .int (iN x)), (3, .int (iN k))]) hx hb dX11_liesFrom_65 rfl hl (by decide) rfl (fun ls hl => ?_)
          refine rw_iinc (lv' := [(3, .int (iN (k + 1))), (2, .int (iN (bor acc 0))), (0, .ref (ad 0)), (1, .int (iN x))]) hx hb dX11_liesFrom_66 hl (k := 3) rfl (by decide) rfl (fun ls hl => ?_)
          refine lv_goto (tgt := 4) hx hb dX11_liesFrom_69 (by decide) ?_
          exact ih4 (bor acc 0) (k + 1) M6 H locs ls (by omega) (by omega) (hs3.trans hM6.2.2) (by have hbz := bits_rng (lieR (setF (pg M 0) 27 x) M) (n := k.toNat) (by omega); rw [hacc, bor_zero hbz.1 hbz.2, show (k + 1).toNat = k.toNat + 1 by omega, bitsOf_skip _ (by rw [lieR_eq _ M hk.1, decide_eq_false_iff_not, ← h9, ← hM6.1]; exact fun z => z c_54.symm)]) hW (lv_sub hl [2, 3, 1, 0] rfl)
        · refine rw_iconst hx hb dX11_liesFrom_57 ?_
          refine lv_iload_n hx hb dX11_liesFrom_58 rfl (lv_at hl 3 rfl) ?_
          refine rw_shl1 hx hb dX11_liesFrom_59 (by omega) (by omega) ?_
          refine lv_goto (tgt := 64) hx hb dX11_liesFrom_60 (by decide) ?_
          refine rw_ior hx hb dX11_liesFrom_64 ?_
          refine lv_istore_n (lv' := [(2, .int (iN (bor acc (pow2 k)))), (0, .ref (ad 0)), (1, .int (iN x)), (3, .int (iN k))]) hx hb dX11_liesFrom_65 rfl hl (by decide) rfl (fun ls hl => ?_)
          refine rw_iinc (lv' := [(3, .int (iN (k + 1))), (2, .int (iN (bor acc (pow2 k)))), (0, .ref (ad 0)), (1, .int (iN x))]) hx hb dX11_liesFrom_66 hl (k := 3) rfl (by decide) rfl (fun ls hl => ?_)
          refine lv_goto (tgt := 4) hx hb dX11_liesFrom_69 (by decide) ?_
          exact ih4 (bor acc (pow2 k)) (k + 1) M6 H locs ls (by omega) (by omega) (hs3.trans hM6.2.2) (by rw [hacc, show (k + 1).toNat = k.toNat + 1 by omega, ← bitsOf_bor _ (by omega) (by rw [lieR_eq _ M hk.1, decide_eq_true_iff, ← h9, ← hM6.1]; exact fun z => c_54 z.symm), show ((k.toNat : Nat) : Int) = k by omega]) hW (lv_sub hl [2, 3, 1, 0] rfl)
  refine rw_iconst hx hb dX11_liesFrom_0 ?_
  refine lv_istore_n (lv' := [(2, .int (iN 0)), (0, .ref (ad 0)), (1, .int (iN x))]) hx hb dX11_liesFrom_1 rfl hl (by decide) rfl (fun ls hl => ?_)
  refine rw_iconst hx hb dX11_liesFrom_2 ?_
  refine lv_istore_n (lv' := [(3, .int (iN 0)), (2, .int (iN 0)), (0, .ref (ad 0)), (1, .int (iN x))]) hx hb dX11_liesFrom_3 rfl hl (by decide) rfl (fun ls hl => ?_)
  exact hC_4 _ 0 0 M H locs ls (Nat.lt_succ_self _) (by omega) SameS.rf (by rfl) hW (lv_sub hl [2, 3, 1, 0] rfl)
abbrev P_X11_lies (M : Mem) : Option Value → Mem → Prop := oI (fun zz MM => zz = liesR (pg M 0) M ∧ SameS M MM 188)
set_option maxRecDepth 100000 in
set_option maxHeartbeats 4000000 in
theorem c_X11_lies {l : Launch} {G : va_G} {ad : Nat → Nat} {CA : Nat → ClassId} {nt : Nat} (hnt : 6 ≤ nt) (M : Mem) (hT : toldR M) (hI : InvF (pg M 0)) (hm : pg M 0 46 ≤ 999) : Mt l yX11_lies cX11_lies 1 (some .int) 7 166 G ad CA nt LyM [.ref (ad 0)] M (P_X11_lies M) := by
  refine Mt.of (by decide) (Nat.le_of_ble_eq_true rfl) (fun p e s m args below meth c hx hb hr hml hts hown hlocks hnm hW ls hl => ?_)
  have hl : lv_has ls 1 [(0, .ref (ad 0))] := hl
  have hnt4 : 4 ≤ nt := by omega
  obtain ⟨H, hH⟩ : ∃ z, z = s.heap := ⟨_, rfl⟩
  obtain ⟨locs, hlo⟩ : ∃ z : List Loc, z = [] := ⟨_, rfl⟩
  rw [← hH, ← hlo] at hW ⊢
  refine lv_aload_n hx hb dX11_lies_0 rfl (lv_at hl 0 rfl) ?_
  refine lv_aload_n hx hb dX11_lies_1 rfl (lv_at hl 0 rfl) ?_
  refine rw_iconst hx hb dX11_lies_2 ?_
  refine rw_callV hx hb hml hts hown hW ⟨Nat.le_refl 0, Nat.le_refl 0⟩ [.int (iN 0)] 0 lm_0 rfl (c_X11_keg (l := l) (G := G) (ad := ad) (CA := CA) (nt := nt) (by omega) 0 (by first | omega | decide) M) kX11_146 rfl ⟨Nat.le_of_ble_eq_true rfl, Nat.le_of_ble_eq_true rfl⟩ hl.1 rfl (Nat.le_of_ble_eq_true rfl) dX11_lies_3 (fun v1 M2 H locs hp3 hW => ?_)
  obtain ⟨_, rfl, rfl, hp3⟩ := hp3
  rw [hp3] at hW
  refine rw_stk (st' := [.int (iN (pg M 0 27)), .ref (ad 0)]) rfl ?_
  refine rw_callV hx hb hml hts hown hW ⟨Nat.le_refl 0, Nat.le_refl 0⟩ [.int (iN (pg M 0 27))] 0 lm_0 rfl (c_X11_liesFrom (l := l) (G := G) (ad := ad) (CA := CA) (nt := nt) (by omega) (pg M 0 27) M hI.2.1 (by first | omega | decide) hI (by first | omega | decide)) kX11_246 rfl ⟨Nat.le_of_ble_eq_true rfl, Nat.le_of_ble_eq_true rfl⟩ hl.1 rfl (Nat.le_of_ble_eq_true rfl) dX11_lies_6 (fun v4 M5 H locs hp6 hW => ?_)
  obtain ⟨a7, rfl, hM5⟩ := hp6
  refine rw_stk (st' := [.int (iN a7)]) rfl ?_
  refine rw_iret hx hb hr hlocks hW dX11_lies_9 (⟨a7, rfl, ?_⟩)
  have q := hM5.1
  rw [setF_id] at q
  exact ⟨q, hM5.2⟩
abbrev P_X11_where (M : Mem) : Option Value → Mem → Prop := oI (fun zz MM => zz = ((bitsOf (mayR (pg M 0) M) (pg M 0 47).toNat : Nat) : Int) ∧ SameS M MM 188)
set_option maxRecDepth 100000 in
set_option maxHeartbeats 4000000 in
theorem c_X11_where {l : Launch} {G : va_G} {ad : Nat → Nat} {CA : Nat → ClassId} {nt : Nat} (hnt : 6 ≤ nt) (M : Mem) (hT : toldR M) (hI : InvF (pg M 0)) (hm : pg M 0 46 ≤ 999) : Mt l yX11_where cX11_where 3 (some .int) 7 166 G ad CA nt LyM [.ref (ad 0)] M (P_X11_where M) := by
  refine Mt.of (by decide) (Nat.le_of_ble_eq_true rfl) (fun p e s m args below meth c hx hb hr hml hts hown hlocks hnm hW ls hl => ?_)
  have hl : lv_has ls 3 [(0, .ref (ad 0))] := hl
  have hnt4 : 4 ≤ nt := by omega
  obtain ⟨H, hH⟩ : ∃ z, z = s.heap := ⟨_, rfl⟩
  obtain ⟨locs, hlo⟩ : ∃ z : List Loc, z = [] := ⟨_, rfl⟩
  rw [← hH, ← hlo] at hW ⊢
  have hc := hI.1
  have h47 : pg M 0 47 = M 0 1 := rfl
  have hz := hT.1
  have hC_4 : ∀ N : Nat, ∀ (acc : Int) (i : Int) (Mx : Mem) (H : Heap) (locs : List Loc) (ls : Array Slot), (10 - i).toNat < N → (0 ≤ i ∧ i ≤ M 0 1) → (SameS M Mx 188) → (acc = ((bitsOf (mayR (pg M 0) M) i.toNat : Nat) : Int)) → Wo G ad CA nt LyM (wA ad LyM) s Mx H locs → lv_has ls 3 [(0, .ref (ad 0)), (1, .int (iN acc)), (2, .int (iN i))] → Wf l 7 166 G ad CA nt LyM (P_X11_where M) p e s m args below meth c H locs (F0 m 4 ls []) := by
    intro N
    induction N with
    | zero => intro acc i Mx H locs ls hN; exact absurd hN (Nat.not_lt_zero _)
    | succ N ih4 =>
      intro acc i Mx H locs ls hN hi hs hacc hW hl
      have h10 : Mx 0 1 = M 0 1 := congrFun (hs.1 0 (by decide)) 1
      have hnow : pg Mx 0 = pg M 0 := pg_same hs (by decide)
      have hTx : toldR Mx := by
        unfold toldR
        rw [hs.1 0 (by decide), hs.1 9 (by decide)]
        exact hT
      refine lv_iload_n hx hb dX11_where_4 rfl (lv_at hl 2 rfl) ?_
      refine lv_aload_n hx hb dX11_where_5 rfl (lv_at hl 0 rfl) ?_
      refine rw_getI hx hb hts hown hW 0 lm_0 1 1 rfl rfl fX11_13 dX11_where_6 (v := (M 0 1)) (by first | exact h10 | rfl) ?_
      refine rw_icmp_ge (tgt := 36) hx hb dX11_where_9 (by decide) (by omega) (by omega) (fun c_9 => ?_) (fun c_9 => ?_)
      · refine lv_iload_n hx hb dX11_where_36 rfl (lv_at hl 1 rfl) ?_
        refine rw_iret hx hb hr hlocks hW dX11_where_37 (⟨acc, rfl, ?_⟩)
        exact ⟨by rw [hacc, show i = pg M 0 47 by omega], hs⟩
      · refine lv_iload_n hx hb dX11_where_12 rfl (lv_at hl 1 rfl) ?_
        refine lv_aload_n hx hb dX11_where_13 rfl (lv_at hl 0 rfl) ?_
        refine lv_iload_n hx hb dX11_where_14 rfl (lv_at hl 2 rfl) ?_
        refine rw_callV hx hb hml hts hown hW ⟨Nat.le_refl 0, Nat.le_refl 0⟩ [.int (iN i)] 0 lm_0 rfl (c_X11_liesFrom (l := l) (G := G) (ad := ad) (CA := CA) (nt := nt) (by omega) i Mx (by rw [hnow]; omega) hTx (by rw [hnow]; exact hI) (by rw [hnow]; omega)) kX11_246 rfl ⟨Nat.le_of_ble_eq_true rfl, Nat.le_of_ble_eq_true rfl⟩ hl.1 rfl (Nat.le_of_ble_eq_true rfl) dX11_where_15 (fun v1 M2 H locs hp3 hW => ?_)
        obtain ⟨a4, rfl, hM2⟩ := hp3
        refine rw_stk (st' := [.int (iN a4), .int (iN acc)]) rfl ?_
        have hlz := hM2.1
        rw [hnow, show liesR (setF (pg M 0) 27 i) Mx = liesR (setF (pg M 0) 27 i) M by unfold liesR lieR; rw [hs.1 9 (by decide), hs.1 0 (by decide)]] at hlz
        have hlr : 0 ≤ a4 ∧ a4 < 2147483648 := by rw [hlz]; exact bits_rng _ (by omega)
        refine rw_if_ne (tgt := 27) hx hb dX11_where_18 (by decide) (by omega) (fun c_18 => ?_) (fun c_18 => ?_)
        · refine rw_iconst hx hb dX11_where_27 ?_
          refine rw_ior hx hb dX11_where_28 ?_
          refine lv_istore_n (lv' := [(1, .int (iN (bor acc 0))), (0, .ref (ad 0)), (2, .int (iN i))]) hx hb dX11_where_29 rfl hl (by decide) rfl (fun ls hl => ?_)
          refine rw_iinc (lv' := [(2, .int (iN (i + 1))), (1, .int (iN (bor acc 0))), (0, .ref (ad 0))]) hx hb dX11_where_30 hl (k := 2) rfl (by decide) rfl (fun ls hl => ?_)
          refine lv_goto (tgt := 4) hx hb dX11_where_33 (by decide) ?_
          exact ih4 (bor acc 0) (i + 1) M2 H locs ls (by omega) (by omega) (hs.trans hM2.2) (by have hbz := bits_rng (mayR (pg M 0) M) (n := i.toNat) (by omega); rw [hacc, bor_zero hbz.1 hbz.2, show (i + 1).toNat = i.toNat + 1 by omega, bitsOf_skip _ (by unfold mayR; rw [show ((i.toNat : Nat) : Int) = i by omega, decide_eq_false_iff_not, ← hlz]; exact c_18)]) hW (lv_sub hl [2, 1, 0] rfl)
        · refine rw_iconst hx hb dX11_where_21 ?_
          refine lv_iload_n hx hb dX11_where_22 rfl (lv_at hl 2 rfl) ?_
          refine rw_shl1 hx hb dX11_where_23 (by omega) (by omega) ?_
          refine lv_goto (tgt := 28) hx hb dX11_where_24 (by decide) ?_
          refine rw_ior hx hb dX11_where_28 ?_
          refine lv_istore_n (lv' := [(1, .int (iN (bor acc (pow2 i)))), (0, .ref (ad 0)), (2, .int (iN i))]) hx hb dX11_where_29 rfl hl (by decide) rfl (fun ls hl => ?_)
          refine rw_iinc (lv' := [(2, .int (iN (i + 1))), (1, .int (iN (bor acc (pow2 i)))), (0, .ref (ad 0))]) hx hb dX11_where_30 hl (k := 2) rfl (by decide) rfl (fun ls hl => ?_)
          refine lv_goto (tgt := 4) hx hb dX11_where_33 (by decide) ?_
          exact ih4 (bor acc (pow2 i)) (i + 1) M2 H locs ls (by omega) (by omega) (hs.trans hM2.2) (by rw [hacc, show (i + 1).toNat = i.toNat + 1 by omega, ← bitsOf_bor _ (by omega) (by unfold mayR; rw [show ((i.toNat : Nat) : Int) = i by omega, decide_eq_true_iff, ← hlz]; omega), show ((i.toNat : Nat) : Int) = i by omega]) hW (lv_sub hl [2, 1, 0] rfl)
  refine rw_iconst hx hb dX11_where_0 ?_
  refine lv_istore_n (lv' := [(1, .int (iN 0)), (0, .ref (ad 0))]) hx hb dX11_where_1 rfl hl (by decide) rfl (fun ls hl => ?_)
  refine rw_iconst hx hb dX11_where_2 ?_
  refine lv_istore_n (lv' := [(2, .int (iN 0)), (1, .int (iN 0)), (0, .ref (ad 0))]) hx hb dX11_where_3 rfl hl (by decide) rfl (fun ls hl => ?_)
  exact hC_4 _ 0 0 M H locs ls (Nat.lt_succ_self _) (by omega) SameS.rf (by rfl) hW (lv_sub hl [2, 1, 0] rfl)
abbrev P_X11_keep (k : Int) (M : Mem) : Option Value → Mem → Prop := oI (fun zz MM => ((k = 0 ∨ k = 1) ∧ zz = M 10 k ∧ pg MM (47 * (k + 1)) = pg M 0 ∧ MM 10 k = 1 ∧ ∀ (q : Nat) (j : Int), ¬ (q = 10 ∧ j = k) → (q ≠ 1 ∨ (j < (47 * (k + 1)) ∨ (47 * (k + 1)) + 47 ≤ j)) → MM q j = M q j) ∨ (¬ (k = 0 ∨ k = 1) ∧ zz = -1 ∧ MM = M))
set_option maxRecDepth 100000 in
set_option maxHeartbeats 4000000 in
theorem c_X11_keep {l : Launch} {G : va_G} {ad : Nat → Nat} {CA : Nat → ClassId} {nt : Nat} (hnt : 6 ≤ nt) (k : Int) (hk9 : in32 k) (M : Mem) (hz : (M 10 0 = 0 ∨ M 10 0 = 1) ∧ (M 10 1 = 0 ∨ M 10 1 = 1)) : Mt l yX11_keep cX11_keep 3 (some .int) 1 25 G ad CA nt LyM [.ref (ad 0), .int (iN k)] M (P_X11_keep k M) := by
  refine Mt.of (by decide) (Nat.le_of_ble_eq_true rfl) (fun p e s m args below meth c hx hb hr hml hts hown hlocks hnm hW ls hl => ?_)
  have hl : lv_has ls 3 [(0, .ref (ad 0)), (1, .int (iN k))] := hl
  have hnt4 : 4 ≤ nt := by omega
  obtain ⟨H, hH⟩ : ∃ z, z = s.heap := ⟨_, rfl⟩
  obtain ⟨locs, hlo⟩ : ∃ z : List Loc, z = [] := ⟨_, rfl⟩
  rw [← hH, ← hlo] at hW ⊢
  refine lv_iload_n hx hb dX11_keep_0 rfl (lv_at hl 1 rfl) ?_
  refine rw_i2l hx hb dX11_keep_1 (by omega) ?_
  refine lv_lconst (v := jN 0) hx hb dX11_keep_2 rfl ?_
  refine lv_lconst (v := jN 1) hx hb dX11_keep_3 rfl ?_
  refine rw_callS hx hb hml hts hown hW ⟨Nat.le_refl 0, Nat.le_refl 0⟩ [.long (jN k), .long (jN 0), .long (jN 1)] (c_X11_in (l := l) (G := G) (ad := ad) (CA := CA) (nt := nt) k 0 1 (by first | omega | decide) (by first | omega | decide) (by first | omega | decide) M) kX11_57 rfl ⟨Nat.le_of_ble_eq_true rfl, Nat.le_of_ble_eq_true rfl⟩ hl.1 rfl (Nat.le_of_ble_eq_true rfl) dX11_keep_4 (fun v1 M2 H locs hp3 hW => ?_)
  obtain ⟨a4, rfl, hp3, hp3m⟩ := hp3
  rw [hp3m] at hW
  rcases hp3 with ⟨rfl, hp3⟩ | ⟨rfl, hp3⟩
  · have hp3 := (show k = 0 ∨ k = 1 by omega)
    rcases hp3 with rfl | rfl
    · refine rw_stk (st' := [.int (iN 1)]) rfl ?_
      refine rw_if_ne (tgt := 12) hx hb dX11_keep_7 (by decide) (by decide) (fun _ => ?_) (fun c => absurd c (by decide))
      refine lv_aload_n hx hb dX11_keep_12 rfl (lv_at hl 0 rfl) ?_
      refine rw_iconst hx hb dX11_keep_13 ?_
      refine rw_bipush hx hb dX11_keep_14 (by decide) ?_
      refine lv_iload_n hx hb dX11_keep_16 rfl (lv_at hl 1 rfl) ?_
      refine rw_iconst hx hb dX11_keep_17 ?_
      refine rw_iadd hx hb dX11_keep_18 ?_
      refine rw_stk (st' := [.int (iN 1), .int (iN 47), .int (iN 0), .ref (ad 0)]) rfl ?_
      refine rw_imul hx hb dX11_keep_19 ?_
      refine rw_stk (st' := [.int (iN 47), .int (iN 0), .ref (ad 0)]) rfl ?_
      refine rw_callV hx hb hml hts hown hW ⟨Nat.le_refl 0, Nat.le_refl 0⟩ [.int (iN 0), .int (iN 47)] 0 lm_0 rfl (c_X11_copies (l := l) (G := G) (ad := ad) (CA := CA) (nt := nt) (by omega) 0 47 (by first | omega | decide) (by first | omega | decide) (by first | omega | decide) M) kX11_212 rfl ⟨Nat.le_of_ble_eq_true rfl, Nat.le_of_ble_eq_true rfl⟩ hl.1 rfl (Nat.le_of_ble_eq_true rfl) dX11_keep_20 (fun v5 M6 H locs hp7 hW => ?_)
      obtain ⟨rfl, hM6⟩ := hp7
      refine rw_stk (st' := []) rfl ?_
      refine lv_aload_n hx hb dX11_keep_23 rfl (lv_at hl 0 rfl) ?_
      refine rw_getR hx hb hts hown hW 0 lm_0 23 10 rfl fX11_41 dX11_keep_24 ?_
      refine lv_iload_n hx hb dX11_keep_27 rfl (lv_at hl 1 rfl) ?_
      refine rw_zald hx hb hW hnt4 10 lm_10 (by omega) (by omega) (by decide) dX11_keep_28 (v := (M 10 0)) (by rw [hM6.2.1 10 (by decide)]) ?_
      refine rw_if_eq (tgt := 36) hx hb dX11_keep_29 (by decide) (by omega) (fun c_29 => ?_) (fun c_29 => ?_)
      · refine rw_iconst hx hb dX11_keep_36 ?_
        refine lv_istore_n (lv' := [(2, .int (iN 0)), (0, .ref (ad 0)), (1, .int (iN 0))]) hx hb dX11_keep_37 rfl hl (by decide) rfl (fun ls hl => ?_)
        refine lv_aload_n hx hb dX11_keep_38 rfl (lv_at hl 1 rfl) ?_
        refine rw_getR hx hb hts hown hW 0 lm_0 23 10 rfl fX11_41 dX11_keep_39 ?_
        refine lv_iload_n hx hb dX11_keep_42 rfl (lv_at hl 2 rfl) ?_
        refine rw_iconst hx hb dX11_keep_43 ?_
        refine rw_zast hx hb hW hnt4 10 lm_10 (by omega) (by omega) (by decide) (by omega) dX11_keep_44 (fun H locs hW => ?_)
        obtain ⟨M8, hM8⟩ : ∃ z, z = upd2 M6 10 0 1 := ⟨_, rfl⟩
        rw [← hM8] at hW
        refine lv_iload_n hx hb dX11_keep_45 rfl (lv_at hl 0 rfl) ?_
        refine rw_iret hx hb hr hlocks hW dX11_keep_46 (⟨0, rfl, ?_⟩)
        refine Or.inl ⟨by omega, by show _ = M 10 0; omega, ?_, ?_, ?_⟩
        · show pg M8 47 = pg M 0; rw [← hM6.1]; exact pg_eq (by rw [hM8, upd2_ne1 (by decide)]) (fun j _ _ => by rw [hM8, upd2_ne1 (by decide)])
        · rw [hM8]; exact upd2_eq
        · intro q j z1 z2; rw [hM8, upd2_at, if_neg z1]; by_cases e : q = 1; subst e; exact hM6.2.2 j (by rcases z2 with z2 | z2; exact absurd rfl z2; omega); rw [hM6.2.1 q e]
      · refine rw_iconst hx hb dX11_keep_32 ?_
        refine lv_goto (tgt := 37) hx hb dX11_keep_33 (by decide) ?_
        refine lv_istore_n (lv' := [(2, .int (iN 1)), (0, .ref (ad 0)), (1, .int (iN 0))]) hx hb dX11_keep_37 rfl hl (by decide) rfl (fun ls hl => ?_)
        refine lv_aload_n hx hb dX11_keep_38 rfl (lv_at hl 1 rfl) ?_
        refine rw_getR hx hb hts hown hW 0 lm_0 23 10 rfl fX11_41 dX11_keep_39 ?_
        refine lv_iload_n hx hb dX11_keep_42 rfl (lv_at hl 2 rfl) ?_
        refine rw_iconst hx hb dX11_keep_43 ?_
        refine rw_zast hx hb hW hnt4 10 lm_10 (by omega) (by omega) (by decide) (by omega) dX11_keep_44 (fun H locs hW => ?_)
        obtain ⟨M9, hM9⟩ : ∃ z, z = upd2 M6 10 0 1 := ⟨_, rfl⟩
        rw [← hM9] at hW
        refine lv_iload_n hx hb dX11_keep_45 rfl (lv_at hl 0 rfl) ?_
        refine rw_iret hx hb hr hlocks hW dX11_keep_46 (⟨1, rfl, ?_⟩)
        refine Or.inl ⟨by omega, by show _ = M 10 0; omega, ?_, ?_, ?_⟩
        · show pg M9 47 = pg M 0; rw [← hM6.1]; exact pg_eq (by rw [hM9, upd2_ne1 (by decide)]) (fun j _ _ => by rw [hM9, upd2_ne1 (by decide)])
        · rw [hM9]; exact upd2_eq
        · intro q j z1 z2; rw [hM9, upd2_at, if_neg z1]; by_cases e : q = 1; subst e; exact hM6.2.2 j (by rcases z2 with z2 | z2; exact absurd rfl z2; omega); rw [hM6.2.1 q e]
    · refine rw_stk (st' := [.int (iN 1)]) rfl ?_
      refine rw_if_ne (tgt := 12) hx hb dX11_keep_7 (by decide) (by decide) (fun _ => ?_) (fun c => absurd c (by decide))
      refine lv_aload_n hx hb dX11_keep_12 rfl (lv_at hl 0 rfl) ?_
      refine rw_iconst hx hb dX11_keep_13 ?_
      refine rw_bipush hx hb dX11_keep_14 (by decide) ?_
      refine lv_iload_n hx hb dX11_keep_16 rfl (lv_at hl 1 rfl) ?_
      refine rw_iconst hx hb dX11_keep_17 ?_
      refine rw_iadd hx hb dX11_keep_18 ?_
      refine rw_stk (st' := [.int (iN 2), .int (iN 47), .int (iN 0), .ref (ad 0)]) rfl ?_
      refine rw_imul hx hb dX11_keep_19 ?_
      refine rw_stk (st' := [.int (iN 94), .int (iN 0), .ref (ad 0)]) rfl ?_
      refine rw_callV hx hb hml hts hown hW ⟨Nat.le_refl 0, Nat.le_refl 0⟩ [.int (iN 0), .int (iN 94)] 0 lm_0 rfl (c_X11_copies (l := l) (G := G) (ad := ad) (CA := CA) (nt := nt) (by omega) 0 94 (by first | omega | decide) (by first | omega | decide) (by first | omega | decide) M) kX11_212 rfl ⟨Nat.le_of_ble_eq_true rfl, Nat.le_of_ble_eq_true rfl⟩ hl.1 rfl (Nat.le_of_ble_eq_true rfl) dX11_keep_20 (fun v10 M11 H locs hp12 hW => ?_)
      obtain ⟨rfl, hM11⟩ := hp12
      refine rw_stk (st' := []) rfl ?_
      refine lv_aload_n hx hb dX11_keep_23 rfl (lv_at hl 0 rfl) ?_
      refine rw_getR hx hb hts hown hW 0 lm_0 23 10 rfl fX11_41 dX11_keep_24 ?_
      refine lv_iload_n hx hb dX11_keep_27 rfl (lv_at hl 1 rfl) ?_
      refine rw_zald hx hb hW hnt4 10 lm_10 (by omega) (by omega) (by decide) dX11_keep_28 (v := (M 10 1)) (by rw [hM11.2.1 10 (by decide)]) ?_
      refine rw_if_eq (tgt := 36) hx hb dX11_keep_29 (by decide) (by omega) (fun c_29 => ?_) (fun c_29 => ?_)
      · refine rw_iconst hx hb dX11_keep_36 ?_
        refine lv_istore_n (lv' := [(2, .int (iN 0)), (0, .ref (ad 0)), (1, .int (iN 1))]) hx hb dX11_keep_37 rfl hl (by decide) rfl (fun ls hl => ?_)
        refine lv_aload_n hx hb dX11_keep_38 rfl (lv_at hl 1 rfl) ?_
        refine rw_getR hx hb hts hown hW 0 lm_0 23 10 rfl fX11_41 dX11_keep_39 ?_
        refine lv_iload_n hx hb dX11_keep_42 rfl (lv_at hl 2 rfl) ?_
        refine rw_iconst hx hb dX11_keep_43 ?_
        refine rw_zast hx hb hW hnt4 10 lm_10 (by omega) (by omega) (by decide) (by omega) dX11_keep_44 (fun H locs hW => ?_)
        obtain ⟨M13, hM13⟩ : ∃ z, z = upd2 M11 10 1 1 := ⟨_, rfl⟩
        rw [← hM13] at hW
        refine lv_iload_n hx hb dX11_keep_45 rfl (lv_at hl 0 rfl) ?_
        refine rw_iret hx hb hr hlocks hW dX11_keep_46 (⟨0, rfl, ?_⟩)
        refine Or.inl ⟨by omega, by show _ = M 10 1; omega, ?_, ?_, ?_⟩
        · show pg M13 94 = pg M 0; rw [← hM11.1]; exact pg_eq (by rw [hM13, upd2_ne1 (by decide)]) (fun j _ _ => by rw [hM13, upd2_ne1 (by decide)])
        · rw [hM13]; exact upd2_eq
        · intro q j z1 z2; rw [hM13, upd2_at, if_neg z1]; by_cases e : q = 1; subst e; exact hM11.2.2 j (by rcases z2 with z2 | z2; exact absurd rfl z2; omega); rw [hM11.2.1 q e]
      · refine rw_iconst hx hb dX11_keep_32 ?_
        refine lv_goto (tgt := 37) hx hb dX11_keep_33 (by decide) ?_
        refine lv_istore_n (lv' := [(2, .int (iN 1)), (0, .ref (ad 0)), (1, .int (iN 1))]) hx hb dX11_keep_37 rfl hl (by decide) rfl (fun ls hl => ?_)
        refine lv_aload_n hx hb dX11_keep_38 rfl (lv_at hl 1 rfl) ?_
        refine rw_getR hx hb hts hown hW 0 lm_0 23 10 rfl fX11_41 dX11_keep_39 ?_
        refine lv_iload_n hx hb dX11_keep_42 rfl (lv_at hl 2 rfl) ?_
        refine rw_iconst hx hb dX11_keep_43 ?_
        refine rw_zast hx hb hW hnt4 10 lm_10 (by omega) (by omega) (by decide) (by omega) dX11_keep_44 (fun H locs hW => ?_)
        obtain ⟨M14, hM14⟩ : ∃ z, z = upd2 M11 10 1 1 := ⟨_, rfl⟩
        rw [← hM14] at hW
        refine lv_iload_n hx hb dX11_keep_45 rfl (lv_at hl 0 rfl) ?_
        refine rw_iret hx hb hr hlocks hW dX11_keep_46 (⟨1, rfl, ?_⟩)
        refine Or.inl ⟨by omega, by show _ = M 10 1; omega, ?_, ?_, ?_⟩
        · show pg M14 94 = pg M 0; rw [← hM11.1]; exact pg_eq (by rw [hM14, upd2_ne1 (by decide)]) (fun j _ _ => by rw [hM14, upd2_ne1 (by decide)])
        · rw [hM14]; exact upd2_eq
        · intro q j z1 z2; rw [hM14, upd2_at, if_neg z1]; by_cases e : q = 1; subst e; exact hM11.2.2 j (by rcases z2 with z2 | z2; exact absurd rfl z2; omega); rw [hM11.2.1 q e]
  · refine rw_stk (st' := [.int (iN 0)]) rfl ?_
    refine rw_if_ne (tgt := 12) hx hb dX11_keep_7 (by decide) (by decide) (fun c => absurd c (by decide)) (fun _ => ?_)
    refine rw_iconst hx hb dX11_keep_10 ?_
    refine rw_iret hx hb hr hlocks hW dX11_keep_11 (⟨(-1), rfl, ?_⟩)
    exact Or.inr ⟨by omega, rfl, rfl⟩
abbrev P_X11_back (k : Int) (M : Mem) : Option Value → Mem → Prop := oI (fun zz MM => ((k = 0 ∨ k = 1) ∧ M 10 k = 1 ∧ pg MM 0 = pg M (47 * (k + 1)) ∧ SameS M MM 0 ∧ zz = pg M (47 * (k + 1)) 46) ∨ ((k = 0 ∨ k = 1) ∧ M 10 k = 0 ∧ zz = -2 ∧ MM = M) ∨ (¬ (k = 0 ∨ k = 1) ∧ zz = -1 ∧ MM = M))
set_option maxRecDepth 100000 in
set_option maxHeartbeats 4000000 in
theorem c_X11_back {l : Launch} {G : va_G} {ad : Nat → Nat} {CA : Nat → ClassId} {nt : Nat} (hnt : 6 ≤ nt) (k : Int) (hk9 : in32 k) (M : Mem) (hz : (M 10 0 = 0 ∨ M 10 0 = 1) ∧ (M 10 1 = 0 ∨ M 10 1 = 1)) : Mt l yX11_back cX11_back 2 (some .int) 1 25 G ad CA nt LyM [.ref (ad 0), .int (iN k)] M (P_X11_back k M) := by
  refine Mt.of (by decide) (Nat.le_of_ble_eq_true rfl) (fun p e s m args below meth c hx hb hr hml hts hown hlocks hnm hW ls hl => ?_)
  have hl : lv_has ls 2 [(0, .ref (ad 0)), (1, .int (iN k))] := hl
  have hnt4 : 4 ≤ nt := by omega
  obtain ⟨H, hH⟩ : ∃ z, z = s.heap := ⟨_, rfl⟩
  obtain ⟨locs, hlo⟩ : ∃ z : List Loc, z = [] := ⟨_, rfl⟩
  rw [← hH, ← hlo] at hW ⊢
  refine lv_iload_n hx hb dX11_back_0 rfl (lv_at hl 1 rfl) ?_
  refine rw_i2l hx hb dX11_back_1 (by omega) ?_
  refine lv_lconst (v := jN 0) hx hb dX11_back_2 rfl ?_
  refine lv_lconst (v := jN 1) hx hb dX11_back_3 rfl ?_
  refine rw_callS hx hb hml hts hown hW ⟨Nat.le_refl 0, Nat.le_refl 0⟩ [.long (jN k), .long (jN 0), .long (jN 1)] (c_X11_in (l := l) (G := G) (ad := ad) (CA := CA) (nt := nt) k 0 1 (by first | omega | decide) (by first | omega | decide) (by first | omega | decide) M) kX11_57 rfl ⟨Nat.le_of_ble_eq_true rfl, Nat.le_of_ble_eq_true rfl⟩ hl.1 rfl (Nat.le_of_ble_eq_true rfl) dX11_back_4 (fun v1 M2 H locs hp3 hW => ?_)
  obtain ⟨a4, rfl, hp3, hp3m⟩ := hp3
  rw [hp3m] at hW
  rcases hp3 with ⟨rfl, hp3⟩ | ⟨rfl, hp3⟩
  · have hp3 := (show k = 0 ∨ k = 1 by omega)
    rcases hp3 with rfl | rfl
    · refine rw_stk (st' := [.int (iN 1)]) rfl ?_
      refine rw_if_ne (tgt := 12) hx hb dX11_back_7 (by decide) (by decide) (fun _ => ?_) (fun c => absurd c (by decide))
      refine lv_aload_n hx hb dX11_back_12 rfl (lv_at hl 0 rfl) ?_
      refine rw_getR hx hb hts hown hW 0 lm_0 23 10 rfl fX11_41 dX11_back_13 ?_
      refine lv_iload_n hx hb dX11_back_16 rfl (lv_at hl 1 rfl) ?_
      refine rw_zald hx hb hW hnt4 10 lm_10 (by omega) (by omega) (by decide) dX11_back_17 (v := (M 10 0)) rfl ?_
      refine rw_if_ne (tgt := 24) hx hb dX11_back_18 (by decide) (by omega) (fun c_18 => ?_) (fun c_18 => ?_)
      · refine lv_aload_n hx hb dX11_back_24 rfl (lv_at hl 0 rfl) ?_
        refine rw_bipush hx hb dX11_back_25 (by decide) ?_
        refine lv_iload_n hx hb dX11_back_27 rfl (lv_at hl 1 rfl) ?_
        refine rw_iconst hx hb dX11_back_28 ?_
        refine rw_iadd hx hb dX11_back_29 ?_
        refine rw_stk (st' := [.int (iN 1), .int (iN 47), .ref (ad 0)]) rfl ?_
        refine rw_imul hx hb dX11_back_30 ?_
        refine rw_stk (st' := [.int (iN 47), .ref (ad 0)]) rfl ?_
        refine rw_iconst hx hb dX11_back_31 ?_
        refine rw_callV hx hb hml hts hown hW ⟨Nat.le_refl 0, Nat.le_refl 0⟩ [.int (iN 47), .int (iN 0)] 0 lm_0 rfl (c_X11_copies (l := l) (G := G) (ad := ad) (CA := CA) (nt := nt) (by omega) 47 0 (by first | omega | decide) (by first | omega | decide) (by first | omega | decide) M) kX11_212 rfl ⟨Nat.le_of_ble_eq_true rfl, Nat.le_of_ble_eq_true rfl⟩ hl.1 rfl (Nat.le_of_ble_eq_true rfl) dX11_back_32 (fun v5 M6 H locs hp7 hW => ?_)
        obtain ⟨rfl, hM6⟩ := hp7
        refine rw_stk (st' := []) rfl ?_
        refine lv_aload_n hx hb dX11_back_35 rfl (lv_at hl 0 rfl) ?_
        refine rw_getR hx hb hts hown hW 0 lm_0 0 1 rfl fX11_7 dX11_back_36 ?_
        refine rw_bipush hx hb dX11_back_39 (by decide) ?_
        refine rw_iald hx hb hW hnt4 1 lm_1 (by omega) (by omega) (by decide) dX11_back_41 (v := (M6 1 46)) rfl ?_
        refine rw_iret hx hb hr hlocks hW dX11_back_42 (⟨(M6 1 46), rfl, ?_⟩)
        exact Or.inl ⟨by omega, by show M 10 0 = 1; omega, hM6.1, hM6.2, by show _ = pg M 47 46; rw [← hM6.1, pg_46, Int.zero_add]⟩
      · refine rw_bipush hx hb dX11_back_21 (by decide) ?_
        refine rw_iret hx hb hr hlocks hW dX11_back_23 (⟨(-2), rfl, ?_⟩)
        exact Or.inr (Or.inl ⟨by omega, by show M 10 0 = 0; omega, rfl, rfl⟩)
    · refine rw_stk (st' := [.int (iN 1)]) rfl ?_
      refine rw_if_ne (tgt := 12) hx hb dX11_back_7 (by decide) (by decide) (fun _ => ?_) (fun c => absurd c (by decide))
      refine lv_aload_n hx hb dX11_back_12 rfl (lv_at hl 0 rfl) ?_
      refine rw_getR hx hb hts hown hW 0 lm_0 23 10 rfl fX11_41 dX11_back_13 ?_
      refine lv_iload_n hx hb dX11_back_16 rfl (lv_at hl 1 rfl) ?_
      refine rw_zald hx hb hW hnt4 10 lm_10 (by omega) (by omega) (by decide) dX11_back_17 (v := (M 10 1)) rfl ?_
      refine rw_if_ne (tgt := 24) hx hb dX11_back_18 (by decide) (by omega) (fun c_18 => ?_) (fun c_18 => ?_)
      · refine lv_aload_n hx hb dX11_back_24 rfl (lv_at hl 0 rfl) ?_
        refine rw_bipush hx hb dX11_back_25 (by decide) ?_
        refine lv_iload_n hx hb dX11_back_27 rfl (lv_at hl 1 rfl) ?_
        refine rw_iconst hx hb dX11_back_28 ?_
        refine rw_iadd hx hb dX11_back_29 ?_
        refine rw_stk (st' := [.int (iN 2), .int (iN 47), .ref (ad 0)]) rfl ?_
        refine rw_imul hx hb dX11_back_30 ?_
        refine rw_stk (st' := [.int (iN 94), .ref (ad 0)]) rfl ?_
        refine rw_iconst hx hb dX11_back_31 ?_
        refine rw_callV hx hb hml hts hown hW ⟨Nat.le_refl 0, Nat.le_refl 0⟩ [.int (iN 94), .int (iN 0)] 0 lm_0 rfl (c_X11_copies (l := l) (G := G) (ad := ad) (CA := CA) (nt := nt) (by omega) 94 0 (by first | omega | decide) (by first | omega | decide) (by first | omega | decide) M) kX11_212 rfl ⟨Nat.le_of_ble_eq_true rfl, Nat.le_of_ble_eq_true rfl⟩ hl.1 rfl (Nat.le_of_ble_eq_true rfl) dX11_back_32 (fun v8 M9 H locs hp10 hW => ?_)
        obtain ⟨rfl, hM9⟩ := hp10
        refine rw_stk (st' := []) rfl ?_
        refine lv_aload_n hx hb dX11_back_35 rfl (lv_at hl 0 rfl) ?_
        refine rw_getR hx hb hts hown hW 0 lm_0 0 1 rfl fX11_7 dX11_back_36 ?_
        refine rw_bipush hx hb dX11_back_39 (by decide) ?_
        refine rw_iald hx hb hW hnt4 1 lm_1 (by omega) (by omega) (by decide) dX11_back_41 (v := (M9 1 46)) rfl ?_
        refine rw_iret hx hb hr hlocks hW dX11_back_42 (⟨(M9 1 46), rfl, ?_⟩)
        exact Or.inl ⟨by omega, by show M 10 1 = 1; omega, hM9.1, hM9.2, by show _ = pg M 94 46; rw [← hM9.1, pg_46, Int.zero_add]⟩
      · refine rw_bipush hx hb dX11_back_21 (by decide) ?_
        refine rw_iret hx hb hr hlocks hW dX11_back_23 (⟨(-2), rfl, ?_⟩)
        exact Or.inr (Or.inl ⟨by omega, by show M 10 1 = 0; omega, rfl, rfl⟩)
  · refine rw_stk (st' := [.int (iN 0)]) rfl ?_
    refine rw_if_ne (tgt := 12) hx hb dX11_back_7 (by decide) (by decide) (fun c => absurd c (by decide)) (fun _ => ?_)
    refine rw_iconst hx hb dX11_back_10 ?_
    refine rw_iret hx hb hr hlocks hW dX11_back_11 (⟨(-1), rfl, ?_⟩)
    exact Or.inr (Or.inr ⟨by omega, rfl, rfl⟩)
abbrev P_X11_sheet (k : Int) (x : Int) (n : Int) (M : Mem) : Option Value → Mem → Prop := oI (fun zz MM => (((0 ≤ k ∧ k < 4) ∧ (0 ≤ x ∧ x ≤ 2) ∧ n ≤ 40) ∧ 0 ≤ n ∧ zz = 1 ∧ MM 11 k = x ∧ MM 12 k = n ∧ (∀ j, 0 ≤ j → j < 40 → MM 13 (40 * k + j) = 0) ∧ ∀ (q : Nat) (j : Int), ¬ (q = 11 ∧ j = k) → ¬ (q = 12 ∧ j = k) → ¬ (q = 13 ∧ 40 * k ≤ j ∧ j < 40 * k + 40) → MM q j = M q j) ∨ (((0 ≤ k ∧ k < 4) ∧ (0 ≤ x ∧ x ≤ 2) ∧ n ≤ 40) ∧ n < 0 ∧ zz = -14 ∧ MM = M) ∨ (¬ ((0 ≤ k ∧ k < 4) ∧ (0 ≤ x ∧ x ≤ 2) ∧ n ≤ 40) ∧ zz = -1 ∧ MM = M))
set_option maxRecDepth 100000 in
set_option maxHeartbeats 4000000 in
theorem c_X11_sheet {l : Launch} {G : va_G} {ad : Nat → Nat} {CA : Nat → ClassId} {nt : Nat} (hnt : 6 ≤ nt) (k : Int) (hk9 : in32 k) (x : Int) (hx9 : in32 x) (n : Int) (hn9 : in32 n) (M : Mem) : Mt l yX11_sheet cX11_sheet 5 (some .int) 1 25 G ad CA nt LyM [.ref (ad 0), .int (iN k), .int (iN x), .int (iN n)] M (P_X11_sheet k x n M) := by
  refine Mt.of (by decide) (Nat.le_of_ble_eq_true rfl) (fun p e s m args below meth c hx hb hr hml hts hown hlocks hnm hW ls hl => ?_)
  have hl : lv_has ls 5 [(0, .ref (ad 0)), (1, .int (iN k)), (2, .int (iN x)), (3, .int (iN n))] := hl
  have hnt4 : 4 ≤ nt := by omega
  obtain ⟨H, hH⟩ : ∃ z, z = s.heap := ⟨_, rfl⟩
  obtain ⟨locs, hlo⟩ : ∃ z : List Loc, z = [] := ⟨_, rfl⟩
  rw [← hH, ← hlo] at hW ⊢
  refine lv_iload_n hx hb dX11_sheet_0 rfl (lv_at hl 1 rfl) ?_
  refine rw_i2l hx hb dX11_sheet_1 (by omega) ?_
  refine lv_lconst (v := jN 0) hx hb dX11_sheet_2 rfl ?_
  refine lv_ldc2 (v := 3) hx hb hown (hts _ (wm_44 _ (List.mem_of_getElem? (i := 23) rfl))) dX11_sheet_3 ?_
  refine rw_stk (st' := [.long (jN 3), .long (jN 0), .long (jN k)]) (by rw [show (3 : Int64) = jN 3 from by decide]) ?_
  refine rw_callS hx hb hml hts hown hW ⟨Nat.le_refl 0, Nat.le_refl 0⟩ [.long (jN k), .long (jN 0), .long (jN 3)] (c_X11_in (l := l) (G := G) (ad := ad) (CA := CA) (nt := nt) k 0 3 (by first | omega | decide) (by first | omega | decide) (by first | omega | decide) M) kX11_57 rfl ⟨Nat.le_of_ble_eq_true rfl, Nat.le_of_ble_eq_true rfl⟩ hl.1 rfl (Nat.le_of_ble_eq_true rfl) dX11_sheet_6 (fun v1 M2 H locs hp3 hW => ?_)
  obtain ⟨a4, rfl, hp3, hp3m⟩ := hp3
  rw [hp3m] at hW
  rcases hp3 with ⟨rfl, hp3⟩ | ⟨rfl, hp3⟩
  · refine rw_stk (st' := [.int (iN 1)]) rfl ?_
    refine rw_if_eq (tgt := 30) hx hb dX11_sheet_9 (by decide) (by decide) (fun c => absurd c (by decide)) (fun _ => ?_)
    refine lv_iload_n hx hb dX11_sheet_12 rfl (lv_at hl 2 rfl) ?_
    refine rw_i2l hx hb dX11_sheet_13 (by omega) ?_
    refine lv_lconst (v := jN 0) hx hb dX11_sheet_14 rfl ?_
    refine lv_ldc2 (v := 2) hx hb hown (hts _ (wm_20 _ (List.mem_of_getElem? (i := 4) rfl))) dX11_sheet_15 ?_
    refine rw_stk (st' := [.long (jN 2), .long (jN 0), .long (jN x)]) (by rw [show (2 : Int64) = jN 2 from by decide]) ?_
    refine rw_callS hx hb hml hts hown hW ⟨Nat.le_refl 0, Nat.le_refl 0⟩ [.long (jN x), .long (jN 0), .long (jN 2)] (c_X11_in (l := l) (G := G) (ad := ad) (CA := CA) (nt := nt) x 0 2 (by first | omega | decide) (by first | omega | decide) (by first | omega | decide) M) kX11_57 rfl ⟨Nat.le_of_ble_eq_true rfl, Nat.le_of_ble_eq_true rfl⟩ hl.1 rfl (Nat.le_of_ble_eq_true rfl) dX11_sheet_18 (fun v5 M6 H locs hp7 hW => ?_)
    obtain ⟨a8, rfl, hp7, hp7m⟩ := hp7
    rw [hp7m] at hW
    rcases hp7 with ⟨rfl, hp7⟩ | ⟨rfl, hp7⟩
    · refine rw_stk (st' := [.int (iN 1)]) rfl ?_
      refine rw_if_eq (tgt := 30) hx hb dX11_sheet_21 (by decide) (by decide) (fun c => absurd c (by decide)) (fun _ => ?_)
      refine lv_iload_n hx hb dX11_sheet_24 rfl (lv_at hl 3 rfl) ?_
      refine rw_bipush hx hb dX11_sheet_25 (by decide) ?_
      refine rw_icmp_le (tgt := 32) hx hb dX11_sheet_27 (by decide) (by omega) (by decide) (fun c_27 => ?_) (fun c_27 => ?_)
      · refine lv_iload_n hx hb dX11_sheet_32 rfl (lv_at hl 3 rfl) ?_
        refine rw_if_ge (tgt := 39) hx hb dX11_sheet_33 (by decide) (by omega) (fun c_33 => ?_) (fun c_33 => ?_)
        · refine lv_aload_n hx hb dX11_sheet_39 rfl (lv_at hl 0 rfl) ?_
          refine rw_getR hx hb hts hown hW 0 lm_0 24 11 rfl fX11_45 dX11_sheet_40 ?_
          refine lv_iload_n hx hb dX11_sheet_43 rfl (lv_at hl 1 rfl) ?_
          refine lv_iload_n hx hb dX11_sheet_44 rfl (lv_at hl 2 rfl) ?_
          refine rw_iast hx hb hW hnt4 11 lm_11 (v := x) (by omega) (by omega) (by decide) dX11_sheet_45 (fun H locs hW => ?_)
          obtain ⟨M9, hM9⟩ : ∃ z, z = upd2 M 11 k x := ⟨_, rfl⟩
          rw [← hM9] at hW
          refine lv_aload_n hx hb dX11_sheet_46 rfl (lv_at hl 0 rfl) ?_
          refine rw_getR hx hb hts hown hW 0 lm_0 25 12 rfl fX11_48 dX11_sheet_47 ?_
          refine lv_iload_n hx hb dX11_sheet_50 rfl (lv_at hl 1 rfl) ?_
          refine lv_iload_n hx hb dX11_sheet_51 rfl (lv_at hl 3 rfl) ?_
          refine rw_iast hx hb hW hnt4 12 lm_12 (v := n) (by omega) (by omega) (by decide) dX11_sheet_52 (fun H locs hW => ?_)
          obtain ⟨M10, hM10⟩ : ∃ z, z = upd2 M9 12 k n := ⟨_, rfl⟩
          rw [← hM10] at hW
          refine rw_iconst hx hb dX11_sheet_53 ?_
          refine lv_istore (lv' := [(4, .int (iN 0)), (0, .ref (ad 0)), (1, .int (iN k)), (2, .int (iN x)), (3, .int (iN n))]) hx hb dX11_sheet_54 hl (by decide) rfl (fun ls hl => ?_)
          have hC_56 : ∀ N : Nat, ∀ (i : Int) (Mx : Mem) (H : Heap) (locs : List Loc) (ls : Array Slot), (40 - i).toNat < N → (0 ≤ i ∧ i ≤ 40) → (Mx 11 k = x) → (Mx 12 k = n) → (∀ j, 0 ≤ j → j < i → Mx 13 (40 * k + j) = 0) → (∀ (q : Nat) (j : Int), ¬ (q = 11 ∧ j = k) → ¬ (q = 12 ∧ j = k) → ¬ (q = 13 ∧ 40 * k ≤ j ∧ j < 40 * k + 40) → Mx q j = M q j) → Wo G ad CA nt LyM (wA ad LyM) s Mx H locs → lv_has ls 5 [(0, .ref (ad 0)), (1, .int (iN k)), (4, .int (iN i))] → Wf l 1 25 G ad CA nt LyM (P_X11_sheet k x n M) p e s m args below meth c H locs (F0 m 56 ls []) := by
            intro N
            induction N with
            | zero => intro i Mx H locs ls hN; exact absurd hN (Nat.not_lt_zero _)
            | succ N ih56 =>
              intro i Mx H locs ls hN hi hl1 hl2 hcz hfr hW hl
              refine lv_iload hx hb dX11_sheet_56 (lv_at hl 2 rfl) ?_
              refine rw_bipush hx hb dX11_sheet_58 (by decide) ?_
              refine rw_icmp_ge (tgt := 82) hx hb dX11_sheet_60 (by decide) (by omega) (by decide) (fun c_60 => ?_) (fun c_60 => ?_)
              · refine rw_iconst hx hb dX11_sheet_82 ?_
                refine rw_iret hx hb hr hlocks hW dX11_sheet_83 (⟨1, rfl, ?_⟩)
                exact Or.inl ⟨by omega, by omega, rfl, hl1, hl2, fun j q1 q2 => hcz j q1 (by omega), hfr⟩
              · refine lv_aload_n hx hb dX11_sheet_63 rfl (lv_at hl 0 rfl) ?_
                refine rw_getR hx hb hts hown hW 0 lm_0 26 13 rfl fX11_51 dX11_sheet_64 ?_
                refine rw_bipush hx hb dX11_sheet_67 (by decide) ?_
                refine lv_iload_n hx hb dX11_sheet_69 rfl (lv_at hl 1 rfl) ?_
                refine rw_imul hx hb dX11_sheet_70 ?_
                refine lv_iload hx hb dX11_sheet_71 (lv_at hl 2 rfl) ?_
                refine rw_iadd hx hb dX11_sheet_73 ?_
                refine rw_iconst hx hb dX11_sheet_74 ?_
                refine rw_iast hx hb hW hnt4 13 lm_13 (v := 0) (by omega) (by omega) (by decide) dX11_sheet_75 (fun H locs hW => ?_)
                obtain ⟨M11, hM11⟩ : ∃ z, z = upd2 Mx 13 ((40 * k) + i) 0 := ⟨_, rfl⟩
                rw [← hM11] at hW
                refine rw_iinc (lv' := [(4, .int (iN (i + 1))), (0, .ref (ad 0)), (1, .int (iN k))]) hx hb dX11_sheet_76 hl (k := 2) rfl (by decide) rfl (fun ls hl => ?_)
                refine lv_goto (tgt := 56) hx hb dX11_sheet_79 (by decide) ?_
                exact ih56 (i + 1) M11 H locs ls (by omega) (by omega) (by rw [hM11, upd2_ne1 (by decide)]; exact hl1) (by rw [hM11, upd2_ne1 (by decide)]; exact hl2) (fun j q1 q2 => by rw [hM11, upd2_at]; by_cases e : j = i; subst e; rw [if_pos ⟨rfl, rfl⟩]; rw [if_neg (by omega)]; exact hcz j q1 (by omega)) (fun q j z1 z2 z3 => by rw [hM11, upd2_at, if_neg (by omega)]; exact hfr q j z1 z2 z3) hW (lv_sub hl [1, 2, 0] rfl)
          exact hC_56 _ 0 M10 H locs ls (Nat.lt_succ_self _) (by omega) (by rw [hM10, hM9, upd2_ne1 (by decide), upd2_eq]) (by rw [hM10, hM9, upd2_eq]) (fun j q1 q2 => absurd q2 (by omega)) (fun q j z1 z2 z3 => by rw [hM10, hM9, upd2_at, if_neg z2, upd2_at, if_neg z1]) hW (lv_sub hl [1, 2, 0] rfl)
        · refine rw_bipush hx hb dX11_sheet_36 (by decide) ?_
          refine rw_iret hx hb hr hlocks hW dX11_sheet_38 (⟨(-14), rfl, ?_⟩)
          exact Or.inr (Or.inl ⟨by omega, by omega, rfl, rfl⟩)
      · refine rw_iconst hx hb dX11_sheet_30 ?_
        refine rw_iret hx hb hr hlocks hW dX11_sheet_31 (⟨(-1), rfl, ?_⟩)
        exact Or.inr (Or.inr ⟨by omega, rfl, rfl⟩)
    · refine rw_stk (st' := [.int (iN 0)]) rfl ?_
      refine rw_if_eq (tgt := 30) hx hb dX11_sheet_21 (by decide) (by decide) (fun _ => ?_) (fun c => absurd (by decide) c)
      refine rw_iconst hx hb dX11_sheet_30 ?_
      refine rw_iret hx hb hr hlocks hW dX11_sheet_31 (⟨(-1), rfl, ?_⟩)
      exact Or.inr (Or.inr ⟨by omega, rfl, rfl⟩)
  · refine rw_stk (st' := [.int (iN 0)]) rfl ?_
    refine rw_if_eq (tgt := 30) hx hb dX11_sheet_9 (by decide) (by decide) (fun _ => ?_) (fun c => absurd (by decide) c)
    refine rw_iconst hx hb dX11_sheet_30 ?_
    refine rw_iret hx hb hr hlocks hW dX11_sheet_31 (⟨(-1), rfl, ?_⟩)
    exact Or.inr (Or.inr ⟨by omega, rfl, rfl⟩)
abbrev P_X11_count (w : Int) (M : Mem) : Option Value → Mem → Prop := oI (fun zz MM => zz = (if w = 0 then M 0 22 else if w = 1 then M 10 0 + M 10 1 else if w = 2 then M 0 9 else if w = 3 then (if M 11 0 = -4 then -4 else M 12 0) else if w = 4 then sdF (pg M 0) 0 0 + restS (sdF (pg M 0) 0) else if w = 5 then sdF (pg M 0) 1 0 + restS (sdF (pg M 0) 1) else -1) ∧ MM = M)
set_option maxRecDepth 100000 in
set_option maxHeartbeats 4000000 in
theorem c_X11_count {l : Launch} {G : va_G} {ad : Nat → Nat} {CA : Nat → ClassId} {nt : Nat} (hnt : 6 ≤ nt) (w : Int) (hw9 : in32 w) (M : Mem) (hz : (M 10 0 = 0 ∨ M 10 0 = 1) ∧ (M 10 1 = 0 ∨ M 10 1 = 1)) (hla : in32 (M 11 0)) (hI : InvF (pg M 0)) : Mt l yX11_count cX11_count 2 (some .int) 2 44 G ad CA nt LyM [.ref (ad 0), .int (iN w)] M (P_X11_count w M) := by
  refine Mt.of (by decide) (Nat.le_of_ble_eq_true rfl) (fun p e s m args below meth c hx hb hr hml hts hown hlocks hnm hW ls hl => ?_)
  have hl : lv_has ls 2 [(0, .ref (ad 0)), (1, .int (iN w))] := hl
  have hnt4 : 4 ≤ nt := by omega
  obtain ⟨H, hH⟩ : ∃ z, z = s.heap := ⟨_, rfl⟩
  obtain ⟨locs, hlo⟩ : ∃ z : List Loc, z = [] := ⟨_, rfl⟩
  rw [← hH, ← hlo] at hW ⊢
  refine lv_iload_n hx hb dX11_count_0 rfl (lv_at hl 1 rfl) ?_
  rcases (show (w < 0 ∨ 5 < w) ∨ w = 0 ∨ w = 1 ∨ w = 2 ∨ w = 3 ∨ w = 4 ∨ w = 5 by omega) with c_1 | c_1 | c_1 | c_1 | c_1 | c_1 | c_1
  · refine rw_tswD (tgt := 131) hx hb dX11_count_1 (by omega) c_1 (by decide) ?_
    refine rw_iconst hx hb dX11_count_131 ?_
    refine rw_iret hx hb hr hlocks hW dX11_count_132 (⟨(-1), rfl, ?_⟩)
    refine ⟨?_, rfl⟩
    repeat' split
    all_goals first | rfl | omega
  · refine rw_tswK (tgt := 40) hx hb dX11_count_1 (by omega) 0 (by omega) rfl (by decide) ?_
    refine lv_aload_n hx hb dX11_count_40 rfl (lv_at hl 0 rfl) ?_
    refine rw_getI hx hb hts hown hW 0 lm_0 22 22 rfl rfl fX11_139 dX11_count_41 (v := (M 0 22)) rfl ?_
    refine rw_iret hx hb hr hlocks hW dX11_count_44 (⟨(M 0 22), rfl, ?_⟩)
    refine ⟨?_, rfl⟩
    repeat' split
    all_goals first | rfl | omega
  · refine rw_tswK (tgt := 45) hx hb dX11_count_1 (by omega) 1 (by omega) rfl (by decide) ?_
    refine lv_aload_n hx hb dX11_count_45 rfl (lv_at hl 0 rfl) ?_
    refine rw_getR hx hb hts hown hW 0 lm_0 23 10 rfl fX11_41 dX11_count_46 ?_
    refine rw_iconst hx hb dX11_count_49 ?_
    refine rw_zald hx hb hW hnt4 10 lm_10 (by omega) (by omega) (by decide) dX11_count_50 (v := (M 10 0)) rfl ?_
    refine rw_if_eq (tgt := 58) hx hb dX11_count_51 (by decide) (by omega) (fun c_51 => ?_) (fun c_51 => ?_)
    · refine rw_iconst hx hb dX11_count_58 ?_
      refine lv_aload_n hx hb dX11_count_59 rfl (lv_at hl 0 rfl) ?_
      refine rw_getR hx hb hts hown hW 0 lm_0 23 10 rfl fX11_41 dX11_count_60 ?_
      refine rw_iconst hx hb dX11_count_63 ?_
      refine rw_zald hx hb hW hnt4 10 lm_10 (by omega) (by omega) (by decide) dX11_count_64 (v := (M 10 1)) rfl ?_
      refine rw_if_eq (tgt := 72) hx hb dX11_count_65 (by decide) (by omega) (fun c_65 => ?_) (fun c_65 => ?_)
      · refine rw_iconst hx hb dX11_count_72 ?_
        refine rw_iadd hx hb dX11_count_73 ?_
        refine rw_stk (st' := [.int (iN 0)]) rfl ?_
        refine rw_iret hx hb hr hlocks hW dX11_count_74 (⟨0, rfl, ?_⟩)
        refine ⟨?_, rfl⟩
        repeat' split
        all_goals first | rfl | omega
      · refine rw_iconst hx hb dX11_count_68 ?_
        refine lv_goto (tgt := 73) hx hb dX11_count_69 (by decide) ?_
        refine rw_iadd hx hb dX11_count_73 ?_
        refine rw_stk (st' := [.int (iN 1)]) rfl ?_
        refine rw_iret hx hb hr hlocks hW dX11_count_74 (⟨1, rfl, ?_⟩)
        refine ⟨?_, rfl⟩
        repeat' split
        all_goals first | rfl | omega
    · refine rw_iconst hx hb dX11_count_54 ?_
      refine lv_goto (tgt := 59) hx hb dX11_count_55 (by decide) ?_
      refine lv_aload_n hx hb dX11_count_59 rfl (lv_at hl 0 rfl) ?_
      refine rw_getR hx hb hts hown hW 0 lm_0 23 10 rfl fX11_41 dX11_count_60 ?_
      refine rw_iconst hx hb dX11_count_63 ?_
      refine rw_zald hx hb hW hnt4 10 lm_10 (by omega) (by omega) (by decide) dX11_count_64 (v := (M 10 1)) rfl ?_
      refine rw_if_eq (tgt := 72) hx hb dX11_count_65 (by decide) (by omega) (fun c_65 => ?_) (fun c_65 => ?_)
      · refine rw_iconst hx hb dX11_count_72 ?_
        refine rw_iadd hx hb dX11_count_73 ?_
        refine rw_stk (st' := [.int (iN 1)]) rfl ?_
        refine rw_iret hx hb hr hlocks hW dX11_count_74 (⟨1, rfl, ?_⟩)
        refine ⟨?_, rfl⟩
        repeat' split
        all_goals first | rfl | omega
      · refine rw_iconst hx hb dX11_count_68 ?_
        refine lv_goto (tgt := 73) hx hb dX11_count_69 (by decide) ?_
        refine rw_iadd hx hb dX11_count_73 ?_
        refine rw_stk (st' := [.int (iN 2)]) rfl ?_
        refine rw_iret hx hb hr hlocks hW dX11_count_74 (⟨2, rfl, ?_⟩)
        refine ⟨?_, rfl⟩
        repeat' split
        all_goals first | rfl | omega
  · refine rw_tswK (tgt := 75) hx hb dX11_count_1 (by omega) 2 (by omega) rfl (by decide) ?_
    refine lv_aload_n hx hb dX11_count_75 rfl (lv_at hl 0 rfl) ?_
    refine rw_getI hx hb hts hown hW 0 lm_0 9 9 rfl rfl fX11_54 dX11_count_76 (v := (M 0 9)) rfl ?_
    refine rw_iret hx hb hr hlocks hW dX11_count_79 (⟨(M 0 9), rfl, ?_⟩)
    refine ⟨?_, rfl⟩
    repeat' split
    all_goals first | rfl | omega
  · refine rw_tswK (tgt := 80) hx hb dX11_count_1 (by omega) 3 (by omega) rfl (by decide) ?_
    refine lv_aload_n hx hb dX11_count_80 rfl (lv_at hl 0 rfl) ?_
    refine rw_getR hx hb hts hown hW 0 lm_0 24 11 rfl fX11_45 dX11_count_81 ?_
    refine rw_iconst hx hb dX11_count_84 ?_
    refine rw_iald hx hb hW hnt4 11 lm_11 (by omega) (by omega) (by decide) dX11_count_85 (v := (M 11 0)) rfl ?_
    refine rw_bipush hx hb dX11_count_86 (by decide) ?_
    refine rw_icmp_ne (tgt := 96) hx hb dX11_count_88 (by decide) (by omega) (by decide) (fun c_88 => ?_) (fun c_88 => ?_)
    · refine lv_aload_n hx hb dX11_count_96 rfl (lv_at hl 0 rfl) ?_
      refine rw_getR hx hb hts hown hW 0 lm_0 25 12 rfl fX11_48 dX11_count_97 ?_
      refine rw_iconst hx hb dX11_count_100 ?_
      refine rw_iald hx hb hW hnt4 12 lm_12 (by omega) (by omega) (by decide) dX11_count_101 (v := (M 12 0)) rfl ?_
      refine rw_iret hx hb hr hlocks hW dX11_count_102 (⟨(M 12 0), rfl, ?_⟩)
      refine ⟨?_, rfl⟩
      repeat' split
      all_goals first | rfl | omega
    · refine rw_bipush hx hb dX11_count_91 (by decide) ?_
      refine lv_goto (tgt := 102) hx hb dX11_count_93 (by decide) ?_
      refine rw_iret hx hb hr hlocks hW dX11_count_102 (⟨(-4), rfl, ?_⟩)
      refine ⟨?_, rfl⟩
      repeat' split
      all_goals first | rfl | omega
  · refine rw_tswK (tgt := 103) hx hb dX11_count_1 (by omega) 4 (by omega) rfl (by decide) ?_
    refine lv_aload_n hx hb dX11_count_103 rfl (lv_at hl 0 rfl) ?_
    refine rw_iconst hx hb dX11_count_104 ?_
    refine rw_iconst hx hb dX11_count_105 ?_
    refine rw_iconst hx hb dX11_count_106 ?_
    refine rw_callV hx hb hml hts hown hW ⟨Nat.le_refl 0, Nat.le_refl 0⟩ [.int (iN 0), .int (iN 0), .int (iN 0)] 0 lm_0 rfl (c_X11_ofSide (l := l) (G := G) (ad := ad) (CA := CA) (nt := nt) (by omega) 0 (by first | omega | decide) 0 (by first | omega | decide) 0 (by first | omega | decide) M) kX11_156 rfl ⟨Nat.le_of_ble_eq_true rfl, Nat.le_of_ble_eq_true rfl⟩ hl.1 rfl (Nat.le_of_ble_eq_true rfl) dX11_count_107 (fun v1 M2 H locs hp3 hW => ?_)
    obtain ⟨_, rfl, rfl, hp3⟩ := hp3
    rw [hp3] at hW
    refine rw_stk (st' := [.int (iN (sdF (pg M 0) 0 0))]) rfl ?_
    refine lv_aload_n hx hb dX11_count_110 rfl (lv_at hl 0 rfl) ?_
    refine rw_iconst hx hb dX11_count_111 ?_
    refine rw_callV hx hb hml hts hown hW ⟨Nat.le_refl 0, Nat.le_refl 0⟩ [.int (iN 0)] 0 lm_0 rfl (c_X11_resting (l := l) (G := G) (ad := ad) (CA := CA) (nt := nt) (by omega) 0 (by first | omega | decide) M) kX11_170 rfl ⟨Nat.le_of_ble_eq_true rfl, Nat.le_of_ble_eq_true rfl⟩ hl.1 rfl (Nat.le_of_ble_eq_true rfl) dX11_count_112 (fun v4 M5 H locs hp6 hW => ?_)
    obtain ⟨_, rfl, rfl, hp6⟩ := hp6
    rw [hp6] at hW
    refine rw_stk (st' := [.int (iN (restS (sdF (pg M 0) 0))), .int (iN (sdF (pg M 0) 0 0))]) rfl ?_
    refine rw_iadd hx hb dX11_count_115 ?_
    refine rw_iret hx hb hr hlocks hW dX11_count_116 (⟨(sdF (pg M 0) 0 0) + (restS (sdF (pg M 0) 0)), rfl, ?_⟩)
    refine ⟨?_, rfl⟩
    repeat' split
    all_goals first | rfl | omega
  · refine rw_tswK (tgt := 117) hx hb dX11_count_1 (by omega) 5 (by omega) rfl (by decide) ?_
    refine lv_aload_n hx hb dX11_count_117 rfl (lv_at hl 0 rfl) ?_
    refine rw_iconst hx hb dX11_count_118 ?_
    refine rw_iconst hx hb dX11_count_119 ?_
    refine rw_iconst hx hb dX11_count_120 ?_
    refine rw_callV hx hb hml hts hown hW ⟨Nat.le_refl 0, Nat.le_refl 0⟩ [.int (iN 0), .int (iN 1), .int (iN 0)] 0 lm_0 rfl (c_X11_ofSide (l := l) (G := G) (ad := ad) (CA := CA) (nt := nt) (by omega) 0 (by first | omega | decide) 1 (by first | omega | decide) 0 (by first | omega | decide) M) kX11_156 rfl ⟨Nat.le_of_ble_eq_true rfl, Nat.le_of_ble_eq_true rfl⟩ hl.1 rfl (Nat.le_of_ble_eq_true rfl) dX11_count_121 (fun v7 M8 H locs hp9 hW => ?_)
    obtain ⟨_, rfl, rfl, hp9⟩ := hp9
    rw [hp9] at hW
    refine rw_stk (st' := [.int (iN (sdF (pg M 0) 1 0))]) rfl ?_
    refine lv_aload_n hx hb dX11_count_124 rfl (lv_at hl 0 rfl) ?_
    refine rw_iconst hx hb dX11_count_125 ?_
    refine rw_callV hx hb hml hts hown hW ⟨Nat.le_refl 0, Nat.le_refl 0⟩ [.int (iN 1)] 0 lm_0 rfl (c_X11_resting (l := l) (G := G) (ad := ad) (CA := CA) (nt := nt) (by omega) 1 (by first | omega | decide) M) kX11_170 rfl ⟨Nat.le_of_ble_eq_true rfl, Nat.le_of_ble_eq_true rfl⟩ hl.1 rfl (Nat.le_of_ble_eq_true rfl) dX11_count_126 (fun v10 M11 H locs hp12 hW => ?_)
    obtain ⟨_, rfl, rfl, hp12⟩ := hp12
    rw [hp12] at hW
    refine rw_stk (st' := [.int (iN (restS (sdF (pg M 0) 1))), .int (iN (sdF (pg M 0) 1 0))]) rfl ?_
    refine rw_iadd hx hb dX11_count_129 ?_
    refine rw_iret hx hb hr hlocks hW dX11_count_130 (⟨(sdF (pg M 0) 1 0) + (restS (sdF (pg M 0) 1)), rfl, ?_⟩)
    refine ⟨?_, rfl⟩
    repeat' split
    all_goals first | rfl | omega
abbrev P_X11_lowest (u : Int) (v : Int) (w : Int) (M : Mem) : Option Value → Mem → Prop := oL (fun zz MM => zz = fracF u v w ∧ MM = M)
set_option maxRecDepth 100000 in
set_option maxHeartbeats 4000000 in
theorem c_X11_lowest {l : Launch} {G : va_G} {ad : Nat → Nat} {CA : Nat → ClassId} {nt : Nat} (u : Int) (v : Int) (w : Int) (hu : 0 ≤ u ∧ u ≤ 1073741824) (hv : 0 < v ∧ v ≤ 1073741824) (hw : w = 0 ∨ w = 1) (M : Mem) : Mt l yX11_lowest cX11_lowest 11 (some .long) 0 0 G ad CA nt LyM [.long (jN u), .long (jN v), .int (iN w)] M (P_X11_lowest u v w M) := by
  refine Mt.of (by decide) (Nat.le_of_ble_eq_true rfl) (fun p e s m args below meth c hx hb hr hml hts hown hlocks hnm hW ls hl => ?_)
  have hl : lv_has ls 11 [(0, .long (jN u)), (2, .long (jN v)), (4, .int (iN w))] := hl
  obtain ⟨H, hH⟩ : ∃ z, z = s.heap := ⟨_, rfl⟩
  obtain ⟨locs, hlo⟩ : ∃ z : List Loc, z = [] := ⟨_, rfl⟩
  rw [← hH, ← hlo] at hW ⊢
  have hgp := gcdI_pos (a := u) hv.1
  have hgl := gcdI_le (a := u) hv.1
  have hC_6 : ∀ N : Nat, ∀ (a : Int) (b : Int) (H : Heap) (locs : List Loc) (ls : Array Slot), b.toNat < N → (0 ≤ a ∧ a ≤ 1073741824) → (0 ≤ b ∧ b ≤ 1073741824) → (gcdI a b = gcdI u v) → Wo G ad CA nt LyM (wA ad LyM) s M H locs → lv_has ls 11 [(0, .long (jN u)), (2, .long (jN v)), (4, .int (iN w)), (5, .long (jN a)), (7, .long (jN b))] → Wf l 0 0 G ad CA nt LyM (P_X11_lowest u v w M) p e s m args below meth c H locs (F0 m 6 ls []) := by
    intro N
    induction N with
    | zero => intro a b H locs ls hN; exact absurd hN (Nat.not_lt_zero _)
    | succ N ih6 =>
      intro a b H locs ls hN ha hb1 hg hW hl
      refine lv_lload hx hb dX11_lowest_6 (lv_at hl 4 rfl) ?_
      refine lv_lconst (v := jN 0) hx hb dX11_lowest_8 rfl ?_
      refine rw_lcmp_eq (tgt := 31) hx hb dX11_lowest_9 dX11_lowest_10 (by decide) (by omega) (by decide) (fun c_9 => ?_) (fun c_9 => ?_)
      · have hb0 : b = 0 := by omega
        rw [hb0, gcdI_0 ha.1] at hg
        refine lv_iload hx hb dX11_lowest_31 (lv_at hl 2 rfl) ?_
        refine rw_if_ne (tgt := 40) hx hb dX11_lowest_33 (by decide) (by omega) (fun c_33 => ?_) (fun c_33 => ?_)
        · refine lv_lload_n hx hb dX11_lowest_40 rfl (lv_at hl 1 rfl) ?_
          refine lv_lload hx hb dX11_lowest_41 (lv_at hl 3 rfl) ?_
          refine rw_ldiv hx hb dX11_lowest_43 (by omega) (by omega) (by omega) (by omega) ?_
          refine rw_lret hx hb hr hlocks hW dX11_lowest_44 (⟨v / a, rfl, ?_⟩)
          refine ⟨?_, rfl⟩
          unfold fracF
          rw [← hg]
          first | rw [if_pos (by omega)] | rw [if_neg (by omega)]
        · refine lv_lload_n hx hb dX11_lowest_36 rfl (lv_at hl 0 rfl) ?_
          refine lv_goto (tgt := 41) hx hb dX11_lowest_37 (by decide) ?_
          refine lv_lload hx hb dX11_lowest_41 (lv_at hl 3 rfl) ?_
          refine rw_ldiv hx hb dX11_lowest_43 (by omega) (by omega) (by omega) (by omega) ?_
          refine rw_lret hx hb hr hlocks hW dX11_lowest_44 (⟨u / a, rfl, ?_⟩)
          refine ⟨?_, rfl⟩
          unfold fracF
          rw [← hg]
          first | rw [if_pos (by omega)] | rw [if_neg (by omega)]
      · have hr1 := Int.emod_nonneg a (show b ≠ 0 by omega)
        have hr2 := Int.emod_lt_of_pos a (show 0 < b by omega)
        refine lv_lload hx hb dX11_lowest_13 (lv_at hl 3 rfl) ?_
        refine lv_lload hx hb dX11_lowest_15 (lv_at hl 4 rfl) ?_
        refine rw_lrem hx hb dX11_lowest_17 (by omega) (by omega) (by omega) (by omega) ?_
        refine lv_lstore (lv' := [(9, .long (jN (a % b))), (0, .long (jN u)), (2, .long (jN v)), (4, .int (iN w)), (5, .long (jN a)), (7, .long (jN b))]) hx hb dX11_lowest_18 hl (by decide) rfl (fun ls hl => ?_)
        refine lv_lload hx hb dX11_lowest_20 (lv_at hl 5 rfl) ?_
        refine lv_lstore (lv' := [(5, .long (jN b)), (9, .long (jN (a % b))), (0, .long (jN u)), (2, .long (jN v)), (4, .int (iN w)), (7, .long (jN b))]) hx hb dX11_lowest_22 hl (by decide) rfl (fun ls hl => ?_)
        refine lv_lload hx hb dX11_lowest_24 (lv_at hl 1 rfl) ?_
        refine lv_lstore (lv' := [(7, .long (jN (a % b))), (5, .long (jN b)), (9, .long (jN (a % b))), (0, .long (jN u)), (2, .long (jN v)), (4, .int (iN w))]) hx hb dX11_lowest_26 hl (by decide) rfl (fun ls hl => ?_)
        refine lv_goto (tgt := 6) hx hb dX11_lowest_28 (by decide) ?_
        exact ih6 b (a % b) H locs ls (by omega) (by omega) (by omega) (by rw [gcdI_step (by omega) (by omega)]; exact hg) hW (lv_sub hl [3, 4, 5, 1, 0] rfl)
  refine lv_lload_n hx hb dX11_lowest_0 rfl (lv_at hl 0 rfl) ?_
  refine lv_lstore (lv' := [(5, .long (jN u)), (0, .long (jN u)), (2, .long (jN v)), (4, .int (iN w))]) hx hb dX11_lowest_1 hl (by decide) rfl (fun ls hl => ?_)
  refine lv_lload_n hx hb dX11_lowest_3 rfl (lv_at hl 2 rfl) ?_
  refine lv_lstore (lv' := [(7, .long (jN v)), (5, .long (jN u)), (0, .long (jN u)), (2, .long (jN v)), (4, .int (iN w))]) hx hb dX11_lowest_4 hl (by decide) rfl (fun ls hl => ?_)
  exact hC_6 _ u v H locs ls (Nat.lt_succ_self _) (by omega) (by omega) rfl hW (lv_sub hl [2, 3, 4, 1, 0] rfl)
abbrev P_X11_eights (n : Int) (M : Mem) : Option Value → Mem → Prop := oL (fun zz MM => zz = pow8 n ∧ MM = M)
set_option maxRecDepth 100000 in
set_option maxHeartbeats 4000000 in
theorem c_X11_eights {l : Launch} {G : va_G} {ad : Nat → Nat} {CA : Nat → ClassId} {nt : Nat} (n : Int) (hn : 0 ≤ n ∧ n ≤ 8) (M : Mem) : Mt l yX11_eights cX11_eights 4 (some .long) 0 0 G ad CA nt LyM [.int (iN n)] M (P_X11_eights n M) := by
  refine Mt.of (by decide) (Nat.le_of_ble_eq_true rfl) (fun p e s m args below meth c hx hb hr hml hts hown hlocks hnm hW ls hl => ?_)
  have hl : lv_has ls 4 [(0, .int (iN n))] := hl
  obtain ⟨H, hH⟩ : ∃ z, z = s.heap := ⟨_, rfl⟩
  obtain ⟨locs, hlo⟩ : ∃ z : List Loc, z = [] := ⟨_, rfl⟩
  rw [← hH, ← hlo] at hW ⊢
  have hC_4 : ∀ N : Nat, ∀ (k : Int) (a : Int) (H : Heap) (locs : List Loc) (ls : Array Slot), (n - k).toNat < N → (0 ≤ k ∧ k ≤ n) → (a = pow8 k) → Wo G ad CA nt LyM (wA ad LyM) s M H locs → lv_has ls 4 [(0, .int (iN n)), (1, .long (jN a)), (3, .int (iN k))] → Wf l 0 0 G ad CA nt LyM (P_X11_eights n M) p e s m args below meth c H locs (F0 m 4 ls []) := by
    intro N
    induction N with
    | zero => intro k a H locs ls hN; exact absurd hN (Nat.not_lt_zero _)
    | succ N ih4 =>
      intro k a H locs ls hN hk ha hW hl
      refine lv_iload_n hx hb dX11_eights_4 rfl (lv_at hl 2 rfl) ?_
      refine lv_iload_n hx hb dX11_eights_5 rfl (lv_at hl 0 rfl) ?_
      refine rw_icmp_ge (tgt := 21) hx hb dX11_eights_6 (by decide) (by omega) (by omega) (fun c_6 => ?_) (fun c_6 => ?_)
      · refine lv_lload_n hx hb dX11_eights_21 rfl (lv_at hl 1 rfl) ?_
        refine rw_lret hx hb hr hlocks hW dX11_eights_22 (⟨a, rfl, ?_⟩)
        exact ⟨by rw [ha, show k = n by omega], rfl⟩
      · refine lv_lload_n hx hb dX11_eights_9 rfl (lv_at hl 1 rfl) ?_
        refine lv_ldc2 (v := 8) hx hb hown (hts _ (wm_17 _ (List.mem_of_getElem? (i := 11) rfl))) dX11_eights_10 ?_
        refine rw_stk (st' := [.long (jN 8), .long (jN a)]) (by rw [show (8 : Int64) = jN 8 from by decide]) ?_
        refine rw_lmul hx hb dX11_eights_13 ?_
        refine lv_lstore_n (lv' := [(1, .long (jN (a * 8))), (0, .int (iN n)), (3, .int (iN k))]) hx hb dX11_eights_14 rfl hl (by decide) rfl (fun ls hl => ?_)
        refine rw_iinc (lv' := [(3, .int (iN (k + 1))), (1, .long (jN (a * 8))), (0, .int (iN n))]) hx hb dX11_eights_15 hl (k := 2) rfl (by decide) rfl (fun ls hl => ?_)
        refine lv_goto (tgt := 4) hx hb dX11_eights_18 (by decide) ?_
        exact ih4 (k + 1) (a * 8) H locs ls (by omega) (by omega) (by rw [ha, pow8_S hk.1]) hW (lv_sub hl [2, 1, 0] rfl)
  refine lv_lconst (v := jN 1) hx hb dX11_eights_0 rfl ?_
  refine lv_lstore_n (lv' := [(1, .long (jN 1)), (0, .int (iN n))]) hx hb dX11_eights_1 rfl hl (by decide) rfl (fun ls hl => ?_)
  refine rw_iconst hx hb dX11_eights_2 ?_
  refine lv_istore_n (lv' := [(3, .int (iN 0)), (1, .long (jN 1)), (0, .int (iN n))]) hx hb dX11_eights_3 rfl hl (by decide) rfl (fun ls hl => ?_)
  exact hC_4 _ 0 1 H locs ls (Nat.lt_succ_self _) (by omega) rfl hW (lv_sub hl [2, 1, 0] rfl)
