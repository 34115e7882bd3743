abbrev P_X0_sideOf (ad : Nat → Nat) (o : Nat) (sx : Int) (M : Mem) : Option Value → Mem → Prop := oR ad (fun zz MM => zz = (if sx = 0 then o + 4 else o + 6) ∧ MM = M)
set_option maxRecDepth 100000 in
set_option maxHeartbeats 4000000 in
theorem c_X0_sideOf {l : Launch} {G : va_G} {ad : Nat → Nat} {CA : Nat → ClassId} {nt : Nat} {Ly : List LD} (o : Nat) (hF : FAt Ly o) (sx : Int) (hs1 : in32 sx) (M : Mem) : Mt l yX0_sideOf cX0_sideOf 2 (some (.object "KegBrooks$Side")) 0 0 G ad CA nt Ly [.ref (ad o), .int (iN sx)] M (P_X0_sideOf ad o sx M) := by
  refine Mt.of (by decide) (Nat.le_of_ble_eq_true rfl) (fun p e s m args below meth c hx hb hr hml hts hown hlocks hnm hW ls hl => ?_)
  have hl : lv_has ls 2 [(0, .ref (ad o)), (1, .int (iN sx))] := hl
  obtain ⟨H, hH⟩ : ∃ z, z = s.heap := ⟨_, rfl⟩
  obtain ⟨locs, hlo⟩ : ∃ z : List Loc, z = [] := ⟨_, rfl⟩
  rw [← hH, ← hlo] at hW ⊢
  refine lv_iload_n hx hb dX0_sideOf_0 rfl (lv_at hl 1 rfl) ?_
  refine rw_if_ne (tgt := 11) hx hb dX0_sideOf_1 (by decide) (by omega) (fun c_1 => ?_) (fun c_1 => ?_)
  · refine lv_aload_n hx hb dX0_sideOf_11 rfl (lv_at hl 0 rfl) ?_
    refine rw_getR hx hb hts hown hW o hF.1 9 (o + 6) rfl fX0_28 dX0_sideOf_12 ?_
    refine rw_aret hx hb hr hlocks hW dX0_sideOf_15 (Or.inr ⟨_, rfl⟩) (⟨o + 6, rfl, ?_⟩)
    exact ⟨by rw [if_neg (by omega)], rfl⟩
  · refine lv_aload_n hx hb dX0_sideOf_4 rfl (lv_at hl 0 rfl) ?_
    refine rw_getR hx hb hts hown hW o hF.1 8 (o + 4) rfl fX0_24 dX0_sideOf_5 ?_
    refine lv_goto (tgt := 15) hx hb dX0_sideOf_8 (by decide) ?_
    refine rw_aret hx hb hr hlocks hW dX0_sideOf_15 (Or.inr ⟨_, rfl⟩) (⟨o + 4, rfl, ?_⟩)
    exact ⟨by rw [if_pos (by omega)], rfl⟩
abbrev P_X0_hasCell (o : Nat) (i : Int) (M : Mem) : Option Value → Mem → Prop := oI (fun zz MM => BP (0 ≤ i ∧ i < M o 0) zz ∧ MM = M)
set_option maxRecDepth 100000 in
set_option maxHeartbeats 4000000 in
theorem c_X0_hasCell {l : Launch} {G : va_G} {ad : Nat → Nat} {CA : Nat → ClassId} {nt : Nat} {Ly : List LD} (o : Nat) (hF : FAt Ly o) (i : Int) (hi : in32 i) (M : Mem) (hc : 3 ≤ M o 0 ∧ M o 0 ≤ 9) : Mt l yX0_hasCell cX0_hasCell 2 (some .boolean) 0 0 G ad CA nt Ly [.ref (ad o), .int (iN i)] M (P_X0_hasCell o i M) := by
  refine Mt.of (by decide) (Nat.le_of_ble_eq_true rfl) (fun p e s m args below meth c hx hb hr hml hts hown hlocks hnm hW ls hl => ?_)
  have hl : lv_has ls 2 [(0, .ref (ad o)), (1, .int (iN i))] := hl
  obtain ⟨H, hH⟩ : ∃ z, z = s.heap := ⟨_, rfl⟩
  obtain ⟨locs, hlo⟩ : ∃ z : List Loc, z = [] := ⟨_, rfl⟩
  rw [← hH, ← hlo] at hW ⊢
  refine lv_iload_n hx hb dX0_hasCell_0 rfl (lv_at hl 1 rfl) ?_
  refine rw_if_lt (tgt := 22) hx hb dX0_hasCell_1 (by decide) (by omega) (fun c_1 => ?_) (fun c_1 => ?_)
  · refine rw_iconst hx hb dX0_hasCell_22 ?_
    refine rw_zret hx hb hr hlocks hW dX0_hasCell_23 (Or.inl rfl) (⟨0, rfl, ?_⟩)
    first | exact ⟨Or.inl ⟨rfl, by omega⟩, rfl⟩ | exact ⟨Or.inr ⟨rfl, by omega⟩, rfl⟩
  · refine lv_iload_n hx hb dX0_hasCell_4 rfl (lv_at hl 1 rfl) ?_
    refine lv_aload_n hx hb dX0_hasCell_5 rfl (lv_at hl 0 rfl) ?_
    refine rw_getI hx hb hts hown hW o hF.1 0 0 rfl rfl fX0_34 dX0_hasCell_6 (v := (M o 0)) rfl ?_
    refine rw_icmp_ge (tgt := 22) hx hb dX0_hasCell_9 (by decide) (by omega) (by omega) (fun c_9 => ?_) (fun c_9 => ?_)
    · refine rw_iconst hx hb dX0_hasCell_22 ?_
      refine rw_zret hx hb hr hlocks hW dX0_hasCell_23 (Or.inl rfl) (⟨0, rfl, ?_⟩)
      first | exact ⟨Or.inl ⟨rfl, by omega⟩, rfl⟩ | exact ⟨Or.inr ⟨rfl, by omega⟩, rfl⟩
    · refine lv_iload_n hx hb dX0_hasCell_12 rfl (lv_at hl 1 rfl) ?_
      refine rw_bipush hx hb dX0_hasCell_13 (by decide) ?_
      refine rw_icmp_ge (tgt := 22) hx hb dX0_hasCell_15 (by decide) (by omega) (by decide) (fun c_15 => ?_) (fun c_15 => ?_)
      · refine rw_iconst hx hb dX0_hasCell_22 ?_
        refine rw_zret hx hb hr hlocks hW dX0_hasCell_23 (Or.inl rfl) (⟨0, rfl, ?_⟩)
        first | exact ⟨Or.inl ⟨rfl, by omega⟩, rfl⟩ | exact ⟨Or.inr ⟨rfl, by omega⟩, rfl⟩
      · refine rw_iconst hx hb dX0_hasCell_18 ?_
        refine lv_goto (tgt := 23) hx hb dX0_hasCell_19 (by decide) ?_
        refine rw_zret hx hb hr hlocks hW dX0_hasCell_23 (Or.inr rfl) (⟨1, rfl, ?_⟩)
        first | exact ⟨Or.inl ⟨rfl, by omega⟩, rfl⟩ | exact ⟨Or.inr ⟨rfl, by omega⟩, rfl⟩
abbrev P_X0_hasPlace (o : Nat) (i : Int) (M : Mem) : Option Value → Mem → Prop := oI (fun zz MM => BP ((0 ≤ i ∧ i < M o 0) ∨ i = 20 ∨ i = 21) zz ∧ MM = M)
set_option maxRecDepth 100000 in
set_option maxHeartbeats 4000000 in
theorem c_X0_hasPlace {l : Launch} {G : va_G} {ad : Nat → Nat} {CA : Nat → ClassId} {nt : Nat} {Ly : List LD} (o : Nat) (hF : FAt Ly o) (i : Int) (hi : in32 i) (M : Mem) (hc : 3 ≤ M o 0 ∧ M o 0 ≤ 9) : Mt l yX0_hasPlace cX0_hasPlace 2 (some .boolean) 1 21 G ad CA nt Ly [.ref (ad o), .int (iN i)] M (P_X0_hasPlace o i M) := by
  refine Mt.of (by decide) (Nat.le_of_ble_eq_true rfl) (fun p e s m args below meth c hx hb hr hml hts hown hlocks hnm hW ls hl => ?_)
  have hl : lv_has ls 2 [(0, .ref (ad o)), (1, .int (iN i))] := hl
  obtain ⟨H, hH⟩ : ∃ z, z = s.heap := ⟨_, rfl⟩
  obtain ⟨locs, hlo⟩ : ∃ z : List Loc, z = [] := ⟨_, rfl⟩
  rw [← hH, ← hlo] at hW ⊢
  refine lv_aload_n hx hb dX0_hasPlace_0 rfl (lv_at hl 0 rfl) ?_
  refine lv_iload_n hx hb dX0_hasPlace_1 rfl (lv_at hl 1 rfl) ?_
  refine rw_callV hx hb hml hts hown hW ⟨Nat.le_refl 0, Nat.le_refl 0⟩ [.int (iN i)] o hF.1 rfl (c_X0_hasCell (l := l) (G := G) (ad := ad) (CA := CA) (nt := nt) o hF i (by omega) M hc) kX0_61 rfl ⟨Nat.le_of_ble_eq_true rfl, Nat.le_of_ble_eq_true rfl⟩ hl.1 rfl (Nat.le_of_ble_eq_true rfl) dX0_hasPlace_2 (fun v1 M2 H locs hp3 hW => ?_)
  obtain ⟨a4, rfl, hp3, hp3m⟩ := hp3
  rw [hp3m] at hW
  rcases hp3 with ⟨rfl, hp3⟩ | ⟨rfl, hp3⟩
  · refine rw_stk (st' := [.int (iN 1)]) rfl ?_
    refine rw_if_ne (tgt := 20) hx hb dX0_hasPlace_5 (by decide) (by decide) (fun _ => ?_) (fun c => absurd c (by decide))
    refine rw_iconst hx hb dX0_hasPlace_20 ?_
    refine lv_goto (tgt := 25) hx hb dX0_hasPlace_21 (by decide) ?_
    refine rw_zret hx hb hr hlocks hW dX0_hasPlace_25 (Or.inr rfl) (⟨1, rfl, ?_⟩)
    first | exact ⟨Or.inl ⟨rfl, by omega⟩, rfl⟩ | exact ⟨Or.inr ⟨rfl, by omega⟩, rfl⟩
  · refine rw_stk (st' := [.int (iN 0)]) rfl ?_
    refine rw_if_ne (tgt := 20) hx hb dX0_hasPlace_5 (by decide) (by decide) (fun c => absurd c (by decide)) (fun _ => ?_)
    refine lv_iload_n hx hb dX0_hasPlace_8 rfl (lv_at hl 1 rfl) ?_
    refine rw_bipush hx hb dX0_hasPlace_9 (by decide) ?_
    refine rw_icmp_eq (tgt := 20) hx hb dX0_hasPlace_11 (by decide) (by omega) (by decide) (fun c_11 => ?_) (fun c_11 => ?_)
    · refine rw_iconst hx hb dX0_hasPlace_20 ?_
      refine lv_goto (tgt := 25) hx hb dX0_hasPlace_21 (by decide) ?_
      refine rw_zret hx hb hr hlocks hW dX0_hasPlace_25 (Or.inr rfl) (⟨1, rfl, ?_⟩)
      first | exact ⟨Or.inl ⟨rfl, by omega⟩, rfl⟩ | exact ⟨Or.inr ⟨rfl, by omega⟩, rfl⟩
    · refine lv_iload_n hx hb dX0_hasPlace_14 rfl (lv_at hl 1 rfl) ?_
      refine rw_bipush hx hb dX0_hasPlace_15 (by decide) ?_
      refine rw_icmp_ne (tgt := 24) hx hb dX0_hasPlace_17 (by decide) (by omega) (by decide) (fun c_17 => ?_) (fun c_17 => ?_)
      · refine rw_iconst hx hb dX0_hasPlace_24 ?_
        refine rw_zret hx hb hr hlocks hW dX0_hasPlace_25 (Or.inl rfl) (⟨0, rfl, ?_⟩)
        first | exact ⟨Or.inl ⟨rfl, by omega⟩, rfl⟩ | exact ⟨Or.inr ⟨rfl, by omega⟩, rfl⟩
      · refine rw_iconst hx hb dX0_hasPlace_20 ?_
        refine lv_goto (tgt := 25) hx hb dX0_hasPlace_21 (by decide) ?_
        refine rw_zret hx hb hr hlocks hW dX0_hasPlace_25 (Or.inr rfl) (⟨1, rfl, ?_⟩)
        first | exact ⟨Or.inl ⟨rfl, by omega⟩, rfl⟩ | exact ⟨Or.inr ⟨rfl, by omega⟩, rfl⟩
abbrev P_X0_isOver (o : Nat) (M : Mem) : Option Value → Mem → Prop := oI (fun zz MM => BP (M o 0 ≤ M o 1) zz ∧ MM = M)
set_option maxRecDepth 100000 in
set_option maxHeartbeats 4000000 in
theorem c_X0_isOver {l : Launch} {G : va_G} {ad : Nat → Nat} {CA : Nat → ClassId} {nt : Nat} {Ly : List LD} (o : Nat) (hF : FAt Ly o) (M : Mem) (hc : 3 ≤ M o 0 ∧ M o 0 ≤ 9) (hk : 0 ≤ M o 1 ∧ M o 1 ≤ 21) : Mt l yX0_isOver cX0_isOver 1 (some .boolean) 0 0 G ad CA nt Ly [.ref (ad o)] M (P_X0_isOver o M) := by
  refine Mt.of (by decide) (Nat.le_of_ble_eq_true rfl) (fun p e s m args below meth c hx hb hr hml hts hown hlocks hnm hW ls hl => ?_)
  have hl : lv_has ls 1 [(0, .ref (ad o))] := hl
  obtain ⟨H, hH⟩ : ∃ z, z = s.heap := ⟨_, rfl⟩
  obtain ⟨locs, hlo⟩ : ∃ z : List Loc, z = [] := ⟨_, rfl⟩
  rw [← hH, ← hlo] at hW ⊢
  refine lv_aload_n hx hb dX0_isOver_0 rfl (lv_at hl 0 rfl) ?_
  refine rw_getI hx hb hts hown hW o hF.1 1 1 rfl rfl fX0_38 dX0_isOver_1 (v := (M o 1)) rfl ?_
  refine rw_if_lt (tgt := 27) hx hb dX0_isOver_4 (by decide) (by omega) (fun c_4 => ?_) (fun c_4 => ?_)
  · refine rw_iconst hx hb dX0_isOver_27 ?_
    refine lv_goto (tgt := 32) hx hb dX0_isOver_28 (by decide) ?_
    refine rw_zret hx hb hr hlocks hW dX0_isOver_32 (Or.inr rfl) (⟨1, rfl, ?_⟩)
    first | exact ⟨Or.inl ⟨rfl, by omega⟩, rfl⟩ | exact ⟨Or.inr ⟨rfl, by omega⟩, rfl⟩
  · refine lv_aload_n hx hb dX0_isOver_7 rfl (lv_at hl 0 rfl) ?_
    refine rw_getI hx hb hts hown hW o hF.1 1 1 rfl rfl fX0_38 dX0_isOver_8 (v := (M o 1)) rfl ?_
    refine lv_aload_n hx hb dX0_isOver_11 rfl (lv_at hl 0 rfl) ?_
    refine rw_getI hx hb hts hown hW o hF.1 0 0 rfl rfl fX0_34 dX0_isOver_12 (v := (M o 0)) rfl ?_
    refine rw_icmp_ge (tgt := 27) hx hb dX0_isOver_15 (by decide) (by omega) (by omega) (fun c_15 => ?_) (fun c_15 => ?_)
    · refine rw_iconst hx hb dX0_isOver_27 ?_
      refine lv_goto (tgt := 32) hx hb dX0_isOver_28 (by decide) ?_
      refine rw_zret hx hb hr hlocks hW dX0_isOver_32 (Or.inr rfl) (⟨1, rfl, ?_⟩)
      first | exact ⟨Or.inl ⟨rfl, by omega⟩, rfl⟩ | exact ⟨Or.inr ⟨rfl, by omega⟩, rfl⟩
    · refine lv_aload_n hx hb dX0_isOver_18 rfl (lv_at hl 0 rfl) ?_
      refine rw_getI hx hb hts hown hW o hF.1 1 1 rfl rfl fX0_38 dX0_isOver_19 (v := (M o 1)) rfl ?_
      refine rw_bipush hx hb dX0_isOver_22 (by decide) ?_
      refine rw_icmp_lt (tgt := 31) hx hb dX0_isOver_24 (by decide) (by omega) (by decide) (fun c_24 => ?_) (fun c_24 => ?_)
      · refine rw_iconst hx hb dX0_isOver_31 ?_
        refine rw_zret hx hb hr hlocks hW dX0_isOver_32 (Or.inl rfl) (⟨0, rfl, ?_⟩)
        first | exact ⟨Or.inl ⟨rfl, by omega⟩, rfl⟩ | exact ⟨Or.inr ⟨rfl, by omega⟩, rfl⟩
      · refine rw_iconst hx hb dX0_isOver_27 ?_
        refine lv_goto (tgt := 32) hx hb dX0_isOver_28 (by decide) ?_
        refine rw_zret hx hb hr hlocks hW dX0_isOver_32 (Or.inr rfl) (⟨1, rfl, ?_⟩)
        first | exact ⟨Or.inl ⟨rfl, by omega⟩, rfl⟩ | exact ⟨Or.inr ⟨rfl, by omega⟩, rfl⟩
abbrev P_X0_spotOf (o : Nat) (i : Int) (M : Mem) : Option Value → Mem → Prop := oI (fun zz MM => zz = spotF (fld M o) i ∧ MM = M)
set_option maxRecDepth 100000 in
set_option maxHeartbeats 4000000 in
theorem c_X0_spotOf {l : Launch} {G : va_G} {ad : Nat → Nat} {CA : Nat → ClassId} {nt : Nat} {Ly : List LD} (o : Nat) (hF : FAt Ly o) (i : Int) (hi : in32 i) (M : Mem) : Mt l yX0_spotOf cX0_spotOf 2 (some .int) 0 0 G ad CA nt Ly [.ref (ad o), .int (iN i)] M (P_X0_spotOf o i M) := by
  refine Mt.of (by decide) (Nat.le_of_ble_eq_true rfl) (fun p e s m args below meth c hx hb hr hml hts hown hlocks hnm hW ls hl => ?_)
  have hl : lv_has ls 2 [(0, .ref (ad o)), (1, .int (iN i))] := hl
  obtain ⟨H, hH⟩ : ∃ z, z = s.heap := ⟨_, rfl⟩
  obtain ⟨locs, hlo⟩ : ∃ z : List Loc, z = [] := ⟨_, rfl⟩
  rw [← hH, ← hlo] at hW ⊢
  refine lv_iload_n hx hb dX0_spotOf_0 rfl (lv_at hl 1 rfl) ?_
  refine rw_bipush hx hb dX0_spotOf_1 (by decide) ?_
  refine rw_icmp_ne (tgt := 8) hx hb dX0_spotOf_3 (by decide) (by omega) (by decide) (fun c_3 => ?_) (fun c_3 => ?_)
  · refine lv_iload_n hx hb dX0_spotOf_8 rfl (lv_at hl 1 rfl) ?_
    refine rw_bipush hx hb dX0_spotOf_9 (by decide) ?_
    refine rw_icmp_ne (tgt := 23) hx hb dX0_spotOf_11 (by decide) (by omega) (by decide) (fun c_11 => ?_) (fun c_11 => ?_)
    · refine lv_iload_n hx hb dX0_spotOf_23 rfl (lv_at hl 1 rfl) ?_
      refine rw_iconst hx hb dX0_spotOf_24 ?_
      refine rw_iadd hx hb dX0_spotOf_25 ?_
      refine rw_iret hx hb hr hlocks hW dX0_spotOf_26 (⟨i + 1, rfl, ?_⟩)
      exact ⟨by unfold spotF; rw [fld_47]; split <;> (try split) <;> omega, rfl⟩
    · refine lv_aload_n hx hb dX0_spotOf_14 rfl (lv_at hl 0 rfl) ?_
      refine rw_getI hx hb hts hown hW o hF.1 0 0 rfl rfl fX0_34 dX0_spotOf_15 (v := (M o 0)) rfl ?_
      refine rw_iconst hx hb dX0_spotOf_18 ?_
      refine rw_iadd hx hb dX0_spotOf_19 ?_
      refine lv_goto (tgt := 26) hx hb dX0_spotOf_20 (by decide) ?_
      refine rw_iret hx hb hr hlocks hW dX0_spotOf_26 (⟨(M o 0) + 1, rfl, ?_⟩)
      exact ⟨by unfold spotF; rw [fld_47]; split <;> (try split) <;> omega, rfl⟩
  · refine rw_iconst hx hb dX0_spotOf_6 ?_
    refine rw_iret hx hb hr hlocks hW dX0_spotOf_7 (⟨0, rfl, ?_⟩)
    exact ⟨by unfold spotF; rw [fld_47]; split <;> (try split) <;> omega, rfl⟩
abbrev P_X0_spot (o : Nat) (M : Mem) : Option Value → Mem → Prop := oI (fun zz MM => zz = spotF (fld M o) (M o 1) ∧ MM = M)
set_option maxRecDepth 100000 in
set_option maxHeartbeats 4000000 in
theorem c_X0_spot {l : Launch} {G : va_G} {ad : Nat → Nat} {CA : Nat → ClassId} {nt : Nat} {Ly : List LD} (o : Nat) (hF : FAt Ly o) (M : Mem) (hk : 0 ≤ M o 1 ∧ M o 1 ≤ 21) : Mt l yX0_spot cX0_spot 1 (some .int) 1 21 G ad CA nt Ly [.ref (ad o)] M (P_X0_spot o M) := by
  refine Mt.of (by decide) (Nat.le_of_ble_eq_true rfl) (fun p e s m args below meth c hx hb hr hml hts hown hlocks hnm hW ls hl => ?_)
  have hl : lv_has ls 1 [(0, .ref (ad o))] := hl
  obtain ⟨H, hH⟩ : ∃ z, z = s.heap := ⟨_, rfl⟩
  obtain ⟨locs, hlo⟩ : ∃ z : List Loc, z = [] := ⟨_, rfl⟩
  rw [← hH, ← hlo] at hW ⊢
  refine lv_aload_n hx hb dX0_spot_0 rfl (lv_at hl 0 rfl) ?_
  refine lv_aload_n hx hb dX0_spot_1 rfl (lv_at hl 0 rfl) ?_
  refine rw_getI hx hb hts hown hW o hF.1 1 1 rfl rfl fX0_38 dX0_spot_2 (v := (M o 1)) rfl ?_
  refine rw_callV hx hb hml hts hown hW ⟨Nat.le_refl 0, Nat.le_refl 0⟩ [.int (iN (M o 1))] o hF.1 rfl (c_X0_spotOf (l := l) (G := G) (ad := ad) (CA := CA) (nt := nt) o hF (M o 1) (by omega) M) kX0_65 rfl ⟨Nat.le_of_ble_eq_true rfl, Nat.le_of_ble_eq_true rfl⟩ hl.1 rfl (Nat.le_of_ble_eq_true rfl) dX0_spot_5 (fun v1 M2 H locs hp3 hW => ?_)
  obtain ⟨_, rfl, rfl, hp3⟩ := hp3
  rw [hp3] at hW
  refine rw_stk (st' := [.int (iN (spotF (fld M o) (M o 1)))]) rfl ?_
  refine rw_iret hx hb hr hlocks hW dX0_spot_8 (⟨spotF (fld M o) (M o 1), rfl, ?_⟩)
  exact ⟨rfl, rfl⟩
abbrev P_X0_distanceOf (o : Nat) (sx : Int) (M : Mem) : Option Value → Mem → Prop := oI (fun zz MM => zz = distF (fld M o) sx ∧ MM = M)
set_option maxRecDepth 100000 in
set_option maxHeartbeats 4000000 in
theorem c_X0_distanceOf {l : Launch} {G : va_G} {ad : Nat → Nat} {CA : Nat → ClassId} {nt : Nat} {Ly : List LD} (o : Nat) (hF : FAt Ly o) (sx : Int) (hs1 : in32 sx) (M : Mem) (hc : 3 ≤ M o 0 ∧ M o 0 ≤ 9) (hk : 0 ≤ M o 1 ∧ M o 1 ≤ 21) : Mt l yX0_distanceOf cX0_distanceOf 2 (some .int) 2 41 G ad CA nt Ly [.ref (ad o), .int (iN sx)] M (P_X0_distanceOf o sx M) := by
  refine Mt.of (by decide) (Nat.le_of_ble_eq_true rfl) (fun p e s m args below meth c hx hb hr hml hts hown hlocks hnm hW ls hl => ?_)
  have hl : lv_has ls 2 [(0, .ref (ad o)), (1, .int (iN sx))] := hl
  obtain ⟨H, hH⟩ : ∃ z, z = s.heap := ⟨_, rfl⟩
  obtain ⟨locs, hlo⟩ : ∃ z : List Loc, z = [] := ⟨_, rfl⟩
  rw [← hH, ← hlo] at hW ⊢
  refine lv_iload_n hx hb dX0_distanceOf_0 rfl (lv_at hl 1 rfl) ?_
  refine rw_if_ne (tgt := 11) hx hb dX0_distanceOf_1 (by decide) (by omega) (fun c_1 => ?_) (fun c_1 => ?_)
  · refine lv_aload_n hx hb dX0_distanceOf_11 rfl (lv_at hl 0 rfl) ?_
    refine rw_getI hx hb hts hown hW o hF.1 0 0 rfl rfl fX0_34 dX0_distanceOf_12 (v := (M o 0)) rfl ?_
    refine rw_iconst hx hb dX0_distanceOf_15 ?_
    refine rw_iadd hx hb dX0_distanceOf_16 ?_
    refine lv_aload_n hx hb dX0_distanceOf_17 rfl (lv_at hl 0 rfl) ?_
    refine rw_callV hx hb hml hts hown hW ⟨Nat.le_refl 0, Nat.le_refl 0⟩ [] o hF.1 rfl (c_X0_spot (l := l) (G := G) (ad := ad) (CA := CA) (nt := nt) o hF M hk) kX0_69 rfl ⟨Nat.le_of_ble_eq_true rfl, Nat.le_of_ble_eq_true rfl⟩ hl.1 rfl (Nat.le_of_ble_eq_true rfl) dX0_distanceOf_18 (fun v1 M2 H locs hp3 hW => ?_)
    obtain ⟨_, rfl, rfl, hp3⟩ := hp3
    rw [hp3] at hW
    refine rw_stk (st' := [.int (iN (spotF (fld M o) (M o 1))), .int (iN ((M o 0) + 1))]) rfl ?_
    refine rw_isub hx hb dX0_distanceOf_21 ?_
    refine rw_iret hx hb hr hlocks hW dX0_distanceOf_22 (⟨((M o 0) + 1) - (spotF (fld M o) (M o 1)), rfl, ?_⟩)
    exact ⟨by unfold distF; rw [fld_27, fld_47]; split <;> omega, rfl⟩
  · refine lv_aload_n hx hb dX0_distanceOf_4 rfl (lv_at hl 0 rfl) ?_
    refine rw_callV hx hb hml hts hown hW ⟨Nat.le_refl 0, Nat.le_refl 0⟩ [] o hF.1 rfl (c_X0_spot (l := l) (G := G) (ad := ad) (CA := CA) (nt := nt) o hF M hk) kX0_69 rfl ⟨Nat.le_of_ble_eq_true rfl, Nat.le_of_ble_eq_true rfl⟩ hl.1 rfl (Nat.le_of_ble_eq_true rfl) dX0_distanceOf_5 (fun v4 M5 H locs hp6 hW => ?_)
    obtain ⟨_, rfl, rfl, hp6⟩ := hp6
    rw [hp6] at hW
    refine rw_stk (st' := [.int (iN (spotF (fld M o) (M o 1)))]) rfl ?_
    refine lv_goto (tgt := 22) hx hb dX0_distanceOf_8 (by decide) ?_
    refine rw_iret hx hb hr hlocks hW dX0_distanceOf_22 (⟨spotF (fld M o) (M o 1), rfl, ?_⟩)
    exact ⟨by unfold distF; rw [fld_27, fld_47]; split <;> omega, rfl⟩
abbrev P_X0_nearestOf (o : Nat) (sx : Int) (n : Int) (M : Mem) : Option Value → Mem → Prop := oI (fun zz MM => zz = nearF (fld M o) sx n ∧ MM = M)
set_option maxRecDepth 100000 in
set_option maxHeartbeats 4000000 in
theorem c_X0_nearestOf {l : Launch} {G : va_G} {ad : Nat → Nat} {CA : Nat → ClassId} {nt : Nat} {Ly : List LD} (o : Nat) (hF : FAt Ly o) (sx : Int) (hs1 : in32 sx) (n : Int) (hn : 0 ≤ n ∧ n ≤ 100) (M : Mem) (hI : InvF (fld M o)) : Mt l yX0_nearestOf cX0_nearestOf 3 (some .int) 3 62 G ad CA nt Ly [.ref (ad o), .int (iN sx), .int (iN n)] M (P_X0_nearestOf o sx n M) := by
  refine Mt.of (by decide) (Nat.le_of_ble_eq_true rfl) (fun p e s m args below meth c hx hb hr hml hts hown hlocks hnm hW ls hl => ?_)
  have hl : lv_has ls 3 [(0, .ref (ad o)), (1, .int (iN sx)), (2, .int (iN n))] := hl
  obtain ⟨H, hH⟩ : ∃ z, z = s.heap := ⟨_, rfl⟩
  obtain ⟨locs, hlo⟩ : ∃ z : List Loc, z = [] := ⟨_, rfl⟩
  rw [← hH, ← hlo] at hW ⊢
  have hc := hI.c
  have hk := hI.k2
  have hd := distF_rng hI sx
  rw [fld_47] at hd
  refine lv_aload_n hx hb dX0_nearestOf_0 rfl (lv_at hl 0 rfl) ?_
  refine rw_callV hx hb hml hts hown hW ⟨Nat.le_refl 0, Nat.le_refl 0⟩ [] o hF.1 rfl (c_X0_isOver (l := l) (G := G) (ad := ad) (CA := CA) (nt := nt) o hF M hc hk) kX0_73 rfl ⟨Nat.le_of_ble_eq_true rfl, Nat.le_of_ble_eq_true rfl⟩ hl.1 rfl (Nat.le_of_ble_eq_true rfl) dX0_nearestOf_1 (fun v1 M2 H locs hp3 hW => ?_)
  obtain ⟨a4, rfl, hp3, hp3m⟩ := hp3
  rw [hp3m] at hW
  rcases hp3 with ⟨rfl, hp3⟩ | ⟨rfl, hp3⟩
  · refine rw_stk (st' := [.int (iN 1)]) rfl ?_
    refine rw_if_eq (tgt := 15) hx hb dX0_nearestOf_4 (by decide) (by decide) (fun c => absurd c (by decide)) (fun _ => ?_)
    refine lv_aload_n hx hb dX0_nearestOf_7 rfl (lv_at hl 0 rfl) ?_
    refine lv_iload_n hx hb dX0_nearestOf_8 rfl (lv_at hl 1 rfl) ?_
    refine rw_callV hx hb hml hts hown hW ⟨Nat.le_refl 0, Nat.le_refl 0⟩ [.int (iN sx)] o hF.1 rfl (c_X0_distanceOf (l := l) (G := G) (ad := ad) (CA := CA) (nt := nt) o hF sx (by omega) M hc hk) kX0_77 rfl ⟨Nat.le_of_ble_eq_true rfl, Nat.le_of_ble_eq_true rfl⟩ hl.1 rfl (Nat.le_of_ble_eq_true rfl) dX0_nearestOf_9 (fun v5 M6 H locs hp7 hW => ?_)
    obtain ⟨_, rfl, rfl, hp7⟩ := hp7
    rw [hp7] at hW
    refine rw_stk (st' := [.int (iN (distF (fld M o) sx))]) rfl ?_
    refine lv_goto (tgt := 26) hx hb dX0_nearestOf_12 (by decide) ?_
    refine rw_iret hx hb hr hlocks hW dX0_nearestOf_26 (⟨distF (fld M o) sx, rfl, ?_⟩)
    exact ⟨by unfold nearF; rw [fld_47, fld_27]; split <;> omega, rfl⟩
  · refine rw_stk (st' := [.int (iN 0)]) rfl ?_
    refine rw_if_eq (tgt := 15) hx hb dX0_nearestOf_4 (by decide) (by decide) (fun _ => ?_) (fun c => absurd (by decide) c)
    refine rw_iconst hx hb dX0_nearestOf_15 ?_
    refine lv_aload_n hx hb dX0_nearestOf_16 rfl (lv_at hl 0 rfl) ?_
    refine lv_iload_n hx hb dX0_nearestOf_17 rfl (lv_at hl 1 rfl) ?_
    refine rw_callV hx hb hml hts hown hW ⟨Nat.le_refl 0, Nat.le_refl 0⟩ [.int (iN sx)] o hF.1 rfl (c_X0_distanceOf (l := l) (G := G) (ad := ad) (CA := CA) (nt := nt) o hF sx (by omega) M hc hk) kX0_77 rfl ⟨Nat.le_of_ble_eq_true rfl, Nat.le_of_ble_eq_true rfl⟩ hl.1 rfl (Nat.le_of_ble_eq_true rfl) dX0_nearestOf_18 (fun v8 M9 H locs hp10 hW => ?_)
    obtain ⟨_, rfl, rfl, hp10⟩ := hp10
    rw [hp10] at hW
    refine rw_stk (st' := [.int (iN (distF (fld M o) sx)), .int (iN 0)]) rfl ?_
    refine lv_iload_n hx hb dX0_nearestOf_21 rfl (lv_at hl 2 rfl) ?_
    refine rw_isub hx hb dX0_nearestOf_22 ?_
    refine rw_max hx hb hml hl.1 hts hown (wm_37 _ (List.mem_of_getElem? (i := 18) rfl)) wmax_ok ⟨Nat.le_of_ble_eq_true rfl, Nat.le_of_ble_eq_true rfl⟩ ⟨Nat.le_refl 0, Nat.le_refl 0⟩ (by decide) (by omega) dX0_nearestOf_23 ?_
    refine rw_iret hx hb hr hlocks hW dX0_nearestOf_26 (⟨max 0 ((distF (fld M o) sx) - n), rfl, ?_⟩)
    exact ⟨by unfold nearF; rw [fld_47, fld_27]; split <;> omega, rfl⟩
abbrev P_X0_isBeyond (o : Nat) (sx : Int) (i : Int) (M : Mem) : Option Value → Mem → Prop := oI (fun zz MM => BP ((if sx = 0 then i + 1 else M o 0 - i) < distF (fld M o) sx) zz ∧ MM = M)
set_option maxRecDepth 100000 in
set_option maxHeartbeats 4000000 in
theorem c_X0_isBeyond {l : Launch} {G : va_G} {ad : Nat → Nat} {CA : Nat → ClassId} {nt : Nat} {Ly : List LD} (o : Nat) (hF : FAt Ly o) (sx : Int) (hs1 : in32 sx) (i : Int) (hi : 0 ≤ i ∧ i ≤ 100) (M : Mem) (hI : InvF (fld M o)) : Mt l yX0_isBeyond cX0_isBeyond 3 (some .boolean) 3 62 G ad CA nt Ly [.ref (ad o), .int (iN sx), .int (iN i)] M (P_X0_isBeyond o sx i M) := by
  refine Mt.of (by decide) (Nat.le_of_ble_eq_true rfl) (fun p e s m args below meth c hx hb hr hml hts hown hlocks hnm hW ls hl => ?_)
  have hl : lv_has ls 3 [(0, .ref (ad o)), (1, .int (iN sx)), (2, .int (iN i))] := hl
  obtain ⟨H, hH⟩ : ∃ z, z = s.heap := ⟨_, rfl⟩
  obtain ⟨locs, hlo⟩ : ∃ z : List Loc, z = [] := ⟨_, rfl⟩
  rw [← hH, ← hlo] at hW ⊢
  have hc := hI.c
  have hk := hI.k2
  have hd := distF_rng hI sx
  rw [fld_47] at hd
  refine lv_aload_n hx hb dX0_isBeyond_0 rfl (lv_at hl 0 rfl) ?_
  refine lv_iload_n hx hb dX0_isBeyond_1 rfl (lv_at hl 1 rfl) ?_
  refine rw_callV hx hb hml hts hown hW ⟨Nat.le_refl 0, Nat.le_refl 0⟩ [.int (iN sx)] o hF.1 rfl (c_X0_distanceOf (l := l) (G := G) (ad := ad) (CA := CA) (nt := nt) o hF sx (by omega) M hc hk) kX0_77 rfl ⟨Nat.le_of_ble_eq_true rfl, Nat.le_of_ble_eq_true rfl⟩ hl.1 rfl (Nat.le_of_ble_eq_true rfl) dX0_isBeyond_2 (fun v1 M2 H locs hp3 hW => ?_)
  obtain ⟨_, rfl, rfl, hp3⟩ := hp3
  rw [hp3] at hW
  refine rw_stk (st' := [.int (iN (distF (fld M o) sx))]) rfl ?_
  refine lv_iload_n hx hb dX0_isBeyond_5 rfl (lv_at hl 1 rfl) ?_
  refine rw_if_ne (tgt := 15) hx hb dX0_isBeyond_6 (by decide) (by omega) (fun c_6 => ?_) (fun c_6 => ?_)
  · refine lv_aload_n hx hb dX0_isBeyond_15 rfl (lv_at hl 0 rfl) ?_
    refine rw_getI hx hb hts hown hW o hF.1 0 0 rfl rfl fX0_34 dX0_isBeyond_16 (v := (M o 0)) rfl ?_
    refine lv_iload_n hx hb dX0_isBeyond_19 rfl (lv_at hl 2 rfl) ?_
    refine rw_isub hx hb dX0_isBeyond_20 ?_
    refine rw_icmp_le (tgt := 28) hx hb dX0_isBeyond_21 (by decide) (by omega) (by omega) (fun c_21 => ?_) (fun c_21 => ?_)
    · refine rw_iconst hx hb dX0_isBeyond_28 ?_
      refine rw_zret hx hb hr hlocks hW dX0_isBeyond_29 (Or.inl rfl) (⟨0, rfl, ?_⟩)
      first | exact ⟨Or.inl ⟨rfl, by split <;> omega⟩, rfl⟩ | exact ⟨Or.inr ⟨rfl, by split <;> omega⟩, rfl⟩
    · refine rw_iconst hx hb dX0_isBeyond_24 ?_
      refine lv_goto (tgt := 29) hx hb dX0_isBeyond_25 (by decide) ?_
      refine rw_zret hx hb hr hlocks hW dX0_isBeyond_29 (Or.inr rfl) (⟨1, rfl, ?_⟩)
      first | exact ⟨Or.inl ⟨rfl, by split <;> omega⟩, rfl⟩ | exact ⟨Or.inr ⟨rfl, by split <;> omega⟩, rfl⟩
  · refine lv_iload_n hx hb dX0_isBeyond_9 rfl (lv_at hl 2 rfl) ?_
    refine rw_iconst hx hb dX0_isBeyond_10 ?_
    refine rw_iadd hx hb dX0_isBeyond_11 ?_
    refine lv_goto (tgt := 21) hx hb dX0_isBeyond_12 (by decide) ?_
    refine rw_icmp_le (tgt := 28) hx hb dX0_isBeyond_21 (by decide) (by omega) (by omega) (fun c_21 => ?_) (fun c_21 => ?_)
    · refine rw_iconst hx hb dX0_isBeyond_28 ?_
      refine rw_zret hx hb hr hlocks hW dX0_isBeyond_29 (Or.inl rfl) (⟨0, rfl, ?_⟩)
      first | exact ⟨Or.inl ⟨rfl, by split <;> omega⟩, rfl⟩ | exact ⟨Or.inr ⟨rfl, by split <;> omega⟩, rfl⟩
    · refine rw_iconst hx hb dX0_isBeyond_24 ?_
      refine lv_goto (tgt := 29) hx hb dX0_isBeyond_25 (by decide) ?_
      refine rw_zret hx hb hr hlocks hW dX0_isBeyond_29 (Or.inr rfl) (⟨1, rfl, ?_⟩)
      first | exact ⟨Or.inl ⟨rfl, by split <;> omega⟩, rfl⟩ | exact ⟨Or.inr ⟨rfl, by split <;> omega⟩, rfl⟩
abbrev P_X0_hasFresh (o : Nat) (x : Int) (y : Int) (M : Mem) : Option Value → Mem → Prop := oI (fun zz MM => BP ((0 ≤ x ∧ x ≤ M (o + 4) 0) ∧ (0 ≤ y ∧ y ≤ M (o + 6) 0)) zz ∧ MM = M)
set_option maxRecDepth 100000 in
set_option maxHeartbeats 4000000 in
theorem c_X0_hasFresh {l : Launch} {G : va_G} {ad : Nat → Nat} {CA : Nat → ClassId} {nt : Nat} {Ly : List LD} (o : Nat) (hF : FAt Ly o) (x : Int) (hx1 : in32 x) (y : Int) (hy1 : in32 y) (M : Mem) (hI : InvF (fld M o)) : Mt l yX0_hasFresh cX0_hasFresh 3 (some .boolean) 1 22 G ad CA nt Ly [.ref (ad o), .int (iN x), .int (iN y)] M (P_X0_hasFresh o x y M) := by
  refine Mt.of (by decide) (Nat.le_of_ble_eq_true rfl) (fun p e s m args below meth c hx hb hr hml hts hown hlocks hnm hW ls hl => ?_)
  have hl : lv_has ls 3 [(0, .ref (ad o)), (1, .int (iN x)), (2, .int (iN y))] := hl
  obtain ⟨H, hH⟩ : ∃ z, z = s.heap := ⟨_, rfl⟩
  obtain ⟨locs, hlo⟩ : ∃ z : List Loc, z = [] := ⟨_, rfl⟩
  rw [← hH, ← hlo] at hW ⊢
  have hf0 := hI.s0.f
  have hf1 := hI.s1.f
  refine lv_iload_n hx hb dX0_hasFresh_0 rfl (lv_at hl 1 rfl) ?_
  refine rw_iconst hx hb dX0_hasFresh_1 ?_
  refine lv_aload_n hx hb dX0_hasFresh_2 rfl (lv_at hl 0 rfl) ?_
  refine rw_getR hx hb hts hown hW o hF.1 8 (o + 4) rfl fX0_24 dX0_hasFresh_3 ?_
  refine rw_getI hx hb hts hown hW (o + 4) hF.2.2.2.2.1.1 0 0 rfl rfl fX0_86 dX0_hasFresh_6 (v := (M (o + 4) 0)) rfl ?_
  refine rw_callN hx hb hml hts hown hW ⟨Nat.le_refl 0, Nat.le_refl 0⟩ [.int (iN x), .int (iN 0), .int (iN (M (o + 4) 0))] (c_X10_within (l := l) (G := G) (ad := ad) (CA := CA) (nt := nt) x 0 (M (o + 4) 0) (by omega) (by omega) (by omega) M) kX0_89 rfl ⟨Nat.le_of_ble_eq_true rfl, Nat.le_of_ble_eq_true rfl⟩ hl.1 rfl (Nat.le_of_ble_eq_true rfl) dX0_hasFresh_9 (fun v1 M2 H locs hp3 hW => ?_)
  obtain ⟨a4, rfl, hp3, hp3m⟩ := hp3
  rw [hp3m] at hW
  rcases hp3 with ⟨rfl, hp3⟩ | ⟨rfl, hp3⟩
  · refine rw_stk (st' := [.int (iN 1)]) rfl ?_
    refine rw_if_eq (tgt := 34) hx hb dX0_hasFresh_12 (by decide) (by decide) (fun c => absurd c (by decide)) (fun _ => ?_)
    refine lv_iload_n hx hb dX0_hasFresh_15 rfl (lv_at hl 2 rfl) ?_
    refine rw_iconst hx hb dX0_hasFresh_16 ?_
    refine lv_aload_n hx hb dX0_hasFresh_17 rfl (lv_at hl 0 rfl) ?_
    refine rw_getR hx hb hts hown hW o hF.1 9 (o + 6) rfl fX0_28 dX0_hasFresh_18 ?_
    refine rw_getI hx hb hts hown hW (o + 6) hF.2.2.2.2.2.1 0 0 rfl rfl fX0_86 dX0_hasFresh_21 (v := (M (o + 6) 0)) rfl ?_
    refine rw_callN hx hb hml hts hown hW ⟨Nat.le_refl 0, Nat.le_refl 0⟩ [.int (iN y), .int (iN 0), .int (iN (M (o + 6) 0))] (c_X10_within (l := l) (G := G) (ad := ad) (CA := CA) (nt := nt) y 0 (M (o + 6) 0) (by omega) (by omega) (by omega) M) kX0_89 rfl ⟨Nat.le_of_ble_eq_true rfl, Nat.le_of_ble_eq_true rfl⟩ hl.1 rfl (Nat.le_of_ble_eq_true rfl) dX0_hasFresh_24 (fun v5 M6 H locs hp7 hW => ?_)
    obtain ⟨a8, rfl, hp7, hp7m⟩ := hp7
    rw [hp7m] at hW
    rcases hp7 with ⟨rfl, hp7⟩ | ⟨rfl, hp7⟩
    · refine rw_stk (st' := [.int (iN 1)]) rfl ?_
      refine rw_if_eq (tgt := 34) hx hb dX0_hasFresh_27 (by decide) (by decide) (fun c => absurd c (by decide)) (fun _ => ?_)
      refine rw_iconst hx hb dX0_hasFresh_30 ?_
      refine lv_goto (tgt := 35) hx hb dX0_hasFresh_31 (by decide) ?_
      refine rw_zret hx hb hr hlocks hW dX0_hasFresh_35 (Or.inr rfl) (⟨1, rfl, ?_⟩)
      first | exact ⟨Or.inl ⟨rfl, by omega⟩, rfl⟩ | exact ⟨Or.inr ⟨rfl, by omega⟩, rfl⟩
    · refine rw_stk (st' := [.int (iN 0)]) rfl ?_
      refine rw_if_eq (tgt := 34) hx hb dX0_hasFresh_27 (by decide) (by decide) (fun _ => ?_) (fun c => absurd (by decide) c)
      refine rw_iconst hx hb dX0_hasFresh_34 ?_
      refine rw_zret hx hb hr hlocks hW dX0_hasFresh_35 (Or.inl rfl) (⟨0, rfl, ?_⟩)
      first | exact ⟨Or.inl ⟨rfl, by omega⟩, rfl⟩ | exact ⟨Or.inr ⟨rfl, by omega⟩, rfl⟩
  · refine rw_stk (st' := [.int (iN 0)]) rfl ?_
    refine rw_if_eq (tgt := 34) hx hb dX0_hasFresh_12 (by decide) (by decide) (fun _ => ?_) (fun c => absurd (by decide) c)
    refine rw_iconst hx hb dX0_hasFresh_34 ?_
    refine rw_zret hx hb hr hlocks hW dX0_hasFresh_35 (Or.inl rfl) (⟨0, rfl, ?_⟩)
    first | exact ⟨Or.inl ⟨rfl, by omega⟩, rfl⟩ | exact ⟨Or.inr ⟨rfl, by omega⟩, rfl⟩
abbrev P_X0_isLateFor (o : Nat) (sx : Int) (n : Int) (M : Mem) : Option Value → Mem → Prop := oI (fun zz MM => BP ((if sx = 0 then M o 0 - n ≤ M o 1 else M o 1 < n)) zz ∧ MM = M)
set_option maxRecDepth 100000 in
set_option maxHeartbeats 4000000 in
theorem c_X0_isLateFor {l : Launch} {G : va_G} {ad : Nat → Nat} {CA : Nat → ClassId} {nt : Nat} {Ly : List LD} (o : Nat) (hF : FAt Ly o) (sx : Int) (hs1 : in32 sx) (n : Int) (hn : 0 ≤ n ∧ n ≤ 100) (M : Mem) (hc : 3 ≤ M o 0 ∧ M o 0 ≤ 9) (hk : 0 ≤ M o 1 ∧ M o 1 ≤ 21) : Mt l yX0_isLateFor cX0_isLateFor 3 (some .boolean) 0 0 G ad CA nt Ly [.ref (ad o), .int (iN sx), .int (iN n)] M (P_X0_isLateFor o sx n M) := by
  refine Mt.of (by decide) (Nat.le_of_ble_eq_true rfl) (fun p e s m args below meth c hx hb hr hml hts hown hlocks hnm hW ls hl => ?_)
  have hl : lv_has ls 3 [(0, .ref (ad o)), (1, .int (iN sx)), (2, .int (iN n))] := hl
  obtain ⟨H, hH⟩ : ∃ z, z = s.heap := ⟨_, rfl⟩
  obtain ⟨locs, hlo⟩ : ∃ z : List Loc, z = [] := ⟨_, rfl⟩
  rw [← hH, ← hlo] at hW ⊢
  refine lv_iload_n hx hb dX0_isLateFor_0 rfl (lv_at hl 1 rfl) ?_
  refine rw_if_ne (tgt := 25) hx hb dX0_isLateFor_1 (by decide) (by omega) (fun c_1 => ?_) (fun c_1 => ?_)
  · refine lv_aload_n hx hb dX0_isLateFor_25 rfl (lv_at hl 0 rfl) ?_
    refine rw_getI hx hb hts hown hW o hF.1 1 1 rfl rfl fX0_38 dX0_isLateFor_26 (v := (M o 1)) rfl ?_
    refine lv_iload_n hx hb dX0_isLateFor_29 rfl (lv_at hl 2 rfl) ?_
    refine rw_icmp_ge (tgt := 37) hx hb dX0_isLateFor_30 (by decide) (by omega) (by omega) (fun c_30 => ?_) (fun c_30 => ?_)
    · refine rw_iconst hx hb dX0_isLateFor_37 ?_
      refine rw_zret hx hb hr hlocks hW dX0_isLateFor_38 (Or.inl rfl) (⟨0, rfl, ?_⟩)
      first | exact ⟨Or.inl ⟨rfl, by split <;> omega⟩, rfl⟩ | exact ⟨Or.inr ⟨rfl, by split <;> omega⟩, rfl⟩
    · refine rw_iconst hx hb dX0_isLateFor_33 ?_
      refine lv_goto (tgt := 38) hx hb dX0_isLateFor_34 (by decide) ?_
      refine rw_zret hx hb hr hlocks hW dX0_isLateFor_38 (Or.inr rfl) (⟨1, rfl, ?_⟩)
      first | exact ⟨Or.inl ⟨rfl, by split <;> omega⟩, rfl⟩ | exact ⟨Or.inr ⟨rfl, by split <;> omega⟩, rfl⟩
  · refine lv_aload_n hx hb dX0_isLateFor_4 rfl (lv_at hl 0 rfl) ?_
    refine rw_getI hx hb hts hown hW o hF.1 1 1 rfl rfl fX0_38 dX0_isLateFor_5 (v := (M o 1)) rfl ?_
    refine lv_aload_n hx hb dX0_isLateFor_8 rfl (lv_at hl 0 rfl) ?_
    refine rw_getI hx hb hts hown hW o hF.1 0 0 rfl rfl fX0_34 dX0_isLateFor_9 (v := (M o 0)) rfl ?_
    refine lv_iload_n hx hb dX0_isLateFor_12 rfl (lv_at hl 2 rfl) ?_
    refine rw_isub hx hb dX0_isLateFor_13 ?_
    refine rw_icmp_lt (tgt := 21) hx hb dX0_isLateFor_14 (by decide) (by omega) (by omega) (fun c_14 => ?_) (fun c_14 => ?_)
    · refine rw_iconst hx hb dX0_isLateFor_21 ?_
      refine lv_goto (tgt := 38) hx hb dX0_isLateFor_22 (by decide) ?_
      refine rw_zret hx hb hr hlocks hW dX0_isLateFor_38 (Or.inl rfl) (⟨0, rfl, ?_⟩)
      first | exact ⟨Or.inl ⟨rfl, by split <;> omega⟩, rfl⟩ | exact ⟨Or.inr ⟨rfl, by split <;> omega⟩, rfl⟩
    · refine rw_iconst hx hb dX0_isLateFor_17 ?_
      refine lv_goto (tgt := 38) hx hb dX0_isLateFor_18 (by decide) ?_
      refine rw_zret hx hb hr hlocks hW dX0_isLateFor_38 (Or.inr rfl) (⟨1, rfl, ?_⟩)
      first | exact ⟨Or.inl ⟨rfl, by split <;> omega⟩, rfl⟩ | exact ⟨Or.inr ⟨rfl, by split <;> omega⟩, rfl⟩
abbrev P_X0_hedgeBetween (o : Nat) (i : Int) (M : Mem) : Option Value → Mem → Prop := oI (fun zz MM => zz = hedgeF (fld M o) i ∧ MM = M)
set_option maxRecDepth 100000 in
set_option maxHeartbeats 4000000 in
theorem c_X0_hedgeBetween {l : Launch} {G : va_G} {ad : Nat → Nat} {CA : Nat → ClassId} {nt : Nat} {Ly : List LD} (hnt : 4 ≤ nt) (o : Nat) (hF : FAt Ly o) (i : Int) (hi : in32 i) (M : Mem) (hI : InvF (fld M o)) : Mt l yX0_hedgeBetween cX0_hedgeBetween 2 (some .int) 0 0 G ad CA nt Ly [.ref (ad o), .int (iN i)] M (P_X0_hedgeBetween o i M) := by
  refine Mt.of (by decide) (Nat.le_of_ble_eq_true rfl) (fun p e s m args below meth c hx hb hr hml hts hown hlocks hnm hW ls hl => ?_)
  have hl : lv_has ls 2 [(0, .ref (ad o)), (1, .int (iN i))] := hl
  have hnt4 : 4 ≤ nt := by omega
  obtain ⟨H, hH⟩ : ∃ z, z = s.heap := ⟨_, rfl⟩
  obtain ⟨locs, hlo⟩ : ∃ z : List Loc, z = [] := ⟨_, rfl⟩
  rw [← hH, ← hlo] at hW ⊢
  have hc := hI.c
  refine lv_iload_n hx hb dX0_hedgeBetween_0 rfl (lv_at hl 1 rfl) ?_
  refine rw_if_lt (tgt := 29) hx hb dX0_hedgeBetween_1 (by decide) (by omega) (fun c_1 => ?_) (fun c_1 => ?_)
  · refine rw_iconst hx hb dX0_hedgeBetween_29 ?_
    refine rw_iret hx hb hr hlocks hW dX0_hedgeBetween_30 (⟨0, rfl, ?_⟩)
    exact ⟨by unfold hedgeF; rw [fld_47, if_neg (by omega)], rfl⟩
  · refine lv_iload_n hx hb dX0_hedgeBetween_4 rfl (lv_at hl 1 rfl) ?_
    refine lv_aload_n hx hb dX0_hedgeBetween_5 rfl (lv_at hl 0 rfl) ?_
    refine rw_getI hx hb hts hown hW o hF.1 0 0 rfl rfl fX0_34 dX0_hedgeBetween_6 (v := (M o 0)) rfl ?_
    refine rw_iconst hx hb dX0_hedgeBetween_9 ?_
    refine rw_isub hx hb dX0_hedgeBetween_10 ?_
    refine rw_icmp_ge (tgt := 29) hx hb dX0_hedgeBetween_11 (by decide) (by omega) (by omega) (fun c_11 => ?_) (fun c_11 => ?_)
    · refine rw_iconst hx hb dX0_hedgeBetween_29 ?_
      refine rw_iret hx hb hr hlocks hW dX0_hedgeBetween_30 (⟨0, rfl, ?_⟩)
      exact ⟨by unfold hedgeF; rw [fld_47, if_neg (by omega)], rfl⟩
    · refine lv_iload_n hx hb dX0_hedgeBetween_14 rfl (lv_at hl 1 rfl) ?_
      refine rw_bipush hx hb dX0_hedgeBetween_15 (by decide) ?_
      refine rw_icmp_ge (tgt := 29) hx hb dX0_hedgeBetween_17 (by decide) (by omega) (by decide) (fun c_17 => ?_) (fun c_17 => ?_)
      · refine rw_iconst hx hb dX0_hedgeBetween_29 ?_
        refine rw_iret hx hb hr hlocks hW dX0_hedgeBetween_30 (⟨0, rfl, ?_⟩)
        exact ⟨by unfold hedgeF; rw [fld_47, if_neg (by omega)], rfl⟩
      · refine lv_aload_n hx hb dX0_hedgeBetween_20 rfl (lv_at hl 0 rfl) ?_
        refine rw_getR hx hb hts hown hW o hF.1 7 (o + 3) rfl fX0_18 dX0_hedgeBetween_21 ?_
        refine lv_iload_n hx hb dX0_hedgeBetween_24 rfl (lv_at hl 1 rfl) ?_
        refine rw_iald hx hb hW hnt4 (o + 3) hF.2.2.2.1 (by omega) (by omega) (by decide) dX0_hedgeBetween_25 (v := (M (o + 3) i)) rfl ?_
        refine lv_goto (tgt := 30) hx hb dX0_hedgeBetween_26 (by decide) ?_
        refine rw_iret hx hb hr hlocks hW dX0_hedgeBetween_30 (⟨(M (o + 3) i), rfl, ?_⟩)
        exact ⟨by unfold hedgeF; rw [fld_47, if_pos (by omega), fld_h M o (by omega)], rfl⟩
abbrev P_X0_wayOf (o : Nat) (w : Int) (M : Mem) : Option Value → Mem → Prop := oI (fun zz MM => zz = wayF (fld M o) w ∧ MM = M)
set_option maxRecDepth 100000 in
set_option maxHeartbeats 4000000 in
theorem c_X0_wayOf {l : Launch} {G : va_G} {ad : Nat → Nat} {CA : Nat → ClassId} {nt : Nat} {Ly : List LD} (hnt : 4 ≤ nt) (o : Nat) (hF : FAt Ly o) (w : Int) (hw : -100 ≤ w ∧ w ≤ 100) (M : Mem) (hI : InvF (fld M o)) (hov : M o 1 < M o 0) : Mt l yX0_wayOf cX0_wayOf 2 (some .int) 1 21 G ad CA nt Ly [.ref (ad o), .int (iN w)] M (P_X0_wayOf o w M) := by
  refine Mt.of (by decide) (Nat.le_of_ble_eq_true rfl) (fun p e s m args below meth c hx hb hr hml hts hown hlocks hnm hW ls hl => ?_)
  have hl : lv_has ls 2 [(0, .ref (ad o)), (1, .int (iN w))] := hl
  have hnt4 : 4 ≤ nt := by omega
  obtain ⟨H, hH⟩ : ∃ z, z = s.heap := ⟨_, rfl⟩
  obtain ⟨locs, hlo⟩ : ∃ z : List Loc, z = [] := ⟨_, rfl⟩
  rw [← hH, ← hlo] at hW ⊢
  have hc := hI.c
  have hk := hI.k
  have hb1 := hedgeF_rng hI (M o 1)
  have hb2 := hedgeF_rng hI (M o 1 - 1)
  refine lv_iload_n hx hb dX0_wayOf_0 rfl (lv_at hl 1 rfl) ?_
  refine lv_aload_n hx hb dX0_wayOf_1 rfl (lv_at hl 0 rfl) ?_
  refine lv_aload_n hx hb dX0_wayOf_2 rfl (lv_at hl 0 rfl) ?_
  refine rw_getI hx hb hts hown hW o hF.1 1 1 rfl rfl fX0_38 dX0_wayOf_3 (v := (M o 1)) rfl ?_
  refine rw_callV hx hb hml hts hown hW ⟨Nat.le_refl 0, Nat.le_refl 0⟩ [.int (iN (M o 1))] o hF.1 rfl (c_X0_hedgeBetween (l := l) (G := G) (ad := ad) (CA := CA) (nt := nt) (by omega) o hF (M o 1) (by omega) M hI) kX0_134 rfl ⟨Nat.le_of_ble_eq_true rfl, Nat.le_of_ble_eq_true rfl⟩ hl.1 rfl (Nat.le_of_ble_eq_true rfl) dX0_wayOf_6 (fun v1 M2 H locs hp3 hW => ?_)
  obtain ⟨_, rfl, rfl, hp3⟩ := hp3
  rw [hp3] at hW
  refine rw_stk (st' := [.int (iN (hedgeF (fld M o) (M o 1))), .int (iN w)]) rfl ?_
  refine rw_icmp_le (tgt := 14) hx hb dX0_wayOf_9 (by decide) (by omega) (by omega) (fun c_9 => ?_) (fun c_9 => ?_)
  · refine lv_iload_n hx hb dX0_wayOf_14 rfl (lv_at hl 1 rfl) ?_
    refine rw_ineg hx hb dX0_wayOf_15 ?_
    refine lv_aload_n hx hb dX0_wayOf_16 rfl (lv_at hl 0 rfl) ?_
    refine lv_aload_n hx hb dX0_wayOf_17 rfl (lv_at hl 0 rfl) ?_
    refine rw_getI hx hb hts hown hW o hF.1 1 1 rfl rfl fX0_38 dX0_wayOf_18 (v := (M o 1)) rfl ?_
    refine rw_iconst hx hb dX0_wayOf_21 ?_
    refine rw_isub hx hb dX0_wayOf_22 ?_
    refine rw_callV hx hb hml hts hown hW ⟨Nat.le_refl 0, Nat.le_refl 0⟩ [.int (iN ((M o 1) - 1))] o hF.1 rfl (c_X0_hedgeBetween (l := l) (G := G) (ad := ad) (CA := CA) (nt := nt) (by omega) o hF ((M o 1) - 1) (by omega) M hI) kX0_134 rfl ⟨Nat.le_of_ble_eq_true rfl, Nat.le_of_ble_eq_true rfl⟩ hl.1 rfl (Nat.le_of_ble_eq_true rfl) dX0_wayOf_23 (fun v4 M5 H locs hp6 hW => ?_)
    obtain ⟨_, rfl, rfl, hp6⟩ := hp6
    rw [hp6] at hW
    refine rw_stk (st' := [.int (iN (hedgeF (fld M o) ((M o 1) - 1))), .int (iN (-w))]) rfl ?_
    refine rw_icmp_le (tgt := 33) hx hb dX0_wayOf_26 (by decide) (by omega) (by omega) (fun c_26 => ?_) (fun c_26 => ?_)
    · refine rw_iconst hx hb dX0_wayOf_33 ?_
      refine rw_iret hx hb hr hlocks hW dX0_wayOf_34 (⟨0, rfl, ?_⟩)
      exact ⟨by unfold wayF; rw [fld_27]; split <;> (try split) <;> omega, rfl⟩
    · refine rw_iconst hx hb dX0_wayOf_29 ?_
      refine lv_goto (tgt := 34) hx hb dX0_wayOf_30 (by decide) ?_
      refine rw_iret hx hb hr hlocks hW dX0_wayOf_34 (⟨(-1), rfl, ?_⟩)
      exact ⟨by unfold wayF; rw [fld_27]; split <;> (try split) <;> omega, rfl⟩
  · refine rw_iconst hx hb dX0_wayOf_12 ?_
    refine rw_iret hx hb hr hlocks hW dX0_wayOf_13 (⟨1, rfl, ?_⟩)
    exact ⟨by unfold wayF; rw [fld_27]; split <;> (try split) <;> omega, rfl⟩
abbrev P_X0_shift (o : Nat) (w : Int) (M : Mem) : Option Value → Mem → Prop := oV (fun MM => MM = upd2 M o 1 (shiftK (M o 0) (M o 1) w))
set_option maxRecDepth 100000 in
set_option maxHeartbeats 4000000 in
theorem c_X0_shift {l : Launch} {G : va_G} {ad : Nat → Nat} {CA : Nat → ClassId} {nt : Nat} {Ly : List LD} (o : Nat) (hF : FAt Ly o) (w : Int) (hw : -1 ≤ w ∧ w ≤ 1) (M : Mem) (hc : 3 ≤ M o 0 ∧ M o 0 ≤ 9) (hk : 0 ≤ M o 1 ∧ M o 1 ≤ 21) : Mt l yX0_shift cX0_shift 3 none 1 20 G ad CA nt Ly [.ref (ad o), .int (iN w)] M (P_X0_shift o w M) := by
  refine Mt.of (by decide) (Nat.le_of_ble_eq_true rfl) (fun p e s m args below meth c hx hb hr hml hts hown hlocks hnm hW ls hl => ?_)
  have hl : lv_has ls 3 [(0, .ref (ad o)), (1, .int (iN w))] := hl
  obtain ⟨H, hH⟩ : ∃ z, z = s.heap := ⟨_, rfl⟩
  obtain ⟨locs, hlo⟩ : ∃ z : List Loc, z = [] := ⟨_, rfl⟩
  rw [← hH, ← hlo] at hW ⊢
  refine lv_aload_n hx hb dX0_shift_0 rfl (lv_at hl 0 rfl) ?_
  refine rw_callV hx hb hml hts hown hW ⟨Nat.le_refl 0, Nat.le_refl 0⟩ [] o hF.1 rfl (c_X0_isOver (l := l) (G := G) (ad := ad) (CA := CA) (nt := nt) o hF M hc hk) kX0_73 rfl ⟨Nat.le_of_ble_eq_true rfl, Nat.le_of_ble_eq_true rfl⟩ hl.1 rfl (Nat.le_of_ble_eq_true rfl) dX0_shift_1 (fun v1 M2 H locs hp3 hW => ?_)
  obtain ⟨a4, rfl, hp3, hp3m⟩ := hp3
  rw [hp3m] at hW
  rcases hp3 with ⟨rfl, hp3⟩ | ⟨rfl, hp3⟩
  · refine rw_stk (st' := [.int (iN 1)]) rfl ?_
    refine rw_if_eq (tgt := 8) hx hb dX0_shift_4 (by decide) (by decide) (fun c => absurd c (by decide)) (fun _ => ?_)
    refine rw_vret hx hb hr hlocks hW dX0_shift_7 (⟨rfl, ?_⟩)
    exact (upd2_id (by unfold shiftK; rw [if_pos (by omega)])).symm
  · refine rw_stk (st' := [.int (iN 0)]) rfl ?_
    refine rw_if_eq (tgt := 8) hx hb dX0_shift_4 (by decide) (by decide) (fun _ => ?_) (fun c => absurd (by decide) c)
    refine lv_aload_n hx hb dX0_shift_8 rfl (lv_at hl 0 rfl) ?_
    refine rw_getI hx hb hts hown hW o hF.1 1 1 rfl rfl fX0_38 dX0_shift_9 (v := (M o 1)) rfl ?_
    refine lv_iload_n hx hb dX0_shift_12 rfl (lv_at hl 1 rfl) ?_
    refine rw_iadd hx hb dX0_shift_13 ?_
    refine lv_istore_n (lv' := [(2, .int (iN ((M o 1) + w))), (0, .ref (ad o)), (1, .int (iN w))]) hx hb dX0_shift_14 rfl hl (by decide) rfl (fun ls hl => ?_)
    refine lv_iload_n hx hb dX0_shift_15 rfl (lv_at hl 0 rfl) ?_
    refine rw_if_ge (tgt := 28) hx hb dX0_shift_16 (by decide) (by omega) (fun c_16 => ?_) (fun c_16 => ?_)
    · refine lv_iload_n hx hb dX0_shift_28 rfl (lv_at hl 0 rfl) ?_
      refine lv_aload_n hx hb dX0_shift_29 rfl (lv_at hl 1 rfl) ?_
      refine rw_getI hx hb hts hown hW o hF.1 0 0 rfl rfl fX0_34 dX0_shift_30 (v := (M o 0)) rfl ?_
      refine rw_icmp_lt (tgt := 45) hx hb dX0_shift_33 (by decide) (by omega) (by omega) (fun c_33 => ?_) (fun c_33 => ?_)
      · refine lv_aload_n hx hb dX0_shift_45 rfl (lv_at hl 1 rfl) ?_
        refine lv_iload_n hx hb dX0_shift_46 rfl (lv_at hl 0 rfl) ?_
        refine rw_putI hx hb hts hown hW o hF.1 1 1 rfl rfl qX0_38 (v := (M o 1) + w) dX0_shift_47 (fun H locs hW => ?_)
        obtain ⟨M5, hM5⟩ : ∃ z, z = upd2 M o 1 ((M o 1) + w) := ⟨_, rfl⟩
        rw [← hM5] at hW
        refine rw_vret hx hb hr hlocks hW dX0_shift_50 (⟨rfl, ?_⟩)
        rw [hM5]; congr 1; unfold shiftK; split <;> (try split) <;> (try split) <;> omega
      · refine lv_aload_n hx hb dX0_shift_36 rfl (lv_at hl 1 rfl) ?_
        refine rw_bipush hx hb dX0_shift_37 (by decide) ?_
        refine rw_putI hx hb hts hown hW o hF.1 1 1 rfl rfl qX0_38 (v := 21) dX0_shift_39 (fun H locs hW => ?_)
        obtain ⟨M6, hM6⟩ : ∃ z, z = upd2 M o 1 21 := ⟨_, rfl⟩
        rw [← hM6] at hW
        refine lv_goto (tgt := 50) hx hb dX0_shift_42 (by decide) ?_
        refine rw_vret hx hb hr hlocks hW dX0_shift_50 (⟨rfl, ?_⟩)
        rw [hM6]; congr 1; unfold shiftK; split <;> (try split) <;> (try split) <;> omega
    · refine lv_aload_n hx hb dX0_shift_19 rfl (lv_at hl 1 rfl) ?_
      refine rw_bipush hx hb dX0_shift_20 (by decide) ?_
      refine rw_putI hx hb hts hown hW o hF.1 1 1 rfl rfl qX0_38 (v := 20) dX0_shift_22 (fun H locs hW => ?_)
      obtain ⟨M7, hM7⟩ : ∃ z, z = upd2 M o 1 20 := ⟨_, rfl⟩
      rw [← hM7] at hW
      refine lv_goto (tgt := 50) hx hb dX0_shift_25 (by decide) ?_
      refine rw_vret hx hb hr hlocks hW dX0_shift_50 (⟨rfl, ?_⟩)
      rw [hM7]; congr 1; unfold shiftK; split <;> (try split) <;> (try split) <;> omega
abbrev P_X0_netOf (o : Nat) (x : Int) (y : Int) (M : Mem) : Option Value → Mem → Prop := oI (fun zz MM => zz = netF (fld M o) x y ∧ MM = M)
set_option maxRecDepth 100000 in
set_option maxHeartbeats 4000000 in
theorem c_X0_netOf {l : Launch} {G : va_G} {ad : Nat → Nat} {CA : Nat → ClassId} {nt : Nat} {Ly : List LD} (hnt : 4 ≤ nt) (o : Nat) (hF : FAt Ly o) (x : Int) (y : Int) (hx1 : 0 ≤ x ∧ x ≤ 12) (hy1 : 0 ≤ y ∧ y ≤ 12) (M : Mem) (hI : InvF (fld M o)) (hov : M o 1 < M o 0) : Mt l yX0_netOf cX0_netOf 3 (some .int) 2 36 G ad CA nt Ly [.ref (ad o), .int (iN x), .int (iN y)] M (P_X0_netOf o x y M) := by
  refine Mt.of (by decide) (Nat.le_of_ble_eq_true rfl) (fun p e s m args below meth c hx hb hr hml hts hown hlocks hnm hW ls hl => ?_)
  have hl : lv_has ls 3 [(0, .ref (ad o)), (1, .int (iN x)), (2, .int (iN y))] := hl
  have hnt4 : 4 ≤ nt := by omega
  obtain ⟨H, hH⟩ : ∃ z, z = s.heap := ⟨_, rfl⟩
  obtain ⟨locs, hlo⟩ : ∃ z : List Loc, z = [] := ⟨_, rfl⟩
  rw [← hH, ← hlo] at hW ⊢
  have hc := hI.c
  have hk0 := hI.k
  have hk := hI.k2
  have hrm := hI.room (i := M o 1) (by omega)
  have hso0 := hI.s0.fo
  have hso1 := hI.s1.fo
  refine lv_aload_n hx hb dX0_netOf_0 rfl (lv_at hl 0 rfl) ?_
  refine rw_callV hx hb hml hts hown hW ⟨Nat.le_refl 0, Nat.le_refl 0⟩ [] o hF.1 rfl (c_X0_isOver (l := l) (G := G) (ad := ad) (CA := CA) (nt := nt) o hF M hc hk) kX0_73 rfl ⟨Nat.le_of_ble_eq_true rfl, Nat.le_of_ble_eq_true rfl⟩ hl.1 rfl (Nat.le_of_ble_eq_true rfl) dX0_netOf_1 (fun v1 M2 H locs hp3 hW => ?_)
  obtain ⟨a4, rfl, hp3, hp3m⟩ := hp3
  rw [hp3m] at hW
  rcases hp3 with ⟨rfl, hp3⟩ | ⟨rfl, hp3⟩
  · exfalso; omega
  · refine rw_stk (st' := [.int (iN 0)]) rfl ?_
    refine rw_if_eq (tgt := 9) hx hb dX0_netOf_4 (by decide) (by decide) (fun _ => ?_) (fun c => absurd (by decide) c)
    refine lv_aload_n hx hb dX0_netOf_9 rfl (lv_at hl 0 rfl) ?_
    refine rw_getR hx hb hts hown hW o hF.1 9 (o + 6) rfl fX0_28 dX0_netOf_10 ?_
    refine lv_iload_n hx hb dX0_netOf_13 rfl (lv_at hl 2 rfl) ?_
    refine lv_aload_n hx hb dX0_netOf_14 rfl (lv_at hl 0 rfl) ?_
    refine rw_getR hx hb hts hown hW o hF.1 5 (o + 1) rfl fX0_9 dX0_netOf_15 ?_
    refine lv_aload_n hx hb dX0_netOf_18 rfl (lv_at hl 0 rfl) ?_
    refine rw_getI hx hb hts hown hW o hF.1 1 1 rfl rfl fX0_38 dX0_netOf_19 (v := (M o 1)) rfl ?_
    refine rw_iald hx hb hW hnt4 (o + 1) hF.2.1 (by omega) (by omega) (by decide) dX0_netOf_22 (v := (M (o + 1) (M o 1))) rfl ?_
    refine rw_callV hx hb hml hts hown hW ⟨Nat.le_refl 0, Nat.le_refl 0⟩ [.int (iN y), .int (iN (M (o + 1) (M o 1)))] (o + 6) hF.2.2.2.2.2.1 rfl (c_X6_pushOf (l := l) (G := G) (ad := ad) (CA := CA) (nt := nt) (o + 6) hF.2.2.2.2.2 y (M (o + 1) (M o 1)) M (by omega) (by omega) (by omega)) kX0_117 rfl ⟨Nat.le_of_ble_eq_true rfl, Nat.le_of_ble_eq_true rfl⟩ hl.1 rfl (Nat.le_of_ble_eq_true rfl) dX0_netOf_23 (fun v5 M6 H locs hp7 hW => ?_)
    obtain ⟨_, rfl, rfl, hp7⟩ := hp7
    rw [hp7] at hW
    refine rw_stk (st' := [.int (iN (pushS (sd M (o + 6)) y (M (o + 1) (M o 1))))]) rfl ?_
    refine lv_aload_n hx hb dX0_netOf_26 rfl (lv_at hl 0 rfl) ?_
    refine rw_getR hx hb hts hown hW o hF.1 8 (o + 4) rfl fX0_24 dX0_netOf_27 ?_
    refine lv_iload_n hx hb dX0_netOf_30 rfl (lv_at hl 1 rfl) ?_
    refine lv_aload_n hx hb dX0_netOf_31 rfl (lv_at hl 0 rfl) ?_
    refine rw_getR hx hb hts hown hW o hF.1 5 (o + 1) rfl fX0_9 dX0_netOf_32 ?_
    refine lv_aload_n hx hb dX0_netOf_35 rfl (lv_at hl 0 rfl) ?_
    refine rw_getI hx hb hts hown hW o hF.1 1 1 rfl rfl fX0_38 dX0_netOf_36 (v := (M o 1)) rfl ?_
    refine rw_iald hx hb hW hnt4 (o + 1) hF.2.1 (by omega) (by omega) (by decide) dX0_netOf_39 (v := (M (o + 1) (M o 1))) rfl ?_
    refine rw_callV hx hb hml hts hown hW ⟨Nat.le_refl 0, Nat.le_refl 0⟩ [.int (iN x), .int (iN (M (o + 1) (M o 1)))] (o + 4) hF.2.2.2.2.1.1 rfl (c_X6_pushOf (l := l) (G := G) (ad := ad) (CA := CA) (nt := nt) (o + 4) hF.2.2.2.2.1 x (M (o + 1) (M o 1)) M (by omega) (by omega) (by omega)) kX0_117 rfl ⟨Nat.le_of_ble_eq_true rfl, Nat.le_of_ble_eq_true rfl⟩ hl.1 rfl (Nat.le_of_ble_eq_true rfl) dX0_netOf_40 (fun v8 M9 H locs hp10 hW => ?_)
    obtain ⟨_, rfl, rfl, hp10⟩ := hp10
    rw [hp10] at hW
    refine rw_stk (st' := [.int (iN (pushS (sd M (o + 4)) x (M (o + 1) (M o 1)))), .int (iN (pushS (sd M (o + 6)) y (M (o + 1) (M o 1))))]) rfl ?_
    refine rw_isub hx hb dX0_netOf_43 ?_
    refine lv_aload_n hx hb dX0_netOf_44 rfl (lv_at hl 0 rfl) ?_
    refine rw_getR hx hb hts hown hW o hF.1 6 (o + 2) rfl fX0_15 dX0_netOf_45 ?_
    refine lv_aload_n hx hb dX0_netOf_48 rfl (lv_at hl 0 rfl) ?_
    refine rw_getI hx hb hts hown hW o hF.1 1 1 rfl rfl fX0_38 dX0_netOf_49 (v := (M o 1)) rfl ?_
    refine rw_iald hx hb hW hnt4 (o + 2) hF.2.2.1 (by omega) (by omega) (by decide) dX0_netOf_52 (v := (M (o + 2) (M o 1))) rfl ?_
    refine rw_iadd hx hb dX0_netOf_53 ?_
    refine rw_iconst hx hb dX0_netOf_54 ?_
    refine rw_isub hx hb dX0_netOf_55 ?_
    refine rw_iret hx hb hr hlocks hW dX0_netOf_56 (⟨(((pushS (sd M (o + 6)) y (M (o + 1) (M o 1))) - (pushS (sd M (o + 4)) x (M (o + 1) (M o 1)))) + (M (o + 2) (M o 1))) - 3, rfl, ?_⟩)
    exact ⟨by unfold netF; rw [fld_27, fld_r M o (by omega), fld_l M o (by omega), sdF_0, sdF_1], rfl⟩
abbrev P_X0_sentBy (o : Nat) (sx : Int) (M : Mem) : Option Value → Mem → Prop := oI (fun zz MM => zz = sentF (fld M o) sx ∧ MM = M)
set_option maxRecDepth 100000 in
set_option maxHeartbeats 4000000 in
theorem c_X0_sentBy {l : Launch} {G : va_G} {ad : Nat → Nat} {CA : Nat → ClassId} {nt : Nat} {Ly : List LD} (hnt : 4 ≤ nt) (o : Nat) (hF : FAt Ly o) (sx : Int) (hs : sx = 0 ∨ sx = 1) (M : Mem) (hI : InvF (fld M o)) : Mt l yX0_sentBy cX0_sentBy 3 (some .int) 1 22 G ad CA nt Ly [.ref (ad o), .int (iN sx)] M (P_X0_sentBy o sx M) := by
  refine Mt.of (by decide) (Nat.le_of_ble_eq_true rfl) (fun p e s m args below meth c hx hb hr hml hts hown hlocks hnm hW ls hl => ?_)
  have hl : lv_has ls 3 [(0, .ref (ad o)), (1, .int (iN sx))] := hl
  have hnt4 : 4 ≤ nt := by omega
  obtain ⟨H, hH⟩ : ∃ z, z = s.heap := ⟨_, rfl⟩
  obtain ⟨locs, hlo⟩ : ∃ z : List Loc, z = [] := ⟨_, rfl⟩
  rw [← hH, ← hlo] at hW ⊢
  rcases hs with rfl | rfl
  · have hc := hI.c
    have hk := hI.k2
    have hf0 := hI.s0.f
    have hf1 := hI.s1.f
    have hn0 := hI.s0.nm
    have hn1 := hI.s1.nm
    have hd0 := hI.s0.kd
    have hd1 := hI.s1.kd
    refine lv_aload_n hx hb dX0_sentBy_0 rfl (lv_at hl 0 rfl) ?_
    refine lv_iload_n hx hb dX0_sentBy_1 rfl (lv_at hl 1 rfl) ?_
    refine rw_callV hx hb hml hts hown hW ⟨Nat.le_refl 0, Nat.le_refl 0⟩ [.int (iN 0)] o hF.1 rfl (c_X0_sideOf (l := l) (G := G) (ad := ad) (CA := CA) (nt := nt) o hF 0 (by omega) M) kX0_101 rfl ⟨Nat.le_of_ble_eq_true rfl, Nat.le_of_ble_eq_true rfl⟩ hl.1 rfl (Nat.le_of_ble_eq_true rfl) dX0_sentBy_2 (fun v1 M2 H locs hp3 hW => ?_)
    obtain ⟨_, rfl, rfl, hp3⟩ := hp3
    rw [hp3] at hW
    rw [if_pos rfl]
    refine rw_stk (st' := [.ref (ad (o + 4))]) rfl ?_
    refine lv_astore_n (lv' := [(2, .ref (ad (o + 4))), (0, .ref (ad o)), (1, .int (iN 0))]) hx hb dX0_sentBy_5 rfl hl (by decide) rfl (fun ls hl => ?_)
    refine lv_aload_n hx hb dX0_sentBy_6 rfl (lv_at hl 0 rfl) ?_
    refine rw_getI hx hb hts hown hW (o + 4) hF.2.2.2.2.1.1 3 3 rfl rfl fX0_105 dX0_sentBy_7 (v := (M (o + 4) 3)) rfl ?_
    rcases (show ((M (o + 4) 3) < 1 ∨ 4 < (M (o + 4) 3)) ∨ (M (o + 4) 3) = 1 ∨ (M (o + 4) 3) = 2 ∨ (M (o + 4) 3) = 3 ∨ (M (o + 4) 3) = 4 by omega) with c_10 | c_10 | c_10 | c_10 | c_10
    · refine rw_tswD (tgt := 98) hx hb dX0_sentBy_10 (by omega) c_10 (by decide) ?_
      refine lv_aload_n hx hb dX0_sentBy_98 rfl (lv_at hl 0 rfl) ?_
      refine rw_getI hx hb hts hown hW (o + 4) hF.2.2.2.2.1.1 0 0 rfl rfl fX0_86 dX0_sentBy_99 (v := (M (o + 4) 0)) rfl ?_
      refine rw_iret hx hb hr hlocks hW dX0_sentBy_102 (⟨(M (o + 4) 0), rfl, ?_⟩)
      refine ⟨?_, rfl⟩
      rw [sentF_0, sdF_0, sdF_1]
      simp only [sd_0, sd_6, sd_7, fld_27, fld_47]
      repeat' split
      all_goals omega
    · refine rw_tswK (tgt := 40) hx hb dX0_sentBy_10 (by omega) 0 (by omega) rfl (by decide) ?_
      refine lv_aload_n hx hb dX0_sentBy_40 rfl (lv_at hl 0 rfl) ?_
      refine rw_getI hx hb hts hown hW (o + 4) hF.2.2.2.2.1.1 0 0 rfl rfl fX0_86 dX0_sentBy_41 (v := (M (o + 4) 0)) rfl ?_
      refine rw_iconst hx hb dX0_sentBy_44 ?_
      refine rw_idiv hx hb dX0_sentBy_45 (by omega) (by decide) (by decide) rfl ?_
      refine rw_iret hx hb hr hlocks hW dX0_sentBy_46 (⟨Int.tdiv (M (o + 4) 0) 2, rfl, ?_⟩)
      refine ⟨?_, rfl⟩
      rw [sentF_0, sdF_0, sdF_1]
      rw [Int.tdiv_eq_ediv_of_nonneg (by omega)]
      simp only [sd_0, sd_6, sd_7, fld_27, fld_47]
      repeat' split
      all_goals omega
    · refine rw_tswK (tgt := 47) hx hb dX0_sentBy_10 (by omega) 1 (by omega) rfl (by decide) ?_
      refine lv_aload_n hx hb dX0_sentBy_47 rfl (lv_at hl 0 rfl) ?_
      refine rw_getI hx hb hts hown hW (o + 4) hF.2.2.2.2.1.1 4 4 rfl rfl fX0_108 dX0_sentBy_48 (v := (M (o + 4) 4)) rfl ?_
      refine lv_aload_n hx hb dX0_sentBy_51 rfl (lv_at hl 0 rfl) ?_
      refine rw_getI hx hb hts hown hW (o + 4) hF.2.2.2.2.1.1 0 0 rfl rfl fX0_86 dX0_sentBy_52 (v := (M (o + 4) 0)) rfl ?_
      refine rw_min hx hb hml hl.1 hts hown (wm_26 _ (List.mem_of_getElem? (i := 1) rfl)) wmin_ok ⟨Nat.le_of_ble_eq_true rfl, Nat.le_of_ble_eq_true rfl⟩ ⟨Nat.le_refl 0, Nat.le_refl 0⟩ (by omega) (by omega) dX0_sentBy_55 ?_
      refine rw_iret hx hb hr hlocks hW dX0_sentBy_58 (⟨min (M (o + 4) 4) (M (o + 4) 0), rfl, ?_⟩)
      refine ⟨?_, rfl⟩
      rw [sentF_0, sdF_0, sdF_1]
      simp only [sd_0, sd_6, sd_7, fld_27, fld_47]
      repeat' split
      all_goals omega
    · refine rw_tswK (tgt := 59) hx hb dX0_sentBy_10 (by omega) 2 (by omega) rfl (by decide) ?_
      refine lv_aload_n hx hb dX0_sentBy_59 rfl (lv_at hl 1 rfl) ?_
      refine lv_iload_n hx hb dX0_sentBy_60 rfl (lv_at hl 2 rfl) ?_
      refine lv_aload_n hx hb dX0_sentBy_61 rfl (lv_at hl 0 rfl) ?_
      refine rw_getI hx hb hts hown hW (o + 4) hF.2.2.2.2.1.1 4 4 rfl rfl fX0_108 dX0_sentBy_62 (v := (M (o + 4) 4)) rfl ?_
      refine rw_callV hx hb hml hts hown hW ⟨Nat.le_refl 0, Nat.le_refl 0⟩ [.int (iN 0), .int (iN (M (o + 4) 4))] o hF.1 rfl (c_X0_isLateFor (l := l) (G := G) (ad := ad) (CA := CA) (nt := nt) o hF 0 (by omega) (M (o + 4) 4) (by omega) M hc hk) kX0_114 rfl ⟨Nat.le_of_ble_eq_true rfl, Nat.le_of_ble_eq_true rfl⟩ hl.1 rfl (Nat.le_of_ble_eq_true rfl) dX0_sentBy_65 (fun v4 M5 H locs hp6 hW => ?_)
      obtain ⟨a7, rfl, hp6, hp6m⟩ := hp6
      rw [hp6m] at hW
      rcases hp6 with ⟨rfl, hp6⟩ | ⟨rfl, hp6⟩
      · first | rw [if_pos rfl] at hp6 | rw [if_neg (by decide)] at hp6
        refine rw_stk (st' := [.int (iN 1)]) rfl ?_
        refine rw_if_eq (tgt := 78) hx hb dX0_sentBy_68 (by decide) (by decide) (fun c => absurd c (by decide)) (fun _ => ?_)
        refine lv_aload_n hx hb dX0_sentBy_71 rfl (lv_at hl 0 rfl) ?_
        refine rw_getI hx hb hts hown hW (o + 4) hF.2.2.2.2.1.1 0 0 rfl rfl fX0_86 dX0_sentBy_72 (v := (M (o + 4) 0)) rfl ?_
        refine lv_goto (tgt := 79) hx hb dX0_sentBy_75 (by decide) ?_
        refine rw_iret hx hb hr hlocks hW dX0_sentBy_79 (⟨(M (o + 4) 0), rfl, ?_⟩)
        refine ⟨?_, rfl⟩
        rw [sentF_0, sdF_0, sdF_1]
        simp only [sd_0, sd_6, sd_7, fld_27, fld_47]
        repeat' split
        all_goals omega
      · first | rw [if_pos rfl] at hp6 | rw [if_neg (by decide)] at hp6
        refine rw_stk (st' := [.int (iN 0)]) rfl ?_
        refine rw_if_eq (tgt := 78) hx hb dX0_sentBy_68 (by decide) (by decide) (fun _ => ?_) (fun c => absurd (by decide) c)
        refine rw_iconst hx hb dX0_sentBy_78 ?_
        refine rw_iret hx hb hr hlocks hW dX0_sentBy_79 (⟨0, rfl, ?_⟩)
        refine ⟨?_, rfl⟩
        rw [sentF_0, sdF_0, sdF_1]
        simp only [sd_0, sd_6, sd_7, fld_27, fld_47]
        repeat' split
        all_goals omega
    · refine rw_tswK (tgt := 80) hx hb dX0_sentBy_10 (by omega) 3 (by omega) rfl (by decide) ?_
      refine lv_aload_n hx hb dX0_sentBy_80 rfl (lv_at hl 1 rfl) ?_
      refine rw_iconst hx hb dX0_sentBy_81 ?_
      refine lv_iload_n hx hb dX0_sentBy_82 rfl (lv_at hl 2 rfl) ?_
      refine rw_isub hx hb dX0_sentBy_83 ?_
      refine rw_stk (st' := [.int (iN 1), .ref (ad o)]) rfl ?_
      refine rw_callV hx hb hml hts hown hW ⟨Nat.le_refl 0, Nat.le_refl 0⟩ [.int (iN 1)] o hF.1 rfl (c_X0_sideOf (l := l) (G := G) (ad := ad) (CA := CA) (nt := nt) o hF 1 (by omega) M) kX0_101 rfl ⟨Nat.le_of_ble_eq_true rfl, Nat.le_of_ble_eq_true rfl⟩ hl.1 rfl (Nat.le_of_ble_eq_true rfl) dX0_sentBy_84 (fun v8 M9 H locs hp10 hW => ?_)
      obtain ⟨_, rfl, rfl, hp10⟩ := hp10
      rw [hp10] at hW
      rw [if_neg (by decide)]
      refine rw_stk (st' := [.ref (ad (o + 6))]) rfl ?_
      refine rw_getI hx hb hts hown hW (o + 6) hF.2.2.2.2.2.1 0 0 rfl rfl fX0_86 dX0_sentBy_87 (v := (M (o + 6) 0)) rfl ?_
      refine lv_aload_n hx hb dX0_sentBy_90 rfl (lv_at hl 0 rfl) ?_
      refine rw_getI hx hb hts hown hW (o + 4) hF.2.2.2.2.1.1 0 0 rfl rfl fX0_86 dX0_sentBy_91 (v := (M (o + 4) 0)) rfl ?_
      refine rw_min hx hb hml hl.1 hts hown (wm_26 _ (List.mem_of_getElem? (i := 1) rfl)) wmin_ok ⟨Nat.le_of_ble_eq_true rfl, Nat.le_of_ble_eq_true rfl⟩ ⟨Nat.le_refl 0, Nat.le_refl 0⟩ (by omega) (by omega) dX0_sentBy_94 ?_
      refine rw_iret hx hb hr hlocks hW dX0_sentBy_97 (⟨min (M (o + 6) 0) (M (o + 4) 0), rfl, ?_⟩)
      refine ⟨?_, rfl⟩
      rw [sentF_0, sdF_0, sdF_1]
      simp only [sd_0, sd_6, sd_7, fld_27, fld_47]
      repeat' split
      all_goals omega
  · have hc := hI.c
    have hk := hI.k2
    have hf0 := hI.s0.f
    have hf1 := hI.s1.f
    have hn0 := hI.s0.nm
    have hn1 := hI.s1.nm
    have hd0 := hI.s0.kd
    have hd1 := hI.s1.kd
    refine lv_aload_n hx hb dX0_sentBy_0 rfl (lv_at hl 0 rfl) ?_
    refine lv_iload_n hx hb dX0_sentBy_1 rfl (lv_at hl 1 rfl) ?_
    refine rw_callV hx hb hml hts hown hW ⟨Nat.le_refl 0, Nat.le_refl 0⟩ [.int (iN 1)] o hF.1 rfl (c_X0_sideOf (l := l) (G := G) (ad := ad) (CA := CA) (nt := nt) o hF 1 (by omega) M) kX0_101 rfl ⟨Nat.le_of_ble_eq_true rfl, Nat.le_of_ble_eq_true rfl⟩ hl.1 rfl (Nat.le_of_ble_eq_true rfl) dX0_sentBy_2 (fun v11 M12 H locs hp13 hW => ?_)
    obtain ⟨_, rfl, rfl, hp13⟩ := hp13
    rw [hp13] at hW
    rw [if_neg (by decide)]
    refine rw_stk (st' := [.ref (ad (o + 6))]) rfl ?_
    refine lv_astore_n (lv' := [(2, .ref (ad (o + 6))), (0, .ref (ad o)), (1, .int (iN 1))]) hx hb dX0_sentBy_5 rfl hl (by decide) rfl (fun ls hl => ?_)
    refine lv_aload_n hx hb dX0_sentBy_6 rfl (lv_at hl 0 rfl) ?_
    refine rw_getI hx hb hts hown hW (o + 6) hF.2.2.2.2.2.1 3 3 rfl rfl fX0_105 dX0_sentBy_7 (v := (M (o + 6) 3)) rfl ?_
    rcases (show ((M (o + 6) 3) < 1 ∨ 4 < (M (o + 6) 3)) ∨ (M (o + 6) 3) = 1 ∨ (M (o + 6) 3) = 2 ∨ (M (o + 6) 3) = 3 ∨ (M (o + 6) 3) = 4 by omega) with c_10 | c_10 | c_10 | c_10 | c_10
    · refine rw_tswD (tgt := 98) hx hb dX0_sentBy_10 (by omega) c_10 (by decide) ?_
      refine lv_aload_n hx hb dX0_sentBy_98 rfl (lv_at hl 0 rfl) ?_
      refine rw_getI hx hb hts hown hW (o + 6) hF.2.2.2.2.2.1 0 0 rfl rfl fX0_86 dX0_sentBy_99 (v := (M (o + 6) 0)) rfl ?_
      refine rw_iret hx hb hr hlocks hW dX0_sentBy_102 (⟨(M (o + 6) 0), rfl, ?_⟩)
      refine ⟨?_, rfl⟩
      rw [sentF_1, sdF_0, sdF_1]
      simp only [sd_0, sd_6, sd_7, fld_27, fld_47]
      repeat' split
      all_goals omega
    · refine rw_tswK (tgt := 40) hx hb dX0_sentBy_10 (by omega) 0 (by omega) rfl (by decide) ?_
      refine lv_aload_n hx hb dX0_sentBy_40 rfl (lv_at hl 0 rfl) ?_
      refine rw_getI hx hb hts hown hW (o + 6) hF.2.2.2.2.2.1 0 0 rfl rfl fX0_86 dX0_sentBy_41 (v := (M (o + 6) 0)) rfl ?_
      refine rw_iconst hx hb dX0_sentBy_44 ?_
      refine rw_idiv hx hb dX0_sentBy_45 (by omega) (by decide) (by decide) rfl ?_
      refine rw_iret hx hb hr hlocks hW dX0_sentBy_46 (⟨Int.tdiv (M (o + 6) 0) 2, rfl, ?_⟩)
      refine ⟨?_, rfl⟩
      rw [sentF_1, sdF_0, sdF_1]
      rw [Int.tdiv_eq_ediv_of_nonneg (by omega)]
      simp only [sd_0, sd_6, sd_7, fld_27, fld_47]
      repeat' split
      all_goals omega
    · refine rw_tswK (tgt := 47) hx hb dX0_sentBy_10 (by omega) 1 (by omega) rfl (by decide) ?_
      refine lv_aload_n hx hb dX0_sentBy_47 rfl (lv_at hl 0 rfl) ?_
      refine rw_getI hx hb hts hown hW (o + 6) hF.2.2.2.2.2.1 4 4 rfl rfl fX0_108 dX0_sentBy_48 (v := (M (o + 6) 4)) rfl ?_
      refine lv_aload_n hx hb dX0_sentBy_51 rfl (lv_at hl 0 rfl) ?_
      refine rw_getI hx hb hts hown hW (o + 6) hF.2.2.2.2.2.1 0 0 rfl rfl fX0_86 dX0_sentBy_52 (v := (M (o + 6) 0)) rfl ?_
      refine rw_min hx hb hml hl.1 hts hown (wm_26 _ (List.mem_of_getElem? (i := 1) rfl)) wmin_ok ⟨Nat.le_of_ble_eq_true rfl, Nat.le_of_ble_eq_true rfl⟩ ⟨Nat.le_refl 0, Nat.le_refl 0⟩ (by omega) (by omega) dX0_sentBy_55 ?_
      refine rw_iret hx hb hr hlocks hW dX0_sentBy_58 (⟨min (M (o + 6) 4) (M (o + 6) 0), rfl, ?_⟩)
      refine ⟨?_, rfl⟩
      rw [sentF_1, sdF_0, sdF_1]
      simp only [sd_0, sd_6, sd_7, fld_27, fld_47]
      repeat' split
      all_goals omega
    · refine rw_tswK (tgt := 59) hx hb dX0_sentBy_10 (by omega) 2 (by omega) rfl (by decide) ?_
      refine lv_aload_n hx hb dX0_sentBy_59 rfl (lv_at hl 1 rfl) ?_
      refine lv_iload_n hx hb dX0_sentBy_60 rfl (lv_at hl 2 rfl) ?_
      refine lv_aload_n hx hb dX0_sentBy_61 rfl (lv_at hl 0 rfl) ?_
      refine rw_getI hx hb hts hown hW (o + 6) hF.2.2.2.2.2.1 4 4 rfl rfl fX0_108 dX0_sentBy_62 (v := (M (o + 6) 4)) rfl ?_
      refine rw_callV hx hb hml hts hown hW ⟨Nat.le_refl 0, Nat.le_refl 0⟩ [.int (iN 1), .int (iN (M (o + 6) 4))] o hF.1 rfl (c_X0_isLateFor (l := l) (G := G) (ad := ad) (CA := CA) (nt := nt) o hF 1 (by omega) (M (o + 6) 4) (by omega) M hc hk) kX0_114 rfl ⟨Nat.le_of_ble_eq_true rfl, Nat.le_of_ble_eq_true rfl⟩ hl.1 rfl (Nat.le_of_ble_eq_true rfl) dX0_sentBy_65 (fun v14 M15 H locs hp16 hW => ?_)
      obtain ⟨a17, rfl, hp16, hp16m⟩ := hp16
      rw [hp16m] at hW
      rcases hp16 with ⟨rfl, hp16⟩ | ⟨rfl, hp16⟩
      · first | rw [if_pos rfl] at hp16 | rw [if_neg (by decide)] at hp16
        refine rw_stk (st' := [.int (iN 1)]) rfl ?_
        refine rw_if_eq (tgt := 78) hx hb dX0_sentBy_68 (by decide) (by decide) (fun c => absurd c (by decide)) (fun _ => ?_)
        refine lv_aload_n hx hb dX0_sentBy_71 rfl (lv_at hl 0 rfl) ?_
        refine rw_getI hx hb hts hown hW (o + 6) hF.2.2.2.2.2.1 0 0 rfl rfl fX0_86 dX0_sentBy_72 (v := (M (o + 6) 0)) rfl ?_
        refine lv_goto (tgt := 79) hx hb dX0_sentBy_75 (by decide) ?_
        refine rw_iret hx hb hr hlocks hW dX0_sentBy_79 (⟨(M (o + 6) 0), rfl, ?_⟩)
        refine ⟨?_, rfl⟩
        rw [sentF_1, sdF_0, sdF_1]
        simp only [sd_0, sd_6, sd_7, fld_27, fld_47]
        repeat' split
        all_goals omega
      · first | rw [if_pos rfl] at hp16 | rw [if_neg (by decide)] at hp16
        refine rw_stk (st' := [.int (iN 0)]) rfl ?_
        refine rw_if_eq (tgt := 78) hx hb dX0_sentBy_68 (by decide) (by decide) (fun _ => ?_) (fun c => absurd (by decide) c)
        refine rw_iconst hx hb dX0_sentBy_78 ?_
        refine rw_iret hx hb hr hlocks hW dX0_sentBy_79 (⟨0, rfl, ?_⟩)
        refine ⟨?_, rfl⟩
        rw [sentF_1, sdF_0, sdF_1]
        simp only [sd_0, sd_6, sd_7, fld_27, fld_47]
        repeat' split
        all_goals omega
    · refine rw_tswK (tgt := 80) hx hb dX0_sentBy_10 (by omega) 3 (by omega) rfl (by decide) ?_
      refine lv_aload_n hx hb dX0_sentBy_80 rfl (lv_at hl 1 rfl) ?_
      refine rw_iconst hx hb dX0_sentBy_81 ?_
      refine lv_iload_n hx hb dX0_sentBy_82 rfl (lv_at hl 2 rfl) ?_
      refine rw_isub hx hb dX0_sentBy_83 ?_
      refine rw_stk (st' := [.int (iN 0), .ref (ad o)]) rfl ?_
      refine rw_callV hx hb hml hts hown hW ⟨Nat.le_refl 0, Nat.le_refl 0⟩ [.int (iN 0)] o hF.1 rfl (c_X0_sideOf (l := l) (G := G) (ad := ad) (CA := CA) (nt := nt) o hF 0 (by omega) M) kX0_101 rfl ⟨Nat.le_of_ble_eq_true rfl, Nat.le_of_ble_eq_true rfl⟩ hl.1 rfl (Nat.le_of_ble_eq_true rfl) dX0_sentBy_84 (fun v18 M19 H locs hp20 hW => ?_)
      obtain ⟨_, rfl, rfl, hp20⟩ := hp20
      rw [hp20] at hW
      rw [if_pos rfl]
      refine rw_stk (st' := [.ref (ad (o + 4))]) rfl ?_
      refine rw_getI hx hb hts hown hW (o + 4) hF.2.2.2.2.1.1 0 0 rfl rfl fX0_86 dX0_sentBy_87 (v := (M (o + 4) 0)) rfl ?_
      refine lv_aload_n hx hb dX0_sentBy_90 rfl (lv_at hl 0 rfl) ?_
      refine rw_getI hx hb hts hown hW (o + 6) hF.2.2.2.2.2.1 0 0 rfl rfl fX0_86 dX0_sentBy_91 (v := (M (o + 6) 0)) rfl ?_
      refine rw_min hx hb hml hl.1 hts hown (wm_26 _ (List.mem_of_getElem? (i := 1) rfl)) wmin_ok ⟨Nat.le_of_ble_eq_true rfl, Nat.le_of_ble_eq_true rfl⟩ ⟨Nat.le_refl 0, Nat.le_refl 0⟩ (by omega) (by omega) dX0_sentBy_94 ?_
      refine rw_iret hx hb hr hlocks hW dX0_sentBy_97 (⟨min (M (o + 4) 0) (M (o + 6) 0), rfl, ?_⟩)
      refine ⟨?_, rfl⟩
      rw [sentF_1, sdF_0, sdF_1]
      simp only [sd_0, sd_6, sd_7, fld_27, fld_47]
      repeat' split
      all_goals omega
abbrev P_X0_pass (o : Nat) (x : Int) (y : Int) (w : Int) (M : Mem) : Option Value → Mem → Prop := oV (fun MM => fld MM o = passF (fld M o) x y w ∧ Same M MM o 8)
set_option maxRecDepth 100000 in
set_option maxHeartbeats 4000000 in
theorem c_X0_pass {l : Launch} {G : va_G} {ad : Nat → Nat} {CA : Nat → ClassId} {nt : Nat} {Ly : List LD} (hnt : 4 ≤ nt) (o : Nat) (hF : FAt Ly o) (x : Int) (y : Int) (w : Int) (hw : in32 w) (M : Mem) (hI : InvF (fld M o)) (hov : M o 1 < M o 0) (hx1 : 0 ≤ x ∧ x ≤ M (o + 4) 0) (hy1 : 0 ≤ y ∧ y ≤ M (o + 6) 0) : Mt l yX0_pass cX0_pass 5 none 3 58 G ad CA nt Ly [.ref (ad o), .int (iN x), .int (iN y), .int (iN w)] M (P_X0_pass o x y w M) := by
  refine Mt.of (by decide) (Nat.le_of_ble_eq_true rfl) (fun p e s m args below meth c hx hb hr hml hts hown hlocks hnm hW ls hl => ?_)
  have hl : lv_has ls 5 [(0, .ref (ad o)), (1, .int (iN x)), (2, .int (iN y)), (3, .int (iN w))] := hl
  have hnt4 : 4 ≤ nt := by omega
  obtain ⟨H, hH⟩ : ∃ z, z = s.heap := ⟨_, rfl⟩
  obtain ⟨locs, hlo⟩ : ∃ z : List Loc, z = [] := ⟨_, rfl⟩
  rw [← hH, ← hlo] at hW ⊢
  have hc := hI.c
  have hk := hI.k2
  have hf0 := hI.s0.f
  have hf1 := hI.s1.f
  have hrr := hI.r
  have hn := netF_rng hI (by rw [fld_27, fld_47]; exact hov) (x := x) (y := y) (by omega) (by omega)
  have hwy := wayF_rng (fld M o) (netF (fld M o) x y)
  refine lv_aload_n hx hb dX0_pass_0 rfl (lv_at hl 0 rfl) ?_
  refine rw_callV hx hb hml hts hown hW ⟨Nat.le_refl 0, Nat.le_refl 0⟩ [] o hF.1 rfl (c_X0_isOver (l := l) (G := G) (ad := ad) (CA := CA) (nt := nt) o hF M hc hk) kX0_73 rfl ⟨Nat.le_of_ble_eq_true rfl, Nat.le_of_ble_eq_true rfl⟩ hl.1 rfl (Nat.le_of_ble_eq_true rfl) dX0_pass_1 (fun v1 M2 H locs hp3 hW => ?_)
  obtain ⟨a4, rfl, hp3, hp3m⟩ := hp3
  rw [hp3m] at hW
  rcases hp3 with ⟨rfl, hp3⟩ | ⟨rfl, hp3⟩
  · exfalso; omega
  · refine rw_stk (st' := [.int (iN 0)]) rfl ?_
    refine rw_if_eq (tgt := 8) hx hb dX0_pass_4 (by decide) (by decide) (fun _ => ?_) (fun c => absurd (by decide) c)
    refine lv_aload_n hx hb dX0_pass_8 rfl (lv_at hl 0 rfl) ?_
    refine lv_aload_n hx hb dX0_pass_9 rfl (lv_at hl 0 rfl) ?_
    refine lv_iload_n hx hb dX0_pass_10 rfl (lv_at hl 1 rfl) ?_
    refine lv_iload_n hx hb dX0_pass_11 rfl (lv_at hl 2 rfl) ?_
    refine rw_callV hx hb hml hts hown hW ⟨Nat.le_refl 0, Nat.le_refl 0⟩ [.int (iN x), .int (iN y)] o hF.1 rfl (c_X0_netOf (l := l) (G := G) (ad := ad) (CA := CA) (nt := nt) (by omega) o hF x y (by omega) (by omega) M hI (by omega)) kX0_120 rfl ⟨Nat.le_of_ble_eq_true rfl, Nat.le_of_ble_eq_true rfl⟩ hl.1 rfl (Nat.le_of_ble_eq_true rfl) dX0_pass_12 (fun v5 M6 H locs hp7 hW => ?_)
    obtain ⟨_, rfl, rfl, hp7⟩ := hp7
    rw [hp7] at hW
    refine rw_stk (st' := [.int (iN (netF (fld M o) x y)), .ref (ad o)]) rfl ?_
    refine rw_callV hx hb hml hts hown hW ⟨Nat.le_refl 0, Nat.le_refl 0⟩ [.int (iN (netF (fld M o) x y))] o hF.1 rfl (c_X0_wayOf (l := l) (G := G) (ad := ad) (CA := CA) (nt := nt) (by omega) o hF (netF (fld M o) x y) (by omega) M hI (by omega)) kX0_123 rfl ⟨Nat.le_of_ble_eq_true rfl, Nat.le_of_ble_eq_true rfl⟩ hl.1 rfl (Nat.le_of_ble_eq_true rfl) dX0_pass_15 (fun v8 M9 H locs hp10 hW => ?_)
    obtain ⟨_, rfl, rfl, hp10⟩ := hp10
    rw [hp10] at hW
    refine rw_stk (st' := [.int (iN (wayF (fld M o) (netF (fld M o) x y)))]) rfl ?_
    refine lv_istore (lv' := [(4, .int (iN (wayF (fld M o) (netF (fld M o) x y)))), (0, .ref (ad o)), (1, .int (iN x)), (2, .int (iN y)), (3, .int (iN w))]) hx hb dX0_pass_18 hl (by decide) rfl (fun ls hl => ?_)
    refine lv_aload_n hx hb dX0_pass_20 rfl (lv_at hl 1 rfl) ?_
    refine lv_iload hx hb dX0_pass_21 (lv_at hl 0 rfl) ?_
    refine rw_callV hx hb hml hts hown hW ⟨Nat.le_refl 0, Nat.le_refl 0⟩ [.int (iN (wayF (fld M o) (netF (fld M o) x y)))] o hF.1 rfl (c_X0_shift (l := l) (G := G) (ad := ad) (CA := CA) (nt := nt) o hF (wayF (fld M o) (netF (fld M o) x y)) (by omega) M hc hk) kX0_126 rfl ⟨Nat.le_of_ble_eq_true rfl, Nat.le_of_ble_eq_true rfl⟩ hl.1 rfl (Nat.le_of_ble_eq_true rfl) dX0_pass_23 (fun v11 M12 H locs hp13 hW => ?_)
    obtain ⟨rfl, hM12⟩ := hp13
    refine rw_stk (st' := []) rfl ?_
    refine lv_iload_n hx hb dX0_pass_26 rfl (lv_at hl 4 rfl) ?_
    refine rw_if_eq (tgt := 36) hx hb dX0_pass_27 (by decide) (by omega) (fun c_27 => ?_) (fun c_27 => ?_)
    · refine lv_aload_n hx hb dX0_pass_36 rfl (lv_at hl 1 rfl) ?_
      refine rw_getR hx hb hts hown hW o hF.1 8 (o + 4) rfl fX0_24 dX0_pass_37 ?_
      refine lv_iload_n hx hb dX0_pass_40 rfl (lv_at hl 2 rfl) ?_
      refine lv_aload_n hx hb dX0_pass_41 rfl (lv_at hl 1 rfl) ?_
      refine rw_getI hx hb hts hown hW o hF.1 2 2 rfl rfl fX0_41 dX0_pass_42 (v := (M o 2)) (by rw [hM12, upd2_ne2 (by decide)]) ?_
      refine rw_callV hx hb hml hts hown hW ⟨Nat.le_refl 0, Nat.le_refl 0⟩ [.int (iN x), .int (iN (M o 2))] (o + 4) hF.2.2.2.2.1.1 rfl (c_X6_tire (l := l) (G := G) (ad := ad) (CA := CA) (nt := nt) (by omega) (o + 4) hF.2.2.2.2.1 x (M o 2) (by omega) M12) kX0_130 rfl ⟨Nat.le_of_ble_eq_true rfl, Nat.le_of_ble_eq_true rfl⟩ hl.1 rfl (Nat.le_of_ble_eq_true rfl) dX0_pass_45 (fun v14 M15 H locs hp16 hW => ?_)
      obtain ⟨rfl, hM15⟩ := hp16
      refine rw_stk (st' := []) rfl ?_
      refine lv_aload_n hx hb dX0_pass_48 rfl (lv_at hl 1 rfl) ?_
      refine rw_getR hx hb hts hown hW o hF.1 9 (o + 6) rfl fX0_28 dX0_pass_49 ?_
      refine lv_iload_n hx hb dX0_pass_52 rfl (lv_at hl 3 rfl) ?_
      refine lv_aload_n hx hb dX0_pass_53 rfl (lv_at hl 1 rfl) ?_
      refine rw_getI hx hb hts hown hW o hF.1 2 2 rfl rfl fX0_41 dX0_pass_54 (v := (M o 2)) (by rw [hM15.2 o (by omega), hM12, upd2_ne2 (by decide)]) ?_
      refine rw_callV hx hb hml hts hown hW ⟨Nat.le_refl 0, Nat.le_refl 0⟩ [.int (iN y), .int (iN (M o 2))] (o + 6) hF.2.2.2.2.2.1 rfl (c_X6_tire (l := l) (G := G) (ad := ad) (CA := CA) (nt := nt) (by omega) (o + 6) hF.2.2.2.2.2 y (M o 2) (by omega) M15) kX0_130 rfl ⟨Nat.le_of_ble_eq_true rfl, Nat.le_of_ble_eq_true rfl⟩ hl.1 rfl (Nat.le_of_ble_eq_true rfl) dX0_pass_57 (fun v17 M18 H locs hp19 hW => ?_)
      obtain ⟨rfl, hM18⟩ := hp19
      refine rw_stk (st' := []) rfl ?_
      refine lv_aload_n hx hb dX0_pass_60 rfl (lv_at hl 1 rfl) ?_
      refine lv_dup hx hb dX0_pass_61 rfl ?_
      refine rw_getI hx hb hts hown hW o hF.1 4 4 rfl rfl fX0_47 dX0_pass_62 (v := (M o 4)) (by rw [hM18.2 o (by omega), hM15.2 o (by omega), hM12, upd2_ne2 (by decide)]) ?_
      refine rw_iconst hx hb dX0_pass_65 ?_
      refine rw_iadd hx hb dX0_pass_66 ?_
      refine rw_putI hx hb hts hown hW o hF.1 4 4 rfl rfl qX0_47 (v := (M o 4) + 1) dX0_pass_67 (fun H locs hW => ?_)
      obtain ⟨M20, hM20⟩ : ∃ z, z = upd2 M18 o 4 ((M o 4) + 1) := ⟨_, rfl⟩
      rw [← hM20] at hW
      refine rw_vret hx hb hr hlocks hW dX0_pass_70 (⟨rfl, ?_⟩)
      rw [hM20]
      exact pass_page hM12 hM15 hM18 (by unfold kegF; rw [if_pos c_27]; rfl)
    · refine lv_aload_n hx hb dX0_pass_30 rfl (lv_at hl 1 rfl) ?_
      refine lv_iload hx hb dX0_pass_31 (lv_at hl 0 rfl) ?_
      refine rw_callV hx hb hml hts hown hW ⟨Nat.le_refl 0, Nat.le_refl 0⟩ [.int (iN (wayF (fld M o) (netF (fld M o) x y)))] o hF.1 rfl (c_X0_shift (l := l) (G := G) (ad := ad) (CA := CA) (nt := nt) o hF (wayF (fld M o) (netF (fld M o) x y)) (by omega) M12 (by rw [hM12, upd2_ne2 (by decide)]; exact hc) (by rw [hM12, upd2_eq]; exact shiftK_rng hc hk hwy)) kX0_126 rfl ⟨Nat.le_of_ble_eq_true rfl, Nat.le_of_ble_eq_true rfl⟩ hl.1 rfl (Nat.le_of_ble_eq_true rfl) dX0_pass_33 (fun v21 M22 H locs hp23 hW => ?_)
      obtain ⟨rfl, hM22⟩ := hp23
      refine rw_stk (st' := []) rfl ?_
      refine lv_aload_n hx hb dX0_pass_36 rfl (lv_at hl 1 rfl) ?_
      refine rw_getR hx hb hts hown hW o hF.1 8 (o + 4) rfl fX0_24 dX0_pass_37 ?_
      refine lv_iload_n hx hb dX0_pass_40 rfl (lv_at hl 2 rfl) ?_
      refine lv_aload_n hx hb dX0_pass_41 rfl (lv_at hl 1 rfl) ?_
      refine rw_getI hx hb hts hown hW o hF.1 2 2 rfl rfl fX0_41 dX0_pass_42 (v := (M o 2)) (by rw [hM22, upd2_ne2 (by decide), hM12, upd2_ne2 (by decide)]) ?_
      refine rw_callV hx hb hml hts hown hW ⟨Nat.le_refl 0, Nat.le_refl 0⟩ [.int (iN x), .int (iN (M o 2))] (o + 4) hF.2.2.2.2.1.1 rfl (c_X6_tire (l := l) (G := G) (ad := ad) (CA := CA) (nt := nt) (by omega) (o + 4) hF.2.2.2.2.1 x (M o 2) (by omega) M22) kX0_130 rfl ⟨Nat.le_of_ble_eq_true rfl, Nat.le_of_ble_eq_true rfl⟩ hl.1 rfl (Nat.le_of_ble_eq_true rfl) dX0_pass_45 (fun v24 M25 H locs hp26 hW => ?_)
      obtain ⟨rfl, hM25⟩ := hp26
      refine rw_stk (st' := []) rfl ?_
      refine lv_aload_n hx hb dX0_pass_48 rfl (lv_at hl 1 rfl) ?_
      refine rw_getR hx hb hts hown hW o hF.1 9 (o + 6) rfl fX0_28 dX0_pass_49 ?_
      refine lv_iload_n hx hb dX0_pass_52 rfl (lv_at hl 3 rfl) ?_
      refine lv_aload_n hx hb dX0_pass_53 rfl (lv_at hl 1 rfl) ?_
      refine rw_getI hx hb hts hown hW o hF.1 2 2 rfl rfl fX0_41 dX0_pass_54 (v := (M o 2)) (by rw [hM25.2 o (by omega), hM22, upd2_ne2 (by decide), hM12, upd2_ne2 (by decide)]) ?_
      refine rw_callV hx hb hml hts hown hW ⟨Nat.le_refl 0, Nat.le_refl 0⟩ [.int (iN y), .int (iN (M o 2))] (o + 6) hF.2.2.2.2.2.1 rfl (c_X6_tire (l := l) (G := G) (ad := ad) (CA := CA) (nt := nt) (by omega) (o + 6) hF.2.2.2.2.2 y (M o 2) (by omega) M25) kX0_130 rfl ⟨Nat.le_of_ble_eq_true rfl, Nat.le_of_ble_eq_true rfl⟩ hl.1 rfl (Nat.le_of_ble_eq_true rfl) dX0_pass_57 (fun v27 M28 H locs hp29 hW => ?_)
      obtain ⟨rfl, hM28⟩ := hp29
      refine rw_stk (st' := []) rfl ?_
      refine lv_aload_n hx hb dX0_pass_60 rfl (lv_at hl 1 rfl) ?_
      refine lv_dup hx hb dX0_pass_61 rfl ?_
      refine rw_getI hx hb hts hown hW o hF.1 4 4 rfl rfl fX0_47 dX0_pass_62 (v := (M o 4)) (by rw [hM28.2 o (by omega), hM25.2 o (by omega), hM22, upd2_ne2 (by decide), hM12, upd2_ne2 (by decide)]) ?_
      refine rw_iconst hx hb dX0_pass_65 ?_
      refine rw_iadd hx hb dX0_pass_66 ?_
      refine rw_putI hx hb hts hown hW o hF.1 4 4 rfl rfl qX0_47 (v := (M o 4) + 1) dX0_pass_67 (fun H locs hW => ?_)
      obtain ⟨M30, hM30⟩ : ∃ z, z = upd2 M28 o 4 ((M o 4) + 1) := ⟨_, rfl⟩
      rw [← hM30] at hW
      refine rw_vret hx hb hr hlocks hW dX0_pass_70 (⟨rfl, ?_⟩)
      rw [hM30]
      refine pass_page (Ms := M22) (k := shiftK (M o 0) (shiftK (M o 0) (M o 1) (wayF (fld M o) (netF (fld M o) x y))) (wayF (fld M o) (netF (fld M o) x y))) ?_ hM25 hM28 (by unfold kegF; rw [if_neg c_27]; rfl)
      rw [hM22, hM12, upd2_twice, upd2_ne2 (by decide), upd2_eq]
abbrev P_X0_passByCaptains (o : Nat) (w : Int) (M : Mem) : Option Value → Mem → Prop := oV (fun MM => fld MM o = passCap (fld M o) w ∧ Same M MM o 8)
set_option maxRecDepth 100000 in
set_option maxHeartbeats 4000000 in
theorem c_X0_passByCaptains {l : Launch} {G : va_G} {ad : Nat → Nat} {CA : Nat → ClassId} {nt : Nat} {Ly : List LD} (hnt : 4 ≤ nt) (o : Nat) (hF : FAt Ly o) (w : Int) (hw : in32 w) (M : Mem) (hI : InvF (fld M o)) : Mt l yX0_passByCaptains cX0_passByCaptains 2 none 4 82 G ad CA nt Ly [.ref (ad o), .int (iN w)] M (P_X0_passByCaptains o w M) := by
  refine Mt.of (by decide) (Nat.le_of_ble_eq_true rfl) (fun p e s m args below meth c hx hb hr hml hts hown hlocks hnm hW ls hl => ?_)
  have hl : lv_has ls 2 [(0, .ref (ad o)), (1, .int (iN w))] := hl
  have hnt4 : 4 ≤ nt := by omega
  obtain ⟨H, hH⟩ : ∃ z, z = s.heap := ⟨_, rfl⟩
  obtain ⟨locs, hlo⟩ : ∃ z : List Loc, z = [] := ⟨_, rfl⟩
  rw [← hH, ← hlo] at hW ⊢
  have hc := hI.c
  have hk := hI.k2
  have hs0 := sentF_rng hI (s := 0) (Or.inl rfl)
  have hs1 := sentF_rng hI (s := 1) (Or.inr rfl)
  rw [sdF_0, sd_0] at hs0
  rw [sdF_1, sd_0] at hs1
  refine lv_aload_n hx hb dX0_passByCaptains_0 rfl (lv_at hl 0 rfl) ?_
  refine rw_callV hx hb hml hts hown hW ⟨Nat.le_refl 0, Nat.le_refl 0⟩ [] o hF.1 rfl (c_X0_isOver (l := l) (G := G) (ad := ad) (CA := CA) (nt := nt) o hF M hc hk) kX0_73 rfl ⟨Nat.le_of_ble_eq_true rfl, Nat.le_of_ble_eq_true rfl⟩ hl.1 rfl (Nat.le_of_ble_eq_true rfl) dX0_passByCaptains_1 (fun v1 M2 H locs hp3 hW => ?_)
  obtain ⟨a4, rfl, hp3, hp3m⟩ := hp3
  rw [hp3m] at hW
  rcases hp3 with ⟨rfl, hp3⟩ | ⟨rfl, hp3⟩
  · refine rw_stk (st' := [.int (iN 1)]) rfl ?_
    refine rw_if_ne (tgt := 22) hx hb dX0_passByCaptains_4 (by decide) (by decide) (fun _ => ?_) (fun c => absurd c (by decide))
    refine rw_vret hx hb hr hlocks hW dX0_passByCaptains_22 (⟨rfl, ?_⟩)
    exact ⟨by unfold passCap; rw [if_pos (by rw [fld_47, fld_27]; omega)], Same.rf⟩
  · refine rw_stk (st' := [.int (iN 0)]) rfl ?_
    refine rw_if_ne (tgt := 22) hx hb dX0_passByCaptains_4 (by decide) (by decide) (fun c => absurd c (by decide)) (fun _ => ?_)
    refine lv_aload_n hx hb dX0_passByCaptains_7 rfl (lv_at hl 0 rfl) ?_
    refine lv_aload_n hx hb dX0_passByCaptains_8 rfl (lv_at hl 0 rfl) ?_
    refine rw_iconst hx hb dX0_passByCaptains_9 ?_
    refine rw_callV hx hb hml hts hown hW ⟨Nat.le_refl 0, Nat.le_refl 0⟩ [.int (iN 0)] o hF.1 rfl (c_X0_sentBy (l := l) (G := G) (ad := ad) (CA := CA) (nt := nt) (by omega) o hF 0 (by omega) M hI) kX0_137 rfl ⟨Nat.le_of_ble_eq_true rfl, Nat.le_of_ble_eq_true rfl⟩ hl.1 rfl (Nat.le_of_ble_eq_true rfl) dX0_passByCaptains_10 (fun v5 M6 H locs hp7 hW => ?_)
    obtain ⟨_, rfl, rfl, hp7⟩ := hp7
    rw [hp7] at hW
    refine rw_stk (st' := [.int (iN (sentF (fld M o) 0)), .ref (ad o)]) rfl ?_
    refine lv_aload_n hx hb dX0_passByCaptains_13 rfl (lv_at hl 0 rfl) ?_
    refine rw_iconst hx hb dX0_passByCaptains_14 ?_
    refine rw_callV hx hb hml hts hown hW ⟨Nat.le_refl 0, Nat.le_refl 0⟩ [.int (iN 1)] o hF.1 rfl (c_X0_sentBy (l := l) (G := G) (ad := ad) (CA := CA) (nt := nt) (by omega) o hF 1 (by omega) M hI) kX0_137 rfl ⟨Nat.le_of_ble_eq_true rfl, Nat.le_of_ble_eq_true rfl⟩ hl.1 rfl (Nat.le_of_ble_eq_true rfl) dX0_passByCaptains_15 (fun v8 M9 H locs hp10 hW => ?_)
    obtain ⟨_, rfl, rfl, hp10⟩ := hp10
    rw [hp10] at hW
    refine rw_stk (st' := [.int (iN (sentF (fld M o) 1)), .int (iN (sentF (fld M o) 0)), .ref (ad o)]) rfl ?_
    refine lv_iload_n hx hb dX0_passByCaptains_18 rfl (lv_at hl 1 rfl) ?_
    refine rw_callV hx hb hml hts hown hW ⟨Nat.le_refl 0, Nat.le_refl 0⟩ [.int (iN (sentF (fld M o) 0)), .int (iN (sentF (fld M o) 1)), .int (iN w)] o hF.1 rfl (c_X0_pass (l := l) (G := G) (ad := ad) (CA := CA) (nt := nt) (by omega) o hF (sentF (fld M o) 0) (sentF (fld M o) 1) w (by omega) M hI (by omega) (by omega) (by omega)) kX0_97 rfl ⟨Nat.le_of_ble_eq_true rfl, Nat.le_of_ble_eq_true rfl⟩ hl.1 rfl (Nat.le_of_ble_eq_true rfl) dX0_passByCaptains_19 (fun v11 M12 H locs hp13 hW => ?_)
    obtain ⟨rfl, hM12⟩ := hp13
    refine rw_stk (st' := []) rfl ?_
    refine rw_vret hx hb hr hlocks hW dX0_passByCaptains_22 (⟨rfl, ?_⟩)
    exact ⟨by unfold passCap; rw [if_neg (by rw [fld_47, fld_27]; omega)]; exact hM12.1, hM12.2⟩
abbrev P_X0_passByCaptainsBut (o : Nat) (sx : Int) (x : Int) (M : Mem) : Option Value → Mem → Prop := oV (fun MM => fld MM o = passBut (fld M o) sx x ∧ Same M MM o 8)
set_option maxRecDepth 100000 in
set_option maxHeartbeats 4000000 in
theorem c_X0_passByCaptainsBut {l : Launch} {G : va_G} {ad : Nat → Nat} {CA : Nat → ClassId} {nt : Nat} {Ly : List LD} (hnt : 4 ≤ nt) (o : Nat) (hF : FAt Ly o) (sx : Int) (hs : sx = 0 ∨ sx = 1) (x : Int) (M : Mem) (hI : InvF (fld M o)) (hx1 : 0 ≤ x ∧ x ≤ sdF (fld M o) sx 0) : Mt l yX0_passByCaptainsBut cX0_passByCaptainsBut 4 none 4 82 G ad CA nt Ly [.ref (ad o), .int (iN sx), .int (iN x)] M (P_X0_passByCaptainsBut o sx x M) := by
  refine Mt.of (by decide) (Nat.le_of_ble_eq_true rfl) (fun p e s m args below meth c hx hb hr hml hts hown hlocks hnm hW ls hl => ?_)
  have hl : lv_has ls 4 [(0, .ref (ad o)), (1, .int (iN sx)), (2, .int (iN x))] := hl
  have hnt4 : 4 ≤ nt := by omega
  obtain ⟨H, hH⟩ : ∃ z, z = s.heap := ⟨_, rfl⟩
  obtain ⟨locs, hlo⟩ : ∃ z : List Loc, z = [] := ⟨_, rfl⟩
  rw [← hH, ← hlo] at hW ⊢
  rcases hs with rfl | rfl
  · have hc := hI.c
    have hk := hI.k2
    have hf0 := hI.s0.f
    have hf1 := hI.s1.f
    have hs0 := sentF_rng hI (s := 0) (Or.inl rfl)
    have hs1 := sentF_rng hI (s := 1) (Or.inr rfl)
    first | rw [sdF_0, sd_0] at hx1 | rw [sdF_1, sd_0] at hx1
    rw [sdF_0, sd_0] at hs0
    rw [sdF_1, sd_0] at hs1
    refine lv_aload_n hx hb dX0_passByCaptainsBut_0 rfl (lv_at hl 0 rfl) ?_
    refine rw_callV hx hb hml hts hown hW ⟨Nat.le_refl 0, Nat.le_refl 0⟩ [] o hF.1 rfl (c_X0_isOver (l := l) (G := G) (ad := ad) (CA := CA) (nt := nt) o hF M hc hk) kX0_73 rfl ⟨Nat.le_of_ble_eq_true rfl, Nat.le_of_ble_eq_true rfl⟩ hl.1 rfl (Nat.le_of_ble_eq_true rfl) dX0_passByCaptainsBut_1 (fun v1 M2 H locs hp3 hW => ?_)
    obtain ⟨a4, rfl, hp3, hp3m⟩ := hp3
    rw [hp3m] at hW
    rcases hp3 with ⟨rfl, hp3⟩ | ⟨rfl, hp3⟩
    · refine rw_stk (st' := [.int (iN 1)]) rfl ?_
      refine rw_if_ne (tgt := 38) hx hb dX0_passByCaptainsBut_4 (by decide) (by decide) (fun _ => ?_) (fun c => absurd c (by decide))
      refine rw_vret hx hb hr hlocks hW dX0_passByCaptainsBut_38 (⟨rfl, ?_⟩)
      exact ⟨by unfold passBut; rw [if_pos (by rw [fld_47, fld_27]; omega)], Same.rf⟩
    · refine rw_stk (st' := [.int (iN 0)]) rfl ?_
      refine rw_if_ne (tgt := 38) hx hb dX0_passByCaptainsBut_4 (by decide) (by decide) (fun c => absurd c (by decide)) (fun _ => ?_)
      refine lv_aload_n hx hb dX0_passByCaptainsBut_7 rfl (lv_at hl 0 rfl) ?_
      refine rw_iconst hx hb dX0_passByCaptainsBut_8 ?_
      refine lv_iload_n hx hb dX0_passByCaptainsBut_9 rfl (lv_at hl 1 rfl) ?_
      refine rw_isub hx hb dX0_passByCaptainsBut_10 ?_
      refine rw_stk (st' := [.int (iN 1), .ref (ad o)]) rfl ?_
      refine rw_callV hx hb hml hts hown hW ⟨Nat.le_refl 0, Nat.le_refl 0⟩ [.int (iN 1)] o hF.1 rfl (c_X0_sentBy (l := l) (G := G) (ad := ad) (CA := CA) (nt := nt) (by omega) o hF 1 (by omega) M hI) kX0_137 rfl ⟨Nat.le_of_ble_eq_true rfl, Nat.le_of_ble_eq_true rfl⟩ hl.1 rfl (Nat.le_of_ble_eq_true rfl) dX0_passByCaptainsBut_11 (fun v5 M6 H locs hp7 hW => ?_)
      obtain ⟨_, rfl, rfl, hp7⟩ := hp7
      rw [hp7] at hW
      refine rw_stk (st' := [.int (iN (sentF (fld M o) 1))]) rfl ?_
      refine lv_istore_n (lv' := [(3, .int (iN (sentF (fld M o) 1))), (0, .ref (ad o)), (1, .int (iN 0)), (2, .int (iN x))]) hx hb dX0_passByCaptainsBut_14 rfl hl (by decide) rfl (fun ls hl => ?_)
      refine lv_aload_n hx hb dX0_passByCaptainsBut_15 rfl (lv_at hl 1 rfl) ?_
      refine lv_iload_n hx hb dX0_passByCaptainsBut_16 rfl (lv_at hl 2 rfl) ?_
      refine rw_if_ne (tgt := 24) hx hb dX0_passByCaptainsBut_17 (by decide) (by decide) (fun c => absurd c (by decide)) (fun _ => ?_)
      refine lv_iload_n hx hb dX0_passByCaptainsBut_20 rfl (lv_at hl 3 rfl) ?_
      refine lv_goto (tgt := 25) hx hb dX0_passByCaptainsBut_21 (by decide) ?_
      refine lv_iload_n hx hb dX0_passByCaptainsBut_25 rfl (lv_at hl 2 rfl) ?_
      refine rw_if_ne (tgt := 33) hx hb dX0_passByCaptainsBut_26 (by decide) (by decide) (fun c => absurd c (by decide)) (fun _ => ?_)
      refine lv_iload_n hx hb dX0_passByCaptainsBut_29 rfl (lv_at hl 0 rfl) ?_
      refine lv_goto (tgt := 34) hx hb dX0_passByCaptainsBut_30 (by decide) ?_
      refine rw_iconst hx hb dX0_passByCaptainsBut_34 ?_
      refine rw_callV hx hb hml hts hown hW ⟨Nat.le_refl 0, Nat.le_refl 0⟩ [.int (iN x), .int (iN (sentF (fld M o) 1)), .int (iN 0)] o hF.1 rfl (c_X0_pass (l := l) (G := G) (ad := ad) (CA := CA) (nt := nt) (by omega) o hF x (sentF (fld M o) 1) 0 (by omega) M hI (by omega) (by omega) (by omega)) kX0_97 rfl ⟨Nat.le_of_ble_eq_true rfl, Nat.le_of_ble_eq_true rfl⟩ hl.1 rfl (Nat.le_of_ble_eq_true rfl) dX0_passByCaptainsBut_35 (fun v8 M9 H locs hp10 hW => ?_)
      obtain ⟨rfl, hM9⟩ := hp10
      refine rw_stk (st' := []) rfl ?_
      refine rw_vret hx hb hr hlocks hW dX0_passByCaptainsBut_38 (⟨rfl, ?_⟩)
      exact ⟨by unfold passBut; rw [if_neg (by rw [fld_47, fld_27]; omega), if_pos rfl]; exact hM9.1, hM9.2⟩
  · have hc := hI.c
    have hk := hI.k2
    have hf0 := hI.s0.f
    have hf1 := hI.s1.f
    have hs0 := sentF_rng hI (s := 0) (Or.inl rfl)
    have hs1 := sentF_rng hI (s := 1) (Or.inr rfl)
    first | rw [sdF_0, sd_0] at hx1 | rw [sdF_1, sd_0] at hx1
    rw [sdF_0, sd_0] at hs0
    rw [sdF_1, sd_0] at hs1
    refine lv_aload_n hx hb dX0_passByCaptainsBut_0 rfl (lv_at hl 0 rfl) ?_
    refine rw_callV hx hb hml hts hown hW ⟨Nat.le_refl 0, Nat.le_refl 0⟩ [] o hF.1 rfl (c_X0_isOver (l := l) (G := G) (ad := ad) (CA := CA) (nt := nt) o hF M hc hk) kX0_73 rfl ⟨Nat.le_of_ble_eq_true rfl, Nat.le_of_ble_eq_true rfl⟩ hl.1 rfl (Nat.le_of_ble_eq_true rfl) dX0_passByCaptainsBut_1 (fun v11 M12 H locs hp13 hW => ?_)
    obtain ⟨a14, rfl, hp13, hp13m⟩ := hp13
    rw [hp13m] at hW
    rcases hp13 with ⟨rfl, hp13⟩ | ⟨rfl, hp13⟩
    · refine rw_stk (st' := [.int (iN 1)]) rfl ?_
      refine rw_if_ne (tgt := 38) hx hb dX0_passByCaptainsBut_4 (by decide) (by decide) (fun _ => ?_) (fun c => absurd c (by decide))
      refine rw_vret hx hb hr hlocks hW dX0_passByCaptainsBut_38 (⟨rfl, ?_⟩)
      exact ⟨by unfold passBut; rw [if_pos (by rw [fld_47, fld_27]; omega)], Same.rf⟩
    · refine rw_stk (st' := [.int (iN 0)]) rfl ?_
      refine rw_if_ne (tgt := 38) hx hb dX0_passByCaptainsBut_4 (by decide) (by decide) (fun c => absurd c (by decide)) (fun _ => ?_)
      refine lv_aload_n hx hb dX0_passByCaptainsBut_7 rfl (lv_at hl 0 rfl) ?_
      refine rw_iconst hx hb dX0_passByCaptainsBut_8 ?_
      refine lv_iload_n hx hb dX0_passByCaptainsBut_9 rfl (lv_at hl 1 rfl) ?_
      refine rw_isub hx hb dX0_passByCaptainsBut_10 ?_
      refine rw_stk (st' := [.int (iN 0), .ref (ad o)]) rfl ?_
      refine rw_callV hx hb hml hts hown hW ⟨Nat.le_refl 0, Nat.le_refl 0⟩ [.int (iN 0)] o hF.1 rfl (c_X0_sentBy (l := l) (G := G) (ad := ad) (CA := CA) (nt := nt) (by omega) o hF 0 (by omega) M hI) kX0_137 rfl ⟨Nat.le_of_ble_eq_true rfl, Nat.le_of_ble_eq_true rfl⟩ hl.1 rfl (Nat.le_of_ble_eq_true rfl) dX0_passByCaptainsBut_11 (fun v15 M16 H locs hp17 hW => ?_)
      obtain ⟨_, rfl, rfl, hp17⟩ := hp17
      rw [hp17] at hW
      refine rw_stk (st' := [.int (iN (sentF (fld M o) 0))]) rfl ?_
      refine lv_istore_n (lv' := [(3, .int (iN (sentF (fld M o) 0))), (0, .ref (ad o)), (1, .int (iN 1)), (2, .int (iN x))]) hx hb dX0_passByCaptainsBut_14 rfl hl (by decide) rfl (fun ls hl => ?_)
      refine lv_aload_n hx hb dX0_passByCaptainsBut_15 rfl (lv_at hl 1 rfl) ?_
      refine lv_iload_n hx hb dX0_passByCaptainsBut_16 rfl (lv_at hl 2 rfl) ?_
      refine rw_if_ne (tgt := 24) hx hb dX0_passByCaptainsBut_17 (by decide) (by decide) (fun _ => ?_) (fun c => absurd c (by decide))
      refine lv_iload_n hx hb dX0_passByCaptainsBut_24 rfl (lv_at hl 0 rfl) ?_
      refine lv_iload_n hx hb dX0_passByCaptainsBut_25 rfl (lv_at hl 2 rfl) ?_
      refine rw_if_ne (tgt := 33) hx hb dX0_passByCaptainsBut_26 (by decide) (by decide) (fun _ => ?_) (fun c => absurd c (by decide))
      refine lv_iload_n hx hb dX0_passByCaptainsBut_33 rfl (lv_at hl 3 rfl) ?_
      refine rw_iconst hx hb dX0_passByCaptainsBut_34 ?_
      refine rw_callV hx hb hml hts hown hW ⟨Nat.le_refl 0, Nat.le_refl 0⟩ [.int (iN (sentF (fld M o) 0)), .int (iN x), .int (iN 0)] o hF.1 rfl (c_X0_pass (l := l) (G := G) (ad := ad) (CA := CA) (nt := nt) (by omega) o hF (sentF (fld M o) 0) x 0 (by omega) M hI (by omega) (by omega) (by omega)) kX0_97 rfl ⟨Nat.le_of_ble_eq_true rfl, Nat.le_of_ble_eq_true rfl⟩ hl.1 rfl (Nat.le_of_ble_eq_true rfl) dX0_passByCaptainsBut_35 (fun v18 M19 H locs hp20 hW => ?_)
      obtain ⟨rfl, hM19⟩ := hp20
      refine rw_stk (st' := []) rfl ?_
      refine rw_vret hx hb hr hlocks hW dX0_passByCaptainsBut_38 (⟨rfl, ?_⟩)
      exact ⟨by unfold passBut; rw [if_neg (by rw [fld_47, fld_27]; omega), if_neg (by decide)]; exact hM19.1, hM19.2⟩
abbrev P_X0_passOrRefuse (o : Nat) (x : Int) (y : Int) (w : Int) (M : Mem) : Option Value → Mem → Prop := oI (fun zz MM => zz = refF (fld M o) x y ∧ ((refF (fld M o) x y = 0 ∧ fld MM o = passF (fld M o) x y w ∧ Same M MM o 8) ∨ (refF (fld M o) x y ≠ 0 ∧ MM = M)))
set_option maxRecDepth 100000 in
set_option maxHeartbeats 4000000 in
theorem c_X0_passOrRefuse {l : Launch} {G : va_G} {ad : Nat → Nat} {CA : Nat → ClassId} {nt : Nat} {Ly : List LD} (hnt : 4 ≤ nt) (o : Nat) (hF : FAt Ly o) (x : Int) (y : Int) (hx1 : in32 x) (hy1 : in32 y) (w : Int) (hw : in32 w) (M : Mem) (hI : InvF (fld M o)) : Mt l yX0_passOrRefuse cX0_passOrRefuse 4 (some .int) 4 82 G ad CA nt Ly [.ref (ad o), .int (iN x), .int (iN y), .int (iN w)] M (P_X0_passOrRefuse o x y w M) := by
  refine Mt.of (by decide) (Nat.le_of_ble_eq_true rfl) (fun p e s m args below meth c hx hb hr hml hts hown hlocks hnm hW ls hl => ?_)
  have hl : lv_has ls 4 [(0, .ref (ad o)), (1, .int (iN x)), (2, .int (iN y)), (3, .int (iN w))] := hl
  have hnt4 : 4 ≤ nt := by omega
  obtain ⟨H, hH⟩ : ∃ z, z = s.heap := ⟨_, rfl⟩
  obtain ⟨locs, hlo⟩ : ∃ z : List Loc, z = [] := ⟨_, rfl⟩
  rw [← hH, ← hlo] at hW ⊢
  have hc := hI.c
  have hk := hI.k2
  have hm := hI.m
  have hf0 := hI.s0.f
  have hf1 := hI.s1.f
  refine lv_aload_n hx hb dX0_passOrRefuse_0 rfl (lv_at hl 0 rfl) ?_
  refine lv_iload_n hx hb dX0_passOrRefuse_1 rfl (lv_at hl 1 rfl) ?_
  refine lv_iload_n hx hb dX0_passOrRefuse_2 rfl (lv_at hl 2 rfl) ?_
  refine rw_callV hx hb hml hts hown hW ⟨Nat.le_refl 0, Nat.le_refl 0⟩ [.int (iN x), .int (iN y)] o hF.1 rfl (c_X0_hasFresh (l := l) (G := G) (ad := ad) (CA := CA) (nt := nt) o hF x (by omega) y (by omega) M hI) kX0_93 rfl ⟨Nat.le_of_ble_eq_true rfl, Nat.le_of_ble_eq_true rfl⟩ hl.1 rfl (Nat.le_of_ble_eq_true rfl) dX0_passOrRefuse_3 (fun v1 M2 H locs hp3 hW => ?_)
  obtain ⟨a4, rfl, hp3, hp3m⟩ := hp3
  rw [hp3m] at hW
  rcases hp3 with ⟨rfl, hp3⟩ | ⟨rfl, hp3⟩
  · refine rw_stk (st' := [.int (iN 1)]) rfl ?_
    refine rw_if_ne (tgt := 11) hx hb dX0_passOrRefuse_6 (by decide) (by decide) (fun _ => ?_) (fun c => absurd c (by decide))
    refine lv_aload_n hx hb dX0_passOrRefuse_11 rfl (lv_at hl 0 rfl) ?_
    refine rw_callV hx hb hml hts hown hW ⟨Nat.le_refl 0, Nat.le_refl 0⟩ [] o hF.1 rfl (c_X0_isOver (l := l) (G := G) (ad := ad) (CA := CA) (nt := nt) o hF M hc hk) kX0_73 rfl ⟨Nat.le_of_ble_eq_true rfl, Nat.le_of_ble_eq_true rfl⟩ hl.1 rfl (Nat.le_of_ble_eq_true rfl) dX0_passOrRefuse_12 (fun v5 M6 H locs hp7 hW => ?_)
    obtain ⟨a8, rfl, hp7, hp7m⟩ := hp7
    rw [hp7m] at hW
    rcases hp7 with ⟨rfl, hp7⟩ | ⟨rfl, hp7⟩
    · refine rw_stk (st' := [.int (iN 1)]) rfl ?_
      refine rw_if_eq (tgt := 21) hx hb dX0_passOrRefuse_15 (by decide) (by decide) (fun c => absurd c (by decide)) (fun _ => ?_)
      refine rw_bipush hx hb dX0_passOrRefuse_18 (by decide) ?_
      refine rw_iret hx hb hr hlocks hW dX0_passOrRefuse_20 (⟨(-2), rfl, ?_⟩)
      have e : refF (fld M o) x y = (-2) := by
        unfold refF
        rw [sdF_0, sdF_1, sd_0, sd_0, fld_47, fld_27, fld_46]
        split <;> (try split) <;> (try split) <;> omega
      exact ⟨e.symm, Or.inr ⟨by rw [e]; decide, rfl⟩⟩
    · refine rw_stk (st' := [.int (iN 0)]) rfl ?_
      refine rw_if_eq (tgt := 21) hx hb dX0_passOrRefuse_15 (by decide) (by decide) (fun _ => ?_) (fun c => absurd (by decide) c)
      refine lv_aload_n hx hb dX0_passOrRefuse_21 rfl (lv_at hl 0 rfl) ?_
      refine rw_getI hx hb hts hown hW o hF.1 4 4 rfl rfl fX0_47 dX0_passOrRefuse_22 (v := (M o 4)) rfl ?_
      refine rw_sipush hx hb dX0_passOrRefuse_25 (by decide) ?_
      refine rw_icmp_lt (tgt := 34) hx hb dX0_passOrRefuse_28 (by decide) (by omega) (by decide) (fun c_28 => ?_) (fun c_28 => ?_)
      · refine lv_aload_n hx hb dX0_passOrRefuse_34 rfl (lv_at hl 0 rfl) ?_
        refine lv_iload_n hx hb dX0_passOrRefuse_35 rfl (lv_at hl 1 rfl) ?_
        refine lv_iload_n hx hb dX0_passOrRefuse_36 rfl (lv_at hl 2 rfl) ?_
        refine lv_iload_n hx hb dX0_passOrRefuse_37 rfl (lv_at hl 3 rfl) ?_
        refine rw_callV hx hb hml hts hown hW ⟨Nat.le_refl 0, Nat.le_refl 0⟩ [.int (iN x), .int (iN y), .int (iN w)] o hF.1 rfl (c_X0_pass (l := l) (G := G) (ad := ad) (CA := CA) (nt := nt) (by omega) o hF x y w (by omega) M hI (by omega) (by omega) (by omega)) kX0_97 rfl ⟨Nat.le_of_ble_eq_true rfl, Nat.le_of_ble_eq_true rfl⟩ hl.1 rfl (Nat.le_of_ble_eq_true rfl) dX0_passOrRefuse_38 (fun v9 M10 H locs hp11 hW => ?_)
        obtain ⟨rfl, hM10⟩ := hp11
        refine rw_stk (st' := []) rfl ?_
        refine rw_iconst hx hb dX0_passOrRefuse_41 ?_
        refine rw_iret hx hb hr hlocks hW dX0_passOrRefuse_42 (⟨0, rfl, ?_⟩)
        have e : refF (fld M o) x y = 0 := by
          unfold refF
          rw [sdF_0, sdF_1, sd_0, sd_0, fld_47, fld_27, fld_46]
          split <;> (try split) <;> (try split) <;> omega
        exact ⟨e.symm, Or.inl ⟨e, hM10.1, hM10.2⟩⟩
      · refine rw_bipush hx hb dX0_passOrRefuse_31 (by decide) ?_
        refine rw_iret hx hb hr hlocks hW dX0_passOrRefuse_33 (⟨(-3), rfl, ?_⟩)
        have e : refF (fld M o) x y = (-3) := by
          unfold refF
          rw [sdF_0, sdF_1, sd_0, sd_0, fld_47, fld_27, fld_46]
          split <;> (try split) <;> (try split) <;> omega
        exact ⟨e.symm, Or.inr ⟨by rw [e]; decide, rfl⟩⟩
  · refine rw_stk (st' := [.int (iN 0)]) rfl ?_
    refine rw_if_ne (tgt := 11) hx hb dX0_passOrRefuse_6 (by decide) (by decide) (fun c => absurd c (by decide)) (fun _ => ?_)
    refine rw_iconst hx hb dX0_passOrRefuse_9 ?_
    refine rw_iret hx hb hr hlocks hW dX0_passOrRefuse_10 (⟨(-1), rfl, ?_⟩)
    have e : refF (fld M o) x y = (-1) := by
      unfold refF
      rw [sdF_0, sdF_1, sd_0, sd_0, fld_47, fld_27, fld_46]
      split <;> (try split) <;> (try split) <;> omega
    exact ⟨e.symm, Or.inr ⟨by rw [e]; decide, rfl⟩⟩
abbrev P_X0_copyOf (o : Nat) (o2 : Nat) (M : Mem) : Option Value → Mem → Prop := oV (fun MM => fld MM o = fld M o2 ∧ Same M MM o 8)
set_option maxRecDepth 100000 in
set_option maxHeartbeats 4000000 in
theorem c_X0_copyOf {l : Launch} {G : va_G} {ad : Nat → Nat} {CA : Nat → ClassId} {nt : Nat} {Ly : List LD} (hnt : 4 ≤ nt) (o : Nat) (hF : FAt Ly o) (o2 : Nat) (hF2 : FAt Ly o2) (hd : o2 + 8 ≤ o ∨ o + 8 ≤ o2) (M : Mem) : Mt l yX0_copyOf cX0_copyOf 2 none 1 40 G ad CA nt Ly [.ref (ad o), .ref (ad o2)] M (P_X0_copyOf o o2 M) := by
  refine Mt.of (by decide) (Nat.le_of_ble_eq_true rfl) (fun p e s m args below meth c hx hb hr hml hts hown hlocks hnm hW ls hl => ?_)
  have hl : lv_has ls 2 [(0, .ref (ad o)), (1, .ref (ad o2))] := hl
  have hnt4 : 4 ≤ nt := by omega
  obtain ⟨H, hH⟩ : ∃ z, z = s.heap := ⟨_, rfl⟩
  obtain ⟨locs, hlo⟩ : ∃ z : List Loc, z = [] := ⟨_, rfl⟩
  rw [← hH, ← hlo] at hW ⊢
  refine lv_aload_n hx hb dX0_copyOf_0 rfl (lv_at hl 0 rfl) ?_
  refine lv_aload_n hx hb dX0_copyOf_1 rfl (lv_at hl 1 rfl) ?_
  refine rw_getI hx hb hts hown hW o2 hF2.1 0 0 rfl rfl fX0_34 dX0_copyOf_2 (v := (M o2 0)) rfl ?_
  refine rw_putI hx hb hts hown hW o hF.1 0 0 rfl rfl qX0_34 (v := (M o2 0)) dX0_copyOf_5 (fun H locs hW => ?_)
  obtain ⟨M1, hM1⟩ : ∃ z, z = upd2 M o 0 (M o2 0) := ⟨_, rfl⟩
  rw [← hM1] at hW
  refine lv_aload_n hx hb dX0_copyOf_8 rfl (lv_at hl 0 rfl) ?_
  refine lv_aload_n hx hb dX0_copyOf_9 rfl (lv_at hl 1 rfl) ?_
  refine rw_getI hx hb hts hown hW o2 hF2.1 1 1 rfl rfl fX0_38 dX0_copyOf_10 (v := (M1 o2 1)) rfl ?_
  refine rw_putI hx hb hts hown hW o hF.1 1 1 rfl rfl qX0_38 (v := (M1 o2 1)) dX0_copyOf_13 (fun H locs hW => ?_)
  obtain ⟨M2, hM2⟩ : ∃ z, z = upd2 M1 o 1 (M1 o2 1) := ⟨_, rfl⟩
  rw [← hM2] at hW
  refine lv_aload_n hx hb dX0_copyOf_16 rfl (lv_at hl 0 rfl) ?_
  refine lv_aload_n hx hb dX0_copyOf_17 rfl (lv_at hl 1 rfl) ?_
  refine rw_getI hx hb hts hown hW o2 hF2.1 2 2 rfl rfl fX0_41 dX0_copyOf_18 (v := (M2 o2 2)) rfl ?_
  refine rw_putI hx hb hts hown hW o hF.1 2 2 rfl rfl qX0_41 (v := (M2 o2 2)) dX0_copyOf_21 (fun H locs hW => ?_)
  obtain ⟨M3, hM3⟩ : ∃ z, z = upd2 M2 o 2 (M2 o2 2) := ⟨_, rfl⟩
  rw [← hM3] at hW
  refine lv_aload_n hx hb dX0_copyOf_24 rfl (lv_at hl 0 rfl) ?_
  refine lv_aload_n hx hb dX0_copyOf_25 rfl (lv_at hl 1 rfl) ?_
  refine rw_getI hx hb hts hown hW o2 hF2.1 3 3 rfl rfl fX0_44 dX0_copyOf_26 (v := (M3 o2 3)) rfl ?_
  refine rw_putI hx hb hts hown hW o hF.1 3 3 rfl rfl qX0_44 (v := (M3 o2 3)) dX0_copyOf_29 (fun H locs hW => ?_)
  obtain ⟨M4, hM4⟩ : ∃ z, z = upd2 M3 o 3 (M3 o2 3) := ⟨_, rfl⟩
  rw [← hM4] at hW
  refine lv_aload_n hx hb dX0_copyOf_32 rfl (lv_at hl 0 rfl) ?_
  refine lv_aload_n hx hb dX0_copyOf_33 rfl (lv_at hl 1 rfl) ?_
  refine rw_getI hx hb hts hown hW o2 hF2.1 4 4 rfl rfl fX0_47 dX0_copyOf_34 (v := (M4 o2 4)) rfl ?_
  refine rw_putI hx hb hts hown hW o hF.1 4 4 rfl rfl qX0_47 (v := (M4 o2 4)) dX0_copyOf_37 (fun H locs hW => ?_)
  obtain ⟨M5, hM5⟩ : ∃ z, z = upd2 M4 o 4 (M4 o2 4) := ⟨_, rfl⟩
  rw [← hM5] at hW
  refine lv_aload_n hx hb dX0_copyOf_40 rfl (lv_at hl 1 rfl) ?_
  refine rw_getR hx hb hts hown hW o2 hF2.1 5 (o2 + 1) rfl fX0_9 dX0_copyOf_41 ?_
  refine rw_iconst hx hb dX0_copyOf_44 ?_
  refine lv_aload_n hx hb dX0_copyOf_45 rfl (lv_at hl 0 rfl) ?_
  refine rw_getR hx hb hts hown hW o hF.1 5 (o + 1) rfl fX0_9 dX0_copyOf_46 ?_
  refine rw_iconst hx hb dX0_copyOf_49 ?_
  refine rw_bipush hx hb dX0_copyOf_50 (by decide) ?_
  refine rw_copy hx hb hml hl.1 hts hown hW hnt4 (index := 51) ⟨(wm_15 _ (List.mem_of_getElem? (i := 15) rfl)), (wm_15 _ (List.mem_of_getElem? (i := 16) rfl)), (wm_15 _ (List.mem_of_getElem? (i := 17) rfl)), (wm_15 _ (List.mem_of_getElem? (i := 18) rfl))⟩ (o2 + 1) (o + 1) hF2.2.1 hF.2.1 (n := 9) (by decide) (by decide) (by decide) ⟨Nat.le_of_ble_eq_true rfl, Nat.le_of_ble_eq_true rfl⟩ dX0_copyOf_52 (fun H locs hW => ?_)
  obtain ⟨M6, hM6⟩ : ∃ z, z = updR M5 (o + 1) (cpyI (M5 (o2 + 1)) (M5 (o + 1)) 9) := ⟨_, rfl⟩
  rw [show ((9 : Nat) : Int) = 9 from rfl, ← hM6] at hW
  refine lv_aload_n hx hb dX0_copyOf_55 rfl (lv_at hl 1 rfl) ?_
  refine rw_getR hx hb hts hown hW o2 hF2.1 6 (o2 + 2) rfl fX0_15 dX0_copyOf_56 ?_
  refine rw_iconst hx hb dX0_copyOf_59 ?_
  refine lv_aload_n hx hb dX0_copyOf_60 rfl (lv_at hl 0 rfl) ?_
  refine rw_getR hx hb hts hown hW o hF.1 6 (o + 2) rfl fX0_15 dX0_copyOf_61 ?_
  refine rw_iconst hx hb dX0_copyOf_64 ?_
  refine rw_bipush hx hb dX0_copyOf_65 (by decide) ?_
  refine rw_copy hx hb hml hl.1 hts hown hW hnt4 (index := 51) ⟨(wm_15 _ (List.mem_of_getElem? (i := 15) rfl)), (wm_15 _ (List.mem_of_getElem? (i := 16) rfl)), (wm_15 _ (List.mem_of_getElem? (i := 17) rfl)), (wm_15 _ (List.mem_of_getElem? (i := 18) rfl))⟩ (o2 + 2) (o + 2) hF2.2.2.1 hF.2.2.1 (n := 9) (by decide) (by decide) (by decide) ⟨Nat.le_of_ble_eq_true rfl, Nat.le_of_ble_eq_true rfl⟩ dX0_copyOf_67 (fun H locs hW => ?_)
  obtain ⟨M7, hM7⟩ : ∃ z, z = updR M6 (o + 2) (cpyI (M6 (o2 + 2)) (M6 (o + 2)) 9) := ⟨_, rfl⟩
  rw [show ((9 : Nat) : Int) = 9 from rfl, ← hM7] at hW
  refine lv_aload_n hx hb dX0_copyOf_70 rfl (lv_at hl 1 rfl) ?_
  refine rw_getR hx hb hts hown hW o2 hF2.1 7 (o2 + 3) rfl fX0_18 dX0_copyOf_71 ?_
  refine rw_iconst hx hb dX0_copyOf_74 ?_
  refine lv_aload_n hx hb dX0_copyOf_75 rfl (lv_at hl 0 rfl) ?_
  refine rw_getR hx hb hts hown hW o hF.1 7 (o + 3) rfl fX0_18 dX0_copyOf_76 ?_
  refine rw_iconst hx hb dX0_copyOf_79 ?_
  refine rw_bipush hx hb dX0_copyOf_80 (by decide) ?_
  refine rw_copy hx hb hml hl.1 hts hown hW hnt4 (index := 51) ⟨(wm_15 _ (List.mem_of_getElem? (i := 15) rfl)), (wm_15 _ (List.mem_of_getElem? (i := 16) rfl)), (wm_15 _ (List.mem_of_getElem? (i := 17) rfl)), (wm_15 _ (List.mem_of_getElem? (i := 18) rfl))⟩ (o2 + 3) (o + 3) hF2.2.2.2.1 hF.2.2.2.1 (n := 9) (by decide) (by decide) (by decide) ⟨Nat.le_of_ble_eq_true rfl, Nat.le_of_ble_eq_true rfl⟩ dX0_copyOf_82 (fun H locs hW => ?_)
  obtain ⟨M8, hM8⟩ : ∃ z, z = updR M7 (o + 3) (cpyI (M7 (o2 + 3)) (M7 (o + 3)) 9) := ⟨_, rfl⟩
  rw [show ((9 : Nat) : Int) = 9 from rfl, ← hM8] at hW
  refine lv_aload_n hx hb dX0_copyOf_85 rfl (lv_at hl 0 rfl) ?_
  refine rw_getR hx hb hts hown hW o hF.1 8 (o + 4) rfl fX0_24 dX0_copyOf_86 ?_
  refine lv_aload_n hx hb dX0_copyOf_89 rfl (lv_at hl 1 rfl) ?_
  refine rw_getR hx hb hts hown hW o2 hF2.1 8 (o2 + 4) rfl fX0_24 dX0_copyOf_90 ?_
  refine rw_callV hx hb hml hts hown hW ⟨Nat.le_refl 0, Nat.le_refl 0⟩ [.ref (ad (o2 + 4))] (o + 4) hF.2.2.2.2.1.1 rfl (c_X6_copyOf (l := l) (G := G) (ad := ad) (CA := CA) (nt := nt) (by omega) (o + 4) hF.2.2.2.2.1 (o2 + 4) hF2.2.2.2.2.1 (by omega) M8) kX0_57 rfl ⟨Nat.le_of_ble_eq_true rfl, Nat.le_of_ble_eq_true rfl⟩ hl.1 rfl (Nat.le_of_ble_eq_true rfl) dX0_copyOf_93 (fun v9 M10 H locs hp11 hW => ?_)
  obtain ⟨rfl, hM10⟩ := hp11
  refine rw_stk (st' := []) rfl ?_
  refine lv_aload_n hx hb dX0_copyOf_96 rfl (lv_at hl 0 rfl) ?_
  refine rw_getR hx hb hts hown hW o hF.1 9 (o + 6) rfl fX0_28 dX0_copyOf_97 ?_
  refine lv_aload_n hx hb dX0_copyOf_100 rfl (lv_at hl 1 rfl) ?_
  refine rw_getR hx hb hts hown hW o2 hF2.1 9 (o2 + 6) rfl fX0_28 dX0_copyOf_101 ?_
  refine rw_callV hx hb hml hts hown hW ⟨Nat.le_refl 0, Nat.le_refl 0⟩ [.ref (ad (o2 + 6))] (o + 6) hF.2.2.2.2.2.1 rfl (c_X6_copyOf (l := l) (G := G) (ad := ad) (CA := CA) (nt := nt) (by omega) (o + 6) hF.2.2.2.2.2 (o2 + 6) hF2.2.2.2.2.2 (by omega) M10) kX0_57 rfl ⟨Nat.le_of_ble_eq_true rfl, Nat.le_of_ble_eq_true rfl⟩ hl.1 rfl (Nat.le_of_ble_eq_true rfl) dX0_copyOf_104 (fun v12 M13 H locs hp14 hW => ?_)
  obtain ⟨rfl, hM13⟩ := hp14
  refine rw_stk (st' := []) rfl ?_
  refine rw_vret hx hb hr hlocks hW dX0_copyOf_107 (⟨rfl, ?_⟩)
  refine copy_page (M1 := M8) (M2 := M10) (M3 := M13) (by omega) ?_ ?_ ?_ ?_ ?_ ?_ ?_ ?_ ?_ hM10 hM13
  · intro k hk; simp only [hM8, hM7, hM6, hM5, hM4, hM3, hM2, hM1]; simp [upd2_at, upd2_ne1, updR_ne, show k ≠ o by omega, show k ≠ o + 1 by omega, show k ≠ o + 2 by omega, show k ≠ o + 3 by omega]
  · simp [hM8, hM7, hM6, hM5, hM4, hM3, hM2, hM1, upd2_at, updR, show o2 ≠ o by omega]
  · simp [hM8, hM7, hM6, hM5, hM4, hM3, hM2, hM1, upd2_at, updR, show o2 ≠ o by omega]
  · simp [hM8, hM7, hM6, hM5, hM4, hM3, hM2, hM1, upd2_at, updR, show o2 ≠ o by omega]
  · simp [hM8, hM7, hM6, hM5, hM4, hM3, hM2, hM1, upd2_at, updR, show o2 ≠ o by omega]
  · simp [hM8, hM7, hM6, hM5, hM4, hM3, hM2, hM1, upd2_at, updR, show o2 ≠ o by omega]
  · intro i hi hi2; simp [hM8, hM7, hM6, hM5, hM4, hM3, hM2, hM1, upd2_at, updR, cpyI, hi, hi2, show o2 + 1 ≠ o by omega, show o2 + 2 ≠ o by omega, show o2 + 3 ≠ o by omega, show o2 + 2 ≠ o + 1 by omega, show o2 + 3 ≠ o + 1 by omega, show o2 + 3 ≠ o + 2 by omega]
  · intro i hi hi2; simp [hM8, hM7, hM6, hM5, hM4, hM3, hM2, hM1, upd2_at, updR, cpyI, hi, hi2, show o2 + 1 ≠ o by omega, show o2 + 2 ≠ o by omega, show o2 + 3 ≠ o by omega, show o2 + 2 ≠ o + 1 by omega, show o2 + 3 ≠ o + 1 by omega, show o2 + 3 ≠ o + 2 by omega]
  · intro i hi hi2; simp [hM8, hM7, hM6, hM5, hM4, hM3, hM2, hM1, upd2_at, updR, cpyI, hi, hi2, show o2 + 1 ≠ o by omega, show o2 + 2 ≠ o by omega, show o2 + 3 ≠ o by omega, show o2 + 2 ≠ o + 1 by omega, show o2 + 3 ≠ o + 1 by omega, show o2 + 3 ≠ o + 2 by omega]
