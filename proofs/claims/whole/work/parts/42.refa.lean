abbrev P_X11_in (v : Int) (a : Int) (b : Int) (M : Mem) : Option Value → Mem → Prop := oI (fun zz MM => BP (a ≤ v ∧ v ≤ b) zz ∧ MM = M)
set_option maxRecDepth 100000 in
set_option maxHeartbeats 4000000 in
theorem c_X11_in {l : Launch} {G : va_G} {ad : Nat → Nat} {CA : Nat → ClassId} {nt : Nat} (v : Int) (a : Int) (b : Int) (hv : in64 v) (ha : in64 a) (hb2 : in64 b) (M : Mem) : Mt l yX11_in cX11_in 6 (some .boolean) 0 0 G ad CA nt LyM [.long (jN v), .long (jN a), .long (jN b)] M (P_X11_in v a b M) := by
  refine Mt.of (by decide) (Nat.le_of_ble_eq_true rfl) (fun p e s m args below meth c hx hb hr hml hts hown hlocks hnm hW ls hl => ?_)
  have hl : lv_has ls 6 [(0, .long (jN v)), (2, .long (jN a)), (4, .long (jN b))] := hl
  obtain ⟨H, hH⟩ : ∃ z, z = s.heap := ⟨_, rfl⟩
  obtain ⟨locs, hlo⟩ : ∃ z : List Loc, z = [] := ⟨_, rfl⟩
  rw [← hH, ← hlo] at hW ⊢
  refine lv_lload_n hx hb dX11_in_0 rfl (lv_at hl 0 rfl) ?_
  refine lv_lload_n hx hb dX11_in_1 rfl (lv_at hl 1 rfl) ?_
  refine rw_lcmp_lt (tgt := 17) hx hb dX11_in_2 dX11_in_3 (by decide) (by omega) (by omega) (fun c_2 => ?_) (fun c_2 => ?_)
  · refine rw_iconst hx hb dX11_in_17 ?_
    refine rw_zret hx hb hr hlocks hW dX11_in_18 (Or.inl rfl) (⟨0, rfl, ?_⟩)
    first | exact ⟨Or.inl ⟨rfl, by omega⟩, rfl⟩ | exact ⟨Or.inr ⟨rfl, by omega⟩, rfl⟩
  · refine lv_lload_n hx hb dX11_in_6 rfl (lv_at hl 0 rfl) ?_
    refine lv_lload hx hb dX11_in_7 (lv_at hl 2 rfl) ?_
    refine rw_lcmp_gt (tgt := 17) hx hb dX11_in_9 dX11_in_10 (by decide) (by omega) (by omega) (fun c_9 => ?_) (fun c_9 => ?_)
    · refine rw_iconst hx hb dX11_in_17 ?_
      refine rw_zret hx hb hr hlocks hW dX11_in_18 (Or.inl rfl) (⟨0, rfl, ?_⟩)
      first | exact ⟨Or.inl ⟨rfl, by omega⟩, rfl⟩ | exact ⟨Or.inr ⟨rfl, by omega⟩, rfl⟩
    · refine rw_iconst hx hb dX11_in_13 ?_
      refine lv_goto (tgt := 18) hx hb dX11_in_14 (by decide) ?_
      refine rw_zret hx hb hr hlocks hW dX11_in_18 (Or.inr rfl) (⟨1, rfl, ?_⟩)
      first | exact ⟨Or.inl ⟨rfl, by omega⟩, rfl⟩ | exact ⟨Or.inr ⟨rfl, by omega⟩, rfl⟩
abbrev P_X11_isCell (i : Int) (M : Mem) : Option Value → Mem → Prop := oI (fun zz MM => BP (0 ≤ i ∧ i < M 0 1) zz ∧ MM = M)
set_option maxRecDepth 100000 in
set_option maxHeartbeats 4000000 in
theorem c_X11_isCell {l : Launch} {G : va_G} {ad : Nat → Nat} {CA : Nat → ClassId} {nt : Nat} (hnt : 6 ≤ nt) (i : Int) (hi9 : in32 i) (M : Mem) (hc : 3 ≤ M 0 1 ∧ M 0 1 ≤ 9) : Mt l yX11_isCell cX11_isCell 2 (some .boolean) 1 25 G ad CA nt LyM [.ref (ad 0), .int (iN i)] M (P_X11_isCell i M) := by
  refine Mt.of (by decide) (Nat.le_of_ble_eq_true rfl) (fun p e s m args below meth c hx hb hr hml hts hown hlocks hnm hW ls hl => ?_)
  have hl : lv_has ls 2 [(0, .ref (ad 0)), (1, .int (iN i))] := hl
  have hnt4 : 4 ≤ nt := by omega
  obtain ⟨H, hH⟩ : ∃ z, z = s.heap := ⟨_, rfl⟩
  obtain ⟨locs, hlo⟩ : ∃ z : List Loc, z = [] := ⟨_, rfl⟩
  rw [← hH, ← hlo] at hW ⊢
  refine lv_iload_n hx hb dX11_isCell_0 rfl (lv_at hl 1 rfl) ?_
  refine rw_i2l hx hb dX11_isCell_1 (by omega) ?_
  refine lv_lconst (v := jN 0) hx hb dX11_isCell_2 rfl ?_
  refine lv_aload_n hx hb dX11_isCell_3 rfl (lv_at hl 0 rfl) ?_
  refine rw_getI hx hb hts hown hW 0 lm_0 1 1 rfl rfl fX11_13 dX11_isCell_4 (v := (M 0 1)) rfl ?_
  refine rw_iconst hx hb dX11_isCell_7 ?_
  refine rw_isub hx hb dX11_isCell_8 ?_
  refine rw_i2l hx hb dX11_isCell_9 (by omega) ?_
  refine rw_callS hx hb hml hts hown hW ⟨Nat.le_refl 0, Nat.le_refl 0⟩ [.long (jN i), .long (jN 0), .long (jN ((M 0 1) - 1))] (c_X11_in (l := l) (G := G) (ad := ad) (CA := CA) (nt := nt) i 0 ((M 0 1) - 1) (by omega) (by omega) (by omega) M) kX11_57 rfl ⟨Nat.le_of_ble_eq_true rfl, Nat.le_of_ble_eq_true rfl⟩ hl.1 rfl (Nat.le_of_ble_eq_true rfl) dX11_isCell_10 (fun v1 M2 H locs hp3 hW => ?_)
  obtain ⟨a4, rfl, hp3, hp3m⟩ := hp3
  rw [hp3m] at hW
  rcases hp3 with ⟨rfl, hp3⟩ | ⟨rfl, hp3⟩
  · refine rw_stk (st' := [.int (iN 1)]) rfl ?_
    refine rw_zret hx hb hr hlocks hW dX11_isCell_13 (Or.inr rfl) (⟨1, rfl, ?_⟩)
    first | exact ⟨Or.inl ⟨rfl, by omega⟩, rfl⟩ | exact ⟨Or.inr ⟨rfl, by omega⟩, rfl⟩
  · refine rw_stk (st' := [.int (iN 0)]) rfl ?_
    refine rw_zret hx hb hr hlocks hW dX11_isCell_13 (Or.inl rfl) (⟨0, rfl, ?_⟩)
    first | exact ⟨Or.inl ⟨rfl, by omega⟩, rfl⟩ | exact ⟨Or.inr ⟨rfl, by omega⟩, rfl⟩
abbrev P_X11_isSide (v : Int) (M : Mem) : Option Value → Mem → Prop := oI (fun zz MM => BP (v = 0 ∨ v = 1) zz ∧ MM = M)
set_option maxRecDepth 100000 in
set_option maxHeartbeats 4000000 in
theorem c_X11_isSide {l : Launch} {G : va_G} {ad : Nat → Nat} {CA : Nat → ClassId} {nt : Nat} (v : Int) (hv : in32 v) (M : Mem) : Mt l yX11_isSide cX11_isSide 1 (some .boolean) 1 25 G ad CA nt LyM [.int (iN v)] M (P_X11_isSide v M) := by
  refine Mt.of (by decide) (Nat.le_of_ble_eq_true rfl) (fun p e s m args below meth c hx hb hr hml hts hown hlocks hnm hW ls hl => ?_)
  have hl : lv_has ls 1 [(0, .int (iN v))] := hl
  obtain ⟨H, hH⟩ : ∃ z, z = s.heap := ⟨_, rfl⟩
  obtain ⟨locs, hlo⟩ : ∃ z : List Loc, z = [] := ⟨_, rfl⟩
  rw [← hH, ← hlo] at hW ⊢
  refine lv_iload_n hx hb dX11_isSide_0 rfl (lv_at hl 0 rfl) ?_
  refine rw_i2l hx hb dX11_isSide_1 (by omega) ?_
  refine lv_lconst (v := jN 0) hx hb dX11_isSide_2 rfl ?_
  refine lv_lconst (v := jN 1) hx hb dX11_isSide_3 rfl ?_
  refine rw_callS hx hb hml hts hown hW ⟨Nat.le_refl 0, Nat.le_refl 0⟩ [.long (jN v), .long (jN 0), .long (jN 1)] (c_X11_in (l := l) (G := G) (ad := ad) (CA := CA) (nt := nt) v 0 1 (by omega) (by omega) (by omega) M) kX11_57 rfl ⟨Nat.le_of_ble_eq_true rfl, Nat.le_of_ble_eq_true rfl⟩ hl.1 rfl (Nat.le_of_ble_eq_true rfl) dX11_isSide_4 (fun v1 M2 H locs hp3 hW => ?_)
  obtain ⟨a4, rfl, hp3, hp3m⟩ := hp3
  rw [hp3m] at hW
  rcases hp3 with ⟨rfl, hp3⟩ | ⟨rfl, hp3⟩
  · refine rw_stk (st' := [.int (iN 1)]) rfl ?_
    refine rw_zret hx hb hr hlocks hW dX11_isSide_7 (Or.inr rfl) (⟨1, rfl, ?_⟩)
    first | exact ⟨Or.inl ⟨rfl, by omega⟩, rfl⟩ | exact ⟨Or.inr ⟨rfl, by omega⟩, rfl⟩
  · refine rw_stk (st' := [.int (iN 0)]) rfl ?_
    refine rw_zret hx hb hr hlocks hW dX11_isSide_7 (Or.inl rfl) (⟨0, rfl, ?_⟩)
    first | exact ⟨Or.inl ⟨rfl, by omega⟩, rfl⟩ | exact ⟨Or.inr ⟨rfl, by omega⟩, rfl⟩
abbrev P_X11_isSpot (i : Int) (M : Mem) : Option Value → Mem → Prop := oI (fun zz MM => BP ((0 ≤ i ∧ i < M 0 1) ∨ i = 20 ∨ i = 21) zz ∧ MM = M)
set_option maxRecDepth 100000 in
set_option maxHeartbeats 4000000 in
theorem c_X11_isSpot {l : Launch} {G : va_G} {ad : Nat → Nat} {CA : Nat → ClassId} {nt : Nat} (hnt : 6 ≤ nt) (i : Int) (hi9 : in32 i) (M : Mem) (hc : 3 ≤ M 0 1 ∧ M 0 1 ≤ 9) : Mt l yX11_isSpot cX11_isSpot 2 (some .boolean) 2 46 G ad CA nt LyM [.ref (ad 0), .int (iN i)] M (P_X11_isSpot i M) := by
  refine Mt.of (by decide) (Nat.le_of_ble_eq_true rfl) (fun p e s m args below meth c hx hb hr hml hts hown hlocks hnm hW ls hl => ?_)
  have hl : lv_has ls 2 [(0, .ref (ad 0)), (1, .int (iN i))] := hl
  have hnt4 : 4 ≤ nt := by omega
  obtain ⟨H, hH⟩ : ∃ z, z = s.heap := ⟨_, rfl⟩
  obtain ⟨locs, hlo⟩ : ∃ z : List Loc, z = [] := ⟨_, rfl⟩
  rw [← hH, ← hlo] at hW ⊢
  refine lv_aload_n hx hb dX11_isSpot_0 rfl (lv_at hl 0 rfl) ?_
  refine lv_iload_n hx hb dX11_isSpot_1 rfl (lv_at hl 1 rfl) ?_
  refine rw_callV hx hb hml hts hown hW ⟨Nat.le_refl 0, Nat.le_refl 0⟩ [.int (iN i)] 0 lm_0 rfl (c_X11_isCell (l := l) (G := G) (ad := ad) (CA := CA) (nt := nt) (by omega) i (by omega) M hc) kX11_142 rfl ⟨Nat.le_of_ble_eq_true rfl, Nat.le_of_ble_eq_true rfl⟩ hl.1 rfl (Nat.le_of_ble_eq_true rfl) dX11_isSpot_2 (fun v1 M2 H locs hp3 hW => ?_)
  obtain ⟨a4, rfl, hp3, hp3m⟩ := hp3
  rw [hp3m] at hW
  rcases hp3 with ⟨rfl, hp3⟩ | ⟨rfl, hp3⟩
  · refine rw_stk (st' := [.int (iN 1)]) rfl ?_
    refine rw_if_ne (tgt := 20) hx hb dX11_isSpot_5 (by decide) (by decide) (fun _ => ?_) (fun c => absurd c (by decide))
    refine rw_iconst hx hb dX11_isSpot_20 ?_
    refine lv_goto (tgt := 25) hx hb dX11_isSpot_21 (by decide) ?_
    refine rw_zret hx hb hr hlocks hW dX11_isSpot_25 (Or.inr rfl) (⟨1, rfl, ?_⟩)
    first | exact ⟨Or.inl ⟨rfl, by omega⟩, rfl⟩ | exact ⟨Or.inr ⟨rfl, by omega⟩, rfl⟩
  · refine rw_stk (st' := [.int (iN 0)]) rfl ?_
    refine rw_if_ne (tgt := 20) hx hb dX11_isSpot_5 (by decide) (by decide) (fun c => absurd c (by decide)) (fun _ => ?_)
    refine lv_iload_n hx hb dX11_isSpot_8 rfl (lv_at hl 1 rfl) ?_
    refine rw_bipush hx hb dX11_isSpot_9 (by decide) ?_
    refine rw_icmp_eq (tgt := 20) hx hb dX11_isSpot_11 (by decide) (by omega) (by decide) (fun c_11 => ?_) (fun c_11 => ?_)
    · refine rw_iconst hx hb dX11_isSpot_20 ?_
      refine lv_goto (tgt := 25) hx hb dX11_isSpot_21 (by decide) ?_
      refine rw_zret hx hb hr hlocks hW dX11_isSpot_25 (Or.inr rfl) (⟨1, rfl, ?_⟩)
      first | exact ⟨Or.inl ⟨rfl, by omega⟩, rfl⟩ | exact ⟨Or.inr ⟨rfl, by omega⟩, rfl⟩
    · refine lv_iload_n hx hb dX11_isSpot_14 rfl (lv_at hl 1 rfl) ?_
      refine rw_bipush hx hb dX11_isSpot_15 (by decide) ?_
      refine rw_icmp_ne (tgt := 24) hx hb dX11_isSpot_17 (by decide) (by omega) (by decide) (fun c_17 => ?_) (fun c_17 => ?_)
      · refine rw_iconst hx hb dX11_isSpot_24 ?_
        refine rw_zret hx hb hr hlocks hW dX11_isSpot_25 (Or.inl rfl) (⟨0, rfl, ?_⟩)
        first | exact ⟨Or.inl ⟨rfl, by omega⟩, rfl⟩ | exact ⟨Or.inr ⟨rfl, by omega⟩, rfl⟩
      · refine rw_iconst hx hb dX11_isSpot_20 ?_
        refine lv_goto (tgt := 25) hx hb dX11_isSpot_21 (by decide) ?_
        refine rw_zret hx hb hr hlocks hW dX11_isSpot_25 (Or.inr rfl) (⟨1, rfl, ?_⟩)
        first | exact ⟨Or.inl ⟨rfl, by omega⟩, rfl⟩ | exact ⟨Or.inr ⟨rfl, by omega⟩, rfl⟩
abbrev P_X11_keg (pz : Int) (M : Mem) : Option Value → Mem → Prop := oI (fun zz MM => zz = pg M pz 27 ∧ MM = M)
set_option maxRecDepth 100000 in
set_option maxHeartbeats 4000000 in
theorem c_X11_keg {l : Launch} {G : va_G} {ad : Nat → Nat} {CA : Nat → ClassId} {nt : Nat} (hnt : 6 ≤ nt) (pz : Int) (hp : 0 ≤ pz ∧ pz ≤ 188) (M : Mem) : Mt l yX11_keg cX11_keg 2 (some .int) 0 0 G ad CA nt LyM [.ref (ad 0), .int (iN pz)] M (P_X11_keg pz M) := by
  refine Mt.of (by decide) (Nat.le_of_ble_eq_true rfl) (fun p e s m args below meth c hx hb hr hml hts hown hlocks hnm hW ls hl => ?_)
  have hl : lv_has ls 2 [(0, .ref (ad 0)), (1, .int (iN pz))] := hl
  have hnt4 : 4 ≤ nt := by omega
  obtain ⟨H, hH⟩ : ∃ z, z = s.heap := ⟨_, rfl⟩
  obtain ⟨locs, hlo⟩ : ∃ z : List Loc, z = [] := ⟨_, rfl⟩
  rw [← hH, ← hlo] at hW ⊢
  refine lv_aload_n hx hb dX11_keg_0 rfl (lv_at hl 0 rfl) ?_
  refine rw_getR hx hb hts hown hW 0 lm_0 0 1 rfl fX11_7 dX11_keg_1 ?_
  refine lv_iload_n hx hb dX11_keg_4 rfl (lv_at hl 1 rfl) ?_
  refine rw_bipush hx hb dX11_keg_5 (by decide) ?_
  refine rw_iadd hx hb dX11_keg_7 ?_
  refine rw_iald hx hb hW hnt4 1 lm_1 (by omega) (by omega) (by decide) dX11_keg_8 (v := (M 1 (pz + 27))) rfl ?_
  refine rw_iconst hx hb dX11_keg_9 ?_
  refine rw_iadd hx hb dX11_keg_10 ?_
  refine rw_iret hx hb hr hlocks hW dX11_keg_11 (⟨(M 1 (pz + 27)) + 2, rfl, ?_⟩)
  exact ⟨rfl, rfl⟩
abbrev P_X11_isOver (pz : Int) (M : Mem) : Option Value → Mem → Prop := oI (fun zz MM => BP (pg M pz 47 ≤ pg M pz 27) zz ∧ MM = M)
set_option maxRecDepth 100000 in
set_option maxHeartbeats 4000000 in
theorem c_X11_isOver {l : Launch} {G : va_G} {ad : Nat → Nat} {CA : Nat → ClassId} {nt : Nat} (hnt : 6 ≤ nt) (pz : Int) (hp : 0 ≤ pz ∧ pz ≤ 188) (M : Mem) (hI : InvF (pg M pz)) : Mt l yX11_isOver cX11_isOver 2 (some .boolean) 1 21 G ad CA nt LyM [.ref (ad 0), .int (iN pz)] M (P_X11_isOver pz M) := by
  refine Mt.of (by decide) (Nat.le_of_ble_eq_true rfl) (fun p e s m args below meth c hx hb hr hml hts hown hlocks hnm hW ls hl => ?_)
  have hl : lv_has ls 2 [(0, .ref (ad 0)), (1, .int (iN pz))] := hl
  have hnt4 : 4 ≤ nt := by omega
  obtain ⟨H, hH⟩ : ∃ z, z = s.heap := ⟨_, rfl⟩
  obtain ⟨locs, hlo⟩ : ∃ z : List Loc, z = [] := ⟨_, rfl⟩
  rw [← hH, ← hlo] at hW ⊢
  have hc := hI.1
  have hk := hI.2.1
  have h47 : pg M pz 47 = M 0 1 := rfl
  have hrr := hI.2.2.1
  have hm := hI.2.2.2.2.1
  have hz0 := InvF.sd _ hI (s := 0) (Or.inl rfl)
  have hz1 := InvF.sd _ hI (s := 1) (Or.inr rfl)
  have hf0 := hz0.1
  have hf1 := hz1.1
  have hq0 := hz0.2.2.2.2.2
  have hq1 := hz1.2.2.2.2.2
  have hg0 := hz0.2.1
  have hg1 := hz1.2.1
  have hg2 := hz0.2.2.1
  have hg3 := hz1.2.2.1
  have hg4 := hz0.2.2.2.1
  have hg5 := hz1.2.2.2.1
  have hg6 := hz0.2.2.2.2.1
  have hg7 := hz1.2.2.2.2.1
  refine lv_aload_n hx hb dX11_isOver_0 rfl (lv_at hl 0 rfl) ?_
  refine lv_iload_n hx hb dX11_isOver_1 rfl (lv_at hl 1 rfl) ?_
  refine rw_callV hx hb hml hts hown hW ⟨Nat.le_refl 0, Nat.le_refl 0⟩ [.int (iN pz)] 0 lm_0 rfl (c_X11_keg (l := l) (G := G) (ad := ad) (CA := CA) (nt := nt) (by omega) pz (by omega) M) kX11_146 rfl ⟨Nat.le_of_ble_eq_true rfl, Nat.le_of_ble_eq_true rfl⟩ hl.1 rfl (Nat.le_of_ble_eq_true rfl) dX11_isOver_2 (fun v1 M2 H locs hp3 hW => ?_)
  obtain ⟨_, rfl, rfl, hp3⟩ := hp3
  rw [hp3] at hW
  refine rw_stk (st' := [.int (iN (pg M pz 27))]) rfl ?_
  refine rw_bipush hx hb dX11_isOver_5 (by decide) ?_
  refine rw_icmp_lt (tgt := 14) hx hb dX11_isOver_7 (by decide) (by omega) (by decide) (fun c_7 => ?_) (fun c_7 => ?_)
  · refine rw_iconst hx hb dX11_isOver_14 ?_
    refine rw_zret hx hb hr hlocks hW dX11_isOver_15 (Or.inl rfl) (⟨0, rfl, ?_⟩)
    first | exact ⟨Or.inl ⟨rfl, by omega⟩, rfl⟩ | exact ⟨Or.inr ⟨rfl, by omega⟩, rfl⟩
  · refine rw_iconst hx hb dX11_isOver_10 ?_
    refine lv_goto (tgt := 15) hx hb dX11_isOver_11 (by decide) ?_
    refine rw_zret hx hb hr hlocks hW dX11_isOver_15 (Or.inr rfl) (⟨1, rfl, ?_⟩)
    first | exact ⟨Or.inl ⟨rfl, by omega⟩, rfl⟩ | exact ⟨Or.inr ⟨rfl, by omega⟩, rfl⟩
abbrev P_X11_ofSide (pz : Int) (sx : Int) (w : Int) (M : Mem) : Option Value → Mem → Prop := oI (fun zz MM => zz = sdF (pg M pz) sx w ∧ MM = M)
set_option maxRecDepth 100000 in
set_option maxHeartbeats 4000000 in
theorem c_X11_ofSide {l : Launch} {G : va_G} {ad : Nat → Nat} {CA : Nat → ClassId} {nt : Nat} (hnt : 6 ≤ nt) (pz : Int) (hp : 0 ≤ pz ∧ pz ≤ 188) (sx : Int) (hs : sx = 0 ∨ sx = 1) (w : Int) (hw : 0 ≤ w ∧ w ≤ 7) (M : Mem) : Mt l yX11_ofSide cX11_ofSide 4 (some .int) 0 0 G ad CA nt LyM [.ref (ad 0), .int (iN pz), .int (iN sx), .int (iN w)] M (P_X11_ofSide pz sx w M) := by
  refine Mt.of (by decide) (Nat.le_of_ble_eq_true rfl) (fun p e s m args below meth c hx hb hr hml hts hown hlocks hnm hW ls hl => ?_)
  have hl : lv_has ls 4 [(0, .ref (ad 0)), (1, .int (iN pz)), (2, .int (iN sx)), (3, .int (iN w))] := hl
  have hnt4 : 4 ≤ nt := by omega
  obtain ⟨H, hH⟩ : ∃ z, z = s.heap := ⟨_, rfl⟩
  obtain ⟨locs, hlo⟩ : ∃ z : List Loc, z = [] := ⟨_, rfl⟩
  rw [← hH, ← hlo] at hW ⊢
  refine lv_aload_n hx hb dX11_ofSide_0 rfl (lv_at hl 0 rfl) ?_
  refine rw_getR hx hb hts hown hW 0 lm_0 0 1 rfl fX11_7 dX11_ofSide_1 ?_
  refine lv_iload_n hx hb dX11_ofSide_4 rfl (lv_at hl 1 rfl) ?_
  refine rw_bipush hx hb dX11_ofSide_5 (by decide) ?_
  refine rw_iadd hx hb dX11_ofSide_7 ?_
  refine rw_bipush hx hb dX11_ofSide_8 (by decide) ?_
  refine lv_iload_n hx hb dX11_ofSide_10 rfl (lv_at hl 2 rfl) ?_
  refine rw_imul hx hb dX11_ofSide_11 ?_
  refine rw_iadd hx hb dX11_ofSide_12 ?_
  refine lv_iload_n hx hb dX11_ofSide_13 rfl (lv_at hl 3 rfl) ?_
  refine rw_iadd hx hb dX11_ofSide_14 ?_
  refine rw_iald hx hb hW hnt4 1 lm_1 (by omega) (by omega) (by decide) dX11_ofSide_15 (v := (M 1 (((pz + 28) + (8 * sx)) + w))) rfl ?_
  refine rw_iret hx hb hr hlocks hW dX11_ofSide_16 (⟨(M 1 (((pz + 28) + (8 * sx)) + w)), rfl, ?_⟩)
  exact ⟨by rw [pg_s _ _ hs (by omega)], rfl⟩
abbrev P_X11_sets (a : Int) (v : Int) (M : Mem) : Option Value → Mem → Prop := oI (fun zz MM => zz = M 1 a ∧ MM = upd2 M 1 a v)
set_option maxRecDepth 100000 in
set_option maxHeartbeats 4000000 in
theorem c_X11_sets {l : Launch} {G : va_G} {ad : Nat → Nat} {CA : Nat → ClassId} {nt : Nat} (hnt : 6 ≤ nt) (a : Int) (ha : 0 ≤ a ∧ a < 235) (v : Int) (M : Mem) : Mt l yX11_sets cX11_sets 4 (some .int) 0 0 G ad CA nt LyM [.ref (ad 0), .int (iN a), .int (iN v)] M (P_X11_sets a v M) := by
  refine Mt.of (by decide) (Nat.le_of_ble_eq_true rfl) (fun p e s m args below meth c hx hb hr hml hts hown hlocks hnm hW ls hl => ?_)
  have hl : lv_has ls 4 [(0, .ref (ad 0)), (1, .int (iN a)), (2, .int (iN v))] := hl
  have hnt4 : 4 ≤ nt := by omega
  obtain ⟨H, hH⟩ : ∃ z, z = s.heap := ⟨_, rfl⟩
  obtain ⟨locs, hlo⟩ : ∃ z : List Loc, z = [] := ⟨_, rfl⟩
  rw [← hH, ← hlo] at hW ⊢
  refine lv_aload_n hx hb dX11_sets_0 rfl (lv_at hl 0 rfl) ?_
  refine rw_getR hx hb hts hown hW 0 lm_0 0 1 rfl fX11_7 dX11_sets_1 ?_
  refine lv_iload_n hx hb dX11_sets_4 rfl (lv_at hl 1 rfl) ?_
  refine rw_iald hx hb hW hnt4 1 lm_1 (by omega) (by omega) (by decide) dX11_sets_5 (v := (M 1 a)) rfl ?_
  refine lv_istore_n (lv' := [(3, .int (iN (M 1 a))), (0, .ref (ad 0)), (1, .int (iN a)), (2, .int (iN v))]) hx hb dX11_sets_6 rfl hl (by decide) rfl (fun ls hl => ?_)
  refine lv_aload_n hx hb dX11_sets_7 rfl (lv_at hl 1 rfl) ?_
  refine rw_getR hx hb hts hown hW 0 lm_0 0 1 rfl fX11_7 dX11_sets_8 ?_
  refine lv_iload_n hx hb dX11_sets_11 rfl (lv_at hl 2 rfl) ?_
  refine lv_iload_n hx hb dX11_sets_12 rfl (lv_at hl 3 rfl) ?_
  refine rw_iast hx hb hW hnt4 1 lm_1 (v := v) (by omega) (by omega) (by decide) dX11_sets_13 (fun H locs hW => ?_)
  obtain ⟨M1, hM1⟩ : ∃ z, z = upd2 M 1 a v := ⟨_, rfl⟩
  rw [← hM1] at hW
  refine lv_iload_n hx hb dX11_sets_14 rfl (lv_at hl 0 rfl) ?_
  refine rw_iret hx hb hr hlocks hW dX11_sets_15 (⟨(M 1 a), rfl, ?_⟩)
  exact ⟨rfl, hM1⟩
abbrev P_X11_resting (sx : Int) (M : Mem) : Option Value → Mem → Prop := oI (fun zz MM => zz = restS (sdF (pg M 0) sx) ∧ MM = M)
set_option maxRecDepth 100000 in
set_option maxHeartbeats 4000000 in
theorem c_X11_resting {l : Launch} {G : va_G} {ad : Nat → Nat} {CA : Nat → ClassId} {nt : Nat} (hnt : 6 ≤ nt) (sx : Int) (hs : sx = 0 ∨ sx = 1) (M : Mem) : Mt l yX11_resting cX11_resting 2 (some .int) 1 23 G ad CA nt LyM [.ref (ad 0), .int (iN sx)] M (P_X11_resting sx M) := by
  refine Mt.of (by decide) (Nat.le_of_ble_eq_true rfl) (fun p e s m args below meth c hx hb hr hml hts hown hlocks hnm hW ls hl => ?_)
  have hl : lv_has ls 2 [(0, .ref (ad 0)), (1, .int (iN sx))] := hl
  have hnt4 : 4 ≤ nt := by omega
  obtain ⟨H, hH⟩ : ∃ z, z = s.heap := ⟨_, rfl⟩
  obtain ⟨locs, hlo⟩ : ∃ z : List Loc, z = [] := ⟨_, rfl⟩
  rw [← hH, ← hlo] at hW ⊢
  refine lv_aload_n hx hb dX11_resting_0 rfl (lv_at hl 0 rfl) ?_
  refine rw_iconst hx hb dX11_resting_1 ?_
  refine lv_iload_n hx hb dX11_resting_2 rfl (lv_at hl 1 rfl) ?_
  refine rw_iconst hx hb dX11_resting_3 ?_
  refine rw_callV hx hb hml hts hown hW ⟨Nat.le_refl 0, Nat.le_refl 0⟩ [.int (iN 0), .int (iN sx), .int (iN 1)] 0 lm_0 rfl (c_X11_ofSide (l := l) (G := G) (ad := ad) (CA := CA) (nt := nt) (by omega) 0 (by omega) sx (by omega) 1 (by omega) M) kX11_156 rfl ⟨Nat.le_of_ble_eq_true rfl, Nat.le_of_ble_eq_true rfl⟩ hl.1 rfl (Nat.le_of_ble_eq_true rfl) dX11_resting_4 (fun v1 M2 H locs hp3 hW => ?_)
  obtain ⟨_, rfl, rfl, hp3⟩ := hp3
  rw [hp3] at hW
  refine rw_stk (st' := [.int (iN (sdF (pg M 0) sx 1))]) rfl ?_
  refine lv_aload_n hx hb dX11_resting_7 rfl (lv_at hl 0 rfl) ?_
  refine rw_iconst hx hb dX11_resting_8 ?_
  refine lv_iload_n hx hb dX11_resting_9 rfl (lv_at hl 1 rfl) ?_
  refine rw_iconst hx hb dX11_resting_10 ?_
  refine rw_callV hx hb hml hts hown hW ⟨Nat.le_refl 0, Nat.le_refl 0⟩ [.int (iN 0), .int (iN sx), .int (iN 2)] 0 lm_0 rfl (c_X11_ofSide (l := l) (G := G) (ad := ad) (CA := CA) (nt := nt) (by omega) 0 (by omega) sx (by omega) 2 (by omega) M) kX11_156 rfl ⟨Nat.le_of_ble_eq_true rfl, Nat.le_of_ble_eq_true rfl⟩ hl.1 rfl (Nat.le_of_ble_eq_true rfl) dX11_resting_11 (fun v4 M5 H locs hp6 hW => ?_)
  obtain ⟨_, rfl, rfl, hp6⟩ := hp6
  rw [hp6] at hW
  refine rw_stk (st' := [.int (iN (sdF (pg M 0) sx 2)), .int (iN (sdF (pg M 0) sx 1))]) rfl ?_
  refine rw_iadd hx hb dX11_resting_14 ?_
  refine lv_aload_n hx hb dX11_resting_15 rfl (lv_at hl 0 rfl) ?_
  refine rw_iconst hx hb dX11_resting_16 ?_
  refine lv_iload_n hx hb dX11_resting_17 rfl (lv_at hl 1 rfl) ?_
  refine rw_iconst hx hb dX11_resting_18 ?_
  refine rw_callV hx hb hml hts hown hW ⟨Nat.le_refl 0, Nat.le_refl 0⟩ [.int (iN 0), .int (iN sx), .int (iN 3)] 0 lm_0 rfl (c_X11_ofSide (l := l) (G := G) (ad := ad) (CA := CA) (nt := nt) (by omega) 0 (by omega) sx (by omega) 3 (by omega) M) kX11_156 rfl ⟨Nat.le_of_ble_eq_true rfl, Nat.le_of_ble_eq_true rfl⟩ hl.1 rfl (Nat.le_of_ble_eq_true rfl) dX11_resting_19 (fun v7 M8 H locs hp9 hW => ?_)
  obtain ⟨_, rfl, rfl, hp9⟩ := hp9
  rw [hp9] at hW
  refine rw_stk (st' := [.int (iN (sdF (pg M 0) sx 3)), .int (iN ((sdF (pg M 0) sx 1) + (sdF (pg M 0) sx 2)))]) rfl ?_
  refine rw_iadd hx hb dX11_resting_22 ?_
  refine lv_aload_n hx hb dX11_resting_23 rfl (lv_at hl 0 rfl) ?_
  refine rw_iconst hx hb dX11_resting_24 ?_
  refine lv_iload_n hx hb dX11_resting_25 rfl (lv_at hl 1 rfl) ?_
  refine rw_iconst hx hb dX11_resting_26 ?_
  refine rw_callV hx hb hml hts hown hW ⟨Nat.le_refl 0, Nat.le_refl 0⟩ [.int (iN 0), .int (iN sx), .int (iN 4)] 0 lm_0 rfl (c_X11_ofSide (l := l) (G := G) (ad := ad) (CA := CA) (nt := nt) (by omega) 0 (by omega) sx (by omega) 4 (by omega) M) kX11_156 rfl ⟨Nat.le_of_ble_eq_true rfl, Nat.le_of_ble_eq_true rfl⟩ hl.1 rfl (Nat.le_of_ble_eq_true rfl) dX11_resting_27 (fun v10 M11 H locs hp12 hW => ?_)
  obtain ⟨_, rfl, rfl, hp12⟩ := hp12
  rw [hp12] at hW
  refine rw_stk (st' := [.int (iN (sdF (pg M 0) sx 4)), .int (iN (((sdF (pg M 0) sx 1) + (sdF (pg M 0) sx 2)) + (sdF (pg M 0) sx 3)))]) rfl ?_
  refine rw_iadd hx hb dX11_resting_30 ?_
  refine rw_iret hx hb hr hlocks hW dX11_resting_31 (⟨(((sdF (pg M 0) sx 1) + (sdF (pg M 0) sx 2)) + (sdF (pg M 0) sx 3)) + (sdF (pg M 0) sx 4), rfl, ?_⟩)
  exact ⟨by simp only [restS], rfl⟩
abbrev P_X11_sentBy (pz : Int) (sx : Int) (M : Mem) : Option Value → Mem → Prop := oI (fun zz MM => zz = sentF (pg M pz) sx ∧ MM = M)
set_option maxRecDepth 100000 in
set_option maxHeartbeats 4000000 in
theorem c_X11_sentBy {l : Launch} {G : va_G} {ad : Nat → Nat} {CA : Nat → ClassId} {nt : Nat} (hnt : 6 ≤ nt) (pz : Int) (hp : 0 ≤ pz ∧ pz ≤ 188) (sx : Int) (hs : sx = 0 ∨ sx = 1) (M : Mem) (hI : InvF (pg M pz)) : Mt l yX11_sentBy cX11_sentBy 7 (some .int) 1 23 G ad CA nt LyM [.ref (ad 0), .int (iN pz), .int (iN sx)] M (P_X11_sentBy pz sx M) := by
  refine Mt.of (by decide) (Nat.le_of_ble_eq_true rfl) (fun p e s m args below meth c hx hb hr hml hts hown hlocks hnm hW ls hl => ?_)
  have hl : lv_has ls 7 [(0, .ref (ad 0)), (1, .int (iN pz)), (2, .int (iN sx))] := hl
  have hnt4 : 4 ≤ nt := by omega
  obtain ⟨H, hH⟩ : ∃ z, z = s.heap := ⟨_, rfl⟩
  obtain ⟨locs, hlo⟩ : ∃ z : List Loc, z = [] := ⟨_, rfl⟩
  rw [← hH, ← hlo] at hW ⊢
  rcases hs with rfl | rfl
  · have hc := hI.1
    have hk := hI.2.1
    have h47 : pg M pz 47 = M 0 1 := rfl
    have hrr := hI.2.2.1
    have hm := hI.2.2.2.2.1
    have hz0 := InvF.sd _ hI (s := 0) (Or.inl rfl)
    have hz1 := InvF.sd _ hI (s := 1) (Or.inr rfl)
    have hf0 := hz0.1
    have hf1 := hz1.1
    have hq0 := hz0.2.2.2.2.2
    have hq1 := hz1.2.2.2.2.2
    have hg0 := hz0.2.1
    have hg1 := hz1.2.1
    have hg2 := hz0.2.2.1
    have hg3 := hz1.2.2.1
    have hg4 := hz0.2.2.2.1
    have hg5 := hz1.2.2.2.1
    have hg6 := hz0.2.2.2.2.1
    have hg7 := hz1.2.2.2.2.1
    refine lv_aload_n hx hb dX11_sentBy_0 rfl (lv_at hl 0 rfl) ?_
    refine lv_iload_n hx hb dX11_sentBy_1 rfl (lv_at hl 1 rfl) ?_
    refine lv_iload_n hx hb dX11_sentBy_2 rfl (lv_at hl 2 rfl) ?_
    refine rw_iconst hx hb dX11_sentBy_3 ?_
    refine rw_callV hx hb hml hts hown hW ⟨Nat.le_refl 0, Nat.le_refl 0⟩ [.int (iN pz), .int (iN 0), .int (iN 0)] 0 lm_0 rfl (c_X11_ofSide (l := l) (G := G) (ad := ad) (CA := CA) (nt := nt) (by omega) pz (by first | omega | decide) 0 (by first | omega | decide) 0 (by first | omega | decide) M) kX11_156 rfl ⟨Nat.le_of_ble_eq_true rfl, Nat.le_of_ble_eq_true rfl⟩ hl.1 rfl (Nat.le_of_ble_eq_true rfl) dX11_sentBy_4 (fun v1 M2 H locs hp3 hW => ?_)
    obtain ⟨_, rfl, rfl, hp3⟩ := hp3
    rw [hp3] at hW
    refine rw_stk (st' := [.int (iN (sdF (pg M pz) 0 0))]) rfl ?_
    refine lv_istore_n (lv' := [(3, .int (iN (sdF (pg M pz) 0 0))), (0, .ref (ad 0)), (1, .int (iN pz)), (2, .int (iN 0))]) hx hb dX11_sentBy_7 rfl hl (by decide) rfl (fun ls hl => ?_)
    refine lv_aload_n hx hb dX11_sentBy_8 rfl (lv_at hl 1 rfl) ?_
    refine lv_iload_n hx hb dX11_sentBy_9 rfl (lv_at hl 2 rfl) ?_
    refine lv_iload_n hx hb dX11_sentBy_10 rfl (lv_at hl 3 rfl) ?_
    refine rw_bipush hx hb dX11_sentBy_11 (by decide) ?_
    refine rw_callV hx hb hml hts hown hW ⟨Nat.le_refl 0, Nat.le_refl 0⟩ [.int (iN pz), .int (iN 0), .int (iN 7)] 0 lm_0 rfl (c_X11_ofSide (l := l) (G := G) (ad := ad) (CA := CA) (nt := nt) (by omega) pz (by first | omega | decide) 0 (by first | omega | decide) 7 (by first | omega | decide) M) kX11_156 rfl ⟨Nat.le_of_ble_eq_true rfl, Nat.le_of_ble_eq_true rfl⟩ hl.1 rfl (Nat.le_of_ble_eq_true rfl) dX11_sentBy_13 (fun v4 M5 H locs hp6 hW => ?_)
    obtain ⟨_, rfl, rfl, hp6⟩ := hp6
    rw [hp6] at hW
    refine rw_stk (st' := [.int (iN (sdF (pg M pz) 0 7))]) rfl ?_
    refine lv_istore (lv' := [(4, .int (iN (sdF (pg M pz) 0 7))), (3, .int (iN (sdF (pg M pz) 0 0))), (0, .ref (ad 0)), (1, .int (iN pz)), (2, .int (iN 0))]) hx hb dX11_sentBy_16 hl (by decide) rfl (fun ls hl => ?_)
    refine lv_aload_n hx hb dX11_sentBy_18 rfl (lv_at hl 2 rfl) ?_
    refine lv_iload_n hx hb dX11_sentBy_19 rfl (lv_at hl 3 rfl) ?_
    refine lv_iload_n hx hb dX11_sentBy_20 rfl (lv_at hl 4 rfl) ?_
    refine rw_bipush hx hb dX11_sentBy_21 (by decide) ?_
    refine rw_callV hx hb hml hts hown hW ⟨Nat.le_refl 0, Nat.le_refl 0⟩ [.int (iN pz), .int (iN 0), .int (iN 6)] 0 lm_0 rfl (c_X11_ofSide (l := l) (G := G) (ad := ad) (CA := CA) (nt := nt) (by omega) pz (by first | omega | decide) 0 (by first | omega | decide) 6 (by first | omega | decide) M) kX11_156 rfl ⟨Nat.le_of_ble_eq_true rfl, Nat.le_of_ble_eq_true rfl⟩ hl.1 rfl (Nat.le_of_ble_eq_true rfl) dX11_sentBy_23 (fun v7 M8 H locs hp9 hW => ?_)
    obtain ⟨_, rfl, rfl, hp9⟩ := hp9
    rw [hp9] at hW
    refine rw_stk (st' := [.int (iN (sdF (pg M pz) 0 6))]) rfl ?_
    refine lv_istore (lv' := [(5, .int (iN (sdF (pg M pz) 0 6))), (4, .int (iN (sdF (pg M pz) 0 7))), (3, .int (iN (sdF (pg M pz) 0 0))), (0, .ref (ad 0)), (1, .int (iN pz)), (2, .int (iN 0))]) hx hb dX11_sentBy_26 hl (by decide) rfl (fun ls hl => ?_)
    refine lv_iload hx hb dX11_sentBy_28 (lv_at hl 0 rfl) ?_
    refine rw_iconst hx hb dX11_sentBy_30 ?_
    refine rw_icmp_ne (tgt := 38) hx hb dX11_sentBy_31 (by decide) (by omega) (by decide) (fun c_31 => ?_) (fun c_31 => ?_)
    · refine lv_iload hx hb dX11_sentBy_38 (lv_at hl 0 rfl) ?_
      refine rw_iconst hx hb dX11_sentBy_40 ?_
      refine rw_icmp_ne (tgt := 57) hx hb dX11_sentBy_41 (by decide) (by omega) (by decide) (fun c_41 => ?_) (fun c_41 => ?_)
      · refine lv_iload hx hb dX11_sentBy_57 (lv_at hl 0 rfl) ?_
        refine rw_iconst hx hb dX11_sentBy_59 ?_
        refine rw_icmp_ne (tgt := 101) hx hb dX11_sentBy_60 (by decide) (by omega) (by decide) (fun c_60 => ?_) (fun c_60 => ?_)
        · refine lv_aload_n hx hb dX11_sentBy_101 rfl (lv_at hl 3 rfl) ?_
          refine lv_iload_n hx hb dX11_sentBy_102 rfl (lv_at hl 4 rfl) ?_
          refine rw_iconst hx hb dX11_sentBy_103 ?_
          refine lv_iload_n hx hb dX11_sentBy_104 rfl (lv_at hl 5 rfl) ?_
          refine rw_isub hx hb dX11_sentBy_105 ?_
          refine rw_stk (st' := [.int (iN 1), .int (iN pz), .ref (ad 0)]) rfl ?_
          refine rw_iconst hx hb dX11_sentBy_106 ?_
          refine rw_callV hx hb hml hts hown hW ⟨Nat.le_refl 0, Nat.le_refl 0⟩ [.int (iN pz), .int (iN 1), .int (iN 0)] 0 lm_0 rfl (c_X11_ofSide (l := l) (G := G) (ad := ad) (CA := CA) (nt := nt) (by omega) pz (by first | omega | decide) 1 (by first | omega | decide) 0 (by first | omega | decide) M) kX11_156 rfl ⟨Nat.le_of_ble_eq_true rfl, Nat.le_of_ble_eq_true rfl⟩ hl.1 rfl (Nat.le_of_ble_eq_true rfl) dX11_sentBy_107 (fun v10 M11 H locs hp12 hW => ?_)
          obtain ⟨_, rfl, rfl, hp12⟩ := hp12
          rw [hp12] at hW
          refine rw_stk (st' := [.int (iN (sdF (pg M pz) 1 0))]) rfl ?_
          refine lv_istore (lv' := [(6, .int (iN (sdF (pg M pz) 1 0))), (5, .int (iN (sdF (pg M pz) 0 6))), (4, .int (iN (sdF (pg M pz) 0 7))), (3, .int (iN (sdF (pg M pz) 0 0))), (0, .ref (ad 0)), (1, .int (iN pz)), (2, .int (iN 0))]) hx hb dX11_sentBy_110 hl (by decide) rfl (fun ls hl => ?_)
          refine lv_iload hx hb dX11_sentBy_112 (lv_at hl 1 rfl) ?_
          refine rw_iconst hx hb dX11_sentBy_114 ?_
          refine rw_icmp_ne (tgt := 129) hx hb dX11_sentBy_115 (by decide) (by omega) (by decide) (fun c_115 => ?_) (fun c_115 => ?_)
          · refine lv_iload_n hx hb dX11_sentBy_129 rfl (lv_at hl 3 rfl) ?_
            refine rw_iret hx hb hr hlocks hW dX11_sentBy_130 (⟨sdF (pg M pz) 0 0, rfl, ?_⟩)
            refine ⟨?_, rfl⟩
            rw [sentF_0]
            repeat' split
            all_goals omega
          · refine lv_iload hx hb dX11_sentBy_118 (lv_at hl 0 rfl) ?_
            refine lv_iload_n hx hb dX11_sentBy_120 rfl (lv_at hl 3 rfl) ?_
            refine rw_icmp_ge (tgt := 129) hx hb dX11_sentBy_121 (by decide) (by omega) (by omega) (fun c_121 => ?_) (fun c_121 => ?_)
            · refine lv_iload_n hx hb dX11_sentBy_129 rfl (lv_at hl 3 rfl) ?_
              refine rw_iret hx hb hr hlocks hW dX11_sentBy_130 (⟨sdF (pg M pz) 0 0, rfl, ?_⟩)
              refine ⟨?_, rfl⟩
              rw [sentF_0]
              repeat' split
              all_goals omega
            · refine lv_iload hx hb dX11_sentBy_124 (lv_at hl 0 rfl) ?_
              refine lv_goto (tgt := 130) hx hb dX11_sentBy_126 (by decide) ?_
              refine rw_iret hx hb hr hlocks hW dX11_sentBy_130 (⟨sdF (pg M pz) 1 0, rfl, ?_⟩)
              refine ⟨?_, rfl⟩
              rw [sentF_0]
              repeat' split
              all_goals omega
        · refine lv_iload_n hx hb dX11_sentBy_63 rfl (lv_at hl 5 rfl) ?_
          refine rw_if_ne (tgt := 85) hx hb dX11_sentBy_64 (by decide) (by decide) (fun c => absurd c (by decide)) (fun _ => ?_)
          refine lv_aload_n hx hb dX11_sentBy_67 rfl (lv_at hl 3 rfl) ?_
          refine lv_iload_n hx hb dX11_sentBy_68 rfl (lv_at hl 4 rfl) ?_
          refine rw_callV hx hb hml hts hown hW ⟨Nat.le_refl 0, Nat.le_refl 0⟩ [.int (iN pz)] 0 lm_0 rfl (c_X11_keg (l := l) (G := G) (ad := ad) (CA := CA) (nt := nt) (by omega) pz (by first | omega | decide) M) kX11_146 rfl ⟨Nat.le_of_ble_eq_true rfl, Nat.le_of_ble_eq_true rfl⟩ hl.1 rfl (Nat.le_of_ble_eq_true rfl) dX11_sentBy_69 (fun v13 M14 H locs hp15 hW => ?_)
          obtain ⟨_, rfl, rfl, hp15⟩ := hp15
          rw [hp15] at hW
          refine rw_stk (st' := [.int (iN (pg M pz 27))]) rfl ?_
          refine lv_aload_n hx hb dX11_sentBy_72 rfl (lv_at hl 3 rfl) ?_
          refine rw_getI hx hb hts hown hW 0 lm_0 1 1 rfl rfl fX11_13 dX11_sentBy_73 (v := (M 0 1)) rfl ?_
          refine lv_iload hx hb dX11_sentBy_76 (lv_at hl 1 rfl) ?_
          refine rw_isub hx hb dX11_sentBy_78 ?_
          refine rw_icmp_lt (tgt := 99) hx hb dX11_sentBy_79 (by decide) (by omega) (by omega) (fun c_79 => ?_) (fun c_79 => ?_)
          · refine rw_iconst hx hb dX11_sentBy_99 ?_
            refine rw_iret hx hb hr hlocks hW dX11_sentBy_100 (⟨0, rfl, ?_⟩)
            refine ⟨?_, rfl⟩
            rw [sentF_0]
            repeat' split
            all_goals omega
          · refine lv_goto (tgt := 95) hx hb dX11_sentBy_82 (by decide) ?_
            refine lv_iload_n hx hb dX11_sentBy_95 rfl (lv_at hl 2 rfl) ?_
            refine lv_goto (tgt := 100) hx hb dX11_sentBy_96 (by decide) ?_
            refine rw_iret hx hb hr hlocks hW dX11_sentBy_100 (⟨sdF (pg M pz) 0 0, rfl, ?_⟩)
            refine ⟨?_, rfl⟩
            rw [sentF_0]
            repeat' split
            all_goals omega
      · refine lv_iload hx hb dX11_sentBy_44 (lv_at hl 1 rfl) ?_
        refine lv_iload_n hx hb dX11_sentBy_46 rfl (lv_at hl 2 rfl) ?_
        refine rw_icmp_ge (tgt := 55) hx hb dX11_sentBy_47 (by decide) (by omega) (by omega) (fun c_47 => ?_) (fun c_47 => ?_)
        · refine lv_iload_n hx hb dX11_sentBy_55 rfl (lv_at hl 2 rfl) ?_
          refine rw_iret hx hb hr hlocks hW dX11_sentBy_56 (⟨sdF (pg M pz) 0 0, rfl, ?_⟩)
          refine ⟨?_, rfl⟩
          rw [sentF_0]
          repeat' split
          all_goals omega
        · refine lv_iload hx hb dX11_sentBy_50 (lv_at hl 1 rfl) ?_
          refine lv_goto (tgt := 56) hx hb dX11_sentBy_52 (by decide) ?_
          refine rw_iret hx hb hr hlocks hW dX11_sentBy_56 (⟨sdF (pg M pz) 0 7, rfl, ?_⟩)
          refine ⟨?_, rfl⟩
          rw [sentF_0]
          repeat' split
          all_goals omega
    · refine lv_iload_n hx hb dX11_sentBy_34 rfl (lv_at hl 2 rfl) ?_
      refine rw_iconst hx hb dX11_sentBy_35 ?_
      refine rw_idiv hx hb dX11_sentBy_36 (by omega) (by decide) (by decide) rfl ?_
      refine rw_iret hx hb hr hlocks hW dX11_sentBy_37 (⟨Int.tdiv (sdF (pg M pz) 0 0) 2, rfl, ?_⟩)
      refine ⟨?_, rfl⟩
      rw [sentF_0]
      rw [Int.tdiv_eq_ediv_of_nonneg (by omega)]
      repeat' split
      all_goals omega
  · have hc := hI.1
    have hk := hI.2.1
    have h47 : pg M pz 47 = M 0 1 := rfl
    have hrr := hI.2.2.1
    have hm := hI.2.2.2.2.1
    have hz0 := InvF.sd _ hI (s := 0) (Or.inl rfl)
    have hz1 := InvF.sd _ hI (s := 1) (Or.inr rfl)
    have hf0 := hz0.1
    have hf1 := hz1.1
    have hq0 := hz0.2.2.2.2.2
    have hq1 := hz1.2.2.2.2.2
    have hg0 := hz0.2.1
    have hg1 := hz1.2.1
    have hg2 := hz0.2.2.1
    have hg3 := hz1.2.2.1
    have hg4 := hz0.2.2.2.1
    have hg5 := hz1.2.2.2.1
    have hg6 := hz0.2.2.2.2.1
    have hg7 := hz1.2.2.2.2.1
    refine lv_aload_n hx hb dX11_sentBy_0 rfl (lv_at hl 0 rfl) ?_
    refine lv_iload_n hx hb dX11_sentBy_1 rfl (lv_at hl 1 rfl) ?_
    refine lv_iload_n hx hb dX11_sentBy_2 rfl (lv_at hl 2 rfl) ?_
    refine rw_iconst hx hb dX11_sentBy_3 ?_
    refine rw_callV hx hb hml hts hown hW ⟨Nat.le_refl 0, Nat.le_refl 0⟩ [.int (iN pz), .int (iN 1), .int (iN 0)] 0 lm_0 rfl (c_X11_ofSide (l := l) (G := G) (ad := ad) (CA := CA) (nt := nt) (by omega) pz (by first | omega | decide) 1 (by first | omega | decide) 0 (by first | omega | decide) M) kX11_156 rfl ⟨Nat.le_of_ble_eq_true rfl, Nat.le_of_ble_eq_true rfl⟩ hl.1 rfl (Nat.le_of_ble_eq_true rfl) dX11_sentBy_4 (fun v16 M17 H locs hp18 hW => ?_)
    obtain ⟨_, rfl, rfl, hp18⟩ := hp18
    rw [hp18] at hW
    refine rw_stk (st' := [.int (iN (sdF (pg M pz) 1 0))]) rfl ?_
    refine lv_istore_n (lv' := [(3, .int (iN (sdF (pg M pz) 1 0))), (0, .ref (ad 0)), (1, .int (iN pz)), (2, .int (iN 1))]) hx hb dX11_sentBy_7 rfl hl (by decide) rfl (fun ls hl => ?_)
    refine lv_aload_n hx hb dX11_sentBy_8 rfl (lv_at hl 1 rfl) ?_
    refine lv_iload_n hx hb dX11_sentBy_9 rfl (lv_at hl 2 rfl) ?_
    refine lv_iload_n hx hb dX11_sentBy_10 rfl (lv_at hl 3 rfl) ?_
    refine rw_bipush hx hb dX11_sentBy_11 (by decide) ?_
    refine rw_callV hx hb hml hts hown hW ⟨Nat.le_refl 0, Nat.le_refl 0⟩ [.int (iN pz), .int (iN 1), .int (iN 7)] 0 lm_0 rfl (c_X11_ofSide (l := l) (G := G) (ad := ad) (CA := CA) (nt := nt) (by omega) pz (by first | omega | decide) 1 (by first | omega | decide) 7 (by first | omega | decide) M) kX11_156 rfl ⟨Nat.le_of_ble_eq_true rfl, Nat.le_of_ble_eq_true rfl⟩ hl.1 rfl (Nat.le_of_ble_eq_true rfl) dX11_sentBy_13 (fun v19 M20 H locs hp21 hW => ?_)
    obtain ⟨_, rfl, rfl, hp21⟩ := hp21
    rw [hp21] at hW
    refine rw_stk (st' := [.int (iN (sdF (pg M pz) 1 7))]) rfl ?_
    refine lv_istore (lv' := [(4, .int (iN (sdF (pg M pz) 1 7))), (3, .int (iN (sdF (pg M pz) 1 0))), (0, .ref (ad 0)), (1, .int (iN pz)), (2, .int (iN 1))]) hx hb dX11_sentBy_16 hl (by decide) rfl (fun ls hl => ?_)
    refine lv_aload_n hx hb dX11_sentBy_18 rfl (lv_at hl 2 rfl) ?_
    refine lv_iload_n hx hb dX11_sentBy_19 rfl (lv_at hl 3 rfl) ?_
    refine lv_iload_n hx hb dX11_sentBy_20 rfl (lv_at hl 4 rfl) ?_
    refine rw_bipush hx hb dX11_sentBy_21 (by decide) ?_
    refine rw_callV hx hb hml hts hown hW ⟨Nat.le_refl 0, Nat.le_refl 0⟩ [.int (iN pz), .int (iN 1), .int (iN 6)] 0 lm_0 rfl (c_X11_ofSide (l := l) (G := G) (ad := ad) (CA := CA) (nt := nt) (by omega) pz (by first | omega | decide) 1 (by first | omega | decide) 6 (by first | omega | decide) M) kX11_156 rfl ⟨Nat.le_of_ble_eq_true rfl, Nat.le_of_ble_eq_true rfl⟩ hl.1 rfl (Nat.le_of_ble_eq_true rfl) dX11_sentBy_23 (fun v22 M23 H locs hp24 hW => ?_)
    obtain ⟨_, rfl, rfl, hp24⟩ := hp24
    rw [hp24] at hW
    refine rw_stk (st' := [.int (iN (sdF (pg M pz) 1 6))]) rfl ?_
    refine lv_istore (lv' := [(5, .int (iN (sdF (pg M pz) 1 6))), (4, .int (iN (sdF (pg M pz) 1 7))), (3, .int (iN (sdF (pg M pz) 1 0))), (0, .ref (ad 0)), (1, .int (iN pz)), (2, .int (iN 1))]) hx hb dX11_sentBy_26 hl (by decide) rfl (fun ls hl => ?_)
    refine lv_iload hx hb dX11_sentBy_28 (lv_at hl 0 rfl) ?_
    refine rw_iconst hx hb dX11_sentBy_30 ?_
    refine rw_icmp_ne (tgt := 38) hx hb dX11_sentBy_31 (by decide) (by omega) (by decide) (fun c_31 => ?_) (fun c_31 => ?_)
    · refine lv_iload hx hb dX11_sentBy_38 (lv_at hl 0 rfl) ?_
      refine rw_iconst hx hb dX11_sentBy_40 ?_
      refine rw_icmp_ne (tgt := 57) hx hb dX11_sentBy_41 (by decide) (by omega) (by decide) (fun c_41 => ?_) (fun c_41 => ?_)
      · refine lv_iload hx hb dX11_sentBy_57 (lv_at hl 0 rfl) ?_
        refine rw_iconst hx hb dX11_sentBy_59 ?_
        refine rw_icmp_ne (tgt := 101) hx hb dX11_sentBy_60 (by decide) (by omega) (by decide) (fun c_60 => ?_) (fun c_60 => ?_)
        · refine lv_aload_n hx hb dX11_sentBy_101 rfl (lv_at hl 3 rfl) ?_
          refine lv_iload_n hx hb dX11_sentBy_102 rfl (lv_at hl 4 rfl) ?_
          refine rw_iconst hx hb dX11_sentBy_103 ?_
          refine lv_iload_n hx hb dX11_sentBy_104 rfl (lv_at hl 5 rfl) ?_
          refine rw_isub hx hb dX11_sentBy_105 ?_
          refine rw_stk (st' := [.int (iN 0), .int (iN pz), .ref (ad 0)]) rfl ?_
          refine rw_iconst hx hb dX11_sentBy_106 ?_
          refine rw_callV hx hb hml hts hown hW ⟨Nat.le_refl 0, Nat.le_refl 0⟩ [.int (iN pz), .int (iN 0), .int (iN 0)] 0 lm_0 rfl (c_X11_ofSide (l := l) (G := G) (ad := ad) (CA := CA) (nt := nt) (by omega) pz (by first | omega | decide) 0 (by first | omega | decide) 0 (by first | omega | decide) M) kX11_156 rfl ⟨Nat.le_of_ble_eq_true rfl, Nat.le_of_ble_eq_true rfl⟩ hl.1 rfl (Nat.le_of_ble_eq_true rfl) dX11_sentBy_107 (fun v25 M26 H locs hp27 hW => ?_)
          obtain ⟨_, rfl, rfl, hp27⟩ := hp27
          rw [hp27] at hW
          refine rw_stk (st' := [.int (iN (sdF (pg M pz) 0 0))]) rfl ?_
          refine lv_istore (lv' := [(6, .int (iN (sdF (pg M pz) 0 0))), (5, .int (iN (sdF (pg M pz) 1 6))), (4, .int (iN (sdF (pg M pz) 1 7))), (3, .int (iN (sdF (pg M pz) 1 0))), (0, .ref (ad 0)), (1, .int (iN pz)), (2, .int (iN 1))]) hx hb dX11_sentBy_110 hl (by decide) rfl (fun ls hl => ?_)
          refine lv_iload hx hb dX11_sentBy_112 (lv_at hl 1 rfl) ?_
          refine rw_iconst hx hb dX11_sentBy_114 ?_
          refine rw_icmp_ne (tgt := 129) hx hb dX11_sentBy_115 (by decide) (by omega) (by decide) (fun c_115 => ?_) (fun c_115 => ?_)
          · refine lv_iload_n hx hb dX11_sentBy_129 rfl (lv_at hl 3 rfl) ?_
            refine rw_iret hx hb hr hlocks hW dX11_sentBy_130 (⟨sdF (pg M pz) 1 0, rfl, ?_⟩)
            refine ⟨?_, rfl⟩
            rw [sentF_1]
            repeat' split
            all_goals omega
          · refine lv_iload hx hb dX11_sentBy_118 (lv_at hl 0 rfl) ?_
            refine lv_iload_n hx hb dX11_sentBy_120 rfl (lv_at hl 3 rfl) ?_
            refine rw_icmp_ge (tgt := 129) hx hb dX11_sentBy_121 (by decide) (by omega) (by omega) (fun c_121 => ?_) (fun c_121 => ?_)
            · refine lv_iload_n hx hb dX11_sentBy_129 rfl (lv_at hl 3 rfl) ?_
              refine rw_iret hx hb hr hlocks hW dX11_sentBy_130 (⟨sdF (pg M pz) 1 0, rfl, ?_⟩)
              refine ⟨?_, rfl⟩
              rw [sentF_1]
              repeat' split
              all_goals omega
            · refine lv_iload hx hb dX11_sentBy_124 (lv_at hl 0 rfl) ?_
              refine lv_goto (tgt := 130) hx hb dX11_sentBy_126 (by decide) ?_
              refine rw_iret hx hb hr hlocks hW dX11_sentBy_130 (⟨sdF (pg M pz) 0 0, rfl, ?_⟩)
              refine ⟨?_, rfl⟩
              rw [sentF_1]
              repeat' split
              all_goals omega
        · refine lv_iload_n hx hb dX11_sentBy_63 rfl (lv_at hl 5 rfl) ?_
          refine rw_if_ne (tgt := 85) hx hb dX11_sentBy_64 (by decide) (by decide) (fun _ => ?_) (fun c => absurd c (by decide))
          refine lv_aload_n hx hb dX11_sentBy_85 rfl (lv_at hl 3 rfl) ?_
          refine lv_iload_n hx hb dX11_sentBy_86 rfl (lv_at hl 4 rfl) ?_
          refine rw_callV hx hb hml hts hown hW ⟨Nat.le_refl 0, Nat.le_refl 0⟩ [.int (iN pz)] 0 lm_0 rfl (c_X11_keg (l := l) (G := G) (ad := ad) (CA := CA) (nt := nt) (by omega) pz (by first | omega | decide) M) kX11_146 rfl ⟨Nat.le_of_ble_eq_true rfl, Nat.le_of_ble_eq_true rfl⟩ hl.1 rfl (Nat.le_of_ble_eq_true rfl) dX11_sentBy_87 (fun v28 M29 H locs hp30 hW => ?_)
          obtain ⟨_, rfl, rfl, hp30⟩ := hp30
          rw [hp30] at hW
          refine rw_stk (st' := [.int (iN (pg M pz 27))]) rfl ?_
          refine lv_iload hx hb dX11_sentBy_90 (lv_at hl 1 rfl) ?_
          refine rw_icmp_ge (tgt := 99) hx hb dX11_sentBy_92 (by decide) (by omega) (by omega) (fun c_92 => ?_) (fun c_92 => ?_)
          · refine rw_iconst hx hb dX11_sentBy_99 ?_
            refine rw_iret hx hb hr hlocks hW dX11_sentBy_100 (⟨0, rfl, ?_⟩)
            refine ⟨?_, rfl⟩
            rw [sentF_1]
            repeat' split
            all_goals omega
          · refine lv_iload_n hx hb dX11_sentBy_95 rfl (lv_at hl 2 rfl) ?_
            refine lv_goto (tgt := 100) hx hb dX11_sentBy_96 (by decide) ?_
            refine rw_iret hx hb hr hlocks hW dX11_sentBy_100 (⟨sdF (pg M pz) 1 0, rfl, ?_⟩)
            refine ⟨?_, rfl⟩
            rw [sentF_1]
            repeat' split
            all_goals omega
      · refine lv_iload hx hb dX11_sentBy_44 (lv_at hl 1 rfl) ?_
        refine lv_iload_n hx hb dX11_sentBy_46 rfl (lv_at hl 2 rfl) ?_
        refine rw_icmp_ge (tgt := 55) hx hb dX11_sentBy_47 (by decide) (by omega) (by omega) (fun c_47 => ?_) (fun c_47 => ?_)
        · refine lv_iload_n hx hb dX11_sentBy_55 rfl (lv_at hl 2 rfl) ?_
          refine rw_iret hx hb hr hlocks hW dX11_sentBy_56 (⟨sdF (pg M pz) 1 0, rfl, ?_⟩)
          refine ⟨?_, rfl⟩
          rw [sentF_1]
          repeat' split
          all_goals omega
        · refine lv_iload hx hb dX11_sentBy_50 (lv_at hl 1 rfl) ?_
          refine lv_goto (tgt := 56) hx hb dX11_sentBy_52 (by decide) ?_
          refine rw_iret hx hb hr hlocks hW dX11_sentBy_56 (⟨sdF (pg M pz) 1 7, rfl, ?_⟩)
          refine ⟨?_, rfl⟩
          rw [sentF_1]
          repeat' split
          all_goals omega
    · refine lv_iload_n hx hb dX11_sentBy_34 rfl (lv_at hl 2 rfl) ?_
      refine rw_iconst hx hb dX11_sentBy_35 ?_
      refine rw_idiv hx hb dX11_sentBy_36 (by omega) (by decide) (by decide) rfl ?_
      refine rw_iret hx hb hr hlocks hW dX11_sentBy_37 (⟨Int.tdiv (sdF (pg M pz) 1 0) 2, rfl, ?_⟩)
      refine ⟨?_, rfl⟩
      rw [sentF_1]
      rw [Int.tdiv_eq_ediv_of_nonneg (by omega)]
      repeat' split
      all_goals omega
abbrev P_X11_push (pz : Int) (sx : Int) (x : Int) (M : Mem) : Option Value → Mem → Prop := oI (fun zz MM => zz = pushS (sdF (pg M pz) sx) x (pg M pz (3 * pg M pz 27)) ∧ MM = M)
set_option maxRecDepth 100000 in
set_option maxHeartbeats 4000000 in
theorem c_X11_push {l : Launch} {G : va_G} {ad : Nat → Nat} {CA : Nat → ClassId} {nt : Nat} (hnt : 6 ≤ nt) (pz : Int) (hp : 0 ≤ pz ∧ pz ≤ 188) (sx : Int) (hs : sx = 0 ∨ sx = 1) (x : Int) (hx1 : 0 ≤ x ∧ x ≤ 12) (M : Mem) (hI : InvF (pg M pz)) (hov : pg M pz 27 < pg M pz 47) : Mt l yX11_push cX11_push 6 (some .int) 1 23 G ad CA nt LyM [.ref (ad 0), .int (iN pz), .int (iN sx), .int (iN x)] M (P_X11_push pz sx x M) := by
  refine Mt.of (by decide) (Nat.le_of_ble_eq_true rfl) (fun p e s m args below meth c hx hb hr hml hts hown hlocks hnm hW ls hl => ?_)
  have hl : lv_has ls 6 [(0, .ref (ad 0)), (1, .int (iN pz)), (2, .int (iN sx)), (3, .int (iN x))] := hl
  have hnt4 : 4 ≤ nt := by omega
  obtain ⟨H, hH⟩ : ∃ z, z = s.heap := ⟨_, rfl⟩
  obtain ⟨locs, hlo⟩ : ∃ z : List Loc, z = [] := ⟨_, rfl⟩
  rw [← hH, ← hlo] at hW ⊢
  rcases hs with rfl | rfl
  · have hc := hI.1
    have hk := hI.2.1
    have h47 : pg M pz 47 = M 0 1 := rfl
    have hrr := hI.2.2.1
    have hm := hI.2.2.2.2.1
    have hz0 := InvF.sd _ hI (s := 0) (Or.inl rfl)
    have hz1 := InvF.sd _ hI (s := 1) (Or.inr rfl)
    have hf0 := hz0.1
    have hf1 := hz1.1
    have hq0 := hz0.2.2.2.2.2
    have hq1 := hz1.2.2.2.2.2
    have hg0 := hz0.2.1
    have hg1 := hz1.2.1
    have hg2 := hz0.2.2.1
    have hg3 := hz1.2.2.1
    have hg4 := hz0.2.2.2.1
    have hg5 := hz1.2.2.2.1
    have hg6 := hz0.2.2.2.2.1
    have hg7 := hz1.2.2.2.2.1
    have hrm := hI.2.2.2.2.2.1 (pg M pz 27) (by omega) (by omega)
    rw [pg_r M pz (by omega)] at hrm
    refine rw_bipush hx hb dX11_push_0 (by decide) ?_
    refine lv_aload_n hx hb dX11_push_2 rfl (lv_at hl 0 rfl) ?_
    refine rw_getR hx hb hts hown hW 0 lm_0 0 1 rfl fX11_7 dX11_push_3 ?_
    refine lv_iload_n hx hb dX11_push_6 rfl (lv_at hl 1 rfl) ?_
    refine rw_iconst hx hb dX11_push_7 ?_
    refine lv_aload_n hx hb dX11_push_8 rfl (lv_at hl 0 rfl) ?_
    refine lv_iload_n hx hb dX11_push_9 rfl (lv_at hl 1 rfl) ?_
    refine rw_callV hx hb hml hts hown hW ⟨Nat.le_refl 0, Nat.le_refl 0⟩ [.int (iN pz)] 0 lm_0 rfl (c_X11_keg (l := l) (G := G) (ad := ad) (CA := CA) (nt := nt) (by omega) pz (by first | omega | decide) M) kX11_146 rfl ⟨Nat.le_of_ble_eq_true rfl, Nat.le_of_ble_eq_true rfl⟩ hl.1 rfl (Nat.le_of_ble_eq_true rfl) dX11_push_10 (fun v1 M2 H locs hp3 hW => ?_)
    obtain ⟨_, rfl, rfl, hp3⟩ := hp3
    rw [hp3] at hW
    refine rw_stk (st' := [.int (iN (pg M pz 27)), .int (iN 3), .int (iN pz), .ref (ad 1), .int (iN 12)]) rfl ?_
    refine rw_imul hx hb dX11_push_13 ?_
    refine rw_iadd hx hb dX11_push_14 ?_
    refine rw_iald hx hb hW hnt4 1 lm_1 (by omega) (by omega) (by decide) dX11_push_15 (v := (M 1 (pz + (3 * (pg M pz 27))))) rfl ?_
    refine rw_isub hx hb dX11_push_16 ?_
    refine lv_istore (lv' := [(4, .int (iN (12 - (M 1 (pz + (3 * (pg M pz 27))))))), (0, .ref (ad 0)), (1, .int (iN pz)), (2, .int (iN 0)), (3, .int (iN x))]) hx hb dX11_push_17 hl (by decide) rfl (fun ls hl => ?_)
    refine lv_iload_n hx hb dX11_push_19 rfl (lv_at hl 4 rfl) ?_
    refine lv_iload hx hb dX11_push_20 (lv_at hl 0 rfl) ?_
    refine rw_icmp_ge (tgt := 29) hx hb dX11_push_22 (by decide) (by omega) (by omega) (fun c_22 => ?_) (fun c_22 => ?_)
    · refine lv_iload hx hb dX11_push_29 (lv_at hl 0 rfl) ?_
      refine lv_aload_n hx hb dX11_push_31 rfl (lv_at hl 1 rfl) ?_
      refine lv_iload_n hx hb dX11_push_32 rfl (lv_at hl 2 rfl) ?_
      refine lv_iload_n hx hb dX11_push_33 rfl (lv_at hl 3 rfl) ?_
      refine rw_iconst hx hb dX11_push_34 ?_
      refine rw_callV hx hb hml hts hown hW ⟨Nat.le_refl 0, Nat.le_refl 0⟩ [.int (iN pz), .int (iN 0), .int (iN 5)] 0 lm_0 rfl (c_X11_ofSide (l := l) (G := G) (ad := ad) (CA := CA) (nt := nt) (by omega) pz (by first | omega | decide) 0 (by first | omega | decide) 5 (by first | omega | decide) M) kX11_156 rfl ⟨Nat.le_of_ble_eq_true rfl, Nat.le_of_ble_eq_true rfl⟩ hl.1 rfl (Nat.le_of_ble_eq_true rfl) dX11_push_35 (fun v4 M5 H locs hp6 hW => ?_)
      obtain ⟨_, rfl, rfl, hp6⟩ := hp6
      rw [hp6] at hW
      refine rw_stk (st' := [.int (iN (sdF (pg M pz) 0 5)), .int (iN (12 - (M 1 (pz + (3 * (pg M pz 27))))))]) rfl ?_
      refine rw_isub hx hb dX11_push_38 ?_
      refine lv_istore (lv' := [(5, .int (iN ((12 - (M 1 (pz + (3 * (pg M pz 27))))) - (sdF (pg M pz) 0 5)))), (4, .int (iN (12 - (M 1 (pz + (3 * (pg M pz 27))))))), (0, .ref (ad 0)), (1, .int (iN pz)), (2, .int (iN 0)), (3, .int (iN x))]) hx hb dX11_push_39 hl (by decide) rfl (fun ls hl => ?_)
      refine lv_iload hx hb dX11_push_41 (lv_at hl 0 rfl) ?_
      refine rw_if_ge (tgt := 50) hx hb dX11_push_43 (by decide) (by omega) (fun c_43 => ?_) (fun c_43 => ?_)
      · refine lv_iload hx hb dX11_push_50 (lv_at hl 0 rfl) ?_
        refine rw_iret hx hb hr hlocks hW dX11_push_52 (⟨(12 - (M 1 (pz + (3 * (pg M pz 27))))) - (sdF (pg M pz) 0 5), rfl, ?_⟩)
        exact ⟨by rw [pushS, pg_r M pz (by omega)]; omega, rfl⟩
      · refine rw_iconst hx hb dX11_push_46 ?_
        refine lv_goto (tgt := 52) hx hb dX11_push_47 (by decide) ?_
        refine rw_iret hx hb hr hlocks hW dX11_push_52 (⟨0, rfl, ?_⟩)
        exact ⟨by rw [pushS, pg_r M pz (by omega)]; omega, rfl⟩
    · refine lv_iload_n hx hb dX11_push_25 rfl (lv_at hl 4 rfl) ?_
      refine lv_goto (tgt := 31) hx hb dX11_push_26 (by decide) ?_
      refine lv_aload_n hx hb dX11_push_31 rfl (lv_at hl 1 rfl) ?_
      refine lv_iload_n hx hb dX11_push_32 rfl (lv_at hl 2 rfl) ?_
      refine lv_iload_n hx hb dX11_push_33 rfl (lv_at hl 3 rfl) ?_
      refine rw_iconst hx hb dX11_push_34 ?_
      refine rw_callV hx hb hml hts hown hW ⟨Nat.le_refl 0, Nat.le_refl 0⟩ [.int (iN pz), .int (iN 0), .int (iN 5)] 0 lm_0 rfl (c_X11_ofSide (l := l) (G := G) (ad := ad) (CA := CA) (nt := nt) (by omega) pz (by first | omega | decide) 0 (by first | omega | decide) 5 (by first | omega | decide) M) kX11_156 rfl ⟨Nat.le_of_ble_eq_true rfl, Nat.le_of_ble_eq_true rfl⟩ hl.1 rfl (Nat.le_of_ble_eq_true rfl) dX11_push_35 (fun v7 M8 H locs hp9 hW => ?_)
      obtain ⟨_, rfl, rfl, hp9⟩ := hp9
      rw [hp9] at hW
      refine rw_stk (st' := [.int (iN (sdF (pg M pz) 0 5)), .int (iN x)]) rfl ?_
      refine rw_isub hx hb dX11_push_38 ?_
      refine lv_istore (lv' := [(5, .int (iN (x - (sdF (pg M pz) 0 5)))), (4, .int (iN (12 - (M 1 (pz + (3 * (pg M pz 27))))))), (0, .ref (ad 0)), (1, .int (iN pz)), (2, .int (iN 0)), (3, .int (iN x))]) hx hb dX11_push_39 hl (by decide) rfl (fun ls hl => ?_)
      refine lv_iload hx hb dX11_push_41 (lv_at hl 0 rfl) ?_
      refine rw_if_ge (tgt := 50) hx hb dX11_push_43 (by decide) (by omega) (fun c_43 => ?_) (fun c_43 => ?_)
      · refine lv_iload hx hb dX11_push_50 (lv_at hl 0 rfl) ?_
        refine rw_iret hx hb hr hlocks hW dX11_push_52 (⟨x - (sdF (pg M pz) 0 5), rfl, ?_⟩)
        exact ⟨by rw [pushS, pg_r M pz (by omega)]; omega, rfl⟩
      · refine rw_iconst hx hb dX11_push_46 ?_
        refine lv_goto (tgt := 52) hx hb dX11_push_47 (by decide) ?_
        refine rw_iret hx hb hr hlocks hW dX11_push_52 (⟨0, rfl, ?_⟩)
        exact ⟨by rw [pushS, pg_r M pz (by omega)]; omega, rfl⟩
  · have hc := hI.1
    have hk := hI.2.1
    have h47 : pg M pz 47 = M 0 1 := rfl
    have hrr := hI.2.2.1
    have hm := hI.2.2.2.2.1
    have hz0 := InvF.sd _ hI (s := 0) (Or.inl rfl)
    have hz1 := InvF.sd _ hI (s := 1) (Or.inr rfl)
    have hf0 := hz0.1
    have hf1 := hz1.1
    have hq0 := hz0.2.2.2.2.2
    have hq1 := hz1.2.2.2.2.2
    have hg0 := hz0.2.1
    have hg1 := hz1.2.1
    have hg2 := hz0.2.2.1
    have hg3 := hz1.2.2.1
    have hg4 := hz0.2.2.2.1
    have hg5 := hz1.2.2.2.1
    have hg6 := hz0.2.2.2.2.1
    have hg7 := hz1.2.2.2.2.1
    have hrm := hI.2.2.2.2.2.1 (pg M pz 27) (by omega) (by omega)
    rw [pg_r M pz (by omega)] at hrm
    refine rw_bipush hx hb dX11_push_0 (by decide) ?_
    refine lv_aload_n hx hb dX11_push_2 rfl (lv_at hl 0 rfl) ?_
    refine rw_getR hx hb hts hown hW 0 lm_0 0 1 rfl fX11_7 dX11_push_3 ?_
    refine lv_iload_n hx hb dX11_push_6 rfl (lv_at hl 1 rfl) ?_
    refine rw_iconst hx hb dX11_push_7 ?_
    refine lv_aload_n hx hb dX11_push_8 rfl (lv_at hl 0 rfl) ?_
    refine lv_iload_n hx hb dX11_push_9 rfl (lv_at hl 1 rfl) ?_
    refine rw_callV hx hb hml hts hown hW ⟨Nat.le_refl 0, Nat.le_refl 0⟩ [.int (iN pz)] 0 lm_0 rfl (c_X11_keg (l := l) (G := G) (ad := ad) (CA := CA) (nt := nt) (by omega) pz (by first | omega | decide) M) kX11_146 rfl ⟨Nat.le_of_ble_eq_true rfl, Nat.le_of_ble_eq_true rfl⟩ hl.1 rfl (Nat.le_of_ble_eq_true rfl) dX11_push_10 (fun v10 M11 H locs hp12 hW => ?_)
    obtain ⟨_, rfl, rfl, hp12⟩ := hp12
    rw [hp12] at hW
    refine rw_stk (st' := [.int (iN (pg M pz 27)), .int (iN 3), .int (iN pz), .ref (ad 1), .int (iN 12)]) rfl ?_
    refine rw_imul hx hb dX11_push_13 ?_
    refine rw_iadd hx hb dX11_push_14 ?_
    refine rw_iald hx hb hW hnt4 1 lm_1 (by omega) (by omega) (by decide) dX11_push_15 (v := (M 1 (pz + (3 * (pg M pz 27))))) rfl ?_
    refine rw_isub hx hb dX11_push_16 ?_
    refine lv_istore (lv' := [(4, .int (iN (12 - (M 1 (pz + (3 * (pg M pz 27))))))), (0, .ref (ad 0)), (1, .int (iN pz)), (2, .int (iN 1)), (3, .int (iN x))]) hx hb dX11_push_17 hl (by decide) rfl (fun ls hl => ?_)
    refine lv_iload_n hx hb dX11_push_19 rfl (lv_at hl 4 rfl) ?_
    refine lv_iload hx hb dX11_push_20 (lv_at hl 0 rfl) ?_
    refine rw_icmp_ge (tgt := 29) hx hb dX11_push_22 (by decide) (by omega) (by omega) (fun c_22 => ?_) (fun c_22 => ?_)
    · refine lv_iload hx hb dX11_push_29 (lv_at hl 0 rfl) ?_
      refine lv_aload_n hx hb dX11_push_31 rfl (lv_at hl 1 rfl) ?_
      refine lv_iload_n hx hb dX11_push_32 rfl (lv_at hl 2 rfl) ?_
      refine lv_iload_n hx hb dX11_push_33 rfl (lv_at hl 3 rfl) ?_
      refine rw_iconst hx hb dX11_push_34 ?_
      refine rw_callV hx hb hml hts hown hW ⟨Nat.le_refl 0, Nat.le_refl 0⟩ [.int (iN pz), .int (iN 1), .int (iN 5)] 0 lm_0 rfl (c_X11_ofSide (l := l) (G := G) (ad := ad) (CA := CA) (nt := nt) (by omega) pz (by first | omega | decide) 1 (by first | omega | decide) 5 (by first | omega | decide) M) kX11_156 rfl ⟨Nat.le_of_ble_eq_true rfl, Nat.le_of_ble_eq_true rfl⟩ hl.1 rfl (Nat.le_of_ble_eq_true rfl) dX11_push_35 (fun v13 M14 H locs hp15 hW => ?_)
      obtain ⟨_, rfl, rfl, hp15⟩ := hp15
      rw [hp15] at hW
      refine rw_stk (st' := [.int (iN (sdF (pg M pz) 1 5)), .int (iN (12 - (M 1 (pz + (3 * (pg M pz 27))))))]) rfl ?_
      refine rw_isub hx hb dX11_push_38 ?_
      refine lv_istore (lv' := [(5, .int (iN ((12 - (M 1 (pz + (3 * (pg M pz 27))))) - (sdF (pg M pz) 1 5)))), (4, .int (iN (12 - (M 1 (pz + (3 * (pg M pz 27))))))), (0, .ref (ad 0)), (1, .int (iN pz)), (2, .int (iN 1)), (3, .int (iN x))]) hx hb dX11_push_39 hl (by decide) rfl (fun ls hl => ?_)
      refine lv_iload hx hb dX11_push_41 (lv_at hl 0 rfl) ?_
      refine rw_if_ge (tgt := 50) hx hb dX11_push_43 (by decide) (by omega) (fun c_43 => ?_) (fun c_43 => ?_)
      · refine lv_iload hx hb dX11_push_50 (lv_at hl 0 rfl) ?_
        refine rw_iret hx hb hr hlocks hW dX11_push_52 (⟨(12 - (M 1 (pz + (3 * (pg M pz 27))))) - (sdF (pg M pz) 1 5), rfl, ?_⟩)
        exact ⟨by rw [pushS, pg_r M pz (by omega)]; omega, rfl⟩
      · refine rw_iconst hx hb dX11_push_46 ?_
        refine lv_goto (tgt := 52) hx hb dX11_push_47 (by decide) ?_
        refine rw_iret hx hb hr hlocks hW dX11_push_52 (⟨0, rfl, ?_⟩)
        exact ⟨by rw [pushS, pg_r M pz (by omega)]; omega, rfl⟩
    · refine lv_iload_n hx hb dX11_push_25 rfl (lv_at hl 4 rfl) ?_
      refine lv_goto (tgt := 31) hx hb dX11_push_26 (by decide) ?_
      refine lv_aload_n hx hb dX11_push_31 rfl (lv_at hl 1 rfl) ?_
      refine lv_iload_n hx hb dX11_push_32 rfl (lv_at hl 2 rfl) ?_
      refine lv_iload_n hx hb dX11_push_33 rfl (lv_at hl 3 rfl) ?_
      refine rw_iconst hx hb dX11_push_34 ?_
      refine rw_callV hx hb hml hts hown hW ⟨Nat.le_refl 0, Nat.le_refl 0⟩ [.int (iN pz), .int (iN 1), .int (iN 5)] 0 lm_0 rfl (c_X11_ofSide (l := l) (G := G) (ad := ad) (CA := CA) (nt := nt) (by omega) pz (by first | omega | decide) 1 (by first | omega | decide) 5 (by first | omega | decide) M) kX11_156 rfl ⟨Nat.le_of_ble_eq_true rfl, Nat.le_of_ble_eq_true rfl⟩ hl.1 rfl (Nat.le_of_ble_eq_true rfl) dX11_push_35 (fun v16 M17 H locs hp18 hW => ?_)
      obtain ⟨_, rfl, rfl, hp18⟩ := hp18
      rw [hp18] at hW
      refine rw_stk (st' := [.int (iN (sdF (pg M pz) 1 5)), .int (iN x)]) rfl ?_
      refine rw_isub hx hb dX11_push_38 ?_
      refine lv_istore (lv' := [(5, .int (iN (x - (sdF (pg M pz) 1 5)))), (4, .int (iN (12 - (M 1 (pz + (3 * (pg M pz 27))))))), (0, .ref (ad 0)), (1, .int (iN pz)), (2, .int (iN 1)), (3, .int (iN x))]) hx hb dX11_push_39 hl (by decide) rfl (fun ls hl => ?_)
      refine lv_iload hx hb dX11_push_41 (lv_at hl 0 rfl) ?_
      refine rw_if_ge (tgt := 50) hx hb dX11_push_43 (by decide) (by omega) (fun c_43 => ?_) (fun c_43 => ?_)
      · refine lv_iload hx hb dX11_push_50 (lv_at hl 0 rfl) ?_
        refine rw_iret hx hb hr hlocks hW dX11_push_52 (⟨x - (sdF (pg M pz) 1 5), rfl, ?_⟩)
        exact ⟨by rw [pushS, pg_r M pz (by omega)]; omega, rfl⟩
      · refine rw_iconst hx hb dX11_push_46 ?_
        refine lv_goto (tgt := 52) hx hb dX11_push_47 (by decide) ?_
        refine rw_iret hx hb hr hlocks hW dX11_push_52 (⟨0, rfl, ?_⟩)
        exact ⟨by rw [pushS, pg_r M pz (by omega)]; omega, rfl⟩
abbrev P_X11_netOf (pz : Int) (x : Int) (y : Int) (M : Mem) : Option Value → Mem → Prop := oI (fun zz MM => zz = netF (pg M pz) x y ∧ MM = M)
set_option maxRecDepth 100000 in
set_option maxHeartbeats 4000000 in
theorem c_X11_netOf {l : Launch} {G : va_G} {ad : Nat → Nat} {CA : Nat → ClassId} {nt : Nat} (hnt : 6 ≤ nt) (pz : Int) (hp : 0 ≤ pz ∧ pz ≤ 188) (x : Int) (y : Int) (hx1 : 0 ≤ x ∧ x ≤ 12) (hy1 : 0 ≤ y ∧ y ≤ 12) (M : Mem) (hI : InvF (pg M pz)) (hov : pg M pz 27 < pg M pz 47) : Mt l yX11_netOf cX11_netOf 4 (some .int) 2 48 G ad CA nt LyM [.ref (ad 0), .int (iN pz), .int (iN x), .int (iN y)] M (P_X11_netOf pz x y M) := by
  refine Mt.of (by decide) (Nat.le_of_ble_eq_true rfl) (fun p e s m args below meth c hx hb hr hml hts hown hlocks hnm hW ls hl => ?_)
  have hl : lv_has ls 4 [(0, .ref (ad 0)), (1, .int (iN pz)), (2, .int (iN x)), (3, .int (iN y))] := hl
  have hnt4 : 4 ≤ nt := by omega
  obtain ⟨H, hH⟩ : ∃ z, z = s.heap := ⟨_, rfl⟩
  obtain ⟨locs, hlo⟩ : ∃ z : List Loc, z = [] := ⟨_, rfl⟩
  rw [← hH, ← hlo] at hW ⊢
  have hc := hI.1
  have hk := hI.2.1
  have h47 : pg M pz 47 = M 0 1 := rfl
  have hrr := hI.2.2.1
  have hm := hI.2.2.2.2.1
  have hz0 := InvF.sd _ hI (s := 0) (Or.inl rfl)
  have hz1 := InvF.sd _ hI (s := 1) (Or.inr rfl)
  have hf0 := hz0.1
  have hf1 := hz1.1
  have hq0 := hz0.2.2.2.2.2
  have hq1 := hz1.2.2.2.2.2
  have hg0 := hz0.2.1
  have hg1 := hz1.2.1
  have hg2 := hz0.2.2.1
  have hg3 := hz1.2.2.1
  have hg4 := hz0.2.2.2.1
  have hg5 := hz1.2.2.2.1
  have hg6 := hz0.2.2.2.2.1
  have hg7 := hz1.2.2.2.2.1
  refine lv_aload_n hx hb dX11_netOf_0 rfl (lv_at hl 0 rfl) ?_
  refine lv_iload_n hx hb dX11_netOf_1 rfl (lv_at hl 1 rfl) ?_
  refine rw_iconst hx hb dX11_netOf_2 ?_
  refine lv_iload_n hx hb dX11_netOf_3 rfl (lv_at hl 3 rfl) ?_
  refine rw_callV hx hb hml hts hown hW ⟨Nat.le_refl 0, Nat.le_refl 0⟩ [.int (iN pz), .int (iN 1), .int (iN y)] 0 lm_0 rfl (c_X11_push (l := l) (G := G) (ad := ad) (CA := CA) (nt := nt) (by omega) pz (by first | omega | decide) 1 (by first | omega | decide) y (by first | omega | decide) M hI hov) kX11_175 rfl ⟨Nat.le_of_ble_eq_true rfl, Nat.le_of_ble_eq_true rfl⟩ hl.1 rfl (Nat.le_of_ble_eq_true rfl) dX11_netOf_4 (fun v1 M2 H locs hp3 hW => ?_)
  obtain ⟨_, rfl, rfl, hp3⟩ := hp3
  rw [hp3] at hW
  refine rw_stk (st' := [.int (iN (pushS (sdF (pg M pz) 1) y (pg M pz (3 * pg M pz 27))))]) rfl ?_
  refine lv_aload_n hx hb dX11_netOf_7 rfl (lv_at hl 0 rfl) ?_
  refine lv_iload_n hx hb dX11_netOf_8 rfl (lv_at hl 1 rfl) ?_
  refine rw_iconst hx hb dX11_netOf_9 ?_
  refine lv_iload_n hx hb dX11_netOf_10 rfl (lv_at hl 2 rfl) ?_
  refine rw_callV hx hb hml hts hown hW ⟨Nat.le_refl 0, Nat.le_refl 0⟩ [.int (iN pz), .int (iN 0), .int (iN x)] 0 lm_0 rfl (c_X11_push (l := l) (G := G) (ad := ad) (CA := CA) (nt := nt) (by omega) pz (by first | omega | decide) 0 (by first | omega | decide) x (by first | omega | decide) M hI (by first | omega | decide)) kX11_175 rfl ⟨Nat.le_of_ble_eq_true rfl, Nat.le_of_ble_eq_true rfl⟩ hl.1 rfl (Nat.le_of_ble_eq_true rfl) dX11_netOf_11 (fun v4 M5 H locs hp6 hW => ?_)
  obtain ⟨_, rfl, rfl, hp6⟩ := hp6
  rw [hp6] at hW
  refine rw_stk (st' := [.int (iN (pushS (sdF (pg M pz) 0) x (pg M pz (3 * pg M pz 27)))), .int (iN (pushS (sdF (pg M pz) 1) y (pg M pz (3 * pg M pz 27))))]) rfl ?_
  refine rw_isub hx hb dX11_netOf_14 ?_
  refine lv_aload_n hx hb dX11_netOf_15 rfl (lv_at hl 0 rfl) ?_
  refine rw_getR hx hb hts hown hW 0 lm_0 0 1 rfl fX11_7 dX11_netOf_16 ?_
  refine lv_iload_n hx hb dX11_netOf_19 rfl (lv_at hl 1 rfl) ?_
  refine rw_iconst hx hb dX11_netOf_20 ?_
  refine lv_aload_n hx hb dX11_netOf_21 rfl (lv_at hl 0 rfl) ?_
  refine lv_iload_n hx hb dX11_netOf_22 rfl (lv_at hl 1 rfl) ?_
  refine rw_callV hx hb hml hts hown hW ⟨Nat.le_refl 0, Nat.le_refl 0⟩ [.int (iN pz)] 0 lm_0 rfl (c_X11_keg (l := l) (G := G) (ad := ad) (CA := CA) (nt := nt) (by omega) pz (by first | omega | decide) M) kX11_146 rfl ⟨Nat.le_of_ble_eq_true rfl, Nat.le_of_ble_eq_true rfl⟩ hl.1 rfl (Nat.le_of_ble_eq_true rfl) dX11_netOf_23 (fun v7 M8 H locs hp9 hW => ?_)
  obtain ⟨_, rfl, rfl, hp9⟩ := hp9
  rw [hp9] at hW
  refine rw_stk (st' := [.int (iN (pg M pz 27)), .int (iN 3), .int (iN pz), .ref (ad 1), .int (iN ((pushS (sdF (pg M pz) 1) y (pg M pz (3 * pg M pz 27))) - (pushS (sdF (pg M pz) 0) x (pg M pz (3 * pg M pz 27)))))]) rfl ?_
  refine rw_imul hx hb dX11_netOf_26 ?_
  refine rw_iadd hx hb dX11_netOf_27 ?_
  refine rw_iconst hx hb dX11_netOf_28 ?_
  refine rw_iadd hx hb dX11_netOf_29 ?_
  refine rw_iald hx hb hW hnt4 1 lm_1 (by omega) (by omega) (by decide) dX11_netOf_30 (v := (M 1 ((pz + (3 * (pg M pz 27))) + 1))) rfl ?_
  refine rw_iadd hx hb dX11_netOf_31 ?_
  refine rw_iret hx hb hr hlocks hW dX11_netOf_32 (⟨((pushS (sdF (pg M pz) 1) y (pg M pz (3 * pg M pz 27))) - (pushS (sdF (pg M pz) 0) x (pg M pz (3 * pg M pz 27)))) + (M 1 ((pz + (3 * (pg M pz 27))) + 1)), rfl, ?_⟩)
  exact ⟨by unfold netF; rw [pg_l M pz (by omega)]; omega, rfl⟩
abbrev P_X11_onward (a : Int) (w : Int) (M : Mem) : Option Value → Mem → Prop := oI (fun zz MM => zz = (if a + w < 0 then 20 else if M 0 1 ≤ a + w then 21 else a + w) ∧ MM = M)
set_option maxRecDepth 100000 in
set_option maxHeartbeats 4000000 in
theorem c_X11_onward {l : Launch} {G : va_G} {ad : Nat → Nat} {CA : Nat → ClassId} {nt : Nat} (hnt : 6 ≤ nt) (a : Int) (ha : 0 ≤ a ∧ a ≤ 100) (w : Int) (hw : -1 ≤ w ∧ w ≤ 1) (M : Mem) (hc : 3 ≤ M 0 1 ∧ M 0 1 ≤ 9) : Mt l yX11_onward cX11_onward 4 (some .int) 0 0 G ad CA nt LyM [.ref (ad 0), .int (iN a), .int (iN w)] M (P_X11_onward a w M) := by
  refine Mt.of (by decide) (Nat.le_of_ble_eq_true rfl) (fun p e s m args below meth c hx hb hr hml hts hown hlocks hnm hW ls hl => ?_)
  have hl : lv_has ls 4 [(0, .ref (ad 0)), (1, .int (iN a)), (2, .int (iN w))] := hl
  have hnt4 : 4 ≤ nt := by omega
  obtain ⟨H, hH⟩ : ∃ z, z = s.heap := ⟨_, rfl⟩
  obtain ⟨locs, hlo⟩ : ∃ z : List Loc, z = [] := ⟨_, rfl⟩
  rw [← hH, ← hlo] at hW ⊢
  refine lv_iload_n hx hb dX11_onward_0 rfl (lv_at hl 1 rfl) ?_
  refine lv_iload_n hx hb dX11_onward_1 rfl (lv_at hl 2 rfl) ?_
  refine rw_iadd hx hb dX11_onward_2 ?_
  refine lv_istore_n (lv' := [(3, .int (iN (a + w))), (0, .ref (ad 0)), (1, .int (iN a)), (2, .int (iN w))]) hx hb dX11_onward_3 rfl hl (by decide) rfl (fun ls hl => ?_)
  refine lv_iload_n hx hb dX11_onward_4 rfl (lv_at hl 0 rfl) ?_
  refine rw_if_ge (tgt := 13) hx hb dX11_onward_5 (by decide) (by omega) (fun c_5 => ?_) (fun c_5 => ?_)
  · refine lv_iload_n hx hb dX11_onward_13 rfl (lv_at hl 0 rfl) ?_
    refine lv_aload_n hx hb dX11_onward_14 rfl (lv_at hl 1 rfl) ?_
    refine rw_getI hx hb hts hown hW 0 lm_0 1 1 rfl rfl fX11_13 dX11_onward_15 (v := (M 0 1)) rfl ?_
    refine rw_icmp_lt (tgt := 26) hx hb dX11_onward_18 (by decide) (by omega) (by omega) (fun c_18 => ?_) (fun c_18 => ?_)
    · refine lv_iload_n hx hb dX11_onward_26 rfl (lv_at hl 0 rfl) ?_
      refine rw_iret hx hb hr hlocks hW dX11_onward_27 (⟨a + w, rfl, ?_⟩)
      exact ⟨by (repeat' split) <;> omega, rfl⟩
    · refine rw_bipush hx hb dX11_onward_21 (by decide) ?_
      refine lv_goto (tgt := 27) hx hb dX11_onward_23 (by decide) ?_
      refine rw_iret hx hb hr hlocks hW dX11_onward_27 (⟨21, rfl, ?_⟩)
      exact ⟨by (repeat' split) <;> omega, rfl⟩
  · refine rw_bipush hx hb dX11_onward_8 (by decide) ?_
    refine lv_goto (tgt := 27) hx hb dX11_onward_10 (by decide) ?_
    refine rw_iret hx hb hr hlocks hW dX11_onward_27 (⟨20, rfl, ?_⟩)
    exact ⟨by (repeat' split) <;> omega, rfl⟩
