abbrev P_X4_seek (sx : Int) (n : Int) (M : Mem) : Option Value → Mem → Prop := oV (fun MM => (∃ (pt : Int → Int) (b : Int → Int) (g : Int), MM 122 6 = (srch sx n.toNat 0 (fld M 1) pt (11, g, b)).2.1 ∧ ∀ j, 0 ≤ j → j < n → MM 206 j = (srch sx n.toNat 0 (fld M 1) pt (11, g, b)).2.2 j) ∧ Same M MM 122 85)
set_option maxRecDepth 100000 in
set_option maxHeartbeats 4000000 in
theorem c_X4_seek {l : Launch} {G : va_G} {ad : Nat → Nat} {CA : Nat → ClassId} {nt : Nat} (hnt : 6 ≤ nt) (sx : Int) (hsx : sx = 0 ∨ sx = 1) (n : Int) (hn : 1 ≤ n ∧ n ≤ 4) (M : Mem) (hI : InvF (fld M 1)) (hm : fld M 1 46 ≤ 1000) : Mt l yX4_seek cX4_seek 4 none 10 235 G ad CA nt LyK [.ref (ad 122), .ref (ad 1), .int (iN sx), .int (iN n)] M (P_X4_seek sx n M) := by
  refine Mt.of (by decide) (Nat.le_of_ble_eq_true rfl) (fun p e s m args below meth c hx hb hr hml hts hown hlocks hnm hW ls hl => ?_)
  have hl : lv_has ls 4 [(0, .ref (ad 122)), (1, .ref (ad 1)), (2, .int (iN sx)), (3, .int (iN n))] := hl
  have hnt4 : 4 ≤ nt := by omega
  obtain ⟨H, hH⟩ : ∃ z, z = s.heap := ⟨_, rfl⟩
  obtain ⟨locs, hlo⟩ : ∃ z : List Loc, z = [] := ⟨_, rfl⟩
  rw [← hH, ← hlo] at hW ⊢
  refine lv_aload_n hx hb dX4_seek_0 rfl (lv_at hl 0 rfl) ?_
  refine lv_iload_n hx hb dX4_seek_1 rfl (lv_at hl 2 rfl) ?_
  refine rw_putI hx hb hts hown hW 122 lk_122 3 3 rfl rfl qX4_25 (v := sx) dX4_seek_2 (fun H locs hW => ?_)
  obtain ⟨M1, hM1⟩ : ∃ z, z = upd2 M 122 3 sx := ⟨_, rfl⟩
  rw [← hM1] at hW
  refine lv_aload_n hx hb dX4_seek_5 rfl (lv_at hl 0 rfl) ?_
  refine lv_iload_n hx hb dX4_seek_6 rfl (lv_at hl 3 rfl) ?_
  refine rw_putI hx hb hts hown hW 122 lk_122 4 4 rfl rfl qX4_29 (v := n) dX4_seek_7 (fun H locs hW => ?_)
  obtain ⟨M2, hM2⟩ : ∃ z, z = upd2 M1 122 4 n := ⟨_, rfl⟩
  rw [← hM2] at hW
  refine lv_aload_n hx hb dX4_seek_10 rfl (lv_at hl 0 rfl) ?_
  refine rw_bipush hx hb dX4_seek_11 (by decide) ?_
  refine rw_putI hx hb hts hown hW 122 lk_122 5 5 rfl rfl qX4_32 (v := 11) dX4_seek_13 (fun H locs hW => ?_)
  obtain ⟨M3, hM3⟩ : ∃ z, z = upd2 M2 122 5 11 := ⟨_, rfl⟩
  rw [← hM3] at hW
  refine lv_aload_n hx hb dX4_seek_16 rfl (lv_at hl 0 rfl) ?_
  refine rw_getR hx hb hts hown hW 122 lk_122 0 123 rfl fX4_12 dX4_seek_17 ?_
  refine rw_iconst hx hb dX4_seek_20 ?_
  refine rw_callV hx hb hml hts hown hW ⟨Nat.le_refl 0, Nat.le_refl 0⟩ [.int (iN 0)] 123 st_123.1 rfl (c_X7_stage (l := l) (G := G) (ad := ad) (CA := CA) (nt := nt) (by omega) 123 st_123 0 (by omega) M3) kX4_35 rfl ⟨Nat.le_of_ble_eq_true rfl, Nat.le_of_ble_eq_true rfl⟩ hl.1 rfl (Nat.le_of_ble_eq_true rfl) dX4_seek_21 (fun v4 M5 H locs hp6 hW => ?_)
  obtain ⟨o0, rfl, ho0, hp6⟩ := hp6
  rw [hp6] at hW
  have hFo0 : FAt LyK o0 := by rw [ho0]; exact fat_123 (by omega)
  have hnow : fld M3 1 = fld M 1 := by rw [hM3, hM2, hM1]; exact fld_eq8 (fun q h1 h2 => by rw [upd2_ne1 (by omega), upd2_ne1 (by omega), upd2_ne1 (by omega)])
  refine rw_stk (st' := [.ref (ad o0)]) rfl ?_
  refine lv_aload_n hx hb dX4_seek_24 rfl (lv_at hl 1 rfl) ?_
  refine rw_callV hx hb hml hts hown hW ⟨Nat.le_refl 0, Nat.le_refl 0⟩ [.ref (ad 1)] o0 hFo0.1 rfl (c_X0_copyOf (l := l) (G := G) (ad := ad) (CA := CA) (nt := nt) (by omega) o0 hFo0 1 fk_1 (by omega) M3) kX4_39 rfl ⟨Nat.le_of_ble_eq_true rfl, Nat.le_of_ble_eq_true rfl⟩ hl.1 rfl (Nat.le_of_ble_eq_true rfl) dX4_seek_25 (fun v7 M8 H locs hp9 hW => ?_)
  obtain ⟨rfl, hM8⟩ := hp9
  refine rw_stk (st' := []) rfl ?_
  have hq0 : fld M8 o0 = fld M 1 := by rw [hM8.1, hnow]
  have hq3 : M8 122 3 = sx := by rw [hM8.2 122 (by omega)]; simp [hM3, hM2, hM1, upd2_at]
  have hq4 : M8 122 4 = n := by rw [hM8.2 122 (by omega)]; simp [hM3, hM2, hM1, upd2_at]
  have hq5 : M8 122 5 = 11 := by rw [hM8.2 122 (by omega)]; simp [hM3, hM2, hM1, upd2_at]
  have hq6 : M8 122 6 = M 122 6 := by rw [hM8.2 122 (by omega)]; simp [hM3, hM2, hM1, upd2_at]
  have hq7 : M8 206 = M 206 := by rw [hM8.2 206 (by omega), hM3, upd2_ne1 (by decide), hM2, upd2_ne1 (by decide), hM1, upd2_ne1 (by decide)]
  refine lv_aload_n hx hb dX4_seek_28 rfl (lv_at hl 0 rfl) ?_
  refine rw_iconst hx hb dX4_seek_29 ?_
  refine rw_callS hx hb hml hts hown hW ⟨Nat.le_refl 0, Nat.le_refl 0⟩ [.ref (ad 122), .int (iN 0)] (c_X4_search (l := l) (G := G) (ad := ad) (CA := CA) (nt := nt) 4 (by omega) sx hsx n 0 (by omega) (M8 205) ((11, M 122 6, M 206) : BS) M8 hq3 ⟨hq4, hn⟩ (by rw [← ho0, hq0]; exact hI) (by rw [← ho0, hq0]; omega) ⟨hq5, hq6, fun j _ _ => by rw [hq7]⟩ (by show (0 : Int) ≤ 11 ∧ (11 : Int) ≤ 11; omega) (fun j _ _ => rfl) (fun e => absurd e (by omega))) kX4_45 rfl ⟨Nat.le_of_ble_eq_true rfl, Nat.le_of_ble_eq_true rfl⟩ hl.1 rfl (Nat.le_of_ble_eq_true rfl) dX4_seek_30 (fun v10 M11 H locs hp12 hW => ?_)
  obtain ⟨rfl, hM11⟩ := hp12
  refine rw_stk (st' := []) rfl ?_
  refine rw_vret hx hb hr hlocks hW dX4_seek_33 (⟨rfl, ?_⟩)
  obtain ⟨t1, t2, t3, t4, t5, t6, t7⟩ := hM11
  rw [← ho0, hq0, show (n - 0).toNat = n.toNat by omega] at t2 t3
  refine ⟨⟨M8 205, M 206, M 122 6, t2, t3⟩, fun q hq => ?_⟩
  rw [t7 q (by omega) (by omega) (by omega) (by omega), hM8.2 q (by omega), hM3, upd2_ne1 (by omega), hM2, upd2_ne1 (by omega), hM1, upd2_ne1 (by omega)]
abbrev P_X10_fault (M : Mem) : Option Value → Mem → Prop := oI (fun zz MM => zz = M 17 4 ∧ MM = M)
set_option maxRecDepth 100000 in
set_option maxHeartbeats 4000000 in
theorem c_X10_fault {l : Launch} {G : va_G} {ad : Nat → Nat} {CA : Nat → ClassId} {nt : Nat} (hnt : 6 ≤ nt) (M : Mem) : Mt l yX10_fault cX10_fault 1 (some .int) 0 0 G ad CA nt LyK [.ref (ad 0)] M (P_X10_fault M) := by
  refine Mt.of (by decide) (Nat.le_of_ble_eq_true rfl) (fun p e s m args below meth c hx hb hr hml hts hown hlocks hnm hW ls hl => ?_)
  have hl : lv_has ls 1 [(0, .ref (ad 0))] := hl
  have hnt4 : 4 ≤ nt := by omega
  obtain ⟨H, hH⟩ : ∃ z, z = s.heap := ⟨_, rfl⟩
  obtain ⟨locs, hlo⟩ : ∃ z : List Loc, z = [] := ⟨_, rfl⟩
  rw [← hH, ← hlo] at hW ⊢
  refine lv_aload_n hx hb dX10_fault_0 rfl (lv_at hl 0 rfl) ?_
  refine rw_getR hx hb hts hown hW 0 lk_0 2 17 rfl fX10_22 dX10_fault_1 ?_
  refine rw_getI hx hb hts hown hW 17 lk_17 4 4 rfl rfl fX10_95 dX10_fault_4 (v := (M 17 4)) rfl ?_
  refine rw_iret hx hb hr hlocks hW dX10_fault_7 (⟨(M 17 4), rfl, ?_⟩)
  exact ⟨rfl, rfl⟩
abbrev P_X10_torn (M : Mem) : Option Value → Mem → Prop := oI (fun zz MM => zz = M 0 11 ∧ MM = M)
set_option maxRecDepth 100000 in
set_option maxHeartbeats 4000000 in
theorem c_X10_torn {l : Launch} {G : va_G} {ad : Nat → Nat} {CA : Nat → ClassId} {nt : Nat} (hnt : 6 ≤ nt) (M : Mem) : Mt l yX10_torn cX10_torn 1 (some .int) 0 0 G ad CA nt LyK [.ref (ad 0)] M (P_X10_torn M) := by
  refine Mt.of (by decide) (Nat.le_of_ble_eq_true rfl) (fun p e s m args below meth c hx hb hr hml hts hown hlocks hnm hW ls hl => ?_)
  have hl : lv_has ls 1 [(0, .ref (ad 0))] := hl
  have hnt4 : 4 ≤ nt := by omega
  obtain ⟨H, hH⟩ : ∃ z, z = s.heap := ⟨_, rfl⟩
  obtain ⟨locs, hlo⟩ : ∃ z : List Loc, z = [] := ⟨_, rfl⟩
  rw [← hH, ← hlo] at hW ⊢
  refine lv_aload_n hx hb dX10_torn_0 rfl (lv_at hl 0 rfl) ?_
  refine rw_getI hx hb hts hown hW 0 lk_0 11 11 rfl rfl fX10_293 dX10_torn_1 (v := (M 0 11)) rfl ?_
  refine rw_iret hx hb hr hlocks hW dX10_torn_4 (⟨(M 0 11), rfl, ?_⟩)
  exact ⟨rfl, rfl⟩
abbrev P_X10_rule (w : Int) (M : Mem) : Option Value → Mem → Prop := oI (fun zz MM => zz = (if w = 0 then M 1 0 else if w = 1 then M 1 1 else if w = 2 then M 1 2 else if w = 3 then M 1 3 else if w = 4 then M 1 4 else -1) ∧ MM = M)
set_option maxRecDepth 100000 in
set_option maxHeartbeats 4000000 in
theorem c_X10_rule {l : Launch} {G : va_G} {ad : Nat → Nat} {CA : Nat → ClassId} {nt : Nat} (hnt : 6 ≤ nt) (w : Int) (hw9 : in32 w) (M : Mem) : Mt l yX10_rule cX10_rule 2 (some .int) 0 0 G ad CA nt LyK [.ref (ad 0), .int (iN w)] M (P_X10_rule w M) := by
  refine Mt.of (by decide) (Nat.le_of_ble_eq_true rfl) (fun p e s m args below meth c hx hb hr hml hts hown hlocks hnm hW ls hl => ?_)
  have hl : lv_has ls 2 [(0, .ref (ad 0)), (1, .int (iN w))] := hl
  have hnt4 : 4 ≤ nt := by omega
  obtain ⟨H, hH⟩ : ∃ z, z = s.heap := ⟨_, rfl⟩
  obtain ⟨locs, hlo⟩ : ∃ z : List Loc, z = [] := ⟨_, rfl⟩
  rw [← hH, ← hlo] at hW ⊢
  refine lv_iload_n hx hb dX10_rule_0 rfl (lv_at hl 1 rfl) ?_
  rcases (show (w < 0 ∨ 4 < w) ∨ w = 0 ∨ w = 1 ∨ w = 2 ∨ w = 3 ∨ w = 4 by omega) with c_1 | c_1 | c_1 | c_1 | c_1 | c_1
  · refine rw_tswD (tgt := 76) hx hb dX10_rule_1 (by omega) c_1 (by decide) ?_
    refine rw_iconst hx hb dX10_rule_76 ?_
    refine rw_iret hx hb hr hlocks hW dX10_rule_77 (⟨(-1), rfl, ?_⟩)
    exact ⟨by rw [if_neg (by omega), if_neg (by omega), if_neg (by omega), if_neg (by omega), if_neg (by omega)], rfl⟩
  · refine rw_tswK (tgt := 36) hx hb dX10_rule_1 (by omega) 0 (by omega) rfl (by decide) ?_
    refine lv_aload_n hx hb dX10_rule_36 rfl (lv_at hl 0 rfl) ?_
    refine rw_getR hx hb hts hown hW 0 lk_0 0 1 rfl fX10_10 dX10_rule_37 ?_
    refine rw_getI hx hb hts hown hW 1 fk_1.1 0 0 rfl rfl fX10_114 dX10_rule_40 (v := (M 1 0)) rfl ?_
    refine rw_iret hx hb hr hlocks hW dX10_rule_43 (⟨(M 1 0), rfl, ?_⟩)
    exact ⟨by simp [c_1], rfl⟩
  · refine rw_tswK (tgt := 44) hx hb dX10_rule_1 (by omega) 1 (by omega) rfl (by decide) ?_
    refine lv_aload_n hx hb dX10_rule_44 rfl (lv_at hl 0 rfl) ?_
    refine rw_getR hx hb hts hown hW 0 lk_0 0 1 rfl fX10_10 dX10_rule_45 ?_
    refine rw_getI hx hb hts hown hW 1 fk_1.1 1 1 rfl rfl fX10_117 dX10_rule_48 (v := (M 1 1)) rfl ?_
    refine rw_iret hx hb hr hlocks hW dX10_rule_51 (⟨(M 1 1), rfl, ?_⟩)
    exact ⟨by simp [c_1], rfl⟩
  · refine rw_tswK (tgt := 52) hx hb dX10_rule_1 (by omega) 2 (by omega) rfl (by decide) ?_
    refine lv_aload_n hx hb dX10_rule_52 rfl (lv_at hl 0 rfl) ?_
    refine rw_getR hx hb hts hown hW 0 lk_0 0 1 rfl fX10_10 dX10_rule_53 ?_
    refine rw_getI hx hb hts hown hW 1 fk_1.1 2 2 rfl rfl fX10_120 dX10_rule_56 (v := (M 1 2)) rfl ?_
    refine rw_iret hx hb hr hlocks hW dX10_rule_59 (⟨(M 1 2), rfl, ?_⟩)
    exact ⟨by simp [c_1], rfl⟩
  · refine rw_tswK (tgt := 60) hx hb dX10_rule_1 (by omega) 3 (by omega) rfl (by decide) ?_
    refine lv_aload_n hx hb dX10_rule_60 rfl (lv_at hl 0 rfl) ?_
    refine rw_getR hx hb hts hown hW 0 lk_0 0 1 rfl fX10_10 dX10_rule_61 ?_
    refine rw_getI hx hb hts hown hW 1 fk_1.1 3 3 rfl rfl fX10_123 dX10_rule_64 (v := (M 1 3)) rfl ?_
    refine rw_iret hx hb hr hlocks hW dX10_rule_67 (⟨(M 1 3), rfl, ?_⟩)
    exact ⟨by simp [c_1], rfl⟩
  · refine rw_tswK (tgt := 68) hx hb dX10_rule_1 (by omega) 4 (by omega) rfl (by decide) ?_
    refine lv_aload_n hx hb dX10_rule_68 rfl (lv_at hl 0 rfl) ?_
    refine rw_getR hx hb hts hown hW 0 lk_0 0 1 rfl fX10_10 dX10_rule_69 ?_
    refine rw_getI hx hb hts hown hW 1 fk_1.1 4 4 rfl rfl fX10_126 dX10_rule_72 (v := (M 1 4)) rfl ?_
    refine rw_iret hx hb hr hlocks hW dX10_rule_75 (⟨(M 1 4), rfl, ?_⟩)
    exact ⟨by simp [c_1], rfl⟩
abbrev P_X10_cell (i : Int) (w : Int) (M : Mem) : Option Value → Mem → Prop := oI (fun zz MM => zz = (if (0 ≤ i ∧ i < M 1 0) ∧ 0 ≤ w ∧ w ≤ 2 then fld M 1 (3 * i + w) else -1) ∧ MM = M)
set_option maxRecDepth 100000 in
set_option maxHeartbeats 4000000 in
theorem c_X10_cell {l : Launch} {G : va_G} {ad : Nat → Nat} {CA : Nat → ClassId} {nt : Nat} (hnt : 6 ≤ nt) (i : Int) (hi9 : in32 i) (w : Int) (hw9 : in32 w) (M : Mem) (hKI : KI M) : Mt l yX10_cell cX10_cell 3 (some .int) 1 21 G ad CA nt LyK [.ref (ad 0), .int (iN i), .int (iN w)] M (P_X10_cell i w M) := by
  refine Mt.of (by decide) (Nat.le_of_ble_eq_true rfl) (fun p e s m args below meth c hx hb hr hml hts hown hlocks hnm hW ls hl => ?_)
  have hl : lv_has ls 3 [(0, .ref (ad 0)), (1, .int (iN i)), (2, .int (iN w))] := hl
  have hnt4 : 4 ≤ nt := by omega
  obtain ⟨H, hH⟩ : ∃ z, z = s.heap := ⟨_, rfl⟩
  obtain ⟨locs, hlo⟩ : ∃ z : List Loc, z = [] := ⟨_, rfl⟩
  rw [← hH, ← hlo] at hW ⊢
  have hI := hKI.now
  have hm := hKI.min
  have hc := hI.c
  have hk := hI.k2
  have hT := hKI.told
  have hmn : fld M 1 46 ≤ 1000 := by omega
  refine lv_aload_n hx hb dX10_cell_0 rfl (lv_at hl 0 rfl) ?_
  refine rw_getR hx hb hts hown hW 0 lk_0 0 1 rfl fX10_10 dX10_cell_1 ?_
  refine lv_iload_n hx hb dX10_cell_4 rfl (lv_at hl 1 rfl) ?_
  refine rw_callV hx hb hml hts hown hW ⟨Nat.le_refl 0, Nat.le_refl 0⟩ [.int (iN i)] 1 fk_1.1 rfl (c_X0_hasCell (l := l) (G := G) (ad := ad) (CA := CA) (nt := nt) 1 fk_1 i (by omega) M hc) kX10_129 rfl ⟨Nat.le_of_ble_eq_true rfl, Nat.le_of_ble_eq_true rfl⟩ hl.1 rfl (Nat.le_of_ble_eq_true rfl) dX10_cell_5 (fun v1 M2 H locs hp3 hW => ?_)
  obtain ⟨a4, rfl, hp3, hp3m⟩ := hp3
  rw [hp3m] at hW
  rcases hp3 with ⟨rfl, hp3⟩ | ⟨rfl, hp3⟩
  · refine rw_stk (st' := [.int (iN 1)]) rfl ?_
    refine rw_if_ne (tgt := 13) hx hb dX10_cell_8 (by decide) (by decide) (fun _ => ?_) (fun c => absurd c (by decide))
    refine lv_iload_n hx hb dX10_cell_13 rfl (lv_at hl 2 rfl) ?_
    rcases (show (w < 0 ∨ 2 < w) ∨ w = 0 ∨ w = 1 ∨ w = 2 by omega) with c_14 | c_14 | c_14 | c_14
    · refine rw_tswD (tgt := 70) hx hb dX10_cell_14 (by omega) c_14 (by decide) ?_
      refine rw_iconst hx hb dX10_cell_70 ?_
      refine rw_iret hx hb hr hlocks hW dX10_cell_71 (⟨(-1), rfl, ?_⟩)
      exact ⟨by rw [if_neg (by omega)], rfl⟩
    · refine rw_tswK (tgt := 40) hx hb dX10_cell_14 (by omega) 0 (by omega) rfl (by decide) ?_
      refine lv_aload_n hx hb dX10_cell_40 rfl (lv_at hl 0 rfl) ?_
      refine rw_getR hx hb hts hown hW 0 lk_0 0 1 rfl fX10_10 dX10_cell_41 ?_
      refine rw_getR hx hb hts hown hW 1 fk_1.1 5 2 rfl fX10_133 dX10_cell_44 ?_
      refine lv_iload_n hx hb dX10_cell_47 rfl (lv_at hl 1 rfl) ?_
      refine rw_iald hx hb hW hnt4 2 fk_1.2.1 (by omega) (by omega) (by decide) dX10_cell_48 (v := (M 2 i)) rfl ?_
      refine rw_iret hx hb hr hlocks hW dX10_cell_49 (⟨(M 2 i), rfl, ?_⟩)
      exact ⟨by rw [if_pos (by omega), c_14]; rw [Int.add_zero, fld_r M 1 (by omega)], rfl⟩
    · refine rw_tswK (tgt := 50) hx hb dX10_cell_14 (by omega) 1 (by omega) rfl (by decide) ?_
      refine lv_aload_n hx hb dX10_cell_50 rfl (lv_at hl 0 rfl) ?_
      refine rw_getR hx hb hts hown hW 0 lk_0 0 1 rfl fX10_10 dX10_cell_51 ?_
      refine rw_getR hx hb hts hown hW 1 fk_1.1 6 3 rfl fX10_137 dX10_cell_54 ?_
      refine lv_iload_n hx hb dX10_cell_57 rfl (lv_at hl 1 rfl) ?_
      refine rw_iald hx hb hW hnt4 3 fk_1.2.2.1 (by omega) (by omega) (by decide) dX10_cell_58 (v := (M 3 i)) rfl ?_
      refine rw_iret hx hb hr hlocks hW dX10_cell_59 (⟨(M 3 i), rfl, ?_⟩)
      exact ⟨by rw [if_pos (by omega), c_14]; rw [fld_l M 1 (by omega)], rfl⟩
    · refine rw_tswK (tgt := 60) hx hb dX10_cell_14 (by omega) 2 (by omega) rfl (by decide) ?_
      refine lv_aload_n hx hb dX10_cell_60 rfl (lv_at hl 0 rfl) ?_
      refine rw_getR hx hb hts hown hW 0 lk_0 0 1 rfl fX10_10 dX10_cell_61 ?_
      refine rw_getR hx hb hts hown hW 1 fk_1.1 7 4 rfl fX10_140 dX10_cell_64 ?_
      refine lv_iload_n hx hb dX10_cell_67 rfl (lv_at hl 1 rfl) ?_
      refine rw_iald hx hb hW hnt4 4 fk_1.2.2.2.1 (by omega) (by omega) (by decide) dX10_cell_68 (v := (M 4 i)) rfl ?_
      refine rw_iret hx hb hr hlocks hW dX10_cell_69 (⟨(M 4 i), rfl, ?_⟩)
      exact ⟨by rw [if_pos (by omega), c_14]; rw [fld_h M 1 (by omega)], rfl⟩
  · refine rw_stk (st' := [.int (iN 0)]) rfl ?_
    refine rw_if_ne (tgt := 13) hx hb dX10_cell_8 (by decide) (by decide) (fun c => absurd c (by decide)) (fun _ => ?_)
    refine rw_iconst hx hb dX10_cell_11 ?_
    refine rw_iret hx hb hr hlocks hW dX10_cell_12 (⟨(-1), rfl, ?_⟩)
    exact ⟨by rw [if_neg (by omega)], rfl⟩
abbrev P_X10_side (sx : Int) (w : Int) (M : Mem) : Option Value → Mem → Prop := oI (fun zz MM => zz = (if sx = 0 ∨ sx = 1 then ansS (sdF (fld M 1) sx) w else -1) ∧ MM = M)
set_option maxRecDepth 100000 in
set_option maxHeartbeats 4000000 in
theorem c_X10_side {l : Launch} {G : va_G} {ad : Nat → Nat} {CA : Nat → ClassId} {nt : Nat} (hnt : 6 ≤ nt) (sx : Int) (hsx9 : in32 sx) (w : Int) (hw9 : in32 w) (M : Mem) : Mt l yX10_side cX10_side 3 (some .int) 2 43 G ad CA nt LyK [.ref (ad 0), .int (iN sx), .int (iN w)] M (P_X10_side sx w M) := by
  refine Mt.of (by decide) (Nat.le_of_ble_eq_true rfl) (fun p e s m args below meth c hx hb hr hml hts hown hlocks hnm hW ls hl => ?_)
  have hl : lv_has ls 3 [(0, .ref (ad 0)), (1, .int (iN sx)), (2, .int (iN w))] := hl
  have hnt4 : 4 ≤ nt := by omega
  obtain ⟨H, hH⟩ : ∃ z, z = s.heap := ⟨_, rfl⟩
  obtain ⟨locs, hlo⟩ : ∃ z : List Loc, z = [] := ⟨_, rfl⟩
  rw [← hH, ← hlo] at hW ⊢
  refine lv_iload_n hx hb dX10_side_0 rfl (lv_at hl 1 rfl) ?_
  refine rw_callS hx hb hml hts hown hW ⟨Nat.le_refl 0, Nat.le_refl 0⟩ [.int (iN sx)] (c_X10_isSide (l := l) (G := G) (ad := ad) (CA := CA) (nt := nt) sx (by omega) M) kX10_143 rfl ⟨Nat.le_of_ble_eq_true rfl, Nat.le_of_ble_eq_true rfl⟩ hl.1 rfl (Nat.le_of_ble_eq_true rfl) dX10_side_1 (fun v1 M2 H locs hp3 hW => ?_)
  obtain ⟨a4, rfl, hp3, hp3m⟩ := hp3
  rw [hp3m] at hW
  rcases hp3 with ⟨rfl, hp3⟩ | ⟨rfl, hp3⟩
  · rcases hp3 with rfl | rfl
    · refine rw_stk (st' := [.int (iN 1)]) rfl ?_
      refine rw_if_eq (tgt := 22) hx hb dX10_side_4 (by decide) (by decide) (fun c => absurd c (by decide)) (fun _ => ?_)
      refine lv_aload_n hx hb dX10_side_7 rfl (lv_at hl 0 rfl) ?_
      refine rw_getR hx hb hts hown hW 0 lk_0 0 1 rfl fX10_10 dX10_side_8 ?_
      refine lv_iload_n hx hb dX10_side_11 rfl (lv_at hl 1 rfl) ?_
      refine rw_callV hx hb hml hts hown hW ⟨Nat.le_refl 0, Nat.le_refl 0⟩ [.int (iN 0)] 1 fk_1.1 rfl (c_X0_sideOf (l := l) (G := G) (ad := ad) (CA := CA) (nt := nt) 1 fk_1 0 (by omega) M) kX10_146 rfl ⟨Nat.le_of_ble_eq_true rfl, Nat.le_of_ble_eq_true rfl⟩ hl.1 rfl (Nat.le_of_ble_eq_true rfl) dX10_side_12 (fun v5 M6 H locs hp7 hW => ?_)
      obtain ⟨_, rfl, rfl, hp7⟩ := hp7
      rw [hp7] at hW
      rw [if_pos rfl]
      refine rw_stk (st' := [.ref (ad 5)]) rfl ?_
      refine lv_iload_n hx hb dX10_side_15 rfl (lv_at hl 2 rfl) ?_
      refine rw_callV hx hb hml hts hown hW ⟨Nat.le_refl 0, Nat.le_refl 0⟩ [.int (iN w)] 5 fk_1.2.2.2.2.1.1 rfl (c_X6_answer (l := l) (G := G) (ad := ad) (CA := CA) (nt := nt) (by omega) 5 fk_1.2.2.2.2.1 w (by omega) M) kX10_150 rfl ⟨Nat.le_of_ble_eq_true rfl, Nat.le_of_ble_eq_true rfl⟩ hl.1 rfl (Nat.le_of_ble_eq_true rfl) dX10_side_16 (fun v8 M9 H locs hp10 hW => ?_)
      obtain ⟨_, rfl, rfl, hp10⟩ := hp10
      rw [hp10] at hW
      refine rw_stk (st' := [.int (iN (ansS (sd M 5) w))]) rfl ?_
      refine lv_goto (tgt := 23) hx hb dX10_side_19 (by decide) ?_
      refine rw_iret hx hb hr hlocks hW dX10_side_23 (⟨ansS (sd M 5) w, rfl, ?_⟩)
      exact ⟨by rw [if_pos (by decide)]; first | rw [sdF_0] | rw [sdF_1], rfl⟩
    · refine rw_stk (st' := [.int (iN 1)]) rfl ?_
      refine rw_if_eq (tgt := 22) hx hb dX10_side_4 (by decide) (by decide) (fun c => absurd c (by decide)) (fun _ => ?_)
      refine lv_aload_n hx hb dX10_side_7 rfl (lv_at hl 0 rfl) ?_
      refine rw_getR hx hb hts hown hW 0 lk_0 0 1 rfl fX10_10 dX10_side_8 ?_
      refine lv_iload_n hx hb dX10_side_11 rfl (lv_at hl 1 rfl) ?_
      refine rw_callV hx hb hml hts hown hW ⟨Nat.le_refl 0, Nat.le_refl 0⟩ [.int (iN 1)] 1 fk_1.1 rfl (c_X0_sideOf (l := l) (G := G) (ad := ad) (CA := CA) (nt := nt) 1 fk_1 1 (by omega) M) kX10_146 rfl ⟨Nat.le_of_ble_eq_true rfl, Nat.le_of_ble_eq_true rfl⟩ hl.1 rfl (Nat.le_of_ble_eq_true rfl) dX10_side_12 (fun v11 M12 H locs hp13 hW => ?_)
      obtain ⟨_, rfl, rfl, hp13⟩ := hp13
      rw [hp13] at hW
      rw [if_neg (by decide)]
      refine rw_stk (st' := [.ref (ad 7)]) rfl ?_
      refine lv_iload_n hx hb dX10_side_15 rfl (lv_at hl 2 rfl) ?_
      refine rw_callV hx hb hml hts hown hW ⟨Nat.le_refl 0, Nat.le_refl 0⟩ [.int (iN w)] 7 fk_1.2.2.2.2.2.1 rfl (c_X6_answer (l := l) (G := G) (ad := ad) (CA := CA) (nt := nt) (by omega) 7 fk_1.2.2.2.2.2 w (by omega) M) kX10_150 rfl ⟨Nat.le_of_ble_eq_true rfl, Nat.le_of_ble_eq_true rfl⟩ hl.1 rfl (Nat.le_of_ble_eq_true rfl) dX10_side_16 (fun v14 M15 H locs hp16 hW => ?_)
      obtain ⟨_, rfl, rfl, hp16⟩ := hp16
      rw [hp16] at hW
      refine rw_stk (st' := [.int (iN (ansS (sd M 7) w))]) rfl ?_
      refine lv_goto (tgt := 23) hx hb dX10_side_19 (by decide) ?_
      refine rw_iret hx hb hr hlocks hW dX10_side_23 (⟨ansS (sd M 7) w, rfl, ?_⟩)
      exact ⟨by rw [if_pos (by decide)]; first | rw [sdF_0] | rw [sdF_1], rfl⟩
  · refine rw_stk (st' := [.int (iN 0)]) rfl ?_
    refine rw_if_eq (tgt := 22) hx hb dX10_side_4 (by decide) (by decide) (fun _ => ?_) (fun c => absurd (by decide) c)
    refine rw_iconst hx hb dX10_side_22 ?_
    refine rw_iret hx hb hr hlocks hW dX10_side_23 (⟨(-1), rfl, ?_⟩)
    exact ⟨by rw [if_neg (by omega)], rfl⟩
abbrev P_X10_room (i : Int) (v : Int) (M : Mem) : Option Value → Mem → Prop := oI (fun zz MM => (((0 ≤ i ∧ i < M 1 0) ∧ 1 ≤ v ∧ v ≤ 12) ∧ zz = M 2 i ∧ MM = upd2 M 2 i v) ∨ (¬ ((0 ≤ i ∧ i < M 1 0) ∧ 1 ≤ v ∧ v ≤ 12) ∧ zz = -1 ∧ MM = M))
set_option maxRecDepth 100000 in
set_option maxHeartbeats 4000000 in
theorem c_X10_room {l : Launch} {G : va_G} {ad : Nat → Nat} {CA : Nat → ClassId} {nt : Nat} (hnt : 6 ≤ nt) (i : Int) (hi9 : in32 i) (v : Int) (hv9 : in32 v) (M : Mem) (hKI : KI M) : Mt l yX10_room cX10_room 3 (some .int) 1 23 G ad CA nt LyK [.ref (ad 0), .int (iN i), .int (iN v)] M (P_X10_room i v M) := by
  refine Mt.of (by decide) (Nat.le_of_ble_eq_true rfl) (fun p e s m args below meth c hx hb hr hml hts hown hlocks hnm hW ls hl => ?_)
  have hl : lv_has ls 3 [(0, .ref (ad 0)), (1, .int (iN i)), (2, .int (iN v))] := hl
  have hnt4 : 4 ≤ nt := by omega
  obtain ⟨H, hH⟩ : ∃ z, z = s.heap := ⟨_, rfl⟩
  obtain ⟨locs, hlo⟩ : ∃ z : List Loc, z = [] := ⟨_, rfl⟩
  rw [← hH, ← hlo] at hW ⊢
  have hI := hKI.now
  have hm := hKI.min
  have hc := hI.c
  have hk := hI.k2
  have hT := hKI.told
  have hmn : fld M 1 46 ≤ 1000 := by omega
  refine lv_aload_n hx hb dX10_room_0 rfl (lv_at hl 0 rfl) ?_
  refine rw_getR hx hb hts hown hW 0 lk_0 0 1 rfl fX10_10 dX10_room_1 ?_
  refine lv_iload_n hx hb dX10_room_4 rfl (lv_at hl 1 rfl) ?_
  refine rw_callV hx hb hml hts hown hW ⟨Nat.le_refl 0, Nat.le_refl 0⟩ [.int (iN i)] 1 fk_1.1 rfl (c_X0_hasCell (l := l) (G := G) (ad := ad) (CA := CA) (nt := nt) 1 fk_1 i (by omega) M hc) kX10_129 rfl ⟨Nat.le_of_ble_eq_true rfl, Nat.le_of_ble_eq_true rfl⟩ hl.1 rfl (Nat.le_of_ble_eq_true rfl) dX10_room_5 (fun v1 M2 H locs hp3 hW => ?_)
  obtain ⟨a4, rfl, hp3, hp3m⟩ := hp3
  rw [hp3m] at hW
  rcases hp3 with ⟨rfl, hp3⟩ | ⟨rfl, hp3⟩
  · refine rw_stk (st' := [.int (iN 1)]) rfl ?_
    refine rw_if_eq (tgt := 36) hx hb dX10_room_8 (by decide) (by decide) (fun c => absurd c (by decide)) (fun _ => ?_)
    refine lv_iload_n hx hb dX10_room_11 rfl (lv_at hl 2 rfl) ?_
    refine rw_iconst hx hb dX10_room_12 ?_
    refine rw_bipush hx hb dX10_room_13 (by decide) ?_
    refine rw_callS hx hb hml hts hown hW ⟨Nat.le_refl 0, Nat.le_refl 0⟩ [.int (iN v), .int (iN 1), .int (iN 12)] (c_X10_within (l := l) (G := G) (ad := ad) (CA := CA) (nt := nt) v 1 12 (by omega) (by omega) (by omega) M) kX10_81 rfl ⟨Nat.le_of_ble_eq_true rfl, Nat.le_of_ble_eq_true rfl⟩ hl.1 rfl (Nat.le_of_ble_eq_true rfl) dX10_room_15 (fun v5 M6 H locs hp7 hW => ?_)
    obtain ⟨a8, rfl, hp7, hp7m⟩ := hp7
    rw [hp7m] at hW
    rcases hp7 with ⟨rfl, hp7⟩ | ⟨rfl, hp7⟩
    · refine rw_stk (st' := [.int (iN 1)]) rfl ?_
      refine rw_if_eq (tgt := 36) hx hb dX10_room_18 (by decide) (by decide) (fun c => absurd c (by decide)) (fun _ => ?_)
      refine lv_aload_n hx hb dX10_room_21 rfl (lv_at hl 0 rfl) ?_
      refine rw_getR hx hb hts hown hW 0 lk_0 0 1 rfl fX10_10 dX10_room_22 ?_
      refine rw_getR hx hb hts hown hW 1 fk_1.1 5 2 rfl fX10_133 dX10_room_25 ?_
      refine lv_iload_n hx hb dX10_room_28 rfl (lv_at hl 1 rfl) ?_
      refine lv_iload_n hx hb dX10_room_29 rfl (lv_at hl 2 rfl) ?_
      refine rw_callS hx hb hml hts hown hW ⟨Nat.le_refl 0, Nat.le_refl 0⟩ [.ref (ad 2), .int (iN i), .int (iN v)] (c_X10_replace (l := l) (G := G) (ad := ad) (CA := CA) (nt := nt) (by omega) 2 9 (by omega) fk_1.2.1 i v (by omega) M) kX10_156 rfl ⟨Nat.le_of_ble_eq_true rfl, Nat.le_of_ble_eq_true rfl⟩ hl.1 rfl (Nat.le_of_ble_eq_true rfl) dX10_room_30 (fun v9 M10 H locs hp11 hW => ?_)
      obtain ⟨_, rfl, rfl, hM10⟩ := hp11
      refine rw_stk (st' := [.int (iN (M 2 i))]) rfl ?_
      refine lv_goto (tgt := 37) hx hb dX10_room_33 (by decide) ?_
      refine rw_iret hx hb hr hlocks hW dX10_room_37 (⟨M 2 i, rfl, ?_⟩)
      refine Or.inl ⟨by omega, rfl, ?_⟩
      rw [hM10]
    · refine rw_stk (st' := [.int (iN 0)]) rfl ?_
      refine rw_if_eq (tgt := 36) hx hb dX10_room_18 (by decide) (by decide) (fun _ => ?_) (fun c => absurd (by decide) c)
      refine rw_iconst hx hb dX10_room_36 ?_
      refine rw_iret hx hb hr hlocks hW dX10_room_37 (⟨(-1), rfl, ?_⟩)
      exact Or.inr ⟨by omega, rfl, rfl⟩
  · refine rw_stk (st' := [.int (iN 0)]) rfl ?_
    refine rw_if_eq (tgt := 36) hx hb dX10_room_8 (by decide) (by decide) (fun _ => ?_) (fun c => absurd (by decide) c)
    refine rw_iconst hx hb dX10_room_36 ?_
    refine rw_iret hx hb hr hlocks hW dX10_room_37 (⟨(-1), rfl, ?_⟩)
    exact Or.inr ⟨by omega, rfl, rfl⟩
abbrev P_X10_slope (i : Int) (v : Int) (M : Mem) : Option Value → Mem → Prop := oI (fun zz MM => (((0 ≤ i ∧ i < M 1 0) ∧ 0 ≤ v ∧ v ≤ 6) ∧ zz = M 3 i ∧ MM = upd2 M 3 i v) ∨ (¬ ((0 ≤ i ∧ i < M 1 0) ∧ 0 ≤ v ∧ v ≤ 6) ∧ zz = -1 ∧ MM = M))
set_option maxRecDepth 100000 in
set_option maxHeartbeats 4000000 in
theorem c_X10_slope {l : Launch} {G : va_G} {ad : Nat → Nat} {CA : Nat → ClassId} {nt : Nat} (hnt : 6 ≤ nt) (i : Int) (hi9 : in32 i) (v : Int) (hv9 : in32 v) (M : Mem) (hKI : KI M) : Mt l yX10_slope cX10_slope 3 (some .int) 1 23 G ad CA nt LyK [.ref (ad 0), .int (iN i), .int (iN v)] M (P_X10_slope i v M) := by
  refine Mt.of (by decide) (Nat.le_of_ble_eq_true rfl) (fun p e s m args below meth c hx hb hr hml hts hown hlocks hnm hW ls hl => ?_)
  have hl : lv_has ls 3 [(0, .ref (ad 0)), (1, .int (iN i)), (2, .int (iN v))] := hl
  have hnt4 : 4 ≤ nt := by omega
  obtain ⟨H, hH⟩ : ∃ z, z = s.heap := ⟨_, rfl⟩
  obtain ⟨locs, hlo⟩ : ∃ z : List Loc, z = [] := ⟨_, rfl⟩
  rw [← hH, ← hlo] at hW ⊢
  have hI := hKI.now
  have hm := hKI.min
  have hc := hI.c
  have hk := hI.k2
  have hT := hKI.told
  have hmn : fld M 1 46 ≤ 1000 := by omega
  refine lv_aload_n hx hb dX10_slope_0 rfl (lv_at hl 0 rfl) ?_
  refine rw_getR hx hb hts hown hW 0 lk_0 0 1 rfl fX10_10 dX10_slope_1 ?_
  refine lv_iload_n hx hb dX10_slope_4 rfl (lv_at hl 1 rfl) ?_
  refine rw_callV hx hb hml hts hown hW ⟨Nat.le_refl 0, Nat.le_refl 0⟩ [.int (iN i)] 1 fk_1.1 rfl (c_X0_hasCell (l := l) (G := G) (ad := ad) (CA := CA) (nt := nt) 1 fk_1 i (by omega) M hc) kX10_129 rfl ⟨Nat.le_of_ble_eq_true rfl, Nat.le_of_ble_eq_true rfl⟩ hl.1 rfl (Nat.le_of_ble_eq_true rfl) dX10_slope_5 (fun v1 M2 H locs hp3 hW => ?_)
  obtain ⟨a4, rfl, hp3, hp3m⟩ := hp3
  rw [hp3m] at hW
  rcases hp3 with ⟨rfl, hp3⟩ | ⟨rfl, hp3⟩
  · refine rw_stk (st' := [.int (iN 1)]) rfl ?_
    refine rw_if_eq (tgt := 36) hx hb dX10_slope_8 (by decide) (by decide) (fun c => absurd c (by decide)) (fun _ => ?_)
    refine lv_iload_n hx hb dX10_slope_11 rfl (lv_at hl 2 rfl) ?_
    refine rw_iconst hx hb dX10_slope_12 ?_
    refine rw_bipush hx hb dX10_slope_13 (by decide) ?_
    refine rw_callS hx hb hml hts hown hW ⟨Nat.le_refl 0, Nat.le_refl 0⟩ [.int (iN v), .int (iN 0), .int (iN 6)] (c_X10_within (l := l) (G := G) (ad := ad) (CA := CA) (nt := nt) v 0 6 (by omega) (by omega) (by omega) M) kX10_81 rfl ⟨Nat.le_of_ble_eq_true rfl, Nat.le_of_ble_eq_true rfl⟩ hl.1 rfl (Nat.le_of_ble_eq_true rfl) dX10_slope_15 (fun v5 M6 H locs hp7 hW => ?_)
    obtain ⟨a8, rfl, hp7, hp7m⟩ := hp7
    rw [hp7m] at hW
    rcases hp7 with ⟨rfl, hp7⟩ | ⟨rfl, hp7⟩
    · refine rw_stk (st' := [.int (iN 1)]) rfl ?_
      refine rw_if_eq (tgt := 36) hx hb dX10_slope_18 (by decide) (by decide) (fun c => absurd c (by decide)) (fun _ => ?_)
      refine lv_aload_n hx hb dX10_slope_21 rfl (lv_at hl 0 rfl) ?_
      refine rw_getR hx hb hts hown hW 0 lk_0 0 1 rfl fX10_10 dX10_slope_22 ?_
      refine rw_getR hx hb hts hown hW 1 fk_1.1 6 3 rfl fX10_137 dX10_slope_25 ?_
      refine lv_iload_n hx hb dX10_slope_28 rfl (lv_at hl 1 rfl) ?_
      refine lv_iload_n hx hb dX10_slope_29 rfl (lv_at hl 2 rfl) ?_
      refine rw_callS hx hb hml hts hown hW ⟨Nat.le_refl 0, Nat.le_refl 0⟩ [.ref (ad 3), .int (iN i), .int (iN v)] (c_X10_replace (l := l) (G := G) (ad := ad) (CA := CA) (nt := nt) (by omega) 3 9 (by omega) fk_1.2.2.1 i v (by omega) M) kX10_156 rfl ⟨Nat.le_of_ble_eq_true rfl, Nat.le_of_ble_eq_true rfl⟩ hl.1 rfl (Nat.le_of_ble_eq_true rfl) dX10_slope_30 (fun v9 M10 H locs hp11 hW => ?_)
      obtain ⟨_, rfl, rfl, hM10⟩ := hp11
      refine rw_stk (st' := [.int (iN (M 3 i))]) rfl ?_
      refine lv_goto (tgt := 37) hx hb dX10_slope_33 (by decide) ?_
      refine rw_iret hx hb hr hlocks hW dX10_slope_37 (⟨M 3 i, rfl, ?_⟩)
      refine Or.inl ⟨by omega, rfl, ?_⟩
      rw [hM10]
    · refine rw_stk (st' := [.int (iN 0)]) rfl ?_
      refine rw_if_eq (tgt := 36) hx hb dX10_slope_18 (by decide) (by decide) (fun _ => ?_) (fun c => absurd (by decide) c)
      refine rw_iconst hx hb dX10_slope_36 ?_
      refine rw_iret hx hb hr hlocks hW dX10_slope_37 (⟨(-1), rfl, ?_⟩)
      exact Or.inr ⟨by omega, rfl, rfl⟩
  · refine rw_stk (st' := [.int (iN 0)]) rfl ?_
    refine rw_if_eq (tgt := 36) hx hb dX10_slope_8 (by decide) (by decide) (fun _ => ?_) (fun c => absurd (by decide) c)
    refine rw_iconst hx hb dX10_slope_36 ?_
    refine rw_iret hx hb hr hlocks hW dX10_slope_37 (⟨(-1), rfl, ?_⟩)
    exact Or.inr ⟨by omega, rfl, rfl⟩
abbrev P_X10_hedge (i : Int) (v : Int) (M : Mem) : Option Value → Mem → Prop := oI (fun zz MM => (((0 ≤ i ∧ i < M 1 0) ∧ 0 ≤ v ∧ v ≤ 9) ∧ zz = M 4 i ∧ MM = upd2 M 4 i v) ∨ (¬ ((0 ≤ i ∧ i < M 1 0) ∧ 0 ≤ v ∧ v ≤ 9) ∧ zz = -1 ∧ MM = M))
set_option maxRecDepth 100000 in
set_option maxHeartbeats 4000000 in
theorem c_X10_hedge {l : Launch} {G : va_G} {ad : Nat → Nat} {CA : Nat → ClassId} {nt : Nat} (hnt : 6 ≤ nt) (i : Int) (hi9 : in32 i) (v : Int) (hv9 : in32 v) (M : Mem) (hKI : KI M) : Mt l yX10_hedge cX10_hedge 3 (some .int) 1 23 G ad CA nt LyK [.ref (ad 0), .int (iN i), .int (iN v)] M (P_X10_hedge i v M) := by
  refine Mt.of (by decide) (Nat.le_of_ble_eq_true rfl) (fun p e s m args below meth c hx hb hr hml hts hown hlocks hnm hW ls hl => ?_)
  have hl : lv_has ls 3 [(0, .ref (ad 0)), (1, .int (iN i)), (2, .int (iN v))] := hl
  have hnt4 : 4 ≤ nt := by omega
  obtain ⟨H, hH⟩ : ∃ z, z = s.heap := ⟨_, rfl⟩
  obtain ⟨locs, hlo⟩ : ∃ z : List Loc, z = [] := ⟨_, rfl⟩
  rw [← hH, ← hlo] at hW ⊢
  have hI := hKI.now
  have hm := hKI.min
  have hc := hI.c
  have hk := hI.k2
  have hT := hKI.told
  have hmn : fld M 1 46 ≤ 1000 := by omega
  refine lv_aload_n hx hb dX10_hedge_0 rfl (lv_at hl 0 rfl) ?_
  refine rw_getR hx hb hts hown hW 0 lk_0 0 1 rfl fX10_10 dX10_hedge_1 ?_
  refine lv_iload_n hx hb dX10_hedge_4 rfl (lv_at hl 1 rfl) ?_
  refine rw_callV hx hb hml hts hown hW ⟨Nat.le_refl 0, Nat.le_refl 0⟩ [.int (iN i)] 1 fk_1.1 rfl (c_X0_hasCell (l := l) (G := G) (ad := ad) (CA := CA) (nt := nt) 1 fk_1 i (by omega) M hc) kX10_129 rfl ⟨Nat.le_of_ble_eq_true rfl, Nat.le_of_ble_eq_true rfl⟩ hl.1 rfl (Nat.le_of_ble_eq_true rfl) dX10_hedge_5 (fun v1 M2 H locs hp3 hW => ?_)
  obtain ⟨a4, rfl, hp3, hp3m⟩ := hp3
  rw [hp3m] at hW
  rcases hp3 with ⟨rfl, hp3⟩ | ⟨rfl, hp3⟩
  · refine rw_stk (st' := [.int (iN 1)]) rfl ?_
    refine rw_if_eq (tgt := 36) hx hb dX10_hedge_8 (by decide) (by decide) (fun c => absurd c (by decide)) (fun _ => ?_)
    refine lv_iload_n hx hb dX10_hedge_11 rfl (lv_at hl 2 rfl) ?_
    refine rw_iconst hx hb dX10_hedge_12 ?_
    refine rw_bipush hx hb dX10_hedge_13 (by decide) ?_
    refine rw_callS hx hb hml hts hown hW ⟨Nat.le_refl 0, Nat.le_refl 0⟩ [.int (iN v), .int (iN 0), .int (iN 9)] (c_X10_within (l := l) (G := G) (ad := ad) (CA := CA) (nt := nt) v 0 9 (by omega) (by omega) (by omega) M) kX10_81 rfl ⟨Nat.le_of_ble_eq_true rfl, Nat.le_of_ble_eq_true rfl⟩ hl.1 rfl (Nat.le_of_ble_eq_true rfl) dX10_hedge_15 (fun v5 M6 H locs hp7 hW => ?_)
    obtain ⟨a8, rfl, hp7, hp7m⟩ := hp7
    rw [hp7m] at hW
    rcases hp7 with ⟨rfl, hp7⟩ | ⟨rfl, hp7⟩
    · refine rw_stk (st' := [.int (iN 1)]) rfl ?_
      refine rw_if_eq (tgt := 36) hx hb dX10_hedge_18 (by decide) (by decide) (fun c => absurd c (by decide)) (fun _ => ?_)
      refine lv_aload_n hx hb dX10_hedge_21 rfl (lv_at hl 0 rfl) ?_
      refine rw_getR hx hb hts hown hW 0 lk_0 0 1 rfl fX10_10 dX10_hedge_22 ?_
      refine rw_getR hx hb hts hown hW 1 fk_1.1 7 4 rfl fX10_140 dX10_hedge_25 ?_
      refine lv_iload_n hx hb dX10_hedge_28 rfl (lv_at hl 1 rfl) ?_
      refine lv_iload_n hx hb dX10_hedge_29 rfl (lv_at hl 2 rfl) ?_
      refine rw_callS hx hb hml hts hown hW ⟨Nat.le_refl 0, Nat.le_refl 0⟩ [.ref (ad 4), .int (iN i), .int (iN v)] (c_X10_replace (l := l) (G := G) (ad := ad) (CA := CA) (nt := nt) (by omega) 4 9 (by omega) fk_1.2.2.2.1 i v (by omega) M) kX10_156 rfl ⟨Nat.le_of_ble_eq_true rfl, Nat.le_of_ble_eq_true rfl⟩ hl.1 rfl (Nat.le_of_ble_eq_true rfl) dX10_hedge_30 (fun v9 M10 H locs hp11 hW => ?_)
      obtain ⟨_, rfl, rfl, hM10⟩ := hp11
      refine rw_stk (st' := [.int (iN (M 4 i))]) rfl ?_
      refine lv_goto (tgt := 37) hx hb dX10_hedge_33 (by decide) ?_
      refine rw_iret hx hb hr hlocks hW dX10_hedge_37 (⟨M 4 i, rfl, ?_⟩)
      refine Or.inl ⟨by omega, rfl, ?_⟩
      rw [hM10]
    · refine rw_stk (st' := [.int (iN 0)]) rfl ?_
      refine rw_if_eq (tgt := 36) hx hb dX10_hedge_18 (by decide) (by decide) (fun _ => ?_) (fun c => absurd (by decide) c)
      refine rw_iconst hx hb dX10_hedge_36 ?_
      refine rw_iret hx hb hr hlocks hW dX10_hedge_37 (⟨(-1), rfl, ?_⟩)
      exact Or.inr ⟨by omega, rfl, rfl⟩
  · refine rw_stk (st' := [.int (iN 0)]) rfl ?_
    refine rw_if_eq (tgt := 36) hx hb dX10_hedge_8 (by decide) (by decide) (fun _ => ?_) (fun c => absurd (by decide) c)
    refine rw_iconst hx hb dX10_hedge_36 ?_
    refine rw_iret hx hb hr hlocks hW dX10_hedge_37 (⟨(-1), rfl, ?_⟩)
    exact Or.inr ⟨by omega, rfl, rfl⟩
abbrev P_X10_fool (sx : Int) (v : Int) (M : Mem) : Option Value → Mem → Prop := oI (fun zz MM => (((sx = 0 ∨ sx = 1) ∧ 0 ≤ v ∧ v ≤ 5) ∧ zz = sdK M sx 5 ∧ MM = upd2 M (sdC sx) 2 v) ∨ (¬ ((sx = 0 ∨ sx = 1) ∧ 0 ≤ v ∧ v ≤ 5) ∧ zz = -1 ∧ MM = M))
set_option maxRecDepth 100000 in
set_option maxHeartbeats 4000000 in
theorem c_X10_fool {l : Launch} {G : va_G} {ad : Nat → Nat} {CA : Nat → ClassId} {nt : Nat} (hnt : 6 ≤ nt) (sx : Int) (hsx9 : in32 sx) (v : Int) (hv9 : in32 v) (M : Mem) : Mt l yX10_fool cX10_fool 5 (some .int) 1 22 G ad CA nt LyK [.ref (ad 0), .int (iN sx), .int (iN v)] M (P_X10_fool sx v M) := by
  refine Mt.of (by decide) (Nat.le_of_ble_eq_true rfl) (fun p e s m args below meth c hx hb hr hml hts hown hlocks hnm hW ls hl => ?_)
  have hl : lv_has ls 5 [(0, .ref (ad 0)), (1, .int (iN sx)), (2, .int (iN v))] := hl
  have hnt4 : 4 ≤ nt := by omega
  obtain ⟨H, hH⟩ : ∃ z, z = s.heap := ⟨_, rfl⟩
  obtain ⟨locs, hlo⟩ : ∃ z : List Loc, z = [] := ⟨_, rfl⟩
  rw [← hH, ← hlo] at hW ⊢
  refine lv_iload_n hx hb dX10_fool_0 rfl (lv_at hl 1 rfl) ?_
  refine rw_callS hx hb hml hts hown hW ⟨Nat.le_refl 0, Nat.le_refl 0⟩ [.int (iN sx)] (c_X10_isSide (l := l) (G := G) (ad := ad) (CA := CA) (nt := nt) sx (by omega) M) kX10_143 rfl ⟨Nat.le_of_ble_eq_true rfl, Nat.le_of_ble_eq_true rfl⟩ hl.1 rfl (Nat.le_of_ble_eq_true rfl) dX10_fool_1 (fun v1 M2 H locs hp3 hW => ?_)
  obtain ⟨a4, rfl, hp3, hp3m⟩ := hp3
  rw [hp3m] at hW
  rcases hp3 with ⟨rfl, hp3⟩ | ⟨rfl, hp3⟩
  · rcases hp3 with rfl | rfl
    · refine rw_stk (st' := [.int (iN 1)]) rfl ?_
      refine rw_if_eq (tgt := 16) hx hb dX10_fool_4 (by decide) (by decide) (fun c => absurd c (by decide)) (fun _ => ?_)
      refine lv_iload_n hx hb dX10_fool_7 rfl (lv_at hl 2 rfl) ?_
      refine rw_iconst hx hb dX10_fool_8 ?_
      refine rw_iconst hx hb dX10_fool_9 ?_
      refine rw_callS hx hb hml hts hown hW ⟨Nat.le_refl 0, Nat.le_refl 0⟩ [.int (iN v), .int (iN 0), .int (iN 5)] (c_X10_within (l := l) (G := G) (ad := ad) (CA := CA) (nt := nt) v 0 5 (by omega) (by omega) (by omega) M) kX10_81 rfl ⟨Nat.le_of_ble_eq_true rfl, Nat.le_of_ble_eq_true rfl⟩ hl.1 rfl (Nat.le_of_ble_eq_true rfl) dX10_fool_10 (fun v5 M6 H locs hp7 hW => ?_)
      obtain ⟨a8, rfl, hp7, hp7m⟩ := hp7
      rw [hp7m] at hW
      rcases hp7 with ⟨rfl, hp7⟩ | ⟨rfl, hp7⟩
      · refine rw_stk (st' := [.int (iN 1)]) rfl ?_
        refine rw_if_ne (tgt := 18) hx hb dX10_fool_13 (by decide) (by decide) (fun _ => ?_) (fun c => absurd c (by decide))
        refine lv_aload_n hx hb dX10_fool_18 rfl (lv_at hl 0 rfl) ?_
        refine rw_getR hx hb hts hown hW 0 lk_0 0 1 rfl fX10_10 dX10_fool_19 ?_
        refine lv_iload_n hx hb dX10_fool_22 rfl (lv_at hl 1 rfl) ?_
        refine rw_callV hx hb hml hts hown hW ⟨Nat.le_refl 0, Nat.le_refl 0⟩ [.int (iN 0)] 1 fk_1.1 rfl (c_X0_sideOf (l := l) (G := G) (ad := ad) (CA := CA) (nt := nt) 1 fk_1 0 (by omega) M) kX10_146 rfl ⟨Nat.le_of_ble_eq_true rfl, Nat.le_of_ble_eq_true rfl⟩ hl.1 rfl (Nat.le_of_ble_eq_true rfl) dX10_fool_23 (fun v9 M10 H locs hp11 hW => ?_)
        obtain ⟨_, rfl, rfl, hp11⟩ := hp11
        rw [hp11] at hW
        rw [if_pos rfl]
        refine rw_stk (st' := [.ref (ad 5)]) rfl ?_
        refine lv_astore_n (lv' := [(3, .ref (ad 5)), (0, .ref (ad 0)), (1, .int (iN 0)), (2, .int (iN v))]) hx hb dX10_fool_26 rfl hl (by decide) rfl (fun ls hl => ?_)
        refine lv_aload_n hx hb dX10_fool_27 rfl (lv_at hl 0 rfl) ?_
        refine rw_getI hx hb hts hown hW 5 fk_1.2.2.2.2.1.1 2 2 rfl rfl fX10_160 dX10_fool_28 (v := (M 5 2)) rfl ?_
        refine lv_istore (lv' := [(4, .int (iN (M 5 2))), (3, .ref (ad 5)), (0, .ref (ad 0)), (1, .int (iN 0)), (2, .int (iN v))]) hx hb dX10_fool_31 hl (by decide) rfl (fun ls hl => ?_)
        refine lv_aload_n hx hb dX10_fool_33 rfl (lv_at hl 1 rfl) ?_
        refine lv_iload_n hx hb dX10_fool_34 rfl (lv_at hl 4 rfl) ?_
        refine rw_putI hx hb hts hown hW 5 fk_1.2.2.2.2.1.1 2 2 rfl rfl qX10_160 (v := v) dX10_fool_35 (fun H locs hW => ?_)
        obtain ⟨M12, hM12⟩ : ∃ z, z = upd2 M 5 2 v := ⟨_, rfl⟩
        rw [← hM12] at hW
        refine lv_iload hx hb dX10_fool_38 (lv_at hl 0 rfl) ?_
        refine rw_iret hx hb hr hlocks hW dX10_fool_40 (⟨(M 5 2), rfl, ?_⟩)
        refine Or.inl ⟨by first | omega | (rw [sdK_0]; omega), ?_, ?_⟩
        · rw [sdK_0]; rfl
        · rw [hM12, sdC_0]
      · refine rw_stk (st' := [.int (iN 0)]) rfl ?_
        refine rw_if_ne (tgt := 18) hx hb dX10_fool_13 (by decide) (by decide) (fun c => absurd c (by decide)) (fun _ => ?_)
        refine rw_iconst hx hb dX10_fool_16 ?_
        refine rw_iret hx hb hr hlocks hW dX10_fool_17 (⟨(-1), rfl, ?_⟩)
        exact Or.inr ⟨by first | omega | (rw [sdK_0]; omega), rfl, rfl⟩
    · refine rw_stk (st' := [.int (iN 1)]) rfl ?_
      refine rw_if_eq (tgt := 16) hx hb dX10_fool_4 (by decide) (by decide) (fun c => absurd c (by decide)) (fun _ => ?_)
      refine lv_iload_n hx hb dX10_fool_7 rfl (lv_at hl 2 rfl) ?_
      refine rw_iconst hx hb dX10_fool_8 ?_
      refine rw_iconst hx hb dX10_fool_9 ?_
      refine rw_callS hx hb hml hts hown hW ⟨Nat.le_refl 0, Nat.le_refl 0⟩ [.int (iN v), .int (iN 0), .int (iN 5)] (c_X10_within (l := l) (G := G) (ad := ad) (CA := CA) (nt := nt) v 0 5 (by omega) (by omega) (by omega) M) kX10_81 rfl ⟨Nat.le_of_ble_eq_true rfl, Nat.le_of_ble_eq_true rfl⟩ hl.1 rfl (Nat.le_of_ble_eq_true rfl) dX10_fool_10 (fun v13 M14 H locs hp15 hW => ?_)
      obtain ⟨a16, rfl, hp15, hp15m⟩ := hp15
      rw [hp15m] at hW
      rcases hp15 with ⟨rfl, hp15⟩ | ⟨rfl, hp15⟩
      · refine rw_stk (st' := [.int (iN 1)]) rfl ?_
        refine rw_if_ne (tgt := 18) hx hb dX10_fool_13 (by decide) (by decide) (fun _ => ?_) (fun c => absurd c (by decide))
        refine lv_aload_n hx hb dX10_fool_18 rfl (lv_at hl 0 rfl) ?_
        refine rw_getR hx hb hts hown hW 0 lk_0 0 1 rfl fX10_10 dX10_fool_19 ?_
        refine lv_iload_n hx hb dX10_fool_22 rfl (lv_at hl 1 rfl) ?_
        refine rw_callV hx hb hml hts hown hW ⟨Nat.le_refl 0, Nat.le_refl 0⟩ [.int (iN 1)] 1 fk_1.1 rfl (c_X0_sideOf (l := l) (G := G) (ad := ad) (CA := CA) (nt := nt) 1 fk_1 1 (by omega) M) kX10_146 rfl ⟨Nat.le_of_ble_eq_true rfl, Nat.le_of_ble_eq_true rfl⟩ hl.1 rfl (Nat.le_of_ble_eq_true rfl) dX10_fool_23 (fun v17 M18 H locs hp19 hW => ?_)
        obtain ⟨_, rfl, rfl, hp19⟩ := hp19
        rw [hp19] at hW
        rw [if_neg (by decide)]
        refine rw_stk (st' := [.ref (ad 7)]) rfl ?_
        refine lv_astore_n (lv' := [(3, .ref (ad 7)), (0, .ref (ad 0)), (1, .int (iN 1)), (2, .int (iN v))]) hx hb dX10_fool_26 rfl hl (by decide) rfl (fun ls hl => ?_)
        refine lv_aload_n hx hb dX10_fool_27 rfl (lv_at hl 0 rfl) ?_
        refine rw_getI hx hb hts hown hW 7 fk_1.2.2.2.2.2.1 2 2 rfl rfl fX10_160 dX10_fool_28 (v := (M 7 2)) rfl ?_
        refine lv_istore (lv' := [(4, .int (iN (M 7 2))), (3, .ref (ad 7)), (0, .ref (ad 0)), (1, .int (iN 1)), (2, .int (iN v))]) hx hb dX10_fool_31 hl (by decide) rfl (fun ls hl => ?_)
        refine lv_aload_n hx hb dX10_fool_33 rfl (lv_at hl 1 rfl) ?_
        refine lv_iload_n hx hb dX10_fool_34 rfl (lv_at hl 4 rfl) ?_
        refine rw_putI hx hb hts hown hW 7 fk_1.2.2.2.2.2.1 2 2 rfl rfl qX10_160 (v := v) dX10_fool_35 (fun H locs hW => ?_)
        obtain ⟨M20, hM20⟩ : ∃ z, z = upd2 M 7 2 v := ⟨_, rfl⟩
        rw [← hM20] at hW
        refine lv_iload hx hb dX10_fool_38 (lv_at hl 0 rfl) ?_
        refine rw_iret hx hb hr hlocks hW dX10_fool_40 (⟨(M 7 2), rfl, ?_⟩)
        refine Or.inl ⟨by first | omega | (rw [sdK_1]; omega), ?_, ?_⟩
        · rw [sdK_1]; rfl
        · rw [hM20, sdC_1]
      · refine rw_stk (st' := [.int (iN 0)]) rfl ?_
        refine rw_if_ne (tgt := 18) hx hb dX10_fool_13 (by decide) (by decide) (fun c => absurd c (by decide)) (fun _ => ?_)
        refine rw_iconst hx hb dX10_fool_16 ?_
        refine rw_iret hx hb hr hlocks hW dX10_fool_17 (⟨(-1), rfl, ?_⟩)
        exact Or.inr ⟨by first | omega | (rw [sdK_1]; omega), rfl, rfl⟩
  · refine rw_stk (st' := [.int (iN 0)]) rfl ?_
    refine rw_if_eq (tgt := 16) hx hb dX10_fool_4 (by decide) (by decide) (fun _ => ?_) (fun c => absurd (by decide) c)
    refine rw_iconst hx hb dX10_fool_16 ?_
    refine rw_iret hx hb hr hlocks hW dX10_fool_17 (⟨(-1), rfl, ?_⟩)
    exact Or.inr ⟨by omega, rfl, rfl⟩
abbrev P_X10_men (sx : Int) (v : Int) (M : Mem) : Option Value → Mem → Prop := oI (fun zz MM => (((sx = 0 ∨ sx = 1) ∧ 0 ≤ v ∧ v ≤ 12 - restS (sdK M sx)) ∧ zz = sdK M sx 0 ∧ MM = upd2 M (sdC sx) 0 v) ∨ (¬ ((sx = 0 ∨ sx = 1) ∧ 0 ≤ v ∧ v ≤ 12 - restS (sdK M sx)) ∧ zz = -1 ∧ MM = M))
set_option maxRecDepth 100000 in
set_option maxHeartbeats 4000000 in
theorem c_X10_men {l : Launch} {G : va_G} {ad : Nat → Nat} {CA : Nat → ClassId} {nt : Nat} (hnt : 6 ≤ nt) (sx : Int) (hsx9 : in32 sx) (v : Int) (hv9 : in32 v) (M : Mem) (hKI : KI M) : Mt l yX10_men cX10_men 5 (some .int) 1 22 G ad CA nt LyK [.ref (ad 0), .int (iN sx), .int (iN v)] M (P_X10_men sx v M) := by
  refine Mt.of (by decide) (Nat.le_of_ble_eq_true rfl) (fun p e s m args below meth c hx hb hr hml hts hown hlocks hnm hW ls hl => ?_)
  have hl : lv_has ls 5 [(0, .ref (ad 0)), (1, .int (iN sx)), (2, .int (iN v))] := hl
  have hnt4 : 4 ≤ nt := by omega
  obtain ⟨H, hH⟩ : ∃ z, z = s.heap := ⟨_, rfl⟩
  obtain ⟨locs, hlo⟩ : ∃ z : List Loc, z = [] := ⟨_, rfl⟩
  rw [← hH, ← hlo] at hW ⊢
  have hI := hKI.now
  have hm := hKI.min
  have hc := hI.c
  have hk := hI.k2
  have hT := hKI.told
  have hmn : fld M 1 46 ≤ 1000 := by omega
  have hrs0 : 0 ≤ restS (sd M 5) ∧ restS (sd M 5) ≤ 12 := restS_rng hI.s0
  have hrs1 : 0 ≤ restS (sd M 7) ∧ restS (sd M 7) ≤ 12 := restS_rng hI.s1
  refine lv_iload_n hx hb dX10_men_0 rfl (lv_at hl 1 rfl) ?_
  refine rw_callS hx hb hml hts hown hW ⟨Nat.le_refl 0, Nat.le_refl 0⟩ [.int (iN sx)] (c_X10_isSide (l := l) (G := G) (ad := ad) (CA := CA) (nt := nt) sx (by omega) M) kX10_143 rfl ⟨Nat.le_of_ble_eq_true rfl, Nat.le_of_ble_eq_true rfl⟩ hl.1 rfl (Nat.le_of_ble_eq_true rfl) dX10_men_1 (fun v1 M2 H locs hp3 hW => ?_)
  obtain ⟨a4, rfl, hp3, hp3m⟩ := hp3
  rw [hp3m] at hW
  rcases hp3 with ⟨rfl, hp3⟩ | ⟨rfl, hp3⟩
  · rcases hp3 with rfl | rfl
    · refine rw_stk (st' := [.int (iN 1)]) rfl ?_
      refine rw_if_eq (tgt := 29) hx hb dX10_men_4 (by decide) (by decide) (fun c => absurd c (by decide)) (fun _ => ?_)
      refine lv_iload_n hx hb dX10_men_7 rfl (lv_at hl 2 rfl) ?_
      refine rw_iconst hx hb dX10_men_8 ?_
      refine rw_bipush hx hb dX10_men_9 (by decide) ?_
      refine lv_aload_n hx hb dX10_men_11 rfl (lv_at hl 0 rfl) ?_
      refine rw_getR hx hb hts hown hW 0 lk_0 0 1 rfl fX10_10 dX10_men_12 ?_
      refine lv_iload_n hx hb dX10_men_15 rfl (lv_at hl 1 rfl) ?_
      refine rw_callV hx hb hml hts hown hW ⟨Nat.le_refl 0, Nat.le_refl 0⟩ [.int (iN 0)] 1 fk_1.1 rfl (c_X0_sideOf (l := l) (G := G) (ad := ad) (CA := CA) (nt := nt) 1 fk_1 0 (by omega) M) kX10_146 rfl ⟨Nat.le_of_ble_eq_true rfl, Nat.le_of_ble_eq_true rfl⟩ hl.1 rfl (Nat.le_of_ble_eq_true rfl) dX10_men_16 (fun v5 M6 H locs hp7 hW => ?_)
      obtain ⟨_, rfl, rfl, hp7⟩ := hp7
      rw [hp7] at hW
      rw [if_pos rfl]
      refine rw_stk (st' := [.ref (ad 5), .int (iN 12), .int (iN 0), .int (iN v)]) rfl ?_
      refine rw_callV hx hb hml hts hown hW ⟨Nat.le_refl 0, Nat.le_refl 0⟩ [] 5 fk_1.2.2.2.2.1.1 rfl (c_X6_allResting (l := l) (G := G) (ad := ad) (CA := CA) (nt := nt) (by omega) 5 fk_1.2.2.2.2.1 M) kX10_163 rfl ⟨Nat.le_of_ble_eq_true rfl, Nat.le_of_ble_eq_true rfl⟩ hl.1 rfl (Nat.le_of_ble_eq_true rfl) dX10_men_19 (fun v8 M9 H locs hp10 hW => ?_)
      obtain ⟨_, rfl, rfl, hp10⟩ := hp10
      rw [hp10] at hW
      refine rw_stk (st' := [.int (iN (restS (sd M 5))), .int (iN 12), .int (iN 0), .int (iN v)]) rfl ?_
      refine rw_isub hx hb dX10_men_22 ?_
      refine rw_callS hx hb hml hts hown hW ⟨Nat.le_refl 0, Nat.le_refl 0⟩ [.int (iN v), .int (iN 0), .int (iN (12 - (restS (sd M 5))))] (c_X10_within (l := l) (G := G) (ad := ad) (CA := CA) (nt := nt) v 0 (12 - (restS (sd M 5))) (by omega) (by omega) (by omega) M) kX10_81 rfl ⟨Nat.le_of_ble_eq_true rfl, Nat.le_of_ble_eq_true rfl⟩ hl.1 rfl (Nat.le_of_ble_eq_true rfl) dX10_men_23 (fun v11 M12 H locs hp13 hW => ?_)
      obtain ⟨a14, rfl, hp13, hp13m⟩ := hp13
      rw [hp13m] at hW
      rcases hp13 with ⟨rfl, hp13⟩ | ⟨rfl, hp13⟩
      · refine rw_stk (st' := [.int (iN 1)]) rfl ?_
        refine rw_if_ne (tgt := 31) hx hb dX10_men_26 (by decide) (by decide) (fun _ => ?_) (fun c => absurd c (by decide))
        refine lv_aload_n hx hb dX10_men_31 rfl (lv_at hl 0 rfl) ?_
        refine rw_getR hx hb hts hown hW 0 lk_0 0 1 rfl fX10_10 dX10_men_32 ?_
        refine lv_iload_n hx hb dX10_men_35 rfl (lv_at hl 1 rfl) ?_
        refine rw_callV hx hb hml hts hown hW ⟨Nat.le_refl 0, Nat.le_refl 0⟩ [.int (iN 0)] 1 fk_1.1 rfl (c_X0_sideOf (l := l) (G := G) (ad := ad) (CA := CA) (nt := nt) 1 fk_1 0 (by omega) M) kX10_146 rfl ⟨Nat.le_of_ble_eq_true rfl, Nat.le_of_ble_eq_true rfl⟩ hl.1 rfl (Nat.le_of_ble_eq_true rfl) dX10_men_36 (fun v15 M16 H locs hp17 hW => ?_)
        obtain ⟨_, rfl, rfl, hp17⟩ := hp17
        rw [hp17] at hW
        rw [if_pos rfl]
        refine rw_stk (st' := [.ref (ad 5)]) rfl ?_
        refine lv_astore_n (lv' := [(3, .ref (ad 5)), (0, .ref (ad 0)), (1, .int (iN 0)), (2, .int (iN v))]) hx hb dX10_men_39 rfl hl (by decide) rfl (fun ls hl => ?_)
        refine lv_aload_n hx hb dX10_men_40 rfl (lv_at hl 0 rfl) ?_
        refine rw_getI hx hb hts hown hW 5 fk_1.2.2.2.2.1.1 0 0 rfl rfl fX10_167 dX10_men_41 (v := (M 5 0)) rfl ?_
        refine lv_istore (lv' := [(4, .int (iN (M 5 0))), (3, .ref (ad 5)), (0, .ref (ad 0)), (1, .int (iN 0)), (2, .int (iN v))]) hx hb dX10_men_44 hl (by decide) rfl (fun ls hl => ?_)
        refine lv_aload_n hx hb dX10_men_46 rfl (lv_at hl 1 rfl) ?_
        refine lv_iload_n hx hb dX10_men_47 rfl (lv_at hl 4 rfl) ?_
        refine rw_putI hx hb hts hown hW 5 fk_1.2.2.2.2.1.1 0 0 rfl rfl qX10_167 (v := v) dX10_men_48 (fun H locs hW => ?_)
        obtain ⟨M18, hM18⟩ : ∃ z, z = upd2 M 5 0 v := ⟨_, rfl⟩
        rw [← hM18] at hW
        refine lv_iload hx hb dX10_men_51 (lv_at hl 0 rfl) ?_
        refine rw_iret hx hb hr hlocks hW dX10_men_53 (⟨(M 5 0), rfl, ?_⟩)
        refine Or.inl ⟨by first | omega | (rw [sdK_0]; omega), ?_, ?_⟩
        · rw [sdK_0]; rfl
        · rw [hM18, sdC_0]
      · refine rw_stk (st' := [.int (iN 0)]) rfl ?_
        refine rw_if_ne (tgt := 31) hx hb dX10_men_26 (by decide) (by decide) (fun c => absurd c (by decide)) (fun _ => ?_)
        refine rw_iconst hx hb dX10_men_29 ?_
        refine rw_iret hx hb hr hlocks hW dX10_men_30 (⟨(-1), rfl, ?_⟩)
        exact Or.inr ⟨by first | omega | (rw [sdK_0]; omega), rfl, rfl⟩
    · refine rw_stk (st' := [.int (iN 1)]) rfl ?_
      refine rw_if_eq (tgt := 29) hx hb dX10_men_4 (by decide) (by decide) (fun c => absurd c (by decide)) (fun _ => ?_)
      refine lv_iload_n hx hb dX10_men_7 rfl (lv_at hl 2 rfl) ?_
      refine rw_iconst hx hb dX10_men_8 ?_
      refine rw_bipush hx hb dX10_men_9 (by decide) ?_
      refine lv_aload_n hx hb dX10_men_11 rfl (lv_at hl 0 rfl) ?_
      refine rw_getR hx hb hts hown hW 0 lk_0 0 1 rfl fX10_10 dX10_men_12 ?_
      refine lv_iload_n hx hb dX10_men_15 rfl (lv_at hl 1 rfl) ?_
      refine rw_callV hx hb hml hts hown hW ⟨Nat.le_refl 0, Nat.le_refl 0⟩ [.int (iN 1)] 1 fk_1.1 rfl (c_X0_sideOf (l := l) (G := G) (ad := ad) (CA := CA) (nt := nt) 1 fk_1 1 (by omega) M) kX10_146 rfl ⟨Nat.le_of_ble_eq_true rfl, Nat.le_of_ble_eq_true rfl⟩ hl.1 rfl (Nat.le_of_ble_eq_true rfl) dX10_men_16 (fun v19 M20 H locs hp21 hW => ?_)
      obtain ⟨_, rfl, rfl, hp21⟩ := hp21
      rw [hp21] at hW
      rw [if_neg (by decide)]
      refine rw_stk (st' := [.ref (ad 7), .int (iN 12), .int (iN 0), .int (iN v)]) rfl ?_
      refine rw_callV hx hb hml hts hown hW ⟨Nat.le_refl 0, Nat.le_refl 0⟩ [] 7 fk_1.2.2.2.2.2.1 rfl (c_X6_allResting (l := l) (G := G) (ad := ad) (CA := CA) (nt := nt) (by omega) 7 fk_1.2.2.2.2.2 M) kX10_163 rfl ⟨Nat.le_of_ble_eq_true rfl, Nat.le_of_ble_eq_true rfl⟩ hl.1 rfl (Nat.le_of_ble_eq_true rfl) dX10_men_19 (fun v22 M23 H locs hp24 hW => ?_)
      obtain ⟨_, rfl, rfl, hp24⟩ := hp24
      rw [hp24] at hW
      refine rw_stk (st' := [.int (iN (restS (sd M 7))), .int (iN 12), .int (iN 0), .int (iN v)]) rfl ?_
      refine rw_isub hx hb dX10_men_22 ?_
      refine rw_callS hx hb hml hts hown hW ⟨Nat.le_refl 0, Nat.le_refl 0⟩ [.int (iN v), .int (iN 0), .int (iN (12 - (restS (sd M 7))))] (c_X10_within (l := l) (G := G) (ad := ad) (CA := CA) (nt := nt) v 0 (12 - (restS (sd M 7))) (by omega) (by omega) (by omega) M) kX10_81 rfl ⟨Nat.le_of_ble_eq_true rfl, Nat.le_of_ble_eq_true rfl⟩ hl.1 rfl (Nat.le_of_ble_eq_true rfl) dX10_men_23 (fun v25 M26 H locs hp27 hW => ?_)
      obtain ⟨a28, rfl, hp27, hp27m⟩ := hp27
      rw [hp27m] at hW
      rcases hp27 with ⟨rfl, hp27⟩ | ⟨rfl, hp27⟩
      · refine rw_stk (st' := [.int (iN 1)]) rfl ?_
        refine rw_if_ne (tgt := 31) hx hb dX10_men_26 (by decide) (by decide) (fun _ => ?_) (fun c => absurd c (by decide))
        refine lv_aload_n hx hb dX10_men_31 rfl (lv_at hl 0 rfl) ?_
        refine rw_getR hx hb hts hown hW 0 lk_0 0 1 rfl fX10_10 dX10_men_32 ?_
        refine lv_iload_n hx hb dX10_men_35 rfl (lv_at hl 1 rfl) ?_
        refine rw_callV hx hb hml hts hown hW ⟨Nat.le_refl 0, Nat.le_refl 0⟩ [.int (iN 1)] 1 fk_1.1 rfl (c_X0_sideOf (l := l) (G := G) (ad := ad) (CA := CA) (nt := nt) 1 fk_1 1 (by omega) M) kX10_146 rfl ⟨Nat.le_of_ble_eq_true rfl, Nat.le_of_ble_eq_true rfl⟩ hl.1 rfl (Nat.le_of_ble_eq_true rfl) dX10_men_36 (fun v29 M30 H locs hp31 hW => ?_)
        obtain ⟨_, rfl, rfl, hp31⟩ := hp31
        rw [hp31] at hW
        rw [if_neg (by decide)]
        refine rw_stk (st' := [.ref (ad 7)]) rfl ?_
        refine lv_astore_n (lv' := [(3, .ref (ad 7)), (0, .ref (ad 0)), (1, .int (iN 1)), (2, .int (iN v))]) hx hb dX10_men_39 rfl hl (by decide) rfl (fun ls hl => ?_)
        refine lv_aload_n hx hb dX10_men_40 rfl (lv_at hl 0 rfl) ?_
        refine rw_getI hx hb hts hown hW 7 fk_1.2.2.2.2.2.1 0 0 rfl rfl fX10_167 dX10_men_41 (v := (M 7 0)) rfl ?_
        refine lv_istore (lv' := [(4, .int (iN (M 7 0))), (3, .ref (ad 7)), (0, .ref (ad 0)), (1, .int (iN 1)), (2, .int (iN v))]) hx hb dX10_men_44 hl (by decide) rfl (fun ls hl => ?_)
        refine lv_aload_n hx hb dX10_men_46 rfl (lv_at hl 1 rfl) ?_
        refine lv_iload_n hx hb dX10_men_47 rfl (lv_at hl 4 rfl) ?_
        refine rw_putI hx hb hts hown hW 7 fk_1.2.2.2.2.2.1 0 0 rfl rfl qX10_167 (v := v) dX10_men_48 (fun H locs hW => ?_)
        obtain ⟨M32, hM32⟩ : ∃ z, z = upd2 M 7 0 v := ⟨_, rfl⟩
        rw [← hM32] at hW
        refine lv_iload hx hb dX10_men_51 (lv_at hl 0 rfl) ?_
        refine rw_iret hx hb hr hlocks hW dX10_men_53 (⟨(M 7 0), rfl, ?_⟩)
        refine Or.inl ⟨by first | omega | (rw [sdK_1]; omega), ?_, ?_⟩
        · rw [sdK_1]; rfl
        · rw [hM32, sdC_1]
      · refine rw_stk (st' := [.int (iN 0)]) rfl ?_
        refine rw_if_ne (tgt := 31) hx hb dX10_men_26 (by decide) (by decide) (fun c => absurd c (by decide)) (fun _ => ?_)
        refine rw_iconst hx hb dX10_men_29 ?_
        refine rw_iret hx hb hr hlocks hW dX10_men_30 (⟨(-1), rfl, ?_⟩)
        exact Or.inr ⟨by first | omega | (rw [sdK_1]; omega), rfl, rfl⟩
  · refine rw_stk (st' := [.int (iN 0)]) rfl ?_
    refine rw_if_eq (tgt := 29) hx hb dX10_men_4 (by decide) (by decide) (fun _ => ?_) (fun c => absurd (by decide) c)
    refine rw_iconst hx hb dX10_men_29 ?_
    refine rw_iret hx hb hr hlocks hW dX10_men_30 (⟨(-1), rfl, ?_⟩)
    exact Or.inr ⟨by omega, rfl, rfl⟩
abbrev P_X10_captain (sx : Int) (kd : Int) (v : Int) (M : Mem) : Option Value → Mem → Prop := oI (fun zz MM => (((sx = 0 ∨ sx = 1) ∧ (0 ≤ kd ∧ kd ≤ 4) ∧ 0 ≤ v ∧ v ≤ 12) ∧ zz = sdK M sx 6 ∧ MM = upd2 (upd2 M (sdC sx) 3 kd) (sdC sx) 4 v) ∨ (¬ ((sx = 0 ∨ sx = 1) ∧ (0 ≤ kd ∧ kd ≤ 4) ∧ 0 ≤ v ∧ v ≤ 12) ∧ zz = -1 ∧ MM = M))
set_option maxRecDepth 100000 in
set_option maxHeartbeats 4000000 in
theorem c_X10_captain {l : Launch} {G : va_G} {ad : Nat → Nat} {CA : Nat → ClassId} {nt : Nat} (hnt : 6 ≤ nt) (sx : Int) (hsx9 : in32 sx) (kd : Int) (hkd9 : in32 kd) (v : Int) (hv9 : in32 v) (M : Mem) : Mt l yX10_captain cX10_captain 6 (some .int) 2 42 G ad CA nt LyK [.ref (ad 0), .int (iN sx), .int (iN kd), .int (iN v)] M (P_X10_captain sx kd v M) := by
  refine Mt.of (by decide) (Nat.le_of_ble_eq_true rfl) (fun p e s m args below meth c hx hb hr hml hts hown hlocks hnm hW ls hl => ?_)
  have hl : lv_has ls 6 [(0, .ref (ad 0)), (1, .int (iN sx)), (2, .int (iN kd)), (3, .int (iN v))] := hl
  have hnt4 : 4 ≤ nt := by omega
  obtain ⟨H, hH⟩ : ∃ z, z = s.heap := ⟨_, rfl⟩
  obtain ⟨locs, hlo⟩ : ∃ z : List Loc, z = [] := ⟨_, rfl⟩
  rw [← hH, ← hlo] at hW ⊢
  refine lv_iload_n hx hb dX10_captain_0 rfl (lv_at hl 1 rfl) ?_
  refine rw_callS hx hb hml hts hown hW ⟨Nat.le_refl 0, Nat.le_refl 0⟩ [.int (iN sx)] (c_X10_isSide (l := l) (G := G) (ad := ad) (CA := CA) (nt := nt) sx (by omega) M) kX10_143 rfl ⟨Nat.le_of_ble_eq_true rfl, Nat.le_of_ble_eq_true rfl⟩ hl.1 rfl (Nat.le_of_ble_eq_true rfl) dX10_captain_1 (fun v1 M2 H locs hp3 hW => ?_)
  obtain ⟨a4, rfl, hp3, hp3m⟩ := hp3
  rw [hp3m] at hW
  rcases hp3 with ⟨rfl, hp3⟩ | ⟨rfl, hp3⟩
  · rcases hp3 with rfl | rfl
    · refine rw_stk (st' := [.int (iN 1)]) rfl ?_
      refine rw_if_eq (tgt := 24) hx hb dX10_captain_4 (by decide) (by decide) (fun c => absurd c (by decide)) (fun _ => ?_)
      refine lv_iload_n hx hb dX10_captain_7 rfl (lv_at hl 2 rfl) ?_
      refine rw_callS hx hb hml hts hown hW ⟨Nat.le_refl 0, Nat.le_refl 0⟩ [.int (iN kd)] (c_X10_isKind (l := l) (G := G) (ad := ad) (CA := CA) (nt := nt) kd (by omega) M) kX10_170 rfl ⟨Nat.le_of_ble_eq_true rfl, Nat.le_of_ble_eq_true rfl⟩ hl.1 rfl (Nat.le_of_ble_eq_true rfl) dX10_captain_8 (fun v5 M6 H locs hp7 hW => ?_)
      obtain ⟨a8, rfl, hp7, hp7m⟩ := hp7
      rw [hp7m] at hW
      rcases hp7 with ⟨rfl, hp7⟩ | ⟨rfl, hp7⟩
      · refine rw_stk (st' := [.int (iN 1)]) rfl ?_
        refine rw_if_eq (tgt := 24) hx hb dX10_captain_11 (by decide) (by decide) (fun c => absurd c (by decide)) (fun _ => ?_)
        refine lv_iload_n hx hb dX10_captain_14 rfl (lv_at hl 3 rfl) ?_
        refine rw_iconst hx hb dX10_captain_15 ?_
        refine rw_bipush hx hb dX10_captain_16 (by decide) ?_
        refine rw_callS hx hb hml hts hown hW ⟨Nat.le_refl 0, Nat.le_refl 0⟩ [.int (iN v), .int (iN 0), .int (iN 12)] (c_X10_within (l := l) (G := G) (ad := ad) (CA := CA) (nt := nt) v 0 12 (by omega) (by omega) (by omega) M) kX10_81 rfl ⟨Nat.le_of_ble_eq_true rfl, Nat.le_of_ble_eq_true rfl⟩ hl.1 rfl (Nat.le_of_ble_eq_true rfl) dX10_captain_18 (fun v9 M10 H locs hp11 hW => ?_)
        obtain ⟨a12, rfl, hp11, hp11m⟩ := hp11
        rw [hp11m] at hW
        rcases hp11 with ⟨rfl, hp11⟩ | ⟨rfl, hp11⟩
        · refine rw_stk (st' := [.int (iN 1)]) rfl ?_
          refine rw_if_ne (tgt := 26) hx hb dX10_captain_21 (by decide) (by decide) (fun _ => ?_) (fun c => absurd c (by decide))
          refine lv_aload_n hx hb dX10_captain_26 rfl (lv_at hl 0 rfl) ?_
          refine rw_getR hx hb hts hown hW 0 lk_0 0 1 rfl fX10_10 dX10_captain_27 ?_
          refine lv_iload_n hx hb dX10_captain_30 rfl (lv_at hl 1 rfl) ?_
          refine rw_callV hx hb hml hts hown hW ⟨Nat.le_refl 0, Nat.le_refl 0⟩ [.int (iN 0)] 1 fk_1.1 rfl (c_X0_sideOf (l := l) (G := G) (ad := ad) (CA := CA) (nt := nt) 1 fk_1 0 (by omega) M) kX10_146 rfl ⟨Nat.le_of_ble_eq_true rfl, Nat.le_of_ble_eq_true rfl⟩ hl.1 rfl (Nat.le_of_ble_eq_true rfl) dX10_captain_31 (fun v13 M14 H locs hp15 hW => ?_)
          obtain ⟨_, rfl, rfl, hp15⟩ := hp15
          rw [hp15] at hW
          rw [if_pos rfl]
          refine rw_stk (st' := [.ref (ad 5)]) rfl ?_
          refine lv_astore (lv' := [(4, .ref (ad 5)), (0, .ref (ad 0)), (1, .int (iN 0)), (2, .int (iN kd)), (3, .int (iN v))]) hx hb dX10_captain_34 hl (by decide) rfl (fun ls hl => ?_)
          refine lv_aload hx hb dX10_captain_36 (lv_at hl 0 rfl) ?_
          refine rw_getI hx hb hts hown hW 5 fk_1.2.2.2.2.1.1 3 3 rfl rfl fX10_173 dX10_captain_38 (v := (M 5 3)) rfl ?_
          refine lv_istore (lv' := [(5, .int (iN (M 5 3))), (4, .ref (ad 5)), (0, .ref (ad 0)), (1, .int (iN 0)), (2, .int (iN kd)), (3, .int (iN v))]) hx hb dX10_captain_41 hl (by decide) rfl (fun ls hl => ?_)
          refine lv_aload hx hb dX10_captain_43 (lv_at hl 1 rfl) ?_
          refine lv_iload_n hx hb dX10_captain_45 rfl (lv_at hl 4 rfl) ?_
          refine rw_putI hx hb hts hown hW 5 fk_1.2.2.2.2.1.1 3 3 rfl rfl qX10_173 (v := kd) dX10_captain_46 (fun H locs hW => ?_)
          obtain ⟨M16, hM16⟩ : ∃ z, z = upd2 M 5 3 kd := ⟨_, rfl⟩
          rw [← hM16] at hW
          refine lv_aload hx hb dX10_captain_49 (lv_at hl 1 rfl) ?_
          refine lv_iload_n hx hb dX10_captain_51 rfl (lv_at hl 5 rfl) ?_
          refine rw_putI hx hb hts hown hW 5 fk_1.2.2.2.2.1.1 4 4 rfl rfl qX10_176 (v := v) dX10_captain_52 (fun H locs hW => ?_)
          obtain ⟨M17, hM17⟩ : ∃ z, z = upd2 M16 5 4 v := ⟨_, rfl⟩
          rw [← hM17] at hW
          refine lv_iload hx hb dX10_captain_55 (lv_at hl 0 rfl) ?_
          refine rw_iret hx hb hr hlocks hW dX10_captain_57 (⟨(M 5 3), rfl, ?_⟩)
          refine Or.inl ⟨by first | omega | (rw [sdK_0]; omega), ?_, ?_⟩
          · rw [sdK_0]; rfl
          · rw [hM17, hM16, sdC_0]
        · refine rw_stk (st' := [.int (iN 0)]) rfl ?_
          refine rw_if_ne (tgt := 26) hx hb dX10_captain_21 (by decide) (by decide) (fun c => absurd c (by decide)) (fun _ => ?_)
          refine rw_iconst hx hb dX10_captain_24 ?_
          refine rw_iret hx hb hr hlocks hW dX10_captain_25 (⟨(-1), rfl, ?_⟩)
          exact Or.inr ⟨by first | omega | (rw [sdK_0]; omega), rfl, rfl⟩
      · refine rw_stk (st' := [.int (iN 0)]) rfl ?_
        refine rw_if_eq (tgt := 24) hx hb dX10_captain_11 (by decide) (by decide) (fun _ => ?_) (fun c => absurd (by decide) c)
        refine rw_iconst hx hb dX10_captain_24 ?_
        refine rw_iret hx hb hr hlocks hW dX10_captain_25 (⟨(-1), rfl, ?_⟩)
        exact Or.inr ⟨by first | omega | (rw [sdK_0]; omega), rfl, rfl⟩
    · refine rw_stk (st' := [.int (iN 1)]) rfl ?_
      refine rw_if_eq (tgt := 24) hx hb dX10_captain_4 (by decide) (by decide) (fun c => absurd c (by decide)) (fun _ => ?_)
      refine lv_iload_n hx hb dX10_captain_7 rfl (lv_at hl 2 rfl) ?_
      refine rw_callS hx hb hml hts hown hW ⟨Nat.le_refl 0, Nat.le_refl 0⟩ [.int (iN kd)] (c_X10_isKind (l := l) (G := G) (ad := ad) (CA := CA) (nt := nt) kd (by omega) M) kX10_170 rfl ⟨Nat.le_of_ble_eq_true rfl, Nat.le_of_ble_eq_true rfl⟩ hl.1 rfl (Nat.le_of_ble_eq_true rfl) dX10_captain_8 (fun v18 M19 H locs hp20 hW => ?_)
      obtain ⟨a21, rfl, hp20, hp20m⟩ := hp20
      rw [hp20m] at hW
      rcases hp20 with ⟨rfl, hp20⟩ | ⟨rfl, hp20⟩
      · refine rw_stk (st' := [.int (iN 1)]) rfl ?_
        refine rw_if_eq (tgt := 24) hx hb dX10_captain_11 (by decide) (by decide) (fun c => absurd c (by decide)) (fun _ => ?_)
        refine lv_iload_n hx hb dX10_captain_14 rfl (lv_at hl 3 rfl) ?_
        refine rw_iconst hx hb dX10_captain_15 ?_
        refine rw_bipush hx hb dX10_captain_16 (by decide) ?_
        refine rw_callS hx hb hml hts hown hW ⟨Nat.le_refl 0, Nat.le_refl 0⟩ [.int (iN v), .int (iN 0), .int (iN 12)] (c_X10_within (l := l) (G := G) (ad := ad) (CA := CA) (nt := nt) v 0 12 (by omega) (by omega) (by omega) M) kX10_81 rfl ⟨Nat.le_of_ble_eq_true rfl, Nat.le_of_ble_eq_true rfl⟩ hl.1 rfl (Nat.le_of_ble_eq_true rfl) dX10_captain_18 (fun v22 M23 H locs hp24 hW => ?_)
        obtain ⟨a25, rfl, hp24, hp24m⟩ := hp24
        rw [hp24m] at hW
        rcases hp24 with ⟨rfl, hp24⟩ | ⟨rfl, hp24⟩
        · refine rw_stk (st' := [.int (iN 1)]) rfl ?_
          refine rw_if_ne (tgt := 26) hx hb dX10_captain_21 (by decide) (by decide) (fun _ => ?_) (fun c => absurd c (by decide))
          refine lv_aload_n hx hb dX10_captain_26 rfl (lv_at hl 0 rfl) ?_
          refine rw_getR hx hb hts hown hW 0 lk_0 0 1 rfl fX10_10 dX10_captain_27 ?_
          refine lv_iload_n hx hb dX10_captain_30 rfl (lv_at hl 1 rfl) ?_
          refine rw_callV hx hb hml hts hown hW ⟨Nat.le_refl 0, Nat.le_refl 0⟩ [.int (iN 1)] 1 fk_1.1 rfl (c_X0_sideOf (l := l) (G := G) (ad := ad) (CA := CA) (nt := nt) 1 fk_1 1 (by omega) M) kX10_146 rfl ⟨Nat.le_of_ble_eq_true rfl, Nat.le_of_ble_eq_true rfl⟩ hl.1 rfl (Nat.le_of_ble_eq_true rfl) dX10_captain_31 (fun v26 M27 H locs hp28 hW => ?_)
          obtain ⟨_, rfl, rfl, hp28⟩ := hp28
          rw [hp28] at hW
          rw [if_neg (by decide)]
          refine rw_stk (st' := [.ref (ad 7)]) rfl ?_
          refine lv_astore (lv' := [(4, .ref (ad 7)), (0, .ref (ad 0)), (1, .int (iN 1)), (2, .int (iN kd)), (3, .int (iN v))]) hx hb dX10_captain_34 hl (by decide) rfl (fun ls hl => ?_)
          refine lv_aload hx hb dX10_captain_36 (lv_at hl 0 rfl) ?_
          refine rw_getI hx hb hts hown hW 7 fk_1.2.2.2.2.2.1 3 3 rfl rfl fX10_173 dX10_captain_38 (v := (M 7 3)) rfl ?_
          refine lv_istore (lv' := [(5, .int (iN (M 7 3))), (4, .ref (ad 7)), (0, .ref (ad 0)), (1, .int (iN 1)), (2, .int (iN kd)), (3, .int (iN v))]) hx hb dX10_captain_41 hl (by decide) rfl (fun ls hl => ?_)
          refine lv_aload hx hb dX10_captain_43 (lv_at hl 1 rfl) ?_
          refine lv_iload_n hx hb dX10_captain_45 rfl (lv_at hl 4 rfl) ?_
          refine rw_putI hx hb hts hown hW 7 fk_1.2.2.2.2.2.1 3 3 rfl rfl qX10_173 (v := kd) dX10_captain_46 (fun H locs hW => ?_)
          obtain ⟨M29, hM29⟩ : ∃ z, z = upd2 M 7 3 kd := ⟨_, rfl⟩
          rw [← hM29] at hW
          refine lv_aload hx hb dX10_captain_49 (lv_at hl 1 rfl) ?_
          refine lv_iload_n hx hb dX10_captain_51 rfl (lv_at hl 5 rfl) ?_
          refine rw_putI hx hb hts hown hW 7 fk_1.2.2.2.2.2.1 4 4 rfl rfl qX10_176 (v := v) dX10_captain_52 (fun H locs hW => ?_)
          obtain ⟨M30, hM30⟩ : ∃ z, z = upd2 M29 7 4 v := ⟨_, rfl⟩
          rw [← hM30] at hW
          refine lv_iload hx hb dX10_captain_55 (lv_at hl 0 rfl) ?_
          refine rw_iret hx hb hr hlocks hW dX10_captain_57 (⟨(M 7 3), rfl, ?_⟩)
          refine Or.inl ⟨by first | omega | (rw [sdK_1]; omega), ?_, ?_⟩
          · rw [sdK_1]; rfl
          · rw [hM30, hM29, sdC_1]
        · refine rw_stk (st' := [.int (iN 0)]) rfl ?_
          refine rw_if_ne (tgt := 26) hx hb dX10_captain_21 (by decide) (by decide) (fun c => absurd c (by decide)) (fun _ => ?_)
          refine rw_iconst hx hb dX10_captain_24 ?_
          refine rw_iret hx hb hr hlocks hW dX10_captain_25 (⟨(-1), rfl, ?_⟩)
          exact Or.inr ⟨by first | omega | (rw [sdK_1]; omega), rfl, rfl⟩
      · refine rw_stk (st' := [.int (iN 0)]) rfl ?_
        refine rw_if_eq (tgt := 24) hx hb dX10_captain_11 (by decide) (by decide) (fun _ => ?_) (fun c => absurd (by decide) c)
        refine rw_iconst hx hb dX10_captain_24 ?_
        refine rw_iret hx hb hr hlocks hW dX10_captain_25 (⟨(-1), rfl, ?_⟩)
        exact Or.inr ⟨by first | omega | (rw [sdK_1]; omega), rfl, rfl⟩
  · refine rw_stk (st' := [.int (iN 0)]) rfl ?_
    refine rw_if_eq (tgt := 24) hx hb dX10_captain_4 (by decide) (by decide) (fun _ => ?_) (fun c => absurd (by decide) c)
    refine rw_iconst hx hb dX10_captain_24 ?_
    refine rw_iret hx hb hr hlocks hW dX10_captain_25 (⟨(-1), rfl, ?_⟩)
    exact Or.inr ⟨by omega, rfl, rfl⟩
abbrev P_X10_rest (v : Int) (M : Mem) : Option Value → Mem → Prop := oI (fun zz MM => ((1 ≤ v ∧ v ≤ 4) ∧ zz = M 1 2 ∧ MM = upd2 M 1 2 v) ∨ (¬ (1 ≤ v ∧ v ≤ 4) ∧ zz = -1 ∧ MM = M))
set_option maxRecDepth 100000 in
set_option maxHeartbeats 4000000 in
theorem c_X10_rest {l : Launch} {G : va_G} {ad : Nat → Nat} {CA : Nat → ClassId} {nt : Nat} (hnt : 6 ≤ nt) (v : Int) (hv9 : in32 v) (M : Mem) : Mt l yX10_rest cX10_rest 3 (some .int) 1 22 G ad CA nt LyK [.ref (ad 0), .int (iN v)] M (P_X10_rest v M) := by
  refine Mt.of (by decide) (Nat.le_of_ble_eq_true rfl) (fun p e s m args below meth c hx hb hr hml hts hown hlocks hnm hW ls hl => ?_)
  have hl : lv_has ls 3 [(0, .ref (ad 0)), (1, .int (iN v))] := hl
  have hnt4 : 4 ≤ nt := by omega
  obtain ⟨H, hH⟩ : ∃ z, z = s.heap := ⟨_, rfl⟩
  obtain ⟨locs, hlo⟩ : ∃ z : List Loc, z = [] := ⟨_, rfl⟩
  rw [← hH, ← hlo] at hW ⊢
  refine lv_iload_n hx hb dX10_rest_0 rfl (lv_at hl 1 rfl) ?_
  refine rw_iconst hx hb dX10_rest_1 ?_
  refine rw_iconst hx hb dX10_rest_2 ?_
  refine rw_callS hx hb hml hts hown hW ⟨Nat.le_refl 0, Nat.le_refl 0⟩ [.int (iN v), .int (iN 1), .int (iN 4)] (c_X10_within (l := l) (G := G) (ad := ad) (CA := CA) (nt := nt) v 1 4 (by omega) (by omega) (by omega) M) kX10_81 rfl ⟨Nat.le_of_ble_eq_true rfl, Nat.le_of_ble_eq_true rfl⟩ hl.1 rfl (Nat.le_of_ble_eq_true rfl) dX10_rest_3 (fun v1 M2 H locs hp3 hW => ?_)
  obtain ⟨a4, rfl, hp3, hp3m⟩ := hp3
  rw [hp3m] at hW
  rcases hp3 with ⟨rfl, hp3⟩ | ⟨rfl, hp3⟩
  · refine rw_stk (st' := [.int (iN 1)]) rfl ?_
    refine rw_if_ne (tgt := 11) hx hb dX10_rest_6 (by decide) (by decide) (fun _ => ?_) (fun c => absurd c (by decide))
    refine lv_aload_n hx hb dX10_rest_11 rfl (lv_at hl 0 rfl) ?_
    refine rw_getR hx hb hts hown hW 0 lk_0 0 1 rfl fX10_10 dX10_rest_12 ?_
    refine rw_getI hx hb hts hown hW 1 fk_1.1 2 2 rfl rfl fX10_120 dX10_rest_15 (v := (M 1 2)) rfl ?_
    refine lv_istore_n (lv' := [(2, .int (iN (M 1 2))), (0, .ref (ad 0)), (1, .int (iN v))]) hx hb dX10_rest_18 rfl hl (by decide) rfl (fun ls hl => ?_)
    refine lv_aload_n hx hb dX10_rest_19 rfl (lv_at hl 1 rfl) ?_
    refine rw_getR hx hb hts hown hW 0 lk_0 0 1 rfl fX10_10 dX10_rest_20 ?_
    refine lv_iload_n hx hb dX10_rest_23 rfl (lv_at hl 2 rfl) ?_
    refine rw_putI hx hb hts hown hW 1 fk_1.1 2 2 rfl rfl qX10_120 (v := v) dX10_rest_24 (fun H locs hW => ?_)
    obtain ⟨M5, hM5⟩ : ∃ z, z = upd2 M 1 2 v := ⟨_, rfl⟩
    rw [← hM5] at hW
    refine lv_iload_n hx hb dX10_rest_27 rfl (lv_at hl 0 rfl) ?_
    refine rw_iret hx hb hr hlocks hW dX10_rest_28 (⟨(M 1 2), rfl, ?_⟩)
    refine Or.inl ⟨by omega, rfl, ?_⟩
    rw [hM5]
  · refine rw_stk (st' := [.int (iN 0)]) rfl ?_
    refine rw_if_ne (tgt := 11) hx hb dX10_rest_6 (by decide) (by decide) (fun c => absurd c (by decide)) (fun _ => ?_)
    refine rw_iconst hx hb dX10_rest_9 ?_
    refine rw_iret hx hb hr hlocks hW dX10_rest_10 (⟨(-1), rfl, ?_⟩)
    exact Or.inr ⟨by omega, rfl, rfl⟩
abbrev P_X10_breaks (v : Int) (M : Mem) : Option Value → Mem → Prop := oI (fun zz MM => ((0 ≤ v ∧ v ≤ 7) ∧ zz = M 1 3 ∧ MM = upd2 M 1 3 v) ∨ (¬ (0 ≤ v ∧ v ≤ 7) ∧ zz = -1 ∧ MM = M))
set_option maxRecDepth 100000 in
set_option maxHeartbeats 4000000 in
theorem c_X10_breaks {l : Launch} {G : va_G} {ad : Nat → Nat} {CA : Nat → ClassId} {nt : Nat} (hnt : 6 ≤ nt) (v : Int) (hv9 : in32 v) (M : Mem) : Mt l yX10_breaks cX10_breaks 3 (some .int) 1 22 G ad CA nt LyK [.ref (ad 0), .int (iN v)] M (P_X10_breaks v M) := by
  refine Mt.of (by decide) (Nat.le_of_ble_eq_true rfl) (fun p e s m args below meth c hx hb hr hml hts hown hlocks hnm hW ls hl => ?_)
  have hl : lv_has ls 3 [(0, .ref (ad 0)), (1, .int (iN v))] := hl
  have hnt4 : 4 ≤ nt := by omega
  obtain ⟨H, hH⟩ : ∃ z, z = s.heap := ⟨_, rfl⟩
  obtain ⟨locs, hlo⟩ : ∃ z : List Loc, z = [] := ⟨_, rfl⟩
  rw [← hH, ← hlo] at hW ⊢
  refine lv_iload_n hx hb dX10_breaks_0 rfl (lv_at hl 1 rfl) ?_
  refine rw_iconst hx hb dX10_breaks_1 ?_
  refine rw_bipush hx hb dX10_breaks_2 (by decide) ?_
  refine rw_callS hx hb hml hts hown hW ⟨Nat.le_refl 0, Nat.le_refl 0⟩ [.int (iN v), .int (iN 0), .int (iN 7)] (c_X10_within (l := l) (G := G) (ad := ad) (CA := CA) (nt := nt) v 0 7 (by omega) (by omega) (by omega) M) kX10_81 rfl ⟨Nat.le_of_ble_eq_true rfl, Nat.le_of_ble_eq_true rfl⟩ hl.1 rfl (Nat.le_of_ble_eq_true rfl) dX10_breaks_4 (fun v1 M2 H locs hp3 hW => ?_)
  obtain ⟨a4, rfl, hp3, hp3m⟩ := hp3
  rw [hp3m] at hW
  rcases hp3 with ⟨rfl, hp3⟩ | ⟨rfl, hp3⟩
  · refine rw_stk (st' := [.int (iN 1)]) rfl ?_
    refine rw_if_ne (tgt := 12) hx hb dX10_breaks_7 (by decide) (by decide) (fun _ => ?_) (fun c => absurd c (by decide))
    refine lv_aload_n hx hb dX10_breaks_12 rfl (lv_at hl 0 rfl) ?_
    refine rw_getR hx hb hts hown hW 0 lk_0 0 1 rfl fX10_10 dX10_breaks_13 ?_
    refine rw_getI hx hb hts hown hW 1 fk_1.1 3 3 rfl rfl fX10_123 dX10_breaks_16 (v := (M 1 3)) rfl ?_
    refine lv_istore_n (lv' := [(2, .int (iN (M 1 3))), (0, .ref (ad 0)), (1, .int (iN v))]) hx hb dX10_breaks_19 rfl hl (by decide) rfl (fun ls hl => ?_)
    refine lv_aload_n hx hb dX10_breaks_20 rfl (lv_at hl 1 rfl) ?_
    refine rw_getR hx hb hts hown hW 0 lk_0 0 1 rfl fX10_10 dX10_breaks_21 ?_
    refine lv_iload_n hx hb dX10_breaks_24 rfl (lv_at hl 2 rfl) ?_
    refine rw_putI hx hb hts hown hW 1 fk_1.1 3 3 rfl rfl qX10_123 (v := v) dX10_breaks_25 (fun H locs hW => ?_)
    obtain ⟨M5, hM5⟩ : ∃ z, z = upd2 M 1 3 v := ⟨_, rfl⟩
    rw [← hM5] at hW
    refine lv_iload_n hx hb dX10_breaks_28 rfl (lv_at hl 0 rfl) ?_
    refine rw_iret hx hb hr hlocks hW dX10_breaks_29 (⟨(M 1 3), rfl, ?_⟩)
    refine Or.inl ⟨by omega, rfl, ?_⟩
    rw [hM5]
  · refine rw_stk (st' := [.int (iN 0)]) rfl ?_
    refine rw_if_ne (tgt := 12) hx hb dX10_breaks_7 (by decide) (by decide) (fun c => absurd c (by decide)) (fun _ => ?_)
    refine rw_iconst hx hb dX10_breaks_10 ?_
    refine rw_iret hx hb hr hlocks hW dX10_breaks_11 (⟨(-1), rfl, ?_⟩)
    exact Or.inr ⟨by omega, rfl, rfl⟩
abbrev P_X10_put (i : Int) (M : Mem) : Option Value → Mem → Prop := oI (fun zz MM => ((0 ≤ i ∧ i < M 1 0) ∧ zz = M 1 1 ∧ MM = upd2 M 1 1 i) ∨ (¬ (0 ≤ i ∧ i < M 1 0) ∧ zz = -1 ∧ MM = M))
set_option maxRecDepth 100000 in
set_option maxHeartbeats 4000000 in
theorem c_X10_put {l : Launch} {G : va_G} {ad : Nat → Nat} {CA : Nat → ClassId} {nt : Nat} (hnt : 6 ≤ nt) (i : Int) (hi9 : in32 i) (M : Mem) (hKI : KI M) : Mt l yX10_put cX10_put 3 (some .int) 1 21 G ad CA nt LyK [.ref (ad 0), .int (iN i)] M (P_X10_put i M) := by
  refine Mt.of (by decide) (Nat.le_of_ble_eq_true rfl) (fun p e s m args below meth c hx hb hr hml hts hown hlocks hnm hW ls hl => ?_)
  have hl : lv_has ls 3 [(0, .ref (ad 0)), (1, .int (iN i))] := hl
  have hnt4 : 4 ≤ nt := by omega
  obtain ⟨H, hH⟩ : ∃ z, z = s.heap := ⟨_, rfl⟩
  obtain ⟨locs, hlo⟩ : ∃ z : List Loc, z = [] := ⟨_, rfl⟩
  rw [← hH, ← hlo] at hW ⊢
  have hI := hKI.now
  have hm := hKI.min
  have hc := hI.c
  have hk := hI.k2
  have hT := hKI.told
  have hmn : fld M 1 46 ≤ 1000 := by omega
  refine lv_aload_n hx hb dX10_put_0 rfl (lv_at hl 0 rfl) ?_
  refine rw_getR hx hb hts hown hW 0 lk_0 0 1 rfl fX10_10 dX10_put_1 ?_
  refine lv_iload_n hx hb dX10_put_4 rfl (lv_at hl 1 rfl) ?_
  refine rw_callV hx hb hml hts hown hW ⟨Nat.le_refl 0, Nat.le_refl 0⟩ [.int (iN i)] 1 fk_1.1 rfl (c_X0_hasCell (l := l) (G := G) (ad := ad) (CA := CA) (nt := nt) 1 fk_1 i (by omega) M hc) kX10_129 rfl ⟨Nat.le_of_ble_eq_true rfl, Nat.le_of_ble_eq_true rfl⟩ hl.1 rfl (Nat.le_of_ble_eq_true rfl) dX10_put_5 (fun v1 M2 H locs hp3 hW => ?_)
  obtain ⟨a4, rfl, hp3, hp3m⟩ := hp3
  rw [hp3m] at hW
  rcases hp3 with ⟨rfl, hp3⟩ | ⟨rfl, hp3⟩
  · refine rw_stk (st' := [.int (iN 1)]) rfl ?_
    refine rw_if_ne (tgt := 13) hx hb dX10_put_8 (by decide) (by decide) (fun _ => ?_) (fun c => absurd c (by decide))
    refine lv_aload_n hx hb dX10_put_13 rfl (lv_at hl 0 rfl) ?_
    refine rw_getR hx hb hts hown hW 0 lk_0 0 1 rfl fX10_10 dX10_put_14 ?_
    refine rw_getI hx hb hts hown hW 1 fk_1.1 1 1 rfl rfl fX10_117 dX10_put_17 (v := (M 1 1)) rfl ?_
    refine lv_istore_n (lv' := [(2, .int (iN (M 1 1))), (0, .ref (ad 0)), (1, .int (iN i))]) hx hb dX10_put_20 rfl hl (by decide) rfl (fun ls hl => ?_)
    refine lv_aload_n hx hb dX10_put_21 rfl (lv_at hl 1 rfl) ?_
    refine rw_getR hx hb hts hown hW 0 lk_0 0 1 rfl fX10_10 dX10_put_22 ?_
    refine lv_iload_n hx hb dX10_put_25 rfl (lv_at hl 2 rfl) ?_
    refine rw_putI hx hb hts hown hW 1 fk_1.1 1 1 rfl rfl qX10_117 (v := i) dX10_put_26 (fun H locs hW => ?_)
    obtain ⟨M5, hM5⟩ : ∃ z, z = upd2 M 1 1 i := ⟨_, rfl⟩
    rw [← hM5] at hW
    refine lv_iload_n hx hb dX10_put_29 rfl (lv_at hl 0 rfl) ?_
    refine rw_iret hx hb hr hlocks hW dX10_put_30 (⟨(M 1 1), rfl, ?_⟩)
    refine Or.inl ⟨by omega, rfl, ?_⟩
    rw [hM5]
  · refine rw_stk (st' := [.int (iN 0)]) rfl ?_
    refine rw_if_ne (tgt := 13) hx hb dX10_put_8 (by decide) (by decide) (fun c => absurd c (by decide)) (fun _ => ?_)
    refine rw_iconst hx hb dX10_put_11 ?_
    refine rw_iret hx hb hr hlocks hW dX10_put_12 (⟨(-1), rfl, ?_⟩)
    exact Or.inr ⟨by omega, rfl, rfl⟩
abbrev P_X10_sends (sx : Int) (M : Mem) : Option Value → Mem → Prop := oI (fun zz MM => zz = (if sx = 0 ∨ sx = 1 then (if M 1 0 ≤ M 1 1 then -2 else sentF (fld M 1) sx) else -1) ∧ MM = M)
set_option maxRecDepth 100000 in
set_option maxHeartbeats 4000000 in
theorem c_X10_sends {l : Launch} {G : va_G} {ad : Nat → Nat} {CA : Nat → ClassId} {nt : Nat} (hnt : 6 ≤ nt) (sx : Int) (hsx9 : in32 sx) (M : Mem) (hKI : KI M) : Mt l yX10_sends cX10_sends 2 (some .int) 2 44 G ad CA nt LyK [.ref (ad 0), .int (iN sx)] M (P_X10_sends sx M) := by
  refine Mt.of (by decide) (Nat.le_of_ble_eq_true rfl) (fun p e s m args below meth c hx hb hr hml hts hown hlocks hnm hW ls hl => ?_)
  have hl : lv_has ls 2 [(0, .ref (ad 0)), (1, .int (iN sx))] := hl
  have hnt4 : 4 ≤ nt := by omega
  obtain ⟨H, hH⟩ : ∃ z, z = s.heap := ⟨_, rfl⟩
  obtain ⟨locs, hlo⟩ : ∃ z : List Loc, z = [] := ⟨_, rfl⟩
  rw [← hH, ← hlo] at hW ⊢
  have hI := hKI.now
  have hm := hKI.min
  have hc := hI.c
  have hk := hI.k2
  have hT := hKI.told
  have hmn : fld M 1 46 ≤ 1000 := by omega
  refine lv_iload_n hx hb dX10_sends_0 rfl (lv_at hl 1 rfl) ?_
  refine rw_callS hx hb hml hts hown hW ⟨Nat.le_refl 0, Nat.le_refl 0⟩ [.int (iN sx)] (c_X10_isSide (l := l) (G := G) (ad := ad) (CA := CA) (nt := nt) sx (by omega) M) kX10_143 rfl ⟨Nat.le_of_ble_eq_true rfl, Nat.le_of_ble_eq_true rfl⟩ hl.1 rfl (Nat.le_of_ble_eq_true rfl) dX10_sends_1 (fun v1 M2 H locs hp3 hW => ?_)
  obtain ⟨a4, rfl, hp3, hp3m⟩ := hp3
  rw [hp3m] at hW
  rcases hp3 with ⟨rfl, hp3⟩ | ⟨rfl, hp3⟩
  · rcases hp3 with rfl | rfl
    · refine rw_stk (st' := [.int (iN 1)]) rfl ?_
      refine rw_if_ne (tgt := 9) hx hb dX10_sends_4 (by decide) (by decide) (fun _ => ?_) (fun c => absurd c (by decide))
      refine lv_aload_n hx hb dX10_sends_9 rfl (lv_at hl 0 rfl) ?_
      refine rw_getR hx hb hts hown hW 0 lk_0 0 1 rfl fX10_10 dX10_sends_10 ?_
      refine rw_callV hx hb hml hts hown hW ⟨Nat.le_refl 0, Nat.le_refl 0⟩ [] 1 fk_1.1 rfl (c_X0_isOver (l := l) (G := G) (ad := ad) (CA := CA) (nt := nt) 1 fk_1 M hc hk) kX10_179 rfl ⟨Nat.le_of_ble_eq_true rfl, Nat.le_of_ble_eq_true rfl⟩ hl.1 rfl (Nat.le_of_ble_eq_true rfl) dX10_sends_13 (fun v5 M6 H locs hp7 hW => ?_)
      obtain ⟨a8, rfl, hp7, hp7m⟩ := hp7
      rw [hp7m] at hW
      rcases hp7 with ⟨rfl, hp7⟩ | ⟨rfl, hp7⟩
      · refine rw_stk (st' := [.int (iN 1)]) rfl ?_
        refine rw_if_eq (tgt := 24) hx hb dX10_sends_16 (by decide) (by decide) (fun c => absurd c (by decide)) (fun _ => ?_)
        refine rw_bipush hx hb dX10_sends_19 (by decide) ?_
        refine lv_goto (tgt := 32) hx hb dX10_sends_21 (by decide) ?_
        refine rw_iret hx hb hr hlocks hW dX10_sends_32 (⟨(-2), rfl, ?_⟩)
        refine ⟨?_, rfl⟩
        repeat' split
        all_goals first | rfl | omega
      · refine rw_stk (st' := [.int (iN 0)]) rfl ?_
        refine rw_if_eq (tgt := 24) hx hb dX10_sends_16 (by decide) (by decide) (fun _ => ?_) (fun c => absurd (by decide) c)
        refine lv_aload_n hx hb dX10_sends_24 rfl (lv_at hl 0 rfl) ?_
        refine rw_getR hx hb hts hown hW 0 lk_0 0 1 rfl fX10_10 dX10_sends_25 ?_
        refine lv_iload_n hx hb dX10_sends_28 rfl (lv_at hl 1 rfl) ?_
        refine rw_callV hx hb hml hts hown hW ⟨Nat.le_refl 0, Nat.le_refl 0⟩ [.int (iN 0)] 1 fk_1.1 rfl (c_X0_sentBy (l := l) (G := G) (ad := ad) (CA := CA) (nt := nt) (by omega) 1 fk_1 0 (by omega) M hI) kX10_182 rfl ⟨Nat.le_of_ble_eq_true rfl, Nat.le_of_ble_eq_true rfl⟩ hl.1 rfl (Nat.le_of_ble_eq_true rfl) dX10_sends_29 (fun v9 M10 H locs hp11 hW => ?_)
        obtain ⟨_, rfl, rfl, hp11⟩ := hp11
        rw [hp11] at hW
        refine rw_stk (st' := [.int (iN (sentF (fld M 1) 0))]) rfl ?_
        refine rw_iret hx hb hr hlocks hW dX10_sends_32 (⟨sentF (fld M 1) 0, rfl, ?_⟩)
        refine ⟨?_, rfl⟩
        repeat' split
        all_goals first | rfl | omega
    · refine rw_stk (st' := [.int (iN 1)]) rfl ?_
      refine rw_if_ne (tgt := 9) hx hb dX10_sends_4 (by decide) (by decide) (fun _ => ?_) (fun c => absurd c (by decide))
      refine lv_aload_n hx hb dX10_sends_9 rfl (lv_at hl 0 rfl) ?_
      refine rw_getR hx hb hts hown hW 0 lk_0 0 1 rfl fX10_10 dX10_sends_10 ?_
      refine rw_callV hx hb hml hts hown hW ⟨Nat.le_refl 0, Nat.le_refl 0⟩ [] 1 fk_1.1 rfl (c_X0_isOver (l := l) (G := G) (ad := ad) (CA := CA) (nt := nt) 1 fk_1 M hc hk) kX10_179 rfl ⟨Nat.le_of_ble_eq_true rfl, Nat.le_of_ble_eq_true rfl⟩ hl.1 rfl (Nat.le_of_ble_eq_true rfl) dX10_sends_13 (fun v12 M13 H locs hp14 hW => ?_)
      obtain ⟨a15, rfl, hp14, hp14m⟩ := hp14
      rw [hp14m] at hW
      rcases hp14 with ⟨rfl, hp14⟩ | ⟨rfl, hp14⟩
      · refine rw_stk (st' := [.int (iN 1)]) rfl ?_
        refine rw_if_eq (tgt := 24) hx hb dX10_sends_16 (by decide) (by decide) (fun c => absurd c (by decide)) (fun _ => ?_)
        refine rw_bipush hx hb dX10_sends_19 (by decide) ?_
        refine lv_goto (tgt := 32) hx hb dX10_sends_21 (by decide) ?_
        refine rw_iret hx hb hr hlocks hW dX10_sends_32 (⟨(-2), rfl, ?_⟩)
        refine ⟨?_, rfl⟩
        repeat' split
        all_goals first | rfl | omega
      · refine rw_stk (st' := [.int (iN 0)]) rfl ?_
        refine rw_if_eq (tgt := 24) hx hb dX10_sends_16 (by decide) (by decide) (fun _ => ?_) (fun c => absurd (by decide) c)
        refine lv_aload_n hx hb dX10_sends_24 rfl (lv_at hl 0 rfl) ?_
        refine rw_getR hx hb hts hown hW 0 lk_0 0 1 rfl fX10_10 dX10_sends_25 ?_
        refine lv_iload_n hx hb dX10_sends_28 rfl (lv_at hl 1 rfl) ?_
        refine rw_callV hx hb hml hts hown hW ⟨Nat.le_refl 0, Nat.le_refl 0⟩ [.int (iN 1)] 1 fk_1.1 rfl (c_X0_sentBy (l := l) (G := G) (ad := ad) (CA := CA) (nt := nt) (by omega) 1 fk_1 1 (by omega) M hI) kX10_182 rfl ⟨Nat.le_of_ble_eq_true rfl, Nat.le_of_ble_eq_true rfl⟩ hl.1 rfl (Nat.le_of_ble_eq_true rfl) dX10_sends_29 (fun v16 M17 H locs hp18 hW => ?_)
        obtain ⟨_, rfl, rfl, hp18⟩ := hp18
        rw [hp18] at hW
        refine rw_stk (st' := [.int (iN (sentF (fld M 1) 1))]) rfl ?_
        refine rw_iret hx hb hr hlocks hW dX10_sends_32 (⟨sentF (fld M 1) 1, rfl, ?_⟩)
        refine ⟨?_, rfl⟩
        repeat' split
        all_goals first | rfl | omega
  · refine rw_stk (st' := [.int (iN 0)]) rfl ?_
    refine rw_if_ne (tgt := 9) hx hb dX10_sends_4 (by decide) (by decide) (fun c => absurd c (by decide)) (fun _ => ?_)
    refine rw_iconst hx hb dX10_sends_7 ?_
    refine rw_iret hx hb hr hlocks hW dX10_sends_8 (⟨(-1), rfl, ?_⟩)
    refine ⟨?_, rfl⟩
    repeat' split
    all_goals first | rfl | omega
abbrev P_X10_net (x : Int) (y : Int) (M : Mem) : Option Value → Mem → Prop := oI (fun zz MM => zz = (if (0 ≤ x ∧ x ≤ M 5 0) ∧ 0 ≤ y ∧ y ≤ M 7 0 then (if M 1 0 ≤ M 1 1 then -2 else 100 + netF (fld M 1) x y) else -1) ∧ MM = M)
set_option maxRecDepth 100000 in
set_option maxHeartbeats 4000000 in
theorem c_X10_net {l : Launch} {G : va_G} {ad : Nat → Nat} {CA : Nat → ClassId} {nt : Nat} (hnt : 6 ≤ nt) (x : Int) (hx9 : in32 x) (y : Int) (hy9 : in32 y) (M : Mem) (hKI : KI M) : Mt l yX10_net cX10_net 3 (some .int) 3 58 G ad CA nt LyK [.ref (ad 0), .int (iN x), .int (iN y)] M (P_X10_net x y M) := by
  refine Mt.of (by decide) (Nat.le_of_ble_eq_true rfl) (fun p e s m args below meth c hx hb hr hml hts hown hlocks hnm hW ls hl => ?_)
  have hl : lv_has ls 3 [(0, .ref (ad 0)), (1, .int (iN x)), (2, .int (iN y))] := hl
  have hnt4 : 4 ≤ nt := by omega
  obtain ⟨H, hH⟩ : ∃ z, z = s.heap := ⟨_, rfl⟩
  obtain ⟨locs, hlo⟩ : ∃ z : List Loc, z = [] := ⟨_, rfl⟩
  rw [← hH, ← hlo] at hW ⊢
  have hI := hKI.now
  have hm := hKI.min
  have hc := hI.c
  have hk := hI.k2
  have hT := hKI.told
  have hmn : fld M 1 46 ≤ 1000 := by omega
  have hf0 := hI.s0.f
  have hf1 := hI.s1.f
  refine lv_aload_n hx hb dX10_net_0 rfl (lv_at hl 0 rfl) ?_
  refine rw_getR hx hb hts hown hW 0 lk_0 0 1 rfl fX10_10 dX10_net_1 ?_
  refine lv_iload_n hx hb dX10_net_4 rfl (lv_at hl 1 rfl) ?_
  refine lv_iload_n hx hb dX10_net_5 rfl (lv_at hl 2 rfl) ?_
  refine rw_callV hx hb hml hts hown hW ⟨Nat.le_refl 0, Nat.le_refl 0⟩ [.int (iN x), .int (iN y)] 1 fk_1.1 rfl (c_X0_hasFresh (l := l) (G := G) (ad := ad) (CA := CA) (nt := nt) 1 fk_1 x (by omega) y (by omega) M hI) kX10_185 rfl ⟨Nat.le_of_ble_eq_true rfl, Nat.le_of_ble_eq_true rfl⟩ hl.1 rfl (Nat.le_of_ble_eq_true rfl) dX10_net_6 (fun v1 M2 H locs hp3 hW => ?_)
  obtain ⟨a4, rfl, hp3, hp3m⟩ := hp3
  rw [hp3m] at hW
  rcases hp3 with ⟨rfl, hp3⟩ | ⟨rfl, hp3⟩
  · have hq : (0 ≤ x ∧ x ≤ M 5 0) ∧ (0 ≤ y ∧ y ≤ M 7 0) := hp3
    refine rw_stk (st' := [.int (iN 1)]) rfl ?_
    refine rw_if_ne (tgt := 14) hx hb dX10_net_9 (by decide) (by decide) (fun _ => ?_) (fun c => absurd c (by decide))
    refine lv_aload_n hx hb dX10_net_14 rfl (lv_at hl 0 rfl) ?_
    refine rw_getR hx hb hts hown hW 0 lk_0 0 1 rfl fX10_10 dX10_net_15 ?_
    refine rw_callV hx hb hml hts hown hW ⟨Nat.le_refl 0, Nat.le_refl 0⟩ [] 1 fk_1.1 rfl (c_X0_isOver (l := l) (G := G) (ad := ad) (CA := CA) (nt := nt) 1 fk_1 M hc hk) kX10_179 rfl ⟨Nat.le_of_ble_eq_true rfl, Nat.le_of_ble_eq_true rfl⟩ hl.1 rfl (Nat.le_of_ble_eq_true rfl) dX10_net_18 (fun v5 M6 H locs hp7 hW => ?_)
    obtain ⟨a8, rfl, hp7, hp7m⟩ := hp7
    rw [hp7m] at hW
    rcases hp7 with ⟨rfl, hp7⟩ | ⟨rfl, hp7⟩
    · refine rw_stk (st' := [.int (iN 1)]) rfl ?_
      refine rw_if_eq (tgt := 29) hx hb dX10_net_21 (by decide) (by decide) (fun c => absurd c (by decide)) (fun _ => ?_)
      refine rw_bipush hx hb dX10_net_24 (by decide) ?_
      refine lv_goto (tgt := 41) hx hb dX10_net_26 (by decide) ?_
      refine rw_iret hx hb hr hlocks hW dX10_net_41 (⟨(-2), rfl, ?_⟩)
      refine ⟨?_, rfl⟩
      repeat' split
      all_goals first | rfl | omega
    · refine rw_stk (st' := [.int (iN 0)]) rfl ?_
      refine rw_if_eq (tgt := 29) hx hb dX10_net_21 (by decide) (by decide) (fun _ => ?_) (fun c => absurd (by decide) c)
      refine rw_bipush hx hb dX10_net_29 (by decide) ?_
      refine lv_aload_n hx hb dX10_net_31 rfl (lv_at hl 0 rfl) ?_
      refine rw_getR hx hb hts hown hW 0 lk_0 0 1 rfl fX10_10 dX10_net_32 ?_
      refine lv_iload_n hx hb dX10_net_35 rfl (lv_at hl 1 rfl) ?_
      refine lv_iload_n hx hb dX10_net_36 rfl (lv_at hl 2 rfl) ?_
      refine rw_callV hx hb hml hts hown hW ⟨Nat.le_refl 0, Nat.le_refl 0⟩ [.int (iN x), .int (iN y)] 1 fk_1.1 rfl (c_X0_netOf (l := l) (G := G) (ad := ad) (CA := CA) (nt := nt) (by omega) 1 fk_1 x y (by omega) (by omega) M hI (by omega)) kX10_189 rfl ⟨Nat.le_of_ble_eq_true rfl, Nat.le_of_ble_eq_true rfl⟩ hl.1 rfl (Nat.le_of_ble_eq_true rfl) dX10_net_37 (fun v9 M10 H locs hp11 hW => ?_)
      obtain ⟨_, rfl, rfl, hp11⟩ := hp11
      rw [hp11] at hW
      refine rw_stk (st' := [.int (iN (netF (fld M 1) x y)), .int (iN 100)]) rfl ?_
      refine rw_iadd hx hb dX10_net_40 ?_
      refine rw_iret hx hb hr hlocks hW dX10_net_41 (⟨100 + (netF (fld M 1) x y), rfl, ?_⟩)
      refine ⟨?_, rfl⟩
      repeat' split
      all_goals first | rfl | omega
  · have hq : ¬ ((0 ≤ x ∧ x ≤ M 5 0) ∧ (0 ≤ y ∧ y ≤ M 7 0)) := hp3
    refine rw_stk (st' := [.int (iN 0)]) rfl ?_
    refine rw_if_ne (tgt := 14) hx hb dX10_net_9 (by decide) (by decide) (fun c => absurd c (by decide)) (fun _ => ?_)
    refine rw_iconst hx hb dX10_net_12 ?_
    refine rw_iret hx hb hr hlocks hW dX10_net_13 (⟨(-1), rfl, ?_⟩)
    refine ⟨?_, rfl⟩
    repeat' split
    all_goals first | rfl | omega
abbrev P_X10_go (x : Int) (y : Int) (w : Int) (M : Mem) : Option Value → Mem → Prop := oI (fun zz MM => (refF (fld M 1) x y = 0 ∧ fld MM 1 = passF (fld M 1) x y w ∧ Same M MM 1 8 ∧ zz = passF (fld M 1) x y w 27) ∨ (refF (fld M 1) x y ≠ 0 ∧ MM = M ∧ zz = refF (fld M 1) x y))
set_option maxRecDepth 100000 in
set_option maxHeartbeats 4000000 in
theorem c_X10_go {l : Launch} {G : va_G} {ad : Nat → Nat} {CA : Nat → ClassId} {nt : Nat} (hnt : 6 ≤ nt) (x : Int) (hx9 : in32 x) (y : Int) (hy9 : in32 y) (w : Int) (hw9 : in32 w) (M : Mem) (hKI : KI M) : Mt l yX10_go cX10_go 5 (some .int) 5 105 G ad CA nt LyK [.ref (ad 0), .int (iN x), .int (iN y), .int (iN w)] M (P_X10_go x y w M) := by
  refine Mt.of (by decide) (Nat.le_of_ble_eq_true rfl) (fun p e s m args below meth c hx hb hr hml hts hown hlocks hnm hW ls hl => ?_)
  have hl : lv_has ls 5 [(0, .ref (ad 0)), (1, .int (iN x)), (2, .int (iN y)), (3, .int (iN w))] := hl
  have hnt4 : 4 ≤ nt := by omega
  obtain ⟨H, hH⟩ : ∃ z, z = s.heap := ⟨_, rfl⟩
  obtain ⟨locs, hlo⟩ : ∃ z : List Loc, z = [] := ⟨_, rfl⟩
  rw [← hH, ← hlo] at hW ⊢
  have hI := hKI.now
  have hm := hKI.min
  have hc := hI.c
  have hk := hI.k2
  have hT := hKI.told
  have hmn : fld M 1 46 ≤ 1000 := by omega
  have hrr : -3 ≤ refF (fld M 1) x y ∧ refF (fld M 1) x y ≤ 0 := by unfold refF; split; omega; split; omega; split <;> omega
  refine lv_aload_n hx hb dX10_go_0 rfl (lv_at hl 0 rfl) ?_
  refine rw_getR hx hb hts hown hW 0 lk_0 0 1 rfl fX10_10 dX10_go_1 ?_
  refine lv_iload_n hx hb dX10_go_4 rfl (lv_at hl 1 rfl) ?_
  refine lv_iload_n hx hb dX10_go_5 rfl (lv_at hl 2 rfl) ?_
  refine lv_iload_n hx hb dX10_go_6 rfl (lv_at hl 3 rfl) ?_
  refine rw_callV hx hb hml hts hown hW ⟨Nat.le_refl 0, Nat.le_refl 0⟩ [.int (iN x), .int (iN y), .int (iN w)] 1 fk_1.1 rfl (c_X0_passOrRefuse (l := l) (G := G) (ad := ad) (CA := CA) (nt := nt) (by omega) 1 fk_1 x y (by omega) (by omega) w (by omega) M hI) kX10_193 rfl ⟨Nat.le_of_ble_eq_true rfl, Nat.le_of_ble_eq_true rfl⟩ hl.1 rfl (Nat.le_of_ble_eq_true rfl) dX10_go_7 (fun v1 M2 H locs hp3 hW => ?_)
  obtain ⟨_, rfl, rfl, hM2⟩ := hp3
  refine rw_stk (st' := [.int (iN (refF (fld M 1) x y))]) rfl ?_
  refine lv_istore (lv' := [(4, .int (iN (refF (fld M 1) x y))), (0, .ref (ad 0)), (1, .int (iN x)), (2, .int (iN y)), (3, .int (iN w))]) hx hb dX10_go_10 hl (by decide) rfl (fun ls hl => ?_)
  refine lv_iload hx hb dX10_go_12 (lv_at hl 0 rfl) ?_
  refine rw_if_eq (tgt := 22) hx hb dX10_go_14 (by decide) (by omega) (fun c_14 => ?_) (fun c_14 => ?_)
  · refine lv_aload_n hx hb dX10_go_22 rfl (lv_at hl 1 rfl) ?_
    refine rw_getR hx hb hts hown hW 0 lk_0 0 1 rfl fX10_10 dX10_go_23 ?_
    refine rw_getI hx hb hts hown hW 1 fk_1.1 1 1 rfl rfl fX10_117 dX10_go_26 (v := (M2 1 1)) rfl ?_
    refine rw_iret hx hb hr hlocks hW dX10_go_29 (⟨(M2 1 1), rfl, ?_⟩)
    rcases hM2 with ⟨q1, q2, q3⟩ | ⟨q1, q2⟩ <;> first | (exfalso; omega) | exact Or.inl ⟨q1, q2, q3, by rw [← q2]; rfl⟩ | exact Or.inr ⟨q1, q2, rfl⟩
  · refine lv_iload hx hb dX10_go_17 (lv_at hl 0 rfl) ?_
    refine lv_goto (tgt := 29) hx hb dX10_go_19 (by decide) ?_
    refine rw_iret hx hb hr hlocks hW dX10_go_29 (⟨refF (fld M 1) x y, rfl, ?_⟩)
    rcases hM2 with ⟨q1, q2, q3⟩ | ⟨q1, q2⟩ <;> first | (exfalso; omega) | exact Or.inl ⟨q1, q2, q3, by rw [← q2]; rfl⟩ | exact Or.inr ⟨q1, q2, rfl⟩
abbrev P_X10_ahead (n : Int) (M : Mem) : Option Value → Mem → Prop := oI (fun zz MM => ((0 ≤ n ∧ n ≤ 60) ∧ zz = capN (fld M 1) n.toNat 27 ∧ Same M MM 30 8) ∨ (¬ (0 ≤ n ∧ n ≤ 60) ∧ zz = -1 ∧ MM = M))
set_option maxRecDepth 100000 in
set_option maxHeartbeats 4000000 in
theorem c_X10_ahead {l : Launch} {G : va_G} {ad : Nat → Nat} {CA : Nat → ClassId} {nt : Nat} (hnt : 6 ≤ nt) (n : Int) (hn9 : in32 n) (M : Mem) (hKI : KI M) : Mt l yX10_ahead cX10_ahead 2 (some .int) 7 147 G ad CA nt LyK [.ref (ad 0), .int (iN n)] M (P_X10_ahead n M) := by
  refine Mt.of (by decide) (Nat.le_of_ble_eq_true rfl) (fun p e s m args below meth c hx hb hr hml hts hown hlocks hnm hW ls hl => ?_)
  have hl : lv_has ls 2 [(0, .ref (ad 0)), (1, .int (iN n))] := hl
  have hnt4 : 4 ≤ nt := by omega
  obtain ⟨H, hH⟩ : ∃ z, z = s.heap := ⟨_, rfl⟩
  obtain ⟨locs, hlo⟩ : ∃ z : List Loc, z = [] := ⟨_, rfl⟩
  rw [← hH, ← hlo] at hW ⊢
  have hI := hKI.now
  have hm := hKI.min
  have hc := hI.c
  have hk := hI.k2
  have hT := hKI.told
  have hmn : fld M 1 46 ≤ 1000 := by omega
  refine lv_iload_n hx hb dX10_ahead_0 rfl (lv_at hl 1 rfl) ?_
  refine rw_iconst hx hb dX10_ahead_1 ?_
  refine rw_bipush hx hb dX10_ahead_2 (by decide) ?_
  refine rw_callS hx hb hml hts hown hW ⟨Nat.le_refl 0, Nat.le_refl 0⟩ [.int (iN n), .int (iN 0), .int (iN 60)] (c_X10_within (l := l) (G := G) (ad := ad) (CA := CA) (nt := nt) n 0 60 (by omega) (by omega) (by omega) M) kX10_81 rfl ⟨Nat.le_of_ble_eq_true rfl, Nat.le_of_ble_eq_true rfl⟩ hl.1 rfl (Nat.le_of_ble_eq_true rfl) dX10_ahead_4 (fun v1 M2 H locs hp3 hW => ?_)
  obtain ⟨a4, rfl, hp3, hp3m⟩ := hp3
  rw [hp3m] at hW
  rcases hp3 with ⟨rfl, hp3⟩ | ⟨rfl, hp3⟩
  · refine rw_stk (st' := [.int (iN 1)]) rfl ?_
    refine rw_if_eq (tgt := 25) hx hb dX10_ahead_7 (by decide) (by decide) (fun c => absurd c (by decide)) (fun _ => ?_)
    refine lv_aload_n hx hb dX10_ahead_10 rfl (lv_at hl 0 rfl) ?_
    refine rw_getR hx hb hts hown hW 0 lk_0 3 29 rfl fX10_29 dX10_ahead_11 ?_
    refine lv_aload_n hx hb dX10_ahead_14 rfl (lv_at hl 0 rfl) ?_
    refine rw_getR hx hb hts hown hW 0 lk_0 0 1 rfl fX10_10 dX10_ahead_15 ?_
    refine lv_iload_n hx hb dX10_ahead_18 rfl (lv_at hl 1 rfl) ?_
    refine rw_callV hx hb hml hts hown hW ⟨Nat.le_refl 0, Nat.le_refl 0⟩ [.ref (ad 1), .int (iN n)] 29 lk_29 rfl (c_X1_kegBehind (l := l) (G := G) (ad := ad) (CA := CA) (nt := nt) (by omega) n (by omega) M hI (by omega)) kX10_197 rfl ⟨Nat.le_of_ble_eq_true rfl, Nat.le_of_ble_eq_true rfl⟩ hl.1 rfl (Nat.le_of_ble_eq_true rfl) dX10_ahead_19 (fun v5 M6 H locs hp7 hW => ?_)
    obtain ⟨a8, rfl, hM6⟩ := hp7
    refine rw_stk (st' := [.int (iN a8)]) rfl ?_
    refine lv_goto (tgt := 26) hx hb dX10_ahead_22 (by decide) ?_
    refine rw_iret hx hb hr hlocks hW dX10_ahead_26 (⟨a8, rfl, ?_⟩)
    exact Or.inl ⟨by omega, hM6.1, hM6.2⟩
  · refine rw_stk (st' := [.int (iN 0)]) rfl ?_
    refine rw_if_eq (tgt := 25) hx hb dX10_ahead_7 (by decide) (by decide) (fun _ => ?_) (fun c => absurd (by decide) c)
    refine rw_iconst hx hb dX10_ahead_25 ?_
    refine rw_iret hx hb hr hlocks hW dX10_ahead_26 (⟨(-1), rfl, ?_⟩)
    exact Or.inr ⟨by omega, rfl, rfl⟩
abbrev P_X10_over (M : Mem) : Option Value → Mem → Prop := oI (fun zz MM => OverF (fld M 1) zz ∧ Same M MM 30 8)
set_option maxRecDepth 100000 in
set_option maxHeartbeats 4000000 in
theorem c_X10_over {l : Launch} {G : va_G} {ad : Nat → Nat} {CA : Nat → ClassId} {nt : Nat} (hnt : 6 ≤ nt) (M : Mem) (hKI : KI M) : Mt l yX10_over cX10_over 1 (some .int) 6 125 G ad CA nt LyK [.ref (ad 0)] M (P_X10_over M) := by
  refine Mt.of (by decide) (Nat.le_of_ble_eq_true rfl) (fun p e s m args below meth c hx hb hr hml hts hown hlocks hnm hW ls hl => ?_)
  have hl : lv_has ls 1 [(0, .ref (ad 0))] := hl
  have hnt4 : 4 ≤ nt := by omega
  obtain ⟨H, hH⟩ : ∃ z, z = s.heap := ⟨_, rfl⟩
  obtain ⟨locs, hlo⟩ : ∃ z : List Loc, z = [] := ⟨_, rfl⟩
  rw [← hH, ← hlo] at hW ⊢
  have hI := hKI.now
  have hm := hKI.min
  have hc := hI.c
  have hk := hI.k2
  have hT := hKI.told
  have hmn : fld M 1 46 ≤ 1000 := by omega
  refine lv_aload_n hx hb dX10_over_0 rfl (lv_at hl 0 rfl) ?_
  refine rw_getR hx hb hts hown hW 0 lk_0 3 29 rfl fX10_29 dX10_over_1 ?_
  refine lv_aload_n hx hb dX10_over_4 rfl (lv_at hl 0 rfl) ?_
  refine rw_getR hx hb hts hown hW 0 lk_0 0 1 rfl fX10_10 dX10_over_5 ?_
  refine rw_callV hx hb hml hts hown hW ⟨Nat.le_refl 0, Nat.le_refl 0⟩ [.ref (ad 1)] 29 lk_29 rfl (c_X1_minuteOver (l := l) (G := G) (ad := ad) (CA := CA) (nt := nt) (by omega) M hI (by omega)) kX10_201 rfl ⟨Nat.le_of_ble_eq_true rfl, Nat.le_of_ble_eq_true rfl⟩ hl.1 rfl (Nat.le_of_ble_eq_true rfl) dX10_over_8 (fun v1 M2 H locs hp3 hW => ?_)
  obtain ⟨a4, rfl, hM2⟩ := hp3
  refine rw_stk (st' := [.int (iN a4)]) rfl ?_
  refine rw_iret hx hb hr hlocks hW dX10_over_11 (⟨a4, rfl, ?_⟩)
  exact hM2
abbrev P_X10_table (x : Int) (y : Int) (n : Int) (M : Mem) : Option Value → Mem → Prop := oI (fun zz MM => (((0 ≤ x ∧ x ≤ 4) ∧ (0 ≤ y ∧ y ≤ 4) ∧ 0 ≤ n ∧ n ≤ 60) ∧ zz = capN (kindsF (fld M 1) x y) n.toNat 27 ∧ Same M MM 30 8) ∨ (¬ ((0 ≤ x ∧ x ≤ 4) ∧ (0 ≤ y ∧ y ≤ 4) ∧ 0 ≤ n ∧ n ≤ 60) ∧ zz = -1 ∧ MM = M))
set_option maxRecDepth 100000 in
set_option maxHeartbeats 4000000 in
theorem c_X10_table {l : Launch} {G : va_G} {ad : Nat → Nat} {CA : Nat → ClassId} {nt : Nat} (hnt : 6 ≤ nt) (x : Int) (hx9 : in32 x) (y : Int) (hy9 : in32 y) (n : Int) (hn9 : in32 n) (M : Mem) (hKI : KI M) : Mt l yX10_table cX10_table 4 (some .int) 7 149 G ad CA nt LyK [.ref (ad 0), .int (iN x), .int (iN y), .int (iN n)] M (P_X10_table x y n M) := by
  refine Mt.of (by decide) (Nat.le_of_ble_eq_true rfl) (fun p e s m args below meth c hx hb hr hml hts hown hlocks hnm hW ls hl => ?_)
  have hl : lv_has ls 4 [(0, .ref (ad 0)), (1, .int (iN x)), (2, .int (iN y)), (3, .int (iN n))] := hl
  have hnt4 : 4 ≤ nt := by omega
  obtain ⟨H, hH⟩ : ∃ z, z = s.heap := ⟨_, rfl⟩
  obtain ⟨locs, hlo⟩ : ∃ z : List Loc, z = [] := ⟨_, rfl⟩
  rw [← hH, ← hlo] at hW ⊢
  have hI := hKI.now
  have hm := hKI.min
  have hc := hI.c
  have hk := hI.k2
  have hT := hKI.told
  have hmn : fld M 1 46 ≤ 1000 := by omega
  refine lv_iload_n hx hb dX10_table_0 rfl (lv_at hl 1 rfl) ?_
  refine rw_callS hx hb hml hts hown hW ⟨Nat.le_refl 0, Nat.le_refl 0⟩ [.int (iN x)] (c_X10_isKind (l := l) (G := G) (ad := ad) (CA := CA) (nt := nt) x (by omega) M) kX10_170 rfl ⟨Nat.le_of_ble_eq_true rfl, Nat.le_of_ble_eq_true rfl⟩ hl.1 rfl (Nat.le_of_ble_eq_true rfl) dX10_table_1 (fun v1 M2 H locs hp3 hW => ?_)
  obtain ⟨a4, rfl, hp3, hp3m⟩ := hp3
  rw [hp3m] at hW
  rcases hp3 with ⟨rfl, hp3⟩ | ⟨rfl, hp3⟩
  · refine rw_stk (st' := [.int (iN 1)]) rfl ?_
    refine rw_if_eq (tgt := 24) hx hb dX10_table_4 (by decide) (by decide) (fun c => absurd c (by decide)) (fun _ => ?_)
    refine lv_iload_n hx hb dX10_table_7 rfl (lv_at hl 2 rfl) ?_
    refine rw_callS hx hb hml hts hown hW ⟨Nat.le_refl 0, Nat.le_refl 0⟩ [.int (iN y)] (c_X10_isKind (l := l) (G := G) (ad := ad) (CA := CA) (nt := nt) y (by omega) M) kX10_170 rfl ⟨Nat.le_of_ble_eq_true rfl, Nat.le_of_ble_eq_true rfl⟩ hl.1 rfl (Nat.le_of_ble_eq_true rfl) dX10_table_8 (fun v5 M6 H locs hp7 hW => ?_)
    obtain ⟨a8, rfl, hp7, hp7m⟩ := hp7
    rw [hp7m] at hW
    rcases hp7 with ⟨rfl, hp7⟩ | ⟨rfl, hp7⟩
    · refine rw_stk (st' := [.int (iN 1)]) rfl ?_
      refine rw_if_eq (tgt := 24) hx hb dX10_table_11 (by decide) (by decide) (fun c => absurd c (by decide)) (fun _ => ?_)
      refine lv_iload_n hx hb dX10_table_14 rfl (lv_at hl 3 rfl) ?_
      refine rw_iconst hx hb dX10_table_15 ?_
      refine rw_bipush hx hb dX10_table_16 (by decide) ?_
      refine rw_callS hx hb hml hts hown hW ⟨Nat.le_refl 0, Nat.le_refl 0⟩ [.int (iN n), .int (iN 0), .int (iN 60)] (c_X10_within (l := l) (G := G) (ad := ad) (CA := CA) (nt := nt) n 0 60 (by omega) (by omega) (by omega) M) kX10_81 rfl ⟨Nat.le_of_ble_eq_true rfl, Nat.le_of_ble_eq_true rfl⟩ hl.1 rfl (Nat.le_of_ble_eq_true rfl) dX10_table_18 (fun v9 M10 H locs hp11 hW => ?_)
      obtain ⟨a12, rfl, hp11, hp11m⟩ := hp11
      rw [hp11m] at hW
      rcases hp11 with ⟨rfl, hp11⟩ | ⟨rfl, hp11⟩
      · refine rw_stk (st' := [.int (iN 1)]) rfl ?_
        refine rw_if_ne (tgt := 26) hx hb dX10_table_21 (by decide) (by decide) (fun _ => ?_) (fun c => absurd c (by decide))
        refine lv_aload_n hx hb dX10_table_26 rfl (lv_at hl 0 rfl) ?_
        refine rw_getR hx hb hts hown hW 0 lk_0 3 29 rfl fX10_29 dX10_table_27 ?_
        refine lv_aload_n hx hb dX10_table_30 rfl (lv_at hl 0 rfl) ?_
        refine rw_getR hx hb hts hown hW 0 lk_0 0 1 rfl fX10_10 dX10_table_31 ?_
        refine lv_iload_n hx hb dX10_table_34 rfl (lv_at hl 1 rfl) ?_
        refine lv_iload_n hx hb dX10_table_35 rfl (lv_at hl 2 rfl) ?_
        refine lv_iload_n hx hb dX10_table_36 rfl (lv_at hl 3 rfl) ?_
        refine rw_callV hx hb hml hts hown hW ⟨Nat.le_refl 0, Nat.le_refl 0⟩ [.ref (ad 1), .int (iN x), .int (iN y), .int (iN n)] 29 lk_29 rfl (c_X1_kegByKinds (l := l) (G := G) (ad := ad) (CA := CA) (nt := nt) (by omega) x y (by omega) (by omega) n (by omega) M hI (by omega)) kX10_245 rfl ⟨Nat.le_of_ble_eq_true rfl, Nat.le_of_ble_eq_true rfl⟩ hl.1 rfl (Nat.le_of_ble_eq_true rfl) dX10_table_37 (fun v13 M14 H locs hp15 hW => ?_)
        obtain ⟨a16, rfl, hM14⟩ := hp15
        refine rw_stk (st' := [.int (iN a16)]) rfl ?_
        refine rw_iret hx hb hr hlocks hW dX10_table_40 (⟨a16, rfl, ?_⟩)
        exact Or.inl ⟨by omega, hM14.1, hM14.2⟩
      · refine rw_stk (st' := [.int (iN 0)]) rfl ?_
        refine rw_if_ne (tgt := 26) hx hb dX10_table_21 (by decide) (by decide) (fun c => absurd c (by decide)) (fun _ => ?_)
        refine rw_iconst hx hb dX10_table_24 ?_
        refine rw_iret hx hb hr hlocks hW dX10_table_25 (⟨(-1), rfl, ?_⟩)
        exact Or.inr ⟨by omega, rfl, rfl⟩
    · refine rw_stk (st' := [.int (iN 0)]) rfl ?_
      refine rw_if_eq (tgt := 24) hx hb dX10_table_11 (by decide) (by decide) (fun _ => ?_) (fun c => absurd (by decide) c)
      refine rw_iconst hx hb dX10_table_24 ?_
      refine rw_iret hx hb hr hlocks hW dX10_table_25 (⟨(-1), rfl, ?_⟩)
      exact Or.inr ⟨by omega, rfl, rfl⟩
  · refine rw_stk (st' := [.int (iN 0)]) rfl ?_
    refine rw_if_eq (tgt := 24) hx hb dX10_table_4 (by decide) (by decide) (fun _ => ?_) (fun c => absurd (by decide) c)
    refine rw_iconst hx hb dX10_table_24 ?_
    refine rw_iret hx hb hr hlocks hW dX10_table_25 (⟨(-1), rfl, ?_⟩)
    exact Or.inr ⟨by omega, rfl, rfl⟩
abbrev P_X10_without (i : Int) (n : Int) (M : Mem) : Option Value → Mem → Prop := oI (fun zz MM => (((0 ≤ i ∧ i < M 1 0) ∧ 0 ≤ n ∧ n ≤ 60) ∧ zz = capN (setF (fld M 1) (3 * i + 2) 0) n.toNat 27 ∧ Same M MM 30 8) ∨ (¬ ((0 ≤ i ∧ i < M 1 0) ∧ 0 ≤ n ∧ n ≤ 60) ∧ zz = -1 ∧ MM = M))
set_option maxRecDepth 100000 in
set_option maxHeartbeats 4000000 in
theorem c_X10_without {l : Launch} {G : va_G} {ad : Nat → Nat} {CA : Nat → ClassId} {nt : Nat} (hnt : 6 ≤ nt) (i : Int) (hi9 : in32 i) (n : Int) (hn9 : in32 n) (M : Mem) (hKI : KI M) : Mt l yX10_without cX10_without 3 (some .int) 7 148 G ad CA nt LyK [.ref (ad 0), .int (iN i), .int (iN n)] M (P_X10_without i n M) := by
  refine Mt.of (by decide) (Nat.le_of_ble_eq_true rfl) (fun p e s m args below meth c hx hb hr hml hts hown hlocks hnm hW ls hl => ?_)
  have hl : lv_has ls 3 [(0, .ref (ad 0)), (1, .int (iN i)), (2, .int (iN n))] := hl
  have hnt4 : 4 ≤ nt := by omega
  obtain ⟨H, hH⟩ : ∃ z, z = s.heap := ⟨_, rfl⟩
  obtain ⟨locs, hlo⟩ : ∃ z : List Loc, z = [] := ⟨_, rfl⟩
  rw [← hH, ← hlo] at hW ⊢
  have hI := hKI.now
  have hm := hKI.min
  have hc := hI.c
  have hk := hI.k2
  have hT := hKI.told
  have hmn : fld M 1 46 ≤ 1000 := by omega
  refine lv_aload_n hx hb dX10_without_0 rfl (lv_at hl 0 rfl) ?_
  refine rw_getR hx hb hts hown hW 0 lk_0 0 1 rfl fX10_10 dX10_without_1 ?_
  refine lv_iload_n hx hb dX10_without_4 rfl (lv_at hl 1 rfl) ?_
  refine rw_callV hx hb hml hts hown hW ⟨Nat.le_refl 0, Nat.le_refl 0⟩ [.int (iN i)] 1 fk_1.1 rfl (c_X0_hasCell (l := l) (G := G) (ad := ad) (CA := CA) (nt := nt) 1 fk_1 i (by omega) M hc) kX10_129 rfl ⟨Nat.le_of_ble_eq_true rfl, Nat.le_of_ble_eq_true rfl⟩ hl.1 rfl (Nat.le_of_ble_eq_true rfl) dX10_without_5 (fun v1 M2 H locs hp3 hW => ?_)
  obtain ⟨a4, rfl, hp3, hp3m⟩ := hp3
  rw [hp3m] at hW
  rcases hp3 with ⟨rfl, hp3⟩ | ⟨rfl, hp3⟩
  · refine rw_stk (st' := [.int (iN 1)]) rfl ?_
    refine rw_if_eq (tgt := 37) hx hb dX10_without_8 (by decide) (by decide) (fun c => absurd c (by decide)) (fun _ => ?_)
    refine lv_iload_n hx hb dX10_without_11 rfl (lv_at hl 2 rfl) ?_
    refine rw_iconst hx hb dX10_without_12 ?_
    refine rw_bipush hx hb dX10_without_13 (by decide) ?_
    refine rw_callS hx hb hml hts hown hW ⟨Nat.le_refl 0, Nat.le_refl 0⟩ [.int (iN n), .int (iN 0), .int (iN 60)] (c_X10_within (l := l) (G := G) (ad := ad) (CA := CA) (nt := nt) n 0 60 (by omega) (by omega) (by omega) M) kX10_81 rfl ⟨Nat.le_of_ble_eq_true rfl, Nat.le_of_ble_eq_true rfl⟩ hl.1 rfl (Nat.le_of_ble_eq_true rfl) dX10_without_15 (fun v5 M6 H locs hp7 hW => ?_)
    obtain ⟨a8, rfl, hp7, hp7m⟩ := hp7
    rw [hp7m] at hW
    rcases hp7 with ⟨rfl, hp7⟩ | ⟨rfl, hp7⟩
    · refine rw_stk (st' := [.int (iN 1)]) rfl ?_
      refine rw_if_eq (tgt := 37) hx hb dX10_without_18 (by decide) (by decide) (fun c => absurd c (by decide)) (fun _ => ?_)
      refine lv_aload_n hx hb dX10_without_21 rfl (lv_at hl 0 rfl) ?_
      refine rw_getR hx hb hts hown hW 0 lk_0 3 29 rfl fX10_29 dX10_without_22 ?_
      refine lv_aload_n hx hb dX10_without_25 rfl (lv_at hl 0 rfl) ?_
      refine rw_getR hx hb hts hown hW 0 lk_0 0 1 rfl fX10_10 dX10_without_26 ?_
      refine lv_iload_n hx hb dX10_without_29 rfl (lv_at hl 1 rfl) ?_
      refine lv_iload_n hx hb dX10_without_30 rfl (lv_at hl 2 rfl) ?_
      refine rw_callV hx hb hml hts hown hW ⟨Nat.le_refl 0, Nat.le_refl 0⟩ [.ref (ad 1), .int (iN i), .int (iN n)] 29 lk_29 rfl (c_X1_kegWithoutHedge (l := l) (G := G) (ad := ad) (CA := CA) (nt := nt) (by omega) i (by omega) n (by omega) M hI (by omega)) kX10_248 rfl ⟨Nat.le_of_ble_eq_true rfl, Nat.le_of_ble_eq_true rfl⟩ hl.1 rfl (Nat.le_of_ble_eq_true rfl) dX10_without_31 (fun v9 M10 H locs hp11 hW => ?_)
      obtain ⟨a12, rfl, hM10⟩ := hp11
      refine rw_stk (st' := [.int (iN a12)]) rfl ?_
      refine lv_goto (tgt := 38) hx hb dX10_without_34 (by decide) ?_
      refine rw_iret hx hb hr hlocks hW dX10_without_38 (⟨a12, rfl, ?_⟩)
      exact Or.inl ⟨by omega, hM10.1, hM10.2⟩
    · refine rw_stk (st' := [.int (iN 0)]) rfl ?_
      refine rw_if_eq (tgt := 37) hx hb dX10_without_18 (by decide) (by decide) (fun _ => ?_) (fun c => absurd (by decide) c)
      refine rw_iconst hx hb dX10_without_37 ?_
      refine rw_iret hx hb hr hlocks hW dX10_without_38 (⟨(-1), rfl, ?_⟩)
      exact Or.inr ⟨by omega, rfl, rfl⟩
  · refine rw_stk (st' := [.int (iN 0)]) rfl ?_
    refine rw_if_eq (tgt := 37) hx hb dX10_without_8 (by decide) (by decide) (fun _ => ?_) (fun c => absurd (by decide) c)
    refine rw_iconst hx hb dX10_without_37 ?_
    refine rw_iret hx hb hr hlocks hW dX10_without_38 (⟨(-1), rfl, ?_⟩)
    exact Or.inr ⟨by omega, rfl, rfl⟩
abbrev P_X10_tell (n : Int) (i : Int) (M : Mem) : Option Value → Mem → Prop := oI (fun zz MM => (((0 ≤ n ∧ n ≤ 12) ∧ ((0 ≤ i ∧ i < M 1 0) ∨ i = 20 ∨ i = 21)) ∧ ((M 207 2 < 8 ∧ zz = M 207 2 + 1 ∧ MM = upd2 (upd2 (upd2 M 208 (M 207 2) n) 209 (M 207 2) i) 207 2 (M 207 2 + 1)) ∨ (8 ≤ M 207 2 ∧ zz = -3 ∧ MM = M))) ∨ (¬ ((0 ≤ n ∧ n ≤ 12) ∧ ((0 ≤ i ∧ i < M 1 0) ∨ i = 20 ∨ i = 21)) ∧ zz = -1 ∧ MM = M))
set_option maxRecDepth 100000 in
set_option maxHeartbeats 4000000 in
theorem c_X10_tell {l : Launch} {G : va_G} {ad : Nat → Nat} {CA : Nat → ClassId} {nt : Nat} (hnt : 6 ≤ nt) (n : Int) (hn9 : in32 n) (i : Int) (hi9 : in32 i) (M : Mem) (hKI : KI M) : Mt l yX10_tell cX10_tell 3 (some .int) 2 42 G ad CA nt LyK [.ref (ad 0), .int (iN n), .int (iN i)] M (P_X10_tell n i M) := by
  refine Mt.of (by decide) (Nat.le_of_ble_eq_true rfl) (fun p e s m args below meth c hx hb hr hml hts hown hlocks hnm hW ls hl => ?_)
  have hl : lv_has ls 3 [(0, .ref (ad 0)), (1, .int (iN n)), (2, .int (iN i))] := hl
  have hnt4 : 4 ≤ nt := by omega
  obtain ⟨H, hH⟩ : ∃ z, z = s.heap := ⟨_, rfl⟩
  obtain ⟨locs, hlo⟩ : ∃ z : List Loc, z = [] := ⟨_, rfl⟩
  rw [← hH, ← hlo] at hW ⊢
  have hI := hKI.now
  have hm := hKI.min
  have hc := hI.c
  have hk := hI.k2
  have hT := hKI.told
  have hmn : fld M 1 46 ≤ 1000 := by omega
  have hz := hT.1
  refine lv_iload_n hx hb dX10_tell_0 rfl (lv_at hl 1 rfl) ?_
  refine rw_iconst hx hb dX10_tell_1 ?_
  refine rw_bipush hx hb dX10_tell_2 (by decide) ?_
  refine rw_callS hx hb hml hts hown hW ⟨Nat.le_refl 0, Nat.le_refl 0⟩ [.int (iN n), .int (iN 0), .int (iN 12)] (c_X10_within (l := l) (G := G) (ad := ad) (CA := CA) (nt := nt) n 0 12 (by omega) (by omega) (by omega) M) kX10_81 rfl ⟨Nat.le_of_ble_eq_true rfl, Nat.le_of_ble_eq_true rfl⟩ hl.1 rfl (Nat.le_of_ble_eq_true rfl) dX10_tell_4 (fun v1 M2 H locs hp3 hW => ?_)
  obtain ⟨a4, rfl, hp3, hp3m⟩ := hp3
  rw [hp3m] at hW
  rcases hp3 with ⟨rfl, hp3⟩ | ⟨rfl, hp3⟩
  · refine rw_stk (st' := [.int (iN 1)]) rfl ?_
    refine rw_if_eq (tgt := 21) hx hb dX10_tell_7 (by decide) (by decide) (fun c => absurd c (by decide)) (fun _ => ?_)
    refine lv_aload_n hx hb dX10_tell_10 rfl (lv_at hl 0 rfl) ?_
    refine rw_getR hx hb hts hown hW 0 lk_0 0 1 rfl fX10_10 dX10_tell_11 ?_
    refine lv_iload_n hx hb dX10_tell_14 rfl (lv_at hl 2 rfl) ?_
    refine rw_callV hx hb hml hts hown hW ⟨Nat.le_refl 0, Nat.le_refl 0⟩ [.int (iN i)] 1 fk_1.1 rfl (c_X0_hasPlace (l := l) (G := G) (ad := ad) (CA := CA) (nt := nt) 1 fk_1 i (by omega) M hc) kX10_205 rfl ⟨Nat.le_of_ble_eq_true rfl, Nat.le_of_ble_eq_true rfl⟩ hl.1 rfl (Nat.le_of_ble_eq_true rfl) dX10_tell_15 (fun v5 M6 H locs hp7 hW => ?_)
    obtain ⟨a8, rfl, hp7, hp7m⟩ := hp7
    rw [hp7m] at hW
    rcases hp7 with ⟨rfl, hp7⟩ | ⟨rfl, hp7⟩
    · refine rw_stk (st' := [.int (iN 1)]) rfl ?_
      refine rw_if_ne (tgt := 23) hx hb dX10_tell_18 (by decide) (by decide) (fun _ => ?_) (fun c => absurd c (by decide))
      refine lv_aload_n hx hb dX10_tell_23 rfl (lv_at hl 0 rfl) ?_
      refine rw_getR hx hb hts hown hW 0 lk_0 6 207 rfl fX10_50 dX10_tell_24 ?_
      refine lv_iload_n hx hb dX10_tell_27 rfl (lv_at hl 1 rfl) ?_
      refine lv_iload_n hx hb dX10_tell_28 rfl (lv_at hl 2 rfl) ?_
      refine rw_callV hx hb hml hts hown hW ⟨Nat.le_refl 0, Nat.le_refl 0⟩ [.int (iN n), .int (iN i)] 207 lk_207 rfl (c_X9_add (l := l) (G := G) (ad := ad) (CA := CA) (nt := nt) (by omega) n i M (by omega)) kX10_252 rfl ⟨Nat.le_of_ble_eq_true rfl, Nat.le_of_ble_eq_true rfl⟩ hl.1 rfl (Nat.le_of_ble_eq_true rfl) dX10_tell_29 (fun v9 M10 H locs hp11 hW => ?_)
      obtain ⟨a12, rfl, hp11, hM10⟩ := hp11
      rcases hp11 with ⟨rfl, hp11⟩ | ⟨rfl, hp11⟩
      · refine rw_stk (st' := [.int (iN 1)]) rfl ?_
        refine rw_if_eq (tgt := 45) hx hb dX10_tell_32 (by decide) (by decide) (fun c => absurd c (by decide)) (fun _ => ?_)
        refine lv_aload_n hx hb dX10_tell_35 rfl (lv_at hl 0 rfl) ?_
        refine rw_getR hx hb hts hown hW 0 lk_0 6 207 rfl fX10_50 dX10_tell_36 ?_
        refine rw_getI hx hb hts hown hW 207 lk_207 2 2 rfl rfl fX10_108 dX10_tell_39 (v := (M10 207 2)) rfl ?_
        refine lv_goto (tgt := 47) hx hb dX10_tell_42 (by decide) ?_
        refine rw_iret hx hb hr hlocks hW dX10_tell_47 (⟨(M10 207 2), rfl, ?_⟩)
        rcases hM10 with ⟨q1, q2⟩ | ⟨q1, q2⟩
        · exact Or.inl ⟨by omega, Or.inl ⟨q1, by rw [q2, upd2_eq], q2⟩⟩
        · exfalso; omega
      · refine rw_stk (st' := [.int (iN 0)]) rfl ?_
        refine rw_if_eq (tgt := 45) hx hb dX10_tell_32 (by decide) (by decide) (fun _ => ?_) (fun c => absurd (by decide) c)
        refine rw_bipush hx hb dX10_tell_45 (by decide) ?_
        refine rw_iret hx hb hr hlocks hW dX10_tell_47 (⟨(-3), rfl, ?_⟩)
        rcases hM10 with ⟨q1, q2⟩ | ⟨q1, q2⟩
        · exfalso; omega
        · exact Or.inl ⟨by omega, Or.inr ⟨q1, rfl, q2⟩⟩
    · refine rw_stk (st' := [.int (iN 0)]) rfl ?_
      refine rw_if_ne (tgt := 23) hx hb dX10_tell_18 (by decide) (by decide) (fun c => absurd c (by decide)) (fun _ => ?_)
      refine rw_iconst hx hb dX10_tell_21 ?_
      refine rw_iret hx hb hr hlocks hW dX10_tell_22 (⟨(-1), rfl, ?_⟩)
      exact Or.inr ⟨by omega, rfl, rfl⟩
  · refine rw_stk (st' := [.int (iN 0)]) rfl ?_
    refine rw_if_eq (tgt := 21) hx hb dX10_tell_7 (by decide) (by decide) (fun _ => ?_) (fun c => absurd (by decide) c)
    refine rw_iconst hx hb dX10_tell_21 ?_
    refine rw_iret hx hb hr hlocks hW dX10_tell_22 (⟨(-1), rfl, ?_⟩)
    exact Or.inr ⟨by omega, rfl, rfl⟩
abbrev P_X10_forget (n : Int) (M : Mem) : Option Value → Mem → Prop := oI (fun zz MM => ((0 ≤ n ∧ n ≤ M 207 2) ∧ zz = M 207 2 ∧ MM = upd2 M 207 2 n) ∨ (¬ (0 ≤ n ∧ n ≤ M 207 2) ∧ zz = -1 ∧ MM = M))
set_option maxRecDepth 100000 in
set_option maxHeartbeats 4000000 in
theorem c_X10_forget {l : Launch} {G : va_G} {ad : Nat → Nat} {CA : Nat → ClassId} {nt : Nat} (hnt : 6 ≤ nt) (n : Int) (hn9 : in32 n) (M : Mem) (hKI : KI M) : Mt l yX10_forget cX10_forget 3 (some .int) 1 22 G ad CA nt LyK [.ref (ad 0), .int (iN n)] M (P_X10_forget n M) := by
  refine Mt.of (by decide) (Nat.le_of_ble_eq_true rfl) (fun p e s m args below meth c hx hb hr hml hts hown hlocks hnm hW ls hl => ?_)
  have hl : lv_has ls 3 [(0, .ref (ad 0)), (1, .int (iN n))] := hl
  have hnt4 : 4 ≤ nt := by omega
  obtain ⟨H, hH⟩ : ∃ z, z = s.heap := ⟨_, rfl⟩
  obtain ⟨locs, hlo⟩ : ∃ z : List Loc, z = [] := ⟨_, rfl⟩
  rw [← hH, ← hlo] at hW ⊢
  have hI := hKI.now
  have hm := hKI.min
  have hc := hI.c
  have hk := hI.k2
  have hT := hKI.told
  have hmn : fld M 1 46 ≤ 1000 := by omega
  have hz := hT.1
  refine lv_iload_n hx hb dX10_forget_0 rfl (lv_at hl 1 rfl) ?_
  refine rw_iconst hx hb dX10_forget_1 ?_
  refine lv_aload_n hx hb dX10_forget_2 rfl (lv_at hl 0 rfl) ?_
  refine rw_getR hx hb hts hown hW 0 lk_0 6 207 rfl fX10_50 dX10_forget_3 ?_
  refine rw_getI hx hb hts hown hW 207 lk_207 2 2 rfl rfl fX10_108 dX10_forget_6 (v := (M 207 2)) rfl ?_
  refine rw_callS hx hb hml hts hown hW ⟨Nat.le_refl 0, Nat.le_refl 0⟩ [.int (iN n), .int (iN 0), .int (iN (M 207 2))] (c_X10_within (l := l) (G := G) (ad := ad) (CA := CA) (nt := nt) n 0 (M 207 2) (by omega) (by omega) (by omega) M) kX10_81 rfl ⟨Nat.le_of_ble_eq_true rfl, Nat.le_of_ble_eq_true rfl⟩ hl.1 rfl (Nat.le_of_ble_eq_true rfl) dX10_forget_9 (fun v1 M2 H locs hp3 hW => ?_)
  obtain ⟨a4, rfl, hp3, hp3m⟩ := hp3
  rw [hp3m] at hW
  rcases hp3 with ⟨rfl, hp3⟩ | ⟨rfl, hp3⟩
  · refine rw_stk (st' := [.int (iN 1)]) rfl ?_
    refine rw_if_ne (tgt := 17) hx hb dX10_forget_12 (by decide) (by decide) (fun _ => ?_) (fun c => absurd c (by decide))
    refine lv_aload_n hx hb dX10_forget_17 rfl (lv_at hl 0 rfl) ?_
    refine rw_getR hx hb hts hown hW 0 lk_0 6 207 rfl fX10_50 dX10_forget_18 ?_
    refine rw_getI hx hb hts hown hW 207 lk_207 2 2 rfl rfl fX10_108 dX10_forget_21 (v := (M 207 2)) rfl ?_
    refine lv_istore_n (lv' := [(2, .int (iN (M 207 2))), (0, .ref (ad 0)), (1, .int (iN n))]) hx hb dX10_forget_24 rfl hl (by decide) rfl (fun ls hl => ?_)
    refine lv_aload_n hx hb dX10_forget_25 rfl (lv_at hl 1 rfl) ?_
    refine rw_getR hx hb hts hown hW 0 lk_0 6 207 rfl fX10_50 dX10_forget_26 ?_
    refine lv_iload_n hx hb dX10_forget_29 rfl (lv_at hl 2 rfl) ?_
    refine rw_putI hx hb hts hown hW 207 lk_207 2 2 rfl rfl qX10_108 (v := n) dX10_forget_30 (fun H locs hW => ?_)
    obtain ⟨M5, hM5⟩ : ∃ z, z = upd2 M 207 2 n := ⟨_, rfl⟩
    rw [← hM5] at hW
    refine lv_iload_n hx hb dX10_forget_33 rfl (lv_at hl 0 rfl) ?_
    refine rw_iret hx hb hr hlocks hW dX10_forget_34 (⟨(M 207 2), rfl, ?_⟩)
    refine Or.inl ⟨by omega, rfl, ?_⟩
    rw [hM5]
  · refine rw_stk (st' := [.int (iN 0)]) rfl ?_
    refine rw_if_ne (tgt := 17) hx hb dX10_forget_12 (by decide) (by decide) (fun c => absurd c (by decide)) (fun _ => ?_)
    refine rw_iconst hx hb dX10_forget_15 ?_
    refine rw_iret hx hb hr hlocks hW dX10_forget_16 (⟨(-1), rfl, ?_⟩)
    exact Or.inr ⟨by omega, rfl, rfl⟩
abbrev P_X10_lies (M : Mem) : Option Value → Mem → Prop := oI (fun zz MM => zz = liesN (fld M 1) M ∧ Same M MM 30 8)
set_option maxRecDepth 100000 in
set_option maxHeartbeats 4000000 in
theorem c_X10_lies {l : Launch} {G : va_G} {ad : Nat → Nat} {CA : Nat → ClassId} {nt : Nat} (hnt : 6 ≤ nt) (M : Mem) (hKI : KI M) : Mt l yX10_lies cX10_lies 1 (some .int) 6 128 G ad CA nt LyK [.ref (ad 0)] M (P_X10_lies M) := by
  refine Mt.of (by decide) (Nat.le_of_ble_eq_true rfl) (fun p e s m args below meth c hx hb hr hml hts hown hlocks hnm hW ls hl => ?_)
  have hl : lv_has ls 1 [(0, .ref (ad 0))] := hl
  have hnt4 : 4 ≤ nt := by omega
  obtain ⟨H, hH⟩ : ∃ z, z = s.heap := ⟨_, rfl⟩
  obtain ⟨locs, hlo⟩ : ∃ z : List Loc, z = [] := ⟨_, rfl⟩
  rw [← hH, ← hlo] at hW ⊢
  have hI := hKI.now
  have hm := hKI.min
  have hc := hI.c
  have hk := hI.k2
  have hT := hKI.told
  have hmn : fld M 1 46 ≤ 1000 := by omega
  refine lv_aload_n hx hb dX10_lies_0 rfl (lv_at hl 0 rfl) ?_
  refine rw_getR hx hb hts hown hW 0 lk_0 3 29 rfl fX10_29 dX10_lies_1 ?_
  refine lv_aload_n hx hb dX10_lies_4 rfl (lv_at hl 0 rfl) ?_
  refine rw_getR hx hb hts hown hW 0 lk_0 0 1 rfl fX10_10 dX10_lies_5 ?_
  refine lv_aload_n hx hb dX10_lies_8 rfl (lv_at hl 0 rfl) ?_
  refine rw_getR hx hb hts hown hW 0 lk_0 0 1 rfl fX10_10 dX10_lies_9 ?_
  refine rw_getI hx hb hts hown hW 1 fk_1.1 1 1 rfl rfl fX10_117 dX10_lies_12 (v := (M 1 1)) rfl ?_
  refine lv_aload_n hx hb dX10_lies_15 rfl (lv_at hl 0 rfl) ?_
  refine rw_getR hx hb hts hown hW 0 lk_0 6 207 rfl fX10_50 dX10_lies_16 ?_
  refine rw_callV hx hb hml hts hown hW ⟨Nat.le_refl 0, Nat.le_refl 0⟩ [.ref (ad 1), .int (iN (M 1 1)), .ref (ad 207)] 29 lk_29 rfl (c_X1_untrueFrom (l := l) (G := G) (ad := ad) (CA := CA) (nt := nt) (by omega) (M 1 1) M hI (by omega) hI.k (by omega)) kX10_255 rfl ⟨Nat.le_of_ble_eq_true rfl, Nat.le_of_ble_eq_true rfl⟩ hl.1 rfl (Nat.le_of_ble_eq_true rfl) dX10_lies_19 (fun v1 M2 H locs hp3 hW => ?_)
  obtain ⟨a4, rfl, hM2⟩ := hp3
  refine rw_stk (st' := [.int (iN a4)]) rfl ?_
  refine rw_iret hx hb hr hlocks hW dX10_lies_22 (⟨a4, rfl, ?_⟩)
  have q := hM2.1
  rw [show M 1 1 = fld M 1 27 from rfl, setF_id] at q
  exact ⟨q, hM2.2⟩
abbrev P_X10_where (M : Mem) : Option Value → Mem → Prop := oI (fun zz MM => zz = ((bitsOf (mayI (fld M 1) M) (M 1 0).toNat : Nat) : Int) ∧ Same M MM 30 8)
set_option maxRecDepth 100000 in
set_option maxHeartbeats 4000000 in
theorem c_X10_where {l : Launch} {G : va_G} {ad : Nat → Nat} {CA : Nat → ClassId} {nt : Nat} (hnt : 6 ≤ nt) (M : Mem) (hKI : KI M) : Mt l yX10_where cX10_where 3 (some .int) 6 128 G ad CA nt LyK [.ref (ad 0)] M (P_X10_where M) := by
  refine Mt.of (by decide) (Nat.le_of_ble_eq_true rfl) (fun p e s m args below meth c hx hb hr hml hts hown hlocks hnm hW ls hl => ?_)
  have hl : lv_has ls 3 [(0, .ref (ad 0))] := hl
  have hnt4 : 4 ≤ nt := by omega
  obtain ⟨H, hH⟩ : ∃ z, z = s.heap := ⟨_, rfl⟩
  obtain ⟨locs, hlo⟩ : ∃ z : List Loc, z = [] := ⟨_, rfl⟩
  rw [← hH, ← hlo] at hW ⊢
  have hI := hKI.now
  have hm := hKI.min
  have hc := hI.c
  have hk := hI.k2
  have hT := hKI.told
  have hmn : fld M 1 46 ≤ 1000 := by omega
  have hC_4 : ∀ N : Nat, ∀ (acc : Int) (i : Int) (Mx : Mem) (H : Heap) (locs : List Loc) (ls : Array Slot), (10 - i).toNat < N → (0 ≤ i ∧ i ≤ M 1 0) → (Same M Mx 30 8) → (acc = ((bitsOf (mayI (fld M 1) M) i.toNat : Nat) : Int)) → Wo G ad CA nt LyK (wA ad LyK) s Mx H locs → lv_has ls 3 [(0, .ref (ad 0)), (1, .int (iN acc)), (2, .int (iN i))] → Wf l 6 128 G ad CA nt LyK (P_X10_where M) p e s m args below meth c H locs (F0 m 4 ls []) := by
    intro N
    induction N with
    | zero => intro acc i Mx H locs ls hN; exact absurd hN (Nat.not_lt_zero _)
    | succ N ih =>
      intro acc i Mx H locs ls hN hi hs hacc hW hl
      have h10 : Mx 1 0 = M 1 0 := by rw [hs 1 (by decide)]
      have hnow : fld Mx 1 = fld M 1 := fld_same hs (by decide)
      have hT2 : toldI Mx := by
        unfold toldI
        rw [hs 207 (by decide), hs 208 (by decide), hs 209 (by decide)]
        exact hT
      refine lv_iload_n hx hb dX10_where_4 rfl (lv_at hl 2 rfl) ?_
      refine lv_aload_n hx hb dX10_where_5 rfl (lv_at hl 0 rfl) ?_
      refine rw_getR hx hb hts hown hW 0 lk_0 0 1 rfl fX10_10 dX10_where_6 ?_
      refine rw_getI hx hb hts hown hW 1 fk_1.1 0 0 rfl rfl fX10_114 dX10_where_9 (v := (M 1 0)) (by first | exact h10 | rfl) ?_
      refine rw_icmp_ge (tgt := 46) hx hb dX10_where_12 (by decide) (by omega) (by omega) (fun c_12 => ?_) (fun c_12 => ?_)
      · refine lv_iload_n hx hb dX10_where_46 rfl (lv_at hl 1 rfl) ?_
        refine rw_iret hx hb hr hlocks hW dX10_where_47 (⟨acc, rfl, ?_⟩)
        exact ⟨by rw [hacc, show i = M 1 0 by omega], hs⟩
      · refine lv_aload_n hx hb dX10_where_15 rfl (lv_at hl 0 rfl) ?_
        refine rw_getR hx hb hts hown hW 0 lk_0 3 29 rfl fX10_29 dX10_where_16 ?_
        refine lv_aload_n hx hb dX10_where_19 rfl (lv_at hl 0 rfl) ?_
        refine rw_getR hx hb hts hown hW 0 lk_0 0 1 rfl fX10_10 dX10_where_20 ?_
        refine lv_iload_n hx hb dX10_where_23 rfl (lv_at hl 2 rfl) ?_
        refine lv_aload_n hx hb dX10_where_24 rfl (lv_at hl 0 rfl) ?_
        refine rw_getR hx hb hts hown hW 0 lk_0 6 207 rfl fX10_50 dX10_where_25 ?_
        refine rw_callV hx hb hml hts hown hW ⟨Nat.le_refl 0, Nat.le_refl 0⟩ [.ref (ad 1), .int (iN i), .ref (ad 207)] 29 lk_29 rfl (c_X1_untrueFrom (l := l) (G := G) (ad := ad) (CA := CA) (nt := nt) (by omega) i Mx (by rw [hnow]; exact hI) (by rw [hnow]; omega) (by rw [h10]; omega) hT2) kX10_255 rfl ⟨Nat.le_of_ble_eq_true rfl, Nat.le_of_ble_eq_true rfl⟩ hl.1 rfl (Nat.le_of_ble_eq_true rfl) dX10_where_28 (fun v1 M2 H locs hp3 hW => ?_)
        obtain ⟨a4, rfl, hM2⟩ := hp3
        refine rw_stk (st' := [.int (iN a4)]) rfl ?_
        have hlz := hM2.1
        rw [hnow] at hlz
        rw [show liesN (setF (fld M 1) 27 i) Mx = liesN (setF (fld M 1) 27 i) M by unfold liesN; rw [hs 207 (by decide), hs 208 (by decide), hs 209 (by decide)]] at hlz
        have hlr := liesN_rng (f := setF (fld M 1) 27 i) hT
        refine rw_if_ne (tgt := 40) hx hb dX10_where_31 (by decide) (by omega) (fun c_31 => ?_) (fun c_31 => ?_)
        · refine rw_iinc (lv' := [(2, .int (iN (i + 1))), (0, .ref (ad 0)), (1, .int (iN acc))]) hx hb dX10_where_40 hl (k := 2) rfl (by decide) rfl (fun ls hl => ?_)
          refine lv_goto (tgt := 4) hx hb dX10_where_43 (by decide) ?_
          exact ih acc (i + 1) M2 H locs ls (by omega) (by omega) (hs.trans hM2.2) (by rw [show (i + 1).toNat = i.toNat + 1 by omega, bitsOf_skip _ (by unfold mayI; rw [show ((i.toNat : Nat) : Int) = i by omega, decide_eq_false_iff_not, ← hlz]; exact c_31)]; exact hacc) hW (lv_sub hl [1, 2, 0] rfl)
        · refine lv_iload_n hx hb dX10_where_34 rfl (lv_at hl 1 rfl) ?_
          refine rw_iconst hx hb dX10_where_35 ?_
          refine lv_iload_n hx hb dX10_where_36 rfl (lv_at hl 2 rfl) ?_
          refine rw_shl1 hx hb dX10_where_37 (by omega) (by omega) ?_
          refine rw_ior hx hb dX10_where_38 ?_
          refine lv_istore_n (lv' := [(1, .int (iN (bor acc (pow2 i)))), (0, .ref (ad 0)), (2, .int (iN i))]) hx hb dX10_where_39 rfl hl (by decide) rfl (fun ls hl => ?_)
          refine rw_iinc (lv' := [(2, .int (iN (i + 1))), (1, .int (iN (bor acc (pow2 i)))), (0, .ref (ad 0))]) hx hb dX10_where_40 hl (k := 2) rfl (by decide) rfl (fun ls hl => ?_)
          refine lv_goto (tgt := 4) hx hb dX10_where_43 (by decide) ?_
          exact ih (bor acc (pow2 i)) (i + 1) M2 H locs ls (by omega) (by omega) (hs.trans hM2.2) (by rw [hacc, show (i + 1).toNat = i.toNat + 1 by omega, ← bitsOf_bor _ (by omega) (by unfold mayI; rw [show ((i.toNat : Nat) : Int) = i by omega, decide_eq_true_iff, ← hlz]; exact c_31), show ((i.toNat : Nat) : Int) = i by omega]) hW (lv_sub hl [2, 1, 0] rfl)
  refine rw_iconst hx hb dX10_where_0 ?_
  refine lv_istore_n (lv' := [(1, .int (iN 0)), (0, .ref (ad 0))]) hx hb dX10_where_1 rfl hl (by decide) rfl (fun ls hl => ?_)
  refine rw_iconst hx hb dX10_where_2 ?_
  refine lv_istore_n (lv' := [(2, .int (iN 0)), (1, .int (iN 0)), (0, .ref (ad 0))]) hx hb dX10_where_3 rfl hl (by decide) rfl (fun ls hl => ?_)
  exact hC_4 _ 0 0 M H locs ls (Nat.lt_succ_self _) (by omega) Same.rf (by rfl) hW (lv_sub hl [2, 1, 0] rfl)
abbrev P_X10_play (sd : Int32) (n : Int) (w : Int) (M : Mem) : Option Value → Mem → Prop := oI (fun zz MM => (((1 ≤ n ∧ n ≤ 60) ∧ 0 ≤ w ∧ w ≤ 1) ∧ zz = (if w = 0 then playP (fld M 1) sd n.toNat 27 else playC (fld M 1) sd n.toNat) ∧ Same M MM 30 8) ∨ (¬ ((1 ≤ n ∧ n ≤ 60) ∧ 0 ≤ w ∧ w ≤ 1) ∧ zz = -1 ∧ MM = M))
set_option maxRecDepth 100000 in
set_option maxHeartbeats 4000000 in
theorem c_X10_play {l : Launch} {G : va_G} {ad : Nat → Nat} {CA : Nat → ClassId} {nt : Nat} (hnt : 6 ≤ nt) (sd : Int32) (n : Int) (hn9 : in32 n) (w : Int) (hw9 : in32 w) (M : Mem) (hKI : KI M) : Mt l yX10_play cX10_play 5 (some .int) 6 127 G ad CA nt LyK [.ref (ad 0), .int sd, .int (iN n), .int (iN w)] M (P_X10_play sd n w M) := by
  refine Mt.of (by decide) (Nat.le_of_ble_eq_true rfl) (fun p e s m args below meth c hx hb hr hml hts hown hlocks hnm hW ls hl => ?_)
  have hl : lv_has ls 5 [(0, .ref (ad 0)), (1, .int sd), (2, .int (iN n)), (3, .int (iN w))] := hl
  have hnt4 : 4 ≤ nt := by omega
  obtain ⟨H, hH⟩ : ∃ z, z = s.heap := ⟨_, rfl⟩
  obtain ⟨locs, hlo⟩ : ∃ z : List Loc, z = [] := ⟨_, rfl⟩
  rw [← hH, ← hlo] at hW ⊢
  have hI := hKI.now
  have hm := hKI.min
  have hc := hI.c
  have hk := hI.k2
  have hT := hKI.told
  have hmn : fld M 1 46 ≤ 1000 := by omega
  refine lv_iload_n hx hb dX10_play_0 rfl (lv_at hl 2 rfl) ?_
  refine rw_iconst hx hb dX10_play_1 ?_
  refine rw_bipush hx hb dX10_play_2 (by decide) ?_
  refine rw_callS hx hb hml hts hown hW ⟨Nat.le_refl 0, Nat.le_refl 0⟩ [.int (iN n), .int (iN 1), .int (iN 60)] (c_X10_within (l := l) (G := G) (ad := ad) (CA := CA) (nt := nt) n 1 60 (by omega) (by omega) (by omega) M) kX10_81 rfl ⟨Nat.le_of_ble_eq_true rfl, Nat.le_of_ble_eq_true rfl⟩ hl.1 rfl (Nat.le_of_ble_eq_true rfl) dX10_play_4 (fun v1 M2 H locs hp3 hW => ?_)
  obtain ⟨a4, rfl, hp3, hp3m⟩ := hp3
  rw [hp3m] at hW
  rcases hp3 with ⟨rfl, hp3⟩ | ⟨rfl, hp3⟩
  · refine rw_stk (st' := [.int (iN 1)]) rfl ?_
    refine rw_if_eq (tgt := 19) hx hb dX10_play_7 (by decide) (by decide) (fun c => absurd c (by decide)) (fun _ => ?_)
    refine lv_iload_n hx hb dX10_play_10 rfl (lv_at hl 3 rfl) ?_
    refine rw_iconst hx hb dX10_play_11 ?_
    refine rw_iconst hx hb dX10_play_12 ?_
    refine rw_callS hx hb hml hts hown hW ⟨Nat.le_refl 0, Nat.le_refl 0⟩ [.int (iN w), .int (iN 0), .int (iN 1)] (c_X10_within (l := l) (G := G) (ad := ad) (CA := CA) (nt := nt) w 0 1 (by omega) (by omega) (by omega) M) kX10_81 rfl ⟨Nat.le_of_ble_eq_true rfl, Nat.le_of_ble_eq_true rfl⟩ hl.1 rfl (Nat.le_of_ble_eq_true rfl) dX10_play_13 (fun v5 M6 H locs hp7 hW => ?_)
    obtain ⟨a8, rfl, hp7, hp7m⟩ := hp7
    rw [hp7m] at hW
    rcases hp7 with ⟨rfl, hp7⟩ | ⟨rfl, hp7⟩
    · refine rw_stk (st' := [.int (iN 1)]) rfl ?_
      refine rw_if_ne (tgt := 21) hx hb dX10_play_16 (by decide) (by decide) (fun _ => ?_) (fun c => absurd c (by decide))
      refine lv_aload_n hx hb dX10_play_21 rfl (lv_at hl 0 rfl) ?_
      refine rw_getR hx hb hts hown hW 0 lk_0 3 29 rfl fX10_29 dX10_play_22 ?_
      refine lv_aload_n hx hb dX10_play_25 rfl (lv_at hl 0 rfl) ?_
      refine rw_getR hx hb hts hown hW 0 lk_0 0 1 rfl fX10_10 dX10_play_26 ?_
      refine lv_iload_n hx hb dX10_play_29 rfl (lv_at hl 1 rfl) ?_
      refine lv_iload_n hx hb dX10_play_30 rfl (lv_at hl 2 rfl) ?_
      refine rw_callV hx hb hml hts hown hW ⟨Nat.le_refl 0, Nat.le_refl 0⟩ [.ref (ad 1), .int sd, .int (iN n)] 29 lk_29 rfl (c_X1_minutesBySeed (l := l) (G := G) (ad := ad) (CA := CA) (nt := nt) (by omega) sd n (by omega) M hI (by omega)) kX10_259 rfl ⟨Nat.le_of_ble_eq_true rfl, Nat.le_of_ble_eq_true rfl⟩ hl.1 rfl (Nat.le_of_ble_eq_true rfl) dX10_play_31 (fun v9 M10 H locs hp11 hW => ?_)
      obtain ⟨a12, rfl, hM10⟩ := hp11
      refine rw_stk (st' := [.int (iN a12)]) rfl ?_
      refine lv_istore (lv' := [(4, .int (iN a12)), (0, .ref (ad 0)), (1, .int sd), (2, .int (iN n)), (3, .int (iN w))]) hx hb dX10_play_34 hl (by decide) rfl (fun ls hl => ?_)
      refine lv_iload_n hx hb dX10_play_36 rfl (lv_at hl 4 rfl) ?_
      refine rw_if_ne (tgt := 53) hx hb dX10_play_37 (by decide) (by omega) (fun c_37 => ?_) (fun c_37 => ?_)
      · refine lv_iload hx hb dX10_play_53 (lv_at hl 0 rfl) ?_
        refine rw_iret hx hb hr hlocks hW dX10_play_55 (⟨a12, rfl, ?_⟩)
        exact Or.inl ⟨by omega, by rw [if_neg (by omega)]; exact hM10.1, hM10.2.2⟩
      · refine lv_aload_n hx hb dX10_play_40 rfl (lv_at hl 1 rfl) ?_
        refine rw_getR hx hb hts hown hW 0 lk_0 3 29 rfl fX10_29 dX10_play_41 ?_
        refine rw_getR hx hb hts hown hW 29 lk_29 0 30 rfl fX10_262 dX10_play_44 ?_
        refine rw_getI hx hb hts hown hW 30 fk_30.1 1 1 rfl rfl fX10_117 dX10_play_47 (v := (M10 30 1)) rfl ?_
        refine lv_goto (tgt := 55) hx hb dX10_play_50 (by decide) ?_
        refine rw_iret hx hb hr hlocks hW dX10_play_55 (⟨(M10 30 1), rfl, ?_⟩)
        exact Or.inl ⟨by omega, by rw [if_pos (by omega), ← hM10.2.1]; rfl, hM10.2.2⟩
    · refine rw_stk (st' := [.int (iN 0)]) rfl ?_
      refine rw_if_ne (tgt := 21) hx hb dX10_play_16 (by decide) (by decide) (fun c => absurd c (by decide)) (fun _ => ?_)
      refine rw_iconst hx hb dX10_play_19 ?_
      refine rw_iret hx hb hr hlocks hW dX10_play_20 (⟨(-1), rfl, ?_⟩)
      exact Or.inr ⟨by omega, rfl, rfl⟩
  · refine rw_stk (st' := [.int (iN 0)]) rfl ?_
    refine rw_if_eq (tgt := 19) hx hb dX10_play_7 (by decide) (by decide) (fun _ => ?_) (fun c => absurd (by decide) c)
    refine rw_iconst hx hb dX10_play_19 ?_
    refine rw_iret hx hb hr hlocks hW dX10_play_20 (⟨(-1), rfl, ?_⟩)
    exact Or.inr ⟨by omega, rfl, rfl⟩
abbrev P_X10_odds (n : Int) (i : Int) (w : Int) (M : Mem) : Option Value → Mem → Prop := oL (fun zz MM => (((0 ≤ n ∧ n ≤ 8) ∧ ((0 ≤ i ∧ i < M 1 0) ∨ i = 20 ∨ i = 21) ∧ 0 ≤ w ∧ w ≤ 1) ∧ zz = fracF (brS n.toNat (fld M 1) 1 (spotF (fld M 1) i)) (pow8 n) w ∧ Same M MM 38 84) ∨ (¬ ((0 ≤ n ∧ n ≤ 8) ∧ ((0 ≤ i ∧ i < M 1 0) ∨ i = 20 ∨ i = 21) ∧ 0 ≤ w ∧ w ≤ 1) ∧ zz = -1 ∧ MM = M))
set_option maxRecDepth 100000 in
set_option maxHeartbeats 4000000 in
theorem c_X10_odds {l : Launch} {G : va_G} {ad : Nat → Nat} {CA : Nat → ClassId} {nt : Nat} (hnt : 6 ≤ nt) (n : Int) (hn9 : in32 n) (i : Int) (hi9 : in32 i) (w : Int) (hw9 : in32 w) (M : Mem) (hKI : KI M) : Mt l yX10_odds cX10_odds 4 (some .long) 15 360 G ad CA nt LyK [.ref (ad 0), .int (iN n), .int (iN i), .int (iN w)] M (P_X10_odds n i w M) := by
  refine Mt.of (by decide) (Nat.le_of_ble_eq_true rfl) (fun p e s m args below meth c hx hb hr hml hts hown hlocks hnm hW ls hl => ?_)
  have hl : lv_has ls 4 [(0, .ref (ad 0)), (1, .int (iN n)), (2, .int (iN i)), (3, .int (iN w))] := hl
  have hnt4 : 4 ≤ nt := by omega
  obtain ⟨H, hH⟩ : ∃ z, z = s.heap := ⟨_, rfl⟩
  obtain ⟨locs, hlo⟩ : ∃ z : List Loc, z = [] := ⟨_, rfl⟩
  rw [← hH, ← hlo] at hW ⊢
  have hI := hKI.now
  have hm := hKI.min
  have hc := hI.c
  have hk := hI.k2
  have hT := hKI.told
  have hmn : fld M 1 46 ≤ 1000 := by omega
  refine lv_iload_n hx hb dX10_odds_0 rfl (lv_at hl 1 rfl) ?_
  refine rw_iconst hx hb dX10_odds_1 ?_
  refine rw_bipush hx hb dX10_odds_2 (by decide) ?_
  refine rw_callS hx hb hml hts hown hW ⟨Nat.le_refl 0, Nat.le_refl 0⟩ [.int (iN n), .int (iN 0), .int (iN 8)] (c_X10_within (l := l) (G := G) (ad := ad) (CA := CA) (nt := nt) n 0 8 (by omega) (by omega) (by omega) M) kX10_81 rfl ⟨Nat.le_of_ble_eq_true rfl, Nat.le_of_ble_eq_true rfl⟩ hl.1 rfl (Nat.le_of_ble_eq_true rfl) dX10_odds_4 (fun v1 M2 H locs hp3 hW => ?_)
  obtain ⟨a4, rfl, hp3, hp3m⟩ := hp3
  rw [hp3m] at hW
  rcases hp3 with ⟨rfl, hp3⟩ | ⟨rfl, hp3⟩
  · refine rw_stk (st' := [.int (iN 1)]) rfl ?_
    refine rw_if_eq (tgt := 30) hx hb dX10_odds_7 (by decide) (by decide) (fun c => absurd c (by decide)) (fun _ => ?_)
    refine lv_aload_n hx hb dX10_odds_10 rfl (lv_at hl 0 rfl) ?_
    refine rw_getR hx hb hts hown hW 0 lk_0 0 1 rfl fX10_10 dX10_odds_11 ?_
    refine lv_iload_n hx hb dX10_odds_14 rfl (lv_at hl 2 rfl) ?_
    refine rw_callV hx hb hml hts hown hW ⟨Nat.le_refl 0, Nat.le_refl 0⟩ [.int (iN i)] 1 fk_1.1 rfl (c_X0_hasPlace (l := l) (G := G) (ad := ad) (CA := CA) (nt := nt) 1 fk_1 i (by omega) M hc) kX10_205 rfl ⟨Nat.le_of_ble_eq_true rfl, Nat.le_of_ble_eq_true rfl⟩ hl.1 rfl (Nat.le_of_ble_eq_true rfl) dX10_odds_15 (fun v5 M6 H locs hp7 hW => ?_)
    obtain ⟨a8, rfl, hp7, hp7m⟩ := hp7
    rw [hp7m] at hW
    rcases hp7 with ⟨rfl, hp7⟩ | ⟨rfl, hp7⟩
    · refine rw_stk (st' := [.int (iN 1)]) rfl ?_
      refine rw_if_eq (tgt := 30) hx hb dX10_odds_18 (by decide) (by decide) (fun c => absurd c (by decide)) (fun _ => ?_)
      refine lv_iload_n hx hb dX10_odds_21 rfl (lv_at hl 3 rfl) ?_
      refine rw_iconst hx hb dX10_odds_22 ?_
      refine rw_iconst hx hb dX10_odds_23 ?_
      refine rw_callS hx hb hml hts hown hW ⟨Nat.le_refl 0, Nat.le_refl 0⟩ [.int (iN w), .int (iN 0), .int (iN 1)] (c_X10_within (l := l) (G := G) (ad := ad) (CA := CA) (nt := nt) w 0 1 (by omega) (by omega) (by omega) M) kX10_81 rfl ⟨Nat.le_of_ble_eq_true rfl, Nat.le_of_ble_eq_true rfl⟩ hl.1 rfl (Nat.le_of_ble_eq_true rfl) dX10_odds_24 (fun v9 M10 H locs hp11 hW => ?_)
      obtain ⟨a12, rfl, hp11, hp11m⟩ := hp11
      rw [hp11m] at hW
      rcases hp11 with ⟨rfl, hp11⟩ | ⟨rfl, hp11⟩
      · refine rw_stk (st' := [.int (iN 1)]) rfl ?_
        refine rw_if_ne (tgt := 34) hx hb dX10_odds_27 (by decide) (by decide) (fun _ => ?_) (fun c => absurd c (by decide))
        refine lv_aload_n hx hb dX10_odds_34 rfl (lv_at hl 0 rfl) ?_
        refine rw_getR hx hb hts hown hW 0 lk_0 4 38 rfl fX10_36 dX10_odds_35 ?_
        refine lv_aload_n hx hb dX10_odds_38 rfl (lv_at hl 0 rfl) ?_
        refine rw_getR hx hb hts hown hW 0 lk_0 0 1 rfl fX10_10 dX10_odds_39 ?_
        refine lv_iload_n hx hb dX10_odds_42 rfl (lv_at hl 1 rfl) ?_
        refine rw_callV hx hb hml hts hown hW ⟨Nat.le_refl 0, Nat.le_refl 0⟩ [.ref (ad 1), .int (iN n)] 38 lk_38 rfl (c_X2_weigh (l := l) (G := G) (ad := ad) (CA := CA) (nt := nt) (by omega) n (by omega) M hI (by omega)) kX10_210 rfl ⟨Nat.le_of_ble_eq_true rfl, Nat.le_of_ble_eq_true rfl⟩ hl.1 rfl (Nat.le_of_ble_eq_true rfl) dX10_odds_43 (fun v13 M14 H locs hp15 hW => ?_)
        obtain ⟨rfl, hM14⟩ := hp15
        refine rw_stk (st' := []) rfl ?_
        refine lv_aload_n hx hb dX10_odds_46 rfl (lv_at hl 0 rfl) ?_
        refine rw_getR hx hb hts hown hW 0 lk_0 4 38 rfl fX10_36 dX10_odds_47 ?_
        refine lv_aload_n hx hb dX10_odds_50 rfl (lv_at hl 0 rfl) ?_
        refine rw_getR hx hb hts hown hW 0 lk_0 0 1 rfl fX10_10 dX10_odds_51 ?_
        refine lv_iload_n hx hb dX10_odds_54 rfl (lv_at hl 2 rfl) ?_
        refine rw_callV hx hb hml hts hown hW ⟨Nat.le_refl 0, Nat.le_refl 0⟩ [.int (iN i)] 1 fk_1.1 rfl (c_X0_spotOf (l := l) (G := G) (ad := ad) (CA := CA) (nt := nt) 1 fk_1 i (by omega) M14) kX10_214 rfl ⟨Nat.le_of_ble_eq_true rfl, Nat.le_of_ble_eq_true rfl⟩ hl.1 rfl (Nat.le_of_ble_eq_true rfl) dX10_odds_55 (fun v16 M17 H locs hp18 hW => ?_)
        obtain ⟨_, rfl, rfl, hp18⟩ := hp18
        rw [hp18] at hW
        refine rw_stk (st' := [.int (iN (spotF (fld M14 1) i)), .ref (ad 38)]) rfl ?_
        have hnow : fld M14 1 = fld M 1 := fld_same hM14.2.2 (by decide)
        rw [hnow]
        have hspr := spotF_pl (f := fld M 1) hc (i := i) (by rw [fld_47]; omega)
        have hshr : M14 121 (spotF (fld M 1) i) = brS n.toNat (fld M 1) 1 (spotF (fld M 1) i) := hM14.2.1 _ hspr.1 (by omega)
        have hwh : M14 38 2 = pow8 n := hM14.1
        refine rw_callV hx hb hml hts hown hW ⟨Nat.le_refl 0, Nat.le_refl 0⟩ [.int (iN (spotF (fld M 1) i))] 38 lk_38 rfl (c_X2_shareOf (l := l) (G := G) (ad := ad) (CA := CA) (nt := nt) (by omega) (spotF (fld M 1) i) hspr M14) kX10_217 rfl ⟨Nat.le_of_ble_eq_true rfl, Nat.le_of_ble_eq_true rfl⟩ hl.1 rfl (Nat.le_of_ble_eq_true rfl) dX10_odds_58 (fun v19 M20 H locs hp21 hW => ?_)
        obtain ⟨_, rfl, rfl, hp21⟩ := hp21
        rw [hp21] at hW
        refine rw_stk (st' := [.long (jN (M14 121 (spotF (fld M 1) i)))]) rfl ?_
        refine lv_aload_n hx hb dX10_odds_61 rfl (lv_at hl 0 rfl) ?_
        refine rw_getR hx hb hts hown hW 0 lk_0 4 38 rfl fX10_36 dX10_odds_62 ?_
        refine rw_getL hx hb hts hown hW 38 lk_38 2 2 rfl rfl fX10_221 dX10_odds_65 (v := (M14 38 2)) rfl ?_
        refine lv_iload_n hx hb dX10_odds_68 rfl (lv_at hl 3 rfl) ?_
        refine rw_callS hx hb hml hts hown hW ⟨Nat.le_refl 0, Nat.le_refl 0⟩ [.long (jN (M14 121 (spotF (fld M 1) i))), .long (jN (M14 38 2)), .int (iN w)] (c_X10_fraction (l := l) (G := G) (ad := ad) (CA := CA) (nt := nt) (M14 121 (spotF (fld M 1) i)) (M14 38 2) w (by rw [hshr]; have := brS_top hI (n := n) (by omega) (spotF (fld M 1) i); omega) (by rw [hwh]; have := pow8_rng (n := n) (by omega); omega) (by omega) M14) kX10_225 rfl ⟨Nat.le_of_ble_eq_true rfl, Nat.le_of_ble_eq_true rfl⟩ hl.1 rfl (Nat.le_of_ble_eq_true rfl) dX10_odds_69 (fun v22 M23 H locs hp24 hW => ?_)
        obtain ⟨_, rfl, rfl, hp24⟩ := hp24
        rw [hp24] at hW
        refine rw_stk (st' := [.long (jN (fracF (M14 121 (spotF (fld M 1) i)) (M14 38 2) w))]) rfl ?_
        refine rw_lret hx hb hr hlocks hW dX10_odds_72 (⟨fracF (M14 121 (spotF (fld M 1) i)) (M14 38 2) w, rfl, ?_⟩)
        exact Or.inl ⟨by omega, by rw [hshr, hwh], hM14.2.2⟩
      · refine rw_stk (st' := [.int (iN 0)]) rfl ?_
        refine rw_if_ne (tgt := 34) hx hb dX10_odds_27 (by decide) (by decide) (fun c => absurd c (by decide)) (fun _ => ?_)
        refine lv_ldc2 (v := (-1)) hx hb hown (hts _ (wm_32 _ (List.mem_of_getElem? (i := 15) rfl))) dX10_odds_30 ?_
        refine rw_stk (st' := [.long (jN (-1))]) (by rw [show (-1 : Int64) = jN (-1) from by decide]) ?_
        refine rw_lret hx hb hr hlocks hW dX10_odds_33 (⟨(-1), rfl, ?_⟩)
        exact Or.inr ⟨by omega, rfl, rfl⟩
    · refine rw_stk (st' := [.int (iN 0)]) rfl ?_
      refine rw_if_eq (tgt := 30) hx hb dX10_odds_18 (by decide) (by decide) (fun _ => ?_) (fun c => absurd (by decide) c)
      refine lv_ldc2 (v := (-1)) hx hb hown (hts _ (wm_32 _ (List.mem_of_getElem? (i := 15) rfl))) dX10_odds_30 ?_
      refine rw_stk (st' := [.long (jN (-1))]) (by rw [show (-1 : Int64) = jN (-1) from by decide]) ?_
      refine rw_lret hx hb hr hlocks hW dX10_odds_33 (⟨(-1), rfl, ?_⟩)
      exact Or.inr ⟨by omega, rfl, rfl⟩
  · refine rw_stk (st' := [.int (iN 0)]) rfl ?_
    refine rw_if_eq (tgt := 30) hx hb dX10_odds_7 (by decide) (by decide) (fun _ => ?_) (fun c => absurd (by decide) c)
    refine lv_ldc2 (v := (-1)) hx hb hown (hts _ (wm_32 _ (List.mem_of_getElem? (i := 15) rfl))) dX10_odds_30 ?_
    refine rw_stk (st' := [.long (jN (-1))]) (by rw [show (-1 : Int64) = jN (-1) from by decide]) ?_
    refine rw_lret hx hb hr hlocks hW dX10_odds_33 (⟨(-1), rfl, ?_⟩)
    exact Or.inr ⟨by omega, rfl, rfl⟩
abbrev P_X10_mean (n : Int) (w : Int) (M : Mem) : Option Value → Mem → Prop := oL (fun zz MM => (((0 ≤ n ∧ n ≤ 8) ∧ 0 ≤ w ∧ w ≤ 1) ∧ zz = fracF (sumTo (brS n.toNat (fld M 1) 1) 11) (pow8 n) w ∧ Same M MM 38 84) ∨ (¬ ((0 ≤ n ∧ n ≤ 8) ∧ 0 ≤ w ∧ w ≤ 1) ∧ zz = -1 ∧ MM = M))
set_option maxRecDepth 100000 in
set_option maxHeartbeats 4000000 in
theorem c_X10_mean {l : Launch} {G : va_G} {ad : Nat → Nat} {CA : Nat → ClassId} {nt : Nat} (hnt : 6 ≤ nt) (n : Int) (hn9 : in32 n) (w : Int) (hw9 : in32 w) (M : Mem) (hKI : KI M) : Mt l yX10_mean cX10_mean 3 (some .long) 15 360 G ad CA nt LyK [.ref (ad 0), .int (iN n), .int (iN w)] M (P_X10_mean n w M) := by
  refine Mt.of (by decide) (Nat.le_of_ble_eq_true rfl) (fun p e s m args below meth c hx hb hr hml hts hown hlocks hnm hW ls hl => ?_)
  have hl : lv_has ls 3 [(0, .ref (ad 0)), (1, .int (iN n)), (2, .int (iN w))] := hl
  have hnt4 : 4 ≤ nt := by omega
  obtain ⟨H, hH⟩ : ∃ z, z = s.heap := ⟨_, rfl⟩
  obtain ⟨locs, hlo⟩ : ∃ z : List Loc, z = [] := ⟨_, rfl⟩
  rw [← hH, ← hlo] at hW ⊢
  have hI := hKI.now
  have hm := hKI.min
  have hc := hI.c
  have hk := hI.k2
  have hT := hKI.told
  have hmn : fld M 1 46 ≤ 1000 := by omega
  refine lv_iload_n hx hb dX10_mean_0 rfl (lv_at hl 1 rfl) ?_
  refine rw_iconst hx hb dX10_mean_1 ?_
  refine rw_bipush hx hb dX10_mean_2 (by decide) ?_
  refine rw_callS hx hb hml hts hown hW ⟨Nat.le_refl 0, Nat.le_refl 0⟩ [.int (iN n), .int (iN 0), .int (iN 8)] (c_X10_within (l := l) (G := G) (ad := ad) (CA := CA) (nt := nt) n 0 8 (by omega) (by omega) (by omega) M) kX10_81 rfl ⟨Nat.le_of_ble_eq_true rfl, Nat.le_of_ble_eq_true rfl⟩ hl.1 rfl (Nat.le_of_ble_eq_true rfl) dX10_mean_4 (fun v1 M2 H locs hp3 hW => ?_)
  obtain ⟨a4, rfl, hp3, hp3m⟩ := hp3
  rw [hp3m] at hW
  rcases hp3 with ⟨rfl, hp3⟩ | ⟨rfl, hp3⟩
  · refine rw_stk (st' := [.int (iN 1)]) rfl ?_
    refine rw_if_eq (tgt := 19) hx hb dX10_mean_7 (by decide) (by decide) (fun c => absurd c (by decide)) (fun _ => ?_)
    refine lv_iload_n hx hb dX10_mean_10 rfl (lv_at hl 2 rfl) ?_
    refine rw_iconst hx hb dX10_mean_11 ?_
    refine rw_iconst hx hb dX10_mean_12 ?_
    refine rw_callS hx hb hml hts hown hW ⟨Nat.le_refl 0, Nat.le_refl 0⟩ [.int (iN w), .int (iN 0), .int (iN 1)] (c_X10_within (l := l) (G := G) (ad := ad) (CA := CA) (nt := nt) w 0 1 (by omega) (by omega) (by omega) M) kX10_81 rfl ⟨Nat.le_of_ble_eq_true rfl, Nat.le_of_ble_eq_true rfl⟩ hl.1 rfl (Nat.le_of_ble_eq_true rfl) dX10_mean_13 (fun v5 M6 H locs hp7 hW => ?_)
    obtain ⟨a8, rfl, hp7, hp7m⟩ := hp7
    rw [hp7m] at hW
    rcases hp7 with ⟨rfl, hp7⟩ | ⟨rfl, hp7⟩
    · refine rw_stk (st' := [.int (iN 1)]) rfl ?_
      refine rw_if_ne (tgt := 23) hx hb dX10_mean_16 (by decide) (by decide) (fun _ => ?_) (fun c => absurd c (by decide))
      refine lv_aload_n hx hb dX10_mean_23 rfl (lv_at hl 0 rfl) ?_
      refine rw_getR hx hb hts hown hW 0 lk_0 4 38 rfl fX10_36 dX10_mean_24 ?_
      refine lv_aload_n hx hb dX10_mean_27 rfl (lv_at hl 0 rfl) ?_
      refine rw_getR hx hb hts hown hW 0 lk_0 0 1 rfl fX10_10 dX10_mean_28 ?_
      refine lv_iload_n hx hb dX10_mean_31 rfl (lv_at hl 1 rfl) ?_
      refine rw_callV hx hb hml hts hown hW ⟨Nat.le_refl 0, Nat.le_refl 0⟩ [.ref (ad 1), .int (iN n)] 38 lk_38 rfl (c_X2_weigh (l := l) (G := G) (ad := ad) (CA := CA) (nt := nt) (by omega) n (by omega) M hI (by omega)) kX10_210 rfl ⟨Nat.le_of_ble_eq_true rfl, Nat.le_of_ble_eq_true rfl⟩ hl.1 rfl (Nat.le_of_ble_eq_true rfl) dX10_mean_32 (fun v9 M10 H locs hp11 hW => ?_)
      obtain ⟨rfl, hM10⟩ := hp11
      refine rw_stk (st' := []) rfl ?_
      refine lv_aload_n hx hb dX10_mean_35 rfl (lv_at hl 0 rfl) ?_
      refine rw_getR hx hb hts hown hW 0 lk_0 4 38 rfl fX10_36 dX10_mean_36 ?_
      refine rw_callV hx hb hml hts hown hW ⟨Nat.le_refl 0, Nat.le_refl 0⟩ [] 38 lk_38 rfl (c_X2_sumOfSpots (l := l) (G := G) (ad := ad) (CA := CA) (nt := nt) (by omega) M10) kX10_229 rfl ⟨Nat.le_of_ble_eq_true rfl, Nat.le_of_ble_eq_true rfl⟩ hl.1 rfl (Nat.le_of_ble_eq_true rfl) dX10_mean_39 (fun v12 M13 H locs hp14 hW => ?_)
      obtain ⟨_, rfl, rfl, hp14⟩ := hp14
      rw [hp14] at hW
      refine rw_stk (st' := [.long (jN (sumTo (M10 121) 11))]) rfl ?_
      refine lv_aload_n hx hb dX10_mean_42 rfl (lv_at hl 0 rfl) ?_
      refine rw_getR hx hb hts hown hW 0 lk_0 4 38 rfl fX10_36 dX10_mean_43 ?_
      refine rw_getL hx hb hts hown hW 38 lk_38 2 2 rfl rfl fX10_221 dX10_mean_46 (v := (M10 38 2)) rfl ?_
      have hsum : sumTo (M10 121) 11 = sumTo (brS n.toNat (fld M 1) 1) 11 := sumTo_congr 11 (fun i h1 h2 => hM10.2.1 i h1 h2)
      have hwh : M10 38 2 = pow8 n := hM10.1
      refine lv_iload_n hx hb dX10_mean_49 rfl (lv_at hl 2 rfl) ?_
      refine rw_callS hx hb hml hts hown hW ⟨Nat.le_refl 0, Nat.le_refl 0⟩ [.long (jN (sumTo (M10 121) 11)), .long (jN (M10 38 2)), .int (iN w)] (c_X10_fraction (l := l) (G := G) (ad := ad) (CA := CA) (nt := nt) (sumTo (M10 121) 11) (M10 38 2) w (by rw [hsum]; have := sumTo_rng (fun i => brS_top hI (n := n) (by omega) i); omega) (by rw [hwh]; have := pow8_rng (n := n) (by omega); omega) (by omega) M10) kX10_225 rfl ⟨Nat.le_of_ble_eq_true rfl, Nat.le_of_ble_eq_true rfl⟩ hl.1 rfl (Nat.le_of_ble_eq_true rfl) dX10_mean_50 (fun v15 M16 H locs hp17 hW => ?_)
      obtain ⟨_, rfl, rfl, hp17⟩ := hp17
      rw [hp17] at hW
      refine rw_stk (st' := [.long (jN (fracF (sumTo (M10 121) 11) (M10 38 2) w))]) rfl ?_
      refine rw_lret hx hb hr hlocks hW dX10_mean_53 (⟨fracF (sumTo (M10 121) 11) (M10 38 2) w, rfl, ?_⟩)
      exact Or.inl ⟨by omega, by rw [hsum, hwh], hM10.2.2⟩
    · refine rw_stk (st' := [.int (iN 0)]) rfl ?_
      refine rw_if_ne (tgt := 23) hx hb dX10_mean_16 (by decide) (by decide) (fun c => absurd c (by decide)) (fun _ => ?_)
      refine lv_ldc2 (v := (-1)) hx hb hown (hts _ (wm_32 _ (List.mem_of_getElem? (i := 15) rfl))) dX10_mean_19 ?_
      refine rw_stk (st' := [.long (jN (-1))]) (by rw [show (-1 : Int64) = jN (-1) from by decide]) ?_
      refine rw_lret hx hb hr hlocks hW dX10_mean_22 (⟨(-1), rfl, ?_⟩)
      exact Or.inr ⟨by omega, rfl, rfl⟩
  · refine rw_stk (st' := [.int (iN 0)]) rfl ?_
    refine rw_if_eq (tgt := 19) hx hb dX10_mean_7 (by decide) (by decide) (fun _ => ?_) (fun c => absurd (by decide) c)
    refine lv_ldc2 (v := (-1)) hx hb hown (hts _ (wm_32 _ (List.mem_of_getElem? (i := 15) rfl))) dX10_mean_19 ?_
    refine rw_stk (st' := [.long (jN (-1))]) (by rw [show (-1 : Int64) = jN (-1) from by decide]) ?_
    refine rw_lret hx hb hr hlocks hW dX10_mean_22 (⟨(-1), rfl, ?_⟩)
    exact Or.inr ⟨by omega, rfl, rfl⟩
abbrev P_X10_reply (sx : Int) (n : Int) (w : Int) (M : Mem) : Option Value → Mem → Prop := oI (fun zz MM => (((sx = 0 ∨ sx = 1) ∧ (1 ≤ n ∧ n ≤ 4) ∧ (w = 0 ∨ (10 ≤ w ∧ w ≤ 9 + n))) ∧ M 1 1 < M 1 0 ∧ (∃ (pt : Int → Int) (b : Int → Int) (g : Int), zz = (if w = 0 then (srch sx n.toNat 0 (fld M 1) pt (11, g, b)).2.1 else (srch sx n.toNat 0 (fld M 1) pt (11, g, b)).2.2 (w - 10))) ∧ Same M MM 122 85) ∨ (((sx = 0 ∨ sx = 1) ∧ (1 ≤ n ∧ n ≤ 4) ∧ (w = 0 ∨ (10 ≤ w ∧ w ≤ 9 + n))) ∧ M 1 0 ≤ M 1 1 ∧ zz = -2 ∧ MM = M) ∨ (¬ ((sx = 0 ∨ sx = 1) ∧ (1 ≤ n ∧ n ≤ 4) ∧ (w = 0 ∨ (10 ≤ w ∧ w ≤ 9 + n))) ∧ zz = -1 ∧ MM = M))
set_option maxRecDepth 100000 in
set_option maxHeartbeats 4000000 in
theorem c_X10_reply {l : Launch} {G : va_G} {ad : Nat → Nat} {CA : Nat → ClassId} {nt : Nat} (hnt : 6 ≤ nt) (sx : Int) (hsx9 : in32 sx) (n : Int) (hn9 : in32 n) (w : Int) (hw9 : in32 w) (M : Mem) (hKI : KI M) : Mt l yX10_reply cX10_reply 4 (some .int) 11 258 G ad CA nt LyK [.ref (ad 0), .int (iN sx), .int (iN n), .int (iN w)] M (P_X10_reply sx n w M) := by
  refine Mt.of (by decide) (Nat.le_of_ble_eq_true rfl) (fun p e s m args below meth c hx hb hr hml hts hown hlocks hnm hW ls hl => ?_)
  have hl : lv_has ls 4 [(0, .ref (ad 0)), (1, .int (iN sx)), (2, .int (iN n)), (3, .int (iN w))] := hl
  have hnt4 : 4 ≤ nt := by omega
  obtain ⟨H, hH⟩ : ∃ z, z = s.heap := ⟨_, rfl⟩
  obtain ⟨locs, hlo⟩ : ∃ z : List Loc, z = [] := ⟨_, rfl⟩
  rw [← hH, ← hlo] at hW ⊢
  have hI := hKI.now
  have hm := hKI.min
  have hc := hI.c
  have hk := hI.k2
  have hT := hKI.told
  have hmn : fld M 1 46 ≤ 1000 := by omega
  refine lv_iload_n hx hb dX10_reply_0 rfl (lv_at hl 1 rfl) ?_
  refine rw_callS hx hb hml hts hown hW ⟨Nat.le_refl 0, Nat.le_refl 0⟩ [.int (iN sx)] (c_X10_isSide (l := l) (G := G) (ad := ad) (CA := CA) (nt := nt) sx (by omega) M) kX10_143 rfl ⟨Nat.le_of_ble_eq_true rfl, Nat.le_of_ble_eq_true rfl⟩ hl.1 rfl (Nat.le_of_ble_eq_true rfl) dX10_reply_1 (fun v1 M2 H locs hp3 hW => ?_)
  obtain ⟨a4, rfl, hp3, hp3m⟩ := hp3
  rw [hp3m] at hW
  rcases hp3 with ⟨rfl, hp3⟩ | ⟨rfl, hp3⟩
  · refine rw_stk (st' := [.int (iN 1)]) rfl ?_
    refine rw_if_eq (tgt := 33) hx hb dX10_reply_4 (by decide) (by decide) (fun c => absurd c (by decide)) (fun _ => ?_)
    refine lv_iload_n hx hb dX10_reply_7 rfl (lv_at hl 2 rfl) ?_
    refine rw_iconst hx hb dX10_reply_8 ?_
    refine rw_iconst hx hb dX10_reply_9 ?_
    refine rw_callS hx hb hml hts hown hW ⟨Nat.le_refl 0, Nat.le_refl 0⟩ [.int (iN n), .int (iN 1), .int (iN 4)] (c_X10_within (l := l) (G := G) (ad := ad) (CA := CA) (nt := nt) n 1 4 (by omega) (by omega) (by omega) M) kX10_81 rfl ⟨Nat.le_of_ble_eq_true rfl, Nat.le_of_ble_eq_true rfl⟩ hl.1 rfl (Nat.le_of_ble_eq_true rfl) dX10_reply_10 (fun v5 M6 H locs hp7 hW => ?_)
    obtain ⟨a8, rfl, hp7, hp7m⟩ := hp7
    rw [hp7m] at hW
    rcases hp7 with ⟨rfl, hp7⟩ | ⟨rfl, hp7⟩
    · refine rw_stk (st' := [.int (iN 1)]) rfl ?_
      refine rw_if_eq (tgt := 33) hx hb dX10_reply_13 (by decide) (by decide) (fun c => absurd c (by decide)) (fun _ => ?_)
      refine lv_iload_n hx hb dX10_reply_16 rfl (lv_at hl 3 rfl) ?_
      refine rw_if_eq (tgt := 35) hx hb dX10_reply_17 (by decide) (by omega) (fun c_17 => ?_) (fun c_17 => ?_)
      · refine lv_aload_n hx hb dX10_reply_35 rfl (lv_at hl 0 rfl) ?_
        refine rw_getR hx hb hts hown hW 0 lk_0 0 1 rfl fX10_10 dX10_reply_36 ?_
        refine rw_callV hx hb hml hts hown hW ⟨Nat.le_refl 0, Nat.le_refl 0⟩ [] 1 fk_1.1 rfl (c_X0_isOver (l := l) (G := G) (ad := ad) (CA := CA) (nt := nt) 1 fk_1 M hc hk) kX10_179 rfl ⟨Nat.le_of_ble_eq_true rfl, Nat.le_of_ble_eq_true rfl⟩ hl.1 rfl (Nat.le_of_ble_eq_true rfl) dX10_reply_39 (fun v9 M10 H locs hp11 hW => ?_)
        obtain ⟨a12, rfl, hp11, hp11m⟩ := hp11
        rw [hp11m] at hW
        rcases hp11 with ⟨rfl, hp11⟩ | ⟨rfl, hp11⟩
        · refine rw_stk (st' := [.int (iN 1)]) rfl ?_
          refine rw_if_eq (tgt := 48) hx hb dX10_reply_42 (by decide) (by decide) (fun c => absurd c (by decide)) (fun _ => ?_)
          refine rw_bipush hx hb dX10_reply_45 (by decide) ?_
          refine rw_iret hx hb hr hlocks hW dX10_reply_47 (⟨(-2), rfl, ?_⟩)
          exact Or.inr (Or.inl ⟨by omega, by omega, rfl, rfl⟩)
        · refine rw_stk (st' := [.int (iN 0)]) rfl ?_
          refine rw_if_eq (tgt := 48) hx hb dX10_reply_42 (by decide) (by decide) (fun _ => ?_) (fun c => absurd (by decide) c)
          refine lv_aload_n hx hb dX10_reply_48 rfl (lv_at hl 0 rfl) ?_
          refine rw_getR hx hb hts hown hW 0 lk_0 5 122 rfl fX10_43 dX10_reply_49 ?_
          refine lv_aload_n hx hb dX10_reply_52 rfl (lv_at hl 0 rfl) ?_
          refine rw_getR hx hb hts hown hW 0 lk_0 0 1 rfl fX10_10 dX10_reply_53 ?_
          refine lv_iload_n hx hb dX10_reply_56 rfl (lv_at hl 1 rfl) ?_
          refine lv_iload_n hx hb dX10_reply_57 rfl (lv_at hl 2 rfl) ?_
          refine rw_callV hx hb hml hts hown hW ⟨Nat.le_refl 0, Nat.le_refl 0⟩ [.ref (ad 1), .int (iN sx), .int (iN n)] 122 lk_122 rfl (c_X4_seek (l := l) (G := G) (ad := ad) (CA := CA) (nt := nt) (by omega) sx (by omega) n (by omega) M hI hmn) kX10_233 rfl ⟨Nat.le_of_ble_eq_true rfl, Nat.le_of_ble_eq_true rfl⟩ hl.1 rfl (Nat.le_of_ble_eq_true rfl) dX10_reply_58 (fun v13 M14 H locs hp15 hW => ?_)
          obtain ⟨rfl, hM14⟩ := hp15
          refine rw_stk (st' := []) rfl ?_
          refine lv_iload_n hx hb dX10_reply_61 rfl (lv_at hl 3 rfl) ?_
          refine rw_if_ne (tgt := 75) hx hb dX10_reply_62 (by decide) (by omega) (fun c_62 => ?_) (fun c_62 => ?_)
          · refine lv_aload_n hx hb dX10_reply_75 rfl (lv_at hl 0 rfl) ?_
            refine rw_getR hx hb hts hown hW 0 lk_0 5 122 rfl fX10_43 dX10_reply_76 ?_
            refine lv_iload_n hx hb dX10_reply_79 rfl (lv_at hl 3 rfl) ?_
            refine rw_bipush hx hb dX10_reply_80 (by decide) ?_
            refine rw_isub hx hb dX10_reply_82 ?_
            refine rw_callV hx hb hml hts hown hW ⟨Nat.le_refl 0, Nat.le_refl 0⟩ [.int (iN (w - 10))] 122 lk_122 rfl (c_X4_sentIn (l := l) (G := G) (ad := ad) (CA := CA) (nt := nt) (by omega) (w - 10) (by omega) M14) kX10_238 rfl ⟨Nat.le_of_ble_eq_true rfl, Nat.le_of_ble_eq_true rfl⟩ hl.1 rfl (Nat.le_of_ble_eq_true rfl) dX10_reply_83 (fun v16 M17 H locs hp18 hW => ?_)
            obtain ⟨_, rfl, rfl, hp18⟩ := hp18
            rw [hp18] at hW
            refine rw_stk (st' := [.int (iN (M14 206 (w - 10)))]) rfl ?_
            refine rw_iret hx hb hr hlocks hW dX10_reply_86 (⟨M14 206 (w - 10), rfl, ?_⟩)
            obtain ⟨⟨pt, b, g, q1, q2⟩, q3⟩ := hM14
            exact Or.inl ⟨by omega, by omega, ⟨pt, b, g, by rw [if_neg (by omega), ← q2 (w - 10) (by omega) (by omega)]⟩, q3⟩
          · refine lv_aload_n hx hb dX10_reply_65 rfl (lv_at hl 0 rfl) ?_
            refine rw_getR hx hb hts hown hW 0 lk_0 5 122 rfl fX10_43 dX10_reply_66 ?_
            refine rw_getI hx hb hts hown hW 122 lk_122 6 6 rfl rfl fX10_237 dX10_reply_69 (v := (M14 122 6)) rfl ?_
            refine lv_goto (tgt := 86) hx hb dX10_reply_72 (by decide) ?_
            refine rw_iret hx hb hr hlocks hW dX10_reply_86 (⟨(M14 122 6), rfl, ?_⟩)
            obtain ⟨⟨pt, b, g, q1, q2⟩, q3⟩ := hM14
            exact Or.inl ⟨by omega, by omega, ⟨pt, b, g, by rw [if_pos (by omega), ← q1]⟩, q3⟩
      · refine lv_iload_n hx hb dX10_reply_20 rfl (lv_at hl 3 rfl) ?_
        refine rw_bipush hx hb dX10_reply_21 (by decide) ?_
        refine rw_bipush hx hb dX10_reply_23 (by decide) ?_
        refine lv_iload_n hx hb dX10_reply_25 rfl (lv_at hl 2 rfl) ?_
        refine rw_iadd hx hb dX10_reply_26 ?_
        refine rw_callS hx hb hml hts hown hW ⟨Nat.le_refl 0, Nat.le_refl 0⟩ [.int (iN w), .int (iN 10), .int (iN (9 + n))] (c_X10_within (l := l) (G := G) (ad := ad) (CA := CA) (nt := nt) w 10 (9 + n) (by omega) (by omega) (by omega) M) kX10_81 rfl ⟨Nat.le_of_ble_eq_true rfl, Nat.le_of_ble_eq_true rfl⟩ hl.1 rfl (Nat.le_of_ble_eq_true rfl) dX10_reply_27 (fun v19 M20 H locs hp21 hW => ?_)
        obtain ⟨a22, rfl, hp21, hp21m⟩ := hp21
        rw [hp21m] at hW
        rcases hp21 with ⟨rfl, hp21⟩ | ⟨rfl, hp21⟩
        · refine rw_stk (st' := [.int (iN 1)]) rfl ?_
          refine rw_if_ne (tgt := 35) hx hb dX10_reply_30 (by decide) (by decide) (fun _ => ?_) (fun c => absurd c (by decide))
          refine lv_aload_n hx hb dX10_reply_35 rfl (lv_at hl 0 rfl) ?_
          refine rw_getR hx hb hts hown hW 0 lk_0 0 1 rfl fX10_10 dX10_reply_36 ?_
          refine rw_callV hx hb hml hts hown hW ⟨Nat.le_refl 0, Nat.le_refl 0⟩ [] 1 fk_1.1 rfl (c_X0_isOver (l := l) (G := G) (ad := ad) (CA := CA) (nt := nt) 1 fk_1 M hc hk) kX10_179 rfl ⟨Nat.le_of_ble_eq_true rfl, Nat.le_of_ble_eq_true rfl⟩ hl.1 rfl (Nat.le_of_ble_eq_true rfl) dX10_reply_39 (fun v23 M24 H locs hp25 hW => ?_)
          obtain ⟨a26, rfl, hp25, hp25m⟩ := hp25
          rw [hp25m] at hW
          rcases hp25 with ⟨rfl, hp25⟩ | ⟨rfl, hp25⟩
          · refine rw_stk (st' := [.int (iN 1)]) rfl ?_
            refine rw_if_eq (tgt := 48) hx hb dX10_reply_42 (by decide) (by decide) (fun c => absurd c (by decide)) (fun _ => ?_)
            refine rw_bipush hx hb dX10_reply_45 (by decide) ?_
            refine rw_iret hx hb hr hlocks hW dX10_reply_47 (⟨(-2), rfl, ?_⟩)
            exact Or.inr (Or.inl ⟨by omega, by omega, rfl, rfl⟩)
          · refine rw_stk (st' := [.int (iN 0)]) rfl ?_
            refine rw_if_eq (tgt := 48) hx hb dX10_reply_42 (by decide) (by decide) (fun _ => ?_) (fun c => absurd (by decide) c)
            refine lv_aload_n hx hb dX10_reply_48 rfl (lv_at hl 0 rfl) ?_
            refine rw_getR hx hb hts hown hW 0 lk_0 5 122 rfl fX10_43 dX10_reply_49 ?_
            refine lv_aload_n hx hb dX10_reply_52 rfl (lv_at hl 0 rfl) ?_
            refine rw_getR hx hb hts hown hW 0 lk_0 0 1 rfl fX10_10 dX10_reply_53 ?_
            refine lv_iload_n hx hb dX10_reply_56 rfl (lv_at hl 1 rfl) ?_
            refine lv_iload_n hx hb dX10_reply_57 rfl (lv_at hl 2 rfl) ?_
            refine rw_callV hx hb hml hts hown hW ⟨Nat.le_refl 0, Nat.le_refl 0⟩ [.ref (ad 1), .int (iN sx), .int (iN n)] 122 lk_122 rfl (c_X4_seek (l := l) (G := G) (ad := ad) (CA := CA) (nt := nt) (by omega) sx (by omega) n (by omega) M hI hmn) kX10_233 rfl ⟨Nat.le_of_ble_eq_true rfl, Nat.le_of_ble_eq_true rfl⟩ hl.1 rfl (Nat.le_of_ble_eq_true rfl) dX10_reply_58 (fun v27 M28 H locs hp29 hW => ?_)
            obtain ⟨rfl, hM28⟩ := hp29
            refine rw_stk (st' := []) rfl ?_
            refine lv_iload_n hx hb dX10_reply_61 rfl (lv_at hl 3 rfl) ?_
            refine rw_if_ne (tgt := 75) hx hb dX10_reply_62 (by decide) (by omega) (fun c_62 => ?_) (fun c_62 => ?_)
            · refine lv_aload_n hx hb dX10_reply_75 rfl (lv_at hl 0 rfl) ?_
              refine rw_getR hx hb hts hown hW 0 lk_0 5 122 rfl fX10_43 dX10_reply_76 ?_
              refine lv_iload_n hx hb dX10_reply_79 rfl (lv_at hl 3 rfl) ?_
              refine rw_bipush hx hb dX10_reply_80 (by decide) ?_
              refine rw_isub hx hb dX10_reply_82 ?_
              refine rw_callV hx hb hml hts hown hW ⟨Nat.le_refl 0, Nat.le_refl 0⟩ [.int (iN (w - 10))] 122 lk_122 rfl (c_X4_sentIn (l := l) (G := G) (ad := ad) (CA := CA) (nt := nt) (by omega) (w - 10) (by omega) M28) kX10_238 rfl ⟨Nat.le_of_ble_eq_true rfl, Nat.le_of_ble_eq_true rfl⟩ hl.1 rfl (Nat.le_of_ble_eq_true rfl) dX10_reply_83 (fun v30 M31 H locs hp32 hW => ?_)
              obtain ⟨_, rfl, rfl, hp32⟩ := hp32
              rw [hp32] at hW
              refine rw_stk (st' := [.int (iN (M28 206 (w - 10)))]) rfl ?_
              refine rw_iret hx hb hr hlocks hW dX10_reply_86 (⟨M28 206 (w - 10), rfl, ?_⟩)
              obtain ⟨⟨pt, b, g, q1, q2⟩, q3⟩ := hM28
              exact Or.inl ⟨by omega, by omega, ⟨pt, b, g, by rw [if_neg (by omega), ← q2 (w - 10) (by omega) (by omega)]⟩, q3⟩
            · refine lv_aload_n hx hb dX10_reply_65 rfl (lv_at hl 0 rfl) ?_
              refine rw_getR hx hb hts hown hW 0 lk_0 5 122 rfl fX10_43 dX10_reply_66 ?_
              refine rw_getI hx hb hts hown hW 122 lk_122 6 6 rfl rfl fX10_237 dX10_reply_69 (v := (M28 122 6)) rfl ?_
              refine lv_goto (tgt := 86) hx hb dX10_reply_72 (by decide) ?_
              refine rw_iret hx hb hr hlocks hW dX10_reply_86 (⟨(M28 122 6), rfl, ?_⟩)
              obtain ⟨⟨pt, b, g, q1, q2⟩, q3⟩ := hM28
              exact Or.inl ⟨by omega, by omega, ⟨pt, b, g, by rw [if_pos (by omega), ← q1]⟩, q3⟩
        · refine rw_stk (st' := [.int (iN 0)]) rfl ?_
          refine rw_if_ne (tgt := 35) hx hb dX10_reply_30 (by decide) (by decide) (fun c => absurd c (by decide)) (fun _ => ?_)
          refine rw_iconst hx hb dX10_reply_33 ?_
          refine rw_iret hx hb hr hlocks hW dX10_reply_34 (⟨(-1), rfl, ?_⟩)
          exact Or.inr (Or.inr ⟨by omega, rfl, rfl⟩)
    · refine rw_stk (st' := [.int (iN 0)]) rfl ?_
      refine rw_if_eq (tgt := 33) hx hb dX10_reply_13 (by decide) (by decide) (fun _ => ?_) (fun c => absurd (by decide) c)
      refine rw_iconst hx hb dX10_reply_33 ?_
      refine rw_iret hx hb hr hlocks hW dX10_reply_34 (⟨(-1), rfl, ?_⟩)
      exact Or.inr (Or.inr ⟨by omega, rfl, rfl⟩)
  · refine rw_stk (st' := [.int (iN 0)]) rfl ?_
    refine rw_if_eq (tgt := 33) hx hb dX10_reply_4 (by decide) (by decide) (fun _ => ?_) (fun c => absurd (by decide) c)
    refine rw_iconst hx hb dX10_reply_33 ?_
    refine rw_iret hx hb hr hlocks hW dX10_reply_34 (⟨(-1), rfl, ?_⟩)
    exact Or.inr (Or.inr ⟨by omega, rfl, rfl⟩)
abbrev P_X10_hold (sx : Int) (i : Int) (n : Int) (M : Mem) : Option Value → Mem → Prop := oI (fun zz MM => (((sx = 0 ∨ sx = 1) ∧ (0 ≤ i ∧ i < M 1 0) ∧ 1 ≤ n ∧ n ≤ 20) ∧ M 1 1 < M 1 0 ∧ LeastF (fld M 1) sx i n zz ∧ Same M MM 30 8) ∨ (((sx = 0 ∨ sx = 1) ∧ (0 ≤ i ∧ i < M 1 0) ∧ 1 ≤ n ∧ n ≤ 20) ∧ M 1 0 ≤ M 1 1 ∧ zz = -2 ∧ MM = M) ∨ (¬ ((sx = 0 ∨ sx = 1) ∧ (0 ≤ i ∧ i < M 1 0) ∧ 1 ≤ n ∧ n ≤ 20) ∧ zz = -1 ∧ MM = M))
set_option maxRecDepth 100000 in
set_option maxHeartbeats 4000000 in
theorem c_X10_hold {l : Launch} {G : va_G} {ad : Nat → Nat} {CA : Nat → ClassId} {nt : Nat} (hnt : 6 ≤ nt) (sx : Int) (hsx9 : in32 sx) (i : Int) (hi9 : in32 i) (n : Int) (hn9 : in32 n) (M : Mem) (hKI : KI M) : Mt l yX10_hold cX10_hold 4 (some .int) 7 153 G ad CA nt LyK [.ref (ad 0), .int (iN sx), .int (iN i), .int (iN n)] M (P_X10_hold sx i n M) := by
  refine Mt.of (by decide) (Nat.le_of_ble_eq_true rfl) (fun p e s m args below meth c hx hb hr hml hts hown hlocks hnm hW ls hl => ?_)
  have hl : lv_has ls 4 [(0, .ref (ad 0)), (1, .int (iN sx)), (2, .int (iN i)), (3, .int (iN n))] := hl
  have hnt4 : 4 ≤ nt := by omega
  obtain ⟨H, hH⟩ : ∃ z, z = s.heap := ⟨_, rfl⟩
  obtain ⟨locs, hlo⟩ : ∃ z : List Loc, z = [] := ⟨_, rfl⟩
  rw [← hH, ← hlo] at hW ⊢
  have hI := hKI.now
  have hm := hKI.min
  have hc := hI.c
  have hk := hI.k2
  have hT := hKI.told
  have hmn : fld M 1 46 ≤ 1000 := by omega
  refine lv_iload_n hx hb dX10_hold_0 rfl (lv_at hl 1 rfl) ?_
  refine rw_callS hx hb hml hts hown hW ⟨Nat.le_refl 0, Nat.le_refl 0⟩ [.int (iN sx)] (c_X10_isSide (l := l) (G := G) (ad := ad) (CA := CA) (nt := nt) sx (by omega) M) kX10_143 rfl ⟨Nat.le_of_ble_eq_true rfl, Nat.le_of_ble_eq_true rfl⟩ hl.1 rfl (Nat.le_of_ble_eq_true rfl) dX10_hold_1 (fun v1 M2 H locs hp3 hW => ?_)
  obtain ⟨a4, rfl, hp3, hp3m⟩ := hp3
  rw [hp3m] at hW
  rcases hp3 with ⟨rfl, hp3⟩ | ⟨rfl, hp3⟩
  · refine rw_stk (st' := [.int (iN 1)]) rfl ?_
    refine rw_if_eq (tgt := 28) hx hb dX10_hold_4 (by decide) (by decide) (fun c => absurd c (by decide)) (fun _ => ?_)
    refine lv_aload_n hx hb dX10_hold_7 rfl (lv_at hl 0 rfl) ?_
    refine rw_getR hx hb hts hown hW 0 lk_0 0 1 rfl fX10_10 dX10_hold_8 ?_
    refine lv_iload_n hx hb dX10_hold_11 rfl (lv_at hl 2 rfl) ?_
    refine rw_callV hx hb hml hts hown hW ⟨Nat.le_refl 0, Nat.le_refl 0⟩ [.int (iN i)] 1 fk_1.1 rfl (c_X0_hasCell (l := l) (G := G) (ad := ad) (CA := CA) (nt := nt) 1 fk_1 i (by omega) M hc) kX10_129 rfl ⟨Nat.le_of_ble_eq_true rfl, Nat.le_of_ble_eq_true rfl⟩ hl.1 rfl (Nat.le_of_ble_eq_true rfl) dX10_hold_12 (fun v5 M6 H locs hp7 hW => ?_)
    obtain ⟨a8, rfl, hp7, hp7m⟩ := hp7
    rw [hp7m] at hW
    rcases hp7 with ⟨rfl, hp7⟩ | ⟨rfl, hp7⟩
    · refine rw_stk (st' := [.int (iN 1)]) rfl ?_
      refine rw_if_eq (tgt := 28) hx hb dX10_hold_15 (by decide) (by decide) (fun c => absurd c (by decide)) (fun _ => ?_)
      refine lv_iload_n hx hb dX10_hold_18 rfl (lv_at hl 3 rfl) ?_
      refine rw_iconst hx hb dX10_hold_19 ?_
      refine rw_bipush hx hb dX10_hold_20 (by decide) ?_
      refine rw_callS hx hb hml hts hown hW ⟨Nat.le_refl 0, Nat.le_refl 0⟩ [.int (iN n), .int (iN 1), .int (iN 20)] (c_X10_within (l := l) (G := G) (ad := ad) (CA := CA) (nt := nt) n 1 20 (by omega) (by omega) (by omega) M) kX10_81 rfl ⟨Nat.le_of_ble_eq_true rfl, Nat.le_of_ble_eq_true rfl⟩ hl.1 rfl (Nat.le_of_ble_eq_true rfl) dX10_hold_22 (fun v9 M10 H locs hp11 hW => ?_)
      obtain ⟨a12, rfl, hp11, hp11m⟩ := hp11
      rw [hp11m] at hW
      rcases hp11 with ⟨rfl, hp11⟩ | ⟨rfl, hp11⟩
      · refine rw_stk (st' := [.int (iN 1)]) rfl ?_
        refine rw_if_ne (tgt := 30) hx hb dX10_hold_25 (by decide) (by decide) (fun _ => ?_) (fun c => absurd c (by decide))
        refine lv_aload_n hx hb dX10_hold_30 rfl (lv_at hl 0 rfl) ?_
        refine rw_getR hx hb hts hown hW 0 lk_0 0 1 rfl fX10_10 dX10_hold_31 ?_
        refine rw_callV hx hb hml hts hown hW ⟨Nat.le_refl 0, Nat.le_refl 0⟩ [] 1 fk_1.1 rfl (c_X0_isOver (l := l) (G := G) (ad := ad) (CA := CA) (nt := nt) 1 fk_1 M hc hk) kX10_179 rfl ⟨Nat.le_of_ble_eq_true rfl, Nat.le_of_ble_eq_true rfl⟩ hl.1 rfl (Nat.le_of_ble_eq_true rfl) dX10_hold_34 (fun v13 M14 H locs hp15 hW => ?_)
        obtain ⟨a16, rfl, hp15, hp15m⟩ := hp15
        rw [hp15m] at hW
        rcases hp15 with ⟨rfl, hp15⟩ | ⟨rfl, hp15⟩
        · refine rw_stk (st' := [.int (iN 1)]) rfl ?_
          refine rw_if_eq (tgt := 45) hx hb dX10_hold_37 (by decide) (by decide) (fun c => absurd c (by decide)) (fun _ => ?_)
          refine rw_bipush hx hb dX10_hold_40 (by decide) ?_
          refine lv_goto (tgt := 59) hx hb dX10_hold_42 (by decide) ?_
          refine rw_iret hx hb hr hlocks hW dX10_hold_59 (⟨(-2), rfl, ?_⟩)
          exact Or.inr (Or.inl ⟨by omega, by omega, rfl, rfl⟩)
        · refine rw_stk (st' := [.int (iN 0)]) rfl ?_
          refine rw_if_eq (tgt := 45) hx hb dX10_hold_37 (by decide) (by decide) (fun _ => ?_) (fun c => absurd (by decide) c)
          refine lv_aload_n hx hb dX10_hold_45 rfl (lv_at hl 0 rfl) ?_
          refine rw_getR hx hb hts hown hW 0 lk_0 3 29 rfl fX10_29 dX10_hold_46 ?_
          refine lv_aload_n hx hb dX10_hold_49 rfl (lv_at hl 0 rfl) ?_
          refine rw_getR hx hb hts hown hW 0 lk_0 0 1 rfl fX10_10 dX10_hold_50 ?_
          refine lv_iload_n hx hb dX10_hold_53 rfl (lv_at hl 1 rfl) ?_
          refine lv_iload_n hx hb dX10_hold_54 rfl (lv_at hl 2 rfl) ?_
          refine lv_iload_n hx hb dX10_hold_55 rfl (lv_at hl 3 rfl) ?_
          refine rw_callV hx hb hml hts hown hW ⟨Nat.le_refl 0, Nat.le_refl 0⟩ [.ref (ad 1), .int (iN sx), .int (iN i), .int (iN n)] 29 lk_29 rfl (c_X1_leastThatHolds (l := l) (G := G) (ad := ad) (CA := CA) (nt := nt) (by omega) sx (by omega) i (by omega) n (by omega) M hI hmn) kX10_241 rfl ⟨Nat.le_of_ble_eq_true rfl, Nat.le_of_ble_eq_true rfl⟩ hl.1 rfl (Nat.le_of_ble_eq_true rfl) dX10_hold_56 (fun v17 M18 H locs hp19 hW => ?_)
          obtain ⟨a20, rfl, hM18⟩ := hp19
          refine rw_stk (st' := [.int (iN a20)]) rfl ?_
          refine rw_iret hx hb hr hlocks hW dX10_hold_59 (⟨a20, rfl, ?_⟩)
          exact Or.inl ⟨by omega, by omega, hM18.1, hM18.2⟩
      · refine rw_stk (st' := [.int (iN 0)]) rfl ?_
        refine rw_if_ne (tgt := 30) hx hb dX10_hold_25 (by decide) (by decide) (fun c => absurd c (by decide)) (fun _ => ?_)
        refine rw_iconst hx hb dX10_hold_28 ?_
        refine rw_iret hx hb hr hlocks hW dX10_hold_29 (⟨(-1), rfl, ?_⟩)
        exact Or.inr (Or.inr ⟨by omega, rfl, rfl⟩)
    · refine rw_stk (st' := [.int (iN 0)]) rfl ?_
      refine rw_if_eq (tgt := 28) hx hb dX10_hold_15 (by decide) (by decide) (fun _ => ?_) (fun c => absurd (by decide) c)
      refine rw_iconst hx hb dX10_hold_28 ?_
      refine rw_iret hx hb hr hlocks hW dX10_hold_29 (⟨(-1), rfl, ?_⟩)
      exact Or.inr (Or.inr ⟨by omega, rfl, rfl⟩)
  · refine rw_stk (st' := [.int (iN 0)]) rfl ?_
    refine rw_if_eq (tgt := 28) hx hb dX10_hold_4 (by decide) (by decide) (fun _ => ?_) (fun c => absurd (by decide) c)
    refine rw_iconst hx hb dX10_hold_28 ?_
    refine rw_iret hx hb hr hlocks hW dX10_hold_29 (⟨(-1), rfl, ?_⟩)
    exact Or.inr (Or.inr ⟨by omega, rfl, rfl⟩)
abbrev P_X10_imageOf (ad : Nat → Nat) (k : Int) (M : Mem) : Option Value → Mem → Prop := oR ad (fun zz MM => zz = (if k = 0 then 210 else 218) ∧ MM = M)
set_option maxRecDepth 100000 in
set_option maxHeartbeats 4000000 in
theorem c_X10_imageOf {l : Launch} {G : va_G} {ad : Nat → Nat} {CA : Nat → ClassId} {nt : Nat} (hnt : 6 ≤ nt) (k : Int) (hk9 : in32 k) (M : Mem) : Mt l yX10_imageOf cX10_imageOf 2 (some (.object "KegBrooks$Field")) 0 0 G ad CA nt LyK [.ref (ad 0), .int (iN k)] M (P_X10_imageOf ad k M) := by
  refine Mt.of (by decide) (Nat.le_of_ble_eq_true rfl) (fun p e s m args below meth c hx hb hr hml hts hown hlocks hnm hW ls hl => ?_)
  have hl : lv_has ls 2 [(0, .ref (ad 0)), (1, .int (iN k))] := hl
  have hnt4 : 4 ≤ nt := by omega
  obtain ⟨H, hH⟩ : ∃ z, z = s.heap := ⟨_, rfl⟩
  obtain ⟨locs, hlo⟩ : ∃ z : List Loc, z = [] := ⟨_, rfl⟩
  rw [← hH, ← hlo] at hW ⊢
  refine lv_iload_n hx hb dX10_imageOf_0 rfl (lv_at hl 1 rfl) ?_
  refine rw_if_ne (tgt := 11) hx hb dX10_imageOf_1 (by decide) (by omega) (fun c_1 => ?_) (fun c_1 => ?_)
  · refine lv_aload_n hx hb dX10_imageOf_11 rfl (lv_at hl 0 rfl) ?_
    refine rw_getR hx hb hts hown hW 0 lk_0 8 218 rfl fX10_57 dX10_imageOf_12 ?_
    refine rw_aret hx hb hr hlocks hW dX10_imageOf_15 (Or.inr ⟨_, rfl⟩) (⟨218, rfl, ?_⟩)
    exact ⟨by rw [if_neg (by omega)], rfl⟩
  · refine lv_aload_n hx hb dX10_imageOf_4 rfl (lv_at hl 0 rfl) ?_
    refine rw_getR hx hb hts hown hW 0 lk_0 7 210 rfl fX10_54 dX10_imageOf_5 ?_
    refine lv_goto (tgt := 15) hx hb dX10_imageOf_8 (by decide) ?_
    refine rw_aret hx hb hr hlocks hW dX10_imageOf_15 (Or.inr ⟨_, rfl⟩) (⟨210, rfl, ?_⟩)
    exact ⟨by rw [if_pos (by omega)], rfl⟩
abbrev P_X10_keep (k : Int) (M : Mem) : Option Value → Mem → Prop := oI (fun zz MM => ((k = 0 ∨ k = 1) ∧ zz = (if k = 0 then M 0 9 % 2 else M 0 9 / 2) ∧ fld MM (if k = 0 then 210 else 218) = fld M 1 ∧ MM 0 9 = (if k = 0 then (if M 0 9 % 2 = 1 then M 0 9 else M 0 9 + 1) else (if M 0 9 / 2 = 1 then M 0 9 else M 0 9 + 2)) ∧ ∀ (q : Nat) (j : Int), ¬ (q = 0 ∧ j = 9) → (q < (if k = 0 then 210 else 218) ∨ (if k = 0 then 210 else 218) + 8 ≤ q) → MM q j = M q j) ∨ (¬ (k = 0 ∨ k = 1) ∧ zz = -1 ∧ MM = M))
set_option maxRecDepth 100000 in
set_option maxHeartbeats 4000000 in
theorem c_X10_keep {l : Launch} {G : va_G} {ad : Nat → Nat} {CA : Nat → ClassId} {nt : Nat} (hnt : 6 ≤ nt) (k : Int) (hk9 : in32 k) (M : Mem) (hKI : KI M) : Mt l yX10_keep cX10_keep 3 (some .int) 2 61 G ad CA nt LyK [.ref (ad 0), .int (iN k)] M (P_X10_keep k M) := by
  refine Mt.of (by decide) (Nat.le_of_ble_eq_true rfl) (fun p e s m args below meth c hx hb hr hml hts hown hlocks hnm hW ls hl => ?_)
  have hl : lv_has ls 3 [(0, .ref (ad 0)), (1, .int (iN k))] := hl
  have hnt4 : 4 ≤ nt := by omega
  obtain ⟨H, hH⟩ : ∃ z, z = s.heap := ⟨_, rfl⟩
  obtain ⟨locs, hlo⟩ : ∃ z : List Loc, z = [] := ⟨_, rfl⟩
  rw [← hH, ← hlo] at hW ⊢
  have hI := hKI.now
  have hm := hKI.min
  have hc := hI.c
  have hk := hI.k2
  have hT := hKI.told
  have hmn : fld M 1 46 ≤ 1000 := by omega
  have hkp := hKI.kept
  have hb1 := b2 M hkp
  have hbk := bor_kept hkp
  have hbz : band (M 0 9 / pow2 0) 1 = M 0 9 % 2 := by rw [pow2_0, Int.ediv_one]; exact hb1
  have hbo : band (M 0 9 / pow2 1) 1 = M 0 9 / 2 := by rw [pow2_1, band_one (by omega) (by omega)]; omega
  refine lv_iload_n hx hb dX10_keep_0 rfl (lv_at hl 1 rfl) ?_
  refine rw_callS hx hb hml hts hown hW ⟨Nat.le_refl 0, Nat.le_refl 0⟩ [.int (iN k)] (c_X10_isImage (l := l) (G := G) (ad := ad) (CA := CA) (nt := nt) k (by omega) M) kX10_265 rfl ⟨Nat.le_of_ble_eq_true rfl, Nat.le_of_ble_eq_true rfl⟩ hl.1 rfl (Nat.le_of_ble_eq_true rfl) dX10_keep_1 (fun v1 M2 H locs hp3 hW => ?_)
  obtain ⟨a4, rfl, hp3, hp3m⟩ := hp3
  rw [hp3m] at hW
  rcases hp3 with ⟨rfl, hp3⟩ | ⟨rfl, hp3⟩
  · rcases hp3 with rfl | rfl
    · refine rw_stk (st' := [.int (iN 1)]) rfl ?_
      refine rw_if_ne (tgt := 9) hx hb dX10_keep_4 (by decide) (by decide) (fun _ => ?_) (fun c => absurd c (by decide))
      refine lv_aload_n hx hb dX10_keep_9 rfl (lv_at hl 0 rfl) ?_
      refine rw_getI hx hb hts hown hW 0 lk_0 9 9 rfl rfl fX10_111 dX10_keep_10 (v := (M 0 9)) rfl ?_
      refine lv_iload_n hx hb dX10_keep_13 rfl (lv_at hl 1 rfl) ?_
      refine rw_ishr hx hb dX10_keep_14 (by omega) (by omega) (by omega) (by omega) ?_
      refine rw_iconst hx hb dX10_keep_15 ?_
      refine rw_iand hx hb dX10_keep_16 ?_
      refine lv_istore_n (lv' := [(2, .int (iN (band ((M 0 9) / pow2 0) 1))), (0, .ref (ad 0)), (1, .int (iN 0))]) hx hb dX10_keep_17 rfl hl (by decide) rfl (fun ls hl => ?_)
      refine lv_aload_n hx hb dX10_keep_18 rfl (lv_at hl 1 rfl) ?_
      refine lv_iload_n hx hb dX10_keep_19 rfl (lv_at hl 2 rfl) ?_
      refine rw_callV hx hb hml hts hown hW ⟨Nat.le_refl 0, Nat.le_refl 0⟩ [.int (iN 0)] 0 lk_0 rfl (c_X10_imageOf (l := l) (G := G) (ad := ad) (CA := CA) (nt := nt) (by omega) 0 (by omega) M) kX10_268 rfl ⟨Nat.le_of_ble_eq_true rfl, Nat.le_of_ble_eq_true rfl⟩ hl.1 rfl (Nat.le_of_ble_eq_true rfl) dX10_keep_20 (fun v5 M6 H locs hp7 hW => ?_)
      obtain ⟨_, rfl, rfl, hp7⟩ := hp7
      rw [hp7] at hW
      rw [if_pos rfl]
      refine rw_stk (st' := [.ref (ad 210)]) rfl ?_
      refine lv_aload_n hx hb dX10_keep_23 rfl (lv_at hl 1 rfl) ?_
      refine rw_getR hx hb hts hown hW 0 lk_0 0 1 rfl fX10_10 dX10_keep_24 ?_
      refine rw_callV hx hb hml hts hown hW ⟨Nat.le_refl 0, Nat.le_refl 0⟩ [.ref (ad 1)] 210 fk_210.1 rfl (c_X0_copyOf (l := l) (G := G) (ad := ad) (CA := CA) (nt := nt) (by omega) 210 fk_210 1 fk_1 (by omega) M) kX10_104 rfl ⟨Nat.le_of_ble_eq_true rfl, Nat.le_of_ble_eq_true rfl⟩ hl.1 rfl (Nat.le_of_ble_eq_true rfl) dX10_keep_27 (fun v8 M9 H locs hp10 hW => ?_)
      obtain ⟨rfl, hM9⟩ := hp10
      refine rw_stk (st' := []) rfl ?_
      refine lv_aload_n hx hb dX10_keep_30 rfl (lv_at hl 1 rfl) ?_
      refine lv_dup hx hb dX10_keep_31 rfl ?_
      refine rw_getI hx hb hts hown hW 0 lk_0 9 9 rfl rfl fX10_111 dX10_keep_32 (v := (M 0 9)) (by rw [hM9.2 0 (by omega)]) ?_
      refine rw_iconst hx hb dX10_keep_35 ?_
      refine lv_iload_n hx hb dX10_keep_36 rfl (lv_at hl 2 rfl) ?_
      refine rw_shl1 hx hb dX10_keep_37 (by omega) (by omega) ?_
      refine rw_ior hx hb dX10_keep_38 ?_
      refine rw_putI hx hb hts hown hW 0 lk_0 9 9 rfl rfl qX10_111 (v := bor (M 0 9) (pow2 0)) dX10_keep_39 (fun H locs hW => ?_)
      obtain ⟨M11, hM11⟩ : ∃ z, z = upd2 M9 0 9 (bor (M 0 9) (pow2 0)) := ⟨_, rfl⟩
      rw [← hM11] at hW
      refine lv_iload_n hx hb dX10_keep_42 rfl (lv_at hl 0 rfl) ?_
      refine rw_iret hx hb hr hlocks hW dX10_keep_43 (⟨band ((M 0 9) / pow2 0) 1, rfl, ?_⟩)
      refine Or.inl ⟨by omega, ?_, ?_, ?_, ?_⟩
      · rw [if_pos rfl]; exact hbz
      · rw [hM11, fld_eq8 (fun q h1 h2 => upd2_ne1 (by rw [if_pos rfl] at h1; omega))]; exact hM9.1
      · rw [hM11, upd2_eq]; rw [if_pos rfl]; exact hbk.1
      · intro q j h1 h2; rw [hM11, upd2_at, if_neg h1]; rw [hM9.2 q (by rw [if_pos rfl] at h2; omega)]
    · refine rw_stk (st' := [.int (iN 1)]) rfl ?_
      refine rw_if_ne (tgt := 9) hx hb dX10_keep_4 (by decide) (by decide) (fun _ => ?_) (fun c => absurd c (by decide))
      refine lv_aload_n hx hb dX10_keep_9 rfl (lv_at hl 0 rfl) ?_
      refine rw_getI hx hb hts hown hW 0 lk_0 9 9 rfl rfl fX10_111 dX10_keep_10 (v := (M 0 9)) rfl ?_
      refine lv_iload_n hx hb dX10_keep_13 rfl (lv_at hl 1 rfl) ?_
      refine rw_ishr hx hb dX10_keep_14 (by omega) (by omega) (by omega) (by omega) ?_
      refine rw_iconst hx hb dX10_keep_15 ?_
      refine rw_iand hx hb dX10_keep_16 ?_
      refine lv_istore_n (lv' := [(2, .int (iN (band ((M 0 9) / pow2 1) 1))), (0, .ref (ad 0)), (1, .int (iN 1))]) hx hb dX10_keep_17 rfl hl (by decide) rfl (fun ls hl => ?_)
      refine lv_aload_n hx hb dX10_keep_18 rfl (lv_at hl 1 rfl) ?_
      refine lv_iload_n hx hb dX10_keep_19 rfl (lv_at hl 2 rfl) ?_
      refine rw_callV hx hb hml hts hown hW ⟨Nat.le_refl 0, Nat.le_refl 0⟩ [.int (iN 1)] 0 lk_0 rfl (c_X10_imageOf (l := l) (G := G) (ad := ad) (CA := CA) (nt := nt) (by omega) 1 (by omega) M) kX10_268 rfl ⟨Nat.le_of_ble_eq_true rfl, Nat.le_of_ble_eq_true rfl⟩ hl.1 rfl (Nat.le_of_ble_eq_true rfl) dX10_keep_20 (fun v12 M13 H locs hp14 hW => ?_)
      obtain ⟨_, rfl, rfl, hp14⟩ := hp14
      rw [hp14] at hW
      rw [if_neg (by decide)]
      refine rw_stk (st' := [.ref (ad 218)]) rfl ?_
      refine lv_aload_n hx hb dX10_keep_23 rfl (lv_at hl 1 rfl) ?_
      refine rw_getR hx hb hts hown hW 0 lk_0 0 1 rfl fX10_10 dX10_keep_24 ?_
      refine rw_callV hx hb hml hts hown hW ⟨Nat.le_refl 0, Nat.le_refl 0⟩ [.ref (ad 1)] 218 fk_218.1 rfl (c_X0_copyOf (l := l) (G := G) (ad := ad) (CA := CA) (nt := nt) (by omega) 218 fk_218 1 fk_1 (by omega) M) kX10_104 rfl ⟨Nat.le_of_ble_eq_true rfl, Nat.le_of_ble_eq_true rfl⟩ hl.1 rfl (Nat.le_of_ble_eq_true rfl) dX10_keep_27 (fun v15 M16 H locs hp17 hW => ?_)
      obtain ⟨rfl, hM16⟩ := hp17
      refine rw_stk (st' := []) rfl ?_
      refine lv_aload_n hx hb dX10_keep_30 rfl (lv_at hl 1 rfl) ?_
      refine lv_dup hx hb dX10_keep_31 rfl ?_
      refine rw_getI hx hb hts hown hW 0 lk_0 9 9 rfl rfl fX10_111 dX10_keep_32 (v := (M 0 9)) (by rw [hM16.2 0 (by omega)]) ?_
      refine rw_iconst hx hb dX10_keep_35 ?_
      refine lv_iload_n hx hb dX10_keep_36 rfl (lv_at hl 2 rfl) ?_
      refine rw_shl1 hx hb dX10_keep_37 (by omega) (by omega) ?_
      refine rw_ior hx hb dX10_keep_38 ?_
      refine rw_putI hx hb hts hown hW 0 lk_0 9 9 rfl rfl qX10_111 (v := bor (M 0 9) (pow2 1)) dX10_keep_39 (fun H locs hW => ?_)
      obtain ⟨M18, hM18⟩ : ∃ z, z = upd2 M16 0 9 (bor (M 0 9) (pow2 1)) := ⟨_, rfl⟩
      rw [← hM18] at hW
      refine lv_iload_n hx hb dX10_keep_42 rfl (lv_at hl 0 rfl) ?_
      refine rw_iret hx hb hr hlocks hW dX10_keep_43 (⟨band ((M 0 9) / pow2 1) 1, rfl, ?_⟩)
      refine Or.inl ⟨by omega, ?_, ?_, ?_, ?_⟩
      · rw [if_neg (by decide)]; exact hbo
      · rw [hM18, fld_eq8 (fun q h1 h2 => upd2_ne1 (by rw [if_neg (by decide)] at h1; omega))]; exact hM16.1
      · rw [hM18, upd2_eq]; rw [if_neg (by decide)]; exact hbk.2
      · intro q j h1 h2; rw [hM18, upd2_at, if_neg h1]; rw [hM16.2 q (by rw [if_neg (by decide)] at h2; omega)]
  · refine rw_stk (st' := [.int (iN 0)]) rfl ?_
    refine rw_if_ne (tgt := 9) hx hb dX10_keep_4 (by decide) (by decide) (fun c => absurd c (by decide)) (fun _ => ?_)
    refine rw_iconst hx hb dX10_keep_7 ?_
    refine rw_iret hx hb hr hlocks hW dX10_keep_8 (⟨(-1), rfl, ?_⟩)
    exact Or.inr ⟨by omega, rfl, rfl⟩
abbrev P_X10_back (k : Int) (M : Mem) : Option Value → Mem → Prop := oI (fun zz MM => ((k = 0 ∨ k = 1) ∧ (if k = 0 then M 0 9 % 2 else M 0 9 / 2) = 1 ∧ fld MM 1 = fld M (if k = 0 then 210 else 218) ∧ Same M MM 1 8 ∧ zz = fld M (if k = 0 then 210 else 218) 46) ∨ ((k = 0 ∨ k = 1) ∧ (if k = 0 then M 0 9 % 2 else M 0 9 / 2) = 0 ∧ zz = -2 ∧ MM = M) ∨ (¬ (k = 0 ∨ k = 1) ∧ zz = -1 ∧ MM = M))
set_option maxRecDepth 100000 in
set_option maxHeartbeats 4000000 in
theorem c_X10_back {l : Launch} {G : va_G} {ad : Nat → Nat} {CA : Nat → ClassId} {nt : Nat} (hnt : 6 ≤ nt) (k : Int) (hk9 : in32 k) (M : Mem) (hKI : KI M) : Mt l yX10_back cX10_back 2 (some .int) 2 61 G ad CA nt LyK [.ref (ad 0), .int (iN k)] M (P_X10_back k M) := by
  refine Mt.of (by decide) (Nat.le_of_ble_eq_true rfl) (fun p e s m args below meth c hx hb hr hml hts hown hlocks hnm hW ls hl => ?_)
  have hl : lv_has ls 2 [(0, .ref (ad 0)), (1, .int (iN k))] := hl
  have hnt4 : 4 ≤ nt := by omega
  obtain ⟨H, hH⟩ : ∃ z, z = s.heap := ⟨_, rfl⟩
  obtain ⟨locs, hlo⟩ : ∃ z : List Loc, z = [] := ⟨_, rfl⟩
  rw [← hH, ← hlo] at hW ⊢
  have hI := hKI.now
  have hm := hKI.min
  have hc := hI.c
  have hk := hI.k2
  have hT := hKI.told
  have hmn : fld M 1 46 ≤ 1000 := by omega
  have hkp := hKI.kept
  have hb1 := b2 M hkp
  have hbk := bor_kept hkp
  have hbz : band (M 0 9 / pow2 0) 1 = M 0 9 % 2 := by rw [pow2_0, Int.ediv_one]; exact hb1
  have hbo : band (M 0 9 / pow2 1) 1 = M 0 9 / 2 := by rw [pow2_1, band_one (by omega) (by omega)]; omega
  refine lv_iload_n hx hb dX10_back_0 rfl (lv_at hl 1 rfl) ?_
  refine rw_callS hx hb hml hts hown hW ⟨Nat.le_refl 0, Nat.le_refl 0⟩ [.int (iN k)] (c_X10_isImage (l := l) (G := G) (ad := ad) (CA := CA) (nt := nt) k (by omega) M) kX10_265 rfl ⟨Nat.le_of_ble_eq_true rfl, Nat.le_of_ble_eq_true rfl⟩ hl.1 rfl (Nat.le_of_ble_eq_true rfl) dX10_back_1 (fun v1 M2 H locs hp3 hW => ?_)
  obtain ⟨a4, rfl, hp3, hp3m⟩ := hp3
  rw [hp3m] at hW
  rcases hp3 with ⟨rfl, hp3⟩ | ⟨rfl, hp3⟩
  · rcases hp3 with rfl | rfl
    · refine rw_stk (st' := [.int (iN 1)]) rfl ?_
      refine rw_if_ne (tgt := 9) hx hb dX10_back_4 (by decide) (by decide) (fun _ => ?_) (fun c => absurd c (by decide))
      refine lv_aload_n hx hb dX10_back_9 rfl (lv_at hl 0 rfl) ?_
      refine rw_getI hx hb hts hown hW 0 lk_0 9 9 rfl rfl fX10_111 dX10_back_10 (v := (M 0 9)) rfl ?_
      refine lv_iload_n hx hb dX10_back_13 rfl (lv_at hl 1 rfl) ?_
      refine rw_ishr hx hb dX10_back_14 (by omega) (by omega) (by omega) (by omega) ?_
      refine rw_iconst hx hb dX10_back_15 ?_
      refine rw_iand hx hb dX10_back_16 ?_
      refine rw_if_ne (tgt := 23) hx hb dX10_back_17 (by decide) (by omega) (fun c_17 => ?_) (fun c_17 => ?_)
      · refine lv_aload_n hx hb dX10_back_23 rfl (lv_at hl 0 rfl) ?_
        refine rw_getR hx hb hts hown hW 0 lk_0 0 1 rfl fX10_10 dX10_back_24 ?_
        refine lv_aload_n hx hb dX10_back_27 rfl (lv_at hl 0 rfl) ?_
        refine lv_iload_n hx hb dX10_back_28 rfl (lv_at hl 1 rfl) ?_
        refine rw_callV hx hb hml hts hown hW ⟨Nat.le_refl 0, Nat.le_refl 0⟩ [.int (iN 0)] 0 lk_0 rfl (c_X10_imageOf (l := l) (G := G) (ad := ad) (CA := CA) (nt := nt) (by omega) 0 (by omega) M) kX10_268 rfl ⟨Nat.le_of_ble_eq_true rfl, Nat.le_of_ble_eq_true rfl⟩ hl.1 rfl (Nat.le_of_ble_eq_true rfl) dX10_back_29 (fun v5 M6 H locs hp7 hW => ?_)
        obtain ⟨_, rfl, rfl, hp7⟩ := hp7
        rw [hp7] at hW
        rw [if_pos rfl]
        refine rw_stk (st' := [.ref (ad 210), .ref (ad 1)]) rfl ?_
        refine rw_callV hx hb hml hts hown hW ⟨Nat.le_refl 0, Nat.le_refl 0⟩ [.ref (ad 210)] 1 fk_1.1 rfl (c_X0_copyOf (l := l) (G := G) (ad := ad) (CA := CA) (nt := nt) (by omega) 1 fk_1 210 fk_210 (by omega) M) kX10_104 rfl ⟨Nat.le_of_ble_eq_true rfl, Nat.le_of_ble_eq_true rfl⟩ hl.1 rfl (Nat.le_of_ble_eq_true rfl) dX10_back_32 (fun v8 M9 H locs hp10 hW => ?_)
        obtain ⟨rfl, hM9⟩ := hp10
        refine rw_stk (st' := []) rfl ?_
        refine lv_aload_n hx hb dX10_back_35 rfl (lv_at hl 0 rfl) ?_
        refine rw_getR hx hb hts hown hW 0 lk_0 0 1 rfl fX10_10 dX10_back_36 ?_
        refine rw_getI hx hb hts hown hW 1 fk_1.1 4 4 rfl rfl fX10_126 dX10_back_39 (v := (M9 1 4)) rfl ?_
        refine rw_iret hx hb hr hlocks hW dX10_back_42 (⟨(M9 1 4), rfl, ?_⟩)
        refine Or.inl ⟨by omega, by rw [if_pos rfl]; omega, ?_, hM9.2, ?_⟩
        · rw [if_pos rfl]; exact hM9.1
        · rw [if_pos rfl, ← hM9.1]; rfl
      · refine rw_bipush hx hb dX10_back_20 (by decide) ?_
        refine rw_iret hx hb hr hlocks hW dX10_back_22 (⟨(-2), rfl, ?_⟩)
        exact Or.inr (Or.inl ⟨by omega, by rw [if_pos rfl]; omega, rfl, rfl⟩)
    · refine rw_stk (st' := [.int (iN 1)]) rfl ?_
      refine rw_if_ne (tgt := 9) hx hb dX10_back_4 (by decide) (by decide) (fun _ => ?_) (fun c => absurd c (by decide))
      refine lv_aload_n hx hb dX10_back_9 rfl (lv_at hl 0 rfl) ?_
      refine rw_getI hx hb hts hown hW 0 lk_0 9 9 rfl rfl fX10_111 dX10_back_10 (v := (M 0 9)) rfl ?_
      refine lv_iload_n hx hb dX10_back_13 rfl (lv_at hl 1 rfl) ?_
      refine rw_ishr hx hb dX10_back_14 (by omega) (by omega) (by omega) (by omega) ?_
      refine rw_iconst hx hb dX10_back_15 ?_
      refine rw_iand hx hb dX10_back_16 ?_
      refine rw_if_ne (tgt := 23) hx hb dX10_back_17 (by decide) (by omega) (fun c_17 => ?_) (fun c_17 => ?_)
      · refine lv_aload_n hx hb dX10_back_23 rfl (lv_at hl 0 rfl) ?_
        refine rw_getR hx hb hts hown hW 0 lk_0 0 1 rfl fX10_10 dX10_back_24 ?_
        refine lv_aload_n hx hb dX10_back_27 rfl (lv_at hl 0 rfl) ?_
        refine lv_iload_n hx hb dX10_back_28 rfl (lv_at hl 1 rfl) ?_
        refine rw_callV hx hb hml hts hown hW ⟨Nat.le_refl 0, Nat.le_refl 0⟩ [.int (iN 1)] 0 lk_0 rfl (c_X10_imageOf (l := l) (G := G) (ad := ad) (CA := CA) (nt := nt) (by omega) 1 (by omega) M) kX10_268 rfl ⟨Nat.le_of_ble_eq_true rfl, Nat.le_of_ble_eq_true rfl⟩ hl.1 rfl (Nat.le_of_ble_eq_true rfl) dX10_back_29 (fun v11 M12 H locs hp13 hW => ?_)
        obtain ⟨_, rfl, rfl, hp13⟩ := hp13
        rw [hp13] at hW
        rw [if_neg (by decide)]
        refine rw_stk (st' := [.ref (ad 218), .ref (ad 1)]) rfl ?_
        refine rw_callV hx hb hml hts hown hW ⟨Nat.le_refl 0, Nat.le_refl 0⟩ [.ref (ad 218)] 1 fk_1.1 rfl (c_X0_copyOf (l := l) (G := G) (ad := ad) (CA := CA) (nt := nt) (by omega) 1 fk_1 218 fk_218 (by omega) M) kX10_104 rfl ⟨Nat.le_of_ble_eq_true rfl, Nat.le_of_ble_eq_true rfl⟩ hl.1 rfl (Nat.le_of_ble_eq_true rfl) dX10_back_32 (fun v14 M15 H locs hp16 hW => ?_)
        obtain ⟨rfl, hM15⟩ := hp16
        refine rw_stk (st' := []) rfl ?_
        refine lv_aload_n hx hb dX10_back_35 rfl (lv_at hl 0 rfl) ?_
        refine rw_getR hx hb hts hown hW 0 lk_0 0 1 rfl fX10_10 dX10_back_36 ?_
        refine rw_getI hx hb hts hown hW 1 fk_1.1 4 4 rfl rfl fX10_126 dX10_back_39 (v := (M15 1 4)) rfl ?_
        refine rw_iret hx hb hr hlocks hW dX10_back_42 (⟨(M15 1 4), rfl, ?_⟩)
        refine Or.inl ⟨by omega, by rw [if_neg (by decide)]; omega, ?_, hM15.2, ?_⟩
        · rw [if_neg (by decide)]; exact hM15.1
        · rw [if_neg (by decide), ← hM15.1]; rfl
      · refine rw_bipush hx hb dX10_back_20 (by decide) ?_
        refine rw_iret hx hb hr hlocks hW dX10_back_22 (⟨(-2), rfl, ?_⟩)
        exact Or.inr (Or.inl ⟨by omega, by rw [if_neg (by decide)]; omega, rfl, rfl⟩)
  · refine rw_stk (st' := [.int (iN 0)]) rfl ?_
    refine rw_if_ne (tgt := 9) hx hb dX10_back_4 (by decide) (by decide) (fun c => absurd c (by decide)) (fun _ => ?_)
    refine rw_iconst hx hb dX10_back_7 ?_
    refine rw_iret hx hb hr hlocks hW dX10_back_8 (⟨(-1), rfl, ?_⟩)
    exact Or.inr (Or.inr ⟨by omega, rfl, rfl⟩)
abbrev P_X10_sheetOf (ad : Nat → Nat) (k : Int) (M : Mem) : Option Value → Mem → Prop := (fun v MM => MM = M ∧ (((0 ≤ k ∧ k < 4) ∧ v = some (.ref (ad (227 + 2 * k.toNat)))) ∨ (¬ (0 ≤ k ∧ k < 4) ∧ v = some .null)))
set_option maxRecDepth 100000 in
set_option maxHeartbeats 4000000 in
theorem c_X10_sheetOf {l : Launch} {G : va_G} {ad : Nat → Nat} {CA : Nat → ClassId} {nt : Nat} (hnt : 6 ≤ nt) (k : Int) (hk9 : in32 k) (M : Mem) : Mt l yX10_sheetOf cX10_sheetOf 2 (some (.object "KegBrooks$Sheet")) 0 0 G ad CA nt LyK [.ref (ad 0), .int (iN k)] M (P_X10_sheetOf ad k M) := by
  refine Mt.of (by decide) (Nat.le_of_ble_eq_true rfl) (fun p e s m args below meth c hx hb hr hml hts hown hlocks hnm hW ls hl => ?_)
  have hl : lv_has ls 2 [(0, .ref (ad 0)), (1, .int (iN k))] := hl
  have hnt4 : 4 ≤ nt := by omega
  obtain ⟨H, hH⟩ : ∃ z, z = s.heap := ⟨_, rfl⟩
  obtain ⟨locs, hlo⟩ : ∃ z : List Loc, z = [] := ⟨_, rfl⟩
  rw [← hH, ← hlo] at hW ⊢
  refine lv_iload_n hx hb dX10_sheetOf_0 rfl (lv_at hl 1 rfl) ?_
  refine rw_if_lt (tgt := 22) hx hb dX10_sheetOf_1 (by decide) (by omega) (fun c_1 => ?_) (fun c_1 => ?_)
  · refine lv_null hx hb dX10_sheetOf_22 ?_
    refine rw_aret hx hb hr hlocks hW dX10_sheetOf_23 (Or.inl rfl) (?_)
    exact ⟨rfl, Or.inr ⟨by omega, rfl⟩⟩
  · refine lv_iload_n hx hb dX10_sheetOf_4 rfl (lv_at hl 1 rfl) ?_
    refine lv_aload_n hx hb dX10_sheetOf_5 rfl (lv_at hl 0 rfl) ?_
    refine rw_getR hx hb hts hown hW 0 lk_0 10 226 rfl fX10_62 dX10_sheetOf_6 ?_
    refine rw_alen hx hb hW 226 lk_226 (tyL_get (by omega) rfl) dX10_sheetOf_9 ?_
    refine rw_icmp_ge (tgt := 22) hx hb dX10_sheetOf_10 (by decide) (by omega) (by decide) (fun c_10 => ?_) (fun c_10 => ?_)
    · refine lv_null hx hb dX10_sheetOf_22 ?_
      refine rw_aret hx hb hr hlocks hW dX10_sheetOf_23 (Or.inl rfl) (?_)
      exact ⟨rfl, Or.inr ⟨by omega, rfl⟩⟩
    · refine lv_aload_n hx hb dX10_sheetOf_13 rfl (lv_at hl 0 rfl) ?_
      refine rw_getR hx hb hts hown hW 0 lk_0 10 226 rfl fX10_62 dX10_sheetOf_14 ?_
      refine lv_iload_n hx hb dX10_sheetOf_17 rfl (lv_at hl 1 rfl) ?_
      refine rw_aald hx hb hW (by omega) 226 5 (by decide) lk_226 (by omega) (by omega) (by decide) (227 + 2 * k.toNat) (sh_get (by omega)) dX10_sheetOf_18 ?_
      refine lv_goto (tgt := 23) hx hb dX10_sheetOf_19 (by decide) ?_
      refine rw_aret hx hb hr hlocks hW dX10_sheetOf_23 (Or.inr ⟨_, rfl⟩) (?_)
      exact ⟨rfl, Or.inl ⟨by omega, rfl⟩⟩
abbrev P_X10_sheet (k : Int) (x : Int) (n : Int) (M : Mem) : Option Value → Mem → Prop := oI (fun zz MM => (((0 ≤ k ∧ k < 4) ∧ (0 ≤ x ∧ x ≤ 2) ∧ n ≤ 40) ∧ 0 ≤ n ∧ zz = 1 ∧ (MM (227 + 2 * k.toNat) 0 = x ∧ MM (227 + 2 * k.toNat) 1 = n ∧ ∀ j, 0 ≤ j → j < 40 → MM ((227 + 2 * k.toNat) + 1) j = 0) ∧ Same M MM (227 + 2 * k.toNat) 2) ∨ (((0 ≤ k ∧ k < 4) ∧ (0 ≤ x ∧ x ≤ 2) ∧ n ≤ 40) ∧ n < 0 ∧ zz = -14 ∧ MM = M) ∨ (¬ ((0 ≤ k ∧ k < 4) ∧ (0 ≤ x ∧ x ≤ 2) ∧ n ≤ 40) ∧ zz = -1 ∧ MM = M))
set_option maxRecDepth 100000 in
set_option maxHeartbeats 4000000 in
theorem c_X10_sheet {l : Launch} {G : va_G} {ad : Nat → Nat} {CA : Nat → ClassId} {nt : Nat} (hnt : 6 ≤ nt) (k : Int) (hk9 : in32 k) (x : Int) (hx9 : in32 x) (n : Int) (hn9 : in32 n) (M : Mem) (hKI : KI M) : Mt l yX10_sheet cX10_sheet 5 (some .int) 2 38 G ad CA nt LyK [.ref (ad 0), .int (iN k), .int (iN x), .int (iN n)] M (P_X10_sheet k x n M) := by
  refine Mt.of (by decide) (Nat.le_of_ble_eq_true rfl) (fun p e s m args below meth c hx hb hr hml hts hown hlocks hnm hW ls hl => ?_)
  have hl : lv_has ls 5 [(0, .ref (ad 0)), (1, .int (iN k)), (2, .int (iN x)), (3, .int (iN n))] := hl
  have hnt4 : 4 ≤ nt := by omega
  obtain ⟨H, hH⟩ : ∃ z, z = s.heap := ⟨_, rfl⟩
  obtain ⟨locs, hlo⟩ : ∃ z : List Loc, z = [] := ⟨_, rfl⟩
  rw [← hH, ← hlo] at hW ⊢
  refine lv_aload_n hx hb dX10_sheet_0 rfl (lv_at hl 0 rfl) ?_
  refine lv_iload_n hx hb dX10_sheet_1 rfl (lv_at hl 1 rfl) ?_
  refine rw_callV hx hb hml hts hown hW ⟨Nat.le_refl 0, Nat.le_refl 0⟩ [.int (iN k)] 0 lk_0 rfl (c_X10_sheetOf (l := l) (G := G) (ad := ad) (CA := CA) (nt := nt) (by omega) k (by omega) M) kX10_272 rfl ⟨Nat.le_of_ble_eq_true rfl, Nat.le_of_ble_eq_true rfl⟩ hl.1 rfl (Nat.le_of_ble_eq_true rfl) dX10_sheet_2 (fun v1 M2 H locs hp3 hW => ?_)
  obtain ⟨hp3m, hp3⟩ := hp3
  rw [hp3m] at hW
  rcases hp3 with ⟨hkr, rfl⟩ | ⟨hkr, rfl⟩
  · obtain ⟨sk, hsk⟩ : ∃ z, z = 227 + 2 * (k : Int).toNat := ⟨_, rfl⟩
    rw [← hsk]
    have hsh : HAt LyK sk := by rw [hsk]; exact hat_k (by omega)
    have hsi : shI M sk := by rw [hsk]; exact shI_k hKI.sh (by omega)
    obtain ⟨hsi1, hsi2, hsi3⟩ := hsi
    refine rw_stk (st' := [.ref (ad sk)]) rfl ?_
    refine lv_astore (lv' := [(4, .ref (ad sk)), (0, .ref (ad 0)), (1, .int (iN k)), (2, .int (iN x)), (3, .int (iN n))]) hx hb dX10_sheet_5 hl (by decide) rfl (fun ls hl => ?_)
    refine lv_aload hx hb dX10_sheet_7 (lv_at hl 0 rfl) ?_
    refine lv_ifnull hx hb dX10_sheet_9 ?_
    refine lv_iload_n hx hb dX10_sheet_12 rfl (lv_at hl 3 rfl) ?_
    refine rw_iconst hx hb dX10_sheet_13 ?_
    refine rw_iconst hx hb dX10_sheet_14 ?_
    refine rw_callS hx hb hml hts hown hW ⟨Nat.le_refl 0, Nat.le_refl 0⟩ [.int (iN x), .int (iN 0), .int (iN 2)] (c_X10_within (l := l) (G := G) (ad := ad) (CA := CA) (nt := nt) x 0 2 (by omega) (by omega) (by omega) M) kX10_81 rfl ⟨Nat.le_of_ble_eq_true rfl, Nat.le_of_ble_eq_true rfl⟩ hl.1 rfl (Nat.le_of_ble_eq_true rfl) dX10_sheet_15 (fun v4 M5 H locs hp6 hW => ?_)
    obtain ⟨a7, rfl, hp6, hp6m⟩ := hp6
    rw [hp6m] at hW
    rcases hp6 with ⟨rfl, hp6⟩ | ⟨rfl, hp6⟩
    · refine rw_stk (st' := [.int (iN 1)]) rfl ?_
      refine rw_if_eq (tgt := 27) hx hb dX10_sheet_18 (by decide) (by decide) (fun c => absurd c (by decide)) (fun _ => ?_)
      refine lv_iload_n hx hb dX10_sheet_21 rfl (lv_at hl 4 rfl) ?_
      refine rw_bipush hx hb dX10_sheet_22 (by decide) ?_
      refine rw_icmp_le (tgt := 29) hx hb dX10_sheet_24 (by decide) (by omega) (by decide) (fun c_24 => ?_) (fun c_24 => ?_)
      · refine lv_iload_n hx hb dX10_sheet_29 rfl (lv_at hl 4 rfl) ?_
        refine rw_if_ge (tgt := 36) hx hb dX10_sheet_30 (by decide) (by omega) (fun c_30 => ?_) (fun c_30 => ?_)
        · refine lv_aload hx hb dX10_sheet_36 (lv_at hl 0 rfl) ?_
          refine lv_iload_n hx hb dX10_sheet_38 rfl (lv_at hl 3 rfl) ?_
          refine lv_iload_n hx hb dX10_sheet_39 rfl (lv_at hl 4 rfl) ?_
          refine rw_callV hx hb hml hts hown hW ⟨Nat.le_refl 0, Nat.le_refl 0⟩ [.int (iN x), .int (iN n)] sk hsh.1 rfl (c_X5_renew (l := l) (G := G) (ad := ad) (CA := CA) (nt := nt) (by omega) sk hsh x n (by omega) M) kX10_276 rfl ⟨Nat.le_of_ble_eq_true rfl, Nat.le_of_ble_eq_true rfl⟩ hl.1 rfl (Nat.le_of_ble_eq_true rfl) dX10_sheet_40 (fun v8 M9 H locs hp10 hW => ?_)
          obtain ⟨rfl, hM9⟩ := hp10
          refine rw_stk (st' := []) rfl ?_
          refine rw_iconst hx hb dX10_sheet_43 ?_
          refine rw_iret hx hb hr hlocks hW dX10_sheet_44 (⟨1, rfl, ?_⟩)
          exact Or.inl ⟨by omega, by omega, rfl, by rw [← hsk]; exact hM9.1, by rw [← hsk]; exact hM9.2⟩
        · refine rw_bipush hx hb dX10_sheet_33 (by decide) ?_
          refine rw_iret hx hb hr hlocks hW dX10_sheet_35 (⟨(-14), rfl, ?_⟩)
          exact Or.inr (Or.inl ⟨by omega, by omega, rfl, rfl⟩)
      · refine rw_iconst hx hb dX10_sheet_27 ?_
        refine rw_iret hx hb hr hlocks hW dX10_sheet_28 (⟨(-1), rfl, ?_⟩)
        exact Or.inr (Or.inr ⟨by omega, rfl, rfl⟩)
    · refine rw_stk (st' := [.int (iN 0)]) rfl ?_
      refine rw_if_eq (tgt := 27) hx hb dX10_sheet_18 (by decide) (by decide) (fun _ => ?_) (fun c => absurd (by decide) c)
      refine rw_iconst hx hb dX10_sheet_27 ?_
      refine rw_iret hx hb hr hlocks hW dX10_sheet_28 (⟨(-1), rfl, ?_⟩)
      exact Or.inr (Or.inr ⟨by omega, rfl, rfl⟩)
  · refine rw_stk (st' := [.null]) rfl ?_
    refine lv_astoreN (lv' := [(4, .null), (0, .ref (ad 0)), (1, .int (iN k)), (2, .int (iN x)), (3, .int (iN n))]) hx hb dX10_sheet_5 hl (by decide) rfl (fun ls hl => ?_)
    refine lv_aloadN hx hb dX10_sheet_7 (lv_at hl 0 rfl) ?_
    refine lv_ifnullN (tgt := 27) hx hb dX10_sheet_9 (by decide) ?_
    refine rw_iconst hx hb dX10_sheet_27 ?_
    refine rw_iret hx hb hr hlocks hW dX10_sheet_28 (⟨(-1), rfl, ?_⟩)
    exact Or.inr (Or.inr ⟨by omega, rfl, rfl⟩)
abbrev P_X10_lay (k : Int) (i : Int) (v : Int) (M : Mem) : Option Value → Mem → Prop := oI (fun zz MM => ((0 ≤ k ∧ k < 4) ∧ ((faultF (M (227 + 2 * k.toNat) 0) (M (227 + 2 * k.toNat) 1) (M (227 + 2 * k.toNat) 0) i 1 = 0 ∧ zz = 1 ∧ MM = upd2 M ((227 + 2 * k.toNat) + 1) i (lowB (M (227 + 2 * k.toNat) 0) v)) ∨ (faultF (M (227 + 2 * k.toNat) 0) (M (227 + 2 * k.toNat) 1) (M (227 + 2 * k.toNat) 0) i 1 ≠ 0 ∧ zz = -10 - faultF (M (227 + 2 * k.toNat) 0) (M (227 + 2 * k.toNat) 1) (M (227 + 2 * k.toNat) 0) i 1 ∧ MM = M))) ∨ (¬ (0 ≤ k ∧ k < 4) ∧ zz = -1 ∧ MM = M))
set_option maxRecDepth 100000 in
set_option maxHeartbeats 4000000 in
theorem c_X10_lay {l : Launch} {G : va_G} {ad : Nat → Nat} {CA : Nat → ClassId} {nt : Nat} (hnt : 6 ≤ nt) (k : Int) (hk9 : in32 k) (i : Int) (hi9 : in32 i) (v : Int) (hv9 : in32 v) (M : Mem) (hKI : KI M) : Mt l yX10_lay cX10_lay 6 (some .int) 2 43 G ad CA nt LyK [.ref (ad 0), .int (iN k), .int (iN i), .int (iN v)] M (P_X10_lay k i v M) := by
  refine Mt.of (by decide) (Nat.le_of_ble_eq_true rfl) (fun p e s m args below meth c hx hb hr hml hts hown hlocks hnm hW ls hl => ?_)
  have hl : lv_has ls 6 [(0, .ref (ad 0)), (1, .int (iN k)), (2, .int (iN i)), (3, .int (iN v))] := hl
  have hnt4 : 4 ≤ nt := by omega
  obtain ⟨H, hH⟩ : ∃ z, z = s.heap := ⟨_, rfl⟩
  obtain ⟨locs, hlo⟩ : ∃ z : List Loc, z = [] := ⟨_, rfl⟩
  rw [← hH, ← hlo] at hW ⊢
  refine lv_aload_n hx hb dX10_lay_0 rfl (lv_at hl 0 rfl) ?_
  refine lv_iload_n hx hb dX10_lay_1 rfl (lv_at hl 1 rfl) ?_
  refine rw_callV hx hb hml hts hown hW ⟨Nat.le_refl 0, Nat.le_refl 0⟩ [.int (iN k)] 0 lk_0 rfl (c_X10_sheetOf (l := l) (G := G) (ad := ad) (CA := CA) (nt := nt) (by omega) k (by omega) M) kX10_272 rfl ⟨Nat.le_of_ble_eq_true rfl, Nat.le_of_ble_eq_true rfl⟩ hl.1 rfl (Nat.le_of_ble_eq_true rfl) dX10_lay_2 (fun v1 M2 H locs hp3 hW => ?_)
  obtain ⟨hp3m, hp3⟩ := hp3
  rw [hp3m] at hW
  rcases hp3 with ⟨hkr, rfl⟩ | ⟨hkr, rfl⟩
  · obtain ⟨sk, hsk⟩ : ∃ z, z = 227 + 2 * (k : Int).toNat := ⟨_, rfl⟩
    rw [← hsk]
    have hsh : HAt LyK sk := by rw [hsk]; exact hat_k (by omega)
    have hsi : shI M sk := by rw [hsk]; exact shI_k hKI.sh (by omega)
    obtain ⟨hsi1, hsi2, hsi3⟩ := hsi
    refine rw_stk (st' := [.ref (ad sk)]) rfl ?_
    refine lv_astore (lv' := [(4, .ref (ad sk)), (0, .ref (ad 0)), (1, .int (iN k)), (2, .int (iN i)), (3, .int (iN v))]) hx hb dX10_lay_5 hl (by decide) rfl (fun ls hl => ?_)
    refine lv_aload hx hb dX10_lay_7 (lv_at hl 0 rfl) ?_
    refine lv_ifnonnull (tgt := 14) hx hb dX10_lay_9 (by decide) ?_
    refine lv_aload hx hb dX10_lay_14 (lv_at hl 0 rfl) ?_
    refine lv_aload hx hb dX10_lay_16 (lv_at hl 0 rfl) ?_
    refine rw_getI hx hb hts hown hW sk hsh.1 0 0 rfl rfl fX10_280 dX10_lay_18 (v := (M sk 0)) rfl ?_
    refine lv_iload_n hx hb dX10_lay_21 rfl (lv_at hl 3 rfl) ?_
    refine rw_iconst hx hb dX10_lay_22 ?_
    refine rw_callV hx hb hml hts hown hW ⟨Nat.le_refl 0, Nat.le_refl 0⟩ [.int (iN (M sk 0)), .int (iN i), .int (iN 1)] sk hsh.1 rfl (c_X5_faultOf (l := l) (G := G) (ad := ad) (CA := CA) (nt := nt) sk hsh (M sk 0) (by omega) i (by omega) 1 (by omega) M hsi1 hsi2) kX10_283 rfl ⟨Nat.le_of_ble_eq_true rfl, Nat.le_of_ble_eq_true rfl⟩ hl.1 rfl (Nat.le_of_ble_eq_true rfl) dX10_lay_23 (fun v4 M5 H locs hp6 hW => ?_)
    obtain ⟨_, rfl, rfl, hp6⟩ := hp6
    rw [hp6] at hW
    refine rw_stk (st' := [.int (iN (faultF (M sk 0) (M sk 1) (M sk 0) i 1))]) rfl ?_
    have hfr : 0 ≤ faultF (M sk 0) (M sk 1) (M sk 0) i 1 ∧ faultF (M sk 0) (M sk 1) (M sk 0) i 1 ≤ 3 := by unfold faultF; split; omega; split; omega; split <;> omega
    refine lv_istore (lv' := [(5, .int (iN (faultF (M sk 0) (M sk 1) (M sk 0) i 1))), (4, .ref (ad sk)), (0, .ref (ad 0)), (1, .int (iN k)), (2, .int (iN i)), (3, .int (iN v))]) hx hb dX10_lay_26 hl (by decide) rfl (fun ls hl => ?_)
    refine lv_iload hx hb dX10_lay_28 (lv_at hl 0 rfl) ?_
    refine rw_if_eq (tgt := 39) hx hb dX10_lay_30 (by decide) (by omega) (fun c_30 => ?_) (fun c_30 => ?_)
    · refine lv_aload hx hb dX10_lay_39 (lv_at hl 1 rfl) ?_
      refine lv_iload_n hx hb dX10_lay_41 rfl (lv_at hl 4 rfl) ?_
      refine lv_iload_n hx hb dX10_lay_42 rfl (lv_at hl 5 rfl) ?_
      refine rw_callV hx hb hml hts hown hW ⟨Nat.le_refl 0, Nat.le_refl 0⟩ [.int (iN i), .int (iN v)] sk hsh.1 rfl (c_X5_write (l := l) (G := G) (ad := ad) (CA := CA) (nt := nt) (by omega) sk hsh i (by omega) v M hsi1 hsi2) kX10_287 rfl ⟨Nat.le_of_ble_eq_true rfl, Nat.le_of_ble_eq_true rfl⟩ hl.1 rfl (Nat.le_of_ble_eq_true rfl) dX10_lay_43 (fun v7 M8 H locs hp9 hW => ?_)
      obtain ⟨rfl, hM8⟩ := hp9
      refine rw_stk (st' := []) rfl ?_
      refine rw_iconst hx hb dX10_lay_46 ?_
      refine rw_iret hx hb hr hlocks hW dX10_lay_47 (⟨1, rfl, ?_⟩)
      refine Or.inl ⟨by omega, Or.inl ⟨by rw [← hsk]; omega, rfl, ?_⟩⟩
      rw [← hsk, hM8, if_pos]
      unfold faultF at c_30
      revert c_30
      repeat' split
      all_goals omega
    · refine rw_bipush hx hb dX10_lay_33 (by decide) ?_
      refine lv_iload hx hb dX10_lay_35 (lv_at hl 0 rfl) ?_
      refine rw_isub hx hb dX10_lay_37 ?_
      refine rw_iret hx hb hr hlocks hW dX10_lay_38 (⟨(-10) - (faultF (M sk 0) (M sk 1) (M sk 0) i 1), rfl, ?_⟩)
      exact Or.inl ⟨by omega, Or.inr ⟨by rw [← hsk]; omega, by rw [← hsk], rfl⟩⟩
  · refine rw_stk (st' := [.null]) rfl ?_
    refine lv_astoreN (lv' := [(4, .null), (0, .ref (ad 0)), (1, .int (iN k)), (2, .int (iN i)), (3, .int (iN v))]) hx hb dX10_lay_5 hl (by decide) rfl (fun ls hl => ?_)
    refine lv_aloadN hx hb dX10_lay_7 (lv_at hl 0 rfl) ?_
    refine lv_ifnonnullN hx hb dX10_lay_9 ?_
    refine rw_iconst hx hb dX10_lay_12 ?_
    refine rw_iret hx hb hr hlocks hW dX10_lay_13 (⟨(-1), rfl, ?_⟩)
    exact Or.inr ⟨by omega, rfl, rfl⟩
abbrev P_X10_cellsOfFirstSheet (M : Mem) : Option Value → Mem → Prop := oI (fun zz MM => zz = (if M 227 0 = -1 then -4 else M 227 1) ∧ MM = M)
set_option maxRecDepth 100000 in
set_option maxHeartbeats 4000000 in
theorem c_X10_cellsOfFirstSheet {l : Launch} {G : va_G} {ad : Nat → Nat} {CA : Nat → ClassId} {nt : Nat} (hnt : 6 ≤ nt) (M : Mem) (hKI : KI M) : Mt l yX10_cellsOfFirstSheet cX10_cellsOfFirstSheet 2 (some .int) 1 21 G ad CA nt LyK [.ref (ad 0)] M (P_X10_cellsOfFirstSheet M) := by
  refine Mt.of (by decide) (Nat.le_of_ble_eq_true rfl) (fun p e s m args below meth c hx hb hr hml hts hown hlocks hnm hW ls hl => ?_)
  have hl : lv_has ls 2 [(0, .ref (ad 0))] := hl
  have hnt4 : 4 ≤ nt := by omega
  obtain ⟨H, hH⟩ : ∃ z, z = s.heap := ⟨_, rfl⟩
  obtain ⟨locs, hlo⟩ : ∃ z : List Loc, z = [] := ⟨_, rfl⟩
  rw [← hH, ← hlo] at hW ⊢
  refine lv_aload_n hx hb dX10_cellsOfFirstSheet_0 rfl (lv_at hl 0 rfl) ?_
  refine rw_iconst hx hb dX10_cellsOfFirstSheet_1 ?_
  refine rw_callV hx hb hml hts hown hW ⟨Nat.le_refl 0, Nat.le_refl 0⟩ [.int (iN 0)] 0 lk_0 rfl (c_X10_sheetOf (l := l) (G := G) (ad := ad) (CA := CA) (nt := nt) (by omega) 0 (by omega) M) kX10_272 rfl ⟨Nat.le_of_ble_eq_true rfl, Nat.le_of_ble_eq_true rfl⟩ hl.1 rfl (Nat.le_of_ble_eq_true rfl) dX10_cellsOfFirstSheet_2 (fun v1 M2 H locs hp3 hW => ?_)
  obtain ⟨hp3m, hp3⟩ := hp3
  rw [hp3m] at hW
  rcases hp3 with ⟨hkr, rfl⟩ | ⟨hkr, rfl⟩
  · obtain ⟨sk, hsk⟩ : ∃ z, z = 227 + 2 * (0 : Int).toNat := ⟨_, rfl⟩
    rw [← hsk]
    have hsh : HAt LyK sk := by rw [hsk]; exact hat_k (by omega)
    have hsi : shI M sk := by rw [hsk]; exact shI_k hKI.sh (by omega)
    obtain ⟨hsi1, hsi2, hsi3⟩ := hsi
    refine rw_stk (st' := [.ref (ad sk)]) rfl ?_
    refine lv_astore_n (lv' := [(1, .ref (ad sk)), (0, .ref (ad 0))]) hx hb dX10_cellsOfFirstSheet_5 rfl hl (by decide) rfl (fun ls hl => ?_)
    refine lv_aload_n hx hb dX10_cellsOfFirstSheet_6 rfl (lv_at hl 0 rfl) ?_
    refine lv_ifnull hx hb dX10_cellsOfFirstSheet_7 ?_
    refine lv_aload_n hx hb dX10_cellsOfFirstSheet_10 rfl (lv_at hl 0 rfl) ?_
    refine rw_getI hx hb hts hown hW sk hsh.1 0 0 rfl rfl fX10_280 dX10_cellsOfFirstSheet_11 (v := (M sk 0)) rfl ?_
    refine rw_iconst hx hb dX10_cellsOfFirstSheet_14 ?_
    refine rw_icmp_ne (tgt := 23) hx hb dX10_cellsOfFirstSheet_15 (by decide) (by omega) (by decide) (fun c_15 => ?_) (fun c_15 => ?_)
    · refine lv_aload_n hx hb dX10_cellsOfFirstSheet_23 rfl (lv_at hl 0 rfl) ?_
      refine rw_getI hx hb hts hown hW sk hsh.1 1 1 rfl rfl fX10_314 dX10_cellsOfFirstSheet_24 (v := (M sk 1)) rfl ?_
      refine rw_iret hx hb hr hlocks hW dX10_cellsOfFirstSheet_27 (⟨(M sk 1), rfl, ?_⟩)
      have e9 : sk = 227 := hsk
      subst e9
      exact ⟨by rw [if_neg c_15], rfl⟩
    · refine rw_bipush hx hb dX10_cellsOfFirstSheet_18 (by decide) ?_
      refine lv_goto (tgt := 27) hx hb dX10_cellsOfFirstSheet_20 (by decide) ?_
      refine rw_iret hx hb hr hlocks hW dX10_cellsOfFirstSheet_27 (⟨(-4), rfl, ?_⟩)
      have e9 : sk = 227 := hsk
      subst e9
      exact ⟨by rw [if_pos c_15], rfl⟩
  · refine rw_stk (st' := [.null]) rfl ?_
    refine lv_astore_nN (lv' := [(1, .null), (0, .ref (ad 0))]) hx hb dX10_cellsOfFirstSheet_5 rfl hl (by decide) rfl (fun ls hl => ?_)
    refine lv_aload_nN hx hb dX10_cellsOfFirstSheet_6 rfl (lv_at hl 0 rfl) ?_
    refine lv_ifnullN (tgt := 18) hx hb dX10_cellsOfFirstSheet_7 (by decide) ?_
    refine rw_bipush hx hb dX10_cellsOfFirstSheet_18 (by decide) ?_
    refine lv_goto (tgt := 27) hx hb dX10_cellsOfFirstSheet_20 (by decide) ?_
    refine rw_iret hx hb hr hlocks hW dX10_cellsOfFirstSheet_27 (⟨(-4), rfl, ?_⟩)
    exfalso
    omega
abbrev P_X10_read (k : Int) (x : Int) (fr : Int) (n : Int) (M : Mem) : Option Value → Mem → Prop := oI (fun zz MM => (((0 ≤ k ∧ k < 4) ∧ (0 ≤ x ∧ x ≤ 2) ∧ 0 ≤ n ∧ n ≤ 20) ∧ 0 ≤ (readF (M (227 + 2 * k.toNat) 0) (M (227 + 2 * k.toNat) 1) (M ((227 + 2 * k.toNat) + 1)) x fr n.toNat 0 (fld M 1)).1 ∧ zz = (readF (M (227 + 2 * k.toNat) 0) (M (227 + 2 * k.toNat) 1) (M ((227 + 2 * k.toNat) + 1)) x fr n.toNat 0 (fld M 1)).1 ∧ fld MM 1 = (readF (M (227 + 2 * k.toNat) 0) (M (227 + 2 * k.toNat) 1) (M ((227 + 2 * k.toNat) + 1)) x fr n.toNat 0 (fld M 1)).2.2 ∧ MM 0 11 = (readF (M (227 + 2 * k.toNat) 0) (M (227 + 2 * k.toNat) 1) (M ((227 + 2 * k.toNat) + 1)) x fr n.toNat 0 (fld M 1)).2.1 ∧ ∀ (q : Nat) (j : Int), ¬ (q = 0 ∧ j = 11) → (q = 0 ∨ 17 ≤ q) → MM q j = M q j) ∨ (((0 ≤ k ∧ k < 4) ∧ (0 ≤ x ∧ x ≤ 2) ∧ 0 ≤ n ∧ n ≤ 20) ∧ (readF (M (227 + 2 * k.toNat) 0) (M (227 + 2 * k.toNat) 1) (M ((227 + 2 * k.toNat) + 1)) x fr n.toNat 0 (fld M 1)).1 < 0 ∧ zz = (readF (M (227 + 2 * k.toNat) 0) (M (227 + 2 * k.toNat) 1) (M ((227 + 2 * k.toNat) + 1)) x fr n.toNat 0 (fld M 1)).1 ∧ Same M MM 9 8) ∨ (¬ ((0 ≤ k ∧ k < 4) ∧ (0 ≤ x ∧ x ≤ 2) ∧ 0 ≤ n ∧ n ≤ 20) ∧ zz = -1 ∧ MM = M))
set_option maxRecDepth 100000 in
set_option maxHeartbeats 4000000 in
theorem c_X10_read {l : Launch} {G : va_G} {ad : Nat → Nat} {CA : Nat → ClassId} {nt : Nat} (hnt : 6 ≤ nt) (k : Int) (hk9 : in32 k) (x : Int) (hx9 : in32 x) (fr : Int) (hfr9 : in32 fr) (n : Int) (hn9 : in32 n) (M : Mem) (hKI : KI M) : Mt l yX10_read cX10_read 9 (some .int) 5 105 G ad CA nt LyK [.ref (ad 0), .int (iN k), .int (iN x), .int (iN fr), .int (iN n)] M (P_X10_read k x fr n M) := by
  refine Mt.of (by decide) (Nat.le_of_ble_eq_true rfl) (fun p e s m args below meth c hx hb hr hml hts hown hlocks hnm hW ls hl => ?_)
  have hl : lv_has ls 9 [(0, .ref (ad 0)), (1, .int (iN k)), (2, .int (iN x)), (3, .int (iN fr)), (4, .int (iN n))] := hl
  have hnt4 : 4 ≤ nt := by omega
  obtain ⟨H, hH⟩ : ∃ z, z = s.heap := ⟨_, rfl⟩
  obtain ⟨locs, hlo⟩ : ∃ z : List Loc, z = [] := ⟨_, rfl⟩
  rw [← hH, ← hlo] at hW ⊢
  have hI := hKI.now
  have hm := hKI.min
  have hc := hI.c
  have hk := hI.k2
  have hT := hKI.told
  have hmn : fld M 1 46 ≤ 1000 := by omega
  refine lv_aload_n hx hb dX10_read_0 rfl (lv_at hl 0 rfl) ?_
  refine lv_iload_n hx hb dX10_read_1 rfl (lv_at hl 1 rfl) ?_
  refine rw_callV hx hb hml hts hown hW ⟨Nat.le_refl 0, Nat.le_refl 0⟩ [.int (iN k)] 0 lk_0 rfl (c_X10_sheetOf (l := l) (G := G) (ad := ad) (CA := CA) (nt := nt) (by omega) k (by omega) M) kX10_272 rfl ⟨Nat.le_of_ble_eq_true rfl, Nat.le_of_ble_eq_true rfl⟩ hl.1 rfl (Nat.le_of_ble_eq_true rfl) dX10_read_2 (fun v1 M2 H locs hp3 hW => ?_)
  obtain ⟨hp3m, hp3⟩ := hp3
  rw [hp3m] at hW
  rcases hp3 with ⟨hkr, rfl⟩ | ⟨hkr, rfl⟩
  · obtain ⟨sk, hsk⟩ : ∃ z, z = 227 + 2 * (k : Int).toNat := ⟨_, rfl⟩
    rw [← hsk]
    have hsh : HAt LyK sk := by rw [hsk]; exact hat_k (by omega)
    have hsi : shI M sk := by rw [hsk]; exact shI_k hKI.sh (by omega)
    obtain ⟨hsi1, hsi2, hsi3⟩ := hsi
    refine rw_stk (st' := [.ref (ad sk)]) rfl ?_
    refine lv_astore (lv' := [(5, .ref (ad sk)), (0, .ref (ad 0)), (1, .int (iN k)), (2, .int (iN x)), (3, .int (iN fr)), (4, .int (iN n))]) hx hb dX10_read_5 hl (by decide) rfl (fun ls hl => ?_)
    refine lv_aload hx hb dX10_read_7 (lv_at hl 0 rfl) ?_
    refine lv_ifnull hx hb dX10_read_9 ?_
    refine lv_iload_n hx hb dX10_read_12 rfl (lv_at hl 3 rfl) ?_
    refine rw_iconst hx hb dX10_read_13 ?_
    refine rw_iconst hx hb dX10_read_14 ?_
    refine rw_callS hx hb hml hts hown hW ⟨Nat.le_refl 0, Nat.le_refl 0⟩ [.int (iN x), .int (iN 0), .int (iN 2)] (c_X10_within (l := l) (G := G) (ad := ad) (CA := CA) (nt := nt) x 0 2 (by omega) (by omega) (by omega) M) kX10_81 rfl ⟨Nat.le_of_ble_eq_true rfl, Nat.le_of_ble_eq_true rfl⟩ hl.1 rfl (Nat.le_of_ble_eq_true rfl) dX10_read_15 (fun v4 M5 H locs hp6 hW => ?_)
    obtain ⟨a7, rfl, hp6, hp6m⟩ := hp6
    rw [hp6m] at hW
    rcases hp6 with ⟨rfl, hp6⟩ | ⟨rfl, hp6⟩
    · refine rw_stk (st' := [.int (iN 1)]) rfl ?_
      refine rw_if_eq (tgt := 32) hx hb dX10_read_18 (by decide) (by decide) (fun c => absurd c (by decide)) (fun _ => ?_)
      refine lv_iload hx hb dX10_read_21 (lv_at hl 5 rfl) ?_
      refine rw_iconst hx hb dX10_read_23 ?_
      refine rw_bipush hx hb dX10_read_24 (by decide) ?_
      refine rw_callS hx hb hml hts hown hW ⟨Nat.le_refl 0, Nat.le_refl 0⟩ [.int (iN n), .int (iN 0), .int (iN 20)] (c_X10_within (l := l) (G := G) (ad := ad) (CA := CA) (nt := nt) n 0 20 (by omega) (by omega) (by omega) M) kX10_81 rfl ⟨Nat.le_of_ble_eq_true rfl, Nat.le_of_ble_eq_true rfl⟩ hl.1 rfl (Nat.le_of_ble_eq_true rfl) dX10_read_26 (fun v8 M9 H locs hp10 hW => ?_)
      obtain ⟨a11, rfl, hp10, hp10m⟩ := hp10
      rw [hp10m] at hW
      rcases hp10 with ⟨rfl, hp10⟩ | ⟨rfl, hp10⟩
      · refine rw_stk (st' := [.int (iN 1)]) rfl ?_
        refine rw_if_ne (tgt := 34) hx hb dX10_read_29 (by decide) (by decide) (fun _ => ?_) (fun c => absurd c (by decide))
        refine lv_aload_n hx hb dX10_read_34 rfl (lv_at hl 1 rfl) ?_
        refine rw_getR hx hb hts hown hW 0 lk_0 1 9 rfl fX10_16 dX10_read_35 ?_
        refine lv_aload_n hx hb dX10_read_38 rfl (lv_at hl 1 rfl) ?_
        refine rw_getR hx hb hts hown hW 0 lk_0 0 1 rfl fX10_10 dX10_read_39 ?_
        refine rw_callV hx hb hml hts hown hW ⟨Nat.le_refl 0, Nat.le_refl 0⟩ [.ref (ad 1)] 9 fk_9.1 rfl (c_X0_copyOf (l := l) (G := G) (ad := ad) (CA := CA) (nt := nt) (by omega) 9 fk_9 1 fk_1 (by omega) M) kX10_104 rfl ⟨Nat.le_of_ble_eq_true rfl, Nat.le_of_ble_eq_true rfl⟩ hl.1 rfl (Nat.le_of_ble_eq_true rfl) dX10_read_42 (fun v12 M13 H locs hp14 hW => ?_)
        obtain ⟨rfl, hM13⟩ := hp14
        refine rw_stk (st' := []) rfl ?_
        refine rw_iconst hx hb dX10_read_45 ?_
        refine lv_istore (lv' := [(6, .int (iN 0)), (5, .ref (ad sk)), (0, .ref (ad 0)), (1, .int (iN k)), (2, .int (iN x)), (3, .int (iN fr)), (4, .int (iN n))]) hx hb dX10_read_46 hl (by decide) rfl (fun ls hl => ?_)
        refine rw_iconst hx hb dX10_read_48 ?_
        refine lv_istore (lv' := [(7, .int (iN 0)), (6, .int (iN 0)), (5, .ref (ad sk)), (0, .ref (ad 0)), (1, .int (iN k)), (2, .int (iN x)), (3, .int (iN fr)), (4, .int (iN n))]) hx hb dX10_read_49 hl (by decide) rfl (fun ls hl => ?_)
        have hC_51 : ∀ N : Nat, ∀ (fo : Int) (w : Int) (Mx : Mem) (H : Heap) (locs : List Loc) (ls : Array Slot), (n - w).toNat < N → (fo = 0) → (0 ≤ w ∧ w ≤ n) → (w = 0 ∨ (0 ≤ fr ∧ fr + 2 * w ≤ M sk 1)) → (Same M Mx 9 8) → (InvF (fld Mx 9) ∧ fld Mx 9 46 ≤ 999) → (readF (M sk 0) (M sk 1) (M (sk + 1)) x fr (n - w).toNat w (fld Mx 9) = readF (M sk 0) (M sk 1) (M (sk + 1)) x fr n.toNat 0 (fld M 1)) → Wo G ad CA nt LyK (wA ad LyK) s Mx H locs → lv_has ls 9 [(0, .ref (ad 0)), (2, .int (iN x)), (3, .int (iN fr)), (4, .int (iN n)), (5, .ref (ad sk)), (6, .int (iN fo)), (7, .int (iN w))] → Wf l 5 105 G ad CA nt LyK (P_X10_read k x fr n M) p e s m args below meth c H locs (F0 m 51 ls []) := by
          intro N
          induction N with
          | zero => intro fo w Mx H locs ls hN; exact absurd hN (Nat.not_lt_zero _)
          | succ N ih =>
            intro fo w Mx H locs ls hN hfo hw hw2 hs hJ hrd hW hl
            have hx0 : Mx sk = M sk := hs sk (by omega)
            have hx1 : Mx (sk + 1) = M (sk + 1) := hs (sk + 1) (by omega)
            refine lv_iload hx hb dX10_read_51 (lv_at hl 6 rfl) ?_
            refine lv_iload hx hb dX10_read_53 (lv_at hl 3 rfl) ?_
            refine rw_icmp_ge (tgt := 124) hx hb dX10_read_55 (by decide) (by omega) (by omega) (fun c_55 => ?_) (fun c_55 => ?_)
            · refine lv_aload_n hx hb dX10_read_124 rfl (lv_at hl 0 rfl) ?_
              refine rw_getR hx hb hts hown hW 0 lk_0 0 1 rfl fX10_10 dX10_read_125 ?_
              refine lv_aload_n hx hb dX10_read_128 rfl (lv_at hl 0 rfl) ?_
              refine rw_getR hx hb hts hown hW 0 lk_0 1 9 rfl fX10_16 dX10_read_129 ?_
              refine rw_callV hx hb hml hts hown hW ⟨Nat.le_refl 0, Nat.le_refl 0⟩ [.ref (ad 9)] 1 fk_1.1 rfl (c_X0_copyOf (l := l) (G := G) (ad := ad) (CA := CA) (nt := nt) (by omega) 1 fk_1 9 fk_9 (by omega) Mx) kX10_104 rfl ⟨Nat.le_of_ble_eq_true rfl, Nat.le_of_ble_eq_true rfl⟩ hl.1 rfl (Nat.le_of_ble_eq_true rfl) dX10_read_132 (fun v15 M16 H locs hp17 hW => ?_)
              obtain ⟨rfl, hM16⟩ := hp17
              refine rw_stk (st' := []) rfl ?_
              refine lv_aload_n hx hb dX10_read_135 rfl (lv_at hl 0 rfl) ?_
              refine lv_iload hx hb dX10_read_136 (lv_at hl 5 rfl) ?_
              refine rw_putI hx hb hts hown hW 0 lk_0 11 11 rfl rfl qX10_293 (v := fo) dX10_read_138 (fun H locs hW => ?_)
              obtain ⟨M18, hM18⟩ : ∃ z, z = upd2 M16 0 11 fo := ⟨_, rfl⟩
              rw [← hM18] at hW
              refine lv_iload hx hb dX10_read_141 (lv_at hl 6 rfl) ?_
              refine rw_iret hx hb hr hlocks hW dX10_read_143 (⟨w, rfl, ?_⟩)
              have hR : readF (M sk 0) (M sk 1) (M (sk + 1)) x fr n.toNat 0 (fld M 1) = (w, fo, fld Mx 9) := by
                rw [← hrd]
                rw [show (n - w).toNat = 0 by omega, readF_0, hfo]
              refine Or.inl ⟨by omega, ?_, ?_, ?_, ?_, ?_⟩
              · rw [← hsk, hR]; show 0 ≤ w; omega
              · rw [← hsk, hR]
              · rw [← hsk, hR, hM18, fld_eq8 (fun q h1 h2 => upd2_ne1 (by omega))]; exact hM16.1
              · rw [← hsk, hR, hM18, upd2_eq]
              · intro q j h1 h2; rw [hM18, upd2_at, if_neg h1, hM16.2 q (by omega), hs q (by omega)]
            · refine lv_iload_n hx hb dX10_read_58 rfl (lv_at hl 2 rfl) ?_
              refine rw_iconst hx hb dX10_read_59 ?_
              refine lv_iload hx hb dX10_read_60 (lv_at hl 6 rfl) ?_
              refine rw_imul hx hb dX10_read_62 ?_
              refine rw_iadd hx hb dX10_read_63 ?_
              refine lv_istore (lv' := [(8, .int (iN (fr + (2 * w)))), (0, .ref (ad 0)), (2, .int (iN x)), (3, .int (iN fr)), (4, .int (iN n)), (5, .ref (ad sk)), (6, .int (iN fo)), (7, .int (iN w))]) hx hb dX10_read_64 hl (by decide) rfl (fun ls hl => ?_)
              refine lv_aload hx hb dX10_read_66 (lv_at hl 5 rfl) ?_
              refine lv_iload_n hx hb dX10_read_68 rfl (lv_at hl 2 rfl) ?_
              refine lv_iload hx hb dX10_read_69 (lv_at hl 0 rfl) ?_
              refine rw_iconst hx hb dX10_read_71 ?_
              refine rw_callV hx hb hml hts hown hW ⟨Nat.le_refl 0, Nat.le_refl 0⟩ [.int (iN x), .int (iN (fr + (2 * w))), .int (iN 2)] sk hsh.1 rfl (c_X5_faultOf (l := l) (G := G) (ad := ad) (CA := CA) (nt := nt) sk hsh x (by omega) (fr + (2 * w)) (by omega) 2 (by omega) Mx (by rw [hx0]; exact hsi1) (by rw [hx0]; exact hsi2)) kX10_283 rfl ⟨Nat.le_of_ble_eq_true rfl, Nat.le_of_ble_eq_true rfl⟩ hl.1 rfl (Nat.le_of_ble_eq_true rfl) dX10_read_72 (fun v19 M20 H locs hp21 hW => ?_)
              obtain ⟨_, rfl, rfl, hp21⟩ := hp21
              rw [hp21] at hW
              refine rw_stk (st' := [.int (iN (faultF (Mx sk 0) (Mx sk 1) x (fr + (2 * w)) 2))]) rfl ?_
              obtain ⟨ft, hft⟩ : ∃ z, z = faultF (Mx sk 0) (Mx sk 1) x (fr + 2 * w) 2 := ⟨_, rfl⟩
              rw [← hft]
              have hftr : 0 ≤ ft ∧ ft ≤ 3 := by rw [hft]; exact faultF_rng _ _ _ _ _
              rw [hx0] at hft
              refine lv_istore (lv' := [(6, .int (iN ft)), (8, .int (iN (fr + (2 * w)))), (0, .ref (ad 0)), (2, .int (iN x)), (3, .int (iN fr)), (4, .int (iN n)), (5, .ref (ad sk)), (7, .int (iN w))]) hx hb dX10_read_75 hl (by decide) rfl (fun ls hl => ?_)
              refine lv_iload hx hb dX10_read_77 (lv_at hl 0 rfl) ?_
              refine rw_if_eq (tgt := 85) hx hb dX10_read_79 (by decide) (by omega) (fun c_79 => ?_) (fun c_79 => ?_)
              · have hft0 : faultF (M sk 0) (M sk 1) x (fr + 2 * w) 2 = 0 := by rw [← hft]; omega
                have hfk := faultF_ok hft0
                refine lv_aload_n hx hb dX10_read_85 rfl (lv_at hl 2 rfl) ?_
                refine rw_getR hx hb hts hown hW 0 lk_0 1 9 rfl fX10_16 dX10_read_86 ?_
                refine lv_aload hx hb dX10_read_89 (lv_at hl 6 rfl) ?_
                refine lv_iload hx hb dX10_read_91 (lv_at hl 1 rfl) ?_
                refine rw_callV hx hb hml hts hown hW ⟨Nat.le_refl 0, Nat.le_refl 0⟩ [.int (iN (fr + (2 * w)))] sk hsh.1 rfl (c_X5_valueAt (l := l) (G := G) (ad := ad) (CA := CA) (nt := nt) (by omega) sk hsh (fr + (2 * w)) (by omega) Mx (by rw [hx0]; exact hsi2)) kX10_290 rfl ⟨Nat.le_of_ble_eq_true rfl, Nat.le_of_ble_eq_true rfl⟩ hl.1 rfl (Nat.le_of_ble_eq_true rfl) dX10_read_93 (fun v22 M23 H locs hp24 hW => ?_)
                obtain ⟨_, rfl, rfl, hp24⟩ := hp24
                rw [hp24] at hW
                refine rw_stk (st' := [.int (iN (if 0 ≤ (fr + (2 * w)) ∧ (fr + (2 * w)) < Mx sk 1 then Mx (sk + 1) (fr + (2 * w)) else 0)), .ref (ad 9)]) rfl ?_
                refine lv_aload hx hb dX10_read_96 (lv_at hl 6 rfl) ?_
                refine lv_iload hx hb dX10_read_98 (lv_at hl 1 rfl) ?_
                refine rw_iconst hx hb dX10_read_100 ?_
                refine rw_iadd hx hb dX10_read_101 ?_
                refine rw_callV hx hb hml hts hown hW ⟨Nat.le_refl 0, Nat.le_refl 0⟩ [.int (iN ((fr + (2 * w)) + 1))] sk hsh.1 rfl (c_X5_valueAt (l := l) (G := G) (ad := ad) (CA := CA) (nt := nt) (by omega) sk hsh ((fr + (2 * w)) + 1) (by omega) Mx (by rw [hx0]; exact hsi2)) kX10_290 rfl ⟨Nat.le_of_ble_eq_true rfl, Nat.le_of_ble_eq_true rfl⟩ hl.1 rfl (Nat.le_of_ble_eq_true rfl) dX10_read_102 (fun v25 M26 H locs hp27 hW => ?_)
                obtain ⟨_, rfl, rfl, hp27⟩ := hp27
                rw [hp27] at hW
                refine rw_stk (st' := [.int (iN (if 0 ≤ ((fr + (2 * w)) + 1) ∧ ((fr + (2 * w)) + 1) < Mx sk 1 then Mx (sk + 1) ((fr + (2 * w)) + 1) else 0)), .int (iN (if 0 ≤ (fr + (2 * w)) ∧ (fr + (2 * w)) < Mx sk 1 then Mx (sk + 1) (fr + (2 * w)) else 0)), .ref (ad 9)]) rfl ?_
                refine rw_iconst hx hb dX10_read_105 ?_
                have hv0 : (if 0 ≤ fr + 2 * w ∧ fr + 2 * w < Mx sk 1 then Mx (sk + 1) (fr + 2 * w) else 0) = M (sk + 1) (fr + 2 * w) := by rw [hx0, hx1, if_pos (by omega)]
                have hv1 : (if 0 ≤ fr + 2 * w + 1 ∧ fr + 2 * w + 1 < Mx sk 1 then Mx (sk + 1) (fr + 2 * w + 1) else 0) = M (sk + 1) (fr + 2 * w + 1) := by rw [hx0, hx1, if_pos (by omega)]
                rw [hv0, hv1]
                have hr1 := hsi3 (fr + 2 * w) (by omega) (by omega)
                have hr2 := hsi3 (fr + 2 * w + 1) (by omega) (by omega)
                have hrf := refF_rng (fld Mx 9) (M (sk + 1) (fr + 2 * w)) (M (sk + 1) (fr + 2 * w + 1))
                refine rw_callV hx hb hml hts hown hW ⟨Nat.le_refl 0, Nat.le_refl 0⟩ [.int (iN (M (sk + 1) (fr + 2 * w))), .int (iN (M (sk + 1) (fr + 2 * w + 1))), .int (iN 0)] 9 fk_9.1 rfl (c_X0_passOrRefuse (l := l) (G := G) (ad := ad) (CA := CA) (nt := nt) (by omega) 9 fk_9 (M (sk + 1) (fr + 2 * w)) (M (sk + 1) (fr + 2 * w + 1)) hr1 hr2 0 (by omega) Mx hJ.1) kX10_193 rfl ⟨Nat.le_of_ble_eq_true rfl, Nat.le_of_ble_eq_true rfl⟩ hl.1 rfl (Nat.le_of_ble_eq_true rfl) dX10_read_106 (fun v28 M29 H locs hp30 hW => ?_)
                obtain ⟨_, rfl, rfl, hM29⟩ := hp30
                refine rw_stk (st' := [.int (iN (refF (fld Mx 9) (M (sk + 1) (fr + 2 * w)) (M (sk + 1) (fr + 2 * w + 1))))]) rfl ?_
                refine rw_if_eq (tgt := 118) hx hb dX10_read_109 (by decide) (by omega) (fun c_109 => ?_) (fun c_109 => ?_)
                · have hpz : refF (fld Mx 9) (M (sk + 1) (fr + 2 * w)) (M (sk + 1) (fr + 2 * w + 1)) = 0 ∧ fld M29 9 = passF (fld Mx 9) (M (sk + 1) (fr + 2 * w)) (M (sk + 1) (fr + 2 * w + 1)) 0 ∧ Same Mx M29 9 8 := by
                    rcases hM29 with q | q
                    · exact q
                    · exact absurd c_109 q.1
                  have hJ3 : InvF (fld M29 9) ∧ fld M29 9 46 ≤ 999 := by
                    rw [hpz.2.1]
                    have q := refF_ok hpz.1
                    exact ⟨passF_inv hJ.1 (by omega) q.1 q.2.1, by show fld Mx 9 46 + 1 ≤ 999; omega⟩
                  refine rw_iinc (lv' := [(7, .int (iN (w + 1))), (6, .int (iN ft)), (8, .int (iN (fr + (2 * w)))), (0, .ref (ad 0)), (2, .int (iN x)), (3, .int (iN fr)), (4, .int (iN n)), (5, .ref (ad sk))]) hx hb dX10_read_118 hl (k := 7) rfl (by decide) rfl (fun ls hl => ?_)
                  refine lv_goto (tgt := 51) hx hb dX10_read_121 (by decide) ?_
                  exact ih ft (w + 1) M29 H locs ls (by omega) (by omega) (by omega) (Or.inr (by have := faultF_ok hft0; omega)) (hs.trans hpz.2.2) hJ3 (by rw [← hrd, show (n - w).toNat = (n - (w + 1)).toNat + 1 by omega, readF_on hft0 hpz.1, hpz.2.1]) hW (lv_sub hl [3, 4, 5, 6, 7, 1, 0] rfl)
                · refine rw_bipush hx hb dX10_read_112 (by decide) ?_
                  refine lv_iload hx hb dX10_read_114 (lv_at hl 7 rfl) ?_
                  refine rw_isub hx hb dX10_read_116 ?_
                  refine rw_iret hx hb hr hlocks hW dX10_read_117 (⟨(-20) - w, rfl, ?_⟩)
                  have hR : readF (M sk 0) (M sk 1) (M (sk + 1)) x fr n.toNat 0 (fld M 1) = (-20 - w, 0, fld Mx 9) := by
                    rw [← hrd, show (n - w).toNat = (n - (w + 1)).toNat + 1 by omega]
                    exact readF_ref hft0 c_109
                  rcases hM29 with ⟨q1, -, -⟩ | ⟨-, q2⟩
                  · exact absurd q1 c_109
                  · refine Or.inr (Or.inl ⟨by omega, ?_, ?_, ?_⟩)
                    · rw [← hsk, hR]; show -20 - w < 0; omega
                    · rw [← hsk, hR]
                    · rw [q2]; exact hs
              · refine lv_goto (tgt := 124) hx hb dX10_read_82 (by decide) ?_
                refine lv_aload_n hx hb dX10_read_124 rfl (lv_at hl 2 rfl) ?_
                refine rw_getR hx hb hts hown hW 0 lk_0 0 1 rfl fX10_10 dX10_read_125 ?_
                refine lv_aload_n hx hb dX10_read_128 rfl (lv_at hl 2 rfl) ?_
                refine rw_getR hx hb hts hown hW 0 lk_0 1 9 rfl fX10_16 dX10_read_129 ?_
                refine rw_callV hx hb hml hts hown hW ⟨Nat.le_refl 0, Nat.le_refl 0⟩ [.ref (ad 9)] 1 fk_1.1 rfl (c_X0_copyOf (l := l) (G := G) (ad := ad) (CA := CA) (nt := nt) (by omega) 1 fk_1 9 fk_9 (by omega) Mx) kX10_104 rfl ⟨Nat.le_of_ble_eq_true rfl, Nat.le_of_ble_eq_true rfl⟩ hl.1 rfl (Nat.le_of_ble_eq_true rfl) dX10_read_132 (fun v31 M32 H locs hp33 hW => ?_)
                obtain ⟨rfl, hM32⟩ := hp33
                refine rw_stk (st' := []) rfl ?_
                refine lv_aload_n hx hb dX10_read_135 rfl (lv_at hl 2 rfl) ?_
                refine lv_iload hx hb dX10_read_136 (lv_at hl 0 rfl) ?_
                refine rw_putI hx hb hts hown hW 0 lk_0 11 11 rfl rfl qX10_293 (v := ft) dX10_read_138 (fun H locs hW => ?_)
                obtain ⟨M34, hM34⟩ : ∃ z, z = upd2 M32 0 11 ft := ⟨_, rfl⟩
                rw [← hM34] at hW
                refine lv_iload hx hb dX10_read_141 (lv_at hl 7 rfl) ?_
                refine rw_iret hx hb hr hlocks hW dX10_read_143 (⟨w, rfl, ?_⟩)
                have hR : readF (M sk 0) (M sk 1) (M (sk + 1)) x fr n.toNat 0 (fld M 1) = (w, ft, fld Mx 9) := by
                  rw [← hrd]
                  rw [show (n - w).toNat = (n - (w + 1)).toNat + 1 by omega, readF_flt (by rw [← hft]; exact c_79), ← hft]
                refine Or.inl ⟨by omega, ?_, ?_, ?_, ?_, ?_⟩
                · rw [← hsk, hR]; show 0 ≤ w; omega
                · rw [← hsk, hR]
                · rw [← hsk, hR, hM34, fld_eq8 (fun q h1 h2 => upd2_ne1 (by omega))]; exact hM32.1
                · rw [← hsk, hR, hM34, upd2_eq]
                · intro q j h1 h2; rw [hM34, upd2_at, if_neg h1, hM32.2 q (by omega), hs q (by omega)]
        exact hC_51 _ 0 0 M13 H locs ls (Nat.lt_succ_self _) rfl (by omega) (Or.inl rfl) hM13.2 (by rw [hM13.1]; exact ⟨hI, hm⟩) (by rw [hM13.1, Int.sub_zero]) hW (lv_sub hl [3, 5, 6, 7, 2, 1, 0] rfl)
      · refine rw_stk (st' := [.int (iN 0)]) rfl ?_
        refine rw_if_ne (tgt := 34) hx hb dX10_read_29 (by decide) (by decide) (fun c => absurd c (by decide)) (fun _ => ?_)
        refine rw_iconst hx hb dX10_read_32 ?_
        refine rw_iret hx hb hr hlocks hW dX10_read_33 (⟨(-1), rfl, ?_⟩)
        exact Or.inr (Or.inr ⟨by omega, rfl, rfl⟩)
    · refine rw_stk (st' := [.int (iN 0)]) rfl ?_
      refine rw_if_eq (tgt := 32) hx hb dX10_read_18 (by decide) (by decide) (fun _ => ?_) (fun c => absurd (by decide) c)
      refine rw_iconst hx hb dX10_read_32 ?_
      refine rw_iret hx hb hr hlocks hW dX10_read_33 (⟨(-1), rfl, ?_⟩)
      exact Or.inr (Or.inr ⟨by omega, rfl, rfl⟩)
  · refine rw_stk (st' := [.null]) rfl ?_
    refine lv_astoreN (lv' := [(5, .null), (0, .ref (ad 0)), (1, .int (iN k)), (2, .int (iN x)), (3, .int (iN fr)), (4, .int (iN n))]) hx hb dX10_read_5 hl (by decide) rfl (fun ls hl => ?_)
    refine lv_aloadN hx hb dX10_read_7 (lv_at hl 0 rfl) ?_
    refine lv_ifnullN (tgt := 32) hx hb dX10_read_9 (by decide) ?_
    refine rw_iconst hx hb dX10_read_32 ?_
    refine rw_iret hx hb hr hlocks hW dX10_read_33 (⟨(-1), rfl, ?_⟩)
    exact Or.inr (Or.inr ⟨by omega, rfl, rfl⟩)
