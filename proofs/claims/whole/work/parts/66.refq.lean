abbrev P_X11_readOf (lx : Int) (M0 : Mem) (x : PX) (M : Mem) : Option Value → Mem → Prop := oV (fun MM => Sk M0 MM (nextX (M0 4) (M0 0 9) (ofX (M0 4) (M0 0 9) lx x)))
set_option maxRecDepth 100000 in
set_option maxHeartbeats 4000000 in
theorem c_X11_readOf {l : Launch} {G : va_G} {ad : Nat → Nat} {CA : Nat → ClassId} {nt : Nat} (hnt : 6 ≤ nt) (lx : Int) (hlx : lx = 1 ∨ lx = 2 ∨ lx = 3 ∨ lx = 5 ∨ lx = 6) (M0 : Mem) (x : PX) (M : Mem) (hS : Sk M0 M (nextX (M0 4) (M0 0 9) x)) : Mt l yX11_readOf cX11_readOf 3 none 5 115 G ad CA nt LyM [.ref (ad 0), .int (iN lx)] M (P_X11_readOf lx M0 x M) := by
  refine Mt.of (by decide) (Nat.le_of_ble_eq_true rfl) (fun p e s m args below meth c hx hb hr hml hts hown hlocks hnm hW ls hl => ?_)
  have hl : lv_has ls 3 [(0, .ref (ad 0)), (1, .int (iN lx))] := hl
  have hnt4 : 4 ≤ nt := by omega
  obtain ⟨H, hH⟩ : ∃ z, z = s.heap := ⟨_, rfl⟩
  obtain ⟨locs, hlo⟩ : ∃ z : List Loc, z = [] := ⟨_, rfl⟩
  rw [← hH, ← hlo] at hW ⊢
  rcases hlx with rfl | rfl | rfl | rfl | rfl
  · have hSf := hS.f
    have hRT := hS.2.1
    have hst := hRT.1
    have hk15 := hRT.2.1
    have hv16 := hRT.2.2
    obtain ⟨hT9, hB9, hC5, hC6⟩ := hS.1.frm
    refine lv_iload_n hx hb dX11_readOf_0 rfl (lv_at hl 1 rfl) ?_
    refine rw_iconst hx hb dX11_readOf_1 ?_
    refine rw_icmp_ne (tgt := 35) hx hb dX11_readOf_2 (by decide) (by decide) (by decide) (fun c => absurd c (by decide)) (fun _ => ?_)
    refine lv_aload_n hx hb dX11_readOf_5 rfl (lv_at hl 0 rfl) ?_
    refine lv_iload_n hx hb dX11_readOf_6 rfl (lv_at hl 1 rfl) ?_
    refine rw_bipush hx hb dX11_readOf_7 (by decide) ?_
    refine rw_callV hx hb hml hts hown hW ⟨Nat.le_refl 0, Nat.le_refl 0⟩ [.int (iN 1), .int (iN 8)] 0 lm_0 rfl (c_X11_fresh (l := l) (G := G) (ad := ad) (CA := CA) (nt := nt) (by omega) 1 8 (by first | omega | decide) (by first | omega | decide) M0 x M hS) kX11_105 rfl ⟨Nat.le_of_ble_eq_true rfl, Nat.le_of_ble_eq_true rfl⟩ hl.1 rfl (Nat.le_of_ble_eq_true rfl) dX11_readOf_9 (fun v1 M2 H locs hp3 hW => ?_)
    obtain ⟨a4, rfl, hM2⟩ := hp3
    refine rw_stk (st' := [.int (iN a4)]) rfl ?_
    obtain ⟨zz, hzz⟩ : ∃ z, z = a4 := ⟨_, rfl⟩
    rw [← hzz] at hM2 ⊢
    obtain ⟨hz0, hz1, hSf, hzn⟩ := hM2
    refine lv_istore_n (lv' := [(2, .int (iN zz)), (0, .ref (ad 0)), (1, .int (iN 1))]) hx hb dX11_readOf_12 rfl hl (by decide) rfl (fun ls hl => ?_)
    refine lv_aload_n hx hb dX11_readOf_13 rfl (lv_at hl 1 rfl) ?_
    refine rw_getR hx hb hts hown hW 0 lm_0 2 2 rfl fX11_17 dX11_readOf_14 ?_
    refine rw_iconst hx hb dX11_readOf_17 ?_
    refine lv_iload_n hx hb dX11_readOf_18 rfl (lv_at hl 0 rfl) ?_
    refine rw_imul hx hb dX11_readOf_19 ?_
    refine rw_bipush hx hb dX11_readOf_20 (by decide) ?_
    refine lv_aload_n hx hb dX11_readOf_22 rfl (lv_at hl 1 rfl) ?_
    refine rw_iconst hx hb dX11_readOf_23 ?_
    refine rw_bipush hx hb dX11_readOf_24 (by decide) ?_
    refine rw_iconst hx hb dX11_readOf_26 ?_
    refine rw_callV hx hb hml hts hown hW ⟨Nat.le_refl 0, Nat.le_refl 0⟩ [.int (iN 1), .int (iN 12), .int (iN 0)] 0 lm_0 rfl (c_X11_other (l := l) (G := G) (ad := ad) (CA := CA) (nt := nt) (by omega) 1 12 0 (by first | omega | decide) (by first | omega | decide) M0 (nextX (M0 4) (M0 0 9) (frX (M0 4) (M0 0 9) 1 8 x)) M2 hSf) kX11_98 rfl ⟨Nat.le_of_ble_eq_true rfl, Nat.le_of_ble_eq_true rfl⟩ hl.1 rfl (Nat.le_of_ble_eq_true rfl) dX11_readOf_27 (fun v5 M6 H locs hp7 hW => ?_)
    obtain ⟨a8, rfl, hM6⟩ := hp7
    refine rw_stk (st' := [.int (iN a8), .int (iN 12), .int (iN (3 * zz)), .ref (ad 2)]) rfl ?_
    rw [oth_0] at hM6
    have hS2 : Sk M0 M6 (nextX (M0 4) (M0 0 9) (numX (M0 4) (M0 0 9) 1 12 (frX (M0 4) (M0 0 9) 1 8 x))) := hM6.2
    have hv2 : a8 = numV (M0 4) (M0 0 9) 1 12 (frX (M0 4) (M0 0 9) 1 8 x) := hM6.1
    refine rw_isub hx hb dX11_readOf_30 ?_
    refine rw_iast hx hb hW hnt4 2 lm_2 (v := 12 - a8) (by omega) (by omega) (by decide) dX11_readOf_31 (fun H locs hW => ?_)
    obtain ⟨M9, hM9⟩ : ∃ z, z = upd2 M6 2 (3 * zz) (12 - a8) := ⟨_, rfl⟩
    rw [← hM9] at hW
    refine lv_goto (tgt := 145) hx hb dX11_readOf_32 (by decide) ?_
    refine rw_vret hx hb hr hlocks hW dX11_readOf_145 (⟨rfl, ?_⟩)
    have hfin : Sk M0 M9 (nextX (M0 4) (M0 0 9) (cellG (M0 4) (M0 0 9) 0 1 12 zz (frX (M0 4) (M0 0 9) 1 8 x))) := by
      rw [hM9]
      have q := hS2.setp (k := 3 * zz) (v := a8) (v' := 12 - a8) (by omega) (by rw [pgV_r (by omega)]; omega)
      rw [show (3 * zz : Int) = 3 * zz + 0 from (Int.add_zero _).symm] at q ⊢
      rw [hv2] at q ⊢
      exact q
    rw [cellG_is _ _ hzn] at hfin
    unfold ofX
    rw [if_pos rfl]
    exact hfin
  · have hSf := hS.f
    have hRT := hS.2.1
    have hst := hRT.1
    have hk15 := hRT.2.1
    have hv16 := hRT.2.2
    obtain ⟨hT9, hB9, hC5, hC6⟩ := hS.1.frm
    refine lv_iload_n hx hb dX11_readOf_0 rfl (lv_at hl 1 rfl) ?_
    refine rw_iconst hx hb dX11_readOf_1 ?_
    refine rw_icmp_ne (tgt := 35) hx hb dX11_readOf_2 (by decide) (by decide) (by decide) (fun _ => ?_) (fun c => absurd c (by decide))
    refine lv_iload_n hx hb dX11_readOf_35 rfl (lv_at hl 1 rfl) ?_
    refine rw_iconst hx hb dX11_readOf_36 ?_
    refine rw_icmp_ne (tgt := 71) hx hb dX11_readOf_37 (by decide) (by decide) (by decide) (fun c => absurd c (by decide)) (fun _ => ?_)
    refine lv_aload_n hx hb dX11_readOf_40 rfl (lv_at hl 0 rfl) ?_
    refine lv_iload_n hx hb dX11_readOf_41 rfl (lv_at hl 1 rfl) ?_
    refine rw_bipush hx hb dX11_readOf_42 (by decide) ?_
    refine rw_callV hx hb hml hts hown hW ⟨Nat.le_refl 0, Nat.le_refl 0⟩ [.int (iN 2), .int (iN 8)] 0 lm_0 rfl (c_X11_fresh (l := l) (G := G) (ad := ad) (CA := CA) (nt := nt) (by omega) 2 8 (by first | omega | decide) (by first | omega | decide) M0 x M hS) kX11_105 rfl ⟨Nat.le_of_ble_eq_true rfl, Nat.le_of_ble_eq_true rfl⟩ hl.1 rfl (Nat.le_of_ble_eq_true rfl) dX11_readOf_44 (fun v10 M11 H locs hp12 hW => ?_)
    obtain ⟨a13, rfl, hM11⟩ := hp12
    refine rw_stk (st' := [.int (iN a13)]) rfl ?_
    obtain ⟨zz, hzz⟩ : ∃ z, z = a13 := ⟨_, rfl⟩
    rw [← hzz] at hM11 ⊢
    obtain ⟨hz0, hz1, hSf, hzn⟩ := hM11
    refine lv_istore_n (lv' := [(2, .int (iN zz)), (0, .ref (ad 0)), (1, .int (iN 2))]) hx hb dX11_readOf_47 rfl hl (by decide) rfl (fun ls hl => ?_)
    refine lv_aload_n hx hb dX11_readOf_48 rfl (lv_at hl 1 rfl) ?_
    refine rw_getR hx hb hts hown hW 0 lm_0 2 2 rfl fX11_17 dX11_readOf_49 ?_
    refine rw_iconst hx hb dX11_readOf_52 ?_
    refine lv_iload_n hx hb dX11_readOf_53 rfl (lv_at hl 0 rfl) ?_
    refine rw_imul hx hb dX11_readOf_54 ?_
    refine rw_iconst hx hb dX11_readOf_55 ?_
    refine rw_iadd hx hb dX11_readOf_56 ?_
    refine lv_aload_n hx hb dX11_readOf_57 rfl (lv_at hl 1 rfl) ?_
    refine rw_iconst hx hb dX11_readOf_58 ?_
    refine rw_bipush hx hb dX11_readOf_59 (by decide) ?_
    refine rw_iconst hx hb dX11_readOf_61 ?_
    refine rw_callV hx hb hml hts hown hW ⟨Nat.le_refl 0, Nat.le_refl 0⟩ [.int (iN 0), .int (iN 6), .int (iN 0)] 0 lm_0 rfl (c_X11_other (l := l) (G := G) (ad := ad) (CA := CA) (nt := nt) (by omega) 0 6 0 (by first | omega | decide) (by first | omega | decide) M0 (nextX (M0 4) (M0 0 9) (frX (M0 4) (M0 0 9) 2 8 x)) M11 hSf) kX11_98 rfl ⟨Nat.le_of_ble_eq_true rfl, Nat.le_of_ble_eq_true rfl⟩ hl.1 rfl (Nat.le_of_ble_eq_true rfl) dX11_readOf_62 (fun v14 M15 H locs hp16 hW => ?_)
    obtain ⟨a17, rfl, hM15⟩ := hp16
    refine rw_stk (st' := [.int (iN a17), .int (iN ((3 * zz) + 1)), .ref (ad 2)]) rfl ?_
    rw [oth_0] at hM15
    have hS2 : Sk M0 M15 (nextX (M0 4) (M0 0 9) (numX (M0 4) (M0 0 9) 0 6 (frX (M0 4) (M0 0 9) 2 8 x))) := hM15.2
    have hv2 : a17 = numV (M0 4) (M0 0 9) 0 6 (frX (M0 4) (M0 0 9) 2 8 x) := hM15.1
    refine rw_iconst hx hb dX11_readOf_65 ?_
    refine rw_isub hx hb dX11_readOf_66 ?_
    refine rw_iast hx hb hW hnt4 2 lm_2 (v := a17 - 3) (by omega) (by omega) (by decide) dX11_readOf_67 (fun H locs hW => ?_)
    obtain ⟨M18, hM18⟩ : ∃ z, z = upd2 M15 2 ((3 * zz) + 1) (a17 - 3) := ⟨_, rfl⟩
    rw [← hM18] at hW
    refine lv_goto (tgt := 145) hx hb dX11_readOf_68 (by decide) ?_
    refine rw_vret hx hb hr hlocks hW dX11_readOf_145 (⟨rfl, ?_⟩)
    have hfin : Sk M0 M18 (nextX (M0 4) (M0 0 9) (cellG (M0 4) (M0 0 9) 1 0 6 zz (frX (M0 4) (M0 0 9) 2 8 x))) := by
      rw [hM18]
      have q := hS2.setp (k := 3 * zz + 1) (v := a17) (v' := a17 - 3) (by omega) (by rw [pgV_l (by omega)]; omega)
      rw [hv2] at q ⊢
      exact q
    rw [cellG_is _ _ hzn] at hfin
    unfold ofX
    rw [if_neg (by decide), if_pos rfl]
    exact hfin
  · have hSf := hS.f
    have hRT := hS.2.1
    have hst := hRT.1
    have hk15 := hRT.2.1
    have hv16 := hRT.2.2
    obtain ⟨hT9, hB9, hC5, hC6⟩ := hS.1.frm
    refine lv_iload_n hx hb dX11_readOf_0 rfl (lv_at hl 1 rfl) ?_
    refine rw_iconst hx hb dX11_readOf_1 ?_
    refine rw_icmp_ne (tgt := 35) hx hb dX11_readOf_2 (by decide) (by decide) (by decide) (fun _ => ?_) (fun c => absurd c (by decide))
    refine lv_iload_n hx hb dX11_readOf_35 rfl (lv_at hl 1 rfl) ?_
    refine rw_iconst hx hb dX11_readOf_36 ?_
    refine rw_icmp_ne (tgt := 71) hx hb dX11_readOf_37 (by decide) (by decide) (by decide) (fun _ => ?_) (fun c => absurd c (by decide))
    refine lv_iload_n hx hb dX11_readOf_71 rfl (lv_at hl 1 rfl) ?_
    refine rw_iconst hx hb dX11_readOf_72 ?_
    refine rw_icmp_ne (tgt := 105) hx hb dX11_readOf_73 (by decide) (by decide) (by decide) (fun c => absurd c (by decide)) (fun _ => ?_)
    refine lv_aload_n hx hb dX11_readOf_76 rfl (lv_at hl 0 rfl) ?_
    refine lv_iload_n hx hb dX11_readOf_77 rfl (lv_at hl 1 rfl) ?_
    refine rw_bipush hx hb dX11_readOf_78 (by decide) ?_
    refine rw_callV hx hb hml hts hown hW ⟨Nat.le_refl 0, Nat.le_refl 0⟩ [.int (iN 3), .int (iN 8)] 0 lm_0 rfl (c_X11_fresh (l := l) (G := G) (ad := ad) (CA := CA) (nt := nt) (by omega) 3 8 (by first | omega | decide) (by first | omega | decide) M0 x M hS) kX11_105 rfl ⟨Nat.le_of_ble_eq_true rfl, Nat.le_of_ble_eq_true rfl⟩ hl.1 rfl (Nat.le_of_ble_eq_true rfl) dX11_readOf_80 (fun v19 M20 H locs hp21 hW => ?_)
    obtain ⟨a22, rfl, hM20⟩ := hp21
    refine rw_stk (st' := [.int (iN a22)]) rfl ?_
    obtain ⟨zz, hzz⟩ : ∃ z, z = a22 := ⟨_, rfl⟩
    rw [← hzz] at hM20 ⊢
    obtain ⟨hz0, hz1, hSf, hzn⟩ := hM20
    refine lv_istore_n (lv' := [(2, .int (iN zz)), (0, .ref (ad 0)), (1, .int (iN 3))]) hx hb dX11_readOf_83 rfl hl (by decide) rfl (fun ls hl => ?_)
    refine lv_aload_n hx hb dX11_readOf_84 rfl (lv_at hl 1 rfl) ?_
    refine rw_getR hx hb hts hown hW 0 lm_0 2 2 rfl fX11_17 dX11_readOf_85 ?_
    refine rw_iconst hx hb dX11_readOf_88 ?_
    refine lv_iload_n hx hb dX11_readOf_89 rfl (lv_at hl 0 rfl) ?_
    refine rw_imul hx hb dX11_readOf_90 ?_
    refine rw_iconst hx hb dX11_readOf_91 ?_
    refine rw_iadd hx hb dX11_readOf_92 ?_
    refine lv_aload_n hx hb dX11_readOf_93 rfl (lv_at hl 1 rfl) ?_
    refine rw_iconst hx hb dX11_readOf_94 ?_
    refine rw_bipush hx hb dX11_readOf_95 (by decide) ?_
    refine rw_iconst hx hb dX11_readOf_97 ?_
    refine rw_callV hx hb hml hts hown hW ⟨Nat.le_refl 0, Nat.le_refl 0⟩ [.int (iN 0), .int (iN 9), .int (iN 0)] 0 lm_0 rfl (c_X11_other (l := l) (G := G) (ad := ad) (CA := CA) (nt := nt) (by omega) 0 9 0 (by first | omega | decide) (by first | omega | decide) M0 (nextX (M0 4) (M0 0 9) (frX (M0 4) (M0 0 9) 3 8 x)) M20 hSf) kX11_98 rfl ⟨Nat.le_of_ble_eq_true rfl, Nat.le_of_ble_eq_true rfl⟩ hl.1 rfl (Nat.le_of_ble_eq_true rfl) dX11_readOf_98 (fun v23 M24 H locs hp25 hW => ?_)
    obtain ⟨a26, rfl, hM24⟩ := hp25
    refine rw_stk (st' := [.int (iN a26), .int (iN ((3 * zz) + 2)), .ref (ad 2)]) rfl ?_
    rw [oth_0] at hM24
    have hS2 : Sk M0 M24 (nextX (M0 4) (M0 0 9) (numX (M0 4) (M0 0 9) 0 9 (frX (M0 4) (M0 0 9) 3 8 x))) := hM24.2
    have hv2 : a26 = numV (M0 4) (M0 0 9) 0 9 (frX (M0 4) (M0 0 9) 3 8 x) := hM24.1
    refine rw_iast hx hb hW hnt4 2 lm_2 (v := a26) (by omega) (by omega) (by decide) dX11_readOf_101 (fun H locs hW => ?_)
    obtain ⟨M27, hM27⟩ : ∃ z, z = upd2 M24 2 ((3 * zz) + 2) a26 := ⟨_, rfl⟩
    rw [← hM27] at hW
    refine lv_goto (tgt := 145) hx hb dX11_readOf_102 (by decide) ?_
    refine rw_vret hx hb hr hlocks hW dX11_readOf_145 (⟨rfl, ?_⟩)
    have hfin : Sk M0 M27 (nextX (M0 4) (M0 0 9) (cellG (M0 4) (M0 0 9) 2 0 9 zz (frX (M0 4) (M0 0 9) 3 8 x))) := by
      rw [hM27]
      have q := hS2.setp (k := 3 * zz + 2) (v := a26) (v' := a26) (by omega) (pgV_h (by omega))
      rw [hv2] at q ⊢
      exact q
    rw [cellG_is _ _ hzn] at hfin
    unfold ofX
    rw [if_neg (by decide), if_neg (by decide), if_pos rfl]
    exact hfin
  · have hSf := hS.f
    have hRT := hS.2.1
    have hst := hRT.1
    have hk15 := hRT.2.1
    have hv16 := hRT.2.2
    obtain ⟨hT9, hB9, hC5, hC6⟩ := hS.1.frm
    refine lv_iload_n hx hb dX11_readOf_0 rfl (lv_at hl 1 rfl) ?_
    refine rw_iconst hx hb dX11_readOf_1 ?_
    refine rw_icmp_ne (tgt := 35) hx hb dX11_readOf_2 (by decide) (by decide) (by decide) (fun _ => ?_) (fun c => absurd c (by decide))
    refine lv_iload_n hx hb dX11_readOf_35 rfl (lv_at hl 1 rfl) ?_
    refine rw_iconst hx hb dX11_readOf_36 ?_
    refine rw_icmp_ne (tgt := 71) hx hb dX11_readOf_37 (by decide) (by decide) (by decide) (fun _ => ?_) (fun c => absurd c (by decide))
    refine lv_iload_n hx hb dX11_readOf_71 rfl (lv_at hl 1 rfl) ?_
    refine rw_iconst hx hb dX11_readOf_72 ?_
    refine rw_icmp_ne (tgt := 105) hx hb dX11_readOf_73 (by decide) (by decide) (by decide) (fun _ => ?_) (fun c => absurd c (by decide))
    refine lv_iload_n hx hb dX11_readOf_105 rfl (lv_at hl 1 rfl) ?_
    refine rw_iconst hx hb dX11_readOf_106 ?_
    refine rw_icmp_ne (tgt := 117) hx hb dX11_readOf_107 (by decide) (by decide) (by decide) (fun c => absurd c (by decide)) (fun _ => ?_)
    refine lv_aload_n hx hb dX11_readOf_110 rfl (lv_at hl 0 rfl) ?_
    refine rw_callV hx hb hml hts hown hW ⟨Nat.le_refl 0, Nat.le_refl 0⟩ [] 0 lm_0 rfl (c_X11_readSide (l := l) (G := G) (ad := ad) (CA := CA) (nt := nt) (by omega) M0 x M hS) kX11_113 rfl ⟨Nat.le_of_ble_eq_true rfl, Nat.le_of_ble_eq_true rfl⟩ hl.1 rfl (Nat.le_of_ble_eq_true rfl) dX11_readOf_111 (fun v28 M29 H locs hp30 hW => ?_)
    obtain ⟨rfl, hM29⟩ := hp30
    refine rw_stk (st' := []) rfl ?_
    refine lv_goto (tgt := 145) hx hb dX11_readOf_114 (by decide) ?_
    refine rw_vret hx hb hr hlocks hW dX11_readOf_145 (⟨rfl, ?_⟩)
    unfold ofX
    rw [if_neg (by decide), if_neg (by decide), if_neg (by decide), if_pos rfl]
    exact hM29
  · have hSf := hS.f
    have hRT := hS.2.1
    have hst := hRT.1
    have hk15 := hRT.2.1
    have hv16 := hRT.2.2
    obtain ⟨hT9, hB9, hC5, hC6⟩ := hS.1.frm
    refine lv_iload_n hx hb dX11_readOf_0 rfl (lv_at hl 1 rfl) ?_
    refine rw_iconst hx hb dX11_readOf_1 ?_
    refine rw_icmp_ne (tgt := 35) hx hb dX11_readOf_2 (by decide) (by decide) (by decide) (fun _ => ?_) (fun c => absurd c (by decide))
    refine lv_iload_n hx hb dX11_readOf_35 rfl (lv_at hl 1 rfl) ?_
    refine rw_iconst hx hb dX11_readOf_36 ?_
    refine rw_icmp_ne (tgt := 71) hx hb dX11_readOf_37 (by decide) (by decide) (by decide) (fun _ => ?_) (fun c => absurd c (by decide))
    refine lv_iload_n hx hb dX11_readOf_71 rfl (lv_at hl 1 rfl) ?_
    refine rw_iconst hx hb dX11_readOf_72 ?_
    refine rw_icmp_ne (tgt := 105) hx hb dX11_readOf_73 (by decide) (by decide) (by decide) (fun _ => ?_) (fun c => absurd c (by decide))
    refine lv_iload_n hx hb dX11_readOf_105 rfl (lv_at hl 1 rfl) ?_
    refine rw_iconst hx hb dX11_readOf_106 ?_
    refine rw_icmp_ne (tgt := 117) hx hb dX11_readOf_107 (by decide) (by decide) (by decide) (fun _ => ?_) (fun c => absurd c (by decide))
    refine lv_aload_n hx hb dX11_readOf_117 rfl (lv_at hl 0 rfl) ?_
    refine lv_iload_n hx hb dX11_readOf_118 rfl (lv_at hl 1 rfl) ?_
    refine rw_iconst hx hb dX11_readOf_119 ?_
    refine rw_callV hx hb hml hts hown hW ⟨Nat.le_refl 0, Nat.le_refl 0⟩ [.int (iN 6), .int (iN 1)] 0 lm_0 rfl (c_X11_fresh (l := l) (G := G) (ad := ad) (CA := CA) (nt := nt) (by omega) 6 1 (by first | omega | decide) (by first | omega | decide) M0 x M hS) kX11_105 rfl ⟨Nat.le_of_ble_eq_true rfl, Nat.le_of_ble_eq_true rfl⟩ hl.1 rfl (Nat.le_of_ble_eq_true rfl) dX11_readOf_120 (fun v31 M32 H locs hp33 hW => ?_)
    obtain ⟨a34, rfl, hM32⟩ := hp33
    refine rw_stk (st' := [.int (iN a34)]) rfl ?_
    obtain ⟨zz, hzz⟩ : ∃ z, z = a34 := ⟨_, rfl⟩
    rw [← hzz] at hM32 ⊢
    obtain ⟨hz0, hz1, hSf, hzn⟩ := hM32
    refine lv_istore_n (lv' := [(2, .int (iN zz)), (0, .ref (ad 0)), (1, .int (iN 6))]) hx hb dX11_readOf_123 rfl hl (by decide) rfl (fun ls hl => ?_)
    refine lv_aload_n hx hb dX11_readOf_124 rfl (lv_at hl 1 rfl) ?_
    refine rw_getR hx hb hts hown hW 0 lm_0 2 2 rfl fX11_17 dX11_readOf_125 ?_
    refine rw_bipush hx hb dX11_readOf_128 (by decide) ?_
    refine rw_bipush hx hb dX11_readOf_130 (by decide) ?_
    refine lv_iload_n hx hb dX11_readOf_132 rfl (lv_at hl 0 rfl) ?_
    refine rw_imul hx hb dX11_readOf_133 ?_
    refine rw_iadd hx hb dX11_readOf_134 ?_
    refine rw_iconst hx hb dX11_readOf_135 ?_
    refine rw_iadd hx hb dX11_readOf_136 ?_
    refine lv_aload_n hx hb dX11_readOf_137 rfl (lv_at hl 1 rfl) ?_
    refine rw_iconst hx hb dX11_readOf_138 ?_
    refine rw_iconst hx hb dX11_readOf_139 ?_
    refine rw_iconst hx hb dX11_readOf_140 ?_
    refine rw_callV hx hb hml hts hown hW ⟨Nat.le_refl 0, Nat.le_refl 0⟩ [.int (iN 0), .int (iN 5), .int (iN 0)] 0 lm_0 rfl (c_X11_other (l := l) (G := G) (ad := ad) (CA := CA) (nt := nt) (by omega) 0 5 0 (by first | omega | decide) (by first | omega | decide) M0 (nextX (M0 4) (M0 0 9) (frX (M0 4) (M0 0 9) 6 1 x)) M32 hSf) kX11_98 rfl ⟨Nat.le_of_ble_eq_true rfl, Nat.le_of_ble_eq_true rfl⟩ hl.1 rfl (Nat.le_of_ble_eq_true rfl) dX11_readOf_141 (fun v35 M36 H locs hp37 hW => ?_)
    obtain ⟨a38, rfl, hM36⟩ := hp37
    refine rw_stk (st' := [.int (iN a38), .int (iN ((28 + (8 * zz)) + 5)), .ref (ad 2)]) rfl ?_
    rw [oth_0] at hM36
    have hS2 : Sk M0 M36 (nextX (M0 4) (M0 0 9) (numX (M0 4) (M0 0 9) 0 5 (frX (M0 4) (M0 0 9) 6 1 x))) := hM36.2
    have hv2 : a38 = numV (M0 4) (M0 0 9) 0 5 (frX (M0 4) (M0 0 9) 6 1 x) := hM36.1
    refine rw_iast hx hb hW hnt4 2 lm_2 (v := a38) (by omega) (by omega) (by decide) dX11_readOf_144 (fun H locs hW => ?_)
    obtain ⟨M39, hM39⟩ : ∃ z, z = upd2 M36 2 ((28 + (8 * zz)) + 5) a38 := ⟨_, rfl⟩
    rw [← hM39] at hW
    refine rw_vret hx hb hr hlocks hW dX11_readOf_145 (⟨rfl, ?_⟩)
    have hfin : Sk M0 M39 (nextX (M0 4) (M0 0 9) (foolsG (M0 4) (M0 0 9) zz (frX (M0 4) (M0 0 9) 6 1 x))) := by
      rw [hM39]
      have q := hS2.setp (k := 28 + 8 * zz + 5) (v := a38) (v' := a38) (by omega) (pgV_raw (by omega))
      rw [hv2] at q ⊢
      exact q
    rw [foolsG_is _ _ hzn] at hfin
    unfold ofX
    rw [if_neg (by decide), if_neg (by decide), if_neg (by decide), if_neg (by decide)]
    exact hfin
abbrev P_X11_readOnce (lx : Int) (M0 : Mem) (x : PX) (M : Mem) : Option Value → Mem → Prop := oV (fun MM => Sk M0 MM (nextX (M0 4) (M0 0 9) (onX (M0 4) (M0 0 9) lx x)))
set_option maxRecDepth 100000 in
set_option maxHeartbeats 4000000 in
theorem c_X11_readOnce {l : Launch} {G : va_G} {ad : Nat → Nat} {CA : Nat → ClassId} {nt : Nat} (hnt : 6 ≤ nt) (lx : Int) (hlx : lx = 0 ∨ lx = 4 ∨ lx = 7 ∨ lx = 8) (M0 : Mem) (x : PX) (M : Mem) (hS : Sk M0 M (nextX (M0 4) (M0 0 9) x)) : Mt l yX11_readOnce cX11_readOnce 2 none 3 70 G ad CA nt LyM [.ref (ad 0), .int (iN lx)] M (P_X11_readOnce lx M0 x M) := by
  refine Mt.of (by decide) (Nat.le_of_ble_eq_true rfl) (fun p e s m args below meth c hx hb hr hml hts hown hlocks hnm hW ls hl => ?_)
  have hl : lv_has ls 2 [(0, .ref (ad 0)), (1, .int (iN lx))] := hl
  have hnt4 : 4 ≤ nt := by omega
  obtain ⟨H, hH⟩ : ∃ z, z = s.heap := ⟨_, rfl⟩
  obtain ⟨locs, hlo⟩ : ∃ z : List Loc, z = [] := ⟨_, rfl⟩
  rw [← hH, ← hlo] at hW ⊢
  rcases hlx with rfl | rfl | rfl | rfl
  · have hSf := hS.f
    have hRT := hS.2.1
    have hst := hRT.1
    have hk15 := hRT.2.1
    have hv16 := hRT.2.2
    obtain ⟨hT9, hB9, hC5, hC6⟩ := hS.1.frm
    refine lv_iload_n hx hb dX11_readOnce_0 rfl (lv_at hl 1 rfl) ?_
    refine rw_if_ne (tgt := 19) hx hb dX11_readOnce_1 (by decide) (by decide) (fun c => absurd c (by decide)) (fun _ => ?_)
    refine lv_aload_n hx hb dX11_readOnce_4 rfl (lv_at hl 0 rfl) ?_
    refine lv_aload_n hx hb dX11_readOnce_5 rfl (lv_at hl 0 rfl) ?_
    refine rw_iconst hx hb dX11_readOnce_6 ?_
    refine rw_bipush hx hb dX11_readOnce_7 (by decide) ?_
    refine rw_iconst hx hb dX11_readOnce_9 ?_
    refine rw_callV hx hb hml hts hown hW ⟨Nat.le_refl 0, Nat.le_refl 0⟩ [.int (iN 3), .int (iN 9), .int (iN 0)] 0 lm_0 rfl (c_X11_other (l := l) (G := G) (ad := ad) (CA := CA) (nt := nt) (by omega) 3 9 0 (by first | omega | decide) (by first | omega | decide) M0 (nextX (M0 4) (M0 0 9) x) M hS) kX11_98 rfl ⟨Nat.le_of_ble_eq_true rfl, Nat.le_of_ble_eq_true rfl⟩ hl.1 rfl (Nat.le_of_ble_eq_true rfl) dX11_readOnce_10 (fun v1 M2 H locs hp3 hW => ?_)
    obtain ⟨a4, rfl, hM2⟩ := hp3
    refine rw_stk (st' := [.int (iN a4), .ref (ad 0)]) rfl ?_
    rw [oth_0] at hM2
    have hS2 : Sk M0 M2 (nextX (M0 4) (M0 0 9) (numX (M0 4) (M0 0 9) 3 9 x)) := hM2.2
    have hv2 : a4 = numV (M0 4) (M0 0 9) 3 9 x := hM2.1
    have hvr : 3 ≤ a4 ∧ a4 ≤ 9 := by rw [hv2]; exact numV_rng _ _ (by decide) _
    have h7r := hS2.1.2.1
    refine rw_putI hx hb hts hown hW 0 lm_0 3 3 rfl rfl qX11_116 (v := a4) dX11_readOnce_13 (fun H locs hW => ?_)
    obtain ⟨M5, hM5⟩ : ∃ z, z = upd2 M2 0 3 a4 := ⟨_, rfl⟩
    rw [← hM5] at hW
    refine lv_goto (tgt := 105) hx hb dX11_readOnce_16 (by decide) ?_
    refine rw_vret hx hb hr hlocks hW dX11_readOnce_105 (⟨rfl, ?_⟩)
    unfold onX
    rw [if_pos rfl]
    rw [hM5]
    have q := hS2.setc (v := a4) hvr
    rw [hv2] at q ⊢
    exact q
  · have hSf := hS.f
    have hRT := hS.2.1
    have hst := hRT.1
    have hk15 := hRT.2.1
    have hv16 := hRT.2.2
    obtain ⟨hT9, hB9, hC5, hC6⟩ := hS.1.frm
    refine lv_iload_n hx hb dX11_readOnce_0 rfl (lv_at hl 1 rfl) ?_
    refine rw_if_ne (tgt := 19) hx hb dX11_readOnce_1 (by decide) (by decide) (fun _ => ?_) (fun c => absurd c (by decide))
    refine lv_iload_n hx hb dX11_readOnce_19 rfl (lv_at hl 1 rfl) ?_
    refine rw_iconst hx hb dX11_readOnce_20 ?_
    refine rw_icmp_ne (tgt := 65) hx hb dX11_readOnce_21 (by decide) (by decide) (by decide) (fun c => absurd c (by decide)) (fun _ => ?_)
    refine lv_aload_n hx hb dX11_readOnce_24 rfl (lv_at hl 0 rfl) ?_
    refine lv_aload_n hx hb dX11_readOnce_25 rfl (lv_at hl 0 rfl) ?_
    refine rw_iconst hx hb dX11_readOnce_26 ?_
    refine rw_bipush hx hb dX11_readOnce_27 (by decide) ?_
    refine rw_iconst hx hb dX11_readOnce_29 ?_
    refine rw_callV hx hb hml hts hown hW ⟨Nat.le_refl 0, Nat.le_refl 0⟩ [.int (iN 0), .int (iN 8), .int (iN 0)] 0 lm_0 rfl (c_X11_other (l := l) (G := G) (ad := ad) (CA := CA) (nt := nt) (by omega) 0 8 0 (by first | omega | decide) (by first | omega | decide) M0 (nextX (M0 4) (M0 0 9) x) M hS) kX11_98 rfl ⟨Nat.le_of_ble_eq_true rfl, Nat.le_of_ble_eq_true rfl⟩ hl.1 rfl (Nat.le_of_ble_eq_true rfl) dX11_readOnce_30 (fun v6 M7 H locs hp8 hW => ?_)
    obtain ⟨a9, rfl, hM7⟩ := hp8
    refine rw_stk (st' := [.int (iN a9), .ref (ad 0)]) rfl ?_
    rw [oth_0] at hM7
    have hS2 : Sk M0 M7 (nextX (M0 4) (M0 0 9) (numX (M0 4) (M0 0 9) 0 8 x)) := hM7.2
    have hv2 : a9 = numV (M0 4) (M0 0 9) 0 8 x := hM7.1
    have hvr : 0 ≤ a9 ∧ a9 ≤ 8 := by rw [hv2]; exact numV_rng _ _ (by decide) _
    have h7r := hS2.1.2.1
    refine rw_putI hx hb hts hown hW 0 lm_0 4 4 rfl rfl qX11_119 (v := a9) dX11_readOnce_33 (fun H locs hW => ?_)
    obtain ⟨M10, hM10⟩ : ∃ z, z = upd2 M7 0 4 a9 := ⟨_, rfl⟩
    rw [← hM10] at hW
    refine lv_aload_n hx hb dX11_readOnce_36 rfl (lv_at hl 0 rfl) ?_
    refine lv_aload_n hx hb dX11_readOnce_37 rfl (lv_at hl 0 rfl) ?_
    refine rw_getI hx hb hts hown hW 0 lm_0 4 4 rfl rfl fX11_119 dX11_readOnce_38 (v := a9) (by rw [hM10, upd2_eq]) ?_
    refine lv_aload_n hx hb dX11_readOnce_41 rfl (lv_at hl 0 rfl) ?_
    refine rw_getI hx hb hts hown hW 0 lm_0 7 7 rfl rfl fX11_102 dX11_readOnce_42 (v := (M7 0 7)) (by rw [hM10, upd2_ne2 (by decide)]) ?_
    refine rw_icmp_le (tgt := 55) hx hb dX11_readOnce_45 (by decide) (by omega) (by omega) (fun c_45 => ?_) (fun c_45 => ?_)
    · refine lv_aload_n hx hb dX11_readOnce_55 rfl (lv_at hl 0 rfl) ?_
      refine rw_getI hx hb hts hown hW 0 lm_0 7 7 rfl rfl fX11_102 dX11_readOnce_56 (v := (M7 0 7)) (by rw [hM10, upd2_ne2 (by decide)]) ?_
      refine rw_putI hx hb hts hown hW 0 lm_0 7 7 rfl rfl qX11_102 (v := (M7 0 7)) dX11_readOnce_59 (fun H locs hW => ?_)
      obtain ⟨M11, hM11⟩ : ∃ z, z = upd2 M10 0 7 (M7 0 7) := ⟨_, rfl⟩
      rw [← hM11] at hW
      refine lv_goto (tgt := 105) hx hb dX11_readOnce_62 (by decide) ?_
      refine rw_vret hx hb hr hlocks hW dX11_readOnce_105 (⟨rfl, ?_⟩)
      unfold onX
      rw [if_neg (by decide), if_pos rfl]
      rw [hM11, hM10]
      have q := hS2.setk (v := a9) (w := (M7 0 7)) hvr (by (repeat' split) <;> omega)
      rw [← hv2]
      exact q
    · refine lv_aload_n hx hb dX11_readOnce_48 rfl (lv_at hl 0 rfl) ?_
      refine rw_getI hx hb hts hown hW 0 lm_0 4 4 rfl rfl fX11_119 dX11_readOnce_49 (v := a9) (by rw [hM10, upd2_eq]) ?_
      refine lv_goto (tgt := 59) hx hb dX11_readOnce_52 (by decide) ?_
      refine rw_putI hx hb hts hown hW 0 lm_0 7 7 rfl rfl qX11_102 (v := a9) dX11_readOnce_59 (fun H locs hW => ?_)
      obtain ⟨M12, hM12⟩ : ∃ z, z = upd2 M10 0 7 a9 := ⟨_, rfl⟩
      rw [← hM12] at hW
      refine lv_goto (tgt := 105) hx hb dX11_readOnce_62 (by decide) ?_
      refine rw_vret hx hb hr hlocks hW dX11_readOnce_105 (⟨rfl, ?_⟩)
      unfold onX
      rw [if_neg (by decide), if_pos rfl]
      rw [hM12, hM10]
      have q := hS2.setk (v := a9) (w := a9) hvr (by (repeat' split) <;> omega)
      rw [← hv2]
      exact q
  · have hSf := hS.f
    have hRT := hS.2.1
    have hst := hRT.1
    have hk15 := hRT.2.1
    have hv16 := hRT.2.2
    obtain ⟨hT9, hB9, hC5, hC6⟩ := hS.1.frm
    refine lv_iload_n hx hb dX11_readOnce_0 rfl (lv_at hl 1 rfl) ?_
    refine rw_if_ne (tgt := 19) hx hb dX11_readOnce_1 (by decide) (by decide) (fun _ => ?_) (fun c => absurd c (by decide))
    refine lv_iload_n hx hb dX11_readOnce_19 rfl (lv_at hl 1 rfl) ?_
    refine rw_iconst hx hb dX11_readOnce_20 ?_
    refine rw_icmp_ne (tgt := 65) hx hb dX11_readOnce_21 (by decide) (by decide) (by decide) (fun _ => ?_) (fun c => absurd c (by decide))
    refine lv_iload_n hx hb dX11_readOnce_65 rfl (lv_at hl 1 rfl) ?_
    refine rw_bipush hx hb dX11_readOnce_66 (by decide) ?_
    refine rw_icmp_ne (tgt := 90) hx hb dX11_readOnce_68 (by decide) (by decide) (by decide) (fun c => absurd c (by decide)) (fun _ => ?_)
    refine lv_aload_n hx hb dX11_readOnce_71 rfl (lv_at hl 0 rfl) ?_
    refine rw_getR hx hb hts hown hW 0 lm_0 2 2 rfl fX11_17 dX11_readOnce_72 ?_
    refine rw_bipush hx hb dX11_readOnce_75 (by decide) ?_
    refine lv_aload_n hx hb dX11_readOnce_77 rfl (lv_at hl 0 rfl) ?_
    refine rw_iconst hx hb dX11_readOnce_78 ?_
    refine rw_iconst hx hb dX11_readOnce_79 ?_
    refine rw_iconst hx hb dX11_readOnce_80 ?_
    refine rw_callV hx hb hml hts hown hW ⟨Nat.le_refl 0, Nat.le_refl 0⟩ [.int (iN 1), .int (iN 4), .int (iN 0)] 0 lm_0 rfl (c_X11_other (l := l) (G := G) (ad := ad) (CA := CA) (nt := nt) (by omega) 1 4 0 (by first | omega | decide) (by first | omega | decide) M0 (nextX (M0 4) (M0 0 9) x) M hS) kX11_98 rfl ⟨Nat.le_of_ble_eq_true rfl, Nat.le_of_ble_eq_true rfl⟩ hl.1 rfl (Nat.le_of_ble_eq_true rfl) dX11_readOnce_81 (fun v13 M14 H locs hp15 hW => ?_)
    obtain ⟨a16, rfl, hM14⟩ := hp15
    refine rw_stk (st' := [.int (iN a16), .int (iN 44), .ref (ad 2)]) rfl ?_
    rw [oth_0] at hM14
    have hS2 : Sk M0 M14 (nextX (M0 4) (M0 0 9) (numX (M0 4) (M0 0 9) 1 4 x)) := hM14.2
    have hv2 : a16 = numV (M0 4) (M0 0 9) 1 4 x := hM14.1
    have hvr : 1 ≤ a16 ∧ a16 ≤ 4 := by rw [hv2]; exact numV_rng _ _ (by decide) _
    have h7r := hS2.1.2.1
    refine rw_iconst hx hb dX11_readOnce_84 ?_
    refine rw_isub hx hb dX11_readOnce_85 ?_
    refine rw_iast hx hb hW hnt4 2 lm_2 (v := a16 - 2) (by omega) (by omega) (by decide) dX11_readOnce_86 (fun H locs hW => ?_)
    obtain ⟨M17, hM17⟩ : ∃ z, z = upd2 M14 2 44 (a16 - 2) := ⟨_, rfl⟩
    rw [← hM17] at hW
    refine lv_goto (tgt := 105) hx hb dX11_readOnce_87 (by decide) ?_
    refine rw_vret hx hb hr hlocks hW dX11_readOnce_105 (⟨rfl, ?_⟩)
    unfold onX
    rw [if_neg (by decide), if_neg (by decide), if_pos rfl]
    rw [hM17]
    have q := hS2.setp (k := 44) (v := a16) (v' := a16 - 2) (by decide) (by rw [pgV_44]; omega)
    rw [hv2] at q ⊢
    exact q
  · have hSf := hS.f
    have hRT := hS.2.1
    have hst := hRT.1
    have hk15 := hRT.2.1
    have hv16 := hRT.2.2
    obtain ⟨hT9, hB9, hC5, hC6⟩ := hS.1.frm
    refine lv_iload_n hx hb dX11_readOnce_0 rfl (lv_at hl 1 rfl) ?_
    refine rw_if_ne (tgt := 19) hx hb dX11_readOnce_1 (by decide) (by decide) (fun _ => ?_) (fun c => absurd c (by decide))
    refine lv_iload_n hx hb dX11_readOnce_19 rfl (lv_at hl 1 rfl) ?_
    refine rw_iconst hx hb dX11_readOnce_20 ?_
    refine rw_icmp_ne (tgt := 65) hx hb dX11_readOnce_21 (by decide) (by decide) (by decide) (fun _ => ?_) (fun c => absurd c (by decide))
    refine lv_iload_n hx hb dX11_readOnce_65 rfl (lv_at hl 1 rfl) ?_
    refine rw_bipush hx hb dX11_readOnce_66 (by decide) ?_
    refine rw_icmp_ne (tgt := 90) hx hb dX11_readOnce_68 (by decide) (by decide) (by decide) (fun _ => ?_) (fun c => absurd c (by decide))
    refine lv_aload_n hx hb dX11_readOnce_90 rfl (lv_at hl 0 rfl) ?_
    refine rw_getR hx hb hts hown hW 0 lm_0 2 2 rfl fX11_17 dX11_readOnce_91 ?_
    refine rw_bipush hx hb dX11_readOnce_94 (by decide) ?_
    refine lv_aload_n hx hb dX11_readOnce_96 rfl (lv_at hl 0 rfl) ?_
    refine rw_iconst hx hb dX11_readOnce_97 ?_
    refine rw_bipush hx hb dX11_readOnce_98 (by decide) ?_
    refine rw_iconst hx hb dX11_readOnce_100 ?_
    refine rw_callV hx hb hml hts hown hW ⟨Nat.le_refl 0, Nat.le_refl 0⟩ [.int (iN 0), .int (iN 7), .int (iN 0)] 0 lm_0 rfl (c_X11_other (l := l) (G := G) (ad := ad) (CA := CA) (nt := nt) (by omega) 0 7 0 (by first | omega | decide) (by first | omega | decide) M0 (nextX (M0 4) (M0 0 9) x) M hS) kX11_98 rfl ⟨Nat.le_of_ble_eq_true rfl, Nat.le_of_ble_eq_true rfl⟩ hl.1 rfl (Nat.le_of_ble_eq_true rfl) dX11_readOnce_101 (fun v18 M19 H locs hp20 hW => ?_)
    obtain ⟨a21, rfl, hM19⟩ := hp20
    refine rw_stk (st' := [.int (iN a21), .int (iN 45), .ref (ad 2)]) rfl ?_
    rw [oth_0] at hM19
    have hS2 : Sk M0 M19 (nextX (M0 4) (M0 0 9) (numX (M0 4) (M0 0 9) 0 7 x)) := hM19.2
    have hv2 : a21 = numV (M0 4) (M0 0 9) 0 7 x := hM19.1
    have hvr : 0 ≤ a21 ∧ a21 ≤ 7 := by rw [hv2]; exact numV_rng _ _ (by decide) _
    have h7r := hS2.1.2.1
    refine rw_iast hx hb hW hnt4 2 lm_2 (v := a21) (by omega) (by omega) (by decide) dX11_readOnce_104 (fun H locs hW => ?_)
    obtain ⟨M22, hM22⟩ : ∃ z, z = upd2 M19 2 45 a21 := ⟨_, rfl⟩
    rw [← hM22] at hW
    refine rw_vret hx hb hr hlocks hW dX11_readOnce_105 (⟨rfl, ?_⟩)
    unfold onX
    rw [if_neg (by decide), if_neg (by decide), if_neg (by decide)]
    rw [hM22]
    have q := hS2.setp (k := 45) (v := a21) (v' := a21) (by decide) (pgV_raw (by decide))
    rw [hv2] at q ⊢
    exact q
