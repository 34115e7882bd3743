abbrev P_X11_readSide (M0 : Mem) (x : PX) (M : Mem) : Option Value → Mem → Prop := oV (fun MM => Sk M0 MM (nextX (M0 4) (M0 0 9) (sideX (M0 4) (M0 0 9) 5 x)))
set_option maxRecDepth 100000 in
set_option maxHeartbeats 4000000 in
theorem c_X11_readSide {l : Launch} {G : va_G} {ad : Nat → Nat} {CA : Nat → ClassId} {nt : Nat} (hnt : 6 ≤ nt) (M0 : Mem) (x : PX) (M : Mem) (hS : Sk M0 M (nextX (M0 4) (M0 0 9) x)) : Mt l yX11_readSide cX11_readSide 3 none 4 93 G ad CA nt LyM [.ref (ad 0)] M (P_X11_readSide M0 x M) := by
  refine Mt.of (by decide) (Nat.le_of_ble_eq_true rfl) (fun p e s m args below meth c hx hb hr hml hts hown hlocks hnm hW ls hl => ?_)
  have hl : lv_has ls 3 [(0, .ref (ad 0))] := hl
  have hnt4 : 4 ≤ nt := by omega
  obtain ⟨H, hH⟩ : ∃ z, z = s.heap := ⟨_, rfl⟩
  obtain ⟨locs, hlo⟩ : ∃ z : List Loc, z = [] := ⟨_, rfl⟩
  rw [← hH, ← hlo] at hW ⊢
  have hSf := hS.f
  have hRT := hS.2.1
  have hst := hRT.1
  have hk15 := hRT.2.1
  have hv16 := hRT.2.2
  obtain ⟨hT9, hB9, hC5, hC6⟩ := hS.1.frm
  refine rw_bipush hx hb dX11_readSide_0 (by decide) ?_
  refine rw_bipush hx hb dX11_readSide_2 (by decide) ?_
  refine lv_aload_n hx hb dX11_readSide_4 rfl (lv_at hl 0 rfl) ?_
  refine rw_iconst hx hb dX11_readSide_5 ?_
  refine rw_iconst hx hb dX11_readSide_6 ?_
  refine rw_callV hx hb hml hts hown hW ⟨Nat.le_refl 0, Nat.le_refl 0⟩ [.int (iN 5), .int (iN 1)] 0 lm_0 rfl (c_X11_fresh (l := l) (G := G) (ad := ad) (CA := CA) (nt := nt) (by omega) 5 1 (by first | omega | decide) (by first | omega | decide) M0 x M hS) kX11_105 rfl ⟨Nat.le_of_ble_eq_true rfl, Nat.le_of_ble_eq_true rfl⟩ hl.1 rfl (Nat.le_of_ble_eq_true rfl) dX11_readSide_7 (fun v1 M2 H locs hp3 hW => ?_)
  obtain ⟨a4, rfl, hM2⟩ := hp3
  refine rw_stk (st' := [.int (iN a4), .int (iN 8), .int (iN 28)]) rfl ?_
  obtain ⟨zz, hzz⟩ : ∃ z, z = a4 := ⟨_, rfl⟩
  rw [← hzz] at hM2 ⊢
  obtain ⟨hz0, hz1, hSf, hzn⟩ := hM2
  refine rw_imul hx hb dX11_readSide_10 ?_
  refine rw_iadd hx hb dX11_readSide_11 ?_
  refine lv_istore_n (lv' := [(1, .int (iN (28 + (8 * zz)))), (0, .ref (ad 0))]) hx hb dX11_readSide_12 rfl hl (by decide) rfl (fun ls hl => ?_)
  refine lv_aload_n hx hb dX11_readSide_13 rfl (lv_at hl 1 rfl) ?_
  refine rw_getR hx hb hts hown hW 0 lm_0 2 2 rfl fX11_17 dX11_readSide_14 ?_
  refine lv_iload_n hx hb dX11_readSide_17 rfl (lv_at hl 0 rfl) ?_
  refine lv_aload_n hx hb dX11_readSide_18 rfl (lv_at hl 1 rfl) ?_
  refine rw_iconst hx hb dX11_readSide_19 ?_
  refine rw_bipush hx hb dX11_readSide_20 (by decide) ?_
  refine rw_iconst hx hb dX11_readSide_22 ?_
  refine rw_callV hx hb hml hts hown hW ⟨Nat.le_refl 0, Nat.le_refl 0⟩ [.int (iN 0), .int (iN 12), .int (iN 0)] 0 lm_0 rfl (c_X11_other (l := l) (G := G) (ad := ad) (CA := CA) (nt := nt) (by omega) 0 12 0 (by first | omega | decide) (by first | omega | decide) M0 (nextX (M0 4) (M0 0 9) (frX (M0 4) (M0 0 9) 5 1 x)) M2 hSf) kX11_98 rfl ⟨Nat.le_of_ble_eq_true rfl, Nat.le_of_ble_eq_true rfl⟩ hl.1 rfl (Nat.le_of_ble_eq_true rfl) dX11_readSide_23 (fun v5 M6 H locs hp7 hW => ?_)
  obtain ⟨a8, rfl, hM6⟩ := hp7
  refine rw_stk (st' := [.int (iN a8), .int (iN (28 + (8 * zz))), .ref (ad 2)]) rfl ?_
  rw [oth_0] at hM6
  have hS2 : Sk M0 M6 (nextX (M0 4) (M0 0 9) (numX (M0 4) (M0 0 9) 0 12 (frX (M0 4) (M0 0 9) 5 1 x))) := hM6.2
  have hv2 : a8 = numV (M0 4) (M0 0 9) 0 12 (frX (M0 4) (M0 0 9) 5 1 x) := hM6.1
  refine rw_iast hx hb hW hnt4 2 lm_2 (v := a8) (by omega) (by omega) (by decide) dX11_readSide_26 (fun H locs hW => ?_)
  obtain ⟨M9, hM9⟩ : ∃ z, z = upd2 M6 2 (28 + (8 * zz)) a8 := ⟨_, rfl⟩
  rw [← hM9] at hW
  have hS3 : Sk M0 M9 (nextX (M0 4) (M0 0 9) (setX (28 + 8 * zz + 0) (numV (M0 4) (M0 0 9) 0 12 (frX (M0 4) (M0 0 9) 5 1 x)) (numX (M0 4) (M0 0 9) 0 12 (frX (M0 4) (M0 0 9) 5 1 x)))) := by rw [hM9]; have q := hS2.setp (k := 28 + 8 * zz) (v := a8) (v' := a8) (by omega) (pgV_raw (by omega)); rw [hv2] at q; rw [Int.add_zero]; rw [hv2]; exact q
  have e11 : M9 0 11 = M6 0 11 := by rw [hM9, upd2_ne1 (by decide)]
  have hS3f := hS3.f
  have hRT3 := hS3.2.1
  have hst3 := hRT3.1
  have hk3 := hRT3.2.1
  obtain ⟨hT93, hB93, hC53, hC63⟩ := hS3.1.frm
  obtain ⟨e43, e93⟩ := hS3.1.t
  refine lv_aload_n hx hb dX11_readSide_27 rfl (lv_at hl 1 rfl) ?_
  refine rw_callV hx hb hml hts hown hW ⟨Nat.le_refl 0, Nat.le_refl 0⟩ [] 0 lm_0 rfl (c_X11_nameHere (l := l) (G := G) (ad := ad) (CA := CA) (nt := nt) (by omega) M9 hT93 hB93 hC53 hC63 (by rw [e93]; exact hst3) hk3) kX11_109 rfl ⟨Nat.le_of_ble_eq_true rfl, Nat.le_of_ble_eq_true rfl⟩ hl.1 rfl (Nat.le_of_ble_eq_true rfl) dX11_readSide_28 (fun v10 M11 H locs hp12 hW => ?_)
  obtain ⟨a13, rfl, ha13, hp12⟩ := hp12
  rw [hp12] at hW
  refine rw_stk (st' := [.int (iN a13)]) rfl ?_
  rw [e43, e93] at ha13
  have hnr := (word_name hS3 a13 ha13).2
  refine rw_bipush hx hb dX11_readSide_31 (by decide) ?_
  refine rw_isub hx hb dX11_readSide_33 ?_
  refine lv_istore_n (lv' := [(2, .int (iN (a13 - 9))), (1, .int (iN (28 + (8 * zz)))), (0, .ref (ad 0))]) hx hb dX11_readSide_34 rfl hl (by decide) rfl (fun ls hl => ?_)
  refine lv_aload_n hx hb dX11_readSide_35 rfl (lv_at hl 2 rfl) ?_
  refine rw_getI hx hb hts hown hW 0 lm_0 11 11 rfl rfl fX11_61 dX11_readSide_36 (v := (M6 0 11)) (by rw [hM9, upd2_ne1 (by omega)]) ?_
  refine rw_if_ne (tgt := 51) hx hb dX11_readSide_39 (by decide) (by omega) (fun c_39 => ?_) (fun c_39 => ?_)
  · have hC_51 : ∀ (kd : Int) (Mx : Mem) (H : Heap) (locs : List Loc) (ls : Array Slot), (Sk M0 Mx (kd0 (M0 4) (M0 0 9) (nextX (M0 4) (M0 0 9) (setX (28 + 8 * zz + 0) (numV (M0 4) (M0 0 9) 0 12 (frX (M0 4) (M0 0 9) 5 1 x)) (numX (M0 4) (M0 0 9) 0 12 (frX (M0 4) (M0 0 9) 5 1 x))))) ∧ ∀ g, kd0 (M0 4) (M0 0 9) (nextX (M0 4) (M0 0 9) (setX (28 + 8 * zz + 0) (numV (M0 4) (M0 0 9) 0 12 (frX (M0 4) (M0 0 9) 5 1 x)) (numX (M0 4) (M0 0 9) 0 12 (frX (M0 4) (M0 0 9) 5 1 x)))) = .inr g → kd = wordX (M0 4) (M0 0 9) 1 (nextX (M0 4) (M0 0 9) (setX (28 + 8 * zz + 0) (numV (M0 4) (M0 0 9) 0 12 (frX (M0 4) (M0 0 9) 5 1 x)) (numX (M0 4) (M0 0 9) 0 12 (frX (M0 4) (M0 0 9) 5 1 x))))) → Wo G ad CA nt LyM (wA ad LyM) s Mx H locs → lv_has ls 3 [(0, .ref (ad 0)), (1, .int (iN (28 + 8 * zz))), (2, .int (iN kd))] → Wf l 4 93 G ad CA nt LyM (P_X11_readSide M0 x M) p e s m args below meth c H locs (F0 m 51 ls []) := by
      intro kd Mx H locs ls hkd hW hl
      refine lv_aload_n hx hb dX11_readSide_51 rfl (lv_at hl 0 rfl) ?_
      refine rw_getR hx hb hts hown hW 0 lm_0 2 2 rfl fX11_17 dX11_readSide_52 ?_
      refine lv_iload_n hx hb dX11_readSide_55 rfl (lv_at hl 1 rfl) ?_
      refine rw_bipush hx hb dX11_readSide_56 (by decide) ?_
      refine rw_iadd hx hb dX11_readSide_58 ?_
      refine lv_iload_n hx hb dX11_readSide_59 rfl (lv_at hl 2 rfl) ?_
      refine rw_iast hx hb hW hnt4 2 lm_2 (v := kd) (by omega) (by omega) (by decide) dX11_readSide_60 (fun H locs hW => ?_)
      obtain ⟨M14, hM14⟩ : ∃ z, z = upd2 Mx 2 ((28 + 8 * zz) + 6) kd := ⟨_, rfl⟩
      rw [← hM14] at hW
      have hS5 : Sk M0 M14 (kdX (M0 4) (M0 0 9) (28 + 8 * zz + 6) (nextX (M0 4) (M0 0 9) (setX (28 + 8 * zz + 0) (numV (M0 4) (M0 0 9) 0 12 (frX (M0 4) (M0 0 9) 5 1 x)) (numX (M0 4) (M0 0 9) 0 12 (frX (M0 4) (M0 0 9) 5 1 x))))) := by rw [hM14, ← kd0_set (w := kd) (fun g hg => hkd.2 g hg)]; exact hkd.1.setw (by omega) (fun g hg => pgV_raw (by omega))
      have hS5n := hS5.n.f
      refine lv_aload_n hx hb dX11_readSide_61 rfl (lv_at hl 0 rfl) ?_
      refine rw_callV hx hb hml hts hown hW ⟨Nat.le_refl 0, Nat.le_refl 0⟩ [] 0 lm_0 rfl (c_X11_step (l := l) (G := G) (ad := ad) (CA := CA) (nt := nt) (by omega) M14 hS5n.2.2.1 hS5n.2.2.2 hS5n.1 hS5n.2.1) kX11_95 rfl ⟨Nat.le_of_ble_eq_true rfl, Nat.le_of_ble_eq_true rfl⟩ hl.1 rfl (Nat.le_of_ble_eq_true rfl) dX11_readSide_62 (fun v15 M16 H locs hp17 hW => ?_)
      obtain ⟨rfl, hM16⟩ := hp17
      refine rw_stk (st' := []) rfl ?_
      refine lv_aload_n hx hb dX11_readSide_65 rfl (lv_at hl 0 rfl) ?_
      refine rw_getR hx hb hts hown hW 0 lm_0 2 2 rfl fX11_17 dX11_readSide_66 ?_
      refine lv_iload_n hx hb dX11_readSide_69 rfl (lv_at hl 1 rfl) ?_
      refine rw_bipush hx hb dX11_readSide_70 (by decide) ?_
      refine rw_iadd hx hb dX11_readSide_72 ?_
      refine lv_aload_n hx hb dX11_readSide_73 rfl (lv_at hl 0 rfl) ?_
      refine rw_iconst hx hb dX11_readSide_74 ?_
      refine rw_bipush hx hb dX11_readSide_75 (by decide) ?_
      refine rw_iconst hx hb dX11_readSide_77 ?_
      refine rw_callV hx hb hml hts hown hW ⟨Nat.le_refl 0, Nat.le_refl 0⟩ [.int (iN 0), .int (iN 12), .int (iN 0)] 0 lm_0 rfl (c_X11_other (l := l) (G := G) (ad := ad) (CA := CA) (nt := nt) (by omega) 0 12 0 (by first | omega | decide) (by first | omega | decide) M0 (nextX (M0 4) (M0 0 9) (kdX (M0 4) (M0 0 9) (28 + 8 * zz + 6) (nextX (M0 4) (M0 0 9) (setX (28 + 8 * zz + 0) (numV (M0 4) (M0 0 9) 0 12 (frX (M0 4) (M0 0 9) 5 1 x)) (numX (M0 4) (M0 0 9) 0 12 (frX (M0 4) (M0 0 9) 5 1 x)))))) M16 (hS5.n.step hM16)) kX11_98 rfl ⟨Nat.le_of_ble_eq_true rfl, Nat.le_of_ble_eq_true rfl⟩ hl.1 rfl (Nat.le_of_ble_eq_true rfl) dX11_readSide_78 (fun v18 M19 H locs hp20 hW => ?_)
      obtain ⟨a21, rfl, hM19⟩ := hp20
      refine rw_stk (st' := [.int (iN a21), .int (iN ((28 + 8 * zz) + 7)), .ref (ad 2)]) rfl ?_
      rw [oth_0] at hM19
      have hS7 : Sk M0 M19 (nextX (M0 4) (M0 0 9) (numX (M0 4) (M0 0 9) 0 12 (kdX (M0 4) (M0 0 9) (28 + 8 * zz + 6) (nextX (M0 4) (M0 0 9) (setX (28 + 8 * zz + 0) (numV (M0 4) (M0 0 9) 0 12 (frX (M0 4) (M0 0 9) 5 1 x)) (numX (M0 4) (M0 0 9) 0 12 (frX (M0 4) (M0 0 9) 5 1 x))))))) := hM19.2
      have hv7 : a21 = numV (M0 4) (M0 0 9) 0 12 (kdX (M0 4) (M0 0 9) (28 + 8 * zz + 6) (nextX (M0 4) (M0 0 9) (setX (28 + 8 * zz + 0) (numV (M0 4) (M0 0 9) 0 12 (frX (M0 4) (M0 0 9) 5 1 x)) (numX (M0 4) (M0 0 9) 0 12 (frX (M0 4) (M0 0 9) 5 1 x))))) := hM19.1
      refine rw_iast hx hb hW hnt4 2 lm_2 (v := a21) (by omega) (by omega) (by decide) dX11_readSide_81 (fun H locs hW => ?_)
      obtain ⟨M22, hM22⟩ : ∃ z, z = upd2 M19 2 ((28 + 8 * zz) + 7) a21 := ⟨_, rfl⟩
      rw [← hM22] at hW
      refine rw_vret hx hb hr hlocks hW dX11_readSide_82 (⟨rfl, ?_⟩)
      have hfin : Sk M0 M22 (nextX (M0 4) (M0 0 9) (sideG (M0 4) (M0 0 9) zz (frX (M0 4) (M0 0 9) 5 1 x))) := by rw [hM22]; have q := hS7.setp (k := 28 + 8 * zz + 7) (v := a21) (v' := a21) (by omega) (pgV_raw (by omega)); rw [hv7] at q ⊢; exact q
      rw [sideG_is _ _ hzn] at hfin
      exact hfin
    exact hC_51 (a13 - 9) M9 H locs ls (hS3.kdA ha13 (Or.inl (by omega))) hW (lv_sub hl [2, 1, 0] rfl)
  · refine lv_iload_n hx hb dX11_readSide_42 rfl (lv_at hl 0 rfl) ?_
    refine rw_if_ge (tgt := 51) hx hb dX11_readSide_43 (by decide) (by omega) (fun c_43 => ?_) (fun c_43 => ?_)
    · have hC_51 : ∀ (kd : Int) (Mx : Mem) (H : Heap) (locs : List Loc) (ls : Array Slot), (Sk M0 Mx (kd0 (M0 4) (M0 0 9) (nextX (M0 4) (M0 0 9) (setX (28 + 8 * zz + 0) (numV (M0 4) (M0 0 9) 0 12 (frX (M0 4) (M0 0 9) 5 1 x)) (numX (M0 4) (M0 0 9) 0 12 (frX (M0 4) (M0 0 9) 5 1 x))))) ∧ ∀ g, kd0 (M0 4) (M0 0 9) (nextX (M0 4) (M0 0 9) (setX (28 + 8 * zz + 0) (numV (M0 4) (M0 0 9) 0 12 (frX (M0 4) (M0 0 9) 5 1 x)) (numX (M0 4) (M0 0 9) 0 12 (frX (M0 4) (M0 0 9) 5 1 x)))) = .inr g → kd = wordX (M0 4) (M0 0 9) 1 (nextX (M0 4) (M0 0 9) (setX (28 + 8 * zz + 0) (numV (M0 4) (M0 0 9) 0 12 (frX (M0 4) (M0 0 9) 5 1 x)) (numX (M0 4) (M0 0 9) 0 12 (frX (M0 4) (M0 0 9) 5 1 x))))) → Wo G ad CA nt LyM (wA ad LyM) s Mx H locs → lv_has ls 3 [(0, .ref (ad 0)), (1, .int (iN (28 + 8 * zz))), (2, .int (iN kd))] → Wf l 4 93 G ad CA nt LyM (P_X11_readSide M0 x M) p e s m args below meth c H locs (F0 m 51 ls []) := by
        intro kd Mx H locs ls hkd hW hl
        refine lv_aload_n hx hb dX11_readSide_51 rfl (lv_at hl 0 rfl) ?_
        refine rw_getR hx hb hts hown hW 0 lm_0 2 2 rfl fX11_17 dX11_readSide_52 ?_
        refine lv_iload_n hx hb dX11_readSide_55 rfl (lv_at hl 1 rfl) ?_
        refine rw_bipush hx hb dX11_readSide_56 (by decide) ?_
        refine rw_iadd hx hb dX11_readSide_58 ?_
        refine lv_iload_n hx hb dX11_readSide_59 rfl (lv_at hl 2 rfl) ?_
        refine rw_iast hx hb hW hnt4 2 lm_2 (v := kd) (by omega) (by omega) (by decide) dX11_readSide_60 (fun H locs hW => ?_)
        obtain ⟨M23, hM23⟩ : ∃ z, z = upd2 Mx 2 ((28 + 8 * zz) + 6) kd := ⟨_, rfl⟩
        rw [← hM23] at hW
        have hS5 : Sk M0 M23 (kdX (M0 4) (M0 0 9) (28 + 8 * zz + 6) (nextX (M0 4) (M0 0 9) (setX (28 + 8 * zz + 0) (numV (M0 4) (M0 0 9) 0 12 (frX (M0 4) (M0 0 9) 5 1 x)) (numX (M0 4) (M0 0 9) 0 12 (frX (M0 4) (M0 0 9) 5 1 x))))) := by rw [hM23, ← kd0_set (w := kd) (fun g hg => hkd.2 g hg)]; exact hkd.1.setw (by omega) (fun g hg => pgV_raw (by omega))
        have hS5n := hS5.n.f
        refine lv_aload_n hx hb dX11_readSide_61 rfl (lv_at hl 0 rfl) ?_
        refine rw_callV hx hb hml hts hown hW ⟨Nat.le_refl 0, Nat.le_refl 0⟩ [] 0 lm_0 rfl (c_X11_step (l := l) (G := G) (ad := ad) (CA := CA) (nt := nt) (by omega) M23 hS5n.2.2.1 hS5n.2.2.2 hS5n.1 hS5n.2.1) kX11_95 rfl ⟨Nat.le_of_ble_eq_true rfl, Nat.le_of_ble_eq_true rfl⟩ hl.1 rfl (Nat.le_of_ble_eq_true rfl) dX11_readSide_62 (fun v24 M25 H locs hp26 hW => ?_)
        obtain ⟨rfl, hM25⟩ := hp26
        refine rw_stk (st' := []) rfl ?_
        refine lv_aload_n hx hb dX11_readSide_65 rfl (lv_at hl 0 rfl) ?_
        refine rw_getR hx hb hts hown hW 0 lm_0 2 2 rfl fX11_17 dX11_readSide_66 ?_
        refine lv_iload_n hx hb dX11_readSide_69 rfl (lv_at hl 1 rfl) ?_
        refine rw_bipush hx hb dX11_readSide_70 (by decide) ?_
        refine rw_iadd hx hb dX11_readSide_72 ?_
        refine lv_aload_n hx hb dX11_readSide_73 rfl (lv_at hl 0 rfl) ?_
        refine rw_iconst hx hb dX11_readSide_74 ?_
        refine rw_bipush hx hb dX11_readSide_75 (by decide) ?_
        refine rw_iconst hx hb dX11_readSide_77 ?_
        refine rw_callV hx hb hml hts hown hW ⟨Nat.le_refl 0, Nat.le_refl 0⟩ [.int (iN 0), .int (iN 12), .int (iN 0)] 0 lm_0 rfl (c_X11_other (l := l) (G := G) (ad := ad) (CA := CA) (nt := nt) (by omega) 0 12 0 (by first | omega | decide) (by first | omega | decide) M0 (nextX (M0 4) (M0 0 9) (kdX (M0 4) (M0 0 9) (28 + 8 * zz + 6) (nextX (M0 4) (M0 0 9) (setX (28 + 8 * zz + 0) (numV (M0 4) (M0 0 9) 0 12 (frX (M0 4) (M0 0 9) 5 1 x)) (numX (M0 4) (M0 0 9) 0 12 (frX (M0 4) (M0 0 9) 5 1 x)))))) M25 (hS5.n.step hM25)) kX11_98 rfl ⟨Nat.le_of_ble_eq_true rfl, Nat.le_of_ble_eq_true rfl⟩ hl.1 rfl (Nat.le_of_ble_eq_true rfl) dX11_readSide_78 (fun v27 M28 H locs hp29 hW => ?_)
        obtain ⟨a30, rfl, hM28⟩ := hp29
        refine rw_stk (st' := [.int (iN a30), .int (iN ((28 + 8 * zz) + 7)), .ref (ad 2)]) rfl ?_
        rw [oth_0] at hM28
        have hS7 : Sk M0 M28 (nextX (M0 4) (M0 0 9) (numX (M0 4) (M0 0 9) 0 12 (kdX (M0 4) (M0 0 9) (28 + 8 * zz + 6) (nextX (M0 4) (M0 0 9) (setX (28 + 8 * zz + 0) (numV (M0 4) (M0 0 9) 0 12 (frX (M0 4) (M0 0 9) 5 1 x)) (numX (M0 4) (M0 0 9) 0 12 (frX (M0 4) (M0 0 9) 5 1 x))))))) := hM28.2
        have hv7 : a30 = numV (M0 4) (M0 0 9) 0 12 (kdX (M0 4) (M0 0 9) (28 + 8 * zz + 6) (nextX (M0 4) (M0 0 9) (setX (28 + 8 * zz + 0) (numV (M0 4) (M0 0 9) 0 12 (frX (M0 4) (M0 0 9) 5 1 x)) (numX (M0 4) (M0 0 9) 0 12 (frX (M0 4) (M0 0 9) 5 1 x))))) := hM28.1
        refine rw_iast hx hb hW hnt4 2 lm_2 (v := a30) (by omega) (by omega) (by decide) dX11_readSide_81 (fun H locs hW => ?_)
        obtain ⟨M31, hM31⟩ : ∃ z, z = upd2 M28 2 ((28 + 8 * zz) + 7) a30 := ⟨_, rfl⟩
        rw [← hM31] at hW
        refine rw_vret hx hb hr hlocks hW dX11_readSide_82 (⟨rfl, ?_⟩)
        have hfin : Sk M0 M31 (nextX (M0 4) (M0 0 9) (sideG (M0 4) (M0 0 9) zz (frX (M0 4) (M0 0 9) 5 1 x))) := by rw [hM31]; have q := hS7.setp (k := 28 + 8 * zz + 7) (v := a30) (v' := a30) (by omega) (pgV_raw (by omega)); rw [hv7] at q ⊢; exact q
        rw [sideG_is _ _ hzn] at hfin
        exact hfin
      exact hC_51 (a13 - 9) M9 H locs ls (hS3.kdA ha13 (Or.inr (by omega))) hW (lv_sub hl [2, 1, 0] rfl)
    · refine lv_aload_n hx hb dX11_readSide_46 rfl (lv_at hl 2 rfl) ?_
      refine rw_iconst hx hb dX11_readSide_47 ?_
      refine rw_callV hx hb hml hts hown hW ⟨Nat.le_refl 0, Nat.le_refl 0⟩ [.int (iN 2)] 0 lm_0 rfl (c_X11_fails (l := l) (G := G) (ad := ad) (CA := CA) (nt := nt) (by omega) 2 M9 hS3f) kX11_91 rfl ⟨Nat.le_of_ble_eq_true rfl, Nat.le_of_ble_eq_true rfl⟩ hl.1 rfl (Nat.le_of_ble_eq_true rfl) dX11_readSide_48 (fun v32 M33 H locs hp34 hW => ?_)
      obtain ⟨rfl, hM33⟩ := hp34
      refine rw_stk (st' := []) rfl ?_
      have hC_51 : ∀ (kd : Int) (Mx : Mem) (H : Heap) (locs : List Loc) (ls : Array Slot), (Sk M0 Mx (kd0 (M0 4) (M0 0 9) (nextX (M0 4) (M0 0 9) (setX (28 + 8 * zz + 0) (numV (M0 4) (M0 0 9) 0 12 (frX (M0 4) (M0 0 9) 5 1 x)) (numX (M0 4) (M0 0 9) 0 12 (frX (M0 4) (M0 0 9) 5 1 x))))) ∧ ∀ g, kd0 (M0 4) (M0 0 9) (nextX (M0 4) (M0 0 9) (setX (28 + 8 * zz + 0) (numV (M0 4) (M0 0 9) 0 12 (frX (M0 4) (M0 0 9) 5 1 x)) (numX (M0 4) (M0 0 9) 0 12 (frX (M0 4) (M0 0 9) 5 1 x)))) = .inr g → kd = wordX (M0 4) (M0 0 9) 1 (nextX (M0 4) (M0 0 9) (setX (28 + 8 * zz + 0) (numV (M0 4) (M0 0 9) 0 12 (frX (M0 4) (M0 0 9) 5 1 x)) (numX (M0 4) (M0 0 9) 0 12 (frX (M0 4) (M0 0 9) 5 1 x))))) → Wo G ad CA nt LyM (wA ad LyM) s Mx H locs → lv_has ls 3 [(0, .ref (ad 0)), (1, .int (iN (28 + 8 * zz))), (2, .int (iN kd))] → Wf l 4 93 G ad CA nt LyM (P_X11_readSide M0 x M) p e s m args below meth c H locs (F0 m 51 ls []) := by
        intro kd Mx H locs ls hkd hW hl
        refine lv_aload_n hx hb dX11_readSide_51 rfl (lv_at hl 0 rfl) ?_
        refine rw_getR hx hb hts hown hW 0 lm_0 2 2 rfl fX11_17 dX11_readSide_52 ?_
        refine lv_iload_n hx hb dX11_readSide_55 rfl (lv_at hl 1 rfl) ?_
        refine rw_bipush hx hb dX11_readSide_56 (by decide) ?_
        refine rw_iadd hx hb dX11_readSide_58 ?_
        refine lv_iload_n hx hb dX11_readSide_59 rfl (lv_at hl 2 rfl) ?_
        refine rw_iast hx hb hW hnt4 2 lm_2 (v := kd) (by omega) (by omega) (by decide) dX11_readSide_60 (fun H locs hW => ?_)
        obtain ⟨M35, hM35⟩ : ∃ z, z = upd2 Mx 2 ((28 + 8 * zz) + 6) kd := ⟨_, rfl⟩
        rw [← hM35] at hW
        have hS5 : Sk M0 M35 (kdX (M0 4) (M0 0 9) (28 + 8 * zz + 6) (nextX (M0 4) (M0 0 9) (setX (28 + 8 * zz + 0) (numV (M0 4) (M0 0 9) 0 12 (frX (M0 4) (M0 0 9) 5 1 x)) (numX (M0 4) (M0 0 9) 0 12 (frX (M0 4) (M0 0 9) 5 1 x))))) := by rw [hM35, ← kd0_set (w := kd) (fun g hg => hkd.2 g hg)]; exact hkd.1.setw (by omega) (fun g hg => pgV_raw (by omega))
        have hS5n := hS5.n.f
        refine lv_aload_n hx hb dX11_readSide_61 rfl (lv_at hl 0 rfl) ?_
        refine rw_callV hx hb hml hts hown hW ⟨Nat.le_refl 0, Nat.le_refl 0⟩ [] 0 lm_0 rfl (c_X11_step (l := l) (G := G) (ad := ad) (CA := CA) (nt := nt) (by omega) M35 hS5n.2.2.1 hS5n.2.2.2 hS5n.1 hS5n.2.1) kX11_95 rfl ⟨Nat.le_of_ble_eq_true rfl, Nat.le_of_ble_eq_true rfl⟩ hl.1 rfl (Nat.le_of_ble_eq_true rfl) dX11_readSide_62 (fun v36 M37 H locs hp38 hW => ?_)
        obtain ⟨rfl, hM37⟩ := hp38
        refine rw_stk (st' := []) rfl ?_
        refine lv_aload_n hx hb dX11_readSide_65 rfl (lv_at hl 0 rfl) ?_
        refine rw_getR hx hb hts hown hW 0 lm_0 2 2 rfl fX11_17 dX11_readSide_66 ?_
        refine lv_iload_n hx hb dX11_readSide_69 rfl (lv_at hl 1 rfl) ?_
        refine rw_bipush hx hb dX11_readSide_70 (by decide) ?_
        refine rw_iadd hx hb dX11_readSide_72 ?_
        refine lv_aload_n hx hb dX11_readSide_73 rfl (lv_at hl 0 rfl) ?_
        refine rw_iconst hx hb dX11_readSide_74 ?_
        refine rw_bipush hx hb dX11_readSide_75 (by decide) ?_
        refine rw_iconst hx hb dX11_readSide_77 ?_
        refine rw_callV hx hb hml hts hown hW ⟨Nat.le_refl 0, Nat.le_refl 0⟩ [.int (iN 0), .int (iN 12), .int (iN 0)] 0 lm_0 rfl (c_X11_other (l := l) (G := G) (ad := ad) (CA := CA) (nt := nt) (by omega) 0 12 0 (by first | omega | decide) (by first | omega | decide) M0 (nextX (M0 4) (M0 0 9) (kdX (M0 4) (M0 0 9) (28 + 8 * zz + 6) (nextX (M0 4) (M0 0 9) (setX (28 + 8 * zz + 0) (numV (M0 4) (M0 0 9) 0 12 (frX (M0 4) (M0 0 9) 5 1 x)) (numX (M0 4) (M0 0 9) 0 12 (frX (M0 4) (M0 0 9) 5 1 x)))))) M37 (hS5.n.step hM37)) kX11_98 rfl ⟨Nat.le_of_ble_eq_true rfl, Nat.le_of_ble_eq_true rfl⟩ hl.1 rfl (Nat.le_of_ble_eq_true rfl) dX11_readSide_78 (fun v39 M40 H locs hp41 hW => ?_)
        obtain ⟨a42, rfl, hM40⟩ := hp41
        refine rw_stk (st' := [.int (iN a42), .int (iN ((28 + 8 * zz) + 7)), .ref (ad 2)]) rfl ?_
        rw [oth_0] at hM40
        have hS7 : Sk M0 M40 (nextX (M0 4) (M0 0 9) (numX (M0 4) (M0 0 9) 0 12 (kdX (M0 4) (M0 0 9) (28 + 8 * zz + 6) (nextX (M0 4) (M0 0 9) (setX (28 + 8 * zz + 0) (numV (M0 4) (M0 0 9) 0 12 (frX (M0 4) (M0 0 9) 5 1 x)) (numX (M0 4) (M0 0 9) 0 12 (frX (M0 4) (M0 0 9) 5 1 x))))))) := hM40.2
        have hv7 : a42 = numV (M0 4) (M0 0 9) 0 12 (kdX (M0 4) (M0 0 9) (28 + 8 * zz + 6) (nextX (M0 4) (M0 0 9) (setX (28 + 8 * zz + 0) (numV (M0 4) (M0 0 9) 0 12 (frX (M0 4) (M0 0 9) 5 1 x)) (numX (M0 4) (M0 0 9) 0 12 (frX (M0 4) (M0 0 9) 5 1 x))))) := hM40.1
        refine rw_iast hx hb hW hnt4 2 lm_2 (v := a42) (by omega) (by omega) (by decide) dX11_readSide_81 (fun H locs hW => ?_)
        obtain ⟨M43, hM43⟩ : ∃ z, z = upd2 M40 2 ((28 + 8 * zz) + 7) a42 := ⟨_, rfl⟩
        rw [← hM43] at hW
        refine rw_vret hx hb hr hlocks hW dX11_readSide_82 (⟨rfl, ?_⟩)
        have hfin : Sk M0 M43 (nextX (M0 4) (M0 0 9) (sideG (M0 4) (M0 0 9) zz (frX (M0 4) (M0 0 9) 5 1 x))) := by rw [hM43]; have q := hS7.setp (k := 28 + 8 * zz + 7) (v := a42) (v' := a42) (by omega) (pgV_raw (by omega)); rw [hv7] at q ⊢; exact q
        rw [sideG_is _ _ hzn] at hfin
        exact hfin
      exact hC_51 (a13 - 9) M33 H locs ls (hS3.kdB ha13 (by omega) (by omega) hM33) hW (lv_sub hl [2, 1, 0] rfl)
