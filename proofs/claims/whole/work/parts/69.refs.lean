abbrev P_X11_readLine (M0 : Mem) (x : PX) (M : Mem) : Option Value → Mem → Prop := oV (fun MM => Sk M0 MM (nextX (M0 4) (M0 0 9) (stepX (M0 4) (M0 0 9) x)))
set_option maxRecDepth 100000 in
set_option maxHeartbeats 4000000 in
theorem c_X11_readLine {l : Launch} {G : va_G} {ad : Nat → Nat} {CA : Nat → ClassId} {nt : Nat} (hnt : 6 ≤ nt) (M0 : Mem) (x : PX) (M : Mem) (hS : Sk M0 M (nextX (M0 4) (M0 0 9) x)) (h0 : M 0 11 = 0) : Mt l yX11_readLine cX11_readLine 3 none 6 137 G ad CA nt LyM [.ref (ad 0)] M (P_X11_readLine M0 x M) := by
  refine Mt.of (by decide) (Nat.le_of_ble_eq_true rfl) (fun p e s m args below meth c hx hb hr hml hts hown hlocks hnm hW ls hl => ?_)
  have hl : lv_has ls 3 [(0, .ref (ad 0))] := hl
  have hnt4 : 4 ≤ nt := by omega
  obtain ⟨H, hH⟩ : ∃ z, z = s.heap := ⟨_, rfl⟩
  obtain ⟨locs, hlo⟩ : ∃ z : List Loc, z = [] := ⟨_, rfl⟩
  rw [← hH, ← hlo] at hW ⊢
  have hSf := hS.f
  have hRT := hS.2.1
  have hst := hRT.1
  have hk15 := hRT.2.1
  have hv16 := hRT.2.2
  obtain ⟨hT9, hB9, hC5, hC6⟩ := hS.1.frm
  have et := hS.1.t
  have h5r0 := hS.1.2.2.1
  refine lv_aload_n hx hb dX11_readLine_0 rfl (lv_at hl 0 rfl) ?_
  refine rw_callV hx hb hml hts hown hW ⟨Nat.le_refl 0, Nat.le_refl 0⟩ [] 0 lm_0 rfl (c_X11_nameHere (l := l) (G := G) (ad := ad) (CA := CA) (nt := nt) (by omega) M hT9 hB9 hC5 hC6 (by rw [et.2]; exact hst) hk15) kX11_109 rfl ⟨Nat.le_of_ble_eq_true rfl, Nat.le_of_ble_eq_true rfl⟩ hl.1 rfl (Nat.le_of_ble_eq_true rfl) dX11_readLine_1 (fun v1 M2 H locs hp3 hW => ?_)
  obtain ⟨a4, rfl, ha4, hp3⟩ := hp3
  rw [hp3] at hW
  refine rw_stk (st' := [.int (iN a4)]) rfl ?_
  obtain ⟨nm, hnm⟩ : ∃ z, z = a4 := ⟨_, rfl⟩
  rw [← hnm] at ha4 ⊢
  have hnv : nm = nameV (M0 4) (M0 0 9) (M 0 14) (M 0 13) (M 0 15) := by rw [ha4, et.1, et.2]
  have hwn := word_name hS nm hnv
  have hnr := hwn.2
  have hwd := hwn.1 h0
  refine lv_istore_n (lv' := [(1, .int (iN nm)), (0, .ref (ad 0))]) hx hb dX11_readLine_4 rfl hl (by decide) rfl (fun ls hl => ?_)
  refine lv_iload_n hx hb dX11_readLine_5 rfl (lv_at hl 0 rfl) ?_
  refine rw_i2l hx hb dX11_readLine_6 (by omega) ?_
  refine lv_lconst (v := jN 0) hx hb dX11_readLine_7 rfl ?_
  refine lv_ldc2 (v := 8) hx hb hown (hts _ (wm_17 _ (List.mem_of_getElem? (i := 11) rfl))) dX11_readLine_8 ?_
  refine rw_stk (st' := [.long (jN 8), .long (jN 0), .long (jN nm)]) (by rw [show (8 : Int64) = jN 8 from by decide]) ?_
  refine rw_callS hx hb hml hts hown hW ⟨Nat.le_refl 0, Nat.le_refl 0⟩ [.long (jN nm), .long (jN 0), .long (jN 8)] (c_X11_in (l := l) (G := G) (ad := ad) (CA := CA) (nt := nt) nm 0 8 (by first | omega | decide) (by first | omega | decide) (by first | omega | decide) M) kX11_57 rfl ⟨Nat.le_of_ble_eq_true rfl, Nat.le_of_ble_eq_true rfl⟩ hl.1 rfl (Nat.le_of_ble_eq_true rfl) dX11_readLine_11 (fun v5 M6 H locs hp7 hW => ?_)
  obtain ⟨a8, rfl, hp7, hp7m⟩ := hp7
  rw [hp7m] at hW
  rcases hp7 with ⟨rfl, hp7⟩ | ⟨rfl, hp7⟩
  · have hp7 := (show nm = 0 ∨ nm = 1 ∨ nm = 2 ∨ nm = 3 ∨ nm = 4 ∨ nm = 5 ∨ nm = 6 ∨ nm = 7 ∨ nm = 8 by omega)
    rcases hp7 with rfl | rfl | rfl | rfl | rfl | rfl | rfl | rfl | rfl
    · refine rw_stk (st' := [.int (iN 1)]) rfl ?_
      refine rw_if_ne (tgt := 23) hx hb dX11_readLine_14 (by decide) (by decide) (fun _ => ?_) (fun c => absurd c (by decide))
      refine lv_iload_n hx hb dX11_readLine_23 rfl (lv_at hl 0 rfl) ?_
      refine rw_if_eq (tgt := 44) hx hb dX11_readLine_24 (by decide) (by decide) (fun _ => ?_) (fun c => absurd (by decide) c)
      refine rw_iconst hx hb dX11_readLine_44 ?_
      refine lv_goto (tgt := 49) hx hb dX11_readLine_45 (by decide) ?_
      refine lv_istore_n (lv' := [(2, .int (iN 1)), (1, .int (iN 0)), (0, .ref (ad 0))]) hx hb dX11_readLine_49 rfl hl (by decide) rfl (fun ls hl => ?_)
      refine lv_iload_n hx hb dX11_readLine_50 rfl (lv_at hl 0 rfl) ?_
      refine rw_if_eq (tgt := 71) hx hb dX11_readLine_51 (by decide) (by decide) (fun c => absurd c (by decide)) (fun _ => ?_)
      refine lv_aload_n hx hb dX11_readLine_54 rfl (lv_at hl 2 rfl) ?_
      refine rw_getI hx hb hts hown hW 0 lm_0 5 5 rfl rfl fX11_124 dX11_readLine_55 (v := (M 0 5)) rfl ?_
      refine lv_iload_n hx hb dX11_readLine_58 rfl (lv_at hl 1 rfl) ?_
      refine rw_ishr hx hb dX11_readLine_59 (by omega) (by omega) (by omega) (by omega) ?_
      refine rw_iconst hx hb dX11_readLine_60 ?_
      obtain ⟨qq, hqq⟩ : ∃ z, z = M 0 5 / pow2 0 := ⟨_, rfl⟩
      rw [← hqq]
      have hq0 : 0 ≤ qq ∧ qq ≤ 511 := by rw [hqq]; exact div_pow2_rng hS.1.2.2.1 (by decide)
      refine rw_iand hx hb dX11_readLine_61 ?_
      rw [band_one hq0.1 (by omega)]
      refine rw_iconst hx hb dX11_readLine_62 ?_
      refine rw_icmp_ne (tgt := 71) hx hb dX11_readLine_63 (by decide) (by omega) (by decide) (fun c_63 => ?_) (fun c_63 => ?_)
      · refine lv_aload_n hx hb dX11_readLine_71 rfl (lv_at hl 2 rfl) ?_
        refine lv_dup hx hb dX11_readLine_72 rfl ?_
        refine rw_getI hx hb hts hown hW 0 lm_0 5 5 rfl rfl fX11_124 dX11_readLine_73 (v := (M 0 5)) rfl ?_
        refine rw_iconst hx hb dX11_readLine_76 ?_
        refine lv_iload_n hx hb dX11_readLine_77 rfl (lv_at hl 1 rfl) ?_
        refine rw_shl1 hx hb dX11_readLine_78 (by omega) (by omega) ?_
        refine rw_ior hx hb dX11_readLine_79 ?_
        refine rw_putI hx hb hts hown hW 0 lm_0 5 5 rfl rfl qX11_124 (v := bor (M 0 5) (pow2 0)) dX11_readLine_80 (fun H locs hW => ?_)
        obtain ⟨M9, hM9⟩ : ∃ z, z = upd2 M 0 5 (bor (M 0 5) (pow2 0)) := ⟨_, rfl⟩
        rw [← hM9] at hW
        refine lv_aload_n hx hb dX11_readLine_83 rfl (lv_at hl 2 rfl) ?_
        have hSm : Sk M0 M9 (markX (M0 4) (M0 0 9) 0 0 (nextX (M0 4) (M0 0 9) x)) := by rw [hM9]; exact hS.onceM (l := 0) (by decide) h0 (Or.inl ⟨by rw [← hqq]; omega, rfl⟩) rfl
        have hSmf := hSm.n.f
        refine rw_callV hx hb hml hts hown hW ⟨Nat.le_refl 0, Nat.le_refl 0⟩ [] 0 lm_0 rfl (c_X11_step (l := l) (G := G) (ad := ad) (CA := CA) (nt := nt) (by omega) M9 hSmf.2.2.1 hSmf.2.2.2 hSmf.1 hSmf.2.1) kX11_95 rfl ⟨Nat.le_of_ble_eq_true rfl, Nat.le_of_ble_eq_true rfl⟩ hl.1 rfl (Nat.le_of_ble_eq_true rfl) dX11_readLine_84 (fun v10 M11 H locs hp12 hW => ?_)
        obtain ⟨rfl, hM11⟩ := hp12
        refine rw_stk (st' := []) rfl ?_
        have hSs := hSm.n.step hM11
        refine lv_iload_n hx hb dX11_readLine_87 rfl (lv_at hl 0 rfl) ?_
        refine rw_if_eq (tgt := 99) hx hb dX11_readLine_88 (by decide) (by decide) (fun c => absurd c (by decide)) (fun _ => ?_)
        refine lv_aload_n hx hb dX11_readLine_91 rfl (lv_at hl 2 rfl) ?_
        refine lv_iload_n hx hb dX11_readLine_92 rfl (lv_at hl 1 rfl) ?_
        refine rw_callV hx hb hml hts hown hW ⟨Nat.le_refl 0, Nat.le_refl 0⟩ [.int (iN 0)] 0 lm_0 rfl (c_X11_readOnce (l := l) (G := G) (ad := ad) (CA := CA) (nt := nt) (by omega) 0 (by first | omega | decide) M0 (markX (M0 4) (M0 0 9) 0 0 (nextX (M0 4) (M0 0 9) x)) M11 hSs) kX11_127 rfl ⟨Nat.le_of_ble_eq_true rfl, Nat.le_of_ble_eq_true rfl⟩ hl.1 rfl (Nat.le_of_ble_eq_true rfl) dX11_readLine_93 (fun v13 M14 H locs hp15 hW => ?_)
        obtain ⟨rfl, hM14⟩ := hp15
        refine rw_stk (st' := []) rfl ?_
        refine lv_goto (tgt := 104) hx hb dX11_readLine_96 (by decide) ?_
        have hSb : Sk M0 M14 (nextX (M0 4) (M0 0 9) (bodyX (M0 4) (M0 0 9) (nextX (M0 4) (M0 0 9) x))) := by rw [body_on _ _ (l := 0) (hwd.1.trans (if_pos (by decide))) (by decide)]; exact hM14
        have hSbf := hSb.f
        have hSbk := hSb.2.1.2.1
        refine lv_aload_n hx hb dX11_readLine_104 rfl (lv_at hl 2 rfl) ?_
        refine rw_getI hx hb hts hown hW 0 lm_0 11 11 rfl rfl fX11_61 dX11_readLine_105 (v := (M14 0 11)) rfl ?_
        refine rw_if_ne (tgt := 124) hx hb dX11_readLine_108 (by decide) (by omega) (fun c_108 => ?_) (fun c_108 => ?_)
        · have hSg := hSb.sign (Or.inl ⟨rfl, Or.inl c_108⟩)
          have hSgf := hSg.n.f
          refine lv_aload_n hx hb dX11_readLine_124 rfl (lv_at hl 2 rfl) ?_
          refine rw_callV hx hb hml hts hown hW ⟨Nat.le_refl 0, Nat.le_refl 0⟩ [] 0 lm_0 rfl (c_X11_step (l := l) (G := G) (ad := ad) (CA := CA) (nt := nt) (by omega) M14 hSgf.2.2.1 hSgf.2.2.2 hSgf.1 hSgf.2.1) kX11_95 rfl ⟨Nat.le_of_ble_eq_true rfl, Nat.le_of_ble_eq_true rfl⟩ hl.1 rfl (Nat.le_of_ble_eq_true rfl) dX11_readLine_125 (fun v16 M17 H locs hp18 hW => ?_)
          obtain ⟨rfl, hM17⟩ := hp18
          refine rw_stk (st' := []) rfl ?_
          refine rw_vret hx hb hr hlocks hW dX11_readLine_128 (⟨rfl, ?_⟩)
          exact hSg.n.step hM17
        · refine lv_aload_n hx hb dX11_readLine_111 rfl (lv_at hl 2 rfl) ?_
          refine rw_getI hx hb hts hown hW 0 lm_0 15 15 rfl rfl fX11_70 dX11_readLine_112 (v := (M14 0 15)) rfl ?_
          refine rw_iconst hx hb dX11_readLine_115 ?_
          refine rw_icmp_eq (tgt := 124) hx hb dX11_readLine_116 (by decide) (by omega) (by decide) (fun c_116 => ?_) (fun c_116 => ?_)
          · have hSg := hSb.sign (Or.inl ⟨rfl, Or.inr c_116⟩)
            have hSgf := hSg.n.f
            refine lv_aload_n hx hb dX11_readLine_124 rfl (lv_at hl 2 rfl) ?_
            refine rw_callV hx hb hml hts hown hW ⟨Nat.le_refl 0, Nat.le_refl 0⟩ [] 0 lm_0 rfl (c_X11_step (l := l) (G := G) (ad := ad) (CA := CA) (nt := nt) (by omega) M14 hSgf.2.2.1 hSgf.2.2.2 hSgf.1 hSgf.2.1) kX11_95 rfl ⟨Nat.le_of_ble_eq_true rfl, Nat.le_of_ble_eq_true rfl⟩ hl.1 rfl (Nat.le_of_ble_eq_true rfl) dX11_readLine_125 (fun v19 M20 H locs hp21 hW => ?_)
            obtain ⟨rfl, hM20⟩ := hp21
            refine rw_stk (st' := []) rfl ?_
            refine rw_vret hx hb hr hlocks hW dX11_readLine_128 (⟨rfl, ?_⟩)
            exact hSg.n.step hM20
          · refine lv_aload_n hx hb dX11_readLine_119 rfl (lv_at hl 2 rfl) ?_
            refine rw_iconst hx hb dX11_readLine_120 ?_
            refine rw_callV hx hb hml hts hown hW ⟨Nat.le_refl 0, Nat.le_refl 0⟩ [.int (iN 2)] 0 lm_0 rfl (c_X11_fails (l := l) (G := G) (ad := ad) (CA := CA) (nt := nt) (by omega) 2 M14 hSbf) kX11_91 rfl ⟨Nat.le_of_ble_eq_true rfl, Nat.le_of_ble_eq_true rfl⟩ hl.1 rfl (Nat.le_of_ble_eq_true rfl) dX11_readLine_121 (fun v22 M23 H locs hp24 hW => ?_)
            obtain ⟨rfl, hM23⟩ := hp24
            refine rw_stk (st' := []) rfl ?_
            have hSg := hSb.sign (Or.inr ⟨by omega, by omega, hM23⟩)
            have hSgf := hSg.n.f
            refine lv_aload_n hx hb dX11_readLine_124 rfl (lv_at hl 2 rfl) ?_
            refine rw_callV hx hb hml hts hown hW ⟨Nat.le_refl 0, Nat.le_refl 0⟩ [] 0 lm_0 rfl (c_X11_step (l := l) (G := G) (ad := ad) (CA := CA) (nt := nt) (by omega) M23 hSgf.2.2.1 hSgf.2.2.2 hSgf.1 hSgf.2.1) kX11_95 rfl ⟨Nat.le_of_ble_eq_true rfl, Nat.le_of_ble_eq_true rfl⟩ hl.1 rfl (Nat.le_of_ble_eq_true rfl) dX11_readLine_125 (fun v25 M26 H locs hp27 hW => ?_)
            obtain ⟨rfl, hM26⟩ := hp27
            refine rw_stk (st' := []) rfl ?_
            refine rw_vret hx hb hr hlocks hW dX11_readLine_128 (⟨rfl, ?_⟩)
            exact hSg.n.step hM26
      · refine lv_aload_n hx hb dX11_readLine_66 rfl (lv_at hl 2 rfl) ?_
        refine rw_iconst hx hb dX11_readLine_67 ?_
        refine rw_callV hx hb hml hts hown hW ⟨Nat.le_refl 0, Nat.le_refl 0⟩ [.int (iN 4)] 0 lm_0 rfl (c_X11_fails (l := l) (G := G) (ad := ad) (CA := CA) (nt := nt) (by omega) 4 M (by first | omega | decide)) kX11_91 rfl ⟨Nat.le_of_ble_eq_true rfl, Nat.le_of_ble_eq_true rfl⟩ hl.1 rfl (Nat.le_of_ble_eq_true rfl) dX11_readLine_68 (fun v28 M29 H locs hp30 hW => ?_)
        obtain ⟨rfl, hM29⟩ := hp30
        refine rw_stk (st' := []) rfl ?_
        have h5r := (hS.fail (f := 4) (by decide) hM29).1.2.2.1
        refine lv_aload_n hx hb dX11_readLine_71 rfl (lv_at hl 2 rfl) ?_
        refine lv_dup hx hb dX11_readLine_72 rfl ?_
        refine rw_getI hx hb hts hown hW 0 lm_0 5 5 rfl rfl fX11_124 dX11_readLine_73 (v := (M29 0 5)) rfl ?_
        refine rw_iconst hx hb dX11_readLine_76 ?_
        refine lv_iload_n hx hb dX11_readLine_77 rfl (lv_at hl 1 rfl) ?_
        refine rw_shl1 hx hb dX11_readLine_78 (by omega) (by omega) ?_
        refine rw_ior hx hb dX11_readLine_79 ?_
        refine rw_putI hx hb hts hown hW 0 lm_0 5 5 rfl rfl qX11_124 (v := bor (M29 0 5) (pow2 0)) dX11_readLine_80 (fun H locs hW => ?_)
        obtain ⟨M31, hM31⟩ : ∃ z, z = upd2 M29 0 5 (bor (M29 0 5) (pow2 0)) := ⟨_, rfl⟩
        rw [← hM31] at hW
        refine lv_aload_n hx hb dX11_readLine_83 rfl (lv_at hl 2 rfl) ?_
        have hSm : Sk M0 M31 (markX (M0 4) (M0 0 9) 0 0 (nextX (M0 4) (M0 0 9) x)) := by rw [hM31]; exact hS.onceM (l := 0) (by decide) h0 (Or.inr ⟨by rw [← hqq]; omega, hM29⟩) rfl
        have hSmf := hSm.n.f
        refine rw_callV hx hb hml hts hown hW ⟨Nat.le_refl 0, Nat.le_refl 0⟩ [] 0 lm_0 rfl (c_X11_step (l := l) (G := G) (ad := ad) (CA := CA) (nt := nt) (by omega) M31 hSmf.2.2.1 hSmf.2.2.2 hSmf.1 hSmf.2.1) kX11_95 rfl ⟨Nat.le_of_ble_eq_true rfl, Nat.le_of_ble_eq_true rfl⟩ hl.1 rfl (Nat.le_of_ble_eq_true rfl) dX11_readLine_84 (fun v32 M33 H locs hp34 hW => ?_)
        obtain ⟨rfl, hM33⟩ := hp34
        refine rw_stk (st' := []) rfl ?_
        have hSs := hSm.n.step hM33
        refine lv_iload_n hx hb dX11_readLine_87 rfl (lv_at hl 0 rfl) ?_
        refine rw_if_eq (tgt := 99) hx hb dX11_readLine_88 (by decide) (by decide) (fun c => absurd c (by decide)) (fun _ => ?_)
        refine lv_aload_n hx hb dX11_readLine_91 rfl (lv_at hl 2 rfl) ?_
        refine lv_iload_n hx hb dX11_readLine_92 rfl (lv_at hl 1 rfl) ?_
        refine rw_callV hx hb hml hts hown hW ⟨Nat.le_refl 0, Nat.le_refl 0⟩ [.int (iN 0)] 0 lm_0 rfl (c_X11_readOnce (l := l) (G := G) (ad := ad) (CA := CA) (nt := nt) (by omega) 0 (by first | omega | decide) M0 (markX (M0 4) (M0 0 9) 0 0 (nextX (M0 4) (M0 0 9) x)) M33 hSs) kX11_127 rfl ⟨Nat.le_of_ble_eq_true rfl, Nat.le_of_ble_eq_true rfl⟩ hl.1 rfl (Nat.le_of_ble_eq_true rfl) dX11_readLine_93 (fun v35 M36 H locs hp37 hW => ?_)
        obtain ⟨rfl, hM36⟩ := hp37
        refine rw_stk (st' := []) rfl ?_
        refine lv_goto (tgt := 104) hx hb dX11_readLine_96 (by decide) ?_
        have hSb : Sk M0 M36 (nextX (M0 4) (M0 0 9) (bodyX (M0 4) (M0 0 9) (nextX (M0 4) (M0 0 9) x))) := by rw [body_on _ _ (l := 0) (hwd.1.trans (if_pos (by decide))) (by decide)]; exact hM36
        have hSbf := hSb.f
        have hSbk := hSb.2.1.2.1
        refine lv_aload_n hx hb dX11_readLine_104 rfl (lv_at hl 2 rfl) ?_
        refine rw_getI hx hb hts hown hW 0 lm_0 11 11 rfl rfl fX11_61 dX11_readLine_105 (v := (M36 0 11)) rfl ?_
        refine rw_if_ne (tgt := 124) hx hb dX11_readLine_108 (by decide) (by omega) (fun c_108 => ?_) (fun c_108 => ?_)
        · have hSg := hSb.sign (Or.inl ⟨rfl, Or.inl c_108⟩)
          have hSgf := hSg.n.f
          refine lv_aload_n hx hb dX11_readLine_124 rfl (lv_at hl 2 rfl) ?_
          refine rw_callV hx hb hml hts hown hW ⟨Nat.le_refl 0, Nat.le_refl 0⟩ [] 0 lm_0 rfl (c_X11_step (l := l) (G := G) (ad := ad) (CA := CA) (nt := nt) (by omega) M36 hSgf.2.2.1 hSgf.2.2.2 hSgf.1 hSgf.2.1) kX11_95 rfl ⟨Nat.le_of_ble_eq_true rfl, Nat.le_of_ble_eq_true rfl⟩ hl.1 rfl (Nat.le_of_ble_eq_true rfl) dX11_readLine_125 (fun v38 M39 H locs hp40 hW => ?_)
          obtain ⟨rfl, hM39⟩ := hp40
          refine rw_stk (st' := []) rfl ?_
          refine rw_vret hx hb hr hlocks hW dX11_readLine_128 (⟨rfl, ?_⟩)
          exact hSg.n.step hM39
        · refine lv_aload_n hx hb dX11_readLine_111 rfl (lv_at hl 2 rfl) ?_
          refine rw_getI hx hb hts hown hW 0 lm_0 15 15 rfl rfl fX11_70 dX11_readLine_112 (v := (M36 0 15)) rfl ?_
          refine rw_iconst hx hb dX11_readLine_115 ?_
          refine rw_icmp_eq (tgt := 124) hx hb dX11_readLine_116 (by decide) (by omega) (by decide) (fun c_116 => ?_) (fun c_116 => ?_)
          · have hSg := hSb.sign (Or.inl ⟨rfl, Or.inr c_116⟩)
            have hSgf := hSg.n.f
            refine lv_aload_n hx hb dX11_readLine_124 rfl (lv_at hl 2 rfl) ?_
            refine rw_callV hx hb hml hts hown hW ⟨Nat.le_refl 0, Nat.le_refl 0⟩ [] 0 lm_0 rfl (c_X11_step (l := l) (G := G) (ad := ad) (CA := CA) (nt := nt) (by omega) M36 hSgf.2.2.1 hSgf.2.2.2 hSgf.1 hSgf.2.1) kX11_95 rfl ⟨Nat.le_of_ble_eq_true rfl, Nat.le_of_ble_eq_true rfl⟩ hl.1 rfl (Nat.le_of_ble_eq_true rfl) dX11_readLine_125 (fun v41 M42 H locs hp43 hW => ?_)
            obtain ⟨rfl, hM42⟩ := hp43
            refine rw_stk (st' := []) rfl ?_
            refine rw_vret hx hb hr hlocks hW dX11_readLine_128 (⟨rfl, ?_⟩)
            exact hSg.n.step hM42
          · refine lv_aload_n hx hb dX11_readLine_119 rfl (lv_at hl 2 rfl) ?_
            refine rw_iconst hx hb dX11_readLine_120 ?_
            refine rw_callV hx hb hml hts hown hW ⟨Nat.le_refl 0, Nat.le_refl 0⟩ [.int (iN 2)] 0 lm_0 rfl (c_X11_fails (l := l) (G := G) (ad := ad) (CA := CA) (nt := nt) (by omega) 2 M36 hSbf) kX11_91 rfl ⟨Nat.le_of_ble_eq_true rfl, Nat.le_of_ble_eq_true rfl⟩ hl.1 rfl (Nat.le_of_ble_eq_true rfl) dX11_readLine_121 (fun v44 M45 H locs hp46 hW => ?_)
            obtain ⟨rfl, hM45⟩ := hp46
            refine rw_stk (st' := []) rfl ?_
            have hSg := hSb.sign (Or.inr ⟨by omega, by omega, hM45⟩)
            have hSgf := hSg.n.f
            refine lv_aload_n hx hb dX11_readLine_124 rfl (lv_at hl 2 rfl) ?_
            refine rw_callV hx hb hml hts hown hW ⟨Nat.le_refl 0, Nat.le_refl 0⟩ [] 0 lm_0 rfl (c_X11_step (l := l) (G := G) (ad := ad) (CA := CA) (nt := nt) (by omega) M45 hSgf.2.2.1 hSgf.2.2.2 hSgf.1 hSgf.2.1) kX11_95 rfl ⟨Nat.le_of_ble_eq_true rfl, Nat.le_of_ble_eq_true rfl⟩ hl.1 rfl (Nat.le_of_ble_eq_true rfl) dX11_readLine_125 (fun v47 M48 H locs hp49 hW => ?_)
            obtain ⟨rfl, hM48⟩ := hp49
            refine rw_stk (st' := []) rfl ?_
            refine rw_vret hx hb hr hlocks hW dX11_readLine_128 (⟨rfl, ?_⟩)
            exact hSg.n.step hM48
    · refine rw_stk (st' := [.int (iN 1)]) rfl ?_
      refine rw_if_ne (tgt := 23) hx hb dX11_readLine_14 (by decide) (by decide) (fun _ => ?_) (fun c => absurd c (by decide))
      refine lv_iload_n hx hb dX11_readLine_23 rfl (lv_at hl 0 rfl) ?_
      refine rw_if_eq (tgt := 44) hx hb dX11_readLine_24 (by decide) (by decide) (fun c => absurd c (by decide)) (fun _ => ?_)
      refine lv_iload_n hx hb dX11_readLine_27 rfl (lv_at hl 0 rfl) ?_
      refine rw_iconst hx hb dX11_readLine_28 ?_
      refine rw_icmp_eq (tgt := 44) hx hb dX11_readLine_29 (by decide) (by decide) (by decide) (fun c => absurd c (by decide)) (fun _ => ?_)
      refine lv_iload_n hx hb dX11_readLine_32 rfl (lv_at hl 0 rfl) ?_
      refine rw_bipush hx hb dX11_readLine_33 (by decide) ?_
      refine rw_icmp_eq (tgt := 44) hx hb dX11_readLine_35 (by decide) (by decide) (by decide) (fun c => absurd c (by decide)) (fun _ => ?_)
      refine lv_iload_n hx hb dX11_readLine_38 rfl (lv_at hl 0 rfl) ?_
      refine rw_bipush hx hb dX11_readLine_39 (by decide) ?_
      refine rw_icmp_ne (tgt := 48) hx hb dX11_readLine_41 (by decide) (by decide) (by decide) (fun _ => ?_) (fun c => absurd c (by decide))
      refine rw_iconst hx hb dX11_readLine_48 ?_
      refine lv_istore_n (lv' := [(2, .int (iN 0)), (1, .int (iN 1)), (0, .ref (ad 0))]) hx hb dX11_readLine_49 rfl hl (by decide) rfl (fun ls hl => ?_)
      refine lv_iload_n hx hb dX11_readLine_50 rfl (lv_at hl 0 rfl) ?_
      refine rw_if_eq (tgt := 71) hx hb dX11_readLine_51 (by decide) (by decide) (fun _ => ?_) (fun c => absurd (by decide) c)
      refine lv_aload_n hx hb dX11_readLine_71 rfl (lv_at hl 2 rfl) ?_
      refine lv_dup hx hb dX11_readLine_72 rfl ?_
      refine rw_getI hx hb hts hown hW 0 lm_0 5 5 rfl rfl fX11_124 dX11_readLine_73 (v := (M 0 5)) rfl ?_
      refine rw_iconst hx hb dX11_readLine_76 ?_
      refine lv_iload_n hx hb dX11_readLine_77 rfl (lv_at hl 1 rfl) ?_
      refine rw_shl1 hx hb dX11_readLine_78 (by omega) (by omega) ?_
      refine rw_ior hx hb dX11_readLine_79 ?_
      refine rw_putI hx hb hts hown hW 0 lm_0 5 5 rfl rfl qX11_124 (v := bor (M 0 5) (pow2 1)) dX11_readLine_80 (fun H locs hW => ?_)
      obtain ⟨M50, hM50⟩ : ∃ z, z = upd2 M 0 5 (bor (M 0 5) (pow2 1)) := ⟨_, rfl⟩
      rw [← hM50] at hW
      refine lv_aload_n hx hb dX11_readLine_83 rfl (lv_at hl 2 rfl) ?_
      have hSm : Sk M0 M50 (nextX (M0 4) (M0 0 9) x) := by rw [hM50]; exact hS.onceN (l := 1) (by decide) rfl
      have hSmf := hSm.n.f
      refine rw_callV hx hb hml hts hown hW ⟨Nat.le_refl 0, Nat.le_refl 0⟩ [] 0 lm_0 rfl (c_X11_step (l := l) (G := G) (ad := ad) (CA := CA) (nt := nt) (by omega) M50 hSmf.2.2.1 hSmf.2.2.2 hSmf.1 hSmf.2.1) kX11_95 rfl ⟨Nat.le_of_ble_eq_true rfl, Nat.le_of_ble_eq_true rfl⟩ hl.1 rfl (Nat.le_of_ble_eq_true rfl) dX11_readLine_84 (fun v51 M52 H locs hp53 hW => ?_)
      obtain ⟨rfl, hM52⟩ := hp53
      refine rw_stk (st' := []) rfl ?_
      have hSs := hSm.n.step hM52
      refine lv_iload_n hx hb dX11_readLine_87 rfl (lv_at hl 0 rfl) ?_
      refine rw_if_eq (tgt := 99) hx hb dX11_readLine_88 (by decide) (by decide) (fun _ => ?_) (fun c => absurd (by decide) c)
      refine lv_aload_n hx hb dX11_readLine_99 rfl (lv_at hl 2 rfl) ?_
      refine lv_iload_n hx hb dX11_readLine_100 rfl (lv_at hl 1 rfl) ?_
      refine rw_callV hx hb hml hts hown hW ⟨Nat.le_refl 0, Nat.le_refl 0⟩ [.int (iN 1)] 0 lm_0 rfl (c_X11_readOf (l := l) (G := G) (ad := ad) (CA := CA) (nt := nt) (by omega) 1 (by first | omega | decide) M0 (nextX (M0 4) (M0 0 9) x) M52 hSs) kX11_130 rfl ⟨Nat.le_of_ble_eq_true rfl, Nat.le_of_ble_eq_true rfl⟩ hl.1 rfl (Nat.le_of_ble_eq_true rfl) dX11_readLine_101 (fun v54 M55 H locs hp56 hW => ?_)
      obtain ⟨rfl, hM55⟩ := hp56
      refine rw_stk (st' := []) rfl ?_
      have hSb : Sk M0 M55 (nextX (M0 4) (M0 0 9) (bodyX (M0 4) (M0 0 9) (nextX (M0 4) (M0 0 9) x))) := by rw [body_of _ _ (l := 1) (hwd.1.trans (if_pos (by decide))) (by decide)]; exact hM55
      have hSbf := hSb.f
      have hSbk := hSb.2.1.2.1
      refine lv_aload_n hx hb dX11_readLine_104 rfl (lv_at hl 2 rfl) ?_
      refine rw_getI hx hb hts hown hW 0 lm_0 11 11 rfl rfl fX11_61 dX11_readLine_105 (v := (M55 0 11)) rfl ?_
      refine rw_if_ne (tgt := 124) hx hb dX11_readLine_108 (by decide) (by omega) (fun c_108 => ?_) (fun c_108 => ?_)
      · have hSg := hSb.sign (Or.inl ⟨rfl, Or.inl c_108⟩)
        have hSgf := hSg.n.f
        refine lv_aload_n hx hb dX11_readLine_124 rfl (lv_at hl 2 rfl) ?_
        refine rw_callV hx hb hml hts hown hW ⟨Nat.le_refl 0, Nat.le_refl 0⟩ [] 0 lm_0 rfl (c_X11_step (l := l) (G := G) (ad := ad) (CA := CA) (nt := nt) (by omega) M55 hSgf.2.2.1 hSgf.2.2.2 hSgf.1 hSgf.2.1) kX11_95 rfl ⟨Nat.le_of_ble_eq_true rfl, Nat.le_of_ble_eq_true rfl⟩ hl.1 rfl (Nat.le_of_ble_eq_true rfl) dX11_readLine_125 (fun v57 M58 H locs hp59 hW => ?_)
        obtain ⟨rfl, hM58⟩ := hp59
        refine rw_stk (st' := []) rfl ?_
        refine rw_vret hx hb hr hlocks hW dX11_readLine_128 (⟨rfl, ?_⟩)
        exact hSg.n.step hM58
      · refine lv_aload_n hx hb dX11_readLine_111 rfl (lv_at hl 2 rfl) ?_
        refine rw_getI hx hb hts hown hW 0 lm_0 15 15 rfl rfl fX11_70 dX11_readLine_112 (v := (M55 0 15)) rfl ?_
        refine rw_iconst hx hb dX11_readLine_115 ?_
        refine rw_icmp_eq (tgt := 124) hx hb dX11_readLine_116 (by decide) (by omega) (by decide) (fun c_116 => ?_) (fun c_116 => ?_)
        · have hSg := hSb.sign (Or.inl ⟨rfl, Or.inr c_116⟩)
          have hSgf := hSg.n.f
          refine lv_aload_n hx hb dX11_readLine_124 rfl (lv_at hl 2 rfl) ?_
          refine rw_callV hx hb hml hts hown hW ⟨Nat.le_refl 0, Nat.le_refl 0⟩ [] 0 lm_0 rfl (c_X11_step (l := l) (G := G) (ad := ad) (CA := CA) (nt := nt) (by omega) M55 hSgf.2.2.1 hSgf.2.2.2 hSgf.1 hSgf.2.1) kX11_95 rfl ⟨Nat.le_of_ble_eq_true rfl, Nat.le_of_ble_eq_true rfl⟩ hl.1 rfl (Nat.le_of_ble_eq_true rfl) dX11_readLine_125 (fun v60 M61 H locs hp62 hW => ?_)
          obtain ⟨rfl, hM61⟩ := hp62
          refine rw_stk (st' := []) rfl ?_
          refine rw_vret hx hb hr hlocks hW dX11_readLine_128 (⟨rfl, ?_⟩)
          exact hSg.n.step hM61
        · refine lv_aload_n hx hb dX11_readLine_119 rfl (lv_at hl 2 rfl) ?_
          refine rw_iconst hx hb dX11_readLine_120 ?_
          refine rw_callV hx hb hml hts hown hW ⟨Nat.le_refl 0, Nat.le_refl 0⟩ [.int (iN 2)] 0 lm_0 rfl (c_X11_fails (l := l) (G := G) (ad := ad) (CA := CA) (nt := nt) (by omega) 2 M55 hSbf) kX11_91 rfl ⟨Nat.le_of_ble_eq_true rfl, Nat.le_of_ble_eq_true rfl⟩ hl.1 rfl (Nat.le_of_ble_eq_true rfl) dX11_readLine_121 (fun v63 M64 H locs hp65 hW => ?_)
          obtain ⟨rfl, hM64⟩ := hp65
          refine rw_stk (st' := []) rfl ?_
          have hSg := hSb.sign (Or.inr ⟨by omega, by omega, hM64⟩)
          have hSgf := hSg.n.f
          refine lv_aload_n hx hb dX11_readLine_124 rfl (lv_at hl 2 rfl) ?_
          refine rw_callV hx hb hml hts hown hW ⟨Nat.le_refl 0, Nat.le_refl 0⟩ [] 0 lm_0 rfl (c_X11_step (l := l) (G := G) (ad := ad) (CA := CA) (nt := nt) (by omega) M64 hSgf.2.2.1 hSgf.2.2.2 hSgf.1 hSgf.2.1) kX11_95 rfl ⟨Nat.le_of_ble_eq_true rfl, Nat.le_of_ble_eq_true rfl⟩ hl.1 rfl (Nat.le_of_ble_eq_true rfl) dX11_readLine_125 (fun v66 M67 H locs hp68 hW => ?_)
          obtain ⟨rfl, hM67⟩ := hp68
          refine rw_stk (st' := []) rfl ?_
          refine rw_vret hx hb hr hlocks hW dX11_readLine_128 (⟨rfl, ?_⟩)
          exact hSg.n.step hM67
    · refine rw_stk (st' := [.int (iN 1)]) rfl ?_
      refine rw_if_ne (tgt := 23) hx hb dX11_readLine_14 (by decide) (by decide) (fun _ => ?_) (fun c => absurd c (by decide))
      refine lv_iload_n hx hb dX11_readLine_23 rfl (lv_at hl 0 rfl) ?_
      refine rw_if_eq (tgt := 44) hx hb dX11_readLine_24 (by decide) (by decide) (fun c => absurd c (by decide)) (fun _ => ?_)
      refine lv_iload_n hx hb dX11_readLine_27 rfl (lv_at hl 0 rfl) ?_
      refine rw_iconst hx hb dX11_readLine_28 ?_
      refine rw_icmp_eq (tgt := 44) hx hb dX11_readLine_29 (by decide) (by decide) (by decide) (fun c => absurd c (by decide)) (fun _ => ?_)
      refine lv_iload_n hx hb dX11_readLine_32 rfl (lv_at hl 0 rfl) ?_
      refine rw_bipush hx hb dX11_readLine_33 (by decide) ?_
      refine rw_icmp_eq (tgt := 44) hx hb dX11_readLine_35 (by decide) (by decide) (by decide) (fun c => absurd c (by decide)) (fun _ => ?_)
      refine lv_iload_n hx hb dX11_readLine_38 rfl (lv_at hl 0 rfl) ?_
      refine rw_bipush hx hb dX11_readLine_39 (by decide) ?_
      refine rw_icmp_ne (tgt := 48) hx hb dX11_readLine_41 (by decide) (by decide) (by decide) (fun _ => ?_) (fun c => absurd c (by decide))
      refine rw_iconst hx hb dX11_readLine_48 ?_
      refine lv_istore_n (lv' := [(2, .int (iN 0)), (1, .int (iN 2)), (0, .ref (ad 0))]) hx hb dX11_readLine_49 rfl hl (by decide) rfl (fun ls hl => ?_)
      refine lv_iload_n hx hb dX11_readLine_50 rfl (lv_at hl 0 rfl) ?_
      refine rw_if_eq (tgt := 71) hx hb dX11_readLine_51 (by decide) (by decide) (fun _ => ?_) (fun c => absurd (by decide) c)
      refine lv_aload_n hx hb dX11_readLine_71 rfl (lv_at hl 2 rfl) ?_
      refine lv_dup hx hb dX11_readLine_72 rfl ?_
      refine rw_getI hx hb hts hown hW 0 lm_0 5 5 rfl rfl fX11_124 dX11_readLine_73 (v := (M 0 5)) rfl ?_
      refine rw_iconst hx hb dX11_readLine_76 ?_
      refine lv_iload_n hx hb dX11_readLine_77 rfl (lv_at hl 1 rfl) ?_
      refine rw_shl1 hx hb dX11_readLine_78 (by omega) (by omega) ?_
      refine rw_ior hx hb dX11_readLine_79 ?_
      refine rw_putI hx hb hts hown hW 0 lm_0 5 5 rfl rfl qX11_124 (v := bor (M 0 5) (pow2 2)) dX11_readLine_80 (fun H locs hW => ?_)
      obtain ⟨M69, hM69⟩ : ∃ z, z = upd2 M 0 5 (bor (M 0 5) (pow2 2)) := ⟨_, rfl⟩
      rw [← hM69] at hW
      refine lv_aload_n hx hb dX11_readLine_83 rfl (lv_at hl 2 rfl) ?_
      have hSm : Sk M0 M69 (nextX (M0 4) (M0 0 9) x) := by rw [hM69]; exact hS.onceN (l := 2) (by decide) rfl
      have hSmf := hSm.n.f
      refine rw_callV hx hb hml hts hown hW ⟨Nat.le_refl 0, Nat.le_refl 0⟩ [] 0 lm_0 rfl (c_X11_step (l := l) (G := G) (ad := ad) (CA := CA) (nt := nt) (by omega) M69 hSmf.2.2.1 hSmf.2.2.2 hSmf.1 hSmf.2.1) kX11_95 rfl ⟨Nat.le_of_ble_eq_true rfl, Nat.le_of_ble_eq_true rfl⟩ hl.1 rfl (Nat.le_of_ble_eq_true rfl) dX11_readLine_84 (fun v70 M71 H locs hp72 hW => ?_)
      obtain ⟨rfl, hM71⟩ := hp72
      refine rw_stk (st' := []) rfl ?_
      have hSs := hSm.n.step hM71
      refine lv_iload_n hx hb dX11_readLine_87 rfl (lv_at hl 0 rfl) ?_
      refine rw_if_eq (tgt := 99) hx hb dX11_readLine_88 (by decide) (by decide) (fun _ => ?_) (fun c => absurd (by decide) c)
      refine lv_aload_n hx hb dX11_readLine_99 rfl (lv_at hl 2 rfl) ?_
      refine lv_iload_n hx hb dX11_readLine_100 rfl (lv_at hl 1 rfl) ?_
      refine rw_callV hx hb hml hts hown hW ⟨Nat.le_refl 0, Nat.le_refl 0⟩ [.int (iN 2)] 0 lm_0 rfl (c_X11_readOf (l := l) (G := G) (ad := ad) (CA := CA) (nt := nt) (by omega) 2 (by first | omega | decide) M0 (nextX (M0 4) (M0 0 9) x) M71 hSs) kX11_130 rfl ⟨Nat.le_of_ble_eq_true rfl, Nat.le_of_ble_eq_true rfl⟩ hl.1 rfl (Nat.le_of_ble_eq_true rfl) dX11_readLine_101 (fun v73 M74 H locs hp75 hW => ?_)
      obtain ⟨rfl, hM74⟩ := hp75
      refine rw_stk (st' := []) rfl ?_
      have hSb : Sk M0 M74 (nextX (M0 4) (M0 0 9) (bodyX (M0 4) (M0 0 9) (nextX (M0 4) (M0 0 9) x))) := by rw [body_of _ _ (l := 2) (hwd.1.trans (if_pos (by decide))) (by decide)]; exact hM74
      have hSbf := hSb.f
      have hSbk := hSb.2.1.2.1
      refine lv_aload_n hx hb dX11_readLine_104 rfl (lv_at hl 2 rfl) ?_
      refine rw_getI hx hb hts hown hW 0 lm_0 11 11 rfl rfl fX11_61 dX11_readLine_105 (v := (M74 0 11)) rfl ?_
      refine rw_if_ne (tgt := 124) hx hb dX11_readLine_108 (by decide) (by omega) (fun c_108 => ?_) (fun c_108 => ?_)
      · have hSg := hSb.sign (Or.inl ⟨rfl, Or.inl c_108⟩)
        have hSgf := hSg.n.f
        refine lv_aload_n hx hb dX11_readLine_124 rfl (lv_at hl 2 rfl) ?_
        refine rw_callV hx hb hml hts hown hW ⟨Nat.le_refl 0, Nat.le_refl 0⟩ [] 0 lm_0 rfl (c_X11_step (l := l) (G := G) (ad := ad) (CA := CA) (nt := nt) (by omega) M74 hSgf.2.2.1 hSgf.2.2.2 hSgf.1 hSgf.2.1) kX11_95 rfl ⟨Nat.le_of_ble_eq_true rfl, Nat.le_of_ble_eq_true rfl⟩ hl.1 rfl (Nat.le_of_ble_eq_true rfl) dX11_readLine_125 (fun v76 M77 H locs hp78 hW => ?_)
        obtain ⟨rfl, hM77⟩ := hp78
        refine rw_stk (st' := []) rfl ?_
        refine rw_vret hx hb hr hlocks hW dX11_readLine_128 (⟨rfl, ?_⟩)
        exact hSg.n.step hM77
      · refine lv_aload_n hx hb dX11_readLine_111 rfl (lv_at hl 2 rfl) ?_
        refine rw_getI hx hb hts hown hW 0 lm_0 15 15 rfl rfl fX11_70 dX11_readLine_112 (v := (M74 0 15)) rfl ?_
        refine rw_iconst hx hb dX11_readLine_115 ?_
        refine rw_icmp_eq (tgt := 124) hx hb dX11_readLine_116 (by decide) (by omega) (by decide) (fun c_116 => ?_) (fun c_116 => ?_)
        · have hSg := hSb.sign (Or.inl ⟨rfl, Or.inr c_116⟩)
          have hSgf := hSg.n.f
          refine lv_aload_n hx hb dX11_readLine_124 rfl (lv_at hl 2 rfl) ?_
          refine rw_callV hx hb hml hts hown hW ⟨Nat.le_refl 0, Nat.le_refl 0⟩ [] 0 lm_0 rfl (c_X11_step (l := l) (G := G) (ad := ad) (CA := CA) (nt := nt) (by omega) M74 hSgf.2.2.1 hSgf.2.2.2 hSgf.1 hSgf.2.1) kX11_95 rfl ⟨Nat.le_of_ble_eq_true rfl, Nat.le_of_ble_eq_true rfl⟩ hl.1 rfl (Nat.le_of_ble_eq_true rfl) dX11_readLine_125 (fun v79 M80 H locs hp81 hW => ?_)
          obtain ⟨rfl, hM80⟩ := hp81
          refine rw_stk (st' := []) rfl ?_
          refine rw_vret hx hb hr hlocks hW dX11_readLine_128 (⟨rfl, ?_⟩)
          exact hSg.n.step hM80
        · refine lv_aload_n hx hb dX11_readLine_119 rfl (lv_at hl 2 rfl) ?_
          refine rw_iconst hx hb dX11_readLine_120 ?_
          refine rw_callV hx hb hml hts hown hW ⟨Nat.le_refl 0, Nat.le_refl 0⟩ [.int (iN 2)] 0 lm_0 rfl (c_X11_fails (l := l) (G := G) (ad := ad) (CA := CA) (nt := nt) (by omega) 2 M74 hSbf) kX11_91 rfl ⟨Nat.le_of_ble_eq_true rfl, Nat.le_of_ble_eq_true rfl⟩ hl.1 rfl (Nat.le_of_ble_eq_true rfl) dX11_readLine_121 (fun v82 M83 H locs hp84 hW => ?_)
          obtain ⟨rfl, hM83⟩ := hp84
          refine rw_stk (st' := []) rfl ?_
          have hSg := hSb.sign (Or.inr ⟨by omega, by omega, hM83⟩)
          have hSgf := hSg.n.f
          refine lv_aload_n hx hb dX11_readLine_124 rfl (lv_at hl 2 rfl) ?_
          refine rw_callV hx hb hml hts hown hW ⟨Nat.le_refl 0, Nat.le_refl 0⟩ [] 0 lm_0 rfl (c_X11_step (l := l) (G := G) (ad := ad) (CA := CA) (nt := nt) (by omega) M83 hSgf.2.2.1 hSgf.2.2.2 hSgf.1 hSgf.2.1) kX11_95 rfl ⟨Nat.le_of_ble_eq_true rfl, Nat.le_of_ble_eq_true rfl⟩ hl.1 rfl (Nat.le_of_ble_eq_true rfl) dX11_readLine_125 (fun v85 M86 H locs hp87 hW => ?_)
          obtain ⟨rfl, hM86⟩ := hp87
          refine rw_stk (st' := []) rfl ?_
          refine rw_vret hx hb hr hlocks hW dX11_readLine_128 (⟨rfl, ?_⟩)
          exact hSg.n.step hM86
    · refine rw_stk (st' := [.int (iN 1)]) rfl ?_
      refine rw_if_ne (tgt := 23) hx hb dX11_readLine_14 (by decide) (by decide) (fun _ => ?_) (fun c => absurd c (by decide))
      refine lv_iload_n hx hb dX11_readLine_23 rfl (lv_at hl 0 rfl) ?_
      refine rw_if_eq (tgt := 44) hx hb dX11_readLine_24 (by decide) (by decide) (fun c => absurd c (by decide)) (fun _ => ?_)
      refine lv_iload_n hx hb dX11_readLine_27 rfl (lv_at hl 0 rfl) ?_
      refine rw_iconst hx hb dX11_readLine_28 ?_
      refine rw_icmp_eq (tgt := 44) hx hb dX11_readLine_29 (by decide) (by decide) (by decide) (fun c => absurd c (by decide)) (fun _ => ?_)
      refine lv_iload_n hx hb dX11_readLine_32 rfl (lv_at hl 0 rfl) ?_
      refine rw_bipush hx hb dX11_readLine_33 (by decide) ?_
      refine rw_icmp_eq (tgt := 44) hx hb dX11_readLine_35 (by decide) (by decide) (by decide) (fun c => absurd c (by decide)) (fun _ => ?_)
      refine lv_iload_n hx hb dX11_readLine_38 rfl (lv_at hl 0 rfl) ?_
      refine rw_bipush hx hb dX11_readLine_39 (by decide) ?_
      refine rw_icmp_ne (tgt := 48) hx hb dX11_readLine_41 (by decide) (by decide) (by decide) (fun _ => ?_) (fun c => absurd c (by decide))
      refine rw_iconst hx hb dX11_readLine_48 ?_
      refine lv_istore_n (lv' := [(2, .int (iN 0)), (1, .int (iN 3)), (0, .ref (ad 0))]) hx hb dX11_readLine_49 rfl hl (by decide) rfl (fun ls hl => ?_)
      refine lv_iload_n hx hb dX11_readLine_50 rfl (lv_at hl 0 rfl) ?_
      refine rw_if_eq (tgt := 71) hx hb dX11_readLine_51 (by decide) (by decide) (fun _ => ?_) (fun c => absurd (by decide) c)
      refine lv_aload_n hx hb dX11_readLine_71 rfl (lv_at hl 2 rfl) ?_
      refine lv_dup hx hb dX11_readLine_72 rfl ?_
      refine rw_getI hx hb hts hown hW 0 lm_0 5 5 rfl rfl fX11_124 dX11_readLine_73 (v := (M 0 5)) rfl ?_
      refine rw_iconst hx hb dX11_readLine_76 ?_
      refine lv_iload_n hx hb dX11_readLine_77 rfl (lv_at hl 1 rfl) ?_
      refine rw_shl1 hx hb dX11_readLine_78 (by omega) (by omega) ?_
      refine rw_ior hx hb dX11_readLine_79 ?_
      refine rw_putI hx hb hts hown hW 0 lm_0 5 5 rfl rfl qX11_124 (v := bor (M 0 5) (pow2 3)) dX11_readLine_80 (fun H locs hW => ?_)
      obtain ⟨M88, hM88⟩ : ∃ z, z = upd2 M 0 5 (bor (M 0 5) (pow2 3)) := ⟨_, rfl⟩
      rw [← hM88] at hW
      refine lv_aload_n hx hb dX11_readLine_83 rfl (lv_at hl 2 rfl) ?_
      have hSm : Sk M0 M88 (nextX (M0 4) (M0 0 9) x) := by rw [hM88]; exact hS.onceN (l := 3) (by decide) rfl
      have hSmf := hSm.n.f
      refine rw_callV hx hb hml hts hown hW ⟨Nat.le_refl 0, Nat.le_refl 0⟩ [] 0 lm_0 rfl (c_X11_step (l := l) (G := G) (ad := ad) (CA := CA) (nt := nt) (by omega) M88 hSmf.2.2.1 hSmf.2.2.2 hSmf.1 hSmf.2.1) kX11_95 rfl ⟨Nat.le_of_ble_eq_true rfl, Nat.le_of_ble_eq_true rfl⟩ hl.1 rfl (Nat.le_of_ble_eq_true rfl) dX11_readLine_84 (fun v89 M90 H locs hp91 hW => ?_)
      obtain ⟨rfl, hM90⟩ := hp91
      refine rw_stk (st' := []) rfl ?_
      have hSs := hSm.n.step hM90
      refine lv_iload_n hx hb dX11_readLine_87 rfl (lv_at hl 0 rfl) ?_
      refine rw_if_eq (tgt := 99) hx hb dX11_readLine_88 (by decide) (by decide) (fun _ => ?_) (fun c => absurd (by decide) c)
      refine lv_aload_n hx hb dX11_readLine_99 rfl (lv_at hl 2 rfl) ?_
      refine lv_iload_n hx hb dX11_readLine_100 rfl (lv_at hl 1 rfl) ?_
      refine rw_callV hx hb hml hts hown hW ⟨Nat.le_refl 0, Nat.le_refl 0⟩ [.int (iN 3)] 0 lm_0 rfl (c_X11_readOf (l := l) (G := G) (ad := ad) (CA := CA) (nt := nt) (by omega) 3 (by first | omega | decide) M0 (nextX (M0 4) (M0 0 9) x) M90 hSs) kX11_130 rfl ⟨Nat.le_of_ble_eq_true rfl, Nat.le_of_ble_eq_true rfl⟩ hl.1 rfl (Nat.le_of_ble_eq_true rfl) dX11_readLine_101 (fun v92 M93 H locs hp94 hW => ?_)
      obtain ⟨rfl, hM93⟩ := hp94
      refine rw_stk (st' := []) rfl ?_
      have hSb : Sk M0 M93 (nextX (M0 4) (M0 0 9) (bodyX (M0 4) (M0 0 9) (nextX (M0 4) (M0 0 9) x))) := by rw [body_of _ _ (l := 3) (hwd.1.trans (if_pos (by decide))) (by decide)]; exact hM93
      have hSbf := hSb.f
      have hSbk := hSb.2.1.2.1
      refine lv_aload_n hx hb dX11_readLine_104 rfl (lv_at hl 2 rfl) ?_
      refine rw_getI hx hb hts hown hW 0 lm_0 11 11 rfl rfl fX11_61 dX11_readLine_105 (v := (M93 0 11)) rfl ?_
      refine rw_if_ne (tgt := 124) hx hb dX11_readLine_108 (by decide) (by omega) (fun c_108 => ?_) (fun c_108 => ?_)
      · have hSg := hSb.sign (Or.inl ⟨rfl, Or.inl c_108⟩)
        have hSgf := hSg.n.f
        refine lv_aload_n hx hb dX11_readLine_124 rfl (lv_at hl 2 rfl) ?_
        refine rw_callV hx hb hml hts hown hW ⟨Nat.le_refl 0, Nat.le_refl 0⟩ [] 0 lm_0 rfl (c_X11_step (l := l) (G := G) (ad := ad) (CA := CA) (nt := nt) (by omega) M93 hSgf.2.2.1 hSgf.2.2.2 hSgf.1 hSgf.2.1) kX11_95 rfl ⟨Nat.le_of_ble_eq_true rfl, Nat.le_of_ble_eq_true rfl⟩ hl.1 rfl (Nat.le_of_ble_eq_true rfl) dX11_readLine_125 (fun v95 M96 H locs hp97 hW => ?_)
        obtain ⟨rfl, hM96⟩ := hp97
        refine rw_stk (st' := []) rfl ?_
        refine rw_vret hx hb hr hlocks hW dX11_readLine_128 (⟨rfl, ?_⟩)
        exact hSg.n.step hM96
      · refine lv_aload_n hx hb dX11_readLine_111 rfl (lv_at hl 2 rfl) ?_
        refine rw_getI hx hb hts hown hW 0 lm_0 15 15 rfl rfl fX11_70 dX11_readLine_112 (v := (M93 0 15)) rfl ?_
        refine rw_iconst hx hb dX11_readLine_115 ?_
        refine rw_icmp_eq (tgt := 124) hx hb dX11_readLine_116 (by decide) (by omega) (by decide) (fun c_116 => ?_) (fun c_116 => ?_)
        · have hSg := hSb.sign (Or.inl ⟨rfl, Or.inr c_116⟩)
          have hSgf := hSg.n.f
          refine lv_aload_n hx hb dX11_readLine_124 rfl (lv_at hl 2 rfl) ?_
          refine rw_callV hx hb hml hts hown hW ⟨Nat.le_refl 0, Nat.le_refl 0⟩ [] 0 lm_0 rfl (c_X11_step (l := l) (G := G) (ad := ad) (CA := CA) (nt := nt) (by omega) M93 hSgf.2.2.1 hSgf.2.2.2 hSgf.1 hSgf.2.1) kX11_95 rfl ⟨Nat.le_of_ble_eq_true rfl, Nat.le_of_ble_eq_true rfl⟩ hl.1 rfl (Nat.le_of_ble_eq_true rfl) dX11_readLine_125 (fun v98 M99 H locs hp100 hW => ?_)
          obtain ⟨rfl, hM99⟩ := hp100
          refine rw_stk (st' := []) rfl ?_
          refine rw_vret hx hb hr hlocks hW dX11_readLine_128 (⟨rfl, ?_⟩)
          exact hSg.n.step hM99
        · refine lv_aload_n hx hb dX11_readLine_119 rfl (lv_at hl 2 rfl) ?_
          refine rw_iconst hx hb dX11_readLine_120 ?_
          refine rw_callV hx hb hml hts hown hW ⟨Nat.le_refl 0, Nat.le_refl 0⟩ [.int (iN 2)] 0 lm_0 rfl (c_X11_fails (l := l) (G := G) (ad := ad) (CA := CA) (nt := nt) (by omega) 2 M93 hSbf) kX11_91 rfl ⟨Nat.le_of_ble_eq_true rfl, Nat.le_of_ble_eq_true rfl⟩ hl.1 rfl (Nat.le_of_ble_eq_true rfl) dX11_readLine_121 (fun v101 M102 H locs hp103 hW => ?_)
          obtain ⟨rfl, hM102⟩ := hp103
          refine rw_stk (st' := []) rfl ?_
          have hSg := hSb.sign (Or.inr ⟨by omega, by omega, hM102⟩)
          have hSgf := hSg.n.f
          refine lv_aload_n hx hb dX11_readLine_124 rfl (lv_at hl 2 rfl) ?_
          refine rw_callV hx hb hml hts hown hW ⟨Nat.le_refl 0, Nat.le_refl 0⟩ [] 0 lm_0 rfl (c_X11_step (l := l) (G := G) (ad := ad) (CA := CA) (nt := nt) (by omega) M102 hSgf.2.2.1 hSgf.2.2.2 hSgf.1 hSgf.2.1) kX11_95 rfl ⟨Nat.le_of_ble_eq_true rfl, Nat.le_of_ble_eq_true rfl⟩ hl.1 rfl (Nat.le_of_ble_eq_true rfl) dX11_readLine_125 (fun v104 M105 H locs hp106 hW => ?_)
          obtain ⟨rfl, hM105⟩ := hp106
          refine rw_stk (st' := []) rfl ?_
          refine rw_vret hx hb hr hlocks hW dX11_readLine_128 (⟨rfl, ?_⟩)
          exact hSg.n.step hM105
    · refine rw_stk (st' := [.int (iN 1)]) rfl ?_
      refine rw_if_ne (tgt := 23) hx hb dX11_readLine_14 (by decide) (by decide) (fun _ => ?_) (fun c => absurd c (by decide))
      refine lv_iload_n hx hb dX11_readLine_23 rfl (lv_at hl 0 rfl) ?_
      refine rw_if_eq (tgt := 44) hx hb dX11_readLine_24 (by decide) (by decide) (fun c => absurd c (by decide)) (fun _ => ?_)
      refine lv_iload_n hx hb dX11_readLine_27 rfl (lv_at hl 0 rfl) ?_
      refine rw_iconst hx hb dX11_readLine_28 ?_
      refine rw_icmp_eq (tgt := 44) hx hb dX11_readLine_29 (by decide) (by decide) (by decide) (fun _ => ?_) (fun c => absurd (by decide) c)
      refine rw_iconst hx hb dX11_readLine_44 ?_
      refine lv_goto (tgt := 49) hx hb dX11_readLine_45 (by decide) ?_
      refine lv_istore_n (lv' := [(2, .int (iN 1)), (1, .int (iN 4)), (0, .ref (ad 0))]) hx hb dX11_readLine_49 rfl hl (by decide) rfl (fun ls hl => ?_)
      refine lv_iload_n hx hb dX11_readLine_50 rfl (lv_at hl 0 rfl) ?_
      refine rw_if_eq (tgt := 71) hx hb dX11_readLine_51 (by decide) (by decide) (fun c => absurd c (by decide)) (fun _ => ?_)
      refine lv_aload_n hx hb dX11_readLine_54 rfl (lv_at hl 2 rfl) ?_
      refine rw_getI hx hb hts hown hW 0 lm_0 5 5 rfl rfl fX11_124 dX11_readLine_55 (v := (M 0 5)) rfl ?_
      refine lv_iload_n hx hb dX11_readLine_58 rfl (lv_at hl 1 rfl) ?_
      refine rw_ishr hx hb dX11_readLine_59 (by omega) (by omega) (by omega) (by omega) ?_
      refine rw_iconst hx hb dX11_readLine_60 ?_
      obtain ⟨qq, hqq⟩ : ∃ z, z = M 0 5 / pow2 4 := ⟨_, rfl⟩
      rw [← hqq]
      have hq0 : 0 ≤ qq ∧ qq ≤ 511 := by rw [hqq]; exact div_pow2_rng hS.1.2.2.1 (by decide)
      refine rw_iand hx hb dX11_readLine_61 ?_
      rw [band_one hq0.1 (by omega)]
      refine rw_iconst hx hb dX11_readLine_62 ?_
      refine rw_icmp_ne (tgt := 71) hx hb dX11_readLine_63 (by decide) (by omega) (by decide) (fun c_63 => ?_) (fun c_63 => ?_)
      · refine lv_aload_n hx hb dX11_readLine_71 rfl (lv_at hl 2 rfl) ?_
        refine lv_dup hx hb dX11_readLine_72 rfl ?_
        refine rw_getI hx hb hts hown hW 0 lm_0 5 5 rfl rfl fX11_124 dX11_readLine_73 (v := (M 0 5)) rfl ?_
        refine rw_iconst hx hb dX11_readLine_76 ?_
        refine lv_iload_n hx hb dX11_readLine_77 rfl (lv_at hl 1 rfl) ?_
        refine rw_shl1 hx hb dX11_readLine_78 (by omega) (by omega) ?_
        refine rw_ior hx hb dX11_readLine_79 ?_
        refine rw_putI hx hb hts hown hW 0 lm_0 5 5 rfl rfl qX11_124 (v := bor (M 0 5) (pow2 4)) dX11_readLine_80 (fun H locs hW => ?_)
        obtain ⟨M107, hM107⟩ : ∃ z, z = upd2 M 0 5 (bor (M 0 5) (pow2 4)) := ⟨_, rfl⟩
        rw [← hM107] at hW
        refine lv_aload_n hx hb dX11_readLine_83 rfl (lv_at hl 2 rfl) ?_
        have hSm : Sk M0 M107 (markX (M0 4) (M0 0 9) 4 0 (nextX (M0 4) (M0 0 9) x)) := by rw [hM107]; exact hS.onceM (l := 4) (by decide) h0 (Or.inl ⟨by rw [← hqq]; omega, rfl⟩) rfl
        have hSmf := hSm.n.f
        refine rw_callV hx hb hml hts hown hW ⟨Nat.le_refl 0, Nat.le_refl 0⟩ [] 0 lm_0 rfl (c_X11_step (l := l) (G := G) (ad := ad) (CA := CA) (nt := nt) (by omega) M107 hSmf.2.2.1 hSmf.2.2.2 hSmf.1 hSmf.2.1) kX11_95 rfl ⟨Nat.le_of_ble_eq_true rfl, Nat.le_of_ble_eq_true rfl⟩ hl.1 rfl (Nat.le_of_ble_eq_true rfl) dX11_readLine_84 (fun v108 M109 H locs hp110 hW => ?_)
        obtain ⟨rfl, hM109⟩ := hp110
        refine rw_stk (st' := []) rfl ?_
        have hSs := hSm.n.step hM109
        refine lv_iload_n hx hb dX11_readLine_87 rfl (lv_at hl 0 rfl) ?_
        refine rw_if_eq (tgt := 99) hx hb dX11_readLine_88 (by decide) (by decide) (fun c => absurd c (by decide)) (fun _ => ?_)
        refine lv_aload_n hx hb dX11_readLine_91 rfl (lv_at hl 2 rfl) ?_
        refine lv_iload_n hx hb dX11_readLine_92 rfl (lv_at hl 1 rfl) ?_
        refine rw_callV hx hb hml hts hown hW ⟨Nat.le_refl 0, Nat.le_refl 0⟩ [.int (iN 4)] 0 lm_0 rfl (c_X11_readOnce (l := l) (G := G) (ad := ad) (CA := CA) (nt := nt) (by omega) 4 (by first | omega | decide) M0 (markX (M0 4) (M0 0 9) 4 0 (nextX (M0 4) (M0 0 9) x)) M109 hSs) kX11_127 rfl ⟨Nat.le_of_ble_eq_true rfl, Nat.le_of_ble_eq_true rfl⟩ hl.1 rfl (Nat.le_of_ble_eq_true rfl) dX11_readLine_93 (fun v111 M112 H locs hp113 hW => ?_)
        obtain ⟨rfl, hM112⟩ := hp113
        refine rw_stk (st' := []) rfl ?_
        refine lv_goto (tgt := 104) hx hb dX11_readLine_96 (by decide) ?_
        have hSb : Sk M0 M112 (nextX (M0 4) (M0 0 9) (bodyX (M0 4) (M0 0 9) (nextX (M0 4) (M0 0 9) x))) := by rw [body_on _ _ (l := 4) (hwd.1.trans (if_pos (by decide))) (by decide)]; exact hM112
        have hSbf := hSb.f
        have hSbk := hSb.2.1.2.1
        refine lv_aload_n hx hb dX11_readLine_104 rfl (lv_at hl 2 rfl) ?_
        refine rw_getI hx hb hts hown hW 0 lm_0 11 11 rfl rfl fX11_61 dX11_readLine_105 (v := (M112 0 11)) rfl ?_
        refine rw_if_ne (tgt := 124) hx hb dX11_readLine_108 (by decide) (by omega) (fun c_108 => ?_) (fun c_108 => ?_)
        · have hSg := hSb.sign (Or.inl ⟨rfl, Or.inl c_108⟩)
          have hSgf := hSg.n.f
          refine lv_aload_n hx hb dX11_readLine_124 rfl (lv_at hl 2 rfl) ?_
          refine rw_callV hx hb hml hts hown hW ⟨Nat.le_refl 0, Nat.le_refl 0⟩ [] 0 lm_0 rfl (c_X11_step (l := l) (G := G) (ad := ad) (CA := CA) (nt := nt) (by omega) M112 hSgf.2.2.1 hSgf.2.2.2 hSgf.1 hSgf.2.1) kX11_95 rfl ⟨Nat.le_of_ble_eq_true rfl, Nat.le_of_ble_eq_true rfl⟩ hl.1 rfl (Nat.le_of_ble_eq_true rfl) dX11_readLine_125 (fun v114 M115 H locs hp116 hW => ?_)
          obtain ⟨rfl, hM115⟩ := hp116
          refine rw_stk (st' := []) rfl ?_
          refine rw_vret hx hb hr hlocks hW dX11_readLine_128 (⟨rfl, ?_⟩)
          exact hSg.n.step hM115
        · refine lv_aload_n hx hb dX11_readLine_111 rfl (lv_at hl 2 rfl) ?_
          refine rw_getI hx hb hts hown hW 0 lm_0 15 15 rfl rfl fX11_70 dX11_readLine_112 (v := (M112 0 15)) rfl ?_
          refine rw_iconst hx hb dX11_readLine_115 ?_
          refine rw_icmp_eq (tgt := 124) hx hb dX11_readLine_116 (by decide) (by omega) (by decide) (fun c_116 => ?_) (fun c_116 => ?_)
          · have hSg := hSb.sign (Or.inl ⟨rfl, Or.inr c_116⟩)
            have hSgf := hSg.n.f
            refine lv_aload_n hx hb dX11_readLine_124 rfl (lv_at hl 2 rfl) ?_
            refine rw_callV hx hb hml hts hown hW ⟨Nat.le_refl 0, Nat.le_refl 0⟩ [] 0 lm_0 rfl (c_X11_step (l := l) (G := G) (ad := ad) (CA := CA) (nt := nt) (by omega) M112 hSgf.2.2.1 hSgf.2.2.2 hSgf.1 hSgf.2.1) kX11_95 rfl ⟨Nat.le_of_ble_eq_true rfl, Nat.le_of_ble_eq_true rfl⟩ hl.1 rfl (Nat.le_of_ble_eq_true rfl) dX11_readLine_125 (fun v117 M118 H locs hp119 hW => ?_)
            obtain ⟨rfl, hM118⟩ := hp119
            refine rw_stk (st' := []) rfl ?_
            refine rw_vret hx hb hr hlocks hW dX11_readLine_128 (⟨rfl, ?_⟩)
            exact hSg.n.step hM118
          · refine lv_aload_n hx hb dX11_readLine_119 rfl (lv_at hl 2 rfl) ?_
            refine rw_iconst hx hb dX11_readLine_120 ?_
            refine rw_callV hx hb hml hts hown hW ⟨Nat.le_refl 0, Nat.le_refl 0⟩ [.int (iN 2)] 0 lm_0 rfl (c_X11_fails (l := l) (G := G) (ad := ad) (CA := CA) (nt := nt) (by omega) 2 M112 hSbf) kX11_91 rfl ⟨Nat.le_of_ble_eq_true rfl, Nat.le_of_ble_eq_true rfl⟩ hl.1 rfl (Nat.le_of_ble_eq_true rfl) dX11_readLine_121 (fun v120 M121 H locs hp122 hW => ?_)
            obtain ⟨rfl, hM121⟩ := hp122
            refine rw_stk (st' := []) rfl ?_
            have hSg := hSb.sign (Or.inr ⟨by omega, by omega, hM121⟩)
            have hSgf := hSg.n.f
            refine lv_aload_n hx hb dX11_readLine_124 rfl (lv_at hl 2 rfl) ?_
            refine rw_callV hx hb hml hts hown hW ⟨Nat.le_refl 0, Nat.le_refl 0⟩ [] 0 lm_0 rfl (c_X11_step (l := l) (G := G) (ad := ad) (CA := CA) (nt := nt) (by omega) M121 hSgf.2.2.1 hSgf.2.2.2 hSgf.1 hSgf.2.1) kX11_95 rfl ⟨Nat.le_of_ble_eq_true rfl, Nat.le_of_ble_eq_true rfl⟩ hl.1 rfl (Nat.le_of_ble_eq_true rfl) dX11_readLine_125 (fun v123 M124 H locs hp125 hW => ?_)
            obtain ⟨rfl, hM124⟩ := hp125
            refine rw_stk (st' := []) rfl ?_
            refine rw_vret hx hb hr hlocks hW dX11_readLine_128 (⟨rfl, ?_⟩)
            exact hSg.n.step hM124
      · refine lv_aload_n hx hb dX11_readLine_66 rfl (lv_at hl 2 rfl) ?_
        refine rw_iconst hx hb dX11_readLine_67 ?_
        refine rw_callV hx hb hml hts hown hW ⟨Nat.le_refl 0, Nat.le_refl 0⟩ [.int (iN 4)] 0 lm_0 rfl (c_X11_fails (l := l) (G := G) (ad := ad) (CA := CA) (nt := nt) (by omega) 4 M (by first | omega | decide)) kX11_91 rfl ⟨Nat.le_of_ble_eq_true rfl, Nat.le_of_ble_eq_true rfl⟩ hl.1 rfl (Nat.le_of_ble_eq_true rfl) dX11_readLine_68 (fun v126 M127 H locs hp128 hW => ?_)
        obtain ⟨rfl, hM127⟩ := hp128
        refine rw_stk (st' := []) rfl ?_
        have h5r := (hS.fail (f := 4) (by decide) hM127).1.2.2.1
        refine lv_aload_n hx hb dX11_readLine_71 rfl (lv_at hl 2 rfl) ?_
        refine lv_dup hx hb dX11_readLine_72 rfl ?_
        refine rw_getI hx hb hts hown hW 0 lm_0 5 5 rfl rfl fX11_124 dX11_readLine_73 (v := (M127 0 5)) rfl ?_
        refine rw_iconst hx hb dX11_readLine_76 ?_
        refine lv_iload_n hx hb dX11_readLine_77 rfl (lv_at hl 1 rfl) ?_
        refine rw_shl1 hx hb dX11_readLine_78 (by omega) (by omega) ?_
        refine rw_ior hx hb dX11_readLine_79 ?_
        refine rw_putI hx hb hts hown hW 0 lm_0 5 5 rfl rfl qX11_124 (v := bor (M127 0 5) (pow2 4)) dX11_readLine_80 (fun H locs hW => ?_)
        obtain ⟨M129, hM129⟩ : ∃ z, z = upd2 M127 0 5 (bor (M127 0 5) (pow2 4)) := ⟨_, rfl⟩
        rw [← hM129] at hW
        refine lv_aload_n hx hb dX11_readLine_83 rfl (lv_at hl 2 rfl) ?_
        have hSm : Sk M0 M129 (markX (M0 4) (M0 0 9) 4 0 (nextX (M0 4) (M0 0 9) x)) := by rw [hM129]; exact hS.onceM (l := 4) (by decide) h0 (Or.inr ⟨by rw [← hqq]; omega, hM127⟩) rfl
        have hSmf := hSm.n.f
        refine rw_callV hx hb hml hts hown hW ⟨Nat.le_refl 0, Nat.le_refl 0⟩ [] 0 lm_0 rfl (c_X11_step (l := l) (G := G) (ad := ad) (CA := CA) (nt := nt) (by omega) M129 hSmf.2.2.1 hSmf.2.2.2 hSmf.1 hSmf.2.1) kX11_95 rfl ⟨Nat.le_of_ble_eq_true rfl, Nat.le_of_ble_eq_true rfl⟩ hl.1 rfl (Nat.le_of_ble_eq_true rfl) dX11_readLine_84 (fun v130 M131 H locs hp132 hW => ?_)
        obtain ⟨rfl, hM131⟩ := hp132
        refine rw_stk (st' := []) rfl ?_
        have hSs := hSm.n.step hM131
        refine lv_iload_n hx hb dX11_readLine_87 rfl (lv_at hl 0 rfl) ?_
        refine rw_if_eq (tgt := 99) hx hb dX11_readLine_88 (by decide) (by decide) (fun c => absurd c (by decide)) (fun _ => ?_)
        refine lv_aload_n hx hb dX11_readLine_91 rfl (lv_at hl 2 rfl) ?_
        refine lv_iload_n hx hb dX11_readLine_92 rfl (lv_at hl 1 rfl) ?_
        refine rw_callV hx hb hml hts hown hW ⟨Nat.le_refl 0, Nat.le_refl 0⟩ [.int (iN 4)] 0 lm_0 rfl (c_X11_readOnce (l := l) (G := G) (ad := ad) (CA := CA) (nt := nt) (by omega) 4 (by first | omega | decide) M0 (markX (M0 4) (M0 0 9) 4 0 (nextX (M0 4) (M0 0 9) x)) M131 hSs) kX11_127 rfl ⟨Nat.le_of_ble_eq_true rfl, Nat.le_of_ble_eq_true rfl⟩ hl.1 rfl (Nat.le_of_ble_eq_true rfl) dX11_readLine_93 (fun v133 M134 H locs hp135 hW => ?_)
        obtain ⟨rfl, hM134⟩ := hp135
        refine rw_stk (st' := []) rfl ?_
        refine lv_goto (tgt := 104) hx hb dX11_readLine_96 (by decide) ?_
        have hSb : Sk M0 M134 (nextX (M0 4) (M0 0 9) (bodyX (M0 4) (M0 0 9) (nextX (M0 4) (M0 0 9) x))) := by rw [body_on _ _ (l := 4) (hwd.1.trans (if_pos (by decide))) (by decide)]; exact hM134
        have hSbf := hSb.f
        have hSbk := hSb.2.1.2.1
        refine lv_aload_n hx hb dX11_readLine_104 rfl (lv_at hl 2 rfl) ?_
        refine rw_getI hx hb hts hown hW 0 lm_0 11 11 rfl rfl fX11_61 dX11_readLine_105 (v := (M134 0 11)) rfl ?_
        refine rw_if_ne (tgt := 124) hx hb dX11_readLine_108 (by decide) (by omega) (fun c_108 => ?_) (fun c_108 => ?_)
        · have hSg := hSb.sign (Or.inl ⟨rfl, Or.inl c_108⟩)
          have hSgf := hSg.n.f
          refine lv_aload_n hx hb dX11_readLine_124 rfl (lv_at hl 2 rfl) ?_
          refine rw_callV hx hb hml hts hown hW ⟨Nat.le_refl 0, Nat.le_refl 0⟩ [] 0 lm_0 rfl (c_X11_step (l := l) (G := G) (ad := ad) (CA := CA) (nt := nt) (by omega) M134 hSgf.2.2.1 hSgf.2.2.2 hSgf.1 hSgf.2.1) kX11_95 rfl ⟨Nat.le_of_ble_eq_true rfl, Nat.le_of_ble_eq_true rfl⟩ hl.1 rfl (Nat.le_of_ble_eq_true rfl) dX11_readLine_125 (fun v136 M137 H locs hp138 hW => ?_)
          obtain ⟨rfl, hM137⟩ := hp138
          refine rw_stk (st' := []) rfl ?_
          refine rw_vret hx hb hr hlocks hW dX11_readLine_128 (⟨rfl, ?_⟩)
          exact hSg.n.step hM137
        · refine lv_aload_n hx hb dX11_readLine_111 rfl (lv_at hl 2 rfl) ?_
          refine rw_getI hx hb hts hown hW 0 lm_0 15 15 rfl rfl fX11_70 dX11_readLine_112 (v := (M134 0 15)) rfl ?_
          refine rw_iconst hx hb dX11_readLine_115 ?_
          refine rw_icmp_eq (tgt := 124) hx hb dX11_readLine_116 (by decide) (by omega) (by decide) (fun c_116 => ?_) (fun c_116 => ?_)
          · have hSg := hSb.sign (Or.inl ⟨rfl, Or.inr c_116⟩)
            have hSgf := hSg.n.f
            refine lv_aload_n hx hb dX11_readLine_124 rfl (lv_at hl 2 rfl) ?_
            refine rw_callV hx hb hml hts hown hW ⟨Nat.le_refl 0, Nat.le_refl 0⟩ [] 0 lm_0 rfl (c_X11_step (l := l) (G := G) (ad := ad) (CA := CA) (nt := nt) (by omega) M134 hSgf.2.2.1 hSgf.2.2.2 hSgf.1 hSgf.2.1) kX11_95 rfl ⟨Nat.le_of_ble_eq_true rfl, Nat.le_of_ble_eq_true rfl⟩ hl.1 rfl (Nat.le_of_ble_eq_true rfl) dX11_readLine_125 (fun v139 M140 H locs hp141 hW => ?_)
            obtain ⟨rfl, hM140⟩ := hp141
            refine rw_stk (st' := []) rfl ?_
            refine rw_vret hx hb hr hlocks hW dX11_readLine_128 (⟨rfl, ?_⟩)
            exact hSg.n.step hM140
          · refine lv_aload_n hx hb dX11_readLine_119 rfl (lv_at hl 2 rfl) ?_
            refine rw_iconst hx hb dX11_readLine_120 ?_
            refine rw_callV hx hb hml hts hown hW ⟨Nat.le_refl 0, Nat.le_refl 0⟩ [.int (iN 2)] 0 lm_0 rfl (c_X11_fails (l := l) (G := G) (ad := ad) (CA := CA) (nt := nt) (by omega) 2 M134 hSbf) kX11_91 rfl ⟨Nat.le_of_ble_eq_true rfl, Nat.le_of_ble_eq_true rfl⟩ hl.1 rfl (Nat.le_of_ble_eq_true rfl) dX11_readLine_121 (fun v142 M143 H locs hp144 hW => ?_)
            obtain ⟨rfl, hM143⟩ := hp144
            refine rw_stk (st' := []) rfl ?_
            have hSg := hSb.sign (Or.inr ⟨by omega, by omega, hM143⟩)
            have hSgf := hSg.n.f
            refine lv_aload_n hx hb dX11_readLine_124 rfl (lv_at hl 2 rfl) ?_
            refine rw_callV hx hb hml hts hown hW ⟨Nat.le_refl 0, Nat.le_refl 0⟩ [] 0 lm_0 rfl (c_X11_step (l := l) (G := G) (ad := ad) (CA := CA) (nt := nt) (by omega) M143 hSgf.2.2.1 hSgf.2.2.2 hSgf.1 hSgf.2.1) kX11_95 rfl ⟨Nat.le_of_ble_eq_true rfl, Nat.le_of_ble_eq_true rfl⟩ hl.1 rfl (Nat.le_of_ble_eq_true rfl) dX11_readLine_125 (fun v145 M146 H locs hp147 hW => ?_)
            obtain ⟨rfl, hM146⟩ := hp147
            refine rw_stk (st' := []) rfl ?_
            refine rw_vret hx hb hr hlocks hW dX11_readLine_128 (⟨rfl, ?_⟩)
            exact hSg.n.step hM146
    · refine rw_stk (st' := [.int (iN 1)]) rfl ?_
      refine rw_if_ne (tgt := 23) hx hb dX11_readLine_14 (by decide) (by decide) (fun _ => ?_) (fun c => absurd c (by decide))
      refine lv_iload_n hx hb dX11_readLine_23 rfl (lv_at hl 0 rfl) ?_
      refine rw_if_eq (tgt := 44) hx hb dX11_readLine_24 (by decide) (by decide) (fun c => absurd c (by decide)) (fun _ => ?_)
      refine lv_iload_n hx hb dX11_readLine_27 rfl (lv_at hl 0 rfl) ?_
      refine rw_iconst hx hb dX11_readLine_28 ?_
      refine rw_icmp_eq (tgt := 44) hx hb dX11_readLine_29 (by decide) (by decide) (by decide) (fun c => absurd c (by decide)) (fun _ => ?_)
      refine lv_iload_n hx hb dX11_readLine_32 rfl (lv_at hl 0 rfl) ?_
      refine rw_bipush hx hb dX11_readLine_33 (by decide) ?_
      refine rw_icmp_eq (tgt := 44) hx hb dX11_readLine_35 (by decide) (by decide) (by decide) (fun c => absurd c (by decide)) (fun _ => ?_)
      refine lv_iload_n hx hb dX11_readLine_38 rfl (lv_at hl 0 rfl) ?_
      refine rw_bipush hx hb dX11_readLine_39 (by decide) ?_
      refine rw_icmp_ne (tgt := 48) hx hb dX11_readLine_41 (by decide) (by decide) (by decide) (fun _ => ?_) (fun c => absurd c (by decide))
      refine rw_iconst hx hb dX11_readLine_48 ?_
      refine lv_istore_n (lv' := [(2, .int (iN 0)), (1, .int (iN 5)), (0, .ref (ad 0))]) hx hb dX11_readLine_49 rfl hl (by decide) rfl (fun ls hl => ?_)
      refine lv_iload_n hx hb dX11_readLine_50 rfl (lv_at hl 0 rfl) ?_
      refine rw_if_eq (tgt := 71) hx hb dX11_readLine_51 (by decide) (by decide) (fun _ => ?_) (fun c => absurd (by decide) c)
      refine lv_aload_n hx hb dX11_readLine_71 rfl (lv_at hl 2 rfl) ?_
      refine lv_dup hx hb dX11_readLine_72 rfl ?_
      refine rw_getI hx hb hts hown hW 0 lm_0 5 5 rfl rfl fX11_124 dX11_readLine_73 (v := (M 0 5)) rfl ?_
      refine rw_iconst hx hb dX11_readLine_76 ?_
      refine lv_iload_n hx hb dX11_readLine_77 rfl (lv_at hl 1 rfl) ?_
      refine rw_shl1 hx hb dX11_readLine_78 (by omega) (by omega) ?_
      refine rw_ior hx hb dX11_readLine_79 ?_
      refine rw_putI hx hb hts hown hW 0 lm_0 5 5 rfl rfl qX11_124 (v := bor (M 0 5) (pow2 5)) dX11_readLine_80 (fun H locs hW => ?_)
      obtain ⟨M148, hM148⟩ : ∃ z, z = upd2 M 0 5 (bor (M 0 5) (pow2 5)) := ⟨_, rfl⟩
      rw [← hM148] at hW
      refine lv_aload_n hx hb dX11_readLine_83 rfl (lv_at hl 2 rfl) ?_
      have hSm : Sk M0 M148 (nextX (M0 4) (M0 0 9) x) := by rw [hM148]; exact hS.onceN (l := 5) (by decide) rfl
      have hSmf := hSm.n.f
      refine rw_callV hx hb hml hts hown hW ⟨Nat.le_refl 0, Nat.le_refl 0⟩ [] 0 lm_0 rfl (c_X11_step (l := l) (G := G) (ad := ad) (CA := CA) (nt := nt) (by omega) M148 hSmf.2.2.1 hSmf.2.2.2 hSmf.1 hSmf.2.1) kX11_95 rfl ⟨Nat.le_of_ble_eq_true rfl, Nat.le_of_ble_eq_true rfl⟩ hl.1 rfl (Nat.le_of_ble_eq_true rfl) dX11_readLine_84 (fun v149 M150 H locs hp151 hW => ?_)
      obtain ⟨rfl, hM150⟩ := hp151
      refine rw_stk (st' := []) rfl ?_
      have hSs := hSm.n.step hM150
      refine lv_iload_n hx hb dX11_readLine_87 rfl (lv_at hl 0 rfl) ?_
      refine rw_if_eq (tgt := 99) hx hb dX11_readLine_88 (by decide) (by decide) (fun _ => ?_) (fun c => absurd (by decide) c)
      refine lv_aload_n hx hb dX11_readLine_99 rfl (lv_at hl 2 rfl) ?_
      refine lv_iload_n hx hb dX11_readLine_100 rfl (lv_at hl 1 rfl) ?_
      refine rw_callV hx hb hml hts hown hW ⟨Nat.le_refl 0, Nat.le_refl 0⟩ [.int (iN 5)] 0 lm_0 rfl (c_X11_readOf (l := l) (G := G) (ad := ad) (CA := CA) (nt := nt) (by omega) 5 (by first | omega | decide) M0 (nextX (M0 4) (M0 0 9) x) M150 hSs) kX11_130 rfl ⟨Nat.le_of_ble_eq_true rfl, Nat.le_of_ble_eq_true rfl⟩ hl.1 rfl (Nat.le_of_ble_eq_true rfl) dX11_readLine_101 (fun v152 M153 H locs hp154 hW => ?_)
      obtain ⟨rfl, hM153⟩ := hp154
      refine rw_stk (st' := []) rfl ?_
      have hSb : Sk M0 M153 (nextX (M0 4) (M0 0 9) (bodyX (M0 4) (M0 0 9) (nextX (M0 4) (M0 0 9) x))) := by rw [body_of _ _ (l := 5) (hwd.1.trans (if_pos (by decide))) (by decide)]; exact hM153
      have hSbf := hSb.f
      have hSbk := hSb.2.1.2.1
      refine lv_aload_n hx hb dX11_readLine_104 rfl (lv_at hl 2 rfl) ?_
      refine rw_getI hx hb hts hown hW 0 lm_0 11 11 rfl rfl fX11_61 dX11_readLine_105 (v := (M153 0 11)) rfl ?_
      refine rw_if_ne (tgt := 124) hx hb dX11_readLine_108 (by decide) (by omega) (fun c_108 => ?_) (fun c_108 => ?_)
      · have hSg := hSb.sign (Or.inl ⟨rfl, Or.inl c_108⟩)
        have hSgf := hSg.n.f
        refine lv_aload_n hx hb dX11_readLine_124 rfl (lv_at hl 2 rfl) ?_
        refine rw_callV hx hb hml hts hown hW ⟨Nat.le_refl 0, Nat.le_refl 0⟩ [] 0 lm_0 rfl (c_X11_step (l := l) (G := G) (ad := ad) (CA := CA) (nt := nt) (by omega) M153 hSgf.2.2.1 hSgf.2.2.2 hSgf.1 hSgf.2.1) kX11_95 rfl ⟨Nat.le_of_ble_eq_true rfl, Nat.le_of_ble_eq_true rfl⟩ hl.1 rfl (Nat.le_of_ble_eq_true rfl) dX11_readLine_125 (fun v155 M156 H locs hp157 hW => ?_)
        obtain ⟨rfl, hM156⟩ := hp157
        refine rw_stk (st' := []) rfl ?_
        refine rw_vret hx hb hr hlocks hW dX11_readLine_128 (⟨rfl, ?_⟩)
        exact hSg.n.step hM156
      · refine lv_aload_n hx hb dX11_readLine_111 rfl (lv_at hl 2 rfl) ?_
        refine rw_getI hx hb hts hown hW 0 lm_0 15 15 rfl rfl fX11_70 dX11_readLine_112 (v := (M153 0 15)) rfl ?_
        refine rw_iconst hx hb dX11_readLine_115 ?_
        refine rw_icmp_eq (tgt := 124) hx hb dX11_readLine_116 (by decide) (by omega) (by decide) (fun c_116 => ?_) (fun c_116 => ?_)
        · have hSg := hSb.sign (Or.inl ⟨rfl, Or.inr c_116⟩)
          have hSgf := hSg.n.f
          refine lv_aload_n hx hb dX11_readLine_124 rfl (lv_at hl 2 rfl) ?_
          refine rw_callV hx hb hml hts hown hW ⟨Nat.le_refl 0, Nat.le_refl 0⟩ [] 0 lm_0 rfl (c_X11_step (l := l) (G := G) (ad := ad) (CA := CA) (nt := nt) (by omega) M153 hSgf.2.2.1 hSgf.2.2.2 hSgf.1 hSgf.2.1) kX11_95 rfl ⟨Nat.le_of_ble_eq_true rfl, Nat.le_of_ble_eq_true rfl⟩ hl.1 rfl (Nat.le_of_ble_eq_true rfl) dX11_readLine_125 (fun v158 M159 H locs hp160 hW => ?_)
          obtain ⟨rfl, hM159⟩ := hp160
          refine rw_stk (st' := []) rfl ?_
          refine rw_vret hx hb hr hlocks hW dX11_readLine_128 (⟨rfl, ?_⟩)
          exact hSg.n.step hM159
        · refine lv_aload_n hx hb dX11_readLine_119 rfl (lv_at hl 2 rfl) ?_
          refine rw_iconst hx hb dX11_readLine_120 ?_
          refine rw_callV hx hb hml hts hown hW ⟨Nat.le_refl 0, Nat.le_refl 0⟩ [.int (iN 2)] 0 lm_0 rfl (c_X11_fails (l := l) (G := G) (ad := ad) (CA := CA) (nt := nt) (by omega) 2 M153 hSbf) kX11_91 rfl ⟨Nat.le_of_ble_eq_true rfl, Nat.le_of_ble_eq_true rfl⟩ hl.1 rfl (Nat.le_of_ble_eq_true rfl) dX11_readLine_121 (fun v161 M162 H locs hp163 hW => ?_)
          obtain ⟨rfl, hM162⟩ := hp163
          refine rw_stk (st' := []) rfl ?_
          have hSg := hSb.sign (Or.inr ⟨by omega, by omega, hM162⟩)
          have hSgf := hSg.n.f
          refine lv_aload_n hx hb dX11_readLine_124 rfl (lv_at hl 2 rfl) ?_
          refine rw_callV hx hb hml hts hown hW ⟨Nat.le_refl 0, Nat.le_refl 0⟩ [] 0 lm_0 rfl (c_X11_step (l := l) (G := G) (ad := ad) (CA := CA) (nt := nt) (by omega) M162 hSgf.2.2.1 hSgf.2.2.2 hSgf.1 hSgf.2.1) kX11_95 rfl ⟨Nat.le_of_ble_eq_true rfl, Nat.le_of_ble_eq_true rfl⟩ hl.1 rfl (Nat.le_of_ble_eq_true rfl) dX11_readLine_125 (fun v164 M165 H locs hp166 hW => ?_)
          obtain ⟨rfl, hM165⟩ := hp166
          refine rw_stk (st' := []) rfl ?_
          refine rw_vret hx hb hr hlocks hW dX11_readLine_128 (⟨rfl, ?_⟩)
          exact hSg.n.step hM165
    · refine rw_stk (st' := [.int (iN 1)]) rfl ?_
      refine rw_if_ne (tgt := 23) hx hb dX11_readLine_14 (by decide) (by decide) (fun _ => ?_) (fun c => absurd c (by decide))
      refine lv_iload_n hx hb dX11_readLine_23 rfl (lv_at hl 0 rfl) ?_
      refine rw_if_eq (tgt := 44) hx hb dX11_readLine_24 (by decide) (by decide) (fun c => absurd c (by decide)) (fun _ => ?_)
      refine lv_iload_n hx hb dX11_readLine_27 rfl (lv_at hl 0 rfl) ?_
      refine rw_iconst hx hb dX11_readLine_28 ?_
      refine rw_icmp_eq (tgt := 44) hx hb dX11_readLine_29 (by decide) (by decide) (by decide) (fun c => absurd c (by decide)) (fun _ => ?_)
      refine lv_iload_n hx hb dX11_readLine_32 rfl (lv_at hl 0 rfl) ?_
      refine rw_bipush hx hb dX11_readLine_33 (by decide) ?_
      refine rw_icmp_eq (tgt := 44) hx hb dX11_readLine_35 (by decide) (by decide) (by decide) (fun c => absurd c (by decide)) (fun _ => ?_)
      refine lv_iload_n hx hb dX11_readLine_38 rfl (lv_at hl 0 rfl) ?_
      refine rw_bipush hx hb dX11_readLine_39 (by decide) ?_
      refine rw_icmp_ne (tgt := 48) hx hb dX11_readLine_41 (by decide) (by decide) (by decide) (fun _ => ?_) (fun c => absurd c (by decide))
      refine rw_iconst hx hb dX11_readLine_48 ?_
      refine lv_istore_n (lv' := [(2, .int (iN 0)), (1, .int (iN 6)), (0, .ref (ad 0))]) hx hb dX11_readLine_49 rfl hl (by decide) rfl (fun ls hl => ?_)
      refine lv_iload_n hx hb dX11_readLine_50 rfl (lv_at hl 0 rfl) ?_
      refine rw_if_eq (tgt := 71) hx hb dX11_readLine_51 (by decide) (by decide) (fun _ => ?_) (fun c => absurd (by decide) c)
      refine lv_aload_n hx hb dX11_readLine_71 rfl (lv_at hl 2 rfl) ?_
      refine lv_dup hx hb dX11_readLine_72 rfl ?_
      refine rw_getI hx hb hts hown hW 0 lm_0 5 5 rfl rfl fX11_124 dX11_readLine_73 (v := (M 0 5)) rfl ?_
      refine rw_iconst hx hb dX11_readLine_76 ?_
      refine lv_iload_n hx hb dX11_readLine_77 rfl (lv_at hl 1 rfl) ?_
      refine rw_shl1 hx hb dX11_readLine_78 (by omega) (by omega) ?_
      refine rw_ior hx hb dX11_readLine_79 ?_
      refine rw_putI hx hb hts hown hW 0 lm_0 5 5 rfl rfl qX11_124 (v := bor (M 0 5) (pow2 6)) dX11_readLine_80 (fun H locs hW => ?_)
      obtain ⟨M167, hM167⟩ : ∃ z, z = upd2 M 0 5 (bor (M 0 5) (pow2 6)) := ⟨_, rfl⟩
      rw [← hM167] at hW
      refine lv_aload_n hx hb dX11_readLine_83 rfl (lv_at hl 2 rfl) ?_
      have hSm : Sk M0 M167 (nextX (M0 4) (M0 0 9) x) := by rw [hM167]; exact hS.onceN (l := 6) (by decide) rfl
      have hSmf := hSm.n.f
      refine rw_callV hx hb hml hts hown hW ⟨Nat.le_refl 0, Nat.le_refl 0⟩ [] 0 lm_0 rfl (c_X11_step (l := l) (G := G) (ad := ad) (CA := CA) (nt := nt) (by omega) M167 hSmf.2.2.1 hSmf.2.2.2 hSmf.1 hSmf.2.1) kX11_95 rfl ⟨Nat.le_of_ble_eq_true rfl, Nat.le_of_ble_eq_true rfl⟩ hl.1 rfl (Nat.le_of_ble_eq_true rfl) dX11_readLine_84 (fun v168 M169 H locs hp170 hW => ?_)
      obtain ⟨rfl, hM169⟩ := hp170
      refine rw_stk (st' := []) rfl ?_
      have hSs := hSm.n.step hM169
      refine lv_iload_n hx hb dX11_readLine_87 rfl (lv_at hl 0 rfl) ?_
      refine rw_if_eq (tgt := 99) hx hb dX11_readLine_88 (by decide) (by decide) (fun _ => ?_) (fun c => absurd (by decide) c)
      refine lv_aload_n hx hb dX11_readLine_99 rfl (lv_at hl 2 rfl) ?_
      refine lv_iload_n hx hb dX11_readLine_100 rfl (lv_at hl 1 rfl) ?_
      refine rw_callV hx hb hml hts hown hW ⟨Nat.le_refl 0, Nat.le_refl 0⟩ [.int (iN 6)] 0 lm_0 rfl (c_X11_readOf (l := l) (G := G) (ad := ad) (CA := CA) (nt := nt) (by omega) 6 (by first | omega | decide) M0 (nextX (M0 4) (M0 0 9) x) M169 hSs) kX11_130 rfl ⟨Nat.le_of_ble_eq_true rfl, Nat.le_of_ble_eq_true rfl⟩ hl.1 rfl (Nat.le_of_ble_eq_true rfl) dX11_readLine_101 (fun v171 M172 H locs hp173 hW => ?_)
      obtain ⟨rfl, hM172⟩ := hp173
      refine rw_stk (st' := []) rfl ?_
      have hSb : Sk M0 M172 (nextX (M0 4) (M0 0 9) (bodyX (M0 4) (M0 0 9) (nextX (M0 4) (M0 0 9) x))) := by rw [body_of _ _ (l := 6) (hwd.1.trans (if_pos (by decide))) (by decide)]; exact hM172
      have hSbf := hSb.f
      have hSbk := hSb.2.1.2.1
      refine lv_aload_n hx hb dX11_readLine_104 rfl (lv_at hl 2 rfl) ?_
      refine rw_getI hx hb hts hown hW 0 lm_0 11 11 rfl rfl fX11_61 dX11_readLine_105 (v := (M172 0 11)) rfl ?_
      refine rw_if_ne (tgt := 124) hx hb dX11_readLine_108 (by decide) (by omega) (fun c_108 => ?_) (fun c_108 => ?_)
      · have hSg := hSb.sign (Or.inl ⟨rfl, Or.inl c_108⟩)
        have hSgf := hSg.n.f
        refine lv_aload_n hx hb dX11_readLine_124 rfl (lv_at hl 2 rfl) ?_
        refine rw_callV hx hb hml hts hown hW ⟨Nat.le_refl 0, Nat.le_refl 0⟩ [] 0 lm_0 rfl (c_X11_step (l := l) (G := G) (ad := ad) (CA := CA) (nt := nt) (by omega) M172 hSgf.2.2.1 hSgf.2.2.2 hSgf.1 hSgf.2.1) kX11_95 rfl ⟨Nat.le_of_ble_eq_true rfl, Nat.le_of_ble_eq_true rfl⟩ hl.1 rfl (Nat.le_of_ble_eq_true rfl) dX11_readLine_125 (fun v174 M175 H locs hp176 hW => ?_)
        obtain ⟨rfl, hM175⟩ := hp176
        refine rw_stk (st' := []) rfl ?_
        refine rw_vret hx hb hr hlocks hW dX11_readLine_128 (⟨rfl, ?_⟩)
        exact hSg.n.step hM175
      · refine lv_aload_n hx hb dX11_readLine_111 rfl (lv_at hl 2 rfl) ?_
        refine rw_getI hx hb hts hown hW 0 lm_0 15 15 rfl rfl fX11_70 dX11_readLine_112 (v := (M172 0 15)) rfl ?_
        refine rw_iconst hx hb dX11_readLine_115 ?_
        refine rw_icmp_eq (tgt := 124) hx hb dX11_readLine_116 (by decide) (by omega) (by decide) (fun c_116 => ?_) (fun c_116 => ?_)
        · have hSg := hSb.sign (Or.inl ⟨rfl, Or.inr c_116⟩)
          have hSgf := hSg.n.f
          refine lv_aload_n hx hb dX11_readLine_124 rfl (lv_at hl 2 rfl) ?_
          refine rw_callV hx hb hml hts hown hW ⟨Nat.le_refl 0, Nat.le_refl 0⟩ [] 0 lm_0 rfl (c_X11_step (l := l) (G := G) (ad := ad) (CA := CA) (nt := nt) (by omega) M172 hSgf.2.2.1 hSgf.2.2.2 hSgf.1 hSgf.2.1) kX11_95 rfl ⟨Nat.le_of_ble_eq_true rfl, Nat.le_of_ble_eq_true rfl⟩ hl.1 rfl (Nat.le_of_ble_eq_true rfl) dX11_readLine_125 (fun v177 M178 H locs hp179 hW => ?_)
          obtain ⟨rfl, hM178⟩ := hp179
          refine rw_stk (st' := []) rfl ?_
          refine rw_vret hx hb hr hlocks hW dX11_readLine_128 (⟨rfl, ?_⟩)
          exact hSg.n.step hM178
        · refine lv_aload_n hx hb dX11_readLine_119 rfl (lv_at hl 2 rfl) ?_
          refine rw_iconst hx hb dX11_readLine_120 ?_
          refine rw_callV hx hb hml hts hown hW ⟨Nat.le_refl 0, Nat.le_refl 0⟩ [.int (iN 2)] 0 lm_0 rfl (c_X11_fails (l := l) (G := G) (ad := ad) (CA := CA) (nt := nt) (by omega) 2 M172 hSbf) kX11_91 rfl ⟨Nat.le_of_ble_eq_true rfl, Nat.le_of_ble_eq_true rfl⟩ hl.1 rfl (Nat.le_of_ble_eq_true rfl) dX11_readLine_121 (fun v180 M181 H locs hp182 hW => ?_)
          obtain ⟨rfl, hM181⟩ := hp182
          refine rw_stk (st' := []) rfl ?_
          have hSg := hSb.sign (Or.inr ⟨by omega, by omega, hM181⟩)
          have hSgf := hSg.n.f
          refine lv_aload_n hx hb dX11_readLine_124 rfl (lv_at hl 2 rfl) ?_
          refine rw_callV hx hb hml hts hown hW ⟨Nat.le_refl 0, Nat.le_refl 0⟩ [] 0 lm_0 rfl (c_X11_step (l := l) (G := G) (ad := ad) (CA := CA) (nt := nt) (by omega) M181 hSgf.2.2.1 hSgf.2.2.2 hSgf.1 hSgf.2.1) kX11_95 rfl ⟨Nat.le_of_ble_eq_true rfl, Nat.le_of_ble_eq_true rfl⟩ hl.1 rfl (Nat.le_of_ble_eq_true rfl) dX11_readLine_125 (fun v183 M184 H locs hp185 hW => ?_)
          obtain ⟨rfl, hM184⟩ := hp185
          refine rw_stk (st' := []) rfl ?_
          refine rw_vret hx hb hr hlocks hW dX11_readLine_128 (⟨rfl, ?_⟩)
          exact hSg.n.step hM184
    · refine rw_stk (st' := [.int (iN 1)]) rfl ?_
      refine rw_if_ne (tgt := 23) hx hb dX11_readLine_14 (by decide) (by decide) (fun _ => ?_) (fun c => absurd c (by decide))
      refine lv_iload_n hx hb dX11_readLine_23 rfl (lv_at hl 0 rfl) ?_
      refine rw_if_eq (tgt := 44) hx hb dX11_readLine_24 (by decide) (by decide) (fun c => absurd c (by decide)) (fun _ => ?_)
      refine lv_iload_n hx hb dX11_readLine_27 rfl (lv_at hl 0 rfl) ?_
      refine rw_iconst hx hb dX11_readLine_28 ?_
      refine rw_icmp_eq (tgt := 44) hx hb dX11_readLine_29 (by decide) (by decide) (by decide) (fun c => absurd c (by decide)) (fun _ => ?_)
      refine lv_iload_n hx hb dX11_readLine_32 rfl (lv_at hl 0 rfl) ?_
      refine rw_bipush hx hb dX11_readLine_33 (by decide) ?_
      refine rw_icmp_eq (tgt := 44) hx hb dX11_readLine_35 (by decide) (by decide) (by decide) (fun _ => ?_) (fun c => absurd (by decide) c)
      refine rw_iconst hx hb dX11_readLine_44 ?_
      refine lv_goto (tgt := 49) hx hb dX11_readLine_45 (by decide) ?_
      refine lv_istore_n (lv' := [(2, .int (iN 1)), (1, .int (iN 7)), (0, .ref (ad 0))]) hx hb dX11_readLine_49 rfl hl (by decide) rfl (fun ls hl => ?_)
      refine lv_iload_n hx hb dX11_readLine_50 rfl (lv_at hl 0 rfl) ?_
      refine rw_if_eq (tgt := 71) hx hb dX11_readLine_51 (by decide) (by decide) (fun c => absurd c (by decide)) (fun _ => ?_)
      refine lv_aload_n hx hb dX11_readLine_54 rfl (lv_at hl 2 rfl) ?_
      refine rw_getI hx hb hts hown hW 0 lm_0 5 5 rfl rfl fX11_124 dX11_readLine_55 (v := (M 0 5)) rfl ?_
      refine lv_iload_n hx hb dX11_readLine_58 rfl (lv_at hl 1 rfl) ?_
      refine rw_ishr hx hb dX11_readLine_59 (by omega) (by omega) (by omega) (by omega) ?_
      refine rw_iconst hx hb dX11_readLine_60 ?_
      obtain ⟨qq, hqq⟩ : ∃ z, z = M 0 5 / pow2 7 := ⟨_, rfl⟩
      rw [← hqq]
      have hq0 : 0 ≤ qq ∧ qq ≤ 511 := by rw [hqq]; exact div_pow2_rng hS.1.2.2.1 (by decide)
      refine rw_iand hx hb dX11_readLine_61 ?_
      rw [band_one hq0.1 (by omega)]
      refine rw_iconst hx hb dX11_readLine_62 ?_
      refine rw_icmp_ne (tgt := 71) hx hb dX11_readLine_63 (by decide) (by omega) (by decide) (fun c_63 => ?_) (fun c_63 => ?_)
      · refine lv_aload_n hx hb dX11_readLine_71 rfl (lv_at hl 2 rfl) ?_
        refine lv_dup hx hb dX11_readLine_72 rfl ?_
        refine rw_getI hx hb hts hown hW 0 lm_0 5 5 rfl rfl fX11_124 dX11_readLine_73 (v := (M 0 5)) rfl ?_
        refine rw_iconst hx hb dX11_readLine_76 ?_
        refine lv_iload_n hx hb dX11_readLine_77 rfl (lv_at hl 1 rfl) ?_
        refine rw_shl1 hx hb dX11_readLine_78 (by omega) (by omega) ?_
        refine rw_ior hx hb dX11_readLine_79 ?_
        refine rw_putI hx hb hts hown hW 0 lm_0 5 5 rfl rfl qX11_124 (v := bor (M 0 5) (pow2 7)) dX11_readLine_80 (fun H locs hW => ?_)
        obtain ⟨M186, hM186⟩ : ∃ z, z = upd2 M 0 5 (bor (M 0 5) (pow2 7)) := ⟨_, rfl⟩
        rw [← hM186] at hW
        refine lv_aload_n hx hb dX11_readLine_83 rfl (lv_at hl 2 rfl) ?_
        have hSm : Sk M0 M186 (markX (M0 4) (M0 0 9) 7 0 (nextX (M0 4) (M0 0 9) x)) := by rw [hM186]; exact hS.onceM (l := 7) (by decide) h0 (Or.inl ⟨by rw [← hqq]; omega, rfl⟩) rfl
        have hSmf := hSm.n.f
        refine rw_callV hx hb hml hts hown hW ⟨Nat.le_refl 0, Nat.le_refl 0⟩ [] 0 lm_0 rfl (c_X11_step (l := l) (G := G) (ad := ad) (CA := CA) (nt := nt) (by omega) M186 hSmf.2.2.1 hSmf.2.2.2 hSmf.1 hSmf.2.1) kX11_95 rfl ⟨Nat.le_of_ble_eq_true rfl, Nat.le_of_ble_eq_true rfl⟩ hl.1 rfl (Nat.le_of_ble_eq_true rfl) dX11_readLine_84 (fun v187 M188 H locs hp189 hW => ?_)
        obtain ⟨rfl, hM188⟩ := hp189
        refine rw_stk (st' := []) rfl ?_
        have hSs := hSm.n.step hM188
        refine lv_iload_n hx hb dX11_readLine_87 rfl (lv_at hl 0 rfl) ?_
        refine rw_if_eq (tgt := 99) hx hb dX11_readLine_88 (by decide) (by decide) (fun c => absurd c (by decide)) (fun _ => ?_)
        refine lv_aload_n hx hb dX11_readLine_91 rfl (lv_at hl 2 rfl) ?_
        refine lv_iload_n hx hb dX11_readLine_92 rfl (lv_at hl 1 rfl) ?_
        refine rw_callV hx hb hml hts hown hW ⟨Nat.le_refl 0, Nat.le_refl 0⟩ [.int (iN 7)] 0 lm_0 rfl (c_X11_readOnce (l := l) (G := G) (ad := ad) (CA := CA) (nt := nt) (by omega) 7 (by first | omega | decide) M0 (markX (M0 4) (M0 0 9) 7 0 (nextX (M0 4) (M0 0 9) x)) M188 hSs) kX11_127 rfl ⟨Nat.le_of_ble_eq_true rfl, Nat.le_of_ble_eq_true rfl⟩ hl.1 rfl (Nat.le_of_ble_eq_true rfl) dX11_readLine_93 (fun v190 M191 H locs hp192 hW => ?_)
        obtain ⟨rfl, hM191⟩ := hp192
        refine rw_stk (st' := []) rfl ?_
        refine lv_goto (tgt := 104) hx hb dX11_readLine_96 (by decide) ?_
        have hSb : Sk M0 M191 (nextX (M0 4) (M0 0 9) (bodyX (M0 4) (M0 0 9) (nextX (M0 4) (M0 0 9) x))) := by rw [body_on _ _ (l := 7) (hwd.1.trans (if_pos (by decide))) (by decide)]; exact hM191
        have hSbf := hSb.f
        have hSbk := hSb.2.1.2.1
        refine lv_aload_n hx hb dX11_readLine_104 rfl (lv_at hl 2 rfl) ?_
        refine rw_getI hx hb hts hown hW 0 lm_0 11 11 rfl rfl fX11_61 dX11_readLine_105 (v := (M191 0 11)) rfl ?_
        refine rw_if_ne (tgt := 124) hx hb dX11_readLine_108 (by decide) (by omega) (fun c_108 => ?_) (fun c_108 => ?_)
        · have hSg := hSb.sign (Or.inl ⟨rfl, Or.inl c_108⟩)
          have hSgf := hSg.n.f
          refine lv_aload_n hx hb dX11_readLine_124 rfl (lv_at hl 2 rfl) ?_
          refine rw_callV hx hb hml hts hown hW ⟨Nat.le_refl 0, Nat.le_refl 0⟩ [] 0 lm_0 rfl (c_X11_step (l := l) (G := G) (ad := ad) (CA := CA) (nt := nt) (by omega) M191 hSgf.2.2.1 hSgf.2.2.2 hSgf.1 hSgf.2.1) kX11_95 rfl ⟨Nat.le_of_ble_eq_true rfl, Nat.le_of_ble_eq_true rfl⟩ hl.1 rfl (Nat.le_of_ble_eq_true rfl) dX11_readLine_125 (fun v193 M194 H locs hp195 hW => ?_)
          obtain ⟨rfl, hM194⟩ := hp195
          refine rw_stk (st' := []) rfl ?_
          refine rw_vret hx hb hr hlocks hW dX11_readLine_128 (⟨rfl, ?_⟩)
          exact hSg.n.step hM194
        · refine lv_aload_n hx hb dX11_readLine_111 rfl (lv_at hl 2 rfl) ?_
          refine rw_getI hx hb hts hown hW 0 lm_0 15 15 rfl rfl fX11_70 dX11_readLine_112 (v := (M191 0 15)) rfl ?_
          refine rw_iconst hx hb dX11_readLine_115 ?_
          refine rw_icmp_eq (tgt := 124) hx hb dX11_readLine_116 (by decide) (by omega) (by decide) (fun c_116 => ?_) (fun c_116 => ?_)
          · have hSg := hSb.sign (Or.inl ⟨rfl, Or.inr c_116⟩)
            have hSgf := hSg.n.f
            refine lv_aload_n hx hb dX11_readLine_124 rfl (lv_at hl 2 rfl) ?_
            refine rw_callV hx hb hml hts hown hW ⟨Nat.le_refl 0, Nat.le_refl 0⟩ [] 0 lm_0 rfl (c_X11_step (l := l) (G := G) (ad := ad) (CA := CA) (nt := nt) (by omega) M191 hSgf.2.2.1 hSgf.2.2.2 hSgf.1 hSgf.2.1) kX11_95 rfl ⟨Nat.le_of_ble_eq_true rfl, Nat.le_of_ble_eq_true rfl⟩ hl.1 rfl (Nat.le_of_ble_eq_true rfl) dX11_readLine_125 (fun v196 M197 H locs hp198 hW => ?_)
            obtain ⟨rfl, hM197⟩ := hp198
            refine rw_stk (st' := []) rfl ?_
            refine rw_vret hx hb hr hlocks hW dX11_readLine_128 (⟨rfl, ?_⟩)
            exact hSg.n.step hM197
          · refine lv_aload_n hx hb dX11_readLine_119 rfl (lv_at hl 2 rfl) ?_
            refine rw_iconst hx hb dX11_readLine_120 ?_
            refine rw_callV hx hb hml hts hown hW ⟨Nat.le_refl 0, Nat.le_refl 0⟩ [.int (iN 2)] 0 lm_0 rfl (c_X11_fails (l := l) (G := G) (ad := ad) (CA := CA) (nt := nt) (by omega) 2 M191 hSbf) kX11_91 rfl ⟨Nat.le_of_ble_eq_true rfl, Nat.le_of_ble_eq_true rfl⟩ hl.1 rfl (Nat.le_of_ble_eq_true rfl) dX11_readLine_121 (fun v199 M200 H locs hp201 hW => ?_)
            obtain ⟨rfl, hM200⟩ := hp201
            refine rw_stk (st' := []) rfl ?_
            have hSg := hSb.sign (Or.inr ⟨by omega, by omega, hM200⟩)
            have hSgf := hSg.n.f
            refine lv_aload_n hx hb dX11_readLine_124 rfl (lv_at hl 2 rfl) ?_
            refine rw_callV hx hb hml hts hown hW ⟨Nat.le_refl 0, Nat.le_refl 0⟩ [] 0 lm_0 rfl (c_X11_step (l := l) (G := G) (ad := ad) (CA := CA) (nt := nt) (by omega) M200 hSgf.2.2.1 hSgf.2.2.2 hSgf.1 hSgf.2.1) kX11_95 rfl ⟨Nat.le_of_ble_eq_true rfl, Nat.le_of_ble_eq_true rfl⟩ hl.1 rfl (Nat.le_of_ble_eq_true rfl) dX11_readLine_125 (fun v202 M203 H locs hp204 hW => ?_)
            obtain ⟨rfl, hM203⟩ := hp204
            refine rw_stk (st' := []) rfl ?_
            refine rw_vret hx hb hr hlocks hW dX11_readLine_128 (⟨rfl, ?_⟩)
            exact hSg.n.step hM203
      · refine lv_aload_n hx hb dX11_readLine_66 rfl (lv_at hl 2 rfl) ?_
        refine rw_iconst hx hb dX11_readLine_67 ?_
        refine rw_callV hx hb hml hts hown hW ⟨Nat.le_refl 0, Nat.le_refl 0⟩ [.int (iN 4)] 0 lm_0 rfl (c_X11_fails (l := l) (G := G) (ad := ad) (CA := CA) (nt := nt) (by omega) 4 M (by first | omega | decide)) kX11_91 rfl ⟨Nat.le_of_ble_eq_true rfl, Nat.le_of_ble_eq_true rfl⟩ hl.1 rfl (Nat.le_of_ble_eq_true rfl) dX11_readLine_68 (fun v205 M206 H locs hp207 hW => ?_)
        obtain ⟨rfl, hM206⟩ := hp207
        refine rw_stk (st' := []) rfl ?_
        have h5r := (hS.fail (f := 4) (by decide) hM206).1.2.2.1
        refine lv_aload_n hx hb dX11_readLine_71 rfl (lv_at hl 2 rfl) ?_
        refine lv_dup hx hb dX11_readLine_72 rfl ?_
        refine rw_getI hx hb hts hown hW 0 lm_0 5 5 rfl rfl fX11_124 dX11_readLine_73 (v := (M206 0 5)) rfl ?_
        refine rw_iconst hx hb dX11_readLine_76 ?_
        refine lv_iload_n hx hb dX11_readLine_77 rfl (lv_at hl 1 rfl) ?_
        refine rw_shl1 hx hb dX11_readLine_78 (by omega) (by omega) ?_
        refine rw_ior hx hb dX11_readLine_79 ?_
        refine rw_putI hx hb hts hown hW 0 lm_0 5 5 rfl rfl qX11_124 (v := bor (M206 0 5) (pow2 7)) dX11_readLine_80 (fun H locs hW => ?_)
        obtain ⟨M208, hM208⟩ : ∃ z, z = upd2 M206 0 5 (bor (M206 0 5) (pow2 7)) := ⟨_, rfl⟩
        rw [← hM208] at hW
        refine lv_aload_n hx hb dX11_readLine_83 rfl (lv_at hl 2 rfl) ?_
        have hSm : Sk M0 M208 (markX (M0 4) (M0 0 9) 7 0 (nextX (M0 4) (M0 0 9) x)) := by rw [hM208]; exact hS.onceM (l := 7) (by decide) h0 (Or.inr ⟨by rw [← hqq]; omega, hM206⟩) rfl
        have hSmf := hSm.n.f
        refine rw_callV hx hb hml hts hown hW ⟨Nat.le_refl 0, Nat.le_refl 0⟩ [] 0 lm_0 rfl (c_X11_step (l := l) (G := G) (ad := ad) (CA := CA) (nt := nt) (by omega) M208 hSmf.2.2.1 hSmf.2.2.2 hSmf.1 hSmf.2.1) kX11_95 rfl ⟨Nat.le_of_ble_eq_true rfl, Nat.le_of_ble_eq_true rfl⟩ hl.1 rfl (Nat.le_of_ble_eq_true rfl) dX11_readLine_84 (fun v209 M210 H locs hp211 hW => ?_)
        obtain ⟨rfl, hM210⟩ := hp211
        refine rw_stk (st' := []) rfl ?_
        have hSs := hSm.n.step hM210
        refine lv_iload_n hx hb dX11_readLine_87 rfl (lv_at hl 0 rfl) ?_
        refine rw_if_eq (tgt := 99) hx hb dX11_readLine_88 (by decide) (by decide) (fun c => absurd c (by decide)) (fun _ => ?_)
        refine lv_aload_n hx hb dX11_readLine_91 rfl (lv_at hl 2 rfl) ?_
        refine lv_iload_n hx hb dX11_readLine_92 rfl (lv_at hl 1 rfl) ?_
        refine rw_callV hx hb hml hts hown hW ⟨Nat.le_refl 0, Nat.le_refl 0⟩ [.int (iN 7)] 0 lm_0 rfl (c_X11_readOnce (l := l) (G := G) (ad := ad) (CA := CA) (nt := nt) (by omega) 7 (by first | omega | decide) M0 (markX (M0 4) (M0 0 9) 7 0 (nextX (M0 4) (M0 0 9) x)) M210 hSs) kX11_127 rfl ⟨Nat.le_of_ble_eq_true rfl, Nat.le_of_ble_eq_true rfl⟩ hl.1 rfl (Nat.le_of_ble_eq_true rfl) dX11_readLine_93 (fun v212 M213 H locs hp214 hW => ?_)
        obtain ⟨rfl, hM213⟩ := hp214
        refine rw_stk (st' := []) rfl ?_
        refine lv_goto (tgt := 104) hx hb dX11_readLine_96 (by decide) ?_
        have hSb : Sk M0 M213 (nextX (M0 4) (M0 0 9) (bodyX (M0 4) (M0 0 9) (nextX (M0 4) (M0 0 9) x))) := by rw [body_on _ _ (l := 7) (hwd.1.trans (if_pos (by decide))) (by decide)]; exact hM213
        have hSbf := hSb.f
        have hSbk := hSb.2.1.2.1
        refine lv_aload_n hx hb dX11_readLine_104 rfl (lv_at hl 2 rfl) ?_
        refine rw_getI hx hb hts hown hW 0 lm_0 11 11 rfl rfl fX11_61 dX11_readLine_105 (v := (M213 0 11)) rfl ?_
        refine rw_if_ne (tgt := 124) hx hb dX11_readLine_108 (by decide) (by omega) (fun c_108 => ?_) (fun c_108 => ?_)
        · have hSg := hSb.sign (Or.inl ⟨rfl, Or.inl c_108⟩)
          have hSgf := hSg.n.f
          refine lv_aload_n hx hb dX11_readLine_124 rfl (lv_at hl 2 rfl) ?_
          refine rw_callV hx hb hml hts hown hW ⟨Nat.le_refl 0, Nat.le_refl 0⟩ [] 0 lm_0 rfl (c_X11_step (l := l) (G := G) (ad := ad) (CA := CA) (nt := nt) (by omega) M213 hSgf.2.2.1 hSgf.2.2.2 hSgf.1 hSgf.2.1) kX11_95 rfl ⟨Nat.le_of_ble_eq_true rfl, Nat.le_of_ble_eq_true rfl⟩ hl.1 rfl (Nat.le_of_ble_eq_true rfl) dX11_readLine_125 (fun v215 M216 H locs hp217 hW => ?_)
          obtain ⟨rfl, hM216⟩ := hp217
          refine rw_stk (st' := []) rfl ?_
          refine rw_vret hx hb hr hlocks hW dX11_readLine_128 (⟨rfl, ?_⟩)
          exact hSg.n.step hM216
        · refine lv_aload_n hx hb dX11_readLine_111 rfl (lv_at hl 2 rfl) ?_
          refine rw_getI hx hb hts hown hW 0 lm_0 15 15 rfl rfl fX11_70 dX11_readLine_112 (v := (M213 0 15)) rfl ?_
          refine rw_iconst hx hb dX11_readLine_115 ?_
          refine rw_icmp_eq (tgt := 124) hx hb dX11_readLine_116 (by decide) (by omega) (by decide) (fun c_116 => ?_) (fun c_116 => ?_)
          · have hSg := hSb.sign (Or.inl ⟨rfl, Or.inr c_116⟩)
            have hSgf := hSg.n.f
            refine lv_aload_n hx hb dX11_readLine_124 rfl (lv_at hl 2 rfl) ?_
            refine rw_callV hx hb hml hts hown hW ⟨Nat.le_refl 0, Nat.le_refl 0⟩ [] 0 lm_0 rfl (c_X11_step (l := l) (G := G) (ad := ad) (CA := CA) (nt := nt) (by omega) M213 hSgf.2.2.1 hSgf.2.2.2 hSgf.1 hSgf.2.1) kX11_95 rfl ⟨Nat.le_of_ble_eq_true rfl, Nat.le_of_ble_eq_true rfl⟩ hl.1 rfl (Nat.le_of_ble_eq_true rfl) dX11_readLine_125 (fun v218 M219 H locs hp220 hW => ?_)
            obtain ⟨rfl, hM219⟩ := hp220
            refine rw_stk (st' := []) rfl ?_
            refine rw_vret hx hb hr hlocks hW dX11_readLine_128 (⟨rfl, ?_⟩)
            exact hSg.n.step hM219
          · refine lv_aload_n hx hb dX11_readLine_119 rfl (lv_at hl 2 rfl) ?_
            refine rw_iconst hx hb dX11_readLine_120 ?_
            refine rw_callV hx hb hml hts hown hW ⟨Nat.le_refl 0, Nat.le_refl 0⟩ [.int (iN 2)] 0 lm_0 rfl (c_X11_fails (l := l) (G := G) (ad := ad) (CA := CA) (nt := nt) (by omega) 2 M213 hSbf) kX11_91 rfl ⟨Nat.le_of_ble_eq_true rfl, Nat.le_of_ble_eq_true rfl⟩ hl.1 rfl (Nat.le_of_ble_eq_true rfl) dX11_readLine_121 (fun v221 M222 H locs hp223 hW => ?_)
            obtain ⟨rfl, hM222⟩ := hp223
            refine rw_stk (st' := []) rfl ?_
            have hSg := hSb.sign (Or.inr ⟨by omega, by omega, hM222⟩)
            have hSgf := hSg.n.f
            refine lv_aload_n hx hb dX11_readLine_124 rfl (lv_at hl 2 rfl) ?_
            refine rw_callV hx hb hml hts hown hW ⟨Nat.le_refl 0, Nat.le_refl 0⟩ [] 0 lm_0 rfl (c_X11_step (l := l) (G := G) (ad := ad) (CA := CA) (nt := nt) (by omega) M222 hSgf.2.2.1 hSgf.2.2.2 hSgf.1 hSgf.2.1) kX11_95 rfl ⟨Nat.le_of_ble_eq_true rfl, Nat.le_of_ble_eq_true rfl⟩ hl.1 rfl (Nat.le_of_ble_eq_true rfl) dX11_readLine_125 (fun v224 M225 H locs hp226 hW => ?_)
            obtain ⟨rfl, hM225⟩ := hp226
            refine rw_stk (st' := []) rfl ?_
            refine rw_vret hx hb hr hlocks hW dX11_readLine_128 (⟨rfl, ?_⟩)
            exact hSg.n.step hM225
    · refine rw_stk (st' := [.int (iN 1)]) rfl ?_
      refine rw_if_ne (tgt := 23) hx hb dX11_readLine_14 (by decide) (by decide) (fun _ => ?_) (fun c => absurd c (by decide))
      refine lv_iload_n hx hb dX11_readLine_23 rfl (lv_at hl 0 rfl) ?_
      refine rw_if_eq (tgt := 44) hx hb dX11_readLine_24 (by decide) (by decide) (fun c => absurd c (by decide)) (fun _ => ?_)
      refine lv_iload_n hx hb dX11_readLine_27 rfl (lv_at hl 0 rfl) ?_
      refine rw_iconst hx hb dX11_readLine_28 ?_
      refine rw_icmp_eq (tgt := 44) hx hb dX11_readLine_29 (by decide) (by decide) (by decide) (fun c => absurd c (by decide)) (fun _ => ?_)
      refine lv_iload_n hx hb dX11_readLine_32 rfl (lv_at hl 0 rfl) ?_
      refine rw_bipush hx hb dX11_readLine_33 (by decide) ?_
      refine rw_icmp_eq (tgt := 44) hx hb dX11_readLine_35 (by decide) (by decide) (by decide) (fun c => absurd c (by decide)) (fun _ => ?_)
      refine lv_iload_n hx hb dX11_readLine_38 rfl (lv_at hl 0 rfl) ?_
      refine rw_bipush hx hb dX11_readLine_39 (by decide) ?_
      refine rw_icmp_ne (tgt := 48) hx hb dX11_readLine_41 (by decide) (by decide) (by decide) (fun c => absurd c (by decide)) (fun _ => ?_)
      refine rw_iconst hx hb dX11_readLine_44 ?_
      refine lv_goto (tgt := 49) hx hb dX11_readLine_45 (by decide) ?_
      refine lv_istore_n (lv' := [(2, .int (iN 1)), (1, .int (iN 8)), (0, .ref (ad 0))]) hx hb dX11_readLine_49 rfl hl (by decide) rfl (fun ls hl => ?_)
      refine lv_iload_n hx hb dX11_readLine_50 rfl (lv_at hl 0 rfl) ?_
      refine rw_if_eq (tgt := 71) hx hb dX11_readLine_51 (by decide) (by decide) (fun c => absurd c (by decide)) (fun _ => ?_)
      refine lv_aload_n hx hb dX11_readLine_54 rfl (lv_at hl 2 rfl) ?_
      refine rw_getI hx hb hts hown hW 0 lm_0 5 5 rfl rfl fX11_124 dX11_readLine_55 (v := (M 0 5)) rfl ?_
      refine lv_iload_n hx hb dX11_readLine_58 rfl (lv_at hl 1 rfl) ?_
      refine rw_ishr hx hb dX11_readLine_59 (by omega) (by omega) (by omega) (by omega) ?_
      refine rw_iconst hx hb dX11_readLine_60 ?_
      obtain ⟨qq, hqq⟩ : ∃ z, z = M 0 5 / pow2 8 := ⟨_, rfl⟩
      rw [← hqq]
      have hq0 : 0 ≤ qq ∧ qq ≤ 511 := by rw [hqq]; exact div_pow2_rng hS.1.2.2.1 (by decide)
      refine rw_iand hx hb dX11_readLine_61 ?_
      rw [band_one hq0.1 (by omega)]
      refine rw_iconst hx hb dX11_readLine_62 ?_
      refine rw_icmp_ne (tgt := 71) hx hb dX11_readLine_63 (by decide) (by omega) (by decide) (fun c_63 => ?_) (fun c_63 => ?_)
      · refine lv_aload_n hx hb dX11_readLine_71 rfl (lv_at hl 2 rfl) ?_
        refine lv_dup hx hb dX11_readLine_72 rfl ?_
        refine rw_getI hx hb hts hown hW 0 lm_0 5 5 rfl rfl fX11_124 dX11_readLine_73 (v := (M 0 5)) rfl ?_
        refine rw_iconst hx hb dX11_readLine_76 ?_
        refine lv_iload_n hx hb dX11_readLine_77 rfl (lv_at hl 1 rfl) ?_
        refine rw_shl1 hx hb dX11_readLine_78 (by omega) (by omega) ?_
        refine rw_ior hx hb dX11_readLine_79 ?_
        refine rw_putI hx hb hts hown hW 0 lm_0 5 5 rfl rfl qX11_124 (v := bor (M 0 5) (pow2 8)) dX11_readLine_80 (fun H locs hW => ?_)
        obtain ⟨M227, hM227⟩ : ∃ z, z = upd2 M 0 5 (bor (M 0 5) (pow2 8)) := ⟨_, rfl⟩
        rw [← hM227] at hW
        refine lv_aload_n hx hb dX11_readLine_83 rfl (lv_at hl 2 rfl) ?_
        have hSm : Sk M0 M227 (markX (M0 4) (M0 0 9) 8 0 (nextX (M0 4) (M0 0 9) x)) := by rw [hM227]; exact hS.onceM (l := 8) (by decide) h0 (Or.inl ⟨by rw [← hqq]; omega, rfl⟩) rfl
        have hSmf := hSm.n.f
        refine rw_callV hx hb hml hts hown hW ⟨Nat.le_refl 0, Nat.le_refl 0⟩ [] 0 lm_0 rfl (c_X11_step (l := l) (G := G) (ad := ad) (CA := CA) (nt := nt) (by omega) M227 hSmf.2.2.1 hSmf.2.2.2 hSmf.1 hSmf.2.1) kX11_95 rfl ⟨Nat.le_of_ble_eq_true rfl, Nat.le_of_ble_eq_true rfl⟩ hl.1 rfl (Nat.le_of_ble_eq_true rfl) dX11_readLine_84 (fun v228 M229 H locs hp230 hW => ?_)
        obtain ⟨rfl, hM229⟩ := hp230
        refine rw_stk (st' := []) rfl ?_
        have hSs := hSm.n.step hM229
        refine lv_iload_n hx hb dX11_readLine_87 rfl (lv_at hl 0 rfl) ?_
        refine rw_if_eq (tgt := 99) hx hb dX11_readLine_88 (by decide) (by decide) (fun c => absurd c (by decide)) (fun _ => ?_)
        refine lv_aload_n hx hb dX11_readLine_91 rfl (lv_at hl 2 rfl) ?_
        refine lv_iload_n hx hb dX11_readLine_92 rfl (lv_at hl 1 rfl) ?_
        refine rw_callV hx hb hml hts hown hW ⟨Nat.le_refl 0, Nat.le_refl 0⟩ [.int (iN 8)] 0 lm_0 rfl (c_X11_readOnce (l := l) (G := G) (ad := ad) (CA := CA) (nt := nt) (by omega) 8 (by first | omega | decide) M0 (markX (M0 4) (M0 0 9) 8 0 (nextX (M0 4) (M0 0 9) x)) M229 hSs) kX11_127 rfl ⟨Nat.le_of_ble_eq_true rfl, Nat.le_of_ble_eq_true rfl⟩ hl.1 rfl (Nat.le_of_ble_eq_true rfl) dX11_readLine_93 (fun v231 M232 H locs hp233 hW => ?_)
        obtain ⟨rfl, hM232⟩ := hp233
        refine rw_stk (st' := []) rfl ?_
        refine lv_goto (tgt := 104) hx hb dX11_readLine_96 (by decide) ?_
        have hSb : Sk M0 M232 (nextX (M0 4) (M0 0 9) (bodyX (M0 4) (M0 0 9) (nextX (M0 4) (M0 0 9) x))) := by rw [body_on _ _ (l := 8) (hwd.1.trans (if_pos (by decide))) (by decide)]; exact hM232
        have hSbf := hSb.f
        have hSbk := hSb.2.1.2.1
        refine lv_aload_n hx hb dX11_readLine_104 rfl (lv_at hl 2 rfl) ?_
        refine rw_getI hx hb hts hown hW 0 lm_0 11 11 rfl rfl fX11_61 dX11_readLine_105 (v := (M232 0 11)) rfl ?_
        refine rw_if_ne (tgt := 124) hx hb dX11_readLine_108 (by decide) (by omega) (fun c_108 => ?_) (fun c_108 => ?_)
        · have hSg := hSb.sign (Or.inl ⟨rfl, Or.inl c_108⟩)
          have hSgf := hSg.n.f
          refine lv_aload_n hx hb dX11_readLine_124 rfl (lv_at hl 2 rfl) ?_
          refine rw_callV hx hb hml hts hown hW ⟨Nat.le_refl 0, Nat.le_refl 0⟩ [] 0 lm_0 rfl (c_X11_step (l := l) (G := G) (ad := ad) (CA := CA) (nt := nt) (by omega) M232 hSgf.2.2.1 hSgf.2.2.2 hSgf.1 hSgf.2.1) kX11_95 rfl ⟨Nat.le_of_ble_eq_true rfl, Nat.le_of_ble_eq_true rfl⟩ hl.1 rfl (Nat.le_of_ble_eq_true rfl) dX11_readLine_125 (fun v234 M235 H locs hp236 hW => ?_)
          obtain ⟨rfl, hM235⟩ := hp236
          refine rw_stk (st' := []) rfl ?_
          refine rw_vret hx hb hr hlocks hW dX11_readLine_128 (⟨rfl, ?_⟩)
          exact hSg.n.step hM235
        · refine lv_aload_n hx hb dX11_readLine_111 rfl (lv_at hl 2 rfl) ?_
          refine rw_getI hx hb hts hown hW 0 lm_0 15 15 rfl rfl fX11_70 dX11_readLine_112 (v := (M232 0 15)) rfl ?_
          refine rw_iconst hx hb dX11_readLine_115 ?_
          refine rw_icmp_eq (tgt := 124) hx hb dX11_readLine_116 (by decide) (by omega) (by decide) (fun c_116 => ?_) (fun c_116 => ?_)
          · have hSg := hSb.sign (Or.inl ⟨rfl, Or.inr c_116⟩)
            have hSgf := hSg.n.f
            refine lv_aload_n hx hb dX11_readLine_124 rfl (lv_at hl 2 rfl) ?_
            refine rw_callV hx hb hml hts hown hW ⟨Nat.le_refl 0, Nat.le_refl 0⟩ [] 0 lm_0 rfl (c_X11_step (l := l) (G := G) (ad := ad) (CA := CA) (nt := nt) (by omega) M232 hSgf.2.2.1 hSgf.2.2.2 hSgf.1 hSgf.2.1) kX11_95 rfl ⟨Nat.le_of_ble_eq_true rfl, Nat.le_of_ble_eq_true rfl⟩ hl.1 rfl (Nat.le_of_ble_eq_true rfl) dX11_readLine_125 (fun v237 M238 H locs hp239 hW => ?_)
            obtain ⟨rfl, hM238⟩ := hp239
            refine rw_stk (st' := []) rfl ?_
            refine rw_vret hx hb hr hlocks hW dX11_readLine_128 (⟨rfl, ?_⟩)
            exact hSg.n.step hM238
          · refine lv_aload_n hx hb dX11_readLine_119 rfl (lv_at hl 2 rfl) ?_
            refine rw_iconst hx hb dX11_readLine_120 ?_
            refine rw_callV hx hb hml hts hown hW ⟨Nat.le_refl 0, Nat.le_refl 0⟩ [.int (iN 2)] 0 lm_0 rfl (c_X11_fails (l := l) (G := G) (ad := ad) (CA := CA) (nt := nt) (by omega) 2 M232 hSbf) kX11_91 rfl ⟨Nat.le_of_ble_eq_true rfl, Nat.le_of_ble_eq_true rfl⟩ hl.1 rfl (Nat.le_of_ble_eq_true rfl) dX11_readLine_121 (fun v240 M241 H locs hp242 hW => ?_)
            obtain ⟨rfl, hM241⟩ := hp242
            refine rw_stk (st' := []) rfl ?_
            have hSg := hSb.sign (Or.inr ⟨by omega, by omega, hM241⟩)
            have hSgf := hSg.n.f
            refine lv_aload_n hx hb dX11_readLine_124 rfl (lv_at hl 2 rfl) ?_
            refine rw_callV hx hb hml hts hown hW ⟨Nat.le_refl 0, Nat.le_refl 0⟩ [] 0 lm_0 rfl (c_X11_step (l := l) (G := G) (ad := ad) (CA := CA) (nt := nt) (by omega) M241 hSgf.2.2.1 hSgf.2.2.2 hSgf.1 hSgf.2.1) kX11_95 rfl ⟨Nat.le_of_ble_eq_true rfl, Nat.le_of_ble_eq_true rfl⟩ hl.1 rfl (Nat.le_of_ble_eq_true rfl) dX11_readLine_125 (fun v243 M244 H locs hp245 hW => ?_)
            obtain ⟨rfl, hM244⟩ := hp245
            refine rw_stk (st' := []) rfl ?_
            refine rw_vret hx hb hr hlocks hW dX11_readLine_128 (⟨rfl, ?_⟩)
            exact hSg.n.step hM244
      · refine lv_aload_n hx hb dX11_readLine_66 rfl (lv_at hl 2 rfl) ?_
        refine rw_iconst hx hb dX11_readLine_67 ?_
        refine rw_callV hx hb hml hts hown hW ⟨Nat.le_refl 0, Nat.le_refl 0⟩ [.int (iN 4)] 0 lm_0 rfl (c_X11_fails (l := l) (G := G) (ad := ad) (CA := CA) (nt := nt) (by omega) 4 M (by first | omega | decide)) kX11_91 rfl ⟨Nat.le_of_ble_eq_true rfl, Nat.le_of_ble_eq_true rfl⟩ hl.1 rfl (Nat.le_of_ble_eq_true rfl) dX11_readLine_68 (fun v246 M247 H locs hp248 hW => ?_)
        obtain ⟨rfl, hM247⟩ := hp248
        refine rw_stk (st' := []) rfl ?_
        have h5r := (hS.fail (f := 4) (by decide) hM247).1.2.2.1
        refine lv_aload_n hx hb dX11_readLine_71 rfl (lv_at hl 2 rfl) ?_
        refine lv_dup hx hb dX11_readLine_72 rfl ?_
        refine rw_getI hx hb hts hown hW 0 lm_0 5 5 rfl rfl fX11_124 dX11_readLine_73 (v := (M247 0 5)) rfl ?_
        refine rw_iconst hx hb dX11_readLine_76 ?_
        refine lv_iload_n hx hb dX11_readLine_77 rfl (lv_at hl 1 rfl) ?_
        refine rw_shl1 hx hb dX11_readLine_78 (by omega) (by omega) ?_
        refine rw_ior hx hb dX11_readLine_79 ?_
        refine rw_putI hx hb hts hown hW 0 lm_0 5 5 rfl rfl qX11_124 (v := bor (M247 0 5) (pow2 8)) dX11_readLine_80 (fun H locs hW => ?_)
        obtain ⟨M249, hM249⟩ : ∃ z, z = upd2 M247 0 5 (bor (M247 0 5) (pow2 8)) := ⟨_, rfl⟩
        rw [← hM249] at hW
        refine lv_aload_n hx hb dX11_readLine_83 rfl (lv_at hl 2 rfl) ?_
        have hSm : Sk M0 M249 (markX (M0 4) (M0 0 9) 8 0 (nextX (M0 4) (M0 0 9) x)) := by rw [hM249]; exact hS.onceM (l := 8) (by decide) h0 (Or.inr ⟨by rw [← hqq]; omega, hM247⟩) rfl
        have hSmf := hSm.n.f
        refine rw_callV hx hb hml hts hown hW ⟨Nat.le_refl 0, Nat.le_refl 0⟩ [] 0 lm_0 rfl (c_X11_step (l := l) (G := G) (ad := ad) (CA := CA) (nt := nt) (by omega) M249 hSmf.2.2.1 hSmf.2.2.2 hSmf.1 hSmf.2.1) kX11_95 rfl ⟨Nat.le_of_ble_eq_true rfl, Nat.le_of_ble_eq_true rfl⟩ hl.1 rfl (Nat.le_of_ble_eq_true rfl) dX11_readLine_84 (fun v250 M251 H locs hp252 hW => ?_)
        obtain ⟨rfl, hM251⟩ := hp252
        refine rw_stk (st' := []) rfl ?_
        have hSs := hSm.n.step hM251
        refine lv_iload_n hx hb dX11_readLine_87 rfl (lv_at hl 0 rfl) ?_
        refine rw_if_eq (tgt := 99) hx hb dX11_readLine_88 (by decide) (by decide) (fun c => absurd c (by decide)) (fun _ => ?_)
        refine lv_aload_n hx hb dX11_readLine_91 rfl (lv_at hl 2 rfl) ?_
        refine lv_iload_n hx hb dX11_readLine_92 rfl (lv_at hl 1 rfl) ?_
        refine rw_callV hx hb hml hts hown hW ⟨Nat.le_refl 0, Nat.le_refl 0⟩ [.int (iN 8)] 0 lm_0 rfl (c_X11_readOnce (l := l) (G := G) (ad := ad) (CA := CA) (nt := nt) (by omega) 8 (by first | omega | decide) M0 (markX (M0 4) (M0 0 9) 8 0 (nextX (M0 4) (M0 0 9) x)) M251 hSs) kX11_127 rfl ⟨Nat.le_of_ble_eq_true rfl, Nat.le_of_ble_eq_true rfl⟩ hl.1 rfl (Nat.le_of_ble_eq_true rfl) dX11_readLine_93 (fun v253 M254 H locs hp255 hW => ?_)
        obtain ⟨rfl, hM254⟩ := hp255
        refine rw_stk (st' := []) rfl ?_
        refine lv_goto (tgt := 104) hx hb dX11_readLine_96 (by decide) ?_
        have hSb : Sk M0 M254 (nextX (M0 4) (M0 0 9) (bodyX (M0 4) (M0 0 9) (nextX (M0 4) (M0 0 9) x))) := by rw [body_on _ _ (l := 8) (hwd.1.trans (if_pos (by decide))) (by decide)]; exact hM254
        have hSbf := hSb.f
        have hSbk := hSb.2.1.2.1
        refine lv_aload_n hx hb dX11_readLine_104 rfl (lv_at hl 2 rfl) ?_
        refine rw_getI hx hb hts hown hW 0 lm_0 11 11 rfl rfl fX11_61 dX11_readLine_105 (v := (M254 0 11)) rfl ?_
        refine rw_if_ne (tgt := 124) hx hb dX11_readLine_108 (by decide) (by omega) (fun c_108 => ?_) (fun c_108 => ?_)
        · have hSg := hSb.sign (Or.inl ⟨rfl, Or.inl c_108⟩)
          have hSgf := hSg.n.f
          refine lv_aload_n hx hb dX11_readLine_124 rfl (lv_at hl 2 rfl) ?_
          refine rw_callV hx hb hml hts hown hW ⟨Nat.le_refl 0, Nat.le_refl 0⟩ [] 0 lm_0 rfl (c_X11_step (l := l) (G := G) (ad := ad) (CA := CA) (nt := nt) (by omega) M254 hSgf.2.2.1 hSgf.2.2.2 hSgf.1 hSgf.2.1) kX11_95 rfl ⟨Nat.le_of_ble_eq_true rfl, Nat.le_of_ble_eq_true rfl⟩ hl.1 rfl (Nat.le_of_ble_eq_true rfl) dX11_readLine_125 (fun v256 M257 H locs hp258 hW => ?_)
          obtain ⟨rfl, hM257⟩ := hp258
          refine rw_stk (st' := []) rfl ?_
          refine rw_vret hx hb hr hlocks hW dX11_readLine_128 (⟨rfl, ?_⟩)
          exact hSg.n.step hM257
        · refine lv_aload_n hx hb dX11_readLine_111 rfl (lv_at hl 2 rfl) ?_
          refine rw_getI hx hb hts hown hW 0 lm_0 15 15 rfl rfl fX11_70 dX11_readLine_112 (v := (M254 0 15)) rfl ?_
          refine rw_iconst hx hb dX11_readLine_115 ?_
          refine rw_icmp_eq (tgt := 124) hx hb dX11_readLine_116 (by decide) (by omega) (by decide) (fun c_116 => ?_) (fun c_116 => ?_)
          · have hSg := hSb.sign (Or.inl ⟨rfl, Or.inr c_116⟩)
            have hSgf := hSg.n.f
            refine lv_aload_n hx hb dX11_readLine_124 rfl (lv_at hl 2 rfl) ?_
            refine rw_callV hx hb hml hts hown hW ⟨Nat.le_refl 0, Nat.le_refl 0⟩ [] 0 lm_0 rfl (c_X11_step (l := l) (G := G) (ad := ad) (CA := CA) (nt := nt) (by omega) M254 hSgf.2.2.1 hSgf.2.2.2 hSgf.1 hSgf.2.1) kX11_95 rfl ⟨Nat.le_of_ble_eq_true rfl, Nat.le_of_ble_eq_true rfl⟩ hl.1 rfl (Nat.le_of_ble_eq_true rfl) dX11_readLine_125 (fun v259 M260 H locs hp261 hW => ?_)
            obtain ⟨rfl, hM260⟩ := hp261
            refine rw_stk (st' := []) rfl ?_
            refine rw_vret hx hb hr hlocks hW dX11_readLine_128 (⟨rfl, ?_⟩)
            exact hSg.n.step hM260
          · refine lv_aload_n hx hb dX11_readLine_119 rfl (lv_at hl 2 rfl) ?_
            refine rw_iconst hx hb dX11_readLine_120 ?_
            refine rw_callV hx hb hml hts hown hW ⟨Nat.le_refl 0, Nat.le_refl 0⟩ [.int (iN 2)] 0 lm_0 rfl (c_X11_fails (l := l) (G := G) (ad := ad) (CA := CA) (nt := nt) (by omega) 2 M254 hSbf) kX11_91 rfl ⟨Nat.le_of_ble_eq_true rfl, Nat.le_of_ble_eq_true rfl⟩ hl.1 rfl (Nat.le_of_ble_eq_true rfl) dX11_readLine_121 (fun v262 M263 H locs hp264 hW => ?_)
            obtain ⟨rfl, hM263⟩ := hp264
            refine rw_stk (st' := []) rfl ?_
            have hSg := hSb.sign (Or.inr ⟨by omega, by omega, hM263⟩)
            have hSgf := hSg.n.f
            refine lv_aload_n hx hb dX11_readLine_124 rfl (lv_at hl 2 rfl) ?_
            refine rw_callV hx hb hml hts hown hW ⟨Nat.le_refl 0, Nat.le_refl 0⟩ [] 0 lm_0 rfl (c_X11_step (l := l) (G := G) (ad := ad) (CA := CA) (nt := nt) (by omega) M263 hSgf.2.2.1 hSgf.2.2.2 hSgf.1 hSgf.2.1) kX11_95 rfl ⟨Nat.le_of_ble_eq_true rfl, Nat.le_of_ble_eq_true rfl⟩ hl.1 rfl (Nat.le_of_ble_eq_true rfl) dX11_readLine_125 (fun v265 M266 H locs hp267 hW => ?_)
            obtain ⟨rfl, hM266⟩ := hp267
            refine rw_stk (st' := []) rfl ?_
            refine rw_vret hx hb hr hlocks hW dX11_readLine_128 (⟨rfl, ?_⟩)
            exact hSg.n.step hM266
  · refine rw_stk (st' := [.int (iN 0)]) rfl ?_
    refine rw_if_ne (tgt := 23) hx hb dX11_readLine_14 (by decide) (by decide) (fun c => absurd c (by decide)) (fun _ => ?_)
    refine lv_aload_n hx hb dX11_readLine_17 rfl (lv_at hl 1 rfl) ?_
    refine rw_iconst hx hb dX11_readLine_18 ?_
    refine rw_callV hx hb hml hts hown hW ⟨Nat.le_refl 0, Nat.le_refl 0⟩ [.int (iN 2)] 0 lm_0 rfl (c_X11_fails (l := l) (G := G) (ad := ad) (CA := CA) (nt := nt) (by omega) 2 M (by first | omega | decide)) kX11_91 rfl ⟨Nat.le_of_ble_eq_true rfl, Nat.le_of_ble_eq_true rfl⟩ hl.1 rfl (Nat.le_of_ble_eq_true rfl) dX11_readLine_19 (fun v268 M269 H locs hp270 hW => ?_)
    obtain ⟨rfl, hM269⟩ := hp270
    refine rw_stk (st' := []) rfl ?_
    refine rw_vret hx hb hr hlocks hW dX11_readLine_22 (⟨rfl, ?_⟩)
    have hwm : wordX (M0 4) (M0 0 9) 0 (nextX (M0 4) (M0 0 9) x) = -1 := hwd.1.trans (if_neg (by omega))
    have hb := bodyX_n (t := M0 4) (len := M0 0 9) (x := (nextX (M0 4) (M0 0 9) x)) (Or.inl (by omega))
    unfold stepX
    rw [hb]
    obtain ⟨a, ha⟩ := refX_inl (t := M0 4) (len := M0 0 9) (f := 2) (nextX (M0 4) (M0 0 9) x)
    have q := hS.fail (f := 2) (by decide) hM269
    rw [ha] at q ⊢
    exact q
