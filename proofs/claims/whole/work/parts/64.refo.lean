abbrev P_X11_fresh (lx : Int) (most : Int) (M0 : Mem) (x : PX) (M : Mem) : Option Value → Mem → Prop := oI (fun zz MM => 0 ≤ zz ∧ zz ≤ most ∧ Sk M0 MM (nextX (M0 4) (M0 0 9) (frX (M0 4) (M0 0 9) lx most x)) ∧ ∀ g, frX (M0 4) (M0 0 9) lx most x = .inr g → zz = numV (M0 4) (M0 0 9) 0 most x)
set_option maxRecDepth 100000 in
set_option maxHeartbeats 4000000 in
theorem c_X11_fresh {l : Launch} {G : va_G} {ad : Nat → Nat} {CA : Nat → ClassId} {nt : Nat} (hnt : 6 ≤ nt) (lx : Int) (most : Int) (hlx : lx = 1 ∨ lx = 2 ∨ lx = 3 ∨ lx = 5 ∨ lx = 6) (hmo : most = 8 ∨ most = 1) (M0 : Mem) (x : PX) (M : Mem) (hS : Sk M0 M (nextX (M0 4) (M0 0 9) x)) : Mt l yX11_fresh cX11_fresh 4 (some .int) 3 70 G ad CA nt LyM [.ref (ad 0), .int (iN lx), .int (iN most)] M (P_X11_fresh lx most M0 x M) := by
  refine Mt.of (by decide) (Nat.le_of_ble_eq_true rfl) (fun p e s m args below meth c hx hb hr hml hts hown hlocks hnm hW ls hl => ?_)
  have hl : lv_has ls 4 [(0, .ref (ad 0)), (1, .int (iN lx)), (2, .int (iN most))] := hl
  have hnt4 : 4 ≤ nt := by omega
  obtain ⟨H, hH⟩ : ∃ z, z = s.heap := ⟨_, rfl⟩
  obtain ⟨locs, hlo⟩ : ∃ z : List Loc, z = [] := ⟨_, rfl⟩
  rw [← hH, ← hlo] at hW ⊢
  have hSf := hS.f
  have hRT := hS.2.1
  have hst := hRT.1
  have hk15 := hRT.2.1
  have hv16 := hRT.2.2
  obtain ⟨hT9, hB9, hC5, hC6⟩ := hS.1.frm
  have h3r := hS.1.2.2.2.1 lx (by omega) (by omega)
  refine lv_aload_n hx hb dX11_fresh_0 rfl (lv_at hl 0 rfl) ?_
  refine rw_iconst hx hb dX11_fresh_1 ?_
  refine lv_iload_n hx hb dX11_fresh_2 rfl (lv_at hl 2 rfl) ?_
  refine lv_aload_n hx hb dX11_fresh_3 rfl (lv_at hl 0 rfl) ?_
  refine rw_getR hx hb hts hown hW 0 lm_0 6 3 rfl fX11_20 dX11_fresh_4 ?_
  refine lv_iload_n hx hb dX11_fresh_7 rfl (lv_at hl 1 rfl) ?_
  refine rw_iald hx hb hW hnt4 3 lm_3 (by omega) (by omega) (by decide) dX11_fresh_8 (v := (M 3 lx)) rfl ?_
  refine rw_callV hx hb hml hts hown hW ⟨Nat.le_refl 0, Nat.le_refl 0⟩ [.int (iN 0), .int (iN most), .int (iN (M 3 lx))] 0 lm_0 rfl (c_X11_other (l := l) (G := G) (ad := ad) (CA := CA) (nt := nt) (by omega) 0 most (M 3 lx) (by first | omega | decide) h3r M0 (nextX (M0 4) (M0 0 9) x) M hS) kX11_98 rfl ⟨Nat.le_of_ble_eq_true rfl, Nat.le_of_ble_eq_true rfl⟩ hl.1 rfl (Nat.le_of_ble_eq_true rfl) dX11_fresh_9 (fun v1 M2 H locs hp3 hW => ?_)
  obtain ⟨a4, rfl, hM2⟩ := hp3
  refine rw_stk (st' := [.int (iN a4)]) rfl ?_
  have har : 0 ≤ a4 ∧ a4 ≤ most := by rw [hM2.1]; exact oth_rng (by omega)
  have h7r := hM2.2.1.2.1
  have h3s := hM2.2.1.2.2.2.1 lx (by omega) (by omega)
  refine lv_istore_n (lv' := [(3, .int (iN a4)), (0, .ref (ad 0)), (1, .int (iN lx)), (2, .int (iN most))]) hx hb dX11_fresh_12 rfl hl (by decide) rfl (fun ls hl => ?_)
  refine lv_aload_n hx hb dX11_fresh_13 rfl (lv_at hl 1 rfl) ?_
  refine rw_getR hx hb hts hown hW 0 lm_0 6 3 rfl fX11_20 dX11_fresh_14 ?_
  refine lv_iload_n hx hb dX11_fresh_17 rfl (lv_at hl 2 rfl) ?_
  refine lv_dup2_11 hx hb dX11_fresh_18 rfl rfl ?_
  refine rw_iald hx hb hW hnt4 3 lm_3 (by omega) (by omega) (by decide) dX11_fresh_19 (v := (M2 3 lx)) rfl ?_
  refine rw_iconst hx hb dX11_fresh_20 ?_
  refine lv_iload_n hx hb dX11_fresh_21 rfl (lv_at hl 0 rfl) ?_
  refine rw_shl1 hx hb dX11_fresh_22 (by omega) (by omega) ?_
  refine rw_ior hx hb dX11_fresh_23 ?_
  refine rw_iast hx hb hW hnt4 3 lm_3 (v := bor (M2 3 lx) (pow2 a4)) (by omega) (by omega) (by decide) dX11_fresh_24 (fun H locs hW => ?_)
  obtain ⟨M5, hM5⟩ : ∃ z, z = upd2 M2 3 lx (bor (M2 3 lx) (pow2 a4)) := ⟨_, rfl⟩
  rw [← hM5] at hW
  refine lv_aload_n hx hb dX11_fresh_25 rfl (lv_at hl 1 rfl) ?_
  refine lv_iload_n hx hb dX11_fresh_26 rfl (lv_at hl 3 rfl) ?_
  refine rw_iconst hx hb dX11_fresh_27 ?_
  refine rw_icmp_le (tgt := 43) hx hb dX11_fresh_28 (by decide) (by omega) (by decide) (fun c_28 => ?_) (fun c_28 => ?_)
  · refine lv_aload_n hx hb dX11_fresh_43 rfl (lv_at hl 1 rfl) ?_
    refine rw_getI hx hb hts hown hW 0 lm_0 7 7 rfl rfl fX11_102 dX11_fresh_44 (v := (M2 0 7)) (by rw [hM5, upd2_ne1 (by omega)]) ?_
    have hfz := Sk.fresh (l := lx) (most := most) (zz := a4) (w := (M2 0 7)) hlx hmo hS hM2.2 hM2.1 (by (repeat' split) <;> omega)
    refine rw_putI hx hb hts hown hW 0 lm_0 7 7 rfl rfl qX11_102 (v := (M2 0 7)) dX11_fresh_47 (fun H locs hW => ?_)
    obtain ⟨M6, hM6⟩ : ∃ z, z = upd2 M5 0 7 (M2 0 7) := ⟨_, rfl⟩
    rw [← hM6] at hW
    refine lv_iload_n hx hb dX11_fresh_50 rfl (lv_at hl 0 rfl) ?_
    refine rw_iret hx hb hr hlocks hW dX11_fresh_51 (⟨a4, rfl, ?_⟩)
    rw [hM6, hM5]
    exact ⟨by omega, by omega, hfz.1, hfz.2⟩
  · refine lv_iload_n hx hb dX11_fresh_31 rfl (lv_at hl 0 rfl) ?_
    refine lv_aload_n hx hb dX11_fresh_32 rfl (lv_at hl 1 rfl) ?_
    refine rw_getI hx hb hts hown hW 0 lm_0 7 7 rfl rfl fX11_102 dX11_fresh_33 (v := (M2 0 7)) (by rw [hM5, upd2_ne1 (by omega)]) ?_
    refine rw_icmp_le (tgt := 43) hx hb dX11_fresh_36 (by decide) (by omega) (by omega) (fun c_36 => ?_) (fun c_36 => ?_)
    · refine lv_aload_n hx hb dX11_fresh_43 rfl (lv_at hl 1 rfl) ?_
      refine rw_getI hx hb hts hown hW 0 lm_0 7 7 rfl rfl fX11_102 dX11_fresh_44 (v := (M2 0 7)) (by rw [hM5, upd2_ne1 (by omega)]) ?_
      have hfz := Sk.fresh (l := lx) (most := most) (zz := a4) (w := (M2 0 7)) hlx hmo hS hM2.2 hM2.1 (by (repeat' split) <;> omega)
      refine rw_putI hx hb hts hown hW 0 lm_0 7 7 rfl rfl qX11_102 (v := (M2 0 7)) dX11_fresh_47 (fun H locs hW => ?_)
      obtain ⟨M7, hM7⟩ : ∃ z, z = upd2 M5 0 7 (M2 0 7) := ⟨_, rfl⟩
      rw [← hM7] at hW
      refine lv_iload_n hx hb dX11_fresh_50 rfl (lv_at hl 0 rfl) ?_
      refine rw_iret hx hb hr hlocks hW dX11_fresh_51 (⟨a4, rfl, ?_⟩)
      rw [hM7, hM5]
      exact ⟨by omega, by omega, hfz.1, hfz.2⟩
    · refine lv_iload_n hx hb dX11_fresh_39 rfl (lv_at hl 0 rfl) ?_
      refine lv_goto (tgt := 47) hx hb dX11_fresh_40 (by decide) ?_
      have hfz := Sk.fresh (l := lx) (most := most) (zz := a4) (w := a4) hlx hmo hS hM2.2 hM2.1 (by (repeat' split) <;> omega)
      refine rw_putI hx hb hts hown hW 0 lm_0 7 7 rfl rfl qX11_102 (v := a4) dX11_fresh_47 (fun H locs hW => ?_)
      obtain ⟨M8, hM8⟩ : ∃ z, z = upd2 M5 0 7 a4 := ⟨_, rfl⟩
      rw [← hM8] at hW
      refine lv_iload_n hx hb dX11_fresh_50 rfl (lv_at hl 0 rfl) ?_
      refine rw_iret hx hb hr hlocks hW dX11_fresh_51 (⟨a4, rfl, ?_⟩)
      rw [hM8, hM5]
      exact ⟨by omega, by omega, hfz.1, hfz.2⟩
