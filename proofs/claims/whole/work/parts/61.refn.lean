abbrev P_X11_other (lo : Int) (up : Int) (sm : Int) (M0 : Mem) (y : PX) (M : Mem) : Option Value → Mem → Prop := oI (fun zz MM => zz = valX (M0 4) (M0 0 9) lo (othX (M0 4) (M0 0 9) lo up sm y) ∧ Sk M0 MM (nextX (M0 4) (M0 0 9) (othX (M0 4) (M0 0 9) lo up sm y)))
set_option maxRecDepth 100000 in
set_option maxHeartbeats 4000000 in
theorem c_X11_other {l : Launch} {G : va_G} {ad : Nat → Nat} {CA : Nat → ClassId} {nt : Nat} (hnt : 6 ≤ nt) (lo : Int) (up : Int) (sm : Int) (hlh : 0 ≤ lo ∧ lo ≤ up ∧ up ≤ 20) (hsm : 0 ≤ sm ∧ sm ≤ 511) (M0 : Mem) (y : PX) (M : Mem) (hS : Sk M0 M y) : Mt l yX11_other cX11_other 5 (some .int) 2 46 G ad CA nt LyM [.ref (ad 0), .int (iN lo), .int (iN up), .int (iN sm)] M (P_X11_other lo up sm M0 y M) := by
  refine Mt.of (by decide) (Nat.le_of_ble_eq_true rfl) (fun p e s m args below meth c hx hb hr hml hts hown hlocks hnm hW ls hl => ?_)
  have hl : lv_has ls 5 [(0, .ref (ad 0)), (1, .int (iN lo)), (2, .int (iN up)), (3, .int (iN sm))] := hl
  have hnt4 : 4 ≤ nt := by omega
  obtain ⟨H, hH⟩ : ∃ z, z = s.heap := ⟨_, rfl⟩
  obtain ⟨locs, hlo⟩ : ∃ z : List Loc, z = [] := ⟨_, rfl⟩
  rw [← hH, ← hlo] at hW ⊢
  have hSf := hS.f
  have hRT := hS.2.1
  have hst := hRT.1
  have hk15 := hRT.2.1
  have hv16 := hRT.2.2
  obtain ⟨hT9, hB9, hC5, hC6⟩ := hS.1.frm
  have hC_71 : ∀ (Mx : Mem) (H : Heap) (locs : List Loc) (ls : Array Slot), (Sk M0 Mx (othX (M0 4) (M0 0 9) lo up sm y)) → Wo G ad CA nt LyM (wA ad LyM) s Mx H locs → lv_has ls 5 [(0, .ref (ad 0)), (1, .int (iN lo)), (2, .int (iN up)), (3, .int (iN sm))] → Wf l 2 46 G ad CA nt LyM (P_X11_other lo up sm M0 y M) p e s m args below meth c H locs (F0 m 71 ls []) := by
    intro Mx H locs ls hS1 hW hl
    have hSf := hS1.f
    have hRT := hS1.2.1
    have hst := hRT.1
    have hk15 := hRT.2.1
    have hv16 := hRT.2.2
    obtain ⟨hT9, hB9, hC5, hC6⟩ := hS1.1.frm
    refine lv_aload_n hx hb dX11_other_71 rfl (lv_at hl 0 rfl) ?_
    refine rw_getI hx hb hts hown hW 0 lm_0 11 11 rfl rfl fX11_61 dX11_other_72 (v := (Mx 0 11)) rfl ?_
    refine rw_if_ne (tgt := 85) hx hb dX11_other_75 (by decide) (by omega) (fun c_75 => ?_) (fun c_75 => ?_)
    · refine lv_iload_n hx hb dX11_other_85 rfl (lv_at hl 1 rfl) ?_
      refine lv_istore (lv' := [(4, .int (iN lo)), (0, .ref (ad 0)), (1, .int (iN lo)), (2, .int (iN up)), (3, .int (iN sm))]) hx hb dX11_other_86 hl (by decide) rfl (fun ls hl => ?_)
      refine lv_aload_n hx hb dX11_other_88 rfl (lv_at hl 1 rfl) ?_
      refine rw_callV hx hb hml hts hown hW ⟨Nat.le_refl 0, Nat.le_refl 0⟩ [] 0 lm_0 rfl (c_X11_step (l := l) (G := G) (ad := ad) (CA := CA) (nt := nt) (by omega) Mx (hT9) hB9 hSf (hS1.n.f.2.1)) kX11_95 rfl ⟨Nat.le_of_ble_eq_true rfl, Nat.le_of_ble_eq_true rfl⟩ hl.1 rfl (Nat.le_of_ble_eq_true rfl) dX11_other_89 (fun v1 M2 H locs hp3 hW => ?_)
      obtain ⟨rfl, hM2⟩ := hp3
      refine rw_stk (st' := []) rfl ?_
      refine lv_iload hx hb dX11_other_92 (lv_at hl 0 rfl) ?_
      refine rw_iret hx hb hr hlocks hW dX11_other_94 (⟨lo, rfl, ?_⟩)
      exact ⟨(oth_val hS1).2 c_75, hS1.n.step hM2⟩
    · refine lv_aload_n hx hb dX11_other_78 rfl (lv_at hl 0 rfl) ?_
      refine rw_getI hx hb hts hown hW 0 lm_0 16 16 rfl rfl fX11_80 dX11_other_79 (v := (Mx 0 16)) rfl ?_
      refine lv_goto (tgt := 86) hx hb dX11_other_82 (by decide) ?_
      refine lv_istore (lv' := [(4, .int (iN (Mx 0 16))), (0, .ref (ad 0)), (1, .int (iN lo)), (2, .int (iN up)), (3, .int (iN sm))]) hx hb dX11_other_86 hl (by decide) rfl (fun ls hl => ?_)
      refine lv_aload_n hx hb dX11_other_88 rfl (lv_at hl 1 rfl) ?_
      refine rw_callV hx hb hml hts hown hW ⟨Nat.le_refl 0, Nat.le_refl 0⟩ [] 0 lm_0 rfl (c_X11_step (l := l) (G := G) (ad := ad) (CA := CA) (nt := nt) (by omega) Mx (hT9) hB9 hSf (hS1.n.f.2.1)) kX11_95 rfl ⟨Nat.le_of_ble_eq_true rfl, Nat.le_of_ble_eq_true rfl⟩ hl.1 rfl (Nat.le_of_ble_eq_true rfl) dX11_other_89 (fun v4 M5 H locs hp6 hW => ?_)
      obtain ⟨rfl, hM5⟩ := hp6
      refine rw_stk (st' := []) rfl ?_
      refine lv_iload hx hb dX11_other_92 (lv_at hl 0 rfl) ?_
      refine rw_iret hx hb hr hlocks hW dX11_other_94 (⟨(Mx 0 16), rfl, ?_⟩)
      exact ⟨(oth_val hS1).1 (by omega), hS1.n.step hM5⟩
  have hC_47 : ∀ (Mx : Mem) (H : Heap) (locs : List Loc) (ls : Array Slot), (Sk M0 Mx (vX (M0 4) (M0 0 9) lo up (kX (M0 4) (M0 0 9) y))) → Wo G ad CA nt LyM (wA ad LyM) s Mx H locs → lv_has ls 5 [(0, .ref (ad 0)), (1, .int (iN lo)), (2, .int (iN up)), (3, .int (iN sm))] → Wf l 2 46 G ad CA nt LyM (P_X11_other lo up sm M0 y M) p e s m args below meth c H locs (F0 m 47 ls []) := by
    intro Mx H locs ls hS1 hW hl
    have hSf := hS1.f
    have hRT := hS1.2.1
    have hst := hRT.1
    have hk15 := hRT.2.1
    have hv16 := hRT.2.2
    obtain ⟨hT9, hB9, hC5, hC6⟩ := hS1.1.frm
    refine lv_aload_n hx hb dX11_other_47 rfl (lv_at hl 0 rfl) ?_
    refine rw_getI hx hb hts hown hW 0 lm_0 11 11 rfl rfl fX11_61 dX11_other_48 (v := (Mx 0 11)) rfl ?_
    refine rw_if_ne (tgt := 71) hx hb dX11_other_51 (by decide) (by omega) (fun c_51 => ?_) (fun c_51 => ?_)
    · exact hC_71 Mx H locs ls (hS1.b_ok vX_k2 (Or.inl c_51)) hW (lv_sub hl [0, 1, 2, 3] rfl)
    · obtain ⟨g, hg, hgv⟩ := hS1.val (by omega) vX_k2
      have hgr := (vX_ok _ _ hg).2
      rw [← hgv] at hgr
      refine lv_iload_n hx hb dX11_other_54 rfl (lv_at hl 3 rfl) ?_
      refine lv_aload_n hx hb dX11_other_55 rfl (lv_at hl 0 rfl) ?_
      refine rw_getI hx hb hts hown hW 0 lm_0 16 16 rfl rfl fX11_80 dX11_other_56 (v := (Mx 0 16)) rfl ?_
      refine rw_ishr hx hb dX11_other_59 (by omega) (by omega) (by omega) (by omega) ?_
      refine rw_iconst hx hb dX11_other_60 ?_
      obtain ⟨qq, hqq⟩ : ∃ z, z = sm / pow2 (Mx 0 16) := ⟨_, rfl⟩
      rw [← hqq]
      have hq0 : 0 ≤ qq ∧ qq ≤ 511 := by rw [hqq]; exact div_pow2_rng hsm (by omega)
      refine rw_iand hx hb dX11_other_61 ?_
      rw [band_one hq0.1 (by omega)]
      refine rw_iconst hx hb dX11_other_62 ?_
      refine rw_icmp_ne (tgt := 71) hx hb dX11_other_63 (by decide) (by omega) (by decide) (fun c_63 => ?_) (fun c_63 => ?_)
      · exact hC_71 Mx H locs ls (hS1.b_ok vX_k2 (Or.inr (by rw [hqq] at c_63; exact c_63))) hW (lv_sub hl [0, 1, 2, 3] rfl)
      · refine lv_aload_n hx hb dX11_other_66 rfl (lv_at hl 0 rfl) ?_
        refine rw_iconst hx hb dX11_other_67 ?_
        refine rw_callV hx hb hml hts hown hW ⟨Nat.le_refl 0, Nat.le_refl 0⟩ [.int (iN 4)] 0 lm_0 rfl (c_X11_fails (l := l) (G := G) (ad := ad) (CA := CA) (nt := nt) (by omega) 4 Mx hSf) kX11_91 rfl ⟨Nat.le_of_ble_eq_true rfl, Nat.le_of_ble_eq_true rfl⟩ hl.1 rfl (Nat.le_of_ble_eq_true rfl) dX11_other_68 (fun v7 M8 H locs hp9 hW => ?_)
        obtain ⟨rfl, hM8⟩ := hp9
        refine rw_stk (st' := []) rfl ?_
        exact hC_71 M8 H locs ls (hS1.b_no vX_k2 (by omega) (by rw [hqq] at c_63; omega) hM8) hW (lv_sub hl [0, 1, 2, 3] rfl)
  have hC_20 : ∀ (Mx : Mem) (H : Heap) (locs : List Loc) (ls : Array Slot), (Sk M0 Mx (kX (M0 4) (M0 0 9) y)) → Wo G ad CA nt LyM (wA ad LyM) s Mx H locs → lv_has ls 5 [(0, .ref (ad 0)), (1, .int (iN lo)), (2, .int (iN up)), (3, .int (iN sm))] → Wf l 2 46 G ad CA nt LyM (P_X11_other lo up sm M0 y M) p e s m args below meth c H locs (F0 m 20 ls []) := by
    intro Mx H locs ls hS1 hW hl
    have hSf := hS1.f
    have hRT := hS1.2.1
    have hst := hRT.1
    have hk15 := hRT.2.1
    have hv16 := hRT.2.2
    obtain ⟨hT9, hB9, hC5, hC6⟩ := hS1.1.frm
    refine lv_aload_n hx hb dX11_other_20 rfl (lv_at hl 0 rfl) ?_
    refine rw_getI hx hb hts hown hW 0 lm_0 11 11 rfl rfl fX11_61 dX11_other_21 (v := (Mx 0 11)) rfl ?_
    refine rw_if_ne (tgt := 47) hx hb dX11_other_24 (by decide) (by omega) (fun c_24 => ?_) (fun c_24 => ?_)
    · exact hC_47 Mx H locs ls (hS1.v_ok kX_k2 (Or.inl c_24)) hW (lv_sub hl [0, 1, 2, 3] rfl)
    · refine lv_aload_n hx hb dX11_other_27 rfl (lv_at hl 0 rfl) ?_
      refine rw_getI hx hb hts hown hW 0 lm_0 16 16 rfl rfl fX11_80 dX11_other_28 (v := (Mx 0 16)) rfl ?_
      refine rw_i2l hx hb dX11_other_31 (by omega) ?_
      refine lv_iload_n hx hb dX11_other_32 rfl (lv_at hl 1 rfl) ?_
      refine rw_i2l hx hb dX11_other_33 (by omega) ?_
      refine lv_iload_n hx hb dX11_other_34 rfl (lv_at hl 2 rfl) ?_
      refine rw_i2l hx hb dX11_other_35 (by omega) ?_
      refine rw_callS hx hb hml hts hown hW ⟨Nat.le_refl 0, Nat.le_refl 0⟩ [.long (jN (Mx 0 16)), .long (jN lo), .long (jN up)] (c_X11_in (l := l) (G := G) (ad := ad) (CA := CA) (nt := nt) (Mx 0 16) lo up (by first | omega | decide) (by first | omega | decide) (by first | omega | decide) Mx) kX11_57 rfl ⟨Nat.le_of_ble_eq_true rfl, Nat.le_of_ble_eq_true rfl⟩ hl.1 rfl (Nat.le_of_ble_eq_true rfl) dX11_other_36 (fun v10 M11 H locs hp12 hW => ?_)
      obtain ⟨a13, rfl, hp12, hp12m⟩ := hp12
      rw [hp12m] at hW
      rcases hp12 with ⟨rfl, hp12⟩ | ⟨rfl, hp12⟩
      · refine rw_stk (st' := [.int (iN 1)]) rfl ?_
        refine rw_if_ne (tgt := 47) hx hb dX11_other_39 (by decide) (by decide) (fun _ => ?_) (fun c => absurd c (by decide))
        exact hC_47 Mx H locs ls (hS1.v_ok kX_k2 (Or.inr (by omega))) hW (lv_sub hl [0, 1, 2, 3] rfl)
      · refine rw_stk (st' := [.int (iN 0)]) rfl ?_
        refine rw_if_ne (tgt := 47) hx hb dX11_other_39 (by decide) (by decide) (fun c => absurd c (by decide)) (fun _ => ?_)
        refine lv_aload_n hx hb dX11_other_42 rfl (lv_at hl 0 rfl) ?_
        refine rw_iconst hx hb dX11_other_43 ?_
        refine rw_callV hx hb hml hts hown hW ⟨Nat.le_refl 0, Nat.le_refl 0⟩ [.int (iN 3)] 0 lm_0 rfl (c_X11_fails (l := l) (G := G) (ad := ad) (CA := CA) (nt := nt) (by omega) 3 Mx hSf) kX11_91 rfl ⟨Nat.le_of_ble_eq_true rfl, Nat.le_of_ble_eq_true rfl⟩ hl.1 rfl (Nat.le_of_ble_eq_true rfl) dX11_other_44 (fun v14 M15 H locs hp16 hW => ?_)
        obtain ⟨rfl, hM15⟩ := hp16
        refine rw_stk (st' := []) rfl ?_
        exact hC_47 M15 H locs ls (hS1.v_no kX_k2 (by omega) (by omega) hM15) hW (lv_sub hl [0, 1, 2, 3] rfl)
  refine lv_aload_n hx hb dX11_other_0 rfl (lv_at hl 0 rfl) ?_
  refine rw_getI hx hb hts hown hW 0 lm_0 11 11 rfl rfl fX11_61 dX11_other_1 (v := (M 0 11)) rfl ?_
  refine rw_if_ne (tgt := 20) hx hb dX11_other_4 (by decide) (by omega) (fun c_4 => ?_) (fun c_4 => ?_)
  · exact hC_20 M H locs ls (hS.k_ok (Or.inl c_4)) hW (lv_sub hl [0, 1, 2, 3] rfl)
  · refine lv_aload_n hx hb dX11_other_7 rfl (lv_at hl 0 rfl) ?_
    refine rw_getI hx hb hts hown hW 0 lm_0 15 15 rfl rfl fX11_70 dX11_other_8 (v := (M 0 15)) rfl ?_
    refine rw_iconst hx hb dX11_other_11 ?_
    refine rw_icmp_eq (tgt := 20) hx hb dX11_other_12 (by decide) (by omega) (by decide) (fun c_12 => ?_) (fun c_12 => ?_)
    · exact hC_20 M H locs ls (hS.k_ok (Or.inr c_12)) hW (lv_sub hl [0, 1, 2, 3] rfl)
    · refine lv_aload_n hx hb dX11_other_15 rfl (lv_at hl 0 rfl) ?_
      refine rw_iconst hx hb dX11_other_16 ?_
      refine rw_callV hx hb hml hts hown hW ⟨Nat.le_refl 0, Nat.le_refl 0⟩ [.int (iN 2)] 0 lm_0 rfl (c_X11_fails (l := l) (G := G) (ad := ad) (CA := CA) (nt := nt) (by omega) 2 M hSf) kX11_91 rfl ⟨Nat.le_of_ble_eq_true rfl, Nat.le_of_ble_eq_true rfl⟩ hl.1 rfl (Nat.le_of_ble_eq_true rfl) dX11_other_17 (fun v17 M18 H locs hp19 hW => ?_)
      obtain ⟨rfl, hM18⟩ := hp19
      refine rw_stk (st' := []) rfl ?_
      exact hC_20 M18 H locs ls (hS.k_no (by omega) (by omega) hM18) hW (lv_sub hl [0, 1, 2, 3] rfl)
