abbrev P_X11_byteAt (k : Int) (M : Mem) : Option Value → Mem → Prop := oI (fun zz MM => zz = (if k < M 0 9 then M 4 k else -4) ∧ MM = M)
set_option maxRecDepth 100000 in
set_option maxHeartbeats 4000000 in
theorem c_X11_byteAt {l : Launch} {G : va_G} {ad : Nat → Nat} {CA : Nat → ClassId} {nt : Nat} (hnt : 6 ≤ nt) (k : Int) (hk : 0 ≤ k ∧ k ≤ 1000) (M : Mem) (hTp : 0 ≤ M 0 9 ∧ M 0 9 ≤ 320) : Mt l yX11_byteAt cX11_byteAt 2 (some .int) 0 0 G ad CA nt LyM [.ref (ad 0), .int (iN k)] M (P_X11_byteAt k M) := by
  refine Mt.of (by decide) (Nat.le_of_ble_eq_true rfl) (fun p e s m args below meth c hx hb hr hml hts hown hlocks hnm hW ls hl => ?_)
  have hl : lv_has ls 2 [(0, .ref (ad 0)), (1, .int (iN k))] := hl
  have hnt4 : 4 ≤ nt := by omega
  obtain ⟨H, hH⟩ : ∃ z, z = s.heap := ⟨_, rfl⟩
  obtain ⟨locs, hlo⟩ : ∃ z : List Loc, z = [] := ⟨_, rfl⟩
  rw [← hH, ← hlo] at hW ⊢
  refine lv_iload_n hx hb dX11_byteAt_0 rfl (lv_at hl 1 rfl) ?_
  refine lv_aload_n hx hb dX11_byteAt_1 rfl (lv_at hl 0 rfl) ?_
  refine rw_getI hx hb hts hown hW 0 lm_0 9 9 rfl rfl fX11_54 dX11_byteAt_2 (v := (M 0 9)) rfl ?_
  refine rw_icmp_ge (tgt := 17) hx hb dX11_byteAt_5 (by decide) (by omega) (by omega) (fun c_5 => ?_) (fun c_5 => ?_)
  · refine rw_bipush hx hb dX11_byteAt_17 (by decide) ?_
    refine rw_iret hx hb hr hlocks hW dX11_byteAt_19 (⟨(-4), rfl, ?_⟩)
    exact ⟨by (repeat' split) <;> first | rfl | omega, rfl⟩
  · refine lv_aload_n hx hb dX11_byteAt_8 rfl (lv_at hl 0 rfl) ?_
    refine rw_getR hx hb hts hown hW 0 lm_0 8 4 rfl fX11_23 dX11_byteAt_9 ?_
    refine lv_iload_n hx hb dX11_byteAt_12 rfl (lv_at hl 1 rfl) ?_
    refine rw_iald hx hb hW hnt4 4 lm_4 (by omega) (by omega) (by decide) dX11_byteAt_13 (v := (M 4 k)) rfl ?_
    refine lv_goto (tgt := 19) hx hb dX11_byteAt_14 (by decide) ?_
    refine rw_iret hx hb hr hlocks hW dX11_byteAt_19 (⟨(M 4 k), rfl, ?_⟩)
    exact ⟨by (repeat' split) <;> first | rfl | omega, rfl⟩
abbrev P_X11_fails (f : Int) (M : Mem) : Option Value → Mem → Prop := oV (fun MM => failP M MM f)
set_option maxRecDepth 100000 in
set_option maxHeartbeats 4000000 in
theorem c_X11_fails {l : Launch} {G : va_G} {ad : Nat → Nat} {CA : Nat → ClassId} {nt : Nat} (hnt : 6 ≤ nt) (f : Int) (M : Mem) (h11 : 0 ≤ M 0 11 ∧ M 0 11 ≤ 5) : Mt l yX11_fails cX11_fails 2 none 0 0 G ad CA nt LyM [.ref (ad 0), .int (iN f)] M (P_X11_fails f M) := by
  refine Mt.of (by decide) (Nat.le_of_ble_eq_true rfl) (fun p e s m args below meth c hx hb hr hml hts hown hlocks hnm hW ls hl => ?_)
  have hl : lv_has ls 2 [(0, .ref (ad 0)), (1, .int (iN f))] := hl
  have hnt4 : 4 ≤ nt := by omega
  obtain ⟨H, hH⟩ : ∃ z, z = s.heap := ⟨_, rfl⟩
  obtain ⟨locs, hlo⟩ : ∃ z : List Loc, z = [] := ⟨_, rfl⟩
  rw [← hH, ← hlo] at hW ⊢
  refine lv_aload_n hx hb dX11_fails_0 rfl (lv_at hl 0 rfl) ?_
  refine rw_getI hx hb hts hown hW 0 lm_0 11 11 rfl rfl fX11_61 dX11_fails_1 (v := (M 0 11)) rfl ?_
  refine rw_if_ne (tgt := 20) hx hb dX11_fails_4 (by decide) (by omega) (fun c_4 => ?_) (fun c_4 => ?_)
  · refine rw_vret hx hb hr hlocks hW dX11_fails_20 (⟨rfl, ?_⟩)
    exact Or.inr ⟨by omega, rfl⟩
  · refine lv_aload_n hx hb dX11_fails_7 rfl (lv_at hl 0 rfl) ?_
    refine lv_iload_n hx hb dX11_fails_8 rfl (lv_at hl 1 rfl) ?_
    refine rw_putI hx hb hts hown hW 0 lm_0 11 11 rfl rfl qX11_61 (v := f) dX11_fails_9 (fun H locs hW => ?_)
    obtain ⟨M1, hM1⟩ : ∃ z, z = upd2 M 0 11 f := ⟨_, rfl⟩
    rw [← hM1] at hW
    refine lv_aload_n hx hb dX11_fails_12 rfl (lv_at hl 0 rfl) ?_
    refine lv_aload_n hx hb dX11_fails_13 rfl (lv_at hl 0 rfl) ?_
    refine rw_getI hx hb hts hown hW 0 lm_0 14 14 rfl rfl fX11_64 dX11_fails_14 (v := (M 0 14)) (by rw [hM1, upd2_ne2 (by decide)]) ?_
    refine rw_putI hx hb hts hown hW 0 lm_0 12 12 rfl rfl qX11_67 (v := (M 0 14)) dX11_fails_17 (fun H locs hW => ?_)
    obtain ⟨M2, hM2⟩ : ∃ z, z = upd2 M1 0 12 (M 0 14) := ⟨_, rfl⟩
    rw [← hM2] at hW
    refine rw_vret hx hb hr hlocks hW dX11_fails_20 (⟨rfl, ?_⟩)
    exact Or.inl ⟨by omega, by rw [hM2, hM1]⟩
