theorem low8 (x : Int32) : (x <<< (iN 24 &&& 31)) >>> (iN 24 &&& 31) = x.toInt8.toInt32 := by
  apply Int32.toBitVec_inj.mp
  have e1 : (iN 24 &&& 31) = 24 := by decide
  have e3 : ((24 : Int32).toBitVec.smod 32) = 24#32 := by decide
  rw [e1, Int32.toBitVec_shiftRight, Int32.toBitVec_shiftLeft, e3]
  show _ = (x.toInt8.toBitVec).signExtend 32
  show _ = (x.toBitVec.signExtend 8).signExtend 32
  apply BitVec.eq_of_getLsbD_eq
  intro i hi
  simp only [BitVec.sshiftRight', BitVec.shiftLeft_eq']
  have t24 : (24#32).toNat = 24 := rfl
  rw [t24, BitVec.getLsbD_sshiftRight, BitVec.msb_eq_getLsbD_last, BitVec.getLsbD_shiftLeft, BitVec.getLsbD_shiftLeft, BitVec.getLsbD_signExtend, BitVec.getLsbD_signExtend]
  have hh : ¬ 32 ≤ i := by omega
  by_cases h : i < 8
  · simp [h, hi, hh, show 24 + i < 32 by omega]
  · rw [if_neg (show ¬ i < 8 by omega), BitVec.msb_eq_getLsbD_last, BitVec.getLsbD_signExtend]; simp [hi, hh, show ¬ 24 + i < 32 by omega]
theorem low16 (x : Int32) : (x <<< (iN 16 &&& 31)) >>> (iN 16 &&& 31) = x.toInt16.toInt32 := by
  apply Int32.toBitVec_inj.mp
  have e1 : (iN 16 &&& 31) = 16 := by decide
  have e3 : ((16 : Int32).toBitVec.smod 32) = 16#32 := by decide
  rw [e1, Int32.toBitVec_shiftRight, Int32.toBitVec_shiftLeft, e3]
  show _ = (x.toBitVec.signExtend 16).signExtend 32
  apply BitVec.eq_of_getLsbD_eq
  intro i hi
  simp only [BitVec.sshiftRight', BitVec.shiftLeft_eq']
  have t24 : (16#32).toNat = 16 := rfl
  rw [t24, BitVec.getLsbD_sshiftRight, BitVec.msb_eq_getLsbD_last, BitVec.getLsbD_shiftLeft, BitVec.getLsbD_shiftLeft, BitVec.getLsbD_signExtend, BitVec.getLsbD_signExtend]
  have hh : ¬ 32 ≤ i := by omega
  by_cases h : i < 16
  · simp [h, hi, hh, show 16 + i < 32 by omega]
  · rw [if_neg (show ¬ i < 16 by omega), BitVec.msb_eq_getLsbD_last, BitVec.getLsbD_signExtend]; simp [hi, hh, show ¬ 16 + i < 32 by omega]
theorem byt_and (y : Int32) : (iN (y.toInt8.toInt32).toInt8.toInt32.toInt) &&& iN 255 = y &&& iN 255 := by
  have e0 : iN (y.toInt8.toInt32).toInt8.toInt32.toInt = (y.toInt8.toInt32).toInt8.toInt32 := Int32.ofInt_toInt _
  rw [e0]
  apply Int32.toBitVec_inj.mp
  rw [Int32.toBitVec_and, Int32.toBitVec_and]
  have e4 : (iN 255).toBitVec = 255#32 := by decide
  rw [e4]
  show (((y.toBitVec.signExtend 8).signExtend 32).signExtend 8).signExtend 32 &&& _ = _
  apply BitVec.eq_of_getLsbD_eq
  intro i hi
  rw [BitVec.getLsbD_and, BitVec.getLsbD_and]
  by_cases h : i < 8
  · rw [BitVec.getLsbD_signExtend, BitVec.getLsbD_signExtend, BitVec.getLsbD_signExtend, BitVec.getLsbD_signExtend]
    simp only [h, hi, decide_true, Bool.true_and, if_true]
  · have : ∀ j : Fin 32, 8 ≤ j.val → (255#32).getLsbD j.val = false := by decide
    rw [this ⟨i, hi⟩ (show 8 ≤ i by omega)]
    simp
def lnR (M : Mem) (k : Int) : Int := if M 11 k = -4 then -1 else M 11 k
def shR (M : Mem) : Prop := ∀ k : Int, 0 ≤ k → k < 4 → (M 11 k = -4 ∨ (0 ≤ M 11 k ∧ M 11 k ≤ 2)) ∧ (0 ≤ M 12 k ∧ M 12 k ≤ 40) ∧ ∀ j, 0 ≤ j → j < 40 → in32 (M 13 (40 * k + j))
def bytR (v : Int64) (sh : Int) : Int := ((v >>> ((iN sh).toInt64 &&& 63)).toInt32 &&& iN 255).toInt
def fedR (M : Mem) (v : Int64) (MM : Mem) : Prop := MM 0 9 = M 0 9 + 8 ∧ (∀ j, 0 ≤ j → j < 8 → MM 4 (M 0 9 + j) = bytR v (56 - 8 * j)) ∧ (∀ i, (i < M 0 9 ∨ M 0 9 + 8 ≤ i) → MM 4 i = M 4 i) ∧ ∀ (q : Nat) (j : Int), ¬ (q = 0 ∧ j = 9) → q ≠ 4 → MM q j = M q j
def rowR (M : Mem) (k : Int) : Int → Int := fun j => M 13 (40 * k + j)
/-- what a reading leaves but pages -/
def SameR (M M' : Mem) : Prop := (∀ q : Nat, q ≠ 1 → M' q = M q) ∧ ∀ j, 47 ≤ j → (j < 141 ∨ 188 ≤ j) → M' 1 j = M 1 j
theorem SameR.go {M M1 M2 : Mem} (h : SameR M M1) (h2 : SameS M1 M2 0) : SameR M M2 := ⟨fun q hq => (h2.1 q hq).trans (h.1 q hq), fun j q1 q2 => (h2.2 j (by omega)).trans (h.2 j q1 q2)⟩
theorem SameR.on {M M1 : Mem} (h : SameS M M1 141) : SameR M M1 := ⟨h.1, fun j q1 q2 => h.2 j (by omega)⟩
theorem pass27 {f : Int → Int} (h : InvF f) {x y w : Int} (hr : refF f x y = 0) : InvF (passF f x y w) ∧ passF f x y w 46 ≤ 999 ∧ 0 ≤ passF f x y w 27 ∧ passF f x y w 27 ≤ 21 := by
  have q := refF_ok hr
  have hh := passF_inv h (by omega) (x := x) (y := y) (w := w) q.1 q.2.1
  have h1 := hh.1
  have h2 := hh.2.1
  exact ⟨hh, by show f 46 + 1 ≤ 999; omega, by omega, by omega⟩
abbrev P_X11_feed (v : Int64) (M : Mem) : Option Value → Mem → Prop := oI (fun zz MM => (M 0 9 ≤ 312 ∧ zz = M 0 9 + 8 ∧ fedR M v MM) ∨ (312 < M 0 9 ∧ zz = -3 ∧ MM = M))
set_option maxRecDepth 100000 in
set_option maxHeartbeats 4000000 in
theorem c_X11_feed {l : Launch} {G : va_G} {ad : Nat → Nat} {CA : Nat → ClassId} {nt : Nat} (hnt : 6 ≤ nt) (v : Int64) (M : Mem) (hTp : 0 ≤ M 0 9 ∧ M 0 9 ≤ 320) : Mt l yX11_feed cX11_feed 4 (some .int) 0 0 G ad CA nt LyM [.ref (ad 0), .long v] M (P_X11_feed v M) := by
  refine Mt.of (by decide) (Nat.le_of_ble_eq_true rfl) (fun p e s m args below meth c hx hb hr hml hts hown hlocks hnm hW ls hl => ?_)
  have hl : lv_has ls 4 [(0, .ref (ad 0)), (1, .long v)] := hl
  have hnt4 : 4 ≤ nt := by omega
  obtain ⟨H, hH⟩ : ∃ z, z = s.heap := ⟨_, rfl⟩
  obtain ⟨locs, hlo⟩ : ∃ z : List Loc, z = [] := ⟨_, rfl⟩
  rw [← hH, ← hlo] at hW ⊢
  refine lv_aload_n hx hb dX11_feed_0 rfl (lv_at hl 0 rfl) ?_
  refine rw_getI hx hb hts hown hW 0 lm_0 9 9 rfl rfl fX11_54 dX11_feed_1 (v := (M 0 9)) rfl ?_
  refine rw_bipush hx hb dX11_feed_4 (by decide) ?_
  refine rw_iadd hx hb dX11_feed_6 ?_
  refine rw_sipush hx hb dX11_feed_7 (by decide) ?_
  refine rw_icmp_le (tgt := 16) hx hb dX11_feed_10 (by decide) (by omega) (by decide) (fun c_10 => ?_) (fun c_10 => ?_)
  · refine rw_bipush hx hb dX11_feed_16 (by decide) ?_
    refine lv_istore_n (lv' := [(3, .int (iN 56)), (0, .ref (ad 0)), (1, .long v)]) hx hb dX11_feed_18 rfl hl (by decide) rfl (fun ls hl => ?_)
    refine lv_iload_n hx hb dX11_feed_19 rfl (lv_at hl 0 rfl) ?_
    refine rw_if_lt (tgt := 56) hx hb dX11_feed_20 (by decide) (by decide) (fun c => absurd c (by decide)) (fun _ => ?_)
    refine lv_aload_n hx hb dX11_feed_23 rfl (lv_at hl 1 rfl) ?_
    refine rw_getR hx hb hts hown hW 0 lm_0 8 4 rfl fX11_23 dX11_feed_24 ?_
    refine lv_aload_n hx hb dX11_feed_27 rfl (lv_at hl 1 rfl) ?_
    refine rw_getI hx hb hts hown hW 0 lm_0 9 9 rfl rfl fX11_54 dX11_feed_28 (v := (M 0 9)) rfl ?_
    refine lv_lload_n hx hb dX11_feed_31 rfl (lv_at hl 2 rfl) ?_
    refine lv_iload_n hx hb dX11_feed_32 rfl (lv_at hl 0 rfl) ?_
    refine lv_lshr hx hb dX11_feed_33 rfl ?_
    refine lv_l2i hx hb dX11_feed_34 rfl ?_
    refine rw_sipush hx hb dX11_feed_35 (by decide) ?_
    refine lv_iand hx hb dX11_feed_38 ?_
    rw [← iN_self (((v >>> ((iN 56).toInt64 &&& 63)).toInt32) &&& iN 255)]
    refine rw_iast hx hb hW hnt4 4 lm_4 (v := (((v >>> ((iN 56).toInt64 &&& 63)).toInt32) &&& iN 255).toInt) (by omega) (by omega) (by decide) dX11_feed_39 (fun H locs hW => ?_)
    obtain ⟨M1, hM1⟩ : ∃ z, z = upd2 M 4 (M 0 9) ((((v >>> ((iN 56).toInt64 &&& 63)).toInt32) &&& iN 255).toInt) := ⟨_, rfl⟩
    rw [← hM1] at hW
    refine lv_aload_n hx hb dX11_feed_40 rfl (lv_at hl 1 rfl) ?_
    refine lv_dup hx hb dX11_feed_41 rfl ?_
    refine rw_getI hx hb hts hown hW 0 lm_0 9 9 rfl rfl fX11_54 dX11_feed_42 (v := (M 0 9)) (by rw [hM1, upd2_ne1 (by omega)]) ?_
    refine rw_iconst hx hb dX11_feed_45 ?_
    refine rw_iadd hx hb dX11_feed_46 ?_
    refine rw_putI hx hb hts hown hW 0 lm_0 9 9 rfl rfl qX11_54 (v := (M 0 9) + 1) dX11_feed_47 (fun H locs hW => ?_)
    obtain ⟨M2, hM2⟩ : ∃ z, z = upd2 M1 0 9 ((M 0 9) + 1) := ⟨_, rfl⟩
    rw [← hM2] at hW
    refine rw_iinc (lv' := [(3, .int (iN 48)), (0, .ref (ad 0)), (1, .long v)]) hx hb dX11_feed_50 hl (k := 0) rfl (by decide) rfl (fun ls hl => ?_)
    refine lv_goto (tgt := 19) hx hb dX11_feed_53 (by decide) ?_
    refine lv_iload_n hx hb dX11_feed_19 rfl (lv_at hl 0 rfl) ?_
    refine rw_if_lt (tgt := 56) hx hb dX11_feed_20 (by decide) (by decide) (fun c => absurd c (by decide)) (fun _ => ?_)
    refine lv_aload_n hx hb dX11_feed_23 rfl (lv_at hl 1 rfl) ?_
    refine rw_getR hx hb hts hown hW 0 lm_0 8 4 rfl fX11_23 dX11_feed_24 ?_
    refine lv_aload_n hx hb dX11_feed_27 rfl (lv_at hl 1 rfl) ?_
    refine rw_getI hx hb hts hown hW 0 lm_0 9 9 rfl rfl fX11_54 dX11_feed_28 (v := ((M 0 9) + 1)) (by rw [hM2, upd2_eq]) ?_
    refine lv_lload_n hx hb dX11_feed_31 rfl (lv_at hl 2 rfl) ?_
    refine lv_iload_n hx hb dX11_feed_32 rfl (lv_at hl 0 rfl) ?_
    refine lv_lshr hx hb dX11_feed_33 rfl ?_
    refine lv_l2i hx hb dX11_feed_34 rfl ?_
    refine rw_sipush hx hb dX11_feed_35 (by decide) ?_
    refine lv_iand hx hb dX11_feed_38 ?_
    rw [← iN_self (((v >>> ((iN 48).toInt64 &&& 63)).toInt32) &&& iN 255)]
    refine rw_iast hx hb hW hnt4 4 lm_4 (v := (((v >>> ((iN 48).toInt64 &&& 63)).toInt32) &&& iN 255).toInt) (by omega) (by omega) (by decide) dX11_feed_39 (fun H locs hW => ?_)
    obtain ⟨M3, hM3⟩ : ∃ z, z = upd2 M2 4 ((M 0 9) + 1) ((((v >>> ((iN 48).toInt64 &&& 63)).toInt32) &&& iN 255).toInt) := ⟨_, rfl⟩
    rw [← hM3] at hW
    refine lv_aload_n hx hb dX11_feed_40 rfl (lv_at hl 1 rfl) ?_
    refine lv_dup hx hb dX11_feed_41 rfl ?_
    refine rw_getI hx hb hts hown hW 0 lm_0 9 9 rfl rfl fX11_54 dX11_feed_42 (v := ((M 0 9) + 1)) (by rw [hM3, upd2_ne1 (by omega), hM2, upd2_eq]) ?_
    refine rw_iconst hx hb dX11_feed_45 ?_
    refine rw_iadd hx hb dX11_feed_46 ?_
    refine rw_putI hx hb hts hown hW 0 lm_0 9 9 rfl rfl qX11_54 (v := ((M 0 9) + 1) + 1) dX11_feed_47 (fun H locs hW => ?_)
    obtain ⟨M4, hM4⟩ : ∃ z, z = upd2 M3 0 9 (((M 0 9) + 1) + 1) := ⟨_, rfl⟩
    rw [← hM4] at hW
    refine rw_iinc (lv' := [(3, .int (iN 40)), (0, .ref (ad 0)), (1, .long v)]) hx hb dX11_feed_50 hl (k := 0) rfl (by decide) rfl (fun ls hl => ?_)
    refine lv_goto (tgt := 19) hx hb dX11_feed_53 (by decide) ?_
    refine lv_iload_n hx hb dX11_feed_19 rfl (lv_at hl 0 rfl) ?_
    refine rw_if_lt (tgt := 56) hx hb dX11_feed_20 (by decide) (by decide) (fun c => absurd c (by decide)) (fun _ => ?_)
    refine lv_aload_n hx hb dX11_feed_23 rfl (lv_at hl 1 rfl) ?_
    refine rw_getR hx hb hts hown hW 0 lm_0 8 4 rfl fX11_23 dX11_feed_24 ?_
    refine lv_aload_n hx hb dX11_feed_27 rfl (lv_at hl 1 rfl) ?_
    refine rw_getI hx hb hts hown hW 0 lm_0 9 9 rfl rfl fX11_54 dX11_feed_28 (v := (((M 0 9) + 1) + 1)) (by rw [hM4, upd2_eq]) ?_
    refine lv_lload_n hx hb dX11_feed_31 rfl (lv_at hl 2 rfl) ?_
    refine lv_iload_n hx hb dX11_feed_32 rfl (lv_at hl 0 rfl) ?_
    refine lv_lshr hx hb dX11_feed_33 rfl ?_
    refine lv_l2i hx hb dX11_feed_34 rfl ?_
    refine rw_sipush hx hb dX11_feed_35 (by decide) ?_
    refine lv_iand hx hb dX11_feed_38 ?_
    rw [← iN_self (((v >>> ((iN 40).toInt64 &&& 63)).toInt32) &&& iN 255)]
    refine rw_iast hx hb hW hnt4 4 lm_4 (v := (((v >>> ((iN 40).toInt64 &&& 63)).toInt32) &&& iN 255).toInt) (by omega) (by omega) (by decide) dX11_feed_39 (fun H locs hW => ?_)
    obtain ⟨M5, hM5⟩ : ∃ z, z = upd2 M4 4 (((M 0 9) + 1) + 1) ((((v >>> ((iN 40).toInt64 &&& 63)).toInt32) &&& iN 255).toInt) := ⟨_, rfl⟩
    rw [← hM5] at hW
    refine lv_aload_n hx hb dX11_feed_40 rfl (lv_at hl 1 rfl) ?_
    refine lv_dup hx hb dX11_feed_41 rfl ?_
    refine rw_getI hx hb hts hown hW 0 lm_0 9 9 rfl rfl fX11_54 dX11_feed_42 (v := (((M 0 9) + 1) + 1)) (by rw [hM5, upd2_ne1 (by omega), hM4, upd2_eq]) ?_
    refine rw_iconst hx hb dX11_feed_45 ?_
    refine rw_iadd hx hb dX11_feed_46 ?_
    refine rw_putI hx hb hts hown hW 0 lm_0 9 9 rfl rfl qX11_54 (v := (((M 0 9) + 1) + 1) + 1) dX11_feed_47 (fun H locs hW => ?_)
    obtain ⟨M6, hM6⟩ : ∃ z, z = upd2 M5 0 9 ((((M 0 9) + 1) + 1) + 1) := ⟨_, rfl⟩
    rw [← hM6] at hW
    refine rw_iinc (lv' := [(3, .int (iN 32)), (0, .ref (ad 0)), (1, .long v)]) hx hb dX11_feed_50 hl (k := 0) rfl (by decide) rfl (fun ls hl => ?_)
    refine lv_goto (tgt := 19) hx hb dX11_feed_53 (by decide) ?_
    refine lv_iload_n hx hb dX11_feed_19 rfl (lv_at hl 0 rfl) ?_
    refine rw_if_lt (tgt := 56) hx hb dX11_feed_20 (by decide) (by decide) (fun c => absurd c (by decide)) (fun _ => ?_)
    refine lv_aload_n hx hb dX11_feed_23 rfl (lv_at hl 1 rfl) ?_
    refine rw_getR hx hb hts hown hW 0 lm_0 8 4 rfl fX11_23 dX11_feed_24 ?_
    refine lv_aload_n hx hb dX11_feed_27 rfl (lv_at hl 1 rfl) ?_
    refine rw_getI hx hb hts hown hW 0 lm_0 9 9 rfl rfl fX11_54 dX11_feed_28 (v := ((((M 0 9) + 1) + 1) + 1)) (by rw [hM6, upd2_eq]) ?_
    refine lv_lload_n hx hb dX11_feed_31 rfl (lv_at hl 2 rfl) ?_
    refine lv_iload_n hx hb dX11_feed_32 rfl (lv_at hl 0 rfl) ?_
    refine lv_lshr hx hb dX11_feed_33 rfl ?_
    refine lv_l2i hx hb dX11_feed_34 rfl ?_
    refine rw_sipush hx hb dX11_feed_35 (by decide) ?_
    refine lv_iand hx hb dX11_feed_38 ?_
    rw [← iN_self (((v >>> ((iN 32).toInt64 &&& 63)).toInt32) &&& iN 255)]
    refine rw_iast hx hb hW hnt4 4 lm_4 (v := (((v >>> ((iN 32).toInt64 &&& 63)).toInt32) &&& iN 255).toInt) (by omega) (by omega) (by decide) dX11_feed_39 (fun H locs hW => ?_)
    obtain ⟨M7, hM7⟩ : ∃ z, z = upd2 M6 4 ((((M 0 9) + 1) + 1) + 1) ((((v >>> ((iN 32).toInt64 &&& 63)).toInt32) &&& iN 255).toInt) := ⟨_, rfl⟩
    rw [← hM7] at hW
    refine lv_aload_n hx hb dX11_feed_40 rfl (lv_at hl 1 rfl) ?_
    refine lv_dup hx hb dX11_feed_41 rfl ?_
    refine rw_getI hx hb hts hown hW 0 lm_0 9 9 rfl rfl fX11_54 dX11_feed_42 (v := ((((M 0 9) + 1) + 1) + 1)) (by rw [hM7, upd2_ne1 (by omega), hM6, upd2_eq]) ?_
    refine rw_iconst hx hb dX11_feed_45 ?_
    refine rw_iadd hx hb dX11_feed_46 ?_
    refine rw_putI hx hb hts hown hW 0 lm_0 9 9 rfl rfl qX11_54 (v := ((((M 0 9) + 1) + 1) + 1) + 1) dX11_feed_47 (fun H locs hW => ?_)
    obtain ⟨M8, hM8⟩ : ∃ z, z = upd2 M7 0 9 (((((M 0 9) + 1) + 1) + 1) + 1) := ⟨_, rfl⟩
    rw [← hM8] at hW
    refine rw_iinc (lv' := [(3, .int (iN 24)), (0, .ref (ad 0)), (1, .long v)]) hx hb dX11_feed_50 hl (k := 0) rfl (by decide) rfl (fun ls hl => ?_)
    refine lv_goto (tgt := 19) hx hb dX11_feed_53 (by decide) ?_
    refine lv_iload_n hx hb dX11_feed_19 rfl (lv_at hl 0 rfl) ?_
    refine rw_if_lt (tgt := 56) hx hb dX11_feed_20 (by decide) (by decide) (fun c => absurd c (by decide)) (fun _ => ?_)
    refine lv_aload_n hx hb dX11_feed_23 rfl (lv_at hl 1 rfl) ?_
    refine rw_getR hx hb hts hown hW 0 lm_0 8 4 rfl fX11_23 dX11_feed_24 ?_
    refine lv_aload_n hx hb dX11_feed_27 rfl (lv_at hl 1 rfl) ?_
    refine rw_getI hx hb hts hown hW 0 lm_0 9 9 rfl rfl fX11_54 dX11_feed_28 (v := (((((M 0 9) + 1) + 1) + 1) + 1)) (by rw [hM8, upd2_eq]) ?_
    refine lv_lload_n hx hb dX11_feed_31 rfl (lv_at hl 2 rfl) ?_
    refine lv_iload_n hx hb dX11_feed_32 rfl (lv_at hl 0 rfl) ?_
    refine lv_lshr hx hb dX11_feed_33 rfl ?_
    refine lv_l2i hx hb dX11_feed_34 rfl ?_
    refine rw_sipush hx hb dX11_feed_35 (by decide) ?_
    refine lv_iand hx hb dX11_feed_38 ?_
    rw [← iN_self (((v >>> ((iN 24).toInt64 &&& 63)).toInt32) &&& iN 255)]
    refine rw_iast hx hb hW hnt4 4 lm_4 (v := (((v >>> ((iN 24).toInt64 &&& 63)).toInt32) &&& iN 255).toInt) (by omega) (by omega) (by decide) dX11_feed_39 (fun H locs hW => ?_)
    obtain ⟨M9, hM9⟩ : ∃ z, z = upd2 M8 4 (((((M 0 9) + 1) + 1) + 1) + 1) ((((v >>> ((iN 24).toInt64 &&& 63)).toInt32) &&& iN 255).toInt) := ⟨_, rfl⟩
    rw [← hM9] at hW
    refine lv_aload_n hx hb dX11_feed_40 rfl (lv_at hl 1 rfl) ?_
    refine lv_dup hx hb dX11_feed_41 rfl ?_
    refine rw_getI hx hb hts hown hW 0 lm_0 9 9 rfl rfl fX11_54 dX11_feed_42 (v := (((((M 0 9) + 1) + 1) + 1) + 1)) (by rw [hM9, upd2_ne1 (by omega), hM8, upd2_eq]) ?_
    refine rw_iconst hx hb dX11_feed_45 ?_
    refine rw_iadd hx hb dX11_feed_46 ?_
    refine rw_putI hx hb hts hown hW 0 lm_0 9 9 rfl rfl qX11_54 (v := (((((M 0 9) + 1) + 1) + 1) + 1) + 1) dX11_feed_47 (fun H locs hW => ?_)
    obtain ⟨M10, hM10⟩ : ∃ z, z = upd2 M9 0 9 ((((((M 0 9) + 1) + 1) + 1) + 1) + 1) := ⟨_, rfl⟩
    rw [← hM10] at hW
    refine rw_iinc (lv' := [(3, .int (iN 16)), (0, .ref (ad 0)), (1, .long v)]) hx hb dX11_feed_50 hl (k := 0) rfl (by decide) rfl (fun ls hl => ?_)
    refine lv_goto (tgt := 19) hx hb dX11_feed_53 (by decide) ?_
    refine lv_iload_n hx hb dX11_feed_19 rfl (lv_at hl 0 rfl) ?_
    refine rw_if_lt (tgt := 56) hx hb dX11_feed_20 (by decide) (by decide) (fun c => absurd c (by decide)) (fun _ => ?_)
    refine lv_aload_n hx hb dX11_feed_23 rfl (lv_at hl 1 rfl) ?_
    refine rw_getR hx hb hts hown hW 0 lm_0 8 4 rfl fX11_23 dX11_feed_24 ?_
    refine lv_aload_n hx hb dX11_feed_27 rfl (lv_at hl 1 rfl) ?_
    refine rw_getI hx hb hts hown hW 0 lm_0 9 9 rfl rfl fX11_54 dX11_feed_28 (v := ((((((M 0 9) + 1) + 1) + 1) + 1) + 1)) (by rw [hM10, upd2_eq]) ?_
    refine lv_lload_n hx hb dX11_feed_31 rfl (lv_at hl 2 rfl) ?_
    refine lv_iload_n hx hb dX11_feed_32 rfl (lv_at hl 0 rfl) ?_
    refine lv_lshr hx hb dX11_feed_33 rfl ?_
    refine lv_l2i hx hb dX11_feed_34 rfl ?_
    refine rw_sipush hx hb dX11_feed_35 (by decide) ?_
    refine lv_iand hx hb dX11_feed_38 ?_
    rw [← iN_self (((v >>> ((iN 16).toInt64 &&& 63)).toInt32) &&& iN 255)]
    refine rw_iast hx hb hW hnt4 4 lm_4 (v := (((v >>> ((iN 16).toInt64 &&& 63)).toInt32) &&& iN 255).toInt) (by omega) (by omega) (by decide) dX11_feed_39 (fun H locs hW => ?_)
    obtain ⟨M11, hM11⟩ : ∃ z, z = upd2 M10 4 ((((((M 0 9) + 1) + 1) + 1) + 1) + 1) ((((v >>> ((iN 16).toInt64 &&& 63)).toInt32) &&& iN 255).toInt) := ⟨_, rfl⟩
    rw [← hM11] at hW
    refine lv_aload_n hx hb dX11_feed_40 rfl (lv_at hl 1 rfl) ?_
    refine lv_dup hx hb dX11_feed_41 rfl ?_
    refine rw_getI hx hb hts hown hW 0 lm_0 9 9 rfl rfl fX11_54 dX11_feed_42 (v := ((((((M 0 9) + 1) + 1) + 1) + 1) + 1)) (by rw [hM11, upd2_ne1 (by omega), hM10, upd2_eq]) ?_
    refine rw_iconst hx hb dX11_feed_45 ?_
    refine rw_iadd hx hb dX11_feed_46 ?_
    refine rw_putI hx hb hts hown hW 0 lm_0 9 9 rfl rfl qX11_54 (v := ((((((M 0 9) + 1) + 1) + 1) + 1) + 1) + 1) dX11_feed_47 (fun H locs hW => ?_)
    obtain ⟨M12, hM12⟩ : ∃ z, z = upd2 M11 0 9 (((((((M 0 9) + 1) + 1) + 1) + 1) + 1) + 1) := ⟨_, rfl⟩
    rw [← hM12] at hW
    refine rw_iinc (lv' := [(3, .int (iN 8)), (0, .ref (ad 0)), (1, .long v)]) hx hb dX11_feed_50 hl (k := 0) rfl (by decide) rfl (fun ls hl => ?_)
    refine lv_goto (tgt := 19) hx hb dX11_feed_53 (by decide) ?_
    refine lv_iload_n hx hb dX11_feed_19 rfl (lv_at hl 0 rfl) ?_
    refine rw_if_lt (tgt := 56) hx hb dX11_feed_20 (by decide) (by decide) (fun c => absurd c (by decide)) (fun _ => ?_)
    refine lv_aload_n hx hb dX11_feed_23 rfl (lv_at hl 1 rfl) ?_
    refine rw_getR hx hb hts hown hW 0 lm_0 8 4 rfl fX11_23 dX11_feed_24 ?_
    refine lv_aload_n hx hb dX11_feed_27 rfl (lv_at hl 1 rfl) ?_
    refine rw_getI hx hb hts hown hW 0 lm_0 9 9 rfl rfl fX11_54 dX11_feed_28 (v := (((((((M 0 9) + 1) + 1) + 1) + 1) + 1) + 1)) (by rw [hM12, upd2_eq]) ?_
    refine lv_lload_n hx hb dX11_feed_31 rfl (lv_at hl 2 rfl) ?_
    refine lv_iload_n hx hb dX11_feed_32 rfl (lv_at hl 0 rfl) ?_
    refine lv_lshr hx hb dX11_feed_33 rfl ?_
    refine lv_l2i hx hb dX11_feed_34 rfl ?_
    refine rw_sipush hx hb dX11_feed_35 (by decide) ?_
    refine lv_iand hx hb dX11_feed_38 ?_
    rw [← iN_self (((v >>> ((iN 8).toInt64 &&& 63)).toInt32) &&& iN 255)]
    refine rw_iast hx hb hW hnt4 4 lm_4 (v := (((v >>> ((iN 8).toInt64 &&& 63)).toInt32) &&& iN 255).toInt) (by omega) (by omega) (by decide) dX11_feed_39 (fun H locs hW => ?_)
    obtain ⟨M13, hM13⟩ : ∃ z, z = upd2 M12 4 (((((((M 0 9) + 1) + 1) + 1) + 1) + 1) + 1) ((((v >>> ((iN 8).toInt64 &&& 63)).toInt32) &&& iN 255).toInt) := ⟨_, rfl⟩
    rw [← hM13] at hW
    refine lv_aload_n hx hb dX11_feed_40 rfl (lv_at hl 1 rfl) ?_
    refine lv_dup hx hb dX11_feed_41 rfl ?_
    refine rw_getI hx hb hts hown hW 0 lm_0 9 9 rfl rfl fX11_54 dX11_feed_42 (v := (((((((M 0 9) + 1) + 1) + 1) + 1) + 1) + 1)) (by rw [hM13, upd2_ne1 (by omega), hM12, upd2_eq]) ?_
    refine rw_iconst hx hb dX11_feed_45 ?_
    refine rw_iadd hx hb dX11_feed_46 ?_
    refine rw_putI hx hb hts hown hW 0 lm_0 9 9 rfl rfl qX11_54 (v := (((((((M 0 9) + 1) + 1) + 1) + 1) + 1) + 1) + 1) dX11_feed_47 (fun H locs hW => ?_)
    obtain ⟨M14, hM14⟩ : ∃ z, z = upd2 M13 0 9 ((((((((M 0 9) + 1) + 1) + 1) + 1) + 1) + 1) + 1) := ⟨_, rfl⟩
    rw [← hM14] at hW
    refine rw_iinc (lv' := [(3, .int (iN 0)), (0, .ref (ad 0)), (1, .long v)]) hx hb dX11_feed_50 hl (k := 0) rfl (by decide) rfl (fun ls hl => ?_)
    refine lv_goto (tgt := 19) hx hb dX11_feed_53 (by decide) ?_
    refine lv_iload_n hx hb dX11_feed_19 rfl (lv_at hl 0 rfl) ?_
    refine rw_if_lt (tgt := 56) hx hb dX11_feed_20 (by decide) (by decide) (fun c => absurd c (by decide)) (fun _ => ?_)
    refine lv_aload_n hx hb dX11_feed_23 rfl (lv_at hl 1 rfl) ?_
    refine rw_getR hx hb hts hown hW 0 lm_0 8 4 rfl fX11_23 dX11_feed_24 ?_
    refine lv_aload_n hx hb dX11_feed_27 rfl (lv_at hl 1 rfl) ?_
    refine rw_getI hx hb hts hown hW 0 lm_0 9 9 rfl rfl fX11_54 dX11_feed_28 (v := ((((((((M 0 9) + 1) + 1) + 1) + 1) + 1) + 1) + 1)) (by rw [hM14, upd2_eq]) ?_
    refine lv_lload_n hx hb dX11_feed_31 rfl (lv_at hl 2 rfl) ?_
    refine lv_iload_n hx hb dX11_feed_32 rfl (lv_at hl 0 rfl) ?_
    refine lv_lshr hx hb dX11_feed_33 rfl ?_
    refine lv_l2i hx hb dX11_feed_34 rfl ?_
    refine rw_sipush hx hb dX11_feed_35 (by decide) ?_
    refine lv_iand hx hb dX11_feed_38 ?_
    rw [← iN_self (((v >>> ((iN 0).toInt64 &&& 63)).toInt32) &&& iN 255)]
    refine rw_iast hx hb hW hnt4 4 lm_4 (v := (((v >>> ((iN 0).toInt64 &&& 63)).toInt32) &&& iN 255).toInt) (by omega) (by omega) (by decide) dX11_feed_39 (fun H locs hW => ?_)
    obtain ⟨M15, hM15⟩ : ∃ z, z = upd2 M14 4 ((((((((M 0 9) + 1) + 1) + 1) + 1) + 1) + 1) + 1) ((((v >>> ((iN 0).toInt64 &&& 63)).toInt32) &&& iN 255).toInt) := ⟨_, rfl⟩
    rw [← hM15] at hW
    refine lv_aload_n hx hb dX11_feed_40 rfl (lv_at hl 1 rfl) ?_
    refine lv_dup hx hb dX11_feed_41 rfl ?_
    refine rw_getI hx hb hts hown hW 0 lm_0 9 9 rfl rfl fX11_54 dX11_feed_42 (v := ((((((((M 0 9) + 1) + 1) + 1) + 1) + 1) + 1) + 1)) (by rw [hM15, upd2_ne1 (by omega), hM14, upd2_eq]) ?_
    refine rw_iconst hx hb dX11_feed_45 ?_
    refine rw_iadd hx hb dX11_feed_46 ?_
    refine rw_putI hx hb hts hown hW 0 lm_0 9 9 rfl rfl qX11_54 (v := ((((((((M 0 9) + 1) + 1) + 1) + 1) + 1) + 1) + 1) + 1) dX11_feed_47 (fun H locs hW => ?_)
    obtain ⟨M16, hM16⟩ : ∃ z, z = upd2 M15 0 9 (((((((((M 0 9) + 1) + 1) + 1) + 1) + 1) + 1) + 1) + 1) := ⟨_, rfl⟩
    rw [← hM16] at hW
    refine rw_iinc (lv' := [(3, .int (iN (-8))), (0, .ref (ad 0)), (1, .long v)]) hx hb dX11_feed_50 hl (k := 0) rfl (by decide) rfl (fun ls hl => ?_)
    refine lv_goto (tgt := 19) hx hb dX11_feed_53 (by decide) ?_
    refine lv_iload_n hx hb dX11_feed_19 rfl (lv_at hl 0 rfl) ?_
    refine rw_if_lt (tgt := 56) hx hb dX11_feed_20 (by decide) (by decide) (fun _ => ?_) (fun c => absurd (by decide) c)
    refine lv_aload_n hx hb dX11_feed_56 rfl (lv_at hl 1 rfl) ?_
    refine rw_getI hx hb hts hown hW 0 lm_0 9 9 rfl rfl fX11_54 dX11_feed_57 (v := (((((((((M 0 9) + 1) + 1) + 1) + 1) + 1) + 1) + 1) + 1)) (by rw [hM16, upd2_eq]) ?_
    refine rw_iret hx hb hr hlocks hW dX11_feed_60 (⟨(((((((((M 0 9) + 1) + 1) + 1) + 1) + 1) + 1) + 1) + 1), rfl, ?_⟩)
    refine Or.inl ⟨by omega, by omega, ?_, fun j h1 h2 => ?_, fun i h1 => ?_, fun q j h1 h2 => ?_⟩
    · simp only [hM1, hM2, hM3, hM4, hM5, hM6, hM7, hM8, hM9, hM10, hM11, hM12, hM13, hM14, hM15, hM16, upd2_at]; simp; omega
    · rcases (show j = 0 ∨ j = 1 ∨ j = 2 ∨ j = 3 ∨ j = 4 ∨ j = 5 ∨ j = 6 ∨ j = 7 by omega) with rfl | rfl | rfl | rfl | rfl | rfl | rfl | rfl <;> (simp only [hM1, hM2, hM3, hM4, hM5, hM6, hM7, hM8, hM9, hM10, hM11, hM12, hM13, hM14, hM15, hM16, upd2_at]; simp [bytR]; (try (repeat' split) <;> first | rfl | omega))
    · simp only [hM1, hM2, hM3, hM4, hM5, hM6, hM7, hM8, hM9, hM10, hM11, hM12, hM13, hM14, hM15, hM16, upd2_at]; simp; (repeat' rw [if_neg (by omega)])
    · simp only [hM1, hM2, hM3, hM4, hM5, hM6, hM7, hM8, hM9, hM10, hM11, hM12, hM13, hM14, hM15, hM16, upd2_at]; simp only [h1, h2, false_and, if_false]
  · refine rw_bipush hx hb dX11_feed_13 (by decide) ?_
    refine rw_iret hx hb hr hlocks hW dX11_feed_15 (⟨(-3), rfl, ?_⟩)
    exact Or.inr ⟨by omega, rfl, rfl⟩
abbrev P_X11_lay (k : Int) (i : Int) (v : Int) (M : Mem) : Option Value → Mem → Prop := oI (fun zz MM => ((0 ≤ k ∧ k < 4) ∧ ((faultF (lnR M k) (M 12 k) (lnR M k) i 1 = 0 ∧ zz = 1 ∧ MM = upd2 M 13 (40 * k + i) (lowB (lnR M k) v)) ∨ (faultF (lnR M k) (M 12 k) (lnR M k) i 1 ≠ 0 ∧ zz = -10 - faultF (lnR M k) (M 12 k) (lnR M k) i 1 ∧ MM = M))) ∨ (¬ (0 ≤ k ∧ k < 4) ∧ zz = -1 ∧ MM = M))
set_option maxRecDepth 100000 in
set_option maxHeartbeats 4000000 in
theorem c_X11_lay {l : Launch} {G : va_G} {ad : Nat → Nat} {CA : Nat → ClassId} {nt : Nat} (hnt : 6 ≤ nt) (k : Int) (hk9 : in32 k) (i : Int) (hi9 : in32 i) (v : Int) (hv9 : in32 v) (M : Mem) (hsh : shR M) : Mt l yX11_lay cX11_lay 4 (some .int) 1 25 G ad CA nt LyM [.ref (ad 0), .int (iN k), .int (iN i), .int (iN v)] M (P_X11_lay k i v M) := by
  refine Mt.of (by decide) (Nat.le_of_ble_eq_true rfl) (fun p e s m args below meth c hx hb hr hml hts hown hlocks hnm hW ls hl => ?_)
  have hl : lv_has ls 4 [(0, .ref (ad 0)), (1, .int (iN k)), (2, .int (iN i)), (3, .int (iN v))] := hl
  have hnt4 : 4 ≤ nt := by omega
  obtain ⟨H, hH⟩ : ∃ z, z = s.heap := ⟨_, rfl⟩
  obtain ⟨locs, hlo⟩ : ∃ z : List Loc, z = [] := ⟨_, rfl⟩
  rw [← hH, ← hlo] at hW ⊢
  have hln : lnR M k = if M 11 k = -4 then -1 else M 11 k := rfl
  refine lv_iload_n hx hb dX11_lay_0 rfl (lv_at hl 1 rfl) ?_
  refine rw_i2l hx hb dX11_lay_1 (by omega) ?_
  refine lv_lconst (v := jN 0) hx hb dX11_lay_2 rfl ?_
  refine lv_ldc2 (v := 3) hx hb hown (hts _ (wm_44 _ (List.mem_of_getElem? (i := 23) rfl))) dX11_lay_3 ?_
  refine rw_stk (st' := [.long (jN 3), .long (jN 0), .long (jN k)]) (by rw [show (3 : Int64) = jN 3 from by decide]) ?_
  refine rw_callS hx hb hml hts hown hW ⟨Nat.le_refl 0, Nat.le_refl 0⟩ [.long (jN k), .long (jN 0), .long (jN 3)] (c_X11_in (l := l) (G := G) (ad := ad) (CA := CA) (nt := nt) k 0 3 (by first | omega | decide) (by first | omega | decide) (by first | omega | decide) M) kX11_57 rfl ⟨Nat.le_of_ble_eq_true rfl, Nat.le_of_ble_eq_true rfl⟩ hl.1 rfl (Nat.le_of_ble_eq_true rfl) dX11_lay_6 (fun v1 M2 H locs hp3 hW => ?_)
  obtain ⟨a4, rfl, hp3, hp3m⟩ := hp3
  rw [hp3m] at hW
  rcases hp3 with ⟨rfl, hp3⟩ | ⟨rfl, hp3⟩
  · refine rw_stk (st' := [.int (iN 1)]) rfl ?_
    refine rw_if_ne (tgt := 14) hx hb dX11_lay_9 (by decide) (by decide) (fun _ => ?_) (fun c => absurd c (by decide))
    obtain ⟨hsi1, hsi2, hsi3⟩ := hsh k (by omega) (by omega)
    refine lv_aload_n hx hb dX11_lay_14 rfl (lv_at hl 0 rfl) ?_
    refine rw_getR hx hb hts hown hW 0 lm_0 24 11 rfl fX11_45 dX11_lay_15 ?_
    refine lv_iload_n hx hb dX11_lay_18 rfl (lv_at hl 1 rfl) ?_
    refine rw_iald hx hb hW hnt4 11 lm_11 (by omega) (by omega) (by decide) dX11_lay_19 (v := (M 11 k)) rfl ?_
    refine rw_bipush hx hb dX11_lay_20 (by decide) ?_
    refine rw_icmp_ne (tgt := 28) hx hb dX11_lay_22 (by decide) (by omega) (by decide) (fun c_22 => ?_) (fun c_22 => ?_)
    · refine lv_iload_n hx hb dX11_lay_28 rfl (lv_at hl 2 rfl) ?_
      refine rw_i2l hx hb dX11_lay_29 (by omega) ?_
      refine lv_lconst (v := jN 0) hx hb dX11_lay_30 rfl ?_
      refine lv_aload_n hx hb dX11_lay_31 rfl (lv_at hl 0 rfl) ?_
      refine rw_getR hx hb hts hown hW 0 lm_0 25 12 rfl fX11_48 dX11_lay_32 ?_
      refine lv_iload_n hx hb dX11_lay_35 rfl (lv_at hl 1 rfl) ?_
      refine rw_iald hx hb hW hnt4 12 lm_12 (by omega) (by omega) (by decide) dX11_lay_36 (v := (M 12 k)) rfl ?_
      refine rw_iconst hx hb dX11_lay_37 ?_
      refine rw_isub hx hb dX11_lay_38 ?_
      refine rw_i2l hx hb dX11_lay_39 (by omega) ?_
      refine rw_callS hx hb hml hts hown hW ⟨Nat.le_refl 0, Nat.le_refl 0⟩ [.long (jN i), .long (jN 0), .long (jN ((M 12 k) - 1))] (c_X11_in (l := l) (G := G) (ad := ad) (CA := CA) (nt := nt) i 0 ((M 12 k) - 1) (by first | omega | decide) (by first | omega | decide) (by first | omega | decide) M) kX11_57 rfl ⟨Nat.le_of_ble_eq_true rfl, Nat.le_of_ble_eq_true rfl⟩ hl.1 rfl (Nat.le_of_ble_eq_true rfl) dX11_lay_40 (fun v5 M6 H locs hp7 hW => ?_)
      obtain ⟨a8, rfl, hp7, hp7m⟩ := hp7
      rw [hp7m] at hW
      rcases hp7 with ⟨rfl, hp7⟩ | ⟨rfl, hp7⟩
      · refine rw_stk (st' := [.int (iN 1)]) rfl ?_
        refine rw_if_ne (tgt := 49) hx hb dX11_lay_43 (by decide) (by decide) (fun _ => ?_) (fun c => absurd c (by decide))
        refine lv_aload_n hx hb dX11_lay_49 rfl (lv_at hl 0 rfl) ?_
        refine rw_getR hx hb hts hown hW 0 lm_0 26 13 rfl fX11_51 dX11_lay_50 ?_
        refine rw_bipush hx hb dX11_lay_53 (by decide) ?_
        refine lv_iload_n hx hb dX11_lay_55 rfl (lv_at hl 1 rfl) ?_
        refine rw_imul hx hb dX11_lay_56 ?_
        refine lv_iload_n hx hb dX11_lay_57 rfl (lv_at hl 2 rfl) ?_
        refine rw_iadd hx hb dX11_lay_58 ?_
        refine lv_aload_n hx hb dX11_lay_59 rfl (lv_at hl 0 rfl) ?_
        refine rw_getR hx hb hts hown hW 0 lm_0 24 11 rfl fX11_45 dX11_lay_60 ?_
        refine lv_iload_n hx hb dX11_lay_63 rfl (lv_at hl 1 rfl) ?_
        refine rw_iald hx hb hW hnt4 11 lm_11 (by omega) (by omega) (by decide) dX11_lay_64 (v := (M 11 k)) rfl ?_
        refine rw_if_ne (tgt := 78) hx hb dX11_lay_65 (by decide) (by omega) (fun c_65 => ?_) (fun c_65 => ?_)
        · refine lv_aload_n hx hb dX11_lay_78 rfl (lv_at hl 0 rfl) ?_
          refine rw_getR hx hb hts hown hW 0 lm_0 24 11 rfl fX11_45 dX11_lay_79 ?_
          refine lv_iload_n hx hb dX11_lay_82 rfl (lv_at hl 1 rfl) ?_
          refine rw_iald hx hb hW hnt4 11 lm_11 (by omega) (by omega) (by decide) dX11_lay_83 (v := (M 11 k)) rfl ?_
          refine rw_iconst hx hb dX11_lay_84 ?_
          refine rw_icmp_ne (tgt := 98) hx hb dX11_lay_85 (by decide) (by omega) (by decide) (fun c_85 => ?_) (fun c_85 => ?_)
          · refine lv_iload_n hx hb dX11_lay_98 rfl (lv_at hl 3 rfl) ?_
            refine rw_iast hx hb hW hnt4 13 lm_13 (v := v) (by omega) (by omega) (by decide) dX11_lay_99 (fun H locs hW => ?_)
            obtain ⟨M9, hM9⟩ : ∃ z, z = upd2 M 13 ((40 * k) + i) v := ⟨_, rfl⟩
            rw [← hM9] at hW
            refine rw_iconst hx hb dX11_lay_100 ?_
            refine rw_iret hx hb hr hlocks hW dX11_lay_101 (⟨1, rfl, ?_⟩)
            have e : faultF (lnR M k) (M 12 k) (lnR M k) i 1 = 0 := by unfold faultF; rw [if_neg (by omega), if_neg (by omega), if_neg (by omega)]
            refine Or.inl ⟨by omega, Or.inl ⟨e, rfl, ?_⟩⟩
            rw [hM9, show lnR M k = M 11 k by omega]
            unfold lowB
            rw [if_neg (by omega), if_neg (by omega)]
          · refine lv_iload_n hx hb dX11_lay_88 rfl (lv_at hl 3 rfl) ?_
            refine rw_bipush hx hb dX11_lay_89 (by decide) ?_
            refine lv_ishl hx hb dX11_lay_91 ?_
            refine rw_bipush hx hb dX11_lay_92 (by decide) ?_
            refine lv_ishr hx hb dX11_lay_94 ?_
            refine lv_goto (tgt := 99) hx hb dX11_lay_95 (by decide) ?_
            rw [← iN_self ((iN v <<< (iN 16 &&& 31)) >>> (iN 16 &&& 31))]
            refine rw_iast hx hb hW hnt4 13 lm_13 (v := ((iN v <<< (iN 16 &&& 31)) >>> (iN 16 &&& 31)).toInt) (by omega) (by omega) (by decide) dX11_lay_99 (fun H locs hW => ?_)
            obtain ⟨M10, hM10⟩ : ∃ z, z = upd2 M 13 ((40 * k) + i) (((iN v <<< (iN 16 &&& 31)) >>> (iN 16 &&& 31)).toInt) := ⟨_, rfl⟩
            rw [← hM10] at hW
            refine rw_iconst hx hb dX11_lay_100 ?_
            refine rw_iret hx hb hr hlocks hW dX11_lay_101 (⟨1, rfl, ?_⟩)
            have e : faultF (lnR M k) (M 12 k) (lnR M k) i 1 = 0 := by unfold faultF; rw [if_neg (by omega), if_neg (by omega), if_neg (by omega)]
            refine Or.inl ⟨by omega, Or.inl ⟨e, rfl, ?_⟩⟩
            rw [hM10, show lnR M k = M 11 k by omega]
            unfold lowB
            rw [if_neg (by omega), if_pos (by omega), low16]
        · refine lv_iload_n hx hb dX11_lay_68 rfl (lv_at hl 3 rfl) ?_
          refine rw_bipush hx hb dX11_lay_69 (by decide) ?_
          refine lv_ishl hx hb dX11_lay_71 ?_
          refine rw_bipush hx hb dX11_lay_72 (by decide) ?_
          refine lv_ishr hx hb dX11_lay_74 ?_
          refine lv_goto (tgt := 99) hx hb dX11_lay_75 (by decide) ?_
          rw [← iN_self ((iN v <<< (iN 24 &&& 31)) >>> (iN 24 &&& 31))]
          refine rw_iast hx hb hW hnt4 13 lm_13 (v := ((iN v <<< (iN 24 &&& 31)) >>> (iN 24 &&& 31)).toInt) (by omega) (by omega) (by decide) dX11_lay_99 (fun H locs hW => ?_)
          obtain ⟨M11, hM11⟩ : ∃ z, z = upd2 M 13 ((40 * k) + i) (((iN v <<< (iN 24 &&& 31)) >>> (iN 24 &&& 31)).toInt) := ⟨_, rfl⟩
          rw [← hM11] at hW
          refine rw_iconst hx hb dX11_lay_100 ?_
          refine rw_iret hx hb hr hlocks hW dX11_lay_101 (⟨1, rfl, ?_⟩)
          have e : faultF (lnR M k) (M 12 k) (lnR M k) i 1 = 0 := by unfold faultF; rw [if_neg (by omega), if_neg (by omega), if_neg (by omega)]
          refine Or.inl ⟨by omega, Or.inl ⟨e, rfl, ?_⟩⟩
          rw [hM11, show lnR M k = M 11 k by omega]
          unfold lowB
          rw [if_pos (by omega), low8]
      · refine rw_stk (st' := [.int (iN 0)]) rfl ?_
        refine rw_if_ne (tgt := 49) hx hb dX11_lay_43 (by decide) (by decide) (fun c => absurd c (by decide)) (fun _ => ?_)
        refine rw_bipush hx hb dX11_lay_46 (by decide) ?_
        refine rw_iret hx hb hr hlocks hW dX11_lay_48 (⟨(-12), rfl, ?_⟩)
        have e : faultF (lnR M k) (M 12 k) (lnR M k) i 1 = 2 := by unfold faultF; rw [if_neg (by omega), if_neg (by omega), if_pos (by omega)]
        exact Or.inl ⟨by omega, Or.inr ⟨by omega, by omega, rfl⟩⟩
    · refine rw_bipush hx hb dX11_lay_25 (by decide) ?_
      refine rw_iret hx hb hr hlocks hW dX11_lay_27 (⟨(-11), rfl, ?_⟩)
      have e : faultF (lnR M k) (M 12 k) (lnR M k) i 1 = 1 := by unfold faultF; rw [if_pos (by omega)]
      exact Or.inl ⟨by omega, Or.inr ⟨by omega, by omega, rfl⟩⟩
  · refine rw_stk (st' := [.int (iN 0)]) rfl ?_
    refine rw_if_ne (tgt := 14) hx hb dX11_lay_9 (by decide) (by decide) (fun c => absurd c (by decide)) (fun _ => ?_)
    refine rw_iconst hx hb dX11_lay_12 ?_
    refine rw_iret hx hb hr hlocks hW dX11_lay_13 (⟨(-1), rfl, ?_⟩)
    exact Or.inr ⟨by omega, rfl, rfl⟩
abbrev P_X11_read (k : Int) (x : Int) (fr : Int) (n : Int) (M : Mem) : Option Value → Mem → Prop := oI (fun zz MM => (((0 ≤ k ∧ k < 4) ∧ (0 ≤ x ∧ x ≤ 2) ∧ 0 ≤ n ∧ n ≤ 20) ∧ 0 ≤ (readF (lnR M k) (M 12 k) (rowR M k) x fr (n).toNat 0 (pg M 0)).1 ∧ zz = (readF (lnR M k) (M 12 k) (rowR M k) x fr (n).toNat 0 (pg M 0)).1 ∧ pg MM 0 = (readF (lnR M k) (M 12 k) (rowR M k) x fr (n).toNat 0 (pg M 0)).2.2 ∧ MM 0 27 = (readF (lnR M k) (M 12 k) (rowR M k) x fr (n).toNat 0 (pg M 0)).2.1 ∧ (∀ (q : Nat) (j : Int), ¬ (q = 0 ∧ j = 27) → q ≠ 1 → MM q j = M q j) ∧ ∀ j, 47 ≤ j → (j < 141 ∨ 188 ≤ j) → MM 1 j = M 1 j) ∨ (((0 ≤ k ∧ k < 4) ∧ (0 ≤ x ∧ x ≤ 2) ∧ 0 ≤ n ∧ n ≤ 20) ∧ (readF (lnR M k) (M 12 k) (rowR M k) x fr (n).toNat 0 (pg M 0)).1 < 0 ∧ zz = (readF (lnR M k) (M 12 k) (rowR M k) x fr (n).toNat 0 (pg M 0)).1 ∧ pg MM 0 = pg M 0 ∧ SameR M MM) ∨ (¬ ((0 ≤ k ∧ k < 4) ∧ (0 ≤ x ∧ x ≤ 2) ∧ 0 ≤ n ∧ n ≤ 20) ∧ zz = -1 ∧ MM = M))
set_option maxRecDepth 100000 in
set_option maxHeartbeats 4000000 in
theorem c_X11_read {l : Launch} {G : va_G} {ad : Nat → Nat} {CA : Nat → ClassId} {nt : Nat} (hnt : 6 ≤ nt) (k : Int) (hk9 : in32 k) (x : Int) (hx9 : in32 x) (fr : Int) (hfr9 : in32 fr) (n : Int) (hn9 : in32 n) (M : Mem) (hsh : shR M) (hI : InvF (pg M 0)) (hm : pg M 0 46 ≤ 999) : Mt l yX11_read cX11_read 9 (some .int) 5 122 G ad CA nt LyM [.ref (ad 0), .int (iN k), .int (iN x), .int (iN fr), .int (iN n)] M (P_X11_read k x fr n M) := by
  refine Mt.of (by decide) (Nat.le_of_ble_eq_true rfl) (fun p e s m args below meth c hx hb hr hml hts hown hlocks hnm hW ls hl => ?_)
  have hl : lv_has ls 9 [(0, .ref (ad 0)), (1, .int (iN k)), (2, .int (iN x)), (3, .int (iN fr)), (4, .int (iN n))] := hl
  have hnt4 : 4 ≤ nt := by omega
  obtain ⟨H, hH⟩ : ∃ z, z = s.heap := ⟨_, rfl⟩
  obtain ⟨locs, hlo⟩ : ∃ z : List Loc, z = [] := ⟨_, rfl⟩
  rw [← hH, ← hlo] at hW ⊢
  have hln : lnR M k = if M 11 k = -4 then -1 else M 11 k := rfl
  refine lv_iload_n hx hb dX11_read_0 rfl (lv_at hl 1 rfl) ?_
  refine rw_i2l hx hb dX11_read_1 (by omega) ?_
  refine lv_lconst (v := jN 0) hx hb dX11_read_2 rfl ?_
  refine lv_ldc2 (v := 3) hx hb hown (hts _ (wm_44 _ (List.mem_of_getElem? (i := 23) rfl))) dX11_read_3 ?_
  refine rw_stk (st' := [.long (jN 3), .long (jN 0), .long (jN k)]) (by rw [show (3 : Int64) = jN 3 from by decide]) ?_
  refine rw_callS hx hb hml hts hown hW ⟨Nat.le_refl 0, Nat.le_refl 0⟩ [.long (jN k), .long (jN 0), .long (jN 3)] (c_X11_in (l := l) (G := G) (ad := ad) (CA := CA) (nt := nt) k 0 3 (by first | omega | decide) (by first | omega | decide) (by first | omega | decide) M) kX11_57 rfl ⟨Nat.le_of_ble_eq_true rfl, Nat.le_of_ble_eq_true rfl⟩ hl.1 rfl (Nat.le_of_ble_eq_true rfl) dX11_read_6 (fun v1 M2 H locs hp3 hW => ?_)
  obtain ⟨a4, rfl, hp3, hp3m⟩ := hp3
  rw [hp3m] at hW
  rcases hp3 with ⟨rfl, hp3⟩ | ⟨rfl, hp3⟩
  · refine rw_stk (st' := [.int (iN 1)]) rfl ?_
    refine rw_if_eq (tgt := 37) hx hb dX11_read_9 (by decide) (by decide) (fun c => absurd c (by decide)) (fun _ => ?_)
    refine lv_iload_n hx hb dX11_read_12 rfl (lv_at hl 2 rfl) ?_
    refine rw_i2l hx hb dX11_read_13 (by omega) ?_
    refine lv_lconst (v := jN 0) hx hb dX11_read_14 rfl ?_
    refine lv_ldc2 (v := 2) hx hb hown (hts _ (wm_20 _ (List.mem_of_getElem? (i := 4) rfl))) dX11_read_15 ?_
    refine rw_stk (st' := [.long (jN 2), .long (jN 0), .long (jN x)]) (by rw [show (2 : Int64) = jN 2 from by decide]) ?_
    refine rw_callS hx hb hml hts hown hW ⟨Nat.le_refl 0, Nat.le_refl 0⟩ [.long (jN x), .long (jN 0), .long (jN 2)] (c_X11_in (l := l) (G := G) (ad := ad) (CA := CA) (nt := nt) x 0 2 (by first | omega | decide) (by first | omega | decide) (by first | omega | decide) M) kX11_57 rfl ⟨Nat.le_of_ble_eq_true rfl, Nat.le_of_ble_eq_true rfl⟩ hl.1 rfl (Nat.le_of_ble_eq_true rfl) dX11_read_18 (fun v5 M6 H locs hp7 hW => ?_)
    obtain ⟨a8, rfl, hp7, hp7m⟩ := hp7
    rw [hp7m] at hW
    rcases hp7 with ⟨rfl, hp7⟩ | ⟨rfl, hp7⟩
    · refine rw_stk (st' := [.int (iN 1)]) rfl ?_
      refine rw_if_eq (tgt := 37) hx hb dX11_read_21 (by decide) (by decide) (fun c => absurd c (by decide)) (fun _ => ?_)
      refine lv_iload hx hb dX11_read_24 (lv_at hl 4 rfl) ?_
      refine rw_i2l hx hb dX11_read_26 (by omega) ?_
      refine lv_lconst (v := jN 0) hx hb dX11_read_27 rfl ?_
      refine lv_ldc2 (v := 20) hx hb hown (hts _ (wm_39 _ (List.mem_of_getElem? (i := 8) rfl))) dX11_read_28 ?_
      refine rw_stk (st' := [.long (jN 20), .long (jN 0), .long (jN n)]) (by rw [show (20 : Int64) = jN 20 from by decide]) ?_
      refine rw_callS hx hb hml hts hown hW ⟨Nat.le_refl 0, Nat.le_refl 0⟩ [.long (jN n), .long (jN 0), .long (jN 20)] (c_X11_in (l := l) (G := G) (ad := ad) (CA := CA) (nt := nt) n 0 20 (by first | omega | decide) (by first | omega | decide) (by first | omega | decide) M) kX11_57 rfl ⟨Nat.le_of_ble_eq_true rfl, Nat.le_of_ble_eq_true rfl⟩ hl.1 rfl (Nat.le_of_ble_eq_true rfl) dX11_read_31 (fun v9 M10 H locs hp11 hW => ?_)
      obtain ⟨a12, rfl, hp11, hp11m⟩ := hp11
      rw [hp11m] at hW
      rcases hp11 with ⟨rfl, hp11⟩ | ⟨rfl, hp11⟩
      · refine rw_stk (st' := [.int (iN 1)]) rfl ?_
        refine rw_if_ne (tgt := 39) hx hb dX11_read_34 (by decide) (by decide) (fun _ => ?_) (fun c => absurd c (by decide))
        refine lv_aload_n hx hb dX11_read_39 rfl (lv_at hl 0 rfl) ?_
        refine rw_iconst hx hb dX11_read_40 ?_
        refine rw_sipush hx hb dX11_read_41 (by decide) ?_
        refine rw_callV hx hb hml hts hown hW ⟨Nat.le_refl 0, Nat.le_refl 0⟩ [.int (iN 0), .int (iN 141)] 0 lm_0 rfl (c_X11_copies (l := l) (G := G) (ad := ad) (CA := CA) (nt := nt) (by omega) 0 141 (by first | omega | decide) (by first | omega | decide) (by first | omega | decide) M) kX11_212 rfl ⟨Nat.le_of_ble_eq_true rfl, Nat.le_of_ble_eq_true rfl⟩ hl.1 rfl (Nat.le_of_ble_eq_true rfl) dX11_read_44 (fun v13 M14 H locs hp15 hW => ?_)
        obtain ⟨rfl, hM14⟩ := hp15
        refine rw_stk (st' := []) rfl ?_
        refine rw_iconst hx hb dX11_read_47 ?_
        refine lv_istore (lv' := [(5, .int (iN 0)), (0, .ref (ad 0)), (1, .int (iN k)), (2, .int (iN x)), (3, .int (iN fr)), (4, .int (iN n))]) hx hb dX11_read_48 hl (by decide) rfl (fun ls hl => ?_)
        refine rw_iconst hx hb dX11_read_50 ?_
        refine lv_istore (lv' := [(6, .int (iN 0)), (5, .int (iN 0)), (0, .ref (ad 0)), (1, .int (iN k)), (2, .int (iN x)), (3, .int (iN fr)), (4, .int (iN n))]) hx hb dX11_read_51 hl (by decide) rfl (fun ls hl => ?_)
        have e0 : pg M14 0 = pg M 0 := pg_same hM14.2 (by decide)
        obtain ⟨hsi1, hsi2, hsi3⟩ := hsh k (by omega) (by omega)
        refine rw_iconst hx hb dX11_read_53 ?_
        refine lv_istore (lv' := [(7, .int (iN 0)), (6, .int (iN 0)), (5, .int (iN 0)), (0, .ref (ad 0)), (1, .int (iN k)), (2, .int (iN x)), (3, .int (iN fr)), (4, .int (iN n))]) hx hb dX11_read_54 hl (by decide) rfl (fun ls hl => ?_)
        have hC_56 : ∀ N : Nat, ∀ (by0 : Int) (w : Int) (i : Int) (Mx : Mem) (H : Heap) (locs : List Loc) (ls : Array Slot), (2 * n - i).toNat < N → (0 ≤ i ∧ i ≤ 2 * n) → (0 ≤ by0 ∧ by0 ≤ 3) → (0 ≤ w ∧ w ≤ n ∧ 2 * w ≤ i) → (SameR M Mx) → (pg Mx 141 = pg M 0) → (InvF (pg Mx 0) ∧ pg Mx 0 46 ≤ 999) → (by0 = 0 → (i = 2 * w ∨ (i = 2 * w + 1 ∧ 0 ≤ fr + 2 * w ∧ fr + 2 * w < M 12 k ∧ lnR M k = x)) ∧ readF (lnR M k) (M 12 k) (rowR M k) x fr (n - w).toNat w (pg Mx 0) = readF (lnR M k) (M 12 k) (rowR M k) x fr (n).toNat 0 (pg M 0)) → (by0 ≠ 0 → readF (lnR M k) (M 12 k) (rowR M k) x fr (n).toNat 0 (pg M 0) = (w, by0, pg Mx 0)) → Wo G ad CA nt LyM (wA ad LyM) s Mx H locs → lv_has ls 9 [(0, .ref (ad 0)), (1, .int (iN k)), (2, .int (iN x)), (3, .int (iN fr)), (4, .int (iN n)), (5, .int (iN by0)), (6, .int (iN w)), (7, .int (iN i))] → Wf l 5 122 G ad CA nt LyM (P_X11_read k x fr n M) p e s m args below meth c H locs (F0 m 56 ls []) := by
          intro N
          induction N with
          | zero => intro by0 w i Mx H locs ls hN; exact absurd hN (Nat.not_lt_zero _)
          | succ N ih56 =>
            intro by0 w i Mx H locs ls hN hi hby hw hs h141 hJ hgo hend hW hl
            have hx11 : Mx 11 = M 11 := hs.1 11 (by decide)
            have hx12 : Mx 12 k = M 12 k := congrFun (hs.1 12 (by decide)) k
            refine lv_iload hx hb dX11_read_56 (lv_at hl 7 rfl) ?_
            refine rw_iconst hx hb dX11_read_58 ?_
            refine lv_iload hx hb dX11_read_59 (lv_at hl 4 rfl) ?_
            refine rw_imul hx hb dX11_read_61 ?_
            refine rw_icmp_ge (tgt := 199) hx hb dX11_read_62 (by decide) (by omega) (by omega) (fun c_62 => ?_) (fun c_62 => ?_)
            · refine lv_aload_n hx hb dX11_read_199 rfl (lv_at hl 0 rfl) ?_
              refine lv_iload hx hb dX11_read_200 (lv_at hl 5 rfl) ?_
              refine rw_putI hx hb hts hown hW 0 lm_0 27 27 rfl rfl qX11_252 (v := by0) dX11_read_202 (fun H locs hW => ?_)
              obtain ⟨M16, hM16⟩ : ∃ z, z = upd2 Mx 0 27 by0 := ⟨_, rfl⟩
              rw [← hM16] at hW
              refine lv_iload hx hb dX11_read_205 (lv_at hl 6 rfl) ?_
              refine rw_iret hx hb hr hlocks hW dX11_read_207 (⟨w, rfl, ?_⟩)
              have hR : readF (lnR M k) (M 12 k) (rowR M k) x fr (n).toNat 0 (pg M 0) = (w, by0, pg Mx 0) := by
                by_cases e : by0 = 0
                · obtain ⟨z1, z2⟩ := hgo e; rw [← z2, show (n - w).toNat = 0 by omega, readF_0, e]
                · exact hend e
              refine Or.inl ⟨by omega, by rw [hR]; show 0 ≤ w; omega, by rw [hR], ?_, by rw [hR, hM16, upd2_eq], fun q j z1 z2 => ?_, fun j z1 z2 => ?_⟩
              · rw [hR]; exact pg_eq (by rw [hM16, upd2_ne2 (by decide)]) (fun j _ _ => by rw [hM16, upd2_ne1 (by decide)])
              · rw [hM16, upd2_at, if_neg z1, hs.1 q z2]
              · rw [hM16, upd2_ne1 (by decide)]; exact hs.2 j z1 z2
            · refine lv_iload hx hb dX11_read_65 (lv_at hl 5 rfl) ?_
              refine rw_if_ne (tgt := 199) hx hb dX11_read_67 (by decide) (by omega) (fun c_67 => ?_) (fun c_67 => ?_)
              · refine lv_aload_n hx hb dX11_read_199 rfl (lv_at hl 0 rfl) ?_
                refine lv_iload hx hb dX11_read_200 (lv_at hl 5 rfl) ?_
                refine rw_putI hx hb hts hown hW 0 lm_0 27 27 rfl rfl qX11_252 (v := by0) dX11_read_202 (fun H locs hW => ?_)
                obtain ⟨M17, hM17⟩ : ∃ z, z = upd2 Mx 0 27 by0 := ⟨_, rfl⟩
                rw [← hM17] at hW
                refine lv_iload hx hb dX11_read_205 (lv_at hl 6 rfl) ?_
                refine rw_iret hx hb hr hlocks hW dX11_read_207 (⟨w, rfl, ?_⟩)
                have hR : readF (lnR M k) (M 12 k) (rowR M k) x fr (n).toNat 0 (pg M 0) = (w, by0, pg Mx 0) := hend (by omega)
                refine Or.inl ⟨by omega, by rw [hR]; show 0 ≤ w; omega, by rw [hR], ?_, by rw [hR, hM17, upd2_eq], fun q j z1 z2 => ?_, fun j z1 z2 => ?_⟩
                · rw [hR]; exact pg_eq (by rw [hM17, upd2_ne2 (by decide)]) (fun j _ _ => by rw [hM17, upd2_ne1 (by decide)])
                · rw [hM17, upd2_at, if_neg z1, hs.1 q z2]
                · rw [hM17, upd2_ne1 (by decide)]; exact hs.2 j z1 z2
              · obtain ⟨hpar, hrd⟩ := hgo (by omega)
                refine lv_aload_n hx hb dX11_read_70 rfl (lv_at hl 0 rfl) ?_
                refine rw_getR hx hb hts hown hW 0 lm_0 24 11 rfl fX11_45 dX11_read_71 ?_
                refine lv_iload_n hx hb dX11_read_74 rfl (lv_at hl 1 rfl) ?_
                refine rw_iald hx hb hW hnt4 11 lm_11 (by omega) (by omega) (by decide) dX11_read_75 (v := (M 11 k)) (by rw [hs.1 11 (by decide)]) ?_
                refine rw_bipush hx hb dX11_read_76 (by decide) ?_
                refine rw_icmp_ne (tgt := 85) hx hb dX11_read_78 (by decide) (by omega) (by decide) (fun c_78 => ?_) (fun c_78 => ?_)
                · refine lv_aload_n hx hb dX11_read_85 rfl (lv_at hl 0 rfl) ?_
                  refine rw_getR hx hb hts hown hW 0 lm_0 24 11 rfl fX11_45 dX11_read_86 ?_
                  refine lv_iload_n hx hb dX11_read_89 rfl (lv_at hl 1 rfl) ?_
                  refine rw_iald hx hb hW hnt4 11 lm_11 (by omega) (by omega) (by decide) dX11_read_90 (v := (M 11 k)) (by rw [hs.1 11 (by decide)]) ?_
                  refine lv_iload_n hx hb dX11_read_91 rfl (lv_at hl 2 rfl) ?_
                  refine rw_icmp_eq (tgt := 99) hx hb dX11_read_92 (by decide) (by omega) (by omega) (fun c_92 => ?_) (fun c_92 => ?_)
                  · refine lv_iload_n hx hb dX11_read_99 rfl (lv_at hl 3 rfl) ?_
                    refine rw_i2l hx hb dX11_read_100 (by omega) ?_
                    refine lv_iload hx hb dX11_read_101 (lv_at hl 7 rfl) ?_
                    refine rw_i2l hx hb dX11_read_103 (by omega) ?_
                    refine rw_ladd hx hb dX11_read_104 ?_
                    refine lv_lconst (v := jN 0) hx hb dX11_read_105 rfl ?_
                    refine lv_aload_n hx hb dX11_read_106 rfl (lv_at hl 0 rfl) ?_
                    refine rw_getR hx hb hts hown hW 0 lm_0 25 12 rfl fX11_48 dX11_read_107 ?_
                    refine lv_iload_n hx hb dX11_read_110 rfl (lv_at hl 1 rfl) ?_
                    refine rw_iald hx hb hW hnt4 12 lm_12 (by omega) (by omega) (by decide) dX11_read_111 (v := (M 12 k)) (by rw [hs.1 12 (by decide)]) ?_
                    refine rw_iconst hx hb dX11_read_112 ?_
                    refine rw_isub hx hb dX11_read_113 ?_
                    refine rw_i2l hx hb dX11_read_114 (by omega) ?_
                    refine rw_callS hx hb hml hts hown hW ⟨Nat.le_refl 0, Nat.le_refl 0⟩ [.long (jN (fr + i)), .long (jN 0), .long (jN ((M 12 k) - 1))] (c_X11_in (l := l) (G := G) (ad := ad) (CA := CA) (nt := nt) (fr + i) 0 ((M 12 k) - 1) (by first | omega | decide) (by first | omega | decide) (by first | omega | decide) Mx) kX11_57 rfl ⟨Nat.le_of_ble_eq_true rfl, Nat.le_of_ble_eq_true rfl⟩ hl.1 rfl (Nat.le_of_ble_eq_true rfl) dX11_read_115 (fun v18 M19 H locs hp20 hW => ?_)
                    obtain ⟨a21, rfl, hp20, hp20m⟩ := hp20
                    rw [hp20m] at hW
                    rcases hp20 with ⟨rfl, hp20⟩ | ⟨rfl, hp20⟩
                    · refine rw_stk (st' := [.int (iN 1)]) rfl ?_
                      refine rw_if_ne (tgt := 125) hx hb dX11_read_118 (by decide) (by decide) (fun _ => ?_) (fun c => absurd c (by decide))
                      refine rw_iconst hx hb dX11_read_125 ?_
                      refine lv_istore (lv' := [(5, .int (iN 0)), (0, .ref (ad 0)), (1, .int (iN k)), (2, .int (iN x)), (3, .int (iN fr)), (4, .int (iN n)), (6, .int (iN w)), (7, .int (iN i))]) hx hb dX11_read_126 hl (by decide) rfl (fun ls hl => ?_)
                      refine lv_iload hx hb dX11_read_128 (lv_at hl 0 rfl) ?_
                      refine rw_if_ne (tgt := 193) hx hb dX11_read_130 (by decide) (by decide) (fun c => absurd c (by decide)) (fun _ => ?_)
                      refine lv_iload hx hb dX11_read_133 (lv_at hl 7 rfl) ?_
                      refine rw_iconst hx hb dX11_read_135 ?_
                      refine rw_irem hx hb dX11_read_136 (by omega) (by decide) (by decide) rfl ?_
                      rw [Int.tmod_eq_emod_of_nonneg hi.1]
                      refine rw_iconst hx hb dX11_read_137 ?_
                      refine rw_icmp_ne (tgt := 193) hx hb dX11_read_138 (by decide) (by omega) (by decide) (fun c_138 => ?_) (fun c_138 => ?_)
                      · refine rw_iinc (lv' := [(7, .int (iN (i + 1))), (5, .int (iN 0)), (0, .ref (ad 0)), (1, .int (iN k)), (2, .int (iN x)), (3, .int (iN fr)), (4, .int (iN n)), (6, .int (iN w))]) hx hb dX11_read_193 hl (k := 7) rfl (by decide) rfl (fun ls hl => ?_)
                        refine lv_goto (tgt := 56) hx hb dX11_read_196 (by decide) ?_
                        exact ih56 0 w (i + 1) Mx H locs ls (by omega) (by omega) (by omega) (by omega) hs h141 hJ (fun _ => ⟨by omega, hrd⟩) (fun z => absurd rfl z) hW (lv_sub hl [2, 3, 4, 5, 6, 1, 7, 0] rfl)
                      · obtain ⟨hlx, hlo, hhi⟩ : lnR M k = x ∧ 0 ≤ fr + 2 * w ∧ fr + 2 * w + 1 < M 12 k := ⟨by omega, by omega, by omega⟩
                        have hf0 : faultF (lnR M k) (M 12 k) x (fr + 2 * w) 2 = 0 := by unfold faultF; rw [if_neg (by omega), if_neg (by omega), if_neg (by omega)]
                        have hr1 := hsi3 (fr + 2 * w) (by omega) (by omega)
                        have hr2 := hsi3 (fr + 2 * w + 1) (by omega) (by omega)
                        refine rw_bipush hx hb dX11_read_141 (by decide) ?_
                        refine lv_iload_n hx hb dX11_read_143 rfl (lv_at hl 2 rfl) ?_
                        refine rw_imul hx hb dX11_read_144 ?_
                        refine lv_iload_n hx hb dX11_read_145 rfl (lv_at hl 4 rfl) ?_
                        refine rw_iadd hx hb dX11_read_146 ?_
                        refine lv_iload hx hb dX11_read_147 (lv_at hl 7 rfl) ?_
                        refine rw_iadd hx hb dX11_read_149 ?_
                        refine lv_istore (lv' := [(8, .int (iN (((40 * k) + fr) + i))), (5, .int (iN 0)), (0, .ref (ad 0)), (1, .int (iN k)), (2, .int (iN x)), (3, .int (iN fr)), (4, .int (iN n)), (6, .int (iN w)), (7, .int (iN i))]) hx hb dX11_read_150 hl (by decide) rfl (fun ls hl => ?_)
                        refine lv_aload_n hx hb dX11_read_152 rfl (lv_at hl 2 rfl) ?_
                        refine lv_aload_n hx hb dX11_read_153 rfl (lv_at hl 2 rfl) ?_
                        refine rw_getR hx hb hts hown hW 0 lm_0 26 13 rfl fX11_51 dX11_read_154 ?_
                        refine lv_iload hx hb dX11_read_157 (lv_at hl 0 rfl) ?_
                        refine rw_iconst hx hb dX11_read_159 ?_
                        refine rw_isub hx hb dX11_read_160 ?_
                        refine rw_iald hx hb hW hnt4 13 lm_13 (by omega) (by omega) (by decide) dX11_read_161 (v := (Mx 13 ((((40 * k) + fr) + i) - 1))) rfl ?_
                        refine lv_aload_n hx hb dX11_read_162 rfl (lv_at hl 2 rfl) ?_
                        refine rw_getR hx hb hts hown hW 0 lm_0 26 13 rfl fX11_51 dX11_read_163 ?_
                        refine lv_iload hx hb dX11_read_166 (lv_at hl 0 rfl) ?_
                        refine rw_iald hx hb hW hnt4 13 lm_13 (by omega) (by omega) (by decide) dX11_read_168 (v := (Mx 13 (((40 * k) + fr) + i))) rfl ?_
                        refine rw_iconst hx hb dX11_read_169 ?_
                        rw [show (Mx 13 ((((40 * k) + fr) + i) - 1)) = rowR M k (fr + 2 * w) by unfold rowR; rw [hs.1 13 (by decide)]; exact congrArg (M 13) (by omega), show (Mx 13 (((40 * k) + fr) + i)) = rowR M k (fr + 2 * w + 1) by unfold rowR; rw [hs.1 13 (by decide)]; exact congrArg (M 13) (by omega)]
                        have hr1 : in32 (rowR M k (fr + 2 * w)) := hr1
                        have hr2 : in32 (rowR M k (fr + 2 * w + 1)) := hr2
                        refine rw_callV hx hb hml hts hown hW ⟨Nat.le_refl 0, Nat.le_refl 0⟩ [.int (iN (rowR M k (fr + 2 * w))), .int (iN (rowR M k (fr + 2 * w + 1))), .int (iN 0)] 0 lm_0 rfl (c_X11_goes (l := l) (G := G) (ad := ad) (CA := CA) (nt := nt) (by omega) (rowR M k (fr + 2 * w)) (by first | omega | decide) (rowR M k (fr + 2 * w + 1)) (by first | omega | decide) 0 (by first | omega | decide) Mx hJ.1 hJ.2) kX11_202 rfl ⟨Nat.le_of_ble_eq_true rfl, Nat.le_of_ble_eq_true rfl⟩ hl.1 rfl (Nat.le_of_ble_eq_true rfl) dX11_read_170 (fun v22 M23 H locs hp24 hW => ?_)
                        obtain ⟨a25, rfl, hM23⟩ := hp24
                        refine rw_stk (st' := [.int (iN a25)]) rfl ?_
                        have hrf := refF_rng (pg Mx 0) (rowR M k (fr + 2 * w)) (rowR M k (fr + 2 * w + 1))
                        have har : -3 ≤ a25 ∧ a25 ≤ 21 ∧ (refF (pg Mx 0) (rowR M k (fr + 2 * w)) (rowR M k (fr + 2 * w + 1)) = 0 ∨ a25 = refF (pg Mx 0) (rowR M k (fr + 2 * w)) (rowR M k (fr + 2 * w + 1))) ∧ (refF (pg Mx 0) (rowR M k (fr + 2 * w)) (rowR M k (fr + 2 * w + 1)) = 0 → 0 ≤ a25) := by
                          rcases hM23 with ⟨q1, q2, q3, q4⟩ | ⟨q1, q2, q3⟩
                          · have q5 := (pass27 hJ.1 (w := 0) q1).2.2; rw [← q4] at q5; exact ⟨by omega, by omega, Or.inl q1, fun _ => q5.1⟩
                          · rw [q3]; exact ⟨by omega, by omega, Or.inr rfl, fun z => absurd z q1⟩
                        refine rw_if_ge (tgt := 190) hx hb dX11_read_173 (by decide) (by omega) (fun c_173 => ?_) (fun c_173 => ?_)
                        · have hpz : refF (pg Mx 0) (rowR M k (fr + 2 * w)) (rowR M k (fr + 2 * w + 1)) = 0 ∧ pg M23 0 = passF (pg Mx 0) (rowR M k (fr + 2 * w)) (rowR M k (fr + 2 * w + 1)) 0 ∧ SameS Mx M23 0 := by
                            rcases hM23 with ⟨q1, q2, q3, q4⟩ | ⟨q1, q2, q3⟩
                            · exact ⟨q1, q2, q3⟩
                            · exfalso; omega
                          refine rw_iinc (lv' := [(6, .int (iN (w + 1))), (8, .int (iN (((40 * k) + fr) + i))), (5, .int (iN 0)), (0, .ref (ad 0)), (1, .int (iN k)), (2, .int (iN x)), (3, .int (iN fr)), (4, .int (iN n)), (7, .int (iN i))]) hx hb dX11_read_190 hl (k := 7) rfl (by decide) rfl (fun ls hl => ?_)
                          refine rw_iinc (lv' := [(7, .int (iN (i + 1))), (6, .int (iN (w + 1))), (8, .int (iN (((40 * k) + fr) + i))), (5, .int (iN 0)), (0, .ref (ad 0)), (1, .int (iN k)), (2, .int (iN x)), (3, .int (iN fr)), (4, .int (iN n))]) hx hb dX11_read_193 hl (k := 8) rfl (by decide) rfl (fun ls hl => ?_)
                          refine lv_goto (tgt := 56) hx hb dX11_read_196 (by decide) ?_
                          exact ih56 0 (w + 1) (i + 1) M23 H locs ls (by omega) (by omega) (by omega) (by omega) (hs.go hpz.2.2) ((pg_same hpz.2.2 (by decide)).trans h141) (by rw [hpz.2.1]; have q := pass27 hJ.1 (w := 0) hpz.1; exact ⟨q.1, q.2.1⟩) (fun _ => ⟨by omega, by rw [hpz.2.1, ← hrd, show (n - w).toNat = (n - (w + 1)).toNat + 1 by omega, readF_on hf0 hpz.1]⟩) (fun z => absurd rfl z) hW (lv_sub hl [4, 5, 6, 7, 8, 3, 1, 0] rfl)
                        · have hpn : refF (pg Mx 0) (rowR M k (fr + 2 * w)) (rowR M k (fr + 2 * w + 1)) ≠ 0 := fun z => by have := har.2.2.2 z; omega
                          have hMe : M23 = Mx := by
                            rcases hM23 with ⟨q1, q2, q3, q4⟩ | ⟨q1, q2, q3⟩
                            · exact absurd q1 hpn
                            · exact q2
                          refine lv_aload_n hx hb dX11_read_176 rfl (lv_at hl 2 rfl) ?_
                          refine rw_sipush hx hb dX11_read_177 (by decide) ?_
                          refine rw_iconst hx hb dX11_read_180 ?_
                          refine rw_callV hx hb hml hts hown hW ⟨Nat.le_refl 0, Nat.le_refl 0⟩ [.int (iN 141), .int (iN 0)] 0 lm_0 rfl (c_X11_copies (l := l) (G := G) (ad := ad) (CA := CA) (nt := nt) (by omega) 141 0 (by first | omega | decide) (by first | omega | decide) (by first | omega | decide) M23) kX11_212 rfl ⟨Nat.le_of_ble_eq_true rfl, Nat.le_of_ble_eq_true rfl⟩ hl.1 rfl (Nat.le_of_ble_eq_true rfl) dX11_read_181 (fun v26 M27 H locs hp28 hW => ?_)
                          obtain ⟨rfl, hM27⟩ := hp28
                          refine rw_stk (st' := []) rfl ?_
                          refine rw_bipush hx hb dX11_read_184 (by decide) ?_
                          refine lv_iload hx hb dX11_read_186 (lv_at hl 7 rfl) ?_
                          refine rw_isub hx hb dX11_read_188 ?_
                          refine rw_iret hx hb hr hlocks hW dX11_read_189 (⟨(-20) - w, rfl, ?_⟩)
                          have hR : readF (lnR M k) (M 12 k) (rowR M k) x fr (n).toNat 0 (pg M 0) = (-20 - w, 0, pg Mx 0) := by rw [← hrd, show (n - w).toNat = (n - (w + 1)).toNat + 1 by omega, readF_ref hf0 hpn]
                          rw [hMe] at hM27
                          refine Or.inr (Or.inl ⟨by omega, by rw [hR]; show -20 - w < 0; omega, by rw [hR], hM27.1.trans h141, hs.go hM27.2⟩)
                    · refine rw_stk (st' := [.int (iN 0)]) rfl ?_
                      refine rw_if_ne (tgt := 125) hx hb dX11_read_118 (by decide) (by decide) (fun c => absurd c (by decide)) (fun _ => ?_)
                      refine rw_iconst hx hb dX11_read_121 ?_
                      refine lv_goto (tgt := 126) hx hb dX11_read_122 (by decide) ?_
                      refine lv_istore (lv' := [(5, .int (iN 2)), (0, .ref (ad 0)), (1, .int (iN k)), (2, .int (iN x)), (3, .int (iN fr)), (4, .int (iN n)), (6, .int (iN w)), (7, .int (iN i))]) hx hb dX11_read_126 hl (by decide) rfl (fun ls hl => ?_)
                      refine lv_iload hx hb dX11_read_128 (lv_at hl 0 rfl) ?_
                      refine rw_if_ne (tgt := 193) hx hb dX11_read_130 (by decide) (by decide) (fun _ => ?_) (fun c => absurd c (by decide))
                      refine rw_iinc (lv' := [(7, .int (iN (i + 1))), (5, .int (iN 2)), (0, .ref (ad 0)), (1, .int (iN k)), (2, .int (iN x)), (3, .int (iN fr)), (4, .int (iN n)), (6, .int (iN w))]) hx hb dX11_read_193 hl (k := 7) rfl (by decide) rfl (fun ls hl => ?_)
                      refine lv_goto (tgt := 56) hx hb dX11_read_196 (by decide) ?_
                      exact ih56 2 w (i + 1) Mx H locs ls (by omega) (by omega) (by omega) (by omega) hs h141 hJ (fun z => absurd z (by decide)) (fun _ => by have e : faultF (lnR M k) (M 12 k) x (fr + 2 * w) 2 = 2 := (by unfold faultF; rw [if_neg (by omega), if_neg (by omega), if_pos (by omega)]); rw [← hrd, show (n - w).toNat = (n - (w + 1)).toNat + 1 by omega, readF_flt (by rw [e]; decide), e]) hW (lv_sub hl [2, 3, 4, 5, 6, 1, 7, 0] rfl)
                  · refine rw_iconst hx hb dX11_read_95 ?_
                    refine lv_goto (tgt := 126) hx hb dX11_read_96 (by decide) ?_
                    refine lv_istore (lv' := [(5, .int (iN 3)), (0, .ref (ad 0)), (1, .int (iN k)), (2, .int (iN x)), (3, .int (iN fr)), (4, .int (iN n)), (6, .int (iN w)), (7, .int (iN i))]) hx hb dX11_read_126 hl (by decide) rfl (fun ls hl => ?_)
                    refine lv_iload hx hb dX11_read_128 (lv_at hl 0 rfl) ?_
                    refine rw_if_ne (tgt := 193) hx hb dX11_read_130 (by decide) (by decide) (fun _ => ?_) (fun c => absurd c (by decide))
                    refine rw_iinc (lv' := [(7, .int (iN (i + 1))), (5, .int (iN 3)), (0, .ref (ad 0)), (1, .int (iN k)), (2, .int (iN x)), (3, .int (iN fr)), (4, .int (iN n)), (6, .int (iN w))]) hx hb dX11_read_193 hl (k := 7) rfl (by decide) rfl (fun ls hl => ?_)
                    refine lv_goto (tgt := 56) hx hb dX11_read_196 (by decide) ?_
                    exact ih56 3 w (i + 1) Mx H locs ls (by omega) (by omega) (by omega) (by omega) hs h141 hJ (fun z => absurd z (by decide)) (fun _ => by have e : faultF (lnR M k) (M 12 k) x (fr + 2 * w) 2 = 3 := (by unfold faultF; rw [if_neg (by omega), if_pos (by omega)]); rw [← hrd, show (n - w).toNat = (n - (w + 1)).toNat + 1 by omega, readF_flt (by rw [e]; decide), e]) hW (lv_sub hl [2, 3, 4, 5, 6, 1, 7, 0] rfl)
                · refine rw_iconst hx hb dX11_read_81 ?_
                  refine lv_goto (tgt := 126) hx hb dX11_read_82 (by decide) ?_
                  refine lv_istore (lv' := [(5, .int (iN 1)), (0, .ref (ad 0)), (1, .int (iN k)), (2, .int (iN x)), (3, .int (iN fr)), (4, .int (iN n)), (6, .int (iN w)), (7, .int (iN i))]) hx hb dX11_read_126 hl (by decide) rfl (fun ls hl => ?_)
                  refine lv_iload hx hb dX11_read_128 (lv_at hl 0 rfl) ?_
                  refine rw_if_ne (tgt := 193) hx hb dX11_read_130 (by decide) (by decide) (fun _ => ?_) (fun c => absurd c (by decide))
                  refine rw_iinc (lv' := [(7, .int (iN (i + 1))), (5, .int (iN 1)), (0, .ref (ad 0)), (1, .int (iN k)), (2, .int (iN x)), (3, .int (iN fr)), (4, .int (iN n)), (6, .int (iN w))]) hx hb dX11_read_193 hl (k := 7) rfl (by decide) rfl (fun ls hl => ?_)
                  refine lv_goto (tgt := 56) hx hb dX11_read_196 (by decide) ?_
                  exact ih56 1 w (i + 1) Mx H locs ls (by omega) (by omega) (by omega) (by omega) hs h141 hJ (fun z => absurd z (by decide)) (fun _ => by have e : faultF (lnR M k) (M 12 k) x (fr + 2 * w) 2 = 1 := (by unfold faultF; rw [if_pos (by omega)]); rw [← hrd, show (n - w).toNat = (n - (w + 1)).toNat + 1 by omega, readF_flt (by rw [e]; decide), e]) hW (lv_sub hl [2, 3, 4, 5, 6, 1, 7, 0] rfl)
        exact hC_56 _ 0 0 0 M14 H locs ls (Nat.lt_succ_self _) (by omega) (by omega) (by omega) (SameR.on hM14.2) hM14.1 (by rw [e0]; exact ⟨hI, hm⟩) (fun _ => ⟨Or.inl rfl, by rw [e0, Int.sub_zero]⟩) (fun z => absurd rfl z) hW (lv_sub hl [3, 4, 5, 6, 7, 2, 1, 0] rfl)
      · refine rw_stk (st' := [.int (iN 0)]) rfl ?_
        refine rw_if_ne (tgt := 39) hx hb dX11_read_34 (by decide) (by decide) (fun c => absurd c (by decide)) (fun _ => ?_)
        refine rw_iconst hx hb dX11_read_37 ?_
        refine rw_iret hx hb hr hlocks hW dX11_read_38 (⟨(-1), rfl, ?_⟩)
        exact Or.inr (Or.inr ⟨by omega, rfl, rfl⟩)
    · refine rw_stk (st' := [.int (iN 0)]) rfl ?_
      refine rw_if_eq (tgt := 37) hx hb dX11_read_21 (by decide) (by decide) (fun _ => ?_) (fun c => absurd (by decide) c)
      refine rw_iconst hx hb dX11_read_37 ?_
      refine rw_iret hx hb hr hlocks hW dX11_read_38 (⟨(-1), rfl, ?_⟩)
      exact Or.inr (Or.inr ⟨by omega, rfl, rfl⟩)
  · refine rw_stk (st' := [.int (iN 0)]) rfl ?_
    refine rw_if_eq (tgt := 37) hx hb dX11_read_9 (by decide) (by decide) (fun _ => ?_) (fun c => absurd (by decide) c)
    refine rw_iconst hx hb dX11_read_37 ?_
    refine rw_iret hx hb hr hlocks hW dX11_read_38 (⟨(-1), rfl, ?_⟩)
    exact Or.inr (Or.inr ⟨by omega, rfl, rfl⟩)
