theorem firstW_rng {t : Int → Int} {len st nx : Int} {i : Nat} : ∀ (r : List (Int × Int)) (n : Int), 0 ≤ n → -1 ≤ firstW t len st nx i n r ∧ firstW t len st nx i n r < n + (r.length : Int) ∨ firstW t len st nx i n r = -1
  | [], n, h => Or.inr rfl
  | w :: r, n, h => by
    rw [firstW, List.length_cons]
    split
    · left; omega
    · have := firstW_rng (t := t) (len := len) (st := st) (nx := nx) (i := i) r (n + 1) (by omega)
      omega
theorem wordF_rng0 {t : Int → Int} {len st nx k : Int} : -1 ≤ wordF t len st nx k 0 ∧ wordF t len st nx k 0 ≤ 8 := by
  unfold wordF
  split
  · have := firstW_rng (t := t) (len := len) (st := st) (nx := nx) (i := 0) (bnds 0) 0 (by decide)
    have e : (((bnds 0).length : Nat) : Int) = 9 := by decide
    omega
  · omega
theorem wordF_rng1 {t : Int → Int} {len st nx k : Int} : -1 ≤ wordF t len st nx k 1 ∧ wordF t len st nx k 1 ≤ 4 := by
  unfold wordF
  split
  · have := firstW_rng (t := t) (len := len) (st := st) (nx := nx) (i := 1) (bnds 1) 0 (by decide)
    have e : (((bnds 1).length : Nat) : Int) = 5 := by decide
    omega
  · omega
/-- the word that the tape reads is the state's -/
theorem Rd.word {M0 M : Mem} {g : PSt} (h : Rd M0 M (.inr g)) (i : Nat) : wordF (tb M) (M 18 1) (M 18 4) (M 18 2) (M 18 3) i = wordX (tb M0) (M0 18 1) i (.inr g) := by
  obtain ⟨hc, hx, ⟨t1, t2, t3, t4⟩, ho⟩ := h
  rw [hc.tb, hc.len, t1, t2, t3]
  rfl
/-- a fault, if a side's kind is none -/
theorem Rd.kd {M0 M M1 : Mem} {x : PX} {s : Int} {q : Nat} (h : Rd M0 M x) (hq : (s = 0 ∧ q = 24) ∨ (s = 1 ∧ q = 26)) (w : Int) (hw : w = wordF (tb M) (M 18 1) (M 18 4) (M 18 2) (M 18 3) 1) (h0 : 0 ≤ w) : Rd M0 (upd2 M q 3 w) (kdX (tb M0) (M0 18 1) (28 + 8 * s + 6) x) := by
  have h1 := h.sets (v := w) hq (Or.inr (Or.inr (Or.inl ⟨rfl, rfl⟩)))
  cases x with
  | inl a => exact h1
  | inr g =>
    rw [h.word] at hw
    have e : kdX (tb M0) (M0 18 1) (28 + 8 * s + 6) (.inr g) = setX (28 + 8 * s + 6) w (.inr g) := by
      show (if _ then _ else _) = _
      rw [← hw, if_neg (by omega)]
    rw [e]
    exact h1
theorem Rd.kdn {M0 M M1 : Mem} {x : PX} {k : Int} (h : Rd M0 M x) (w : Int) (hw : w = wordF (tb M) (M 18 1) (M 18 4) (M 18 2) (M 18 3) 1) (h0 : w < 0) (h1 : Rd M0 M1 (refX (tb M0) (M0 18 1) 2 (setX k w x))) : Rd M0 M1 (kdX (tb M0) (M0 18 1) k x) := by
  cases x with
  | inl a => exact h1
  | inr g =>
    rw [h.word] at hw
    have e : kdX (tb M0) (M0 18 1) k (.inr g) = refX (tb M0) (M0 18 1) 2 (setX k w (.inr g)) := by
      show (if _ then _ else _) = _
      rw [← hw, if_pos h0]
      rfl
    rw [e]
    exact h1
abbrev P_X3_sideLine (w : Int) (M0 : Mem) (x : PX) (M : Mem) : Option Value → Mem → Prop := oV (fun MM => Rd M0 MM (sideX (tb M0) (M0 18 1) w x))
set_option maxRecDepth 100000 in
set_option maxHeartbeats 4000000 in
theorem c_X3_sideLine {l : Launch} {G : va_G} {ad : Nat → Nat} {CA : Nat → ClassId} {nt : Nat} {adK adV : Nat → Nat} (hnt : 6 ≤ nt) (w : Int) (hw : 0 ≤ w ∧ w < 9) (M0 : Mem) (x : PX) (M : Mem) (hR : Rd M0 M x) : MtE l yX3_sideLine cX3_sideLine 4 none 6 133 G ad CA nt LyK adK adV [.ref (ad 17), .int (iN w)] M (P_X3_sideLine w M0 x M) := by
  refine MtE.of (by decide) (Nat.le_of_ble_eq_true rfl) (fun p e s m args below meth c hx hb hr hml hts hown hlocks hnm hE hW ls hl => ?_)
  have hl : lv_has ls 4 [(0, .ref (ad 17)), (1, .int (iN w))] := hl
  have hnt4 : 4 ≤ nt := by omega
  obtain ⟨H, hH⟩ : ∃ z, z = s.heap := ⟨_, rfl⟩
  obtain ⟨locs, hlo⟩ : ∃ z : List Loc, z = [] := ⟨_, rfl⟩
  rw [← hH, ← hlo] at hW ⊢
  have hv1 := numV_rng (tb M0) (M0 18 1) (show (0 : Int) ≤ 1 by decide) x
  refine lv_aload_n hx hb dX3_sideLine_0 rfl (lv_at hl 0 rfl) ?_
  refine rw_iconst hx hb dX3_sideLine_1 ?_
  refine rw_iconst hx hb dX3_sideLine_2 ?_
  refine rw_callV hx hb hml hts hown hW ⟨Nat.le_refl 0, Nat.le_refl 0⟩ [.int (iN 0), .int (iN 1)] 17 lk_17 rfl (c_X3_number (l := l) (G := G) (ad := ad) (CA := CA) (nt := nt) (by omega) 0 1 (by decide) M0 x M hR.n) kX3_107 rfl ⟨Nat.le_of_ble_eq_true rfl, Nat.le_of_ble_eq_true rfl⟩ hl.1 rfl (Nat.le_of_ble_eq_true rfl) dX3_sideLine_3 (fun v1 M2 H locs hp3 hW => ?_)
  obtain ⟨a4, rfl, hM2⟩ := hp3
  refine rw_stk (st' := [.int (iN a4)]) rfl ?_
  obtain ⟨rfl, hR1⟩ := hM2
  refine lv_istore_n (lv' := [(2, .int (iN (numV (tb M0) (M0 18 1) 0 1 x))), (0, .ref (ad 17)), (1, .int (iN w))]) hx hb dX3_sideLine_6 rfl hl (by decide) rfl (fun ls hl => ?_)
  refine lv_aload_n hx hb dX3_sideLine_7 rfl (lv_at hl 1 rfl) ?_
  refine lv_iload_n hx hb dX3_sideLine_8 rfl (lv_at hl 2 rfl) ?_
  refine lv_iload_n hx hb dX3_sideLine_9 rfl (lv_at hl 0 rfl) ?_
  refine rw_callV hx hb hml hts hown hW ⟨Nat.le_refl 0, Nat.le_refl 0⟩ [.int (iN w), .int (iN (numV (tb M0) (M0 18 1) 0 1 x))] 17 lk_17 rfl (c_X3_markSeen (l := l) (G := G) (ad := ad) (CA := CA) (nt := nt) (by omega) w (numV (tb M0) (M0 18 1) 0 1 x) hw (by omega) M0 (numX (tb M0) (M0 18 1) 0 1 x) M2 hR1) kX3_103 rfl ⟨Nat.le_of_ble_eq_true rfl, Nat.le_of_ble_eq_true rfl⟩ hl.1 rfl (Nat.le_of_ble_eq_true rfl) dX3_sideLine_10 (fun v5 M6 H locs hp7 hW => ?_)
  obtain ⟨rfl, hM6⟩ := hp7
  refine rw_stk (st' := []) rfl ?_
  refine lv_aload_n hx hb dX3_sideLine_13 rfl (lv_at hl 1 rfl) ?_
  refine rw_getR hx hb hts hown hW 17 lk_17 1 20 rfl fX3_21 dX3_sideLine_14 ?_
  refine lv_iload_n hx hb dX3_sideLine_17 rfl (lv_at hl 0 rfl) ?_
  rcases (show numV (tb M0) (M0 18 1) 0 1 x = 0 ∨ numV (tb M0) (M0 18 1) 0 1 x = 1 by omega) with hs0 | hs0
  · refine rw_stk (st' := [.int (iN 0), .ref (ad 20)]) (by rw [hs0]) ?_
    refine rw_callV hx hb hml hts hown hW ⟨Nat.le_refl 0, Nat.le_refl 0⟩ [.int (iN 0)] 20 fk_20.1 rfl (c_X0_sideOf (l := l) (G := G) (ad := ad) (CA := CA) (nt := nt) 20 fk_20 0 (by omega) M6) kX3_115 rfl ⟨Nat.le_of_ble_eq_true rfl, Nat.le_of_ble_eq_true rfl⟩ hl.1 rfl (Nat.le_of_ble_eq_true rfl) dX3_sideLine_18 (fun v8 M9 H locs hp10 hW => ?_)
    obtain ⟨_, rfl, rfl, hp10⟩ := hp10
    rw [hp10] at hW
    rw [if_pos rfl]
    refine rw_stk (st' := [.ref (ad 24)]) rfl ?_
    refine lv_astore_n (lv' := [(3, .ref (ad 24)), (2, .int (iN (numV (tb M0) (M0 18 1) 0 1 x))), (0, .ref (ad 17)), (1, .int (iN w))]) hx hb dX3_sideLine_21 rfl hl (by decide) rfl (fun ls hl => ?_)
    refine lv_aload_n hx hb dX3_sideLine_22 rfl (lv_at hl 0 rfl) ?_
    refine lv_aload_n hx hb dX3_sideLine_23 rfl (lv_at hl 2 rfl) ?_
    refine rw_iconst hx hb dX3_sideLine_24 ?_
    refine rw_bipush hx hb dX3_sideLine_25 (by decide) ?_
    refine rw_callV hx hb hml hts hown hW ⟨Nat.le_refl 0, Nat.le_refl 0⟩ [.int (iN 0), .int (iN 12)] 17 lk_17 rfl (c_X3_number (l := l) (G := G) (ad := ad) (CA := CA) (nt := nt) (by omega) 0 12 (by decide) M0 (markX (tb M0) (M0 18 1) w (numV (tb M0) (M0 18 1) 0 1 x) (numX (tb M0) (M0 18 1) 0 1 x)) M6 hM6.n) kX3_107 rfl ⟨Nat.le_of_ble_eq_true rfl, Nat.le_of_ble_eq_true rfl⟩ hl.1 rfl (Nat.le_of_ble_eq_true rfl) dX3_sideLine_27 (fun v11 M12 H locs hp13 hW => ?_)
    obtain ⟨a14, rfl, hM12⟩ := hp13
    refine rw_stk (st' := [.int (iN a14), .ref (ad 24)]) rfl ?_
    obtain ⟨rfl, hR3⟩ := hM12
    refine rw_putI hx hb hts hown hW 24 fk_20.2.2.2.2.1.1 0 0 rfl rfl qX3_119 (v := numV (tb M0) (M0 18 1) 0 12 (markX (tb M0) (M0 18 1) w (numV (tb M0) (M0 18 1) 0 1 x) (numX (tb M0) (M0 18 1) 0 1 x))) dX3_sideLine_30 (fun H locs hW => ?_)
    obtain ⟨M15, hM15⟩ : ∃ z, z = upd2 M12 24 0 (numV (tb M0) (M0 18 1) 0 12 (markX (tb M0) (M0 18 1) w (numV (tb M0) (M0 18 1) 0 1 x) (numX (tb M0) (M0 18 1) 0 1 x))) := ⟨_, rfl⟩
    rw [← hM15] at hW
    have hR4 : Rd M0 M15 (setX (28 + 8 * (numV (tb M0) (M0 18 1) 0 1 x) + 0) (numV (tb M0) (M0 18 1) 0 12 (markX (tb M0) (M0 18 1) w (numV (tb M0) (M0 18 1) 0 1 x) (numX (tb M0) (M0 18 1) 0 1 x))) (numX (tb M0) (M0 18 1) 0 12 (markX (tb M0) (M0 18 1) w (numV (tb M0) (M0 18 1) 0 1 x) (numX (tb M0) (M0 18 1) 0 1 x)))) := by rw [hM15]; exact hR3.sets (s := numV (tb M0) (M0 18 1) 0 1 x) (by omega) (Or.inl ⟨rfl, rfl⟩)
    refine lv_aload_n hx hb dX3_sideLine_33 rfl (lv_at hl 2 rfl) ?_
    refine rw_callV hx hb hml hts hown hW ⟨Nat.le_refl 0, Nat.le_refl 0⟩ [] 17 lk_17 rfl (c_X3_next (l := l) (G := G) (ad := ad) (CA := CA) (nt := nt) (by omega) M0 (setX (28 + 8 * (numV (tb M0) (M0 18 1) 0 1 x) + 0) (numV (tb M0) (M0 18 1) 0 12 (markX (tb M0) (M0 18 1) w (numV (tb M0) (M0 18 1) 0 1 x) (numX (tb M0) (M0 18 1) 0 1 x))) (numX (tb M0) (M0 18 1) 0 12 (markX (tb M0) (M0 18 1) w (numV (tb M0) (M0 18 1) 0 1 x) (numX (tb M0) (M0 18 1) 0 1 x)))) M15 hR4.n) kX3_54 rfl ⟨Nat.le_of_ble_eq_true rfl, Nat.le_of_ble_eq_true rfl⟩ hl.1 rfl (Nat.le_of_ble_eq_true rfl) dX3_sideLine_34 (fun v16 M17 H locs hp18 hW => ?_)
    obtain ⟨rfl, hM17⟩ := hp18
    refine rw_stk (st' := []) rfl ?_
    have hR5 := hM17
    have hyo := hR5.2.2.2
    unfold tokOK at hyo
    have hyl := hR5.1.2.1
    have hyl2 := hR5.1.len
    have hyl3 := hR5.1.2.2.2.2
    refine lv_aload_n hx hb dX3_sideLine_37 rfl (lv_at hl 0 rfl) ?_
    refine lv_aload_n hx hb dX3_sideLine_38 rfl (lv_at hl 2 rfl) ?_
    refine rw_getR hx hb hts hown hW 17 lk_17 0 18 rfl fX3_12 dX3_sideLine_39 ?_
    refine va_ldcS (own := RX3) hx hb hown hE.1.2 dX3_sideLine_42 ?_
    refine rw_callVE hx hb hml hts hown hW hE ⟨Nat.le_refl 0, Nat.le_refl 0⟩ [.ref (adK 1)] (va_recv hW.K hW.P rfl (hW.cell lk_18)) (c_X8_wordIn (l := l) (G := G) (ad := ad) (CA := CA) (nt := nt) (adK := adK) (adV := adV) (by omega) 1 (by decide) M17 (by omega) (by omega) (by omega)) kX3_62 rfl ⟨Nat.le_of_ble_eq_true rfl, Nat.le_of_ble_eq_true rfl⟩ hl.1 rfl (Nat.le_of_ble_eq_true rfl) dX3_sideLine_44 (fun v19 M20 H locs hp21 hW => ?_)
    obtain ⟨_, rfl, rfl, hp21⟩ := hp21
    rw [hp21] at hW
    refine rw_stk (st' := [.int (iN (wordF (tb M17) (M17 18 1) (M17 18 4) (M17 18 2) (M17 18 3) 1)), .ref (ad 24)]) rfl ?_
    have hwr := wordF_rng1 (t := tb M17) (len := M17 18 1) (st := M17 18 4) (nx := M17 18 2) (k := M17 18 3)
    refine rw_putI hx hb hts hown hW 24 fk_20.2.2.2.2.1.1 3 3 rfl rfl qX3_126 (v := wordF (tb M17) (M17 18 1) (M17 18 4) (M17 18 2) (M17 18 3) 1) dX3_sideLine_47 (fun H locs hW => ?_)
    obtain ⟨M22, hM22⟩ : ∃ z, z = upd2 M17 24 3 (wordF (tb M17) (M17 18 1) (M17 18 4) (M17 18 2) (M17 18 3) 1) := ⟨_, rfl⟩
    rw [← hM22] at hW
    refine lv_aload_n hx hb dX3_sideLine_50 rfl (lv_at hl 0 rfl) ?_
    refine rw_getI hx hb hts hown hW 24 fk_20.2.2.2.2.1.1 3 3 rfl rfl fX3_126 dX3_sideLine_51 (v := (wordF (tb M17) (M17 18 1) (M17 18 4) (M17 18 2) (M17 18 3) 1)) (by rw [hM22, upd2_eq]) ?_
    refine rw_if_ge (tgt := 62) hx hb dX3_sideLine_54 (by decide) (by omega) (fun c_54 => ?_) (fun c_54 => ?_)
    · have hR6 : Rd M0 M22 (kdX (tb M0) (M0 18 1) (28 + 8 * (numV (tb M0) (M0 18 1) 0 1 x) + 6) (nextX (tb M0) (M0 18 1) (setX (28 + 8 * (numV (tb M0) (M0 18 1) 0 1 x) + 0) (numV (tb M0) (M0 18 1) 0 12 (markX (tb M0) (M0 18 1) w (numV (tb M0) (M0 18 1) 0 1 x) (numX (tb M0) (M0 18 1) 0 1 x))) (numX (tb M0) (M0 18 1) 0 12 (markX (tb M0) (M0 18 1) w (numV (tb M0) (M0 18 1) 0 1 x) (numX (tb M0) (M0 18 1) 0 1 x)))))) := by rw [hM22]; exact hR5.kd (M1 := M) (s := numV (tb M0) (M0 18 1) 0 1 x) (by omega) _ rfl (by omega)
      refine lv_aload_n hx hb dX3_sideLine_62 rfl (lv_at hl 0 rfl) ?_
      refine lv_aload_n hx hb dX3_sideLine_63 rfl (lv_at hl 2 rfl) ?_
      refine rw_iconst hx hb dX3_sideLine_64 ?_
      refine rw_bipush hx hb dX3_sideLine_65 (by decide) ?_
      refine rw_callV hx hb hml hts hown hW ⟨Nat.le_refl 0, Nat.le_refl 0⟩ [.int (iN 0), .int (iN 12)] 17 lk_17 rfl (c_X3_number (l := l) (G := G) (ad := ad) (CA := CA) (nt := nt) (by omega) 0 12 (by decide) M0 (kdX (tb M0) (M0 18 1) (28 + 8 * (numV (tb M0) (M0 18 1) 0 1 x) + 6) (nextX (tb M0) (M0 18 1) (setX (28 + 8 * (numV (tb M0) (M0 18 1) 0 1 x) + 0) (numV (tb M0) (M0 18 1) 0 12 (markX (tb M0) (M0 18 1) w (numV (tb M0) (M0 18 1) 0 1 x) (numX (tb M0) (M0 18 1) 0 1 x))) (numX (tb M0) (M0 18 1) 0 12 (markX (tb M0) (M0 18 1) w (numV (tb M0) (M0 18 1) 0 1 x) (numX (tb M0) (M0 18 1) 0 1 x)))))) M22 hR6.n) kX3_107 rfl ⟨Nat.le_of_ble_eq_true rfl, Nat.le_of_ble_eq_true rfl⟩ hl.1 rfl (Nat.le_of_ble_eq_true rfl) dX3_sideLine_67 (fun v23 M24 H locs hp25 hW => ?_)
      obtain ⟨a26, rfl, hM24⟩ := hp25
      refine rw_stk (st' := [.int (iN a26), .ref (ad 24)]) rfl ?_
      obtain ⟨rfl, hR7⟩ := hM24
      refine rw_putI hx hb hts hown hW 24 fk_20.2.2.2.2.1.1 4 4 rfl rfl qX3_127 (v := numV (tb M0) (M0 18 1) 0 12 (kdX (tb M0) (M0 18 1) (28 + 8 * (numV (tb M0) (M0 18 1) 0 1 x) + 6) (nextX (tb M0) (M0 18 1) (setX (28 + 8 * (numV (tb M0) (M0 18 1) 0 1 x) + 0) (numV (tb M0) (M0 18 1) 0 12 (markX (tb M0) (M0 18 1) w (numV (tb M0) (M0 18 1) 0 1 x) (numX (tb M0) (M0 18 1) 0 1 x))) (numX (tb M0) (M0 18 1) 0 12 (markX (tb M0) (M0 18 1) w (numV (tb M0) (M0 18 1) 0 1 x) (numX (tb M0) (M0 18 1) 0 1 x))))))) dX3_sideLine_70 (fun H locs hW => ?_)
      obtain ⟨M27, hM27⟩ : ∃ z, z = upd2 M24 24 4 (numV (tb M0) (M0 18 1) 0 12 (kdX (tb M0) (M0 18 1) (28 + 8 * (numV (tb M0) (M0 18 1) 0 1 x) + 6) (nextX (tb M0) (M0 18 1) (setX (28 + 8 * (numV (tb M0) (M0 18 1) 0 1 x) + 0) (numV (tb M0) (M0 18 1) 0 12 (markX (tb M0) (M0 18 1) w (numV (tb M0) (M0 18 1) 0 1 x) (numX (tb M0) (M0 18 1) 0 1 x))) (numX (tb M0) (M0 18 1) 0 12 (markX (tb M0) (M0 18 1) w (numV (tb M0) (M0 18 1) 0 1 x) (numX (tb M0) (M0 18 1) 0 1 x))))))) := ⟨_, rfl⟩
      rw [← hM27] at hW
      refine rw_vret hx hb hr hlocks hW dX3_sideLine_73 (⟨rfl, ?_⟩)
      rw [hM27]; exact hR7.sets (s := numV (tb M0) (M0 18 1) 0 1 x) (by omega) (Or.inr (Or.inr (Or.inr ⟨rfl, rfl⟩)))
    · refine lv_aload_n hx hb dX3_sideLine_57 rfl (lv_at hl 2 rfl) ?_
      refine rw_iconst hx hb dX3_sideLine_58 ?_
      refine rw_callV hx hb hml hts hown hW ⟨Nat.le_refl 0, Nat.le_refl 0⟩ [.int (iN 2)] 17 lk_17 rfl (c_X3_refuse (l := l) (G := G) (ad := ad) (CA := CA) (nt := nt) (by omega) 2 (by omega) (by decide) M0 (setX (28 + 8 * (numV (tb M0) (M0 18 1) 0 1 x) + 6) _ (nextX (tb M0) (M0 18 1) (setX (28 + 8 * (numV (tb M0) (M0 18 1) 0 1 x) + 0) (numV (tb M0) (M0 18 1) 0 12 (markX (tb M0) (M0 18 1) w (numV (tb M0) (M0 18 1) 0 1 x) (numX (tb M0) (M0 18 1) 0 1 x))) (numX (tb M0) (M0 18 1) 0 12 (markX (tb M0) (M0 18 1) w (numV (tb M0) (M0 18 1) 0 1 x) (numX (tb M0) (M0 18 1) 0 1 x)))))) M22 (by rw [hM22]; exact hR5.sets (s := numV (tb M0) (M0 18 1) 0 1 x) (by omega) (Or.inr (Or.inr (Or.inl ⟨rfl, rfl⟩))))) kX3_100 rfl ⟨Nat.le_of_ble_eq_true rfl, Nat.le_of_ble_eq_true rfl⟩ hl.1 rfl (Nat.le_of_ble_eq_true rfl) dX3_sideLine_59 (fun v28 M29 H locs hp30 hW => ?_)
      obtain ⟨rfl, hM29⟩ := hp30
      refine rw_stk (st' := []) rfl ?_
      have hR6 : Rd M0 M29 (kdX (tb M0) (M0 18 1) (28 + 8 * (numV (tb M0) (M0 18 1) 0 1 x) + 6) (nextX (tb M0) (M0 18 1) (setX (28 + 8 * (numV (tb M0) (M0 18 1) 0 1 x) + 0) (numV (tb M0) (M0 18 1) 0 12 (markX (tb M0) (M0 18 1) w (numV (tb M0) (M0 18 1) 0 1 x) (numX (tb M0) (M0 18 1) 0 1 x))) (numX (tb M0) (M0 18 1) 0 12 (markX (tb M0) (M0 18 1) w (numV (tb M0) (M0 18 1) 0 1 x) (numX (tb M0) (M0 18 1) 0 1 x)))))) := hR5.kdn _ rfl (by omega) hM29
      refine lv_aload_n hx hb dX3_sideLine_62 rfl (lv_at hl 0 rfl) ?_
      refine lv_aload_n hx hb dX3_sideLine_63 rfl (lv_at hl 2 rfl) ?_
      refine rw_iconst hx hb dX3_sideLine_64 ?_
      refine rw_bipush hx hb dX3_sideLine_65 (by decide) ?_
      refine rw_callV hx hb hml hts hown hW ⟨Nat.le_refl 0, Nat.le_refl 0⟩ [.int (iN 0), .int (iN 12)] 17 lk_17 rfl (c_X3_number (l := l) (G := G) (ad := ad) (CA := CA) (nt := nt) (by omega) 0 12 (by decide) M0 (kdX (tb M0) (M0 18 1) (28 + 8 * (numV (tb M0) (M0 18 1) 0 1 x) + 6) (nextX (tb M0) (M0 18 1) (setX (28 + 8 * (numV (tb M0) (M0 18 1) 0 1 x) + 0) (numV (tb M0) (M0 18 1) 0 12 (markX (tb M0) (M0 18 1) w (numV (tb M0) (M0 18 1) 0 1 x) (numX (tb M0) (M0 18 1) 0 1 x))) (numX (tb M0) (M0 18 1) 0 12 (markX (tb M0) (M0 18 1) w (numV (tb M0) (M0 18 1) 0 1 x) (numX (tb M0) (M0 18 1) 0 1 x)))))) M29 hR6.n) kX3_107 rfl ⟨Nat.le_of_ble_eq_true rfl, Nat.le_of_ble_eq_true rfl⟩ hl.1 rfl (Nat.le_of_ble_eq_true rfl) dX3_sideLine_67 (fun v31 M32 H locs hp33 hW => ?_)
      obtain ⟨a34, rfl, hM32⟩ := hp33
      refine rw_stk (st' := [.int (iN a34), .ref (ad 24)]) rfl ?_
      obtain ⟨rfl, hR7⟩ := hM32
      refine rw_putI hx hb hts hown hW 24 fk_20.2.2.2.2.1.1 4 4 rfl rfl qX3_127 (v := numV (tb M0) (M0 18 1) 0 12 (kdX (tb M0) (M0 18 1) (28 + 8 * (numV (tb M0) (M0 18 1) 0 1 x) + 6) (nextX (tb M0) (M0 18 1) (setX (28 + 8 * (numV (tb M0) (M0 18 1) 0 1 x) + 0) (numV (tb M0) (M0 18 1) 0 12 (markX (tb M0) (M0 18 1) w (numV (tb M0) (M0 18 1) 0 1 x) (numX (tb M0) (M0 18 1) 0 1 x))) (numX (tb M0) (M0 18 1) 0 12 (markX (tb M0) (M0 18 1) w (numV (tb M0) (M0 18 1) 0 1 x) (numX (tb M0) (M0 18 1) 0 1 x))))))) dX3_sideLine_70 (fun H locs hW => ?_)
      obtain ⟨M35, hM35⟩ : ∃ z, z = upd2 M32 24 4 (numV (tb M0) (M0 18 1) 0 12 (kdX (tb M0) (M0 18 1) (28 + 8 * (numV (tb M0) (M0 18 1) 0 1 x) + 6) (nextX (tb M0) (M0 18 1) (setX (28 + 8 * (numV (tb M0) (M0 18 1) 0 1 x) + 0) (numV (tb M0) (M0 18 1) 0 12 (markX (tb M0) (M0 18 1) w (numV (tb M0) (M0 18 1) 0 1 x) (numX (tb M0) (M0 18 1) 0 1 x))) (numX (tb M0) (M0 18 1) 0 12 (markX (tb M0) (M0 18 1) w (numV (tb M0) (M0 18 1) 0 1 x) (numX (tb M0) (M0 18 1) 0 1 x))))))) := ⟨_, rfl⟩
      rw [← hM35] at hW
      refine rw_vret hx hb hr hlocks hW dX3_sideLine_73 (⟨rfl, ?_⟩)
      rw [hM35]; exact hR7.sets (s := numV (tb M0) (M0 18 1) 0 1 x) (by omega) (Or.inr (Or.inr (Or.inr ⟨rfl, rfl⟩)))
  · refine rw_stk (st' := [.int (iN 1), .ref (ad 20)]) (by rw [hs0]) ?_
    refine rw_callV hx hb hml hts hown hW ⟨Nat.le_refl 0, Nat.le_refl 0⟩ [.int (iN 1)] 20 fk_20.1 rfl (c_X0_sideOf (l := l) (G := G) (ad := ad) (CA := CA) (nt := nt) 20 fk_20 1 (by omega) M6) kX3_115 rfl ⟨Nat.le_of_ble_eq_true rfl, Nat.le_of_ble_eq_true rfl⟩ hl.1 rfl (Nat.le_of_ble_eq_true rfl) dX3_sideLine_18 (fun v36 M37 H locs hp38 hW => ?_)
    obtain ⟨_, rfl, rfl, hp38⟩ := hp38
    rw [hp38] at hW
    rw [if_neg (by decide)]
    refine rw_stk (st' := [.ref (ad 26)]) rfl ?_
    refine lv_astore_n (lv' := [(3, .ref (ad 26)), (2, .int (iN (numV (tb M0) (M0 18 1) 0 1 x))), (0, .ref (ad 17)), (1, .int (iN w))]) hx hb dX3_sideLine_21 rfl hl (by decide) rfl (fun ls hl => ?_)
    refine lv_aload_n hx hb dX3_sideLine_22 rfl (lv_at hl 0 rfl) ?_
    refine lv_aload_n hx hb dX3_sideLine_23 rfl (lv_at hl 2 rfl) ?_
    refine rw_iconst hx hb dX3_sideLine_24 ?_
    refine rw_bipush hx hb dX3_sideLine_25 (by decide) ?_
    refine rw_callV hx hb hml hts hown hW ⟨Nat.le_refl 0, Nat.le_refl 0⟩ [.int (iN 0), .int (iN 12)] 17 lk_17 rfl (c_X3_number (l := l) (G := G) (ad := ad) (CA := CA) (nt := nt) (by omega) 0 12 (by decide) M0 (markX (tb M0) (M0 18 1) w (numV (tb M0) (M0 18 1) 0 1 x) (numX (tb M0) (M0 18 1) 0 1 x)) M6 hM6.n) kX3_107 rfl ⟨Nat.le_of_ble_eq_true rfl, Nat.le_of_ble_eq_true rfl⟩ hl.1 rfl (Nat.le_of_ble_eq_true rfl) dX3_sideLine_27 (fun v39 M40 H locs hp41 hW => ?_)
    obtain ⟨a42, rfl, hM40⟩ := hp41
    refine rw_stk (st' := [.int (iN a42), .ref (ad 26)]) rfl ?_
    obtain ⟨rfl, hR3⟩ := hM40
    refine rw_putI hx hb hts hown hW 26 fk_20.2.2.2.2.2.1 0 0 rfl rfl qX3_119 (v := numV (tb M0) (M0 18 1) 0 12 (markX (tb M0) (M0 18 1) w (numV (tb M0) (M0 18 1) 0 1 x) (numX (tb M0) (M0 18 1) 0 1 x))) dX3_sideLine_30 (fun H locs hW => ?_)
    obtain ⟨M43, hM43⟩ : ∃ z, z = upd2 M40 26 0 (numV (tb M0) (M0 18 1) 0 12 (markX (tb M0) (M0 18 1) w (numV (tb M0) (M0 18 1) 0 1 x) (numX (tb M0) (M0 18 1) 0 1 x))) := ⟨_, rfl⟩
    rw [← hM43] at hW
    have hR4 : Rd M0 M43 (setX (28 + 8 * (numV (tb M0) (M0 18 1) 0 1 x) + 0) (numV (tb M0) (M0 18 1) 0 12 (markX (tb M0) (M0 18 1) w (numV (tb M0) (M0 18 1) 0 1 x) (numX (tb M0) (M0 18 1) 0 1 x))) (numX (tb M0) (M0 18 1) 0 12 (markX (tb M0) (M0 18 1) w (numV (tb M0) (M0 18 1) 0 1 x) (numX (tb M0) (M0 18 1) 0 1 x)))) := by rw [hM43]; exact hR3.sets (s := numV (tb M0) (M0 18 1) 0 1 x) (by omega) (Or.inl ⟨rfl, rfl⟩)
    refine lv_aload_n hx hb dX3_sideLine_33 rfl (lv_at hl 2 rfl) ?_
    refine rw_callV hx hb hml hts hown hW ⟨Nat.le_refl 0, Nat.le_refl 0⟩ [] 17 lk_17 rfl (c_X3_next (l := l) (G := G) (ad := ad) (CA := CA) (nt := nt) (by omega) M0 (setX (28 + 8 * (numV (tb M0) (M0 18 1) 0 1 x) + 0) (numV (tb M0) (M0 18 1) 0 12 (markX (tb M0) (M0 18 1) w (numV (tb M0) (M0 18 1) 0 1 x) (numX (tb M0) (M0 18 1) 0 1 x))) (numX (tb M0) (M0 18 1) 0 12 (markX (tb M0) (M0 18 1) w (numV (tb M0) (M0 18 1) 0 1 x) (numX (tb M0) (M0 18 1) 0 1 x)))) M43 hR4.n) kX3_54 rfl ⟨Nat.le_of_ble_eq_true rfl, Nat.le_of_ble_eq_true rfl⟩ hl.1 rfl (Nat.le_of_ble_eq_true rfl) dX3_sideLine_34 (fun v44 M45 H locs hp46 hW => ?_)
    obtain ⟨rfl, hM45⟩ := hp46
    refine rw_stk (st' := []) rfl ?_
    have hR5 := hM45
    have hyo := hR5.2.2.2
    unfold tokOK at hyo
    have hyl := hR5.1.2.1
    have hyl2 := hR5.1.len
    have hyl3 := hR5.1.2.2.2.2
    refine lv_aload_n hx hb dX3_sideLine_37 rfl (lv_at hl 0 rfl) ?_
    refine lv_aload_n hx hb dX3_sideLine_38 rfl (lv_at hl 2 rfl) ?_
    refine rw_getR hx hb hts hown hW 17 lk_17 0 18 rfl fX3_12 dX3_sideLine_39 ?_
    refine va_ldcS (own := RX3) hx hb hown hE.1.2 dX3_sideLine_42 ?_
    refine rw_callVE hx hb hml hts hown hW hE ⟨Nat.le_refl 0, Nat.le_refl 0⟩ [.ref (adK 1)] (va_recv hW.K hW.P rfl (hW.cell lk_18)) (c_X8_wordIn (l := l) (G := G) (ad := ad) (CA := CA) (nt := nt) (adK := adK) (adV := adV) (by omega) 1 (by decide) M45 (by omega) (by omega) (by omega)) kX3_62 rfl ⟨Nat.le_of_ble_eq_true rfl, Nat.le_of_ble_eq_true rfl⟩ hl.1 rfl (Nat.le_of_ble_eq_true rfl) dX3_sideLine_44 (fun v47 M48 H locs hp49 hW => ?_)
    obtain ⟨_, rfl, rfl, hp49⟩ := hp49
    rw [hp49] at hW
    refine rw_stk (st' := [.int (iN (wordF (tb M45) (M45 18 1) (M45 18 4) (M45 18 2) (M45 18 3) 1)), .ref (ad 26)]) rfl ?_
    have hwr := wordF_rng1 (t := tb M45) (len := M45 18 1) (st := M45 18 4) (nx := M45 18 2) (k := M45 18 3)
    refine rw_putI hx hb hts hown hW 26 fk_20.2.2.2.2.2.1 3 3 rfl rfl qX3_126 (v := wordF (tb M45) (M45 18 1) (M45 18 4) (M45 18 2) (M45 18 3) 1) dX3_sideLine_47 (fun H locs hW => ?_)
    obtain ⟨M50, hM50⟩ : ∃ z, z = upd2 M45 26 3 (wordF (tb M45) (M45 18 1) (M45 18 4) (M45 18 2) (M45 18 3) 1) := ⟨_, rfl⟩
    rw [← hM50] at hW
    refine lv_aload_n hx hb dX3_sideLine_50 rfl (lv_at hl 0 rfl) ?_
    refine rw_getI hx hb hts hown hW 26 fk_20.2.2.2.2.2.1 3 3 rfl rfl fX3_126 dX3_sideLine_51 (v := (wordF (tb M45) (M45 18 1) (M45 18 4) (M45 18 2) (M45 18 3) 1)) (by rw [hM50, upd2_eq]) ?_
    refine rw_if_ge (tgt := 62) hx hb dX3_sideLine_54 (by decide) (by omega) (fun c_54 => ?_) (fun c_54 => ?_)
    · have hR6 : Rd M0 M50 (kdX (tb M0) (M0 18 1) (28 + 8 * (numV (tb M0) (M0 18 1) 0 1 x) + 6) (nextX (tb M0) (M0 18 1) (setX (28 + 8 * (numV (tb M0) (M0 18 1) 0 1 x) + 0) (numV (tb M0) (M0 18 1) 0 12 (markX (tb M0) (M0 18 1) w (numV (tb M0) (M0 18 1) 0 1 x) (numX (tb M0) (M0 18 1) 0 1 x))) (numX (tb M0) (M0 18 1) 0 12 (markX (tb M0) (M0 18 1) w (numV (tb M0) (M0 18 1) 0 1 x) (numX (tb M0) (M0 18 1) 0 1 x)))))) := by rw [hM50]; exact hR5.kd (M1 := M) (s := numV (tb M0) (M0 18 1) 0 1 x) (by omega) _ rfl (by omega)
      refine lv_aload_n hx hb dX3_sideLine_62 rfl (lv_at hl 0 rfl) ?_
      refine lv_aload_n hx hb dX3_sideLine_63 rfl (lv_at hl 2 rfl) ?_
      refine rw_iconst hx hb dX3_sideLine_64 ?_
      refine rw_bipush hx hb dX3_sideLine_65 (by decide) ?_
      refine rw_callV hx hb hml hts hown hW ⟨Nat.le_refl 0, Nat.le_refl 0⟩ [.int (iN 0), .int (iN 12)] 17 lk_17 rfl (c_X3_number (l := l) (G := G) (ad := ad) (CA := CA) (nt := nt) (by omega) 0 12 (by decide) M0 (kdX (tb M0) (M0 18 1) (28 + 8 * (numV (tb M0) (M0 18 1) 0 1 x) + 6) (nextX (tb M0) (M0 18 1) (setX (28 + 8 * (numV (tb M0) (M0 18 1) 0 1 x) + 0) (numV (tb M0) (M0 18 1) 0 12 (markX (tb M0) (M0 18 1) w (numV (tb M0) (M0 18 1) 0 1 x) (numX (tb M0) (M0 18 1) 0 1 x))) (numX (tb M0) (M0 18 1) 0 12 (markX (tb M0) (M0 18 1) w (numV (tb M0) (M0 18 1) 0 1 x) (numX (tb M0) (M0 18 1) 0 1 x)))))) M50 hR6.n) kX3_107 rfl ⟨Nat.le_of_ble_eq_true rfl, Nat.le_of_ble_eq_true rfl⟩ hl.1 rfl (Nat.le_of_ble_eq_true rfl) dX3_sideLine_67 (fun v51 M52 H locs hp53 hW => ?_)
      obtain ⟨a54, rfl, hM52⟩ := hp53
      refine rw_stk (st' := [.int (iN a54), .ref (ad 26)]) rfl ?_
      obtain ⟨rfl, hR7⟩ := hM52
      refine rw_putI hx hb hts hown hW 26 fk_20.2.2.2.2.2.1 4 4 rfl rfl qX3_127 (v := numV (tb M0) (M0 18 1) 0 12 (kdX (tb M0) (M0 18 1) (28 + 8 * (numV (tb M0) (M0 18 1) 0 1 x) + 6) (nextX (tb M0) (M0 18 1) (setX (28 + 8 * (numV (tb M0) (M0 18 1) 0 1 x) + 0) (numV (tb M0) (M0 18 1) 0 12 (markX (tb M0) (M0 18 1) w (numV (tb M0) (M0 18 1) 0 1 x) (numX (tb M0) (M0 18 1) 0 1 x))) (numX (tb M0) (M0 18 1) 0 12 (markX (tb M0) (M0 18 1) w (numV (tb M0) (M0 18 1) 0 1 x) (numX (tb M0) (M0 18 1) 0 1 x))))))) dX3_sideLine_70 (fun H locs hW => ?_)
      obtain ⟨M55, hM55⟩ : ∃ z, z = upd2 M52 26 4 (numV (tb M0) (M0 18 1) 0 12 (kdX (tb M0) (M0 18 1) (28 + 8 * (numV (tb M0) (M0 18 1) 0 1 x) + 6) (nextX (tb M0) (M0 18 1) (setX (28 + 8 * (numV (tb M0) (M0 18 1) 0 1 x) + 0) (numV (tb M0) (M0 18 1) 0 12 (markX (tb M0) (M0 18 1) w (numV (tb M0) (M0 18 1) 0 1 x) (numX (tb M0) (M0 18 1) 0 1 x))) (numX (tb M0) (M0 18 1) 0 12 (markX (tb M0) (M0 18 1) w (numV (tb M0) (M0 18 1) 0 1 x) (numX (tb M0) (M0 18 1) 0 1 x))))))) := ⟨_, rfl⟩
      rw [← hM55] at hW
      refine rw_vret hx hb hr hlocks hW dX3_sideLine_73 (⟨rfl, ?_⟩)
      rw [hM55]; exact hR7.sets (s := numV (tb M0) (M0 18 1) 0 1 x) (by omega) (Or.inr (Or.inr (Or.inr ⟨rfl, rfl⟩)))
    · refine lv_aload_n hx hb dX3_sideLine_57 rfl (lv_at hl 2 rfl) ?_
      refine rw_iconst hx hb dX3_sideLine_58 ?_
      refine rw_callV hx hb hml hts hown hW ⟨Nat.le_refl 0, Nat.le_refl 0⟩ [.int (iN 2)] 17 lk_17 rfl (c_X3_refuse (l := l) (G := G) (ad := ad) (CA := CA) (nt := nt) (by omega) 2 (by omega) (by decide) M0 (setX (28 + 8 * (numV (tb M0) (M0 18 1) 0 1 x) + 6) _ (nextX (tb M0) (M0 18 1) (setX (28 + 8 * (numV (tb M0) (M0 18 1) 0 1 x) + 0) (numV (tb M0) (M0 18 1) 0 12 (markX (tb M0) (M0 18 1) w (numV (tb M0) (M0 18 1) 0 1 x) (numX (tb M0) (M0 18 1) 0 1 x))) (numX (tb M0) (M0 18 1) 0 12 (markX (tb M0) (M0 18 1) w (numV (tb M0) (M0 18 1) 0 1 x) (numX (tb M0) (M0 18 1) 0 1 x)))))) M50 (by rw [hM50]; exact hR5.sets (s := numV (tb M0) (M0 18 1) 0 1 x) (by omega) (Or.inr (Or.inr (Or.inl ⟨rfl, rfl⟩))))) kX3_100 rfl ⟨Nat.le_of_ble_eq_true rfl, Nat.le_of_ble_eq_true rfl⟩ hl.1 rfl (Nat.le_of_ble_eq_true rfl) dX3_sideLine_59 (fun v56 M57 H locs hp58 hW => ?_)
      obtain ⟨rfl, hM57⟩ := hp58
      refine rw_stk (st' := []) rfl ?_
      have hR6 : Rd M0 M57 (kdX (tb M0) (M0 18 1) (28 + 8 * (numV (tb M0) (M0 18 1) 0 1 x) + 6) (nextX (tb M0) (M0 18 1) (setX (28 + 8 * (numV (tb M0) (M0 18 1) 0 1 x) + 0) (numV (tb M0) (M0 18 1) 0 12 (markX (tb M0) (M0 18 1) w (numV (tb M0) (M0 18 1) 0 1 x) (numX (tb M0) (M0 18 1) 0 1 x))) (numX (tb M0) (M0 18 1) 0 12 (markX (tb M0) (M0 18 1) w (numV (tb M0) (M0 18 1) 0 1 x) (numX (tb M0) (M0 18 1) 0 1 x)))))) := hR5.kdn _ rfl (by omega) hM57
      refine lv_aload_n hx hb dX3_sideLine_62 rfl (lv_at hl 0 rfl) ?_
      refine lv_aload_n hx hb dX3_sideLine_63 rfl (lv_at hl 2 rfl) ?_
      refine rw_iconst hx hb dX3_sideLine_64 ?_
      refine rw_bipush hx hb dX3_sideLine_65 (by decide) ?_
      refine rw_callV hx hb hml hts hown hW ⟨Nat.le_refl 0, Nat.le_refl 0⟩ [.int (iN 0), .int (iN 12)] 17 lk_17 rfl (c_X3_number (l := l) (G := G) (ad := ad) (CA := CA) (nt := nt) (by omega) 0 12 (by decide) M0 (kdX (tb M0) (M0 18 1) (28 + 8 * (numV (tb M0) (M0 18 1) 0 1 x) + 6) (nextX (tb M0) (M0 18 1) (setX (28 + 8 * (numV (tb M0) (M0 18 1) 0 1 x) + 0) (numV (tb M0) (M0 18 1) 0 12 (markX (tb M0) (M0 18 1) w (numV (tb M0) (M0 18 1) 0 1 x) (numX (tb M0) (M0 18 1) 0 1 x))) (numX (tb M0) (M0 18 1) 0 12 (markX (tb M0) (M0 18 1) w (numV (tb M0) (M0 18 1) 0 1 x) (numX (tb M0) (M0 18 1) 0 1 x)))))) M57 hR6.n) kX3_107 rfl ⟨Nat.le_of_ble_eq_true rfl, Nat.le_of_ble_eq_true rfl⟩ hl.1 rfl (Nat.le_of_ble_eq_true rfl) dX3_sideLine_67 (fun v59 M60 H locs hp61 hW => ?_)
      obtain ⟨a62, rfl, hM60⟩ := hp61
      refine rw_stk (st' := [.int (iN a62), .ref (ad 26)]) rfl ?_
      obtain ⟨rfl, hR7⟩ := hM60
      refine rw_putI hx hb hts hown hW 26 fk_20.2.2.2.2.2.1 4 4 rfl rfl qX3_127 (v := numV (tb M0) (M0 18 1) 0 12 (kdX (tb M0) (M0 18 1) (28 + 8 * (numV (tb M0) (M0 18 1) 0 1 x) + 6) (nextX (tb M0) (M0 18 1) (setX (28 + 8 * (numV (tb M0) (M0 18 1) 0 1 x) + 0) (numV (tb M0) (M0 18 1) 0 12 (markX (tb M0) (M0 18 1) w (numV (tb M0) (M0 18 1) 0 1 x) (numX (tb M0) (M0 18 1) 0 1 x))) (numX (tb M0) (M0 18 1) 0 12 (markX (tb M0) (M0 18 1) w (numV (tb M0) (M0 18 1) 0 1 x) (numX (tb M0) (M0 18 1) 0 1 x))))))) dX3_sideLine_70 (fun H locs hW => ?_)
      obtain ⟨M63, hM63⟩ : ∃ z, z = upd2 M60 26 4 (numV (tb M0) (M0 18 1) 0 12 (kdX (tb M0) (M0 18 1) (28 + 8 * (numV (tb M0) (M0 18 1) 0 1 x) + 6) (nextX (tb M0) (M0 18 1) (setX (28 + 8 * (numV (tb M0) (M0 18 1) 0 1 x) + 0) (numV (tb M0) (M0 18 1) 0 12 (markX (tb M0) (M0 18 1) w (numV (tb M0) (M0 18 1) 0 1 x) (numX (tb M0) (M0 18 1) 0 1 x))) (numX (tb M0) (M0 18 1) 0 12 (markX (tb M0) (M0 18 1) w (numV (tb M0) (M0 18 1) 0 1 x) (numX (tb M0) (M0 18 1) 0 1 x))))))) := ⟨_, rfl⟩
      rw [← hM63] at hW
      refine rw_vret hx hb hr hlocks hW dX3_sideLine_73 (⟨rfl, ?_⟩)
      rw [hM63]; exact hR7.sets (s := numV (tb M0) (M0 18 1) 0 1 x) (by omega) (Or.inr (Or.inr (Or.inr ⟨rfl, rfl⟩)))
