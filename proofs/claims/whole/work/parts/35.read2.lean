/-- the draft's page with one number other -/
theorem Rd.set {M0 M : Mem} {x : PX} {q0 : Nat} {j0 v k : Int} (h : Rd M0 M x) (hq : 20 ≤ q0 ∧ q0 < 28) (hf : fld (upd2 M q0 j0 v) 20 = setF (fld M 20) k v) (hv : q0 = 20 → (j0 = 0 → 3 ≤ v ∧ v ≤ 9) ∧ (j0 = 1 → -1 ≤ v ∧ v ≤ 8)) : Rd M0 (upd2 M q0 j0 v) (setX k v x) := by
  obtain ⟨⟨c1, c2, c3, c4, c5⟩, hx, ht, ho⟩ := h
  have e : ∀ (q : Nat) (j : Int), ¬ (20 ≤ q ∧ q < 28) → upd2 M q0 j0 v q j = M q j := fun q j hn => by rw [upd2_ne1 (by omega)]
  have hcv : 3 ≤ upd2 M q0 j0 v 20 0 ∧ upd2 M q0 j0 v 20 0 ≤ 9 ∧ -1 ≤ upd2 M q0 j0 v 20 1 ∧ upd2 M q0 j0 v 20 1 ≤ 8 := by
    have c32 := c3.2
    rw [upd2_at, upd2_at]
    split <;> split <;> omega
  have hc : Rc M0 (upd2 M q0 j0 v) := ⟨fun q j hn => (e q j (by omega)).trans (c1 q j hn), by rw [e 18 2 (by omega)]; exact c2, ⟨by rw [e 17 3 (by omega)]; exact c3.1, hcv⟩, fun j h1 h2 => by rw [e 28 j (by omega)]; exact c4 j h1 h2, c5⟩
  have ho' : tokOK (upd2 M q0 j0 v) := by unfold tokOK; rw [upd2_ne1 (by omega)]; exact ho
  cases x with
  | inl a =>
    obtain ⟨a1, a2, a3, a4, a5, a6, a7⟩ := hx
    exact ⟨hc, ⟨by rw [e 17 4 (by omega)]; exact a1, a2, a3, by rw [e 17 5 (by omega)]; exact a4, a5, a6, ho'⟩, trivial, ho'⟩
  | inr g =>
    obtain ⟨a1, a2, a3, a4, a5⟩ := hx
    obtain ⟨t1, t2, t3, t4⟩ := ht
    refine ⟨hc, ⟨by rw [e 17 4 (by omega)]; exact a1, by rw [e 18 2 (by omega)]; exact a2, by rw [e 17 3 (by omega)]; exact a3, ?_, fun l b h1 h2 h3 h4 => by rw [e 28 l (by omega)]; exact a5 l b h1 h2 h3 h4⟩, ⟨by rw [e 18 3 (by omega)]; exact t1, by rw [e 18 4 (by omega)]; exact t2, by rw [e 18 2 (by omega)]; exact t3, fun z => by rw [e 18 5 (by omega)]; exact t4 z⟩, ho'⟩
    rw [hf, a4]
theorem Rd.setc {M0 M : Mem} {x : PX} {k : Nat} {c i v : Int} (h : Rd M0 M x) (hk : (k = 21 ∧ c = 0) ∨ (k = 22 ∧ c = 1) ∨ (k = 23 ∧ c = 2)) (hi : 0 ≤ i ∧ i < 9) : Rd M0 (upd2 M k i v) (setX (3 * i + c) v x) := by
  refine h.set (by omega) ?_ (by omega)
  obtain ⟨b, rfl⟩ : ∃ b, k = 20 + b := ⟨k - 20, by omega⟩
  exact fld_setcell M 20 i v b hi (by omega) c (by omega)
theorem Rd.sets {M0 M : Mem} {x : PX} {q : Nat} {s j jj v : Int} (h : Rd M0 M x) (hq : (s = 0 ∧ q = 24) ∨ (s = 1 ∧ q = 26)) (hj : (j = 0 ∧ jj = 0) ∨ (j = 2 ∧ jj = 5) ∨ (j = 3 ∧ jj = 6) ∨ (j = 4 ∧ jj = 7)) : Rd M0 (upd2 M q j v) (setX (28 + 8 * s + jj) v x) := by
  refine h.set (by omega) ?_ (by omega)
  obtain ⟨b, rfl⟩ : ∃ b, q = 20 + b := ⟨q - 20, by omega⟩
  exact fld_setside M 20 s j v b (by omega) jj hj
theorem Rd.seto {M0 M : Mem} {x : PX} {j jj v : Int} (h : Rd M0 M x) (hj : (j = 0 ∧ jj = 47) ∨ (j = 1 ∧ jj = 27) ∨ (j = 2 ∧ jj = 44) ∨ (j = 3 ∧ jj = 45) ∨ (j = 4 ∧ jj = 46)) (hv : (j = 0 → 3 ≤ v ∧ v ≤ 9) ∧ (j = 1 → -1 ≤ v ∧ v ≤ 8)) : Rd M0 (upd2 M 20 j v) (setX jj v x) := h.set (by omega) (fld_setown M 20 j jj v hj) (fun _ => hv)
abbrev P_X3_onlyNumber (w : Int) (lo : Int) (up : Int) (M0 : Mem) (x : PX) (M : Mem) : Option Value → Mem → Prop := oI (fun zz MM => zz = onlyV (tb M0) (M0 18 1) w lo up x ∧ Rd M0 MM (onlyX (tb M0) (M0 18 1) w lo up x))
set_option maxRecDepth 100000 in
set_option maxHeartbeats 4000000 in
theorem c_X3_onlyNumber {l : Launch} {G : va_G} {ad : Nat → Nat} {CA : Nat → ClassId} {nt : Nat} (hnt : 6 ≤ nt) (w : Int) (hw : 0 ≤ w ∧ w < 9) (lo : Int) (up : Int) (hlh : 0 ≤ lo ∧ lo ≤ up ∧ up ≤ 12) (M0 : Mem) (x : PX) (M : Mem) (hR : Rd M0 M x) : Mt l yX3_onlyNumber cX3_onlyNumber 4 (some .int) 4 83 G ad CA nt LyK [.ref (ad 17), .int (iN w), .int (iN lo), .int (iN up)] M (P_X3_onlyNumber w lo up M0 x M) := by
  refine Mt.of (by decide) (Nat.le_of_ble_eq_true rfl) (fun p e s m args below meth c hx hb hr hml hts hown hlocks hnm hW ls hl => ?_)
  have hl : lv_has ls 4 [(0, .ref (ad 17)), (1, .int (iN w)), (2, .int (iN lo)), (3, .int (iN up))] := hl
  have hnt4 : 4 ≤ nt := by omega
  obtain ⟨H, hH⟩ : ∃ z, z = s.heap := ⟨_, rfl⟩
  obtain ⟨locs, hlo⟩ : ∃ z : List Loc, z = [] := ⟨_, rfl⟩
  rw [← hH, ← hlo] at hW ⊢
  refine lv_aload_n hx hb dX3_onlyNumber_0 rfl (lv_at hl 0 rfl) ?_
  refine lv_iload_n hx hb dX3_onlyNumber_1 rfl (lv_at hl 1 rfl) ?_
  refine rw_iconst hx hb dX3_onlyNumber_2 ?_
  refine rw_callV hx hb hml hts hown hW ⟨Nat.le_refl 0, Nat.le_refl 0⟩ [.int (iN w), .int (iN 0)] 17 lk_17 rfl (c_X3_markSeen (l := l) (G := G) (ad := ad) (CA := CA) (nt := nt) (by omega) w 0 hw (by decide) M0 x M hR) kX3_103 rfl ⟨Nat.le_of_ble_eq_true rfl, Nat.le_of_ble_eq_true rfl⟩ hl.1 rfl (Nat.le_of_ble_eq_true rfl) dX3_onlyNumber_3 (fun v1 M2 H locs hp3 hW => ?_)
  obtain ⟨rfl, hM2⟩ := hp3
  refine rw_stk (st' := []) rfl ?_
  refine lv_aload_n hx hb dX3_onlyNumber_6 rfl (lv_at hl 0 rfl) ?_
  refine lv_iload_n hx hb dX3_onlyNumber_7 rfl (lv_at hl 2 rfl) ?_
  refine lv_iload_n hx hb dX3_onlyNumber_8 rfl (lv_at hl 3 rfl) ?_
  refine rw_callV hx hb hml hts hown hW ⟨Nat.le_refl 0, Nat.le_refl 0⟩ [.int (iN lo), .int (iN up)] 17 lk_17 rfl (c_X3_number (l := l) (G := G) (ad := ad) (CA := CA) (nt := nt) (by omega) lo up hlh M0 (markX (tb M0) (M0 18 1) w 0 x) M2 hM2.n) kX3_107 rfl ⟨Nat.le_of_ble_eq_true rfl, Nat.le_of_ble_eq_true rfl⟩ hl.1 rfl (Nat.le_of_ble_eq_true rfl) dX3_onlyNumber_9 (fun v4 M5 H locs hp6 hW => ?_)
  obtain ⟨a7, rfl, hM5⟩ := hp6
  refine rw_stk (st' := [.int (iN a7)]) rfl ?_
  refine rw_iret hx hb hr hlocks hW dX3_onlyNumber_12 (⟨a7, rfl, ?_⟩)
  exact hM5
abbrev P_X3_cellLine (w : Int) (k : Nat) (c0 : Int) (lo : Int) (up : Int) (M0 : Mem) (x : PX) (M : Mem) : Option Value → Mem → Prop := oV (fun MM => Rd M0 MM (cellX (tb M0) (M0 18 1) w c0 lo up x))
set_option maxRecDepth 100000 in
set_option maxHeartbeats 4000000 in
theorem c_X3_cellLine {l : Launch} {G : va_G} {ad : Nat → Nat} {CA : Nat → ClassId} {nt : Nat} (hnt : 6 ≤ nt) (w : Int) (hw : 0 ≤ w ∧ w < 9) (k : Nat) (hkL : LyK[k]? = some (.inr (0, 9, []))) (c0 : Int) (hkc : (k = 21 ∧ c0 = 0) ∨ (k = 22 ∧ c0 = 1) ∨ (k = 23 ∧ c0 = 2)) (lo : Int) (up : Int) (hlh : 0 ≤ lo ∧ lo ≤ up ∧ up ≤ 12) (M0 : Mem) (x : PX) (M : Mem) (hR : Rd M0 M x) : Mt l yX3_cellLine cX3_cellLine 6 none 4 83 G ad CA nt LyK [.ref (ad 17), .int (iN w), .ref (ad k), .int (iN lo), .int (iN up)] M (P_X3_cellLine w k c0 lo up M0 x M) := by
  refine Mt.of (by decide) (Nat.le_of_ble_eq_true rfl) (fun p e s m args below meth c hx hb hr hml hts hown hlocks hnm hW ls hl => ?_)
  have hl : lv_has ls 6 [(0, .ref (ad 17)), (1, .int (iN w)), (2, .ref (ad k)), (3, .int (iN lo)), (4, .int (iN up))] := hl
  have hnt4 : 4 ≤ nt := by omega
  obtain ⟨H, hH⟩ : ∃ z, z = s.heap := ⟨_, rfl⟩
  obtain ⟨locs, hlo⟩ : ∃ z : List Loc, z = [] := ⟨_, rfl⟩
  rw [← hH, ← hlo] at hW ⊢
  have hv1 := numV_rng (tb M0) (M0 18 1) (show (0 : Int) ≤ 8 by decide) x
  refine lv_aload_n hx hb dX3_cellLine_0 rfl (lv_at hl 0 rfl) ?_
  refine lv_aload_n hx hb dX3_cellLine_1 rfl (lv_at hl 0 rfl) ?_
  refine rw_iconst hx hb dX3_cellLine_2 ?_
  refine rw_bipush hx hb dX3_cellLine_3 (by decide) ?_
  refine rw_callV hx hb hml hts hown hW ⟨Nat.le_refl 0, Nat.le_refl 0⟩ [.int (iN 0), .int (iN 8)] 17 lk_17 rfl (c_X3_number (l := l) (G := G) (ad := ad) (CA := CA) (nt := nt) (by omega) 0 8 (by decide) M0 x M hR.n) kX3_107 rfl ⟨Nat.le_of_ble_eq_true rfl, Nat.le_of_ble_eq_true rfl⟩ hl.1 rfl (Nat.le_of_ble_eq_true rfl) dX3_cellLine_5 (fun v1 M2 H locs hp3 hW => ?_)
  obtain ⟨a4, rfl, hM2⟩ := hp3
  refine rw_stk (st' := [.int (iN a4), .ref (ad 17)]) rfl ?_
  obtain ⟨rfl, hR1⟩ := hM2
  refine rw_callV hx hb hml hts hown hW ⟨Nat.le_refl 0, Nat.le_refl 0⟩ [.int (iN (numV (tb M0) (M0 18 1) 0 8 x))] 17 lk_17 rfl (c_X3_noted (l := l) (G := G) (ad := ad) (CA := CA) (nt := nt) (by omega) (numV (tb M0) (M0 18 1) 0 8 x) hv1 M0 (numX (tb M0) (M0 18 1) 0 8 x) M2 hR1) kX3_83 rfl ⟨Nat.le_of_ble_eq_true rfl, Nat.le_of_ble_eq_true rfl⟩ hl.1 rfl (Nat.le_of_ble_eq_true rfl) dX3_cellLine_8 (fun v5 M6 H locs hp7 hW => ?_)
  obtain ⟨a8, rfl, hM6⟩ := hp7
  refine rw_stk (st' := [.int (iN a8)]) rfl ?_
  obtain ⟨rfl, hR2⟩ := hM6
  refine lv_istore (lv' := [(5, .int (iN (numV (tb M0) (M0 18 1) 0 8 x))), (0, .ref (ad 17)), (1, .int (iN w)), (2, .ref (ad k)), (3, .int (iN lo)), (4, .int (iN up))]) hx hb dX3_cellLine_11 hl (by decide) rfl (fun ls hl => ?_)
  refine lv_aload_n hx hb dX3_cellLine_13 rfl (lv_at hl 1 rfl) ?_
  refine lv_iload_n hx hb dX3_cellLine_14 rfl (lv_at hl 2 rfl) ?_
  refine lv_iload hx hb dX3_cellLine_15 (lv_at hl 0 rfl) ?_
  refine rw_callV hx hb hml hts hown hW ⟨Nat.le_refl 0, Nat.le_refl 0⟩ [.int (iN w), .int (iN (numV (tb M0) (M0 18 1) 0 8 x))] 17 lk_17 rfl (c_X3_markSeen (l := l) (G := G) (ad := ad) (CA := CA) (nt := nt) (by omega) w (numV (tb M0) (M0 18 1) 0 8 x) hw (by omega) M0 (farX (numV (tb M0) (M0 18 1) 0 8 x) (numX (tb M0) (M0 18 1) 0 8 x)) M6 hR2) kX3_103 rfl ⟨Nat.le_of_ble_eq_true rfl, Nat.le_of_ble_eq_true rfl⟩ hl.1 rfl (Nat.le_of_ble_eq_true rfl) dX3_cellLine_17 (fun v9 M10 H locs hp11 hW => ?_)
  obtain ⟨rfl, hM10⟩ := hp11
  refine rw_stk (st' := []) rfl ?_
  refine lv_aload_n hx hb dX3_cellLine_20 rfl (lv_at hl 3 rfl) ?_
  refine lv_iload hx hb dX3_cellLine_21 (lv_at hl 0 rfl) ?_
  refine lv_aload_n hx hb dX3_cellLine_23 rfl (lv_at hl 1 rfl) ?_
  refine lv_iload_n hx hb dX3_cellLine_24 rfl (lv_at hl 4 rfl) ?_
  refine lv_iload hx hb dX3_cellLine_25 (lv_at hl 5 rfl) ?_
  refine rw_callV hx hb hml hts hown hW ⟨Nat.le_refl 0, Nat.le_refl 0⟩ [.int (iN lo), .int (iN up)] 17 lk_17 rfl (c_X3_number (l := l) (G := G) (ad := ad) (CA := CA) (nt := nt) (by omega) lo up hlh M0 (markX (tb M0) (M0 18 1) w (numV (tb M0) (M0 18 1) 0 8 x) (farX (numV (tb M0) (M0 18 1) 0 8 x) (numX (tb M0) (M0 18 1) 0 8 x))) M10 hM10.n) kX3_107 rfl ⟨Nat.le_of_ble_eq_true rfl, Nat.le_of_ble_eq_true rfl⟩ hl.1 rfl (Nat.le_of_ble_eq_true rfl) dX3_cellLine_27 (fun v12 M13 H locs hp14 hW => ?_)
  obtain ⟨a15, rfl, hM13⟩ := hp14
  refine rw_stk (st' := [.int (iN a15), .int (iN (numV (tb M0) (M0 18 1) 0 8 x)), .ref (ad k)]) rfl ?_
  obtain ⟨rfl, hR3⟩ := hM13
  have hv2 := numV_rng (tb M0) (M0 18 1) hlh.2.1 (markX (tb M0) (M0 18 1) w (numV (tb M0) (M0 18 1) 0 8 x) (farX (numV (tb M0) (M0 18 1) 0 8 x) (numX (tb M0) (M0 18 1) 0 8 x)))
  refine rw_callN hx hb hml hts hown hW ⟨Nat.le_refl 0, Nat.le_refl 0⟩ [.ref (ad k), .int (iN (numV (tb M0) (M0 18 1) 0 8 x)), .int (iN (numV (tb M0) (M0 18 1) lo up (markX (tb M0) (M0 18 1) w (numV (tb M0) (M0 18 1) 0 8 x) (farX (numV (tb M0) (M0 18 1) 0 8 x) (numX (tb M0) (M0 18 1) 0 8 x)))))] (c_X10_replace (l := l) (G := G) (ad := ad) (CA := CA) (nt := nt) (by omega) k 9 (by decide) hkL (numV (tb M0) (M0 18 1) 0 8 x) (numV (tb M0) (M0 18 1) lo up (markX (tb M0) (M0 18 1) w (numV (tb M0) (M0 18 1) 0 8 x) (farX (numV (tb M0) (M0 18 1) 0 8 x) (numX (tb M0) (M0 18 1) 0 8 x)))) (by omega) M13) kX3_111 rfl ⟨Nat.le_of_ble_eq_true rfl, Nat.le_of_ble_eq_true rfl⟩ hl.1 rfl (Nat.le_of_ble_eq_true rfl) dX3_cellLine_30 (fun v16 M17 H locs hp18 hW => ?_)
  obtain ⟨_, rfl, rfl, hM17⟩ := hp18
  refine rw_stk (st' := [.int (iN (M13 k (numV (tb M0) (M0 18 1) 0 8 x)))]) rfl ?_
  refine lv_pop hx hb dX3_cellLine_33 rfl ?_
  refine rw_vret hx hb hr hlocks hW dX3_cellLine_34 (⟨rfl, ?_⟩)
  rw [hM17]; exact hR3.setc hkc (by omega)
abbrev P_X3_foolsLine (w : Int) (M0 : Mem) (x : PX) (M : Mem) : Option Value → Mem → Prop := oV (fun MM => Rd M0 MM (foolsX (tb M0) (M0 18 1) w x))
set_option maxRecDepth 100000 in
set_option maxHeartbeats 4000000 in
theorem c_X3_foolsLine {l : Launch} {G : va_G} {ad : Nat → Nat} {CA : Nat → ClassId} {nt : Nat} (hnt : 6 ≤ nt) (w : Int) (hw : 0 ≤ w ∧ w < 9) (M0 : Mem) (x : PX) (M : Mem) (hR : Rd M0 M x) : Mt l yX3_foolsLine cX3_foolsLine 3 none 4 83 G ad CA nt LyK [.ref (ad 17), .int (iN w)] M (P_X3_foolsLine w M0 x M) := by
  refine Mt.of (by decide) (Nat.le_of_ble_eq_true rfl) (fun p e s m args below meth c hx hb hr hml hts hown hlocks hnm hW ls hl => ?_)
  have hl : lv_has ls 3 [(0, .ref (ad 17)), (1, .int (iN w))] := hl
  have hnt4 : 4 ≤ nt := by omega
  obtain ⟨H, hH⟩ : ∃ z, z = s.heap := ⟨_, rfl⟩
  obtain ⟨locs, hlo⟩ : ∃ z : List Loc, z = [] := ⟨_, rfl⟩
  rw [← hH, ← hlo] at hW ⊢
  have hv1 := numV_rng (tb M0) (M0 18 1) (show (0 : Int) ≤ 1 by decide) x
  refine lv_aload_n hx hb dX3_foolsLine_0 rfl (lv_at hl 0 rfl) ?_
  refine rw_iconst hx hb dX3_foolsLine_1 ?_
  refine rw_iconst hx hb dX3_foolsLine_2 ?_
  refine rw_callV hx hb hml hts hown hW ⟨Nat.le_refl 0, Nat.le_refl 0⟩ [.int (iN 0), .int (iN 1)] 17 lk_17 rfl (c_X3_number (l := l) (G := G) (ad := ad) (CA := CA) (nt := nt) (by omega) 0 1 (by decide) M0 x M hR.n) kX3_107 rfl ⟨Nat.le_of_ble_eq_true rfl, Nat.le_of_ble_eq_true rfl⟩ hl.1 rfl (Nat.le_of_ble_eq_true rfl) dX3_foolsLine_3 (fun v1 M2 H locs hp3 hW => ?_)
  obtain ⟨a4, rfl, hM2⟩ := hp3
  refine rw_stk (st' := [.int (iN a4)]) rfl ?_
  obtain ⟨rfl, hR1⟩ := hM2
  refine lv_istore_n (lv' := [(2, .int (iN (numV (tb M0) (M0 18 1) 0 1 x))), (0, .ref (ad 17)), (1, .int (iN w))]) hx hb dX3_foolsLine_6 rfl hl (by decide) rfl (fun ls hl => ?_)
  refine lv_aload_n hx hb dX3_foolsLine_7 rfl (lv_at hl 1 rfl) ?_
  refine lv_iload_n hx hb dX3_foolsLine_8 rfl (lv_at hl 2 rfl) ?_
  refine lv_iload_n hx hb dX3_foolsLine_9 rfl (lv_at hl 0 rfl) ?_
  refine rw_callV hx hb hml hts hown hW ⟨Nat.le_refl 0, Nat.le_refl 0⟩ [.int (iN w), .int (iN (numV (tb M0) (M0 18 1) 0 1 x))] 17 lk_17 rfl (c_X3_markSeen (l := l) (G := G) (ad := ad) (CA := CA) (nt := nt) (by omega) w (numV (tb M0) (M0 18 1) 0 1 x) hw (by omega) M0 (numX (tb M0) (M0 18 1) 0 1 x) M2 hR1) kX3_103 rfl ⟨Nat.le_of_ble_eq_true rfl, Nat.le_of_ble_eq_true rfl⟩ hl.1 rfl (Nat.le_of_ble_eq_true rfl) dX3_foolsLine_10 (fun v5 M6 H locs hp7 hW => ?_)
  obtain ⟨rfl, hM6⟩ := hp7
  refine rw_stk (st' := []) rfl ?_
  refine lv_aload_n hx hb dX3_foolsLine_13 rfl (lv_at hl 1 rfl) ?_
  refine rw_getR hx hb hts hown hW 17 lk_17 1 20 rfl fX3_21 dX3_foolsLine_14 ?_
  refine lv_iload_n hx hb dX3_foolsLine_17 rfl (lv_at hl 0 rfl) ?_
  rcases (show numV (tb M0) (M0 18 1) 0 1 x = 0 ∨ numV (tb M0) (M0 18 1) 0 1 x = 1 by omega) with hs0 | hs0
  · refine rw_stk (st' := [.int (iN 0), .ref (ad 20)]) (by rw [hs0]) ?_
    refine rw_callV hx hb hml hts hown hW ⟨Nat.le_refl 0, Nat.le_refl 0⟩ [.int (iN 0)] 20 fk_20.1 rfl (c_X0_sideOf (l := l) (G := G) (ad := ad) (CA := CA) (nt := nt) 20 fk_20 0 (by omega) M6) kX3_115 rfl ⟨Nat.le_of_ble_eq_true rfl, Nat.le_of_ble_eq_true rfl⟩ hl.1 rfl (Nat.le_of_ble_eq_true rfl) dX3_foolsLine_18 (fun v8 M9 H locs hp10 hW => ?_)
    obtain ⟨_, rfl, rfl, hp10⟩ := hp10
    rw [hp10] at hW
    rw [if_pos rfl]
    refine rw_stk (st' := [.ref (ad 24)]) rfl ?_
    refine lv_aload_n hx hb dX3_foolsLine_21 rfl (lv_at hl 1 rfl) ?_
    refine rw_iconst hx hb dX3_foolsLine_22 ?_
    refine rw_iconst hx hb dX3_foolsLine_23 ?_
    refine rw_callV hx hb hml hts hown hW ⟨Nat.le_refl 0, Nat.le_refl 0⟩ [.int (iN 0), .int (iN 5)] 17 lk_17 rfl (c_X3_number (l := l) (G := G) (ad := ad) (CA := CA) (nt := nt) (by omega) 0 5 (by decide) M0 (markX (tb M0) (M0 18 1) w (numV (tb M0) (M0 18 1) 0 1 x) (numX (tb M0) (M0 18 1) 0 1 x)) M6 hM6.n) kX3_107 rfl ⟨Nat.le_of_ble_eq_true rfl, Nat.le_of_ble_eq_true rfl⟩ hl.1 rfl (Nat.le_of_ble_eq_true rfl) dX3_foolsLine_24 (fun v11 M12 H locs hp13 hW => ?_)
    obtain ⟨a14, rfl, hM12⟩ := hp13
    refine rw_stk (st' := [.int (iN a14), .ref (ad 24)]) rfl ?_
    obtain ⟨rfl, hR3⟩ := hM12
    refine rw_putI hx hb hts hown hW 24 fk_20.2.2.2.2.1.1 2 2 rfl rfl qX3_129 (v := numV (tb M0) (M0 18 1) 0 5 (markX (tb M0) (M0 18 1) w (numV (tb M0) (M0 18 1) 0 1 x) (numX (tb M0) (M0 18 1) 0 1 x))) dX3_foolsLine_27 (fun H locs hW => ?_)
    obtain ⟨M15, hM15⟩ : ∃ z, z = upd2 M12 24 2 (numV (tb M0) (M0 18 1) 0 5 (markX (tb M0) (M0 18 1) w (numV (tb M0) (M0 18 1) 0 1 x) (numX (tb M0) (M0 18 1) 0 1 x))) := ⟨_, rfl⟩
    rw [← hM15] at hW
    refine rw_vret hx hb hr hlocks hW dX3_foolsLine_30 (⟨rfl, ?_⟩)
    rw [hM15]; exact hR3.sets (s := numV (tb M0) (M0 18 1) 0 1 x) (by omega) (Or.inr (Or.inl ⟨rfl, rfl⟩))
  · refine rw_stk (st' := [.int (iN 1), .ref (ad 20)]) (by rw [hs0]) ?_
    refine rw_callV hx hb hml hts hown hW ⟨Nat.le_refl 0, Nat.le_refl 0⟩ [.int (iN 1)] 20 fk_20.1 rfl (c_X0_sideOf (l := l) (G := G) (ad := ad) (CA := CA) (nt := nt) 20 fk_20 1 (by omega) M6) kX3_115 rfl ⟨Nat.le_of_ble_eq_true rfl, Nat.le_of_ble_eq_true rfl⟩ hl.1 rfl (Nat.le_of_ble_eq_true rfl) dX3_foolsLine_18 (fun v16 M17 H locs hp18 hW => ?_)
    obtain ⟨_, rfl, rfl, hp18⟩ := hp18
    rw [hp18] at hW
    rw [if_neg (by decide)]
    refine rw_stk (st' := [.ref (ad 26)]) rfl ?_
    refine lv_aload_n hx hb dX3_foolsLine_21 rfl (lv_at hl 1 rfl) ?_
    refine rw_iconst hx hb dX3_foolsLine_22 ?_
    refine rw_iconst hx hb dX3_foolsLine_23 ?_
    refine rw_callV hx hb hml hts hown hW ⟨Nat.le_refl 0, Nat.le_refl 0⟩ [.int (iN 0), .int (iN 5)] 17 lk_17 rfl (c_X3_number (l := l) (G := G) (ad := ad) (CA := CA) (nt := nt) (by omega) 0 5 (by decide) M0 (markX (tb M0) (M0 18 1) w (numV (tb M0) (M0 18 1) 0 1 x) (numX (tb M0) (M0 18 1) 0 1 x)) M6 hM6.n) kX3_107 rfl ⟨Nat.le_of_ble_eq_true rfl, Nat.le_of_ble_eq_true rfl⟩ hl.1 rfl (Nat.le_of_ble_eq_true rfl) dX3_foolsLine_24 (fun v19 M20 H locs hp21 hW => ?_)
    obtain ⟨a22, rfl, hM20⟩ := hp21
    refine rw_stk (st' := [.int (iN a22), .ref (ad 26)]) rfl ?_
    obtain ⟨rfl, hR3⟩ := hM20
    refine rw_putI hx hb hts hown hW 26 fk_20.2.2.2.2.2.1 2 2 rfl rfl qX3_129 (v := numV (tb M0) (M0 18 1) 0 5 (markX (tb M0) (M0 18 1) w (numV (tb M0) (M0 18 1) 0 1 x) (numX (tb M0) (M0 18 1) 0 1 x))) dX3_foolsLine_27 (fun H locs hW => ?_)
    obtain ⟨M23, hM23⟩ : ∃ z, z = upd2 M20 26 2 (numV (tb M0) (M0 18 1) 0 5 (markX (tb M0) (M0 18 1) w (numV (tb M0) (M0 18 1) 0 1 x) (numX (tb M0) (M0 18 1) 0 1 x))) := ⟨_, rfl⟩
    rw [← hM23] at hW
    refine rw_vret hx hb hr hlocks hW dX3_foolsLine_30 (⟨rfl, ?_⟩)
    rw [hM23]; exact hR3.sets (s := numV (tb M0) (M0 18 1) 0 1 x) (by omega) (Or.inr (Or.inl ⟨rfl, rfl⟩))
