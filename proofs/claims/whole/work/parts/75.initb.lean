abbrev P_X7_init (k : Nat) (M MM : Mem) : Prop := ∀ q, q ≤ k → MM q = M q
set_option maxRecDepth 100000 in
set_option maxHeartbeats 8000000 in
theorem c_X7_init {l : Launch} {G : va_G} {ad : Nat → Nat} {CA : Nat → ClassId} (L0 Ly Ly' : List LD) (k : Nat) (hk : L0.length = k) (hLy : Ly = L0 ++ [.inl (7, [2, 2])]) (hLy' : Ly' = L0 ++ stgL k) (hcl : CloL Ly) (M : Mem) (sz : Nat)  : MtG l yX7_init cX7_init 2 4 81 579 220 G ad CA Ly Ly' [.ref (ad k)] M (fun MM => CloL Ly' ∧ P_X7_init k M MM) sz := by
  subst hLy hLy'
  refine MtG.of (by decide) (Nat.le_of_ble_eq_true rfl) (fun p e s m args below meth c hx hb hr hml hts hown hlocks hnm hAO hA hW ls hl => ?_)
  have hl : lv_has ls 2 [(0, .ref (ad k))] := hl
  have hcl : CloL (L0 ++ (.inl (7, [2, 2]) :: [])) := hcl
  obtain ⟨H, hH⟩ : ∃ z, z = s.heap := ⟨_, rfl⟩
  obtain ⟨locs, hlo⟩ : ∃ z : List Loc, z = [] := ⟨_, rfl⟩
  rw [← hlo]
  have hW9 := hW
  rw [← hlo] at hW9
  clear hW
  have hW : Wo G ad CA 6 (L0 ++ (.inl (7, [2, 2]) :: [])) (AG ad _ s.heap.size) s M s.heap locs := hW9
  show WfG l 4 81 579 220 G ad CA _ _ _ p e s m args below meth c s.heap locs 0 0 (F0 m 0 ls [])
  clear hW9
  have hc0 : ∀ j, j < k + 1 → ad j = ad j := fun _ _ => rfl
  refine lv_aload_n hx hb dX7_init_0 rfl (lv_at hl 0 rfl) ?_
  refine W.objInit hx hb hown (hts _ (wm_5 _ (List.mem_of_getElem? (i := 17) rfl))) (hts _ (wm_1 _ (List.mem_of_getElem? (i := 11) rfl))) (hts _ (wm_1 _ (List.mem_of_getElem? (i := 12) rfl))) rfl (by rw [hml]; exact hl.1) rfl dX7_init_1 (Nat.le_of_ble_eq_true rfl) (Nat.le_of_ble_eq_true rfl) ?_
  refine W.eq (g2 := F0 m 4 ls []) rfl ?_
  refine lv_aload_n hx hb dX7_init_4 rfl (lv_at hl 0 rfl) ?_
  refine rw_bipush hx hb dX7_init_5 (by decide) ?_
  refine nwQ (n := k + 1) hx hb hts hown hA hk rfl hW hcl (wm_5 _ (List.mem_of_getElem? (i := 18) rfl)) hAO.1 4 (Or.inl ⟨rfl, rfl⟩) (N := 9) rfl (by decide) (Nat.le_of_ble_eq_true rfl) (Nat.le_of_ble_eq_true rfl) dX7_init_7 (fun ad1 H hx1 hcl hW => ?_)
  rw [← hx1 k (by omega)] at hl
  rw [← hx1 k (by omega)]
  have hc1 : ∀ j, j < k + 1 → ad1 j = ad j := fun j hj => (hx1 j (by omega)).trans (hc0 j hj)
  obtain ⟨M1, hM1⟩ : ∃ z, z = updR M (k + 1) zr := ⟨_, rfl⟩
  rw [← hM1] at hW
  have hsM1 : ∀ q, q < k + 1 → M1 q = M q := fun q hq => by rw [hM1]; exact updR_ne (by omega)
  refine nwP hx hb hts hown hnm hk hW hcl 0 rfl (k + 1) (by show _ < k + (1 + 1); omega) qX7_11 (fun _ => ⟨rfl, rfl⟩) dX7_init_10 (fun H locs hcl hW => ?_)
  have hcl : CloL (L0 ++ (.inl (7, [k + 1 + 3, 2]) :: ([.inr (4, 9, [])]))) := hcl
  have hW : Wo G ad1 CA 6 (L0 ++ (.inl (7, [k + 1 + 3, 2]) :: ([.inr (4, 9, [])]))) (AG ad _ s.heap.size) s M1 H locs := hW
  refine lv_aload_n hx hb dX7_init_13 rfl (lv_at hl 0 rfl) ?_
  refine nwO (n := k + 2) hx hb hts hown hA hk rfl hW hcl nX7_9 (Nat.le_of_ble_eq_true rfl) (Nat.le_of_ble_eq_true rfl) dX7_init_14 (fun ad2 H hx2 hcl hW => ?_)
  rw [← hx2 k (by omega)] at hl
  rw [← hx2 k (by omega)]
  have hc2 : ∀ j, j < k + 1 → ad2 j = ad j := fun j hj => (hx2 j (by omega)).trans (hc1 j hj)
  obtain ⟨M2, hM2⟩ : ∃ z, z = updR M1 (k + 2) zr := ⟨_, rfl⟩
  rw [← hM2] at hW
  have hsM2 : ∀ q, q < k + 2 → M2 q = M1 q := fun q hq => by rw [hM2]; exact updR_ne (by omega)
  have hzM2 : M2 (k + 2) = zr := by rw [hM2]; exact updR_eq
  refine lv_dup hx hb dX7_init_17 rfl ?_
  refine rw_initG hx hb hml hts hown hW hA hAO (k + 2) (c_X0_init (l := l) (G := G) (ad := ad2) (CA := CA) (L0 ++ (.inl (7, [k + 1 + 3, 2]) :: ([.inr (4, 9, [])]))) (L0 ++ (.inl (7, [k + 1 + 3, 2]) :: ([.inr (4, 9, [])] ++ [.inl (0, [0, 0, 0, 0, 0, 2, 2, 2, 2, 2])]))) (L0 ++ (.inl (7, [k + 1 + 3, 2]) :: ([.inr (4, 9, [])] ++ fieldL (k + 2)))) (k + 2) (by rw [len_oT hk]; rfl) app_oT.symm app_oT.symm hcl M2 _) iX7_17 ⟨Nat.le_of_ble_eq_true rfl, Nat.le_of_ble_eq_true rfl⟩ ⟨Nat.le_of_ble_eq_true rfl, Nat.le_of_ble_eq_true rfl⟩ hl.1 (Nat.le_of_ble_eq_true rfl) dX7_init_18 (fun ad3 M3 H locs hx0 hp hW _ _ => ?_)
  have hx3 : ∀ j, j < k + 3 → ad3 j = ad2 j := fun j hj => hx0 j (by rw [len_oT hk]; exact hj)
  rw [← hx3 k (by omega)] at hl
  rw [← hx3 k (by omega), ← hx3 (k + 2) (by omega)]
  have hc3 : ∀ j, j < k + 1 → ad3 j = ad j := fun j hj => (hx3 j (by omega)).trans (hc2 j hj)
  obtain ⟨hcl, hpM3⟩ := hp
  have hsM3 : ∀ q, q < k + 2 → M3 q = M2 q := fun q hq => hpM3.2 q (by omega)
  refine nwP hx hb hts hown hnm hk hW hcl 1 rfl (k + 2) (by show _ < k + (9 + 1); omega) qX7_18 (fun _ => ⟨rfl, rfl⟩) dX7_init_21 (fun H locs hcl hW => ?_)
  have hcl : CloL (L0 ++ (.inl (7, [k + 1 + 3, k + 2 + 3]) :: ([.inr (4, 9, [])] ++ fieldL (k + 2)))) := hcl
  have hW : Wo G ad3 CA 6 (L0 ++ (.inl (7, [k + 1 + 3, k + 2 + 3]) :: ([.inr (4, 9, [])] ++ fieldL (k + 2)))) (AG ad _ s.heap.size) s M3 H locs := hW
  refine rw_iconst hx hb dX7_init_24 ?_
  refine lv_istore_n (lv' := [(1, .int (iN 0)), (0, .ref (ad3 k))]) hx hb dX7_init_25 rfl hl (by decide) rfl (fun ls hl => ?_)
  refine lv_iload_n hx hb dX7_init_26 rfl (lv_at hl 0 rfl) ?_
  refine lv_aload_n hx hb dX7_init_27 rfl (lv_at hl 1 rfl) ?_
  refine rw_getR hx hb hts hown hW k (get_o0 hk) 0 (k + 1) rfl fX7_11 dX7_init_28 ?_
  refine rw_alen hx hb hW (k + 1) (get_oT hk (j := 0) rfl) (tyL_get (by decide) rfl) dX7_init_31 ?_
  refine rw_stk (st' := [.int (iN 9), .int (iN 0)]) rfl ?_
  refine rw_icmp_ge (tgt := 54) hx hb dX7_init_32 (by decide) (by decide) (by decide) (fun c => absurd c (by decide)) (fun _ => ?_)
  refine lv_aload_n hx hb dX7_init_35 rfl (lv_at hl 1 rfl) ?_
  refine rw_getR hx hb hts hown hW k (get_o0 hk) 0 (k + 1) rfl fX7_11 dX7_init_36 ?_
  refine lv_iload_n hx hb dX7_init_39 rfl (lv_at hl 0 rfl) ?_
  refine nwO (n := k + 10) hx hb hts hown hA hk rfl hW hcl nX7_9 (Nat.le_of_ble_eq_true rfl) (Nat.le_of_ble_eq_true rfl) dX7_init_40 (fun ad4 H hx4 hcl hW => ?_)
  rw [← hx4 k (by omega)] at hl
  rw [← hx4 (k + 1) (by omega)]
  have hc4 : ∀ j, j < k + 1 → ad4 j = ad j := fun j hj => (hx4 j (by omega)).trans (hc3 j hj)
  obtain ⟨M4, hM4⟩ : ∃ z, z = updR M3 (k + 10) zr := ⟨_, rfl⟩
  rw [← hM4] at hW
  have hsM4 : ∀ q, q < k + 10 → M4 q = M3 q := fun q hq => by rw [hM4]; exact updR_ne (by omega)
  have hzM4 : M4 (k + 10) = zr := by rw [hM4]; exact updR_eq
  refine lv_dup hx hb dX7_init_43 rfl ?_
  refine rw_initG hx hb hml hts hown hW hA hAO (k + 10) (c_X0_init (l := l) (G := G) (ad := ad4) (CA := CA) (L0 ++ (.inl (7, [k + 1 + 3, k + 2 + 3]) :: ([.inr (4, 9, [])] ++ fieldL (k + 2)))) (L0 ++ (.inl (7, [k + 1 + 3, k + 2 + 3]) :: ([.inr (4, 9, [])] ++ fieldL (k + 2) ++ [.inl (0, [0, 0, 0, 0, 0, 2, 2, 2, 2, 2])]))) (L0 ++ (.inl (7, [k + 1 + 3, k + 2 + 3]) :: ([.inr (4, 9, [])] ++ fieldL (k + 2) ++ fieldL (k + 10)))) (k + 10) (by rw [len_oT hk]; rfl) app_oT.symm app_oT.symm hcl M4 _) iX7_17 ⟨Nat.le_of_ble_eq_true rfl, Nat.le_of_ble_eq_true rfl⟩ ⟨Nat.le_of_ble_eq_true rfl, Nat.le_of_ble_eq_true rfl⟩ hl.1 (Nat.le_of_ble_eq_true rfl) dX7_init_44 (fun ad5 M5 H locs hx0 hp hW _ _ => ?_)
  have hx5 : ∀ j, j < k + 11 → ad5 j = ad4 j := fun j hj => hx0 j (by rw [len_oT hk]; exact hj)
  rw [← hx5 k (by omega)] at hl
  rw [← hx5 (k + 1) (by omega), ← hx5 (k + 10) (by omega)]
  have hc5 : ∀ j, j < k + 1 → ad5 j = ad j := fun j hj => (hx5 j (by omega)).trans (hc4 j hj)
  obtain ⟨hcl, hpM5⟩ := hp
  have hsM5 : ∀ q, q < k + 10 → M5 q = M4 q := fun q hq => hpM5.2 q (by omega)
  refine nwS hx hb hk hW hcl 0 4 rfl 9 rfl (Or.inl ⟨rfl, rfl⟩) rfl (Nat.le_of_ble_eq_true rfl) (by decide) dX7_init_47 (fun H locs hcl hW => ?_)
  have hcl : CloL (L0 ++ (.inl (7, [k + 1 + 3, k + 2 + 3]) :: ([.inr (4, 9, [k + 10])] ++ fieldL (k + 2) ++ fieldL (k + 10)))) := hcl
  have hW : Wo G ad5 CA 6 (L0 ++ (.inl (7, [k + 1 + 3, k + 2 + 3]) :: ([.inr (4, 9, [k + 10])] ++ fieldL (k + 2) ++ fieldL (k + 10)))) (AG ad _ s.heap.size) s M5 H locs := hW
  refine rw_iinc (lv' := [(1, .int (iN 1)), (0, .ref (ad5 k))]) hx hb dX7_init_48 hl (k := 0) rfl (by decide) rfl (fun ls hl => ?_)
  refine lv_goto (tgt := 26) hx hb dX7_init_51 (by decide) ?_
  refine lv_iload_n hx hb dX7_init_26 rfl (lv_at hl 0 rfl) ?_
  refine lv_aload_n hx hb dX7_init_27 rfl (lv_at hl 1 rfl) ?_
  refine rw_getR hx hb hts hown hW k (get_o0 hk) 0 (k + 1) rfl fX7_11 dX7_init_28 ?_
  refine rw_alen hx hb hW (k + 1) (get_oT hk (j := 0) rfl) (tyL_get (by decide) rfl) dX7_init_31 ?_
  refine rw_stk (st' := [.int (iN 9), .int (iN 1)]) rfl ?_
  refine rw_icmp_ge (tgt := 54) hx hb dX7_init_32 (by decide) (by decide) (by decide) (fun c => absurd c (by decide)) (fun _ => ?_)
  refine lv_aload_n hx hb dX7_init_35 rfl (lv_at hl 1 rfl) ?_
  refine rw_getR hx hb hts hown hW k (get_o0 hk) 0 (k + 1) rfl fX7_11 dX7_init_36 ?_
  refine lv_iload_n hx hb dX7_init_39 rfl (lv_at hl 0 rfl) ?_
  refine nwO (n := k + 18) hx hb hts hown hA hk rfl hW hcl nX7_9 (Nat.le_of_ble_eq_true rfl) (Nat.le_of_ble_eq_true rfl) dX7_init_40 (fun ad6 H hx6 hcl hW => ?_)
  rw [← hx6 k (by omega)] at hl
  rw [← hx6 (k + 1) (by omega)]
  have hc6 : ∀ j, j < k + 1 → ad6 j = ad j := fun j hj => (hx6 j (by omega)).trans (hc5 j hj)
  obtain ⟨M6, hM6⟩ : ∃ z, z = updR M5 (k + 18) zr := ⟨_, rfl⟩
  rw [← hM6] at hW
  have hsM6 : ∀ q, q < k + 18 → M6 q = M5 q := fun q hq => by rw [hM6]; exact updR_ne (by omega)
  have hzM6 : M6 (k + 18) = zr := by rw [hM6]; exact updR_eq
  refine lv_dup hx hb dX7_init_43 rfl ?_
  refine rw_initG hx hb hml hts hown hW hA hAO (k + 18) (c_X0_init (l := l) (G := G) (ad := ad6) (CA := CA) (L0 ++ (.inl (7, [k + 1 + 3, k + 2 + 3]) :: ([.inr (4, 9, [k + 10])] ++ fieldL (k + 2) ++ fieldL (k + 10)))) (L0 ++ (.inl (7, [k + 1 + 3, k + 2 + 3]) :: ([.inr (4, 9, [k + 10])] ++ fieldL (k + 2) ++ fieldL (k + 10) ++ [.inl (0, [0, 0, 0, 0, 0, 2, 2, 2, 2, 2])]))) (L0 ++ (.inl (7, [k + 1 + 3, k + 2 + 3]) :: ([.inr (4, 9, [k + 10])] ++ fieldL (k + 2) ++ fieldL (k + 10) ++ fieldL (k + 18)))) (k + 18) (by rw [len_oT hk]; rfl) app_oT.symm app_oT.symm hcl M6 _) iX7_17 ⟨Nat.le_of_ble_eq_true rfl, Nat.le_of_ble_eq_true rfl⟩ ⟨Nat.le_of_ble_eq_true rfl, Nat.le_of_ble_eq_true rfl⟩ hl.1 (Nat.le_of_ble_eq_true rfl) dX7_init_44 (fun ad7 M7 H locs hx0 hp hW _ _ => ?_)
  have hx7 : ∀ j, j < k + 19 → ad7 j = ad6 j := fun j hj => hx0 j (by rw [len_oT hk]; exact hj)
  rw [← hx7 k (by omega)] at hl
  rw [← hx7 (k + 1) (by omega), ← hx7 (k + 18) (by omega)]
  have hc7 : ∀ j, j < k + 1 → ad7 j = ad j := fun j hj => (hx7 j (by omega)).trans (hc6 j hj)
  obtain ⟨hcl, hpM7⟩ := hp
  have hsM7 : ∀ q, q < k + 18 → M7 q = M6 q := fun q hq => hpM7.2 q (by omega)
  refine nwS hx hb hk hW hcl 0 4 rfl 17 rfl (Or.inl ⟨rfl, rfl⟩) rfl (Nat.le_of_ble_eq_true rfl) (by decide) dX7_init_47 (fun H locs hcl hW => ?_)
  have hcl : CloL (L0 ++ (.inl (7, [k + 1 + 3, k + 2 + 3]) :: ([.inr (4, 9, [k + 10, k + 18])] ++ fieldL (k + 2) ++ fieldL (k + 10) ++ fieldL (k + 18)))) := hcl
  have hW : Wo G ad7 CA 6 (L0 ++ (.inl (7, [k + 1 + 3, k + 2 + 3]) :: ([.inr (4, 9, [k + 10, k + 18])] ++ fieldL (k + 2) ++ fieldL (k + 10) ++ fieldL (k + 18)))) (AG ad _ s.heap.size) s M7 H locs := hW
  refine rw_iinc (lv' := [(1, .int (iN 2)), (0, .ref (ad7 k))]) hx hb dX7_init_48 hl (k := 0) rfl (by decide) rfl (fun ls hl => ?_)
  refine lv_goto (tgt := 26) hx hb dX7_init_51 (by decide) ?_
  refine lv_iload_n hx hb dX7_init_26 rfl (lv_at hl 0 rfl) ?_
  refine lv_aload_n hx hb dX7_init_27 rfl (lv_at hl 1 rfl) ?_
  refine rw_getR hx hb hts hown hW k (get_o0 hk) 0 (k + 1) rfl fX7_11 dX7_init_28 ?_
  refine rw_alen hx hb hW (k + 1) (get_oT hk (j := 0) rfl) (tyL_get (by decide) rfl) dX7_init_31 ?_
  refine rw_stk (st' := [.int (iN 9), .int (iN 2)]) rfl ?_
  refine rw_icmp_ge (tgt := 54) hx hb dX7_init_32 (by decide) (by decide) (by decide) (fun c => absurd c (by decide)) (fun _ => ?_)
  refine lv_aload_n hx hb dX7_init_35 rfl (lv_at hl 1 rfl) ?_
  refine rw_getR hx hb hts hown hW k (get_o0 hk) 0 (k + 1) rfl fX7_11 dX7_init_36 ?_
  refine lv_iload_n hx hb dX7_init_39 rfl (lv_at hl 0 rfl) ?_
  refine nwO (n := k + 26) hx hb hts hown hA hk rfl hW hcl nX7_9 (Nat.le_of_ble_eq_true rfl) (Nat.le_of_ble_eq_true rfl) dX7_init_40 (fun ad8 H hx8 hcl hW => ?_)
  rw [← hx8 k (by omega)] at hl
  rw [← hx8 (k + 1) (by omega)]
  have hc8 : ∀ j, j < k + 1 → ad8 j = ad j := fun j hj => (hx8 j (by omega)).trans (hc7 j hj)
  obtain ⟨M8, hM8⟩ : ∃ z, z = updR M7 (k + 26) zr := ⟨_, rfl⟩
  rw [← hM8] at hW
  have hsM8 : ∀ q, q < k + 26 → M8 q = M7 q := fun q hq => by rw [hM8]; exact updR_ne (by omega)
  have hzM8 : M8 (k + 26) = zr := by rw [hM8]; exact updR_eq
  refine lv_dup hx hb dX7_init_43 rfl ?_
  refine rw_initG hx hb hml hts hown hW hA hAO (k + 26) (c_X0_init (l := l) (G := G) (ad := ad8) (CA := CA) (L0 ++ (.inl (7, [k + 1 + 3, k + 2 + 3]) :: ([.inr (4, 9, [k + 10, k + 18])] ++ fieldL (k + 2) ++ fieldL (k + 10) ++ fieldL (k + 18)))) (L0 ++ (.inl (7, [k + 1 + 3, k + 2 + 3]) :: ([.inr (4, 9, [k + 10, k + 18])] ++ fieldL (k + 2) ++ fieldL (k + 10) ++ fieldL (k + 18) ++ [.inl (0, [0, 0, 0, 0, 0, 2, 2, 2, 2, 2])]))) (L0 ++ (.inl (7, [k + 1 + 3, k + 2 + 3]) :: ([.inr (4, 9, [k + 10, k + 18])] ++ fieldL (k + 2) ++ fieldL (k + 10) ++ fieldL (k + 18) ++ fieldL (k + 26)))) (k + 26) (by rw [len_oT hk]; rfl) app_oT.symm app_oT.symm hcl M8 _) iX7_17 ⟨Nat.le_of_ble_eq_true rfl, Nat.le_of_ble_eq_true rfl⟩ ⟨Nat.le_of_ble_eq_true rfl, Nat.le_of_ble_eq_true rfl⟩ hl.1 (Nat.le_of_ble_eq_true rfl) dX7_init_44 (fun ad9 M9 H locs hx0 hp hW _ _ => ?_)
  have hx9 : ∀ j, j < k + 27 → ad9 j = ad8 j := fun j hj => hx0 j (by rw [len_oT hk]; exact hj)
  rw [← hx9 k (by omega)] at hl
  rw [← hx9 (k + 1) (by omega), ← hx9 (k + 26) (by omega)]
  have hc9 : ∀ j, j < k + 1 → ad9 j = ad j := fun j hj => (hx9 j (by omega)).trans (hc8 j hj)
  obtain ⟨hcl, hpM9⟩ := hp
  have hsM9 : ∀ q, q < k + 26 → M9 q = M8 q := fun q hq => hpM9.2 q (by omega)
  refine nwS hx hb hk hW hcl 0 4 rfl 25 rfl (Or.inl ⟨rfl, rfl⟩) rfl (Nat.le_of_ble_eq_true rfl) (by decide) dX7_init_47 (fun H locs hcl hW => ?_)
  have hcl : CloL (L0 ++ (.inl (7, [k + 1 + 3, k + 2 + 3]) :: ([.inr (4, 9, [k + 10, k + 18, k + 26])] ++ fieldL (k + 2) ++ fieldL (k + 10) ++ fieldL (k + 18) ++ fieldL (k + 26)))) := hcl
  have hW : Wo G ad9 CA 6 (L0 ++ (.inl (7, [k + 1 + 3, k + 2 + 3]) :: ([.inr (4, 9, [k + 10, k + 18, k + 26])] ++ fieldL (k + 2) ++ fieldL (k + 10) ++ fieldL (k + 18) ++ fieldL (k + 26)))) (AG ad _ s.heap.size) s M9 H locs := hW
  refine rw_iinc (lv' := [(1, .int (iN 3)), (0, .ref (ad9 k))]) hx hb dX7_init_48 hl (k := 0) rfl (by decide) rfl (fun ls hl => ?_)
  refine lv_goto (tgt := 26) hx hb dX7_init_51 (by decide) ?_
  refine lv_iload_n hx hb dX7_init_26 rfl (lv_at hl 0 rfl) ?_
  refine lv_aload_n hx hb dX7_init_27 rfl (lv_at hl 1 rfl) ?_
  refine rw_getR hx hb hts hown hW k (get_o0 hk) 0 (k + 1) rfl fX7_11 dX7_init_28 ?_
  refine rw_alen hx hb hW (k + 1) (get_oT hk (j := 0) rfl) (tyL_get (by decide) rfl) dX7_init_31 ?_
  refine rw_stk (st' := [.int (iN 9), .int (iN 3)]) rfl ?_
  refine rw_icmp_ge (tgt := 54) hx hb dX7_init_32 (by decide) (by decide) (by decide) (fun c => absurd c (by decide)) (fun _ => ?_)
  refine lv_aload_n hx hb dX7_init_35 rfl (lv_at hl 1 rfl) ?_
  refine rw_getR hx hb hts hown hW k (get_o0 hk) 0 (k + 1) rfl fX7_11 dX7_init_36 ?_
  refine lv_iload_n hx hb dX7_init_39 rfl (lv_at hl 0 rfl) ?_
  refine nwO (n := k + 34) hx hb hts hown hA hk rfl hW hcl nX7_9 (Nat.le_of_ble_eq_true rfl) (Nat.le_of_ble_eq_true rfl) dX7_init_40 (fun ad10 H hx10 hcl hW => ?_)
  rw [← hx10 k (by omega)] at hl
  rw [← hx10 (k + 1) (by omega)]
  have hc10 : ∀ j, j < k + 1 → ad10 j = ad j := fun j hj => (hx10 j (by omega)).trans (hc9 j hj)
  obtain ⟨M10, hM10⟩ : ∃ z, z = updR M9 (k + 34) zr := ⟨_, rfl⟩
  rw [← hM10] at hW
  have hsM10 : ∀ q, q < k + 34 → M10 q = M9 q := fun q hq => by rw [hM10]; exact updR_ne (by omega)
  have hzM10 : M10 (k + 34) = zr := by rw [hM10]; exact updR_eq
  refine lv_dup hx hb dX7_init_43 rfl ?_
  refine rw_initG hx hb hml hts hown hW hA hAO (k + 34) (c_X0_init (l := l) (G := G) (ad := ad10) (CA := CA) (L0 ++ (.inl (7, [k + 1 + 3, k + 2 + 3]) :: ([.inr (4, 9, [k + 10, k + 18, k + 26])] ++ fieldL (k + 2) ++ fieldL (k + 10) ++ fieldL (k + 18) ++ fieldL (k + 26)))) (L0 ++ (.inl (7, [k + 1 + 3, k + 2 + 3]) :: ([.inr (4, 9, [k + 10, k + 18, k + 26])] ++ fieldL (k + 2) ++ fieldL (k + 10) ++ fieldL (k + 18) ++ fieldL (k + 26) ++ [.inl (0, [0, 0, 0, 0, 0, 2, 2, 2, 2, 2])]))) (L0 ++ (.inl (7, [k + 1 + 3, k + 2 + 3]) :: ([.inr (4, 9, [k + 10, k + 18, k + 26])] ++ fieldL (k + 2) ++ fieldL (k + 10) ++ fieldL (k + 18) ++ fieldL (k + 26) ++ fieldL (k + 34)))) (k + 34) (by rw [len_oT hk]; rfl) app_oT.symm app_oT.symm hcl M10 _) iX7_17 ⟨Nat.le_of_ble_eq_true rfl, Nat.le_of_ble_eq_true rfl⟩ ⟨Nat.le_of_ble_eq_true rfl, Nat.le_of_ble_eq_true rfl⟩ hl.1 (Nat.le_of_ble_eq_true rfl) dX7_init_44 (fun ad11 M11 H locs hx0 hp hW _ _ => ?_)
  have hx11 : ∀ j, j < k + 35 → ad11 j = ad10 j := fun j hj => hx0 j (by rw [len_oT hk]; exact hj)
  rw [← hx11 k (by omega)] at hl
  rw [← hx11 (k + 1) (by omega), ← hx11 (k + 34) (by omega)]
  have hc11 : ∀ j, j < k + 1 → ad11 j = ad j := fun j hj => (hx11 j (by omega)).trans (hc10 j hj)
  obtain ⟨hcl, hpM11⟩ := hp
  have hsM11 : ∀ q, q < k + 34 → M11 q = M10 q := fun q hq => hpM11.2 q (by omega)
  refine nwS hx hb hk hW hcl 0 4 rfl 33 rfl (Or.inl ⟨rfl, rfl⟩) rfl (Nat.le_of_ble_eq_true rfl) (by decide) dX7_init_47 (fun H locs hcl hW => ?_)
  have hcl : CloL (L0 ++ (.inl (7, [k + 1 + 3, k + 2 + 3]) :: ([.inr (4, 9, [k + 10, k + 18, k + 26, k + 34])] ++ fieldL (k + 2) ++ fieldL (k + 10) ++ fieldL (k + 18) ++ fieldL (k + 26) ++ fieldL (k + 34)))) := hcl
  have hW : Wo G ad11 CA 6 (L0 ++ (.inl (7, [k + 1 + 3, k + 2 + 3]) :: ([.inr (4, 9, [k + 10, k + 18, k + 26, k + 34])] ++ fieldL (k + 2) ++ fieldL (k + 10) ++ fieldL (k + 18) ++ fieldL (k + 26) ++ fieldL (k + 34)))) (AG ad _ s.heap.size) s M11 H locs := hW
  refine rw_iinc (lv' := [(1, .int (iN 4)), (0, .ref (ad11 k))]) hx hb dX7_init_48 hl (k := 0) rfl (by decide) rfl (fun ls hl => ?_)
  refine lv_goto (tgt := 26) hx hb dX7_init_51 (by decide) ?_
  refine lv_iload_n hx hb dX7_init_26 rfl (lv_at hl 0 rfl) ?_
  refine lv_aload_n hx hb dX7_init_27 rfl (lv_at hl 1 rfl) ?_
  refine rw_getR hx hb hts hown hW k (get_o0 hk) 0 (k + 1) rfl fX7_11 dX7_init_28 ?_
  refine rw_alen hx hb hW (k + 1) (get_oT hk (j := 0) rfl) (tyL_get (by decide) rfl) dX7_init_31 ?_
  refine rw_stk (st' := [.int (iN 9), .int (iN 4)]) rfl ?_
  refine rw_icmp_ge (tgt := 54) hx hb dX7_init_32 (by decide) (by decide) (by decide) (fun c => absurd c (by decide)) (fun _ => ?_)
  refine lv_aload_n hx hb dX7_init_35 rfl (lv_at hl 1 rfl) ?_
  refine rw_getR hx hb hts hown hW k (get_o0 hk) 0 (k + 1) rfl fX7_11 dX7_init_36 ?_
  refine lv_iload_n hx hb dX7_init_39 rfl (lv_at hl 0 rfl) ?_
  refine nwO (n := k + 42) hx hb hts hown hA hk rfl hW hcl nX7_9 (Nat.le_of_ble_eq_true rfl) (Nat.le_of_ble_eq_true rfl) dX7_init_40 (fun ad12 H hx12 hcl hW => ?_)
  rw [← hx12 k (by omega)] at hl
  rw [← hx12 (k + 1) (by omega)]
  have hc12 : ∀ j, j < k + 1 → ad12 j = ad j := fun j hj => (hx12 j (by omega)).trans (hc11 j hj)
  obtain ⟨M12, hM12⟩ : ∃ z, z = updR M11 (k + 42) zr := ⟨_, rfl⟩
  rw [← hM12] at hW
  have hsM12 : ∀ q, q < k + 42 → M12 q = M11 q := fun q hq => by rw [hM12]; exact updR_ne (by omega)
  have hzM12 : M12 (k + 42) = zr := by rw [hM12]; exact updR_eq
  refine lv_dup hx hb dX7_init_43 rfl ?_
  refine rw_initG hx hb hml hts hown hW hA hAO (k + 42) (c_X0_init (l := l) (G := G) (ad := ad12) (CA := CA) (L0 ++ (.inl (7, [k + 1 + 3, k + 2 + 3]) :: ([.inr (4, 9, [k + 10, k + 18, k + 26, k + 34])] ++ fieldL (k + 2) ++ fieldL (k + 10) ++ fieldL (k + 18) ++ fieldL (k + 26) ++ fieldL (k + 34)))) (L0 ++ (.inl (7, [k + 1 + 3, k + 2 + 3]) :: ([.inr (4, 9, [k + 10, k + 18, k + 26, k + 34])] ++ fieldL (k + 2) ++ fieldL (k + 10) ++ fieldL (k + 18) ++ fieldL (k + 26) ++ fieldL (k + 34) ++ [.inl (0, [0, 0, 0, 0, 0, 2, 2, 2, 2, 2])]))) (L0 ++ (.inl (7, [k + 1 + 3, k + 2 + 3]) :: ([.inr (4, 9, [k + 10, k + 18, k + 26, k + 34])] ++ fieldL (k + 2) ++ fieldL (k + 10) ++ fieldL (k + 18) ++ fieldL (k + 26) ++ fieldL (k + 34) ++ fieldL (k + 42)))) (k + 42) (by rw [len_oT hk]; rfl) app_oT.symm app_oT.symm hcl M12 _) iX7_17 ⟨Nat.le_of_ble_eq_true rfl, Nat.le_of_ble_eq_true rfl⟩ ⟨Nat.le_of_ble_eq_true rfl, Nat.le_of_ble_eq_true rfl⟩ hl.1 (Nat.le_of_ble_eq_true rfl) dX7_init_44 (fun ad13 M13 H locs hx0 hp hW _ _ => ?_)
  have hx13 : ∀ j, j < k + 43 → ad13 j = ad12 j := fun j hj => hx0 j (by rw [len_oT hk]; exact hj)
  rw [← hx13 k (by omega)] at hl
  rw [← hx13 (k + 1) (by omega), ← hx13 (k + 42) (by omega)]
  have hc13 : ∀ j, j < k + 1 → ad13 j = ad j := fun j hj => (hx13 j (by omega)).trans (hc12 j hj)
  obtain ⟨hcl, hpM13⟩ := hp
  have hsM13 : ∀ q, q < k + 42 → M13 q = M12 q := fun q hq => hpM13.2 q (by omega)
  refine nwS hx hb hk hW hcl 0 4 rfl 41 rfl (Or.inl ⟨rfl, rfl⟩) rfl (Nat.le_of_ble_eq_true rfl) (by decide) dX7_init_47 (fun H locs hcl hW => ?_)
  have hcl : CloL (L0 ++ (.inl (7, [k + 1 + 3, k + 2 + 3]) :: ([.inr (4, 9, [k + 10, k + 18, k + 26, k + 34, k + 42])] ++ fieldL (k + 2) ++ fieldL (k + 10) ++ fieldL (k + 18) ++ fieldL (k + 26) ++ fieldL (k + 34) ++ fieldL (k + 42)))) := hcl
  have hW : Wo G ad13 CA 6 (L0 ++ (.inl (7, [k + 1 + 3, k + 2 + 3]) :: ([.inr (4, 9, [k + 10, k + 18, k + 26, k + 34, k + 42])] ++ fieldL (k + 2) ++ fieldL (k + 10) ++ fieldL (k + 18) ++ fieldL (k + 26) ++ fieldL (k + 34) ++ fieldL (k + 42)))) (AG ad _ s.heap.size) s M13 H locs := hW
  refine rw_iinc (lv' := [(1, .int (iN 5)), (0, .ref (ad13 k))]) hx hb dX7_init_48 hl (k := 0) rfl (by decide) rfl (fun ls hl => ?_)
  refine lv_goto (tgt := 26) hx hb dX7_init_51 (by decide) ?_
  refine lv_iload_n hx hb dX7_init_26 rfl (lv_at hl 0 rfl) ?_
  refine lv_aload_n hx hb dX7_init_27 rfl (lv_at hl 1 rfl) ?_
  refine rw_getR hx hb hts hown hW k (get_o0 hk) 0 (k + 1) rfl fX7_11 dX7_init_28 ?_
  refine rw_alen hx hb hW (k + 1) (get_oT hk (j := 0) rfl) (tyL_get (by decide) rfl) dX7_init_31 ?_
  refine rw_stk (st' := [.int (iN 9), .int (iN 5)]) rfl ?_
  refine rw_icmp_ge (tgt := 54) hx hb dX7_init_32 (by decide) (by decide) (by decide) (fun c => absurd c (by decide)) (fun _ => ?_)
  refine lv_aload_n hx hb dX7_init_35 rfl (lv_at hl 1 rfl) ?_
  refine rw_getR hx hb hts hown hW k (get_o0 hk) 0 (k + 1) rfl fX7_11 dX7_init_36 ?_
  refine lv_iload_n hx hb dX7_init_39 rfl (lv_at hl 0 rfl) ?_
  refine nwO (n := k + 50) hx hb hts hown hA hk rfl hW hcl nX7_9 (Nat.le_of_ble_eq_true rfl) (Nat.le_of_ble_eq_true rfl) dX7_init_40 (fun ad14 H hx14 hcl hW => ?_)
  rw [← hx14 k (by omega)] at hl
  rw [← hx14 (k + 1) (by omega)]
  have hc14 : ∀ j, j < k + 1 → ad14 j = ad j := fun j hj => (hx14 j (by omega)).trans (hc13 j hj)
  obtain ⟨M14, hM14⟩ : ∃ z, z = updR M13 (k + 50) zr := ⟨_, rfl⟩
  rw [← hM14] at hW
  have hsM14 : ∀ q, q < k + 50 → M14 q = M13 q := fun q hq => by rw [hM14]; exact updR_ne (by omega)
  have hzM14 : M14 (k + 50) = zr := by rw [hM14]; exact updR_eq
  refine lv_dup hx hb dX7_init_43 rfl ?_
  refine rw_initG hx hb hml hts hown hW hA hAO (k + 50) (c_X0_init (l := l) (G := G) (ad := ad14) (CA := CA) (L0 ++ (.inl (7, [k + 1 + 3, k + 2 + 3]) :: ([.inr (4, 9, [k + 10, k + 18, k + 26, k + 34, k + 42])] ++ fieldL (k + 2) ++ fieldL (k + 10) ++ fieldL (k + 18) ++ fieldL (k + 26) ++ fieldL (k + 34) ++ fieldL (k + 42)))) (L0 ++ (.inl (7, [k + 1 + 3, k + 2 + 3]) :: ([.inr (4, 9, [k + 10, k + 18, k + 26, k + 34, k + 42])] ++ fieldL (k + 2) ++ fieldL (k + 10) ++ fieldL (k + 18) ++ fieldL (k + 26) ++ fieldL (k + 34) ++ fieldL (k + 42) ++ [.inl (0, [0, 0, 0, 0, 0, 2, 2, 2, 2, 2])]))) (L0 ++ (.inl (7, [k + 1 + 3, k + 2 + 3]) :: ([.inr (4, 9, [k + 10, k + 18, k + 26, k + 34, k + 42])] ++ fieldL (k + 2) ++ fieldL (k + 10) ++ fieldL (k + 18) ++ fieldL (k + 26) ++ fieldL (k + 34) ++ fieldL (k + 42) ++ fieldL (k + 50)))) (k + 50) (by rw [len_oT hk]; rfl) app_oT.symm app_oT.symm hcl M14 _) iX7_17 ⟨Nat.le_of_ble_eq_true rfl, Nat.le_of_ble_eq_true rfl⟩ ⟨Nat.le_of_ble_eq_true rfl, Nat.le_of_ble_eq_true rfl⟩ hl.1 (Nat.le_of_ble_eq_true rfl) dX7_init_44 (fun ad15 M15 H locs hx0 hp hW _ _ => ?_)
  have hx15 : ∀ j, j < k + 51 → ad15 j = ad14 j := fun j hj => hx0 j (by rw [len_oT hk]; exact hj)
  rw [← hx15 k (by omega)] at hl
  rw [← hx15 (k + 1) (by omega), ← hx15 (k + 50) (by omega)]
  have hc15 : ∀ j, j < k + 1 → ad15 j = ad j := fun j hj => (hx15 j (by omega)).trans (hc14 j hj)
  obtain ⟨hcl, hpM15⟩ := hp
  have hsM15 : ∀ q, q < k + 50 → M15 q = M14 q := fun q hq => hpM15.2 q (by omega)
  refine nwS hx hb hk hW hcl 0 4 rfl 49 rfl (Or.inl ⟨rfl, rfl⟩) rfl (Nat.le_of_ble_eq_true rfl) (by decide) dX7_init_47 (fun H locs hcl hW => ?_)
  have hcl : CloL (L0 ++ (.inl (7, [k + 1 + 3, k + 2 + 3]) :: ([.inr (4, 9, [k + 10, k + 18, k + 26, k + 34, k + 42, k + 50])] ++ fieldL (k + 2) ++ fieldL (k + 10) ++ fieldL (k + 18) ++ fieldL (k + 26) ++ fieldL (k + 34) ++ fieldL (k + 42) ++ fieldL (k + 50)))) := hcl
  have hW : Wo G ad15 CA 6 (L0 ++ (.inl (7, [k + 1 + 3, k + 2 + 3]) :: ([.inr (4, 9, [k + 10, k + 18, k + 26, k + 34, k + 42, k + 50])] ++ fieldL (k + 2) ++ fieldL (k + 10) ++ fieldL (k + 18) ++ fieldL (k + 26) ++ fieldL (k + 34) ++ fieldL (k + 42) ++ fieldL (k + 50)))) (AG ad _ s.heap.size) s M15 H locs := hW
  refine rw_iinc (lv' := [(1, .int (iN 6)), (0, .ref (ad15 k))]) hx hb dX7_init_48 hl (k := 0) rfl (by decide) rfl (fun ls hl => ?_)
  refine lv_goto (tgt := 26) hx hb dX7_init_51 (by decide) ?_
  refine lv_iload_n hx hb dX7_init_26 rfl (lv_at hl 0 rfl) ?_
  refine lv_aload_n hx hb dX7_init_27 rfl (lv_at hl 1 rfl) ?_
  refine rw_getR hx hb hts hown hW k (get_o0 hk) 0 (k + 1) rfl fX7_11 dX7_init_28 ?_
  refine rw_alen hx hb hW (k + 1) (get_oT hk (j := 0) rfl) (tyL_get (by decide) rfl) dX7_init_31 ?_
  refine rw_stk (st' := [.int (iN 9), .int (iN 6)]) rfl ?_
  refine rw_icmp_ge (tgt := 54) hx hb dX7_init_32 (by decide) (by decide) (by decide) (fun c => absurd c (by decide)) (fun _ => ?_)
  refine lv_aload_n hx hb dX7_init_35 rfl (lv_at hl 1 rfl) ?_
  refine rw_getR hx hb hts hown hW k (get_o0 hk) 0 (k + 1) rfl fX7_11 dX7_init_36 ?_
  refine lv_iload_n hx hb dX7_init_39 rfl (lv_at hl 0 rfl) ?_
  refine nwO (n := k + 58) hx hb hts hown hA hk rfl hW hcl nX7_9 (Nat.le_of_ble_eq_true rfl) (Nat.le_of_ble_eq_true rfl) dX7_init_40 (fun ad16 H hx16 hcl hW => ?_)
  rw [← hx16 k (by omega)] at hl
  rw [← hx16 (k + 1) (by omega)]
  have hc16 : ∀ j, j < k + 1 → ad16 j = ad j := fun j hj => (hx16 j (by omega)).trans (hc15 j hj)
  obtain ⟨M16, hM16⟩ : ∃ z, z = updR M15 (k + 58) zr := ⟨_, rfl⟩
  rw [← hM16] at hW
  have hsM16 : ∀ q, q < k + 58 → M16 q = M15 q := fun q hq => by rw [hM16]; exact updR_ne (by omega)
  have hzM16 : M16 (k + 58) = zr := by rw [hM16]; exact updR_eq
  refine lv_dup hx hb dX7_init_43 rfl ?_
  refine rw_initG hx hb hml hts hown hW hA hAO (k + 58) (c_X0_init (l := l) (G := G) (ad := ad16) (CA := CA) (L0 ++ (.inl (7, [k + 1 + 3, k + 2 + 3]) :: ([.inr (4, 9, [k + 10, k + 18, k + 26, k + 34, k + 42, k + 50])] ++ fieldL (k + 2) ++ fieldL (k + 10) ++ fieldL (k + 18) ++ fieldL (k + 26) ++ fieldL (k + 34) ++ fieldL (k + 42) ++ fieldL (k + 50)))) (L0 ++ (.inl (7, [k + 1 + 3, k + 2 + 3]) :: ([.inr (4, 9, [k + 10, k + 18, k + 26, k + 34, k + 42, k + 50])] ++ fieldL (k + 2) ++ fieldL (k + 10) ++ fieldL (k + 18) ++ fieldL (k + 26) ++ fieldL (k + 34) ++ fieldL (k + 42) ++ fieldL (k + 50) ++ [.inl (0, [0, 0, 0, 0, 0, 2, 2, 2, 2, 2])]))) (L0 ++ (.inl (7, [k + 1 + 3, k + 2 + 3]) :: ([.inr (4, 9, [k + 10, k + 18, k + 26, k + 34, k + 42, k + 50])] ++ fieldL (k + 2) ++ fieldL (k + 10) ++ fieldL (k + 18) ++ fieldL (k + 26) ++ fieldL (k + 34) ++ fieldL (k + 42) ++ fieldL (k + 50) ++ fieldL (k + 58)))) (k + 58) (by rw [len_oT hk]; rfl) app_oT.symm app_oT.symm hcl M16 _) iX7_17 ⟨Nat.le_of_ble_eq_true rfl, Nat.le_of_ble_eq_true rfl⟩ ⟨Nat.le_of_ble_eq_true rfl, Nat.le_of_ble_eq_true rfl⟩ hl.1 (Nat.le_of_ble_eq_true rfl) dX7_init_44 (fun ad17 M17 H locs hx0 hp hW _ _ => ?_)
  have hx17 : ∀ j, j < k + 59 → ad17 j = ad16 j := fun j hj => hx0 j (by rw [len_oT hk]; exact hj)
  rw [← hx17 k (by omega)] at hl
  rw [← hx17 (k + 1) (by omega), ← hx17 (k + 58) (by omega)]
  have hc17 : ∀ j, j < k + 1 → ad17 j = ad j := fun j hj => (hx17 j (by omega)).trans (hc16 j hj)
  obtain ⟨hcl, hpM17⟩ := hp
  have hsM17 : ∀ q, q < k + 58 → M17 q = M16 q := fun q hq => hpM17.2 q (by omega)
  refine nwS hx hb hk hW hcl 0 4 rfl 57 rfl (Or.inl ⟨rfl, rfl⟩) rfl (Nat.le_of_ble_eq_true rfl) (by decide) dX7_init_47 (fun H locs hcl hW => ?_)
  have hcl : CloL (L0 ++ (.inl (7, [k + 1 + 3, k + 2 + 3]) :: ([.inr (4, 9, [k + 10, k + 18, k + 26, k + 34, k + 42, k + 50, k + 58])] ++ fieldL (k + 2) ++ fieldL (k + 10) ++ fieldL (k + 18) ++ fieldL (k + 26) ++ fieldL (k + 34) ++ fieldL (k + 42) ++ fieldL (k + 50) ++ fieldL (k + 58)))) := hcl
  have hW : Wo G ad17 CA 6 (L0 ++ (.inl (7, [k + 1 + 3, k + 2 + 3]) :: ([.inr (4, 9, [k + 10, k + 18, k + 26, k + 34, k + 42, k + 50, k + 58])] ++ fieldL (k + 2) ++ fieldL (k + 10) ++ fieldL (k + 18) ++ fieldL (k + 26) ++ fieldL (k + 34) ++ fieldL (k + 42) ++ fieldL (k + 50) ++ fieldL (k + 58)))) (AG ad _ s.heap.size) s M17 H locs := hW
  refine rw_iinc (lv' := [(1, .int (iN 7)), (0, .ref (ad17 k))]) hx hb dX7_init_48 hl (k := 0) rfl (by decide) rfl (fun ls hl => ?_)
  refine lv_goto (tgt := 26) hx hb dX7_init_51 (by decide) ?_
  refine lv_iload_n hx hb dX7_init_26 rfl (lv_at hl 0 rfl) ?_
  refine lv_aload_n hx hb dX7_init_27 rfl (lv_at hl 1 rfl) ?_
  refine rw_getR hx hb hts hown hW k (get_o0 hk) 0 (k + 1) rfl fX7_11 dX7_init_28 ?_
  refine rw_alen hx hb hW (k + 1) (get_oT hk (j := 0) rfl) (tyL_get (by decide) rfl) dX7_init_31 ?_
  refine rw_stk (st' := [.int (iN 9), .int (iN 7)]) rfl ?_
  refine rw_icmp_ge (tgt := 54) hx hb dX7_init_32 (by decide) (by decide) (by decide) (fun c => absurd c (by decide)) (fun _ => ?_)
  refine lv_aload_n hx hb dX7_init_35 rfl (lv_at hl 1 rfl) ?_
  refine rw_getR hx hb hts hown hW k (get_o0 hk) 0 (k + 1) rfl fX7_11 dX7_init_36 ?_
  refine lv_iload_n hx hb dX7_init_39 rfl (lv_at hl 0 rfl) ?_
  refine nwO (n := k + 66) hx hb hts hown hA hk rfl hW hcl nX7_9 (Nat.le_of_ble_eq_true rfl) (Nat.le_of_ble_eq_true rfl) dX7_init_40 (fun ad18 H hx18 hcl hW => ?_)
  rw [← hx18 k (by omega)] at hl
  rw [← hx18 (k + 1) (by omega)]
  have hc18 : ∀ j, j < k + 1 → ad18 j = ad j := fun j hj => (hx18 j (by omega)).trans (hc17 j hj)
  obtain ⟨M18, hM18⟩ : ∃ z, z = updR M17 (k + 66) zr := ⟨_, rfl⟩
  rw [← hM18] at hW
  have hsM18 : ∀ q, q < k + 66 → M18 q = M17 q := fun q hq => by rw [hM18]; exact updR_ne (by omega)
  have hzM18 : M18 (k + 66) = zr := by rw [hM18]; exact updR_eq
  refine lv_dup hx hb dX7_init_43 rfl ?_
  refine rw_initG hx hb hml hts hown hW hA hAO (k + 66) (c_X0_init (l := l) (G := G) (ad := ad18) (CA := CA) (L0 ++ (.inl (7, [k + 1 + 3, k + 2 + 3]) :: ([.inr (4, 9, [k + 10, k + 18, k + 26, k + 34, k + 42, k + 50, k + 58])] ++ fieldL (k + 2) ++ fieldL (k + 10) ++ fieldL (k + 18) ++ fieldL (k + 26) ++ fieldL (k + 34) ++ fieldL (k + 42) ++ fieldL (k + 50) ++ fieldL (k + 58)))) (L0 ++ (.inl (7, [k + 1 + 3, k + 2 + 3]) :: ([.inr (4, 9, [k + 10, k + 18, k + 26, k + 34, k + 42, k + 50, k + 58])] ++ fieldL (k + 2) ++ fieldL (k + 10) ++ fieldL (k + 18) ++ fieldL (k + 26) ++ fieldL (k + 34) ++ fieldL (k + 42) ++ fieldL (k + 50) ++ fieldL (k + 58) ++ [.inl (0, [0, 0, 0, 0, 0, 2, 2, 2, 2, 2])]))) (L0 ++ (.inl (7, [k + 1 + 3, k + 2 + 3]) :: ([.inr (4, 9, [k + 10, k + 18, k + 26, k + 34, k + 42, k + 50, k + 58])] ++ fieldL (k + 2) ++ fieldL (k + 10) ++ fieldL (k + 18) ++ fieldL (k + 26) ++ fieldL (k + 34) ++ fieldL (k + 42) ++ fieldL (k + 50) ++ fieldL (k + 58) ++ fieldL (k + 66)))) (k + 66) (by rw [len_oT hk]; rfl) app_oT.symm app_oT.symm hcl M18 _) iX7_17 ⟨Nat.le_of_ble_eq_true rfl, Nat.le_of_ble_eq_true rfl⟩ ⟨Nat.le_of_ble_eq_true rfl, Nat.le_of_ble_eq_true rfl⟩ hl.1 (Nat.le_of_ble_eq_true rfl) dX7_init_44 (fun ad19 M19 H locs hx0 hp hW _ _ => ?_)
  have hx19 : ∀ j, j < k + 67 → ad19 j = ad18 j := fun j hj => hx0 j (by rw [len_oT hk]; exact hj)
  rw [← hx19 k (by omega)] at hl
  rw [← hx19 (k + 1) (by omega), ← hx19 (k + 66) (by omega)]
  have hc19 : ∀ j, j < k + 1 → ad19 j = ad j := fun j hj => (hx19 j (by omega)).trans (hc18 j hj)
  obtain ⟨hcl, hpM19⟩ := hp
  have hsM19 : ∀ q, q < k + 66 → M19 q = M18 q := fun q hq => hpM19.2 q (by omega)
  refine nwS hx hb hk hW hcl 0 4 rfl 65 rfl (Or.inl ⟨rfl, rfl⟩) rfl (Nat.le_of_ble_eq_true rfl) (by decide) dX7_init_47 (fun H locs hcl hW => ?_)
  have hcl : CloL (L0 ++ (.inl (7, [k + 1 + 3, k + 2 + 3]) :: ([.inr (4, 9, [k + 10, k + 18, k + 26, k + 34, k + 42, k + 50, k + 58, k + 66])] ++ fieldL (k + 2) ++ fieldL (k + 10) ++ fieldL (k + 18) ++ fieldL (k + 26) ++ fieldL (k + 34) ++ fieldL (k + 42) ++ fieldL (k + 50) ++ fieldL (k + 58) ++ fieldL (k + 66)))) := hcl
  have hW : Wo G ad19 CA 6 (L0 ++ (.inl (7, [k + 1 + 3, k + 2 + 3]) :: ([.inr (4, 9, [k + 10, k + 18, k + 26, k + 34, k + 42, k + 50, k + 58, k + 66])] ++ fieldL (k + 2) ++ fieldL (k + 10) ++ fieldL (k + 18) ++ fieldL (k + 26) ++ fieldL (k + 34) ++ fieldL (k + 42) ++ fieldL (k + 50) ++ fieldL (k + 58) ++ fieldL (k + 66)))) (AG ad _ s.heap.size) s M19 H locs := hW
  refine rw_iinc (lv' := [(1, .int (iN 8)), (0, .ref (ad19 k))]) hx hb dX7_init_48 hl (k := 0) rfl (by decide) rfl (fun ls hl => ?_)
  refine lv_goto (tgt := 26) hx hb dX7_init_51 (by decide) ?_
  refine lv_iload_n hx hb dX7_init_26 rfl (lv_at hl 0 rfl) ?_
  refine lv_aload_n hx hb dX7_init_27 rfl (lv_at hl 1 rfl) ?_
  refine rw_getR hx hb hts hown hW k (get_o0 hk) 0 (k + 1) rfl fX7_11 dX7_init_28 ?_
  refine rw_alen hx hb hW (k + 1) (get_oT hk (j := 0) rfl) (tyL_get (by decide) rfl) dX7_init_31 ?_
  refine rw_stk (st' := [.int (iN 9), .int (iN 8)]) rfl ?_
  refine rw_icmp_ge (tgt := 54) hx hb dX7_init_32 (by decide) (by decide) (by decide) (fun c => absurd c (by decide)) (fun _ => ?_)
  refine lv_aload_n hx hb dX7_init_35 rfl (lv_at hl 1 rfl) ?_
  refine rw_getR hx hb hts hown hW k (get_o0 hk) 0 (k + 1) rfl fX7_11 dX7_init_36 ?_
  refine lv_iload_n hx hb dX7_init_39 rfl (lv_at hl 0 rfl) ?_
  refine nwO (n := k + 74) hx hb hts hown hA hk rfl hW hcl nX7_9 (Nat.le_of_ble_eq_true rfl) (Nat.le_of_ble_eq_true rfl) dX7_init_40 (fun ad20 H hx20 hcl hW => ?_)
  rw [← hx20 k (by omega)] at hl
  rw [← hx20 (k + 1) (by omega)]
  have hc20 : ∀ j, j < k + 1 → ad20 j = ad j := fun j hj => (hx20 j (by omega)).trans (hc19 j hj)
  obtain ⟨M20, hM20⟩ : ∃ z, z = updR M19 (k + 74) zr := ⟨_, rfl⟩
  rw [← hM20] at hW
  have hsM20 : ∀ q, q < k + 74 → M20 q = M19 q := fun q hq => by rw [hM20]; exact updR_ne (by omega)
  have hzM20 : M20 (k + 74) = zr := by rw [hM20]; exact updR_eq
  refine lv_dup hx hb dX7_init_43 rfl ?_
  refine rw_initG hx hb hml hts hown hW hA hAO (k + 74) (c_X0_init (l := l) (G := G) (ad := ad20) (CA := CA) (L0 ++ (.inl (7, [k + 1 + 3, k + 2 + 3]) :: ([.inr (4, 9, [k + 10, k + 18, k + 26, k + 34, k + 42, k + 50, k + 58, k + 66])] ++ fieldL (k + 2) ++ fieldL (k + 10) ++ fieldL (k + 18) ++ fieldL (k + 26) ++ fieldL (k + 34) ++ fieldL (k + 42) ++ fieldL (k + 50) ++ fieldL (k + 58) ++ fieldL (k + 66)))) (L0 ++ (.inl (7, [k + 1 + 3, k + 2 + 3]) :: ([.inr (4, 9, [k + 10, k + 18, k + 26, k + 34, k + 42, k + 50, k + 58, k + 66])] ++ fieldL (k + 2) ++ fieldL (k + 10) ++ fieldL (k + 18) ++ fieldL (k + 26) ++ fieldL (k + 34) ++ fieldL (k + 42) ++ fieldL (k + 50) ++ fieldL (k + 58) ++ fieldL (k + 66) ++ [.inl (0, [0, 0, 0, 0, 0, 2, 2, 2, 2, 2])]))) (L0 ++ (.inl (7, [k + 1 + 3, k + 2 + 3]) :: ([.inr (4, 9, [k + 10, k + 18, k + 26, k + 34, k + 42, k + 50, k + 58, k + 66])] ++ fieldL (k + 2) ++ fieldL (k + 10) ++ fieldL (k + 18) ++ fieldL (k + 26) ++ fieldL (k + 34) ++ fieldL (k + 42) ++ fieldL (k + 50) ++ fieldL (k + 58) ++ fieldL (k + 66) ++ fieldL (k + 74)))) (k + 74) (by rw [len_oT hk]; rfl) app_oT.symm app_oT.symm hcl M20 _) iX7_17 ⟨Nat.le_of_ble_eq_true rfl, Nat.le_of_ble_eq_true rfl⟩ ⟨Nat.le_of_ble_eq_true rfl, Nat.le_of_ble_eq_true rfl⟩ hl.1 (Nat.le_of_ble_eq_true rfl) dX7_init_44 (fun ad21 M21 H locs hx0 hp hW _ _ => ?_)
  have hx21 : ∀ j, j < k + 75 → ad21 j = ad20 j := fun j hj => hx0 j (by rw [len_oT hk]; exact hj)
  rw [← hx21 k (by omega)] at hl
  rw [← hx21 (k + 1) (by omega), ← hx21 (k + 74) (by omega)]
  have hc21 : ∀ j, j < k + 1 → ad21 j = ad j := fun j hj => (hx21 j (by omega)).trans (hc20 j hj)
  obtain ⟨hcl, hpM21⟩ := hp
  have hsM21 : ∀ q, q < k + 74 → M21 q = M20 q := fun q hq => hpM21.2 q (by omega)
  refine nwS hx hb hk hW hcl 0 4 rfl 73 rfl (Or.inl ⟨rfl, rfl⟩) rfl (Nat.le_of_ble_eq_true rfl) (by decide) dX7_init_47 (fun H locs hcl hW => ?_)
  have hcl : CloL (L0 ++ (.inl (7, [k + 1 + 3, k + 2 + 3]) :: ([.inr (4, 9, [k + 10, k + 18, k + 26, k + 34, k + 42, k + 50, k + 58, k + 66, k + 74])] ++ fieldL (k + 2) ++ fieldL (k + 10) ++ fieldL (k + 18) ++ fieldL (k + 26) ++ fieldL (k + 34) ++ fieldL (k + 42) ++ fieldL (k + 50) ++ fieldL (k + 58) ++ fieldL (k + 66) ++ fieldL (k + 74)))) := hcl
  have hW : Wo G ad21 CA 6 (L0 ++ (.inl (7, [k + 1 + 3, k + 2 + 3]) :: ([.inr (4, 9, [k + 10, k + 18, k + 26, k + 34, k + 42, k + 50, k + 58, k + 66, k + 74])] ++ fieldL (k + 2) ++ fieldL (k + 10) ++ fieldL (k + 18) ++ fieldL (k + 26) ++ fieldL (k + 34) ++ fieldL (k + 42) ++ fieldL (k + 50) ++ fieldL (k + 58) ++ fieldL (k + 66) ++ fieldL (k + 74)))) (AG ad _ s.heap.size) s M21 H locs := hW
  refine rw_iinc (lv' := [(1, .int (iN 9)), (0, .ref (ad21 k))]) hx hb dX7_init_48 hl (k := 0) rfl (by decide) rfl (fun ls hl => ?_)
  refine lv_goto (tgt := 26) hx hb dX7_init_51 (by decide) ?_
  refine lv_iload_n hx hb dX7_init_26 rfl (lv_at hl 0 rfl) ?_
  refine lv_aload_n hx hb dX7_init_27 rfl (lv_at hl 1 rfl) ?_
  refine rw_getR hx hb hts hown hW k (get_o0 hk) 0 (k + 1) rfl fX7_11 dX7_init_28 ?_
  refine rw_alen hx hb hW (k + 1) (get_oT hk (j := 0) rfl) (tyL_get (by decide) rfl) dX7_init_31 ?_
  refine rw_stk (st' := [.int (iN 9), .int (iN 9)]) rfl ?_
  refine rw_icmp_ge (tgt := 54) hx hb dX7_init_32 (by decide) (by decide) (by decide) (fun _ => ?_) (fun c => absurd (by decide) c)
  have hW : Wo G ad21 CA 6 (L0 ++ stgL k) (AG ad _ s.heap.size) s M21 H locs := hW
  have hcl : CloL (L0 ++ stgL k) := hcl
  refine rw_vretG hx hb hr hlocks hW (fun j hj => hc21 j (by rw [List.length_append, hk] at hj; exact hj)) (by rw [List.length_append, List.length_append]; exact Nat.add_le_add_left (Nat.le_of_ble_eq_true rfl) _) dX7_init_54 ⟨hcl, ?_⟩
  exact fun q hq => by rw [hsM21 q (by omega), hsM20 q (by omega), hsM19 q (by omega), hsM18 q (by omega), hsM17 q (by omega), hsM16 q (by omega), hsM15 q (by omega), hsM14 q (by omega), hsM13 q (by omega), hsM12 q (by omega), hsM11 q (by omega), hsM10 q (by omega), hsM9 q (by omega), hsM8 q (by omega), hsM7 q (by omega), hsM6 q (by omega), hsM5 q (by omega), hsM4 q (by omega), hsM3 q (by omega), hsM2 q (by omega), hsM1 q (by omega)]
abbrev P_X2_init (k : Nat) (M MM : Mem) : Prop := ∀ q, q < k → MM q = M q
set_option maxRecDepth 100000 in
set_option maxHeartbeats 8000000 in
theorem c_X2_init {l : Launch} {G : va_G} {ad : Nat → Nat} {CA : Nat → ClassId} (L0 Ly Ly' : List LD) (k : Nat) (hk : L0.length = k) (hLy : Ly = L0 ++ [.inl (2, [2, 2, 1])]) (hLy' : Ly' = L0 ++ oddsL k) (hcl : CloL Ly) (M : Mem) (sz : Nat)  : MtG l yX2_init cX2_init 1 5 83 592 241 G ad CA Ly Ly' [.ref (ad k)] M (fun MM => CloL Ly' ∧ P_X2_init k M MM) sz := by
  subst hLy hLy'
  refine MtG.of (by decide) (Nat.le_of_ble_eq_true rfl) (fun p e s m args below meth c hx hb hr hml hts hown hlocks hnm hAO hA hW ls hl => ?_)
  have hl : lv_has ls 1 [(0, .ref (ad k))] := hl
  have hcl : CloL (L0 ++ (.inl (2, [2, 2, 1]) :: [])) := hcl
  obtain ⟨H, hH⟩ : ∃ z, z = s.heap := ⟨_, rfl⟩
  obtain ⟨locs, hlo⟩ : ∃ z : List Loc, z = [] := ⟨_, rfl⟩
  rw [← hlo]
  have hW9 := hW
  rw [← hlo] at hW9
  clear hW
  have hW : Wo G ad CA 6 (L0 ++ (.inl (2, [2, 2, 1]) :: [])) (AG ad _ s.heap.size) s M s.heap locs := hW9
  show WfG l 5 83 592 241 G ad CA _ _ _ p e s m args below meth c s.heap locs 0 0 (F0 m 0 ls [])
  clear hW9
  have hc0 : ∀ j, j < k + 1 → ad j = ad j := fun _ _ => rfl
  refine lv_aload_n hx hb dX2_init_0 rfl (lv_at hl 0 rfl) ?_
  refine W.objInit hx hb hown (hts _ (wm_5 _ (List.mem_of_getElem? (i := 6) rfl))) (hts _ (wm_1 _ (List.mem_of_getElem? (i := 11) rfl))) (hts _ (wm_1 _ (List.mem_of_getElem? (i := 12) rfl))) rfl (by rw [hml]; exact hl.1) rfl dX2_init_1 (Nat.le_of_ble_eq_true rfl) (Nat.le_of_ble_eq_true rfl) ?_
  refine W.eq (g2 := F0 m 4 ls []) rfl ?_
  refine lv_aload_n hx hb dX2_init_4 rfl (lv_at hl 0 rfl) ?_
  refine nwO (n := k + 1) hx hb hts hown hA hk rfl hW hcl nX2_9 (Nat.le_of_ble_eq_true rfl) (Nat.le_of_ble_eq_true rfl) dX2_init_5 (fun ad1 H hx1 hcl hW => ?_)
  rw [← hx1 k (by omega)] at hl
  rw [← hx1 k (by omega)]
  have hc1 : ∀ j, j < k + 1 → ad1 j = ad j := fun j hj => (hx1 j (by omega)).trans (hc0 j hj)
  obtain ⟨M1, hM1⟩ : ∃ z, z = updR M (k + 1) zr := ⟨_, rfl⟩
  rw [← hM1] at hW
  have hsM1 : ∀ q, q < k + 1 → M1 q = M q := fun q hq => by rw [hM1]; exact updR_ne (by omega)
  have hzM1 : M1 (k + 1) = zr := by rw [hM1]; exact updR_eq
  refine lv_dup hx hb dX2_init_8 rfl ?_
  refine rw_initG hx hb hml hts hown hW hA hAO (k + 1) (c_X7_init (l := l) (G := G) (ad := ad1) (CA := CA) (L0 ++ (.inl (2, [2, 2, 1]) :: ([]))) (L0 ++ (.inl (2, [2, 2, 1]) :: ([.inl (7, [2, 2])]))) (L0 ++ (.inl (2, [2, 2, 1]) :: (stgL (k + 1)))) (k + 1) (by rw [len_oT hk]; rfl) app_o1 app_o1 hcl M1 _) iX2_11 ⟨Nat.le_of_ble_eq_true rfl, Nat.le_of_ble_eq_true rfl⟩ ⟨Nat.le_of_ble_eq_true rfl, Nat.le_of_ble_eq_true rfl⟩ hl.1 (Nat.le_of_ble_eq_true rfl) dX2_init_9 (fun ad2 M2 H locs hx0 hp hW _ _ => ?_)
  have hx2 : ∀ j, j < k + 2 → ad2 j = ad1 j := fun j hj => hx0 j (by rw [len_oT hk]; exact hj)
  rw [← hx2 k (by omega)] at hl
  rw [← hx2 k (by omega), ← hx2 (k + 1) (by omega)]
  have hc2 : ∀ j, j < k + 1 → ad2 j = ad j := fun j hj => (hx2 j (by omega)).trans (hc1 j hj)
  obtain ⟨hcl, hpM2⟩ := hp
  have hsM2 : ∀ q, q < k + 1 → M2 q = M1 q := fun q hq => hpM2 q (by omega)
  refine nwP hx hb hts hown hnm hk hW hcl 0 rfl (k + 1) (by show _ < k + (82 + 1); omega) qX2_12 (fun _ => ⟨rfl, rfl⟩) dX2_init_12 (fun H locs hcl hW => ?_)
  have hcl : CloL (L0 ++ (.inl (2, [k + 1 + 3, 2, 1]) :: (stgL (k + 1)))) := hcl
  have hW : Wo G ad2 CA 6 (L0 ++ (.inl (2, [k + 1 + 3, 2, 1]) :: (stgL (k + 1)))) (AG ad _ s.heap.size) s M2 H locs := hW
  refine lv_aload_n hx hb dX2_init_15 rfl (lv_at hl 0 rfl) ?_
  refine rw_bipush hx hb dX2_init_16 (by decide) ?_
  refine nwA (n := k + 83) hx hb hts hA hk rfl hW hcl 1 (wm_5 _ (List.mem_of_getElem? (i := 11) rfl)) (Or.inr (Or.inl ⟨rfl, rfl⟩)) (N := 11) rfl (by decide) (Nat.le_of_ble_eq_true rfl) (Nat.le_of_ble_eq_true rfl) dX2_init_18 (fun ad3 H hx3 hcl hW => ?_)
  rw [← hx3 k (by omega)] at hl
  rw [← hx3 k (by omega)]
  have hc3 : ∀ j, j < k + 1 → ad3 j = ad j := fun j hj => (hx3 j (by omega)).trans (hc2 j hj)
  obtain ⟨M3, hM3⟩ : ∃ z, z = updR M2 (k + 83) zr := ⟨_, rfl⟩
  rw [← hM3] at hW
  have hsM3 : ∀ q, q < k + 83 → M3 q = M2 q := fun q hq => by rw [hM3]; exact updR_ne (by omega)
  refine nwP hx hb hts hown hnm hk hW hcl 1 rfl (k + 83) (by show _ < k + (83 + 1); omega) qX2_18 (fun _ => ⟨rfl, rfl⟩) dX2_init_20 (fun H locs hcl hW => ?_)
  have hcl : CloL (L0 ++ (.inl (2, [k + 1 + 3, k + 83 + 3, 1]) :: (stgL (k + 1) ++ [.inr (1, 11, [])]))) := hcl
  have hW : Wo G ad3 CA 6 (L0 ++ (.inl (2, [k + 1 + 3, k + 83 + 3, 1]) :: (stgL (k + 1) ++ [.inr (1, 11, [])]))) (AG ad _ s.heap.size) s M3 H locs := hW
  refine lv_aload_n hx hb dX2_init_23 rfl (lv_at hl 0 rfl) ?_
  refine lv_lconst (v := jN 1) hx hb dX2_init_24 rfl ?_
  refine rw_putL hx hb hts hown hW k (get_o0 hk) 2 2 rfl rfl qX2_22 (v := 1) dX2_init_25 (fun H locs hW => ?_)
  obtain ⟨M4, hM4⟩ : ∃ z, z = upd2 M3 k 2 1 := ⟨_, rfl⟩
  rw [← hM4] at hW
  have hsM4 : ∀ q, q < k → M4 q = M3 q := fun q hq => by rw [hM4]; exact upd2_ne1 (by omega)
  have hqM4 : ∀ q, q ≠ k → M4 q = M3 q := fun q hq => by rw [hM4]; exact upd2_ne1 (by omega)
  have hW : Wo G ad3 CA 6 (L0 ++ oddsL k) (AG ad _ s.heap.size) s M4 H locs := hW
  have hcl : CloL (L0 ++ oddsL k) := hcl
  refine rw_vretG hx hb hr hlocks hW (fun j hj => hc3 j (by rw [List.length_append, hk] at hj; exact hj)) (by rw [List.length_append, List.length_append]; exact Nat.add_le_add_left (Nat.le_of_ble_eq_true rfl) _) dX2_init_28 ⟨hcl, ?_⟩
  exact fun q hq => by rw [hsM4 q (by omega), hsM3 q (by omega), hsM2 q (by omega), hsM1 q (by omega)]
abbrev P_X4_init (k : Nat) (M MM : Mem) : Prop := ∀ q, q ≤ k → MM q = M q
set_option maxRecDepth 100000 in
set_option maxHeartbeats 8000000 in
theorem c_X4_init {l : Launch} {G : va_G} {ad : Nat → Nat} {CA : Nat → ClassId} (L0 Ly Ly' : List LD) (k : Nat) (hk : L0.length = k) (hLy : Ly = L0 ++ [.inl (4, [2, 2, 2, 0, 0, 0, 0])]) (hLy' : Ly' = L0 ++ replL k) (hcl : CloL Ly) (M : Mem) (sz : Nat)  : MtG l yX4_init cX4_init 1 5 84 589 241 G ad CA Ly Ly' [.ref (ad k)] M (fun MM => CloL Ly' ∧ P_X4_init k M MM) sz := by
  subst hLy hLy'
  refine MtG.of (by decide) (Nat.le_of_ble_eq_true rfl) (fun p e s m args below meth c hx hb hr hml hts hown hlocks hnm hAO hA hW ls hl => ?_)
  have hl : lv_has ls 1 [(0, .ref (ad k))] := hl
  have hcl : CloL (L0 ++ (.inl (4, [2, 2, 2, 0, 0, 0, 0]) :: [])) := hcl
  obtain ⟨H, hH⟩ : ∃ z, z = s.heap := ⟨_, rfl⟩
  obtain ⟨locs, hlo⟩ : ∃ z : List Loc, z = [] := ⟨_, rfl⟩
  rw [← hlo]
  have hW9 := hW
  rw [← hlo] at hW9
  clear hW
  have hW : Wo G ad CA 6 (L0 ++ (.inl (4, [2, 2, 2, 0, 0, 0, 0]) :: [])) (AG ad _ s.heap.size) s M s.heap locs := hW9
  show WfG l 5 84 589 241 G ad CA _ _ _ p e s m args below meth c s.heap locs 0 0 (F0 m 0 ls [])
  clear hW9
  have hc0 : ∀ j, j < k + 1 → ad j = ad j := fun _ _ => rfl
  refine lv_aload_n hx hb dX4_init_0 rfl (lv_at hl 0 rfl) ?_
  refine W.objInit hx hb hown (hts _ (wm_6 _ (List.mem_of_getElem? (i := 0) rfl))) (hts _ (wm_1 _ (List.mem_of_getElem? (i := 11) rfl))) (hts _ (wm_1 _ (List.mem_of_getElem? (i := 12) rfl))) rfl (by rw [hml]; exact hl.1) rfl dX4_init_1 (Nat.le_of_ble_eq_true rfl) (Nat.le_of_ble_eq_true rfl) ?_
  refine W.eq (g2 := F0 m 4 ls []) rfl ?_
  refine lv_aload_n hx hb dX4_init_4 rfl (lv_at hl 0 rfl) ?_
  refine nwO (n := k + 1) hx hb hts hown hA hk rfl hW hcl nX4_9 (Nat.le_of_ble_eq_true rfl) (Nat.le_of_ble_eq_true rfl) dX4_init_5 (fun ad1 H hx1 hcl hW => ?_)
  rw [← hx1 k (by omega)] at hl
  rw [← hx1 k (by omega)]
  have hc1 : ∀ j, j < k + 1 → ad1 j = ad j := fun j hj => (hx1 j (by omega)).trans (hc0 j hj)
  obtain ⟨M1, hM1⟩ : ∃ z, z = updR M (k + 1) zr := ⟨_, rfl⟩
  rw [← hM1] at hW
  have hsM1 : ∀ q, q < k + 1 → M1 q = M q := fun q hq => by rw [hM1]; exact updR_ne (by omega)
  have hzM1 : M1 (k + 1) = zr := by rw [hM1]; exact updR_eq
  refine lv_dup hx hb dX4_init_8 rfl ?_
  refine rw_initG hx hb hml hts hown hW hA hAO (k + 1) (c_X7_init (l := l) (G := G) (ad := ad1) (CA := CA) (L0 ++ (.inl (4, [2, 2, 2, 0, 0, 0, 0]) :: ([]))) (L0 ++ (.inl (4, [2, 2, 2, 0, 0, 0, 0]) :: ([.inl (7, [2, 2])]))) (L0 ++ (.inl (4, [2, 2, 2, 0, 0, 0, 0]) :: (stgL (k + 1)))) (k + 1) (by rw [len_oT hk]; rfl) app_o1 app_o1 hcl M1 _) iX4_11 ⟨Nat.le_of_ble_eq_true rfl, Nat.le_of_ble_eq_true rfl⟩ ⟨Nat.le_of_ble_eq_true rfl, Nat.le_of_ble_eq_true rfl⟩ hl.1 (Nat.le_of_ble_eq_true rfl) dX4_init_9 (fun ad2 M2 H locs hx0 hp hW _ _ => ?_)
  have hx2 : ∀ j, j < k + 2 → ad2 j = ad1 j := fun j hj => hx0 j (by rw [len_oT hk]; exact hj)
  rw [← hx2 k (by omega)] at hl
  rw [← hx2 k (by omega), ← hx2 (k + 1) (by omega)]
  have hc2 : ∀ j, j < k + 1 → ad2 j = ad j := fun j hj => (hx2 j (by omega)).trans (hc1 j hj)
  obtain ⟨hcl, hpM2⟩ := hp
  have hsM2 : ∀ q, q < k + 1 → M2 q = M1 q := fun q hq => hpM2 q (by omega)
  refine nwP hx hb hts hown hnm hk hW hcl 0 rfl (k + 1) (by show _ < k + (82 + 1); omega) qX4_12 (fun _ => ⟨rfl, rfl⟩) dX4_init_12 (fun H locs hcl hW => ?_)
  have hcl : CloL (L0 ++ (.inl (4, [k + 1 + 3, 2, 2, 0, 0, 0, 0]) :: (stgL (k + 1)))) := hcl
  have hW : Wo G ad2 CA 6 (L0 ++ (.inl (4, [k + 1 + 3, 2, 2, 0, 0, 0, 0]) :: (stgL (k + 1)))) (AG ad _ s.heap.size) s M2 H locs := hW
  refine lv_aload_n hx hb dX4_init_15 rfl (lv_at hl 0 rfl) ?_
  refine rw_iconst hx hb dX4_init_16 ?_
  refine nwA (n := k + 83) hx hb hts hA hk rfl hW hcl 0 (wm_3 _ (List.mem_of_getElem? (i := 0) rfl)) (Or.inl ⟨rfl, rfl⟩) (N := 4) rfl (by decide) (Nat.le_of_ble_eq_true rfl) (Nat.le_of_ble_eq_true rfl) dX4_init_17 (fun ad3 H hx3 hcl hW => ?_)
  rw [← hx3 k (by omega)] at hl
  rw [← hx3 k (by omega)]
  have hc3 : ∀ j, j < k + 1 → ad3 j = ad j := fun j hj => (hx3 j (by omega)).trans (hc2 j hj)
  obtain ⟨M3, hM3⟩ : ∃ z, z = updR M2 (k + 83) zr := ⟨_, rfl⟩
  rw [← hM3] at hW
  have hsM3 : ∀ q, q < k + 83 → M3 q = M2 q := fun q hq => by rw [hM3]; exact updR_ne (by omega)
  refine nwP hx hb hts hown hnm hk hW hcl 1 rfl (k + 83) (by show _ < k + (83 + 1); omega) qX4_18 (fun _ => ⟨rfl, rfl⟩) dX4_init_19 (fun H locs hcl hW => ?_)
  have hcl : CloL (L0 ++ (.inl (4, [k + 1 + 3, k + 83 + 3, 2, 0, 0, 0, 0]) :: (stgL (k + 1) ++ [.inr (0, 4, [])]))) := hcl
  have hW : Wo G ad3 CA 6 (L0 ++ (.inl (4, [k + 1 + 3, k + 83 + 3, 2, 0, 0, 0, 0]) :: (stgL (k + 1) ++ [.inr (0, 4, [])]))) (AG ad _ s.heap.size) s M3 H locs := hW
  refine lv_aload_n hx hb dX4_init_22 rfl (lv_at hl 0 rfl) ?_
  refine rw_iconst hx hb dX4_init_23 ?_
  refine nwA (n := k + 84) hx hb hts hA hk rfl hW hcl 0 (wm_3 _ (List.mem_of_getElem? (i := 0) rfl)) (Or.inl ⟨rfl, rfl⟩) (N := 4) rfl (by decide) (Nat.le_of_ble_eq_true rfl) (Nat.le_of_ble_eq_true rfl) dX4_init_24 (fun ad4 H hx4 hcl hW => ?_)
  rw [← hx4 k (by omega)] at hl
  rw [← hx4 k (by omega)]
  have hc4 : ∀ j, j < k + 1 → ad4 j = ad j := fun j hj => (hx4 j (by omega)).trans (hc3 j hj)
  obtain ⟨M4, hM4⟩ : ∃ z, z = updR M3 (k + 84) zr := ⟨_, rfl⟩
  rw [← hM4] at hW
  have hsM4 : ∀ q, q < k + 84 → M4 q = M3 q := fun q hq => by rw [hM4]; exact updR_ne (by omega)
  refine nwP hx hb hts hown hnm hk hW hcl 2 rfl (k + 84) (by show _ < k + (84 + 1); omega) qX4_22 (fun _ => ⟨rfl, rfl⟩) dX4_init_26 (fun H locs hcl hW => ?_)
  have hcl : CloL (L0 ++ (.inl (4, [k + 1 + 3, k + 83 + 3, k + 84 + 3, 0, 0, 0, 0]) :: (stgL (k + 1) ++ [.inr (0, 4, [])] ++ [.inr (0, 4, [])]))) := hcl
  have hW : Wo G ad4 CA 6 (L0 ++ (.inl (4, [k + 1 + 3, k + 83 + 3, k + 84 + 3, 0, 0, 0, 0]) :: (stgL (k + 1) ++ [.inr (0, 4, [])] ++ [.inr (0, 4, [])]))) (AG ad _ s.heap.size) s M4 H locs := hW
  have hW : Wo G ad4 CA 6 (L0 ++ replL k) (AG ad _ s.heap.size) s M4 H locs := hW
  have hcl : CloL (L0 ++ replL k) := hcl
  refine rw_vretG hx hb hr hlocks hW (fun j hj => hc4 j (by rw [List.length_append, hk] at hj; exact hj)) (by rw [List.length_append, List.length_append]; exact Nat.add_le_add_left (Nat.le_of_ble_eq_true rfl) _) dX4_init_29 ⟨hcl, ?_⟩
  exact fun q hq => by rw [hsM4 q (by omega), hsM3 q (by omega), hsM2 q (by omega), hsM1 q (by omega)]
abbrev P_X3_init (k : Nat) (M MM : Mem) : Prop := (∀ q, q ≤ k → MM q = M q) ∧ MM (k + 1) = zr ∧ MM (k + 2) = zr
set_option maxRecDepth 100000 in
set_option maxHeartbeats 8000000 in
theorem c_X3_init {l : Launch} {G : va_G} {ad : Nat → Nat} {CA : Nat → ClassId} (L0 Ly Ly' : List LD) (k : Nat) (hk : L0.length = k) (hLy : Ly = L0 ++ [.inl (3, [2, 2, 2, 0, 0, 0])]) (hLy' : Ly' = L0 ++ readL k) (hcl : CloL Ly) (M : Mem) (sz : Nat)  : MtG l yX3_init cX3_init 1 4 11 392 220 G ad CA Ly Ly' [.ref (ad k)] M (fun MM => CloL Ly' ∧ P_X3_init k M MM) sz := by
  subst hLy hLy'
  refine MtG.of (by decide) (Nat.le_of_ble_eq_true rfl) (fun p e s m args below meth c hx hb hr hml hts hown hlocks hnm hAO hA hW ls hl => ?_)
  have hl : lv_has ls 1 [(0, .ref (ad k))] := hl
  have hcl : CloL (L0 ++ (.inl (3, [2, 2, 2, 0, 0, 0]) :: [])) := hcl
  obtain ⟨H, hH⟩ : ∃ z, z = s.heap := ⟨_, rfl⟩
  obtain ⟨locs, hlo⟩ : ∃ z : List Loc, z = [] := ⟨_, rfl⟩
  rw [← hlo]
  have hW9 := hW
  rw [← hlo] at hW9
  clear hW
  have hW : Wo G ad CA 6 (L0 ++ (.inl (3, [2, 2, 2, 0, 0, 0]) :: [])) (AG ad _ s.heap.size) s M s.heap locs := hW9
  show WfG l 4 11 392 220 G ad CA _ _ _ p e s m args below meth c s.heap locs 0 0 (F0 m 0 ls [])
  clear hW9
  have hc0 : ∀ j, j < k + 1 → ad j = ad j := fun _ _ => rfl
  refine lv_aload_n hx hb dX3_init_0 rfl (lv_at hl 0 rfl) ?_
  refine W.objInit hx hb hown (hts _ (wm_4 _ (List.mem_of_getElem? (i := 8) rfl))) (hts _ (wm_1 _ (List.mem_of_getElem? (i := 11) rfl))) (hts _ (wm_1 _ (List.mem_of_getElem? (i := 12) rfl))) rfl (by rw [hml]; exact hl.1) rfl dX3_init_1 (Nat.le_of_ble_eq_true rfl) (Nat.le_of_ble_eq_true rfl) ?_
  refine W.eq (g2 := F0 m 4 ls []) rfl ?_
  refine lv_aload_n hx hb dX3_init_4 rfl (lv_at hl 0 rfl) ?_
  refine nwO (n := k + 1) hx hb hts hown hA hk rfl hW hcl nX3_9 (Nat.le_of_ble_eq_true rfl) (Nat.le_of_ble_eq_true rfl) dX3_init_5 (fun ad1 H hx1 hcl hW => ?_)
  rw [← hx1 k (by omega)] at hl
  rw [← hx1 k (by omega)]
  have hc1 : ∀ j, j < k + 1 → ad1 j = ad j := fun j hj => (hx1 j (by omega)).trans (hc0 j hj)
  obtain ⟨M1, hM1⟩ : ∃ z, z = updR M (k + 1) zr := ⟨_, rfl⟩
  rw [← hM1] at hW
  have hsM1 : ∀ q, q < k + 1 → M1 q = M q := fun q hq => by rw [hM1]; exact updR_ne (by omega)
  have hzM1 : M1 (k + 1) = zr := by rw [hM1]; exact updR_eq
  refine lv_dup hx hb dX3_init_8 rfl ?_
  refine rw_initG hx hb hml hts hown hW hA hAO (k + 1) (c_X8_init (l := l) (G := G) (ad := ad1) (CA := CA) (L0 ++ (.inl (3, [2, 2, 2, 0, 0, 0]) :: ([]))) (L0 ++ (.inl (3, [2, 2, 2, 0, 0, 0]) :: ([.inl (8, [2, 0, 0, 0, 0, 0])]))) (L0 ++ (.inl (3, [2, 2, 2, 0, 0, 0]) :: (tapeL (k + 1)))) (k + 1) (by rw [len_oT hk]; rfl) app_o1 app_o1 hcl M1 _) iX3_11 ⟨Nat.le_of_ble_eq_true rfl, Nat.le_of_ble_eq_true rfl⟩ ⟨Nat.le_of_ble_eq_true rfl, Nat.le_of_ble_eq_true rfl⟩ hl.1 (Nat.le_of_ble_eq_true rfl) dX3_init_9 (fun ad2 M2 H locs hx0 hp hW _ _ => ?_)
  have hx2 : ∀ j, j < k + 2 → ad2 j = ad1 j := fun j hj => hx0 j (by rw [len_oT hk]; exact hj)
  rw [← hx2 k (by omega)] at hl
  rw [← hx2 k (by omega), ← hx2 (k + 1) (by omega)]
  have hc2 : ∀ j, j < k + 1 → ad2 j = ad j := fun j hj => (hx2 j (by omega)).trans (hc1 j hj)
  obtain ⟨hcl, hpM2⟩ := hp
  have hsM2 : ∀ q, q < k + 1 → M2 q = M1 q := fun q hq => hpM2.1 q (by omega)
  refine nwP hx hb hts hown hnm hk hW hcl 0 rfl (k + 1) (by show _ < k + (2 + 1); omega) qX3_12 (fun _ => ⟨rfl, rfl⟩) dX3_init_12 (fun H locs hcl hW => ?_)
  have hcl : CloL (L0 ++ (.inl (3, [k + 1 + 3, 2, 2, 0, 0, 0]) :: (tapeL (k + 1)))) := hcl
  have hW : Wo G ad2 CA 6 (L0 ++ (.inl (3, [k + 1 + 3, 2, 2, 0, 0, 0]) :: (tapeL (k + 1)))) (AG ad _ s.heap.size) s M2 H locs := hW
  refine lv_aload_n hx hb dX3_init_15 rfl (lv_at hl 0 rfl) ?_
  refine nwO (n := k + 3) hx hb hts hown hA hk rfl hW hcl nX3_18 (Nat.le_of_ble_eq_true rfl) (Nat.le_of_ble_eq_true rfl) dX3_init_16 (fun ad3 H hx3 hcl hW => ?_)
  rw [← hx3 k (by omega)] at hl
  rw [← hx3 k (by omega)]
  have hc3 : ∀ j, j < k + 1 → ad3 j = ad j := fun j hj => (hx3 j (by omega)).trans (hc2 j hj)
  obtain ⟨M3, hM3⟩ : ∃ z, z = updR M2 (k + 3) zr := ⟨_, rfl⟩
  rw [← hM3] at hW
  have hsM3 : ∀ q, q < k + 3 → M3 q = M2 q := fun q hq => by rw [hM3]; exact updR_ne (by omega)
  have hzM3 : M3 (k + 3) = zr := by rw [hM3]; exact updR_eq
  refine lv_dup hx hb dX3_init_19 rfl ?_
  refine rw_initG hx hb hml hts hown hW hA hAO (k + 3) (c_X0_init (l := l) (G := G) (ad := ad3) (CA := CA) (L0 ++ (.inl (3, [k + 1 + 3, 2, 2, 0, 0, 0]) :: (tapeL (k + 1)))) (L0 ++ (.inl (3, [k + 1 + 3, 2, 2, 0, 0, 0]) :: (tapeL (k + 1) ++ [.inl (0, [0, 0, 0, 0, 0, 2, 2, 2, 2, 2])]))) (L0 ++ (.inl (3, [k + 1 + 3, 2, 2, 0, 0, 0]) :: (tapeL (k + 1) ++ fieldL (k + 3)))) (k + 3) (by rw [len_oT hk]; rfl) app_oT.symm app_oT.symm hcl M3 _) iX3_20 ⟨Nat.le_of_ble_eq_true rfl, Nat.le_of_ble_eq_true rfl⟩ ⟨Nat.le_of_ble_eq_true rfl, Nat.le_of_ble_eq_true rfl⟩ hl.1 (Nat.le_of_ble_eq_true rfl) dX3_init_20 (fun ad4 M4 H locs hx0 hp hW _ _ => ?_)
  have hx4 : ∀ j, j < k + 4 → ad4 j = ad3 j := fun j hj => hx0 j (by rw [len_oT hk]; exact hj)
  rw [← hx4 k (by omega)] at hl
  rw [← hx4 k (by omega), ← hx4 (k + 3) (by omega)]
  have hc4 : ∀ j, j < k + 1 → ad4 j = ad j := fun j hj => (hx4 j (by omega)).trans (hc3 j hj)
  obtain ⟨hcl, hpM4⟩ := hp
  have hsM4 : ∀ q, q < k + 3 → M4 q = M3 q := fun q hq => hpM4.2 q (by omega)
  refine nwP hx hb hts hown hnm hk hW hcl 1 rfl (k + 3) (by show _ < k + (10 + 1); omega) qX3_21 (fun _ => ⟨rfl, rfl⟩) dX3_init_23 (fun H locs hcl hW => ?_)
  have hcl : CloL (L0 ++ (.inl (3, [k + 1 + 3, k + 3 + 3, 2, 0, 0, 0]) :: (tapeL (k + 1) ++ fieldL (k + 3)))) := hcl
  have hW : Wo G ad4 CA 6 (L0 ++ (.inl (3, [k + 1 + 3, k + 3 + 3, 2, 0, 0, 0]) :: (tapeL (k + 1) ++ fieldL (k + 3)))) (AG ad _ s.heap.size) s M4 H locs := hW
  refine lv_aload_n hx hb dX3_init_26 rfl (lv_at hl 0 rfl) ?_
  refine rw_bipush hx hb dX3_init_27 (by decide) ?_
  refine nwA (n := k + 11) hx hb hts hA hk rfl hW hcl 0 (wm_3 _ (List.mem_of_getElem? (i := 0) rfl)) (Or.inl ⟨rfl, rfl⟩) (N := 9) rfl (by decide) (Nat.le_of_ble_eq_true rfl) (Nat.le_of_ble_eq_true rfl) dX3_init_29 (fun ad5 H hx5 hcl hW => ?_)
  rw [← hx5 k (by omega)] at hl
  rw [← hx5 k (by omega)]
  have hc5 : ∀ j, j < k + 1 → ad5 j = ad j := fun j hj => (hx5 j (by omega)).trans (hc4 j hj)
  obtain ⟨M5, hM5⟩ : ∃ z, z = updR M4 (k + 11) zr := ⟨_, rfl⟩
  rw [← hM5] at hW
  have hsM5 : ∀ q, q < k + 11 → M5 q = M4 q := fun q hq => by rw [hM5]; exact updR_ne (by omega)
  refine nwP hx hb hts hown hnm hk hW hcl 2 rfl (k + 11) (by show _ < k + (11 + 1); omega) qX3_25 (fun _ => ⟨rfl, rfl⟩) dX3_init_31 (fun H locs hcl hW => ?_)
  have hcl : CloL (L0 ++ (.inl (3, [k + 1 + 3, k + 3 + 3, k + 11 + 3, 0, 0, 0]) :: (tapeL (k + 1) ++ fieldL (k + 3) ++ [.inr (0, 9, [])]))) := hcl
  have hW : Wo G ad5 CA 6 (L0 ++ (.inl (3, [k + 1 + 3, k + 3 + 3, k + 11 + 3, 0, 0, 0]) :: (tapeL (k + 1) ++ fieldL (k + 3) ++ [.inr (0, 9, [])]))) (AG ad _ s.heap.size) s M5 H locs := hW
  have hW : Wo G ad5 CA 6 (L0 ++ readL k) (AG ad _ s.heap.size) s M5 H locs := hW
  have hcl : CloL (L0 ++ readL k) := hcl
  refine rw_vretG hx hb hr hlocks hW (fun j hj => hc5 j (by rw [List.length_append, hk] at hj; exact hj)) (by rw [List.length_append, List.length_append]; exact Nat.add_le_add_left (Nat.le_of_ble_eq_true rfl) _) dX3_init_34 ⟨hcl, ?_⟩
  refine ⟨fun q hq => by rw [hsM5 q (by omega), hsM4 q (by omega), hsM3 q (by omega), hsM2 q (by omega), hsM1 q (by omega)], ?_, ?_⟩
  · rw [hsM5 _ (by omega), hsM4 _ (by omega), hsM3 _ (by omega), hpM2.1 _ (by omega)]; exact hzM1
  · rw [hsM5 _ (by omega), hsM4 _ (by omega), hsM3 _ (by omega)]; exact hpM2.2
