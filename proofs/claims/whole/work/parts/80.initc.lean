abbrev P_X10_init (k : Nat) (M MM : Mem) : Prop := (∀ q, q ≤ k → MM q = M q) ∧ fld MM (k + 1) = clearF ∧ MM (k + 17) = zr ∧ MM (k + 17 + 1) = zr ∧ MM (k + 17 + 2) = zr ∧ MM (k + 207) = zr ∧ (MM (k + 227) 0 = -1 ∧ MM (k + 227) 1 = 0 ∧ MM (k + 227 + 1) = zr) ∧ (MM (k + 229) 0 = -1 ∧ MM (k + 229) 1 = 0 ∧ MM (k + 229 + 1) = zr) ∧ (MM (k + 231) 0 = -1 ∧ MM (k + 231) 1 = 0 ∧ MM (k + 231 + 1) = zr) ∧ (MM (k + 233) 0 = -1 ∧ MM (k + 233) 1 = 0 ∧ MM (k + 233 + 1) = zr)
set_option maxRecDepth 100000 in
set_option maxHeartbeats 8000000 in
theorem c_X10_init {l : Launch} {G : va_G} {ad : Nat → Nat} {CA : Nat → ClassId} (L0 Ly Ly' : List LD) (k : Nat) (hk : L0.length = k) (hLy : Ly = L0 ++ [.inl (10, [2, 2, 2, 2, 2, 2, 2, 2, 2, 0, 2, 0])]) (hLy' : Ly' = L0 ++ kegL k) (hcl : CloL Ly) (M : Mem) (sz : Nat)  : MtG l yX10_init cX10_init 2 6 234 2070 261 G ad CA Ly Ly' [.ref (ad k)] M (fun MM => CloL Ly' ∧ P_X10_init k M MM) sz := by
  subst hLy hLy'
  refine MtG.of (by decide) (Nat.le_of_ble_eq_true rfl) (fun p e s m args below meth c hx hb hr hml hts hown hlocks hnm hAO hA hW ls hl => ?_)
  have hl : lv_has ls 2 [(0, .ref (ad k))] := hl
  have hcl : CloL (L0 ++ (.inl (10, [2, 2, 2, 2, 2, 2, 2, 2, 2, 0, 2, 0]) :: [])) := hcl
  obtain ⟨H, hH⟩ : ∃ z, z = s.heap := ⟨_, rfl⟩
  obtain ⟨locs, hlo⟩ : ∃ z : List Loc, z = [] := ⟨_, rfl⟩
  rw [← hlo]
  have hW9 := hW
  rw [← hlo] at hW9
  clear hW
  have hW : Wo G ad CA 6 (L0 ++ (.inl (10, [2, 2, 2, 2, 2, 2, 2, 2, 2, 0, 2, 0]) :: [])) (AG ad _ s.heap.size) s M s.heap locs := hW9
  show WfG l 6 234 2070 261 G ad CA _ _ _ p e s m args below meth c s.heap locs 0 0 (F0 m 0 ls [])
  clear hW9
  have hc0 : ∀ j, j < k + 1 → ad j = ad j := fun _ _ => rfl
  refine lv_aload_n hx hb dX10_init_0 rfl (lv_at hl 0 rfl) ?_
  refine W.objInit hx hb hown (hts _ (wm_1 _ (List.mem_of_getElem? (i := 10) rfl))) (hts _ (wm_1 _ (List.mem_of_getElem? (i := 11) rfl))) (hts _ (wm_1 _ (List.mem_of_getElem? (i := 12) rfl))) rfl (by rw [hml]; exact hl.1) rfl dX10_init_1 (Nat.le_of_ble_eq_true rfl) (Nat.le_of_ble_eq_true rfl) ?_
  refine W.eq (g2 := F0 m 4 ls []) rfl ?_
  refine lv_aload_n hx hb dX10_init_4 rfl (lv_at hl 0 rfl) ?_
  refine nwO (n := k + 1) hx hb hts hown hA hk rfl hW hcl nX10_7 (Nat.le_of_ble_eq_true rfl) (Nat.le_of_ble_eq_true rfl) dX10_init_5 (fun ad1 H hx1 hcl hW => ?_)
  rw [← hx1 k (by omega)] at hl
  rw [← hx1 k (by omega)]
  have hc1 : ∀ j, j < k + 1 → ad1 j = ad j := fun j hj => (hx1 j (by omega)).trans (hc0 j hj)
  obtain ⟨M1, hM1⟩ : ∃ z, z = updR M (k + 1) zr := ⟨_, rfl⟩
  rw [← hM1] at hW
  have hsM1 : ∀ q, q < k + 1 → M1 q = M q := fun q hq => by rw [hM1]; exact updR_ne (by omega)
  have hzM1 : M1 (k + 1) = zr := by rw [hM1]; exact updR_eq
  refine lv_dup hx hb dX10_init_8 rfl ?_
  refine rw_initG hx hb hml hts hown hW hA hAO (k + 1) (c_X0_init (l := l) (G := G) (ad := ad1) (CA := CA) (L0 ++ (.inl (10, [2, 2, 2, 2, 2, 2, 2, 2, 2, 0, 2, 0]) :: ([]))) (L0 ++ (.inl (10, [2, 2, 2, 2, 2, 2, 2, 2, 2, 0, 2, 0]) :: ([.inl (0, [0, 0, 0, 0, 0, 2, 2, 2, 2, 2])]))) (L0 ++ (.inl (10, [2, 2, 2, 2, 2, 2, 2, 2, 2, 0, 2, 0]) :: (fieldL (k + 1)))) (k + 1) (by rw [len_oT hk]; rfl) app_o1 app_o1 hcl M1 _) iX10_9 ⟨Nat.le_of_ble_eq_true rfl, Nat.le_of_ble_eq_true rfl⟩ ⟨Nat.le_of_ble_eq_true rfl, Nat.le_of_ble_eq_true rfl⟩ hl.1 (Nat.le_of_ble_eq_true rfl) dX10_init_9 (fun ad2 M2 H locs hx0 hp hW _ _ => ?_)
  have hx2 : ∀ j, j < k + 2 → ad2 j = ad1 j := fun j hj => hx0 j (by rw [len_oT hk]; simp only [List.length_append, List.length_cons, List.length_nil, len_field, len_read, len_fore, len_odds, len_repl, len_told, len_sheet]; omega)
  rw [← hx2 k (by omega)] at hl
  rw [← hx2 k (by omega), ← hx2 (k + 1) (by omega)]
  have hc2 : ∀ j, j < k + 1 → ad2 j = ad j := fun j hj => (hx2 j (by omega)).trans (hc1 j hj)
  obtain ⟨hcl, hpM2⟩ := hp
  have hsM2 : ∀ q, q < k + 1 → M2 q = M1 q := fun q hq => hpM2.2 q (by omega)
  refine nwP hx hb hts hown hnm hk hW hcl 0 rfl (k + 1) (by simp only [List.length_append, List.length_cons, List.length_nil, len_field, len_read, len_fore, len_odds, len_repl, len_told, len_sheet]; omega) qX10_10 (fun _ => ⟨rfl, rfl⟩) dX10_init_12 (fun H locs hcl hW => ?_)
  have hcl : CloL (L0 ++ (.inl (10, [k + 1 + 3, 2, 2, 2, 2, 2, 2, 2, 2, 0, 2, 0]) :: (fieldL (k + 1)))) := hcl
  have hW : Wo G ad2 CA 6 (L0 ++ (.inl (10, [k + 1 + 3, 2, 2, 2, 2, 2, 2, 2, 2, 0, 2, 0]) :: (fieldL (k + 1)))) (AG ad _ s.heap.size) s M2 H locs := hW
  refine lv_aload_n hx hb dX10_init_15 rfl (lv_at hl 0 rfl) ?_
  refine nwO (n := k + 9) hx hb hts hown hA hk (by simp only [List.length_append, List.length_cons, List.length_nil, len_field, len_read, len_fore, len_odds, len_repl, len_told, len_sheet]) hW hcl nX10_7 (Nat.le_of_ble_eq_true rfl) (Nat.le_of_ble_eq_true rfl) dX10_init_16 (fun ad3 H hx3 hcl hW => ?_)
  rw [← hx3 k (by omega)] at hl
  rw [← hx3 k (by omega)]
  have hc3 : ∀ j, j < k + 1 → ad3 j = ad j := fun j hj => (hx3 j (by omega)).trans (hc2 j hj)
  obtain ⟨M3, hM3⟩ : ∃ z, z = updR M2 (k + 9) zr := ⟨_, rfl⟩
  rw [← hM3] at hW
  have hsM3 : ∀ q, q < k + 9 → M3 q = M2 q := fun q hq => by rw [hM3]; exact updR_ne (by omega)
  have hzM3 : M3 (k + 9) = zr := by rw [hM3]; exact updR_eq
  refine lv_dup hx hb dX10_init_19 rfl ?_
  refine rw_initG hx hb hml hts hown hW hA hAO (k + 9) (c_X0_init (l := l) (G := G) (ad := ad3) (CA := CA) (L0 ++ (.inl (10, [k + 1 + 3, 2, 2, 2, 2, 2, 2, 2, 2, 0, 2, 0]) :: (fieldL (k + 1)))) (L0 ++ (.inl (10, [k + 1 + 3, 2, 2, 2, 2, 2, 2, 2, 2, 0, 2, 0]) :: (fieldL (k + 1) ++ [.inl (0, [0, 0, 0, 0, 0, 2, 2, 2, 2, 2])]))) (L0 ++ (.inl (10, [k + 1 + 3, 2, 2, 2, 2, 2, 2, 2, 2, 0, 2, 0]) :: (fieldL (k + 1) ++ fieldL (k + 9)))) (k + 9) (by rw [len_oT hk]; simp only [List.length_append, List.length_cons, List.length_nil, len_field, len_read, len_fore, len_odds, len_repl, len_told, len_sheet]) app_oT.symm app_oT.symm hcl M3 _) iX10_9 ⟨Nat.le_of_ble_eq_true rfl, Nat.le_of_ble_eq_true rfl⟩ ⟨Nat.le_of_ble_eq_true rfl, Nat.le_of_ble_eq_true rfl⟩ hl.1 (Nat.le_of_ble_eq_true rfl) dX10_init_20 (fun ad4 M4 H locs hx0 hp hW _ _ => ?_)
  have hx4 : ∀ j, j < k + 10 → ad4 j = ad3 j := fun j hj => hx0 j (by rw [len_oT hk]; simp only [List.length_append, List.length_cons, List.length_nil, len_field, len_read, len_fore, len_odds, len_repl, len_told, len_sheet]; omega)
  rw [← hx4 k (by omega)] at hl
  rw [← hx4 k (by omega), ← hx4 (k + 9) (by omega)]
  have hc4 : ∀ j, j < k + 1 → ad4 j = ad j := fun j hj => (hx4 j (by omega)).trans (hc3 j hj)
  obtain ⟨hcl, hpM4⟩ := hp
  have hsM4 : ∀ q, q < k + 9 → M4 q = M3 q := fun q hq => hpM4.2 q (by omega)
  refine nwP hx hb hts hown hnm hk hW hcl 1 rfl (k + 9) (by simp only [List.length_append, List.length_cons, List.length_nil, len_field, len_read, len_fore, len_odds, len_repl, len_told, len_sheet]; omega) qX10_16 (fun _ => ⟨rfl, rfl⟩) dX10_init_23 (fun H locs hcl hW => ?_)
  have hcl : CloL (L0 ++ (.inl (10, [k + 1 + 3, k + 9 + 3, 2, 2, 2, 2, 2, 2, 2, 0, 2, 0]) :: (fieldL (k + 1) ++ fieldL (k + 9)))) := hcl
  have hW : Wo G ad4 CA 6 (L0 ++ (.inl (10, [k + 1 + 3, k + 9 + 3, 2, 2, 2, 2, 2, 2, 2, 0, 2, 0]) :: (fieldL (k + 1) ++ fieldL (k + 9)))) (AG ad _ s.heap.size) s M4 H locs := hW
  refine lv_aload_n hx hb dX10_init_26 rfl (lv_at hl 0 rfl) ?_
  refine nwO (n := k + 17) hx hb hts hown hA hk (by simp only [List.length_append, List.length_cons, List.length_nil, len_field, len_read, len_fore, len_odds, len_repl, len_told, len_sheet]) hW hcl nX10_19 (Nat.le_of_ble_eq_true rfl) (Nat.le_of_ble_eq_true rfl) dX10_init_27 (fun ad5 H hx5 hcl hW => ?_)
  rw [← hx5 k (by omega)] at hl
  rw [← hx5 k (by omega)]
  have hc5 : ∀ j, j < k + 1 → ad5 j = ad j := fun j hj => (hx5 j (by omega)).trans (hc4 j hj)
  obtain ⟨M5, hM5⟩ : ∃ z, z = updR M4 (k + 17) zr := ⟨_, rfl⟩
  rw [← hM5] at hW
  have hsM5 : ∀ q, q < k + 17 → M5 q = M4 q := fun q hq => by rw [hM5]; exact updR_ne (by omega)
  have hzM5 : M5 (k + 17) = zr := by rw [hM5]; exact updR_eq
  refine lv_dup hx hb dX10_init_30 rfl ?_
  refine rw_initG hx hb hml hts hown hW hA hAO (k + 17) (c_X3_init (l := l) (G := G) (ad := ad5) (CA := CA) (L0 ++ (.inl (10, [k + 1 + 3, k + 9 + 3, 2, 2, 2, 2, 2, 2, 2, 0, 2, 0]) :: (fieldL (k + 1) ++ fieldL (k + 9)))) (L0 ++ (.inl (10, [k + 1 + 3, k + 9 + 3, 2, 2, 2, 2, 2, 2, 2, 0, 2, 0]) :: (fieldL (k + 1) ++ fieldL (k + 9) ++ [.inl (3, [2, 2, 2, 0, 0, 0])]))) (L0 ++ (.inl (10, [k + 1 + 3, k + 9 + 3, 2, 2, 2, 2, 2, 2, 2, 0, 2, 0]) :: (fieldL (k + 1) ++ fieldL (k + 9) ++ readL (k + 17)))) (k + 17) (by rw [len_oT hk]; simp only [List.length_append, List.length_cons, List.length_nil, len_field, len_read, len_fore, len_odds, len_repl, len_told, len_sheet]) app_oT.symm app_oT.symm hcl M5 _) iX10_21 ⟨Nat.le_of_ble_eq_true rfl, Nat.le_of_ble_eq_true rfl⟩ ⟨Nat.le_of_ble_eq_true rfl, Nat.le_of_ble_eq_true rfl⟩ hl.1 (Nat.le_of_ble_eq_true rfl) dX10_init_31 (fun ad6 M6 H locs hx0 hp hW _ _ => ?_)
  have hx6 : ∀ j, j < k + 18 → ad6 j = ad5 j := fun j hj => hx0 j (by rw [len_oT hk]; simp only [List.length_append, List.length_cons, List.length_nil, len_field, len_read, len_fore, len_odds, len_repl, len_told, len_sheet]; omega)
  rw [← hx6 k (by omega)] at hl
  rw [← hx6 k (by omega), ← hx6 (k + 17) (by omega)]
  have hc6 : ∀ j, j < k + 1 → ad6 j = ad j := fun j hj => (hx6 j (by omega)).trans (hc5 j hj)
  obtain ⟨hcl, hpM6⟩ := hp
  have hsM6 : ∀ q, q < k + 17 → M6 q = M5 q := fun q hq => hpM6.1 q (by omega)
  refine nwP hx hb hts hown hnm hk hW hcl 2 rfl (k + 17) (by simp only [List.length_append, List.length_cons, List.length_nil, len_field, len_read, len_fore, len_odds, len_repl, len_told, len_sheet]; omega) qX10_22 (fun _ => ⟨rfl, rfl⟩) dX10_init_34 (fun H locs hcl hW => ?_)
  have hcl : CloL (L0 ++ (.inl (10, [k + 1 + 3, k + 9 + 3, k + 17 + 3, 2, 2, 2, 2, 2, 2, 0, 2, 0]) :: (fieldL (k + 1) ++ fieldL (k + 9) ++ readL (k + 17)))) := hcl
  have hW : Wo G ad6 CA 6 (L0 ++ (.inl (10, [k + 1 + 3, k + 9 + 3, k + 17 + 3, 2, 2, 2, 2, 2, 2, 0, 2, 0]) :: (fieldL (k + 1) ++ fieldL (k + 9) ++ readL (k + 17)))) (AG ad _ s.heap.size) s M6 H locs := hW
  refine lv_aload_n hx hb dX10_init_37 rfl (lv_at hl 0 rfl) ?_
  refine nwO (n := k + 29) hx hb hts hown hA hk (by simp only [List.length_append, List.length_cons, List.length_nil, len_field, len_read, len_fore, len_odds, len_repl, len_told, len_sheet]) hW hcl nX10_26 (Nat.le_of_ble_eq_true rfl) (Nat.le_of_ble_eq_true rfl) dX10_init_38 (fun ad7 H hx7 hcl hW => ?_)
  rw [← hx7 k (by omega)] at hl
  rw [← hx7 k (by omega)]
  have hc7 : ∀ j, j < k + 1 → ad7 j = ad j := fun j hj => (hx7 j (by omega)).trans (hc6 j hj)
  obtain ⟨M7, hM7⟩ : ∃ z, z = updR M6 (k + 29) zr := ⟨_, rfl⟩
  rw [← hM7] at hW
  have hsM7 : ∀ q, q < k + 29 → M7 q = M6 q := fun q hq => by rw [hM7]; exact updR_ne (by omega)
  have hzM7 : M7 (k + 29) = zr := by rw [hM7]; exact updR_eq
  refine lv_dup hx hb dX10_init_41 rfl ?_
  refine rw_initG hx hb hml hts hown hW hA hAO (k + 29) (c_X1_init (l := l) (G := G) (ad := ad7) (CA := CA) (L0 ++ (.inl (10, [k + 1 + 3, k + 9 + 3, k + 17 + 3, 2, 2, 2, 2, 2, 2, 0, 2, 0]) :: (fieldL (k + 1) ++ fieldL (k + 9) ++ readL (k + 17)))) (L0 ++ (.inl (10, [k + 1 + 3, k + 9 + 3, k + 17 + 3, 2, 2, 2, 2, 2, 2, 0, 2, 0]) :: (fieldL (k + 1) ++ fieldL (k + 9) ++ readL (k + 17) ++ [.inl (1, [2])]))) (L0 ++ (.inl (10, [k + 1 + 3, k + 9 + 3, k + 17 + 3, 2, 2, 2, 2, 2, 2, 0, 2, 0]) :: (fieldL (k + 1) ++ fieldL (k + 9) ++ readL (k + 17) ++ foreL (k + 29)))) (k + 29) (by rw [len_oT hk]; simp only [List.length_append, List.length_cons, List.length_nil, len_field, len_read, len_fore, len_odds, len_repl, len_told, len_sheet]) app_oT.symm app_oT.symm hcl M7 _) iX10_28 ⟨Nat.le_of_ble_eq_true rfl, Nat.le_of_ble_eq_true rfl⟩ ⟨Nat.le_of_ble_eq_true rfl, Nat.le_of_ble_eq_true rfl⟩ hl.1 (Nat.le_of_ble_eq_true rfl) dX10_init_42 (fun ad8 M8 H locs hx0 hp hW _ _ => ?_)
  have hx8 : ∀ j, j < k + 30 → ad8 j = ad7 j := fun j hj => hx0 j (by rw [len_oT hk]; simp only [List.length_append, List.length_cons, List.length_nil, len_field, len_read, len_fore, len_odds, len_repl, len_told, len_sheet]; omega)
  rw [← hx8 k (by omega)] at hl
  rw [← hx8 k (by omega), ← hx8 (k + 29) (by omega)]
  have hc8 : ∀ j, j < k + 1 → ad8 j = ad j := fun j hj => (hx8 j (by omega)).trans (hc7 j hj)
  obtain ⟨hcl, hpM8⟩ := hp
  have hsM8 : ∀ q, q < k + 29 → M8 q = M7 q := fun q hq => hpM8 q (by omega)
  refine nwP hx hb hts hown hnm hk hW hcl 3 rfl (k + 29) (by simp only [List.length_append, List.length_cons, List.length_nil, len_field, len_read, len_fore, len_odds, len_repl, len_told, len_sheet]; omega) qX10_29 (fun _ => ⟨rfl, rfl⟩) dX10_init_45 (fun H locs hcl hW => ?_)
  have hcl : CloL (L0 ++ (.inl (10, [k + 1 + 3, k + 9 + 3, k + 17 + 3, k + 29 + 3, 2, 2, 2, 2, 2, 0, 2, 0]) :: (fieldL (k + 1) ++ fieldL (k + 9) ++ readL (k + 17) ++ foreL (k + 29)))) := hcl
  have hW : Wo G ad8 CA 6 (L0 ++ (.inl (10, [k + 1 + 3, k + 9 + 3, k + 17 + 3, k + 29 + 3, 2, 2, 2, 2, 2, 0, 2, 0]) :: (fieldL (k + 1) ++ fieldL (k + 9) ++ readL (k + 17) ++ foreL (k + 29)))) (AG ad _ s.heap.size) s M8 H locs := hW
  refine lv_aload_n hx hb dX10_init_48 rfl (lv_at hl 0 rfl) ?_
  refine nwO (n := k + 38) hx hb hts hown hA hk (by simp only [List.length_append, List.length_cons, List.length_nil, len_field, len_read, len_fore, len_odds, len_repl, len_told, len_sheet]) hW hcl nX10_33 (Nat.le_of_ble_eq_true rfl) (Nat.le_of_ble_eq_true rfl) dX10_init_49 (fun ad9 H hx9 hcl hW => ?_)
  rw [← hx9 k (by omega)] at hl
  rw [← hx9 k (by omega)]
  have hc9 : ∀ j, j < k + 1 → ad9 j = ad j := fun j hj => (hx9 j (by omega)).trans (hc8 j hj)
  obtain ⟨M9, hM9⟩ : ∃ z, z = updR M8 (k + 38) zr := ⟨_, rfl⟩
  rw [← hM9] at hW
  have hsM9 : ∀ q, q < k + 38 → M9 q = M8 q := fun q hq => by rw [hM9]; exact updR_ne (by omega)
  have hzM9 : M9 (k + 38) = zr := by rw [hM9]; exact updR_eq
  refine lv_dup hx hb dX10_init_52 rfl ?_
  refine rw_initG hx hb hml hts hown hW hA hAO (k + 38) (c_X2_init (l := l) (G := G) (ad := ad9) (CA := CA) (L0 ++ (.inl (10, [k + 1 + 3, k + 9 + 3, k + 17 + 3, k + 29 + 3, 2, 2, 2, 2, 2, 0, 2, 0]) :: (fieldL (k + 1) ++ fieldL (k + 9) ++ readL (k + 17) ++ foreL (k + 29)))) (L0 ++ (.inl (10, [k + 1 + 3, k + 9 + 3, k + 17 + 3, k + 29 + 3, 2, 2, 2, 2, 2, 0, 2, 0]) :: (fieldL (k + 1) ++ fieldL (k + 9) ++ readL (k + 17) ++ foreL (k + 29) ++ [.inl (2, [2, 2, 1])]))) (L0 ++ (.inl (10, [k + 1 + 3, k + 9 + 3, k + 17 + 3, k + 29 + 3, 2, 2, 2, 2, 2, 0, 2, 0]) :: (fieldL (k + 1) ++ fieldL (k + 9) ++ readL (k + 17) ++ foreL (k + 29) ++ oddsL (k + 38)))) (k + 38) (by rw [len_oT hk]; simp only [List.length_append, List.length_cons, List.length_nil, len_field, len_read, len_fore, len_odds, len_repl, len_told, len_sheet]) app_oT.symm app_oT.symm hcl M9 _) iX10_35 ⟨Nat.le_of_ble_eq_true rfl, Nat.le_of_ble_eq_true rfl⟩ ⟨Nat.le_of_ble_eq_true rfl, Nat.le_of_ble_eq_true rfl⟩ hl.1 (Nat.le_of_ble_eq_true rfl) dX10_init_53 (fun ad10 M10 H locs hx0 hp hW _ _ => ?_)
  have hx10 : ∀ j, j < k + 39 → ad10 j = ad9 j := fun j hj => hx0 j (by rw [len_oT hk]; simp only [List.length_append, List.length_cons, List.length_nil, len_field, len_read, len_fore, len_odds, len_repl, len_told, len_sheet]; omega)
  rw [← hx10 k (by omega)] at hl
  rw [← hx10 k (by omega), ← hx10 (k + 38) (by omega)]
  have hc10 : ∀ j, j < k + 1 → ad10 j = ad j := fun j hj => (hx10 j (by omega)).trans (hc9 j hj)
  obtain ⟨hcl, hpM10⟩ := hp
  have hsM10 : ∀ q, q < k + 38 → M10 q = M9 q := fun q hq => hpM10 q (by omega)
  refine nwP hx hb hts hown hnm hk hW hcl 4 rfl (k + 38) (by simp only [List.length_append, List.length_cons, List.length_nil, len_field, len_read, len_fore, len_odds, len_repl, len_told, len_sheet]; omega) qX10_36 (fun _ => ⟨rfl, rfl⟩) dX10_init_56 (fun H locs hcl hW => ?_)
  have hcl : CloL (L0 ++ (.inl (10, [k + 1 + 3, k + 9 + 3, k + 17 + 3, k + 29 + 3, k + 38 + 3, 2, 2, 2, 2, 0, 2, 0]) :: (fieldL (k + 1) ++ fieldL (k + 9) ++ readL (k + 17) ++ foreL (k + 29) ++ oddsL (k + 38)))) := hcl
  have hW : Wo G ad10 CA 6 (L0 ++ (.inl (10, [k + 1 + 3, k + 9 + 3, k + 17 + 3, k + 29 + 3, k + 38 + 3, 2, 2, 2, 2, 0, 2, 0]) :: (fieldL (k + 1) ++ fieldL (k + 9) ++ readL (k + 17) ++ foreL (k + 29) ++ oddsL (k + 38)))) (AG ad _ s.heap.size) s M10 H locs := hW
  refine lv_aload_n hx hb dX10_init_59 rfl (lv_at hl 0 rfl) ?_
  refine nwO (n := k + 122) hx hb hts hown hA hk (by simp only [List.length_append, List.length_cons, List.length_nil, len_field, len_read, len_fore, len_odds, len_repl, len_told, len_sheet]) hW hcl nX10_40 (Nat.le_of_ble_eq_true rfl) (Nat.le_of_ble_eq_true rfl) dX10_init_60 (fun ad11 H hx11 hcl hW => ?_)
  rw [← hx11 k (by omega)] at hl
  rw [← hx11 k (by omega)]
  have hc11 : ∀ j, j < k + 1 → ad11 j = ad j := fun j hj => (hx11 j (by omega)).trans (hc10 j hj)
  obtain ⟨M11, hM11⟩ : ∃ z, z = updR M10 (k + 122) zr := ⟨_, rfl⟩
  rw [← hM11] at hW
  have hsM11 : ∀ q, q < k + 122 → M11 q = M10 q := fun q hq => by rw [hM11]; exact updR_ne (by omega)
  have hzM11 : M11 (k + 122) = zr := by rw [hM11]; exact updR_eq
  refine lv_dup hx hb dX10_init_63 rfl ?_
  refine rw_initG hx hb hml hts hown hW hA hAO (k + 122) (c_X4_init (l := l) (G := G) (ad := ad11) (CA := CA) (L0 ++ (.inl (10, [k + 1 + 3, k + 9 + 3, k + 17 + 3, k + 29 + 3, k + 38 + 3, 2, 2, 2, 2, 0, 2, 0]) :: (fieldL (k + 1) ++ fieldL (k + 9) ++ readL (k + 17) ++ foreL (k + 29) ++ oddsL (k + 38)))) (L0 ++ (.inl (10, [k + 1 + 3, k + 9 + 3, k + 17 + 3, k + 29 + 3, k + 38 + 3, 2, 2, 2, 2, 0, 2, 0]) :: (fieldL (k + 1) ++ fieldL (k + 9) ++ readL (k + 17) ++ foreL (k + 29) ++ oddsL (k + 38) ++ [.inl (4, [2, 2, 2, 0, 0, 0, 0])]))) (L0 ++ (.inl (10, [k + 1 + 3, k + 9 + 3, k + 17 + 3, k + 29 + 3, k + 38 + 3, 2, 2, 2, 2, 0, 2, 0]) :: (fieldL (k + 1) ++ fieldL (k + 9) ++ readL (k + 17) ++ foreL (k + 29) ++ oddsL (k + 38) ++ replL (k + 122)))) (k + 122) (by rw [len_oT hk]; simp only [List.length_append, List.length_cons, List.length_nil, len_field, len_read, len_fore, len_odds, len_repl, len_told, len_sheet]) app_oT.symm app_oT.symm hcl M11 _) iX10_42 ⟨Nat.le_of_ble_eq_true rfl, Nat.le_of_ble_eq_true rfl⟩ ⟨Nat.le_of_ble_eq_true rfl, Nat.le_of_ble_eq_true rfl⟩ hl.1 (Nat.le_of_ble_eq_true rfl) dX10_init_64 (fun ad12 M12 H locs hx0 hp hW _ _ => ?_)
  have hx12 : ∀ j, j < k + 123 → ad12 j = ad11 j := fun j hj => hx0 j (by rw [len_oT hk]; simp only [List.length_append, List.length_cons, List.length_nil, len_field, len_read, len_fore, len_odds, len_repl, len_told, len_sheet]; omega)
  rw [← hx12 k (by omega)] at hl
  rw [← hx12 k (by omega), ← hx12 (k + 122) (by omega)]
  have hc12 : ∀ j, j < k + 1 → ad12 j = ad j := fun j hj => (hx12 j (by omega)).trans (hc11 j hj)
  obtain ⟨hcl, hpM12⟩ := hp
  have hsM12 : ∀ q, q < k + 122 → M12 q = M11 q := fun q hq => hpM12 q (by omega)
  refine nwP hx hb hts hown hnm hk hW hcl 5 rfl (k + 122) (by simp only [List.length_append, List.length_cons, List.length_nil, len_field, len_read, len_fore, len_odds, len_repl, len_told, len_sheet]; omega) qX10_43 (fun _ => ⟨rfl, rfl⟩) dX10_init_67 (fun H locs hcl hW => ?_)
  have hcl : CloL (L0 ++ (.inl (10, [k + 1 + 3, k + 9 + 3, k + 17 + 3, k + 29 + 3, k + 38 + 3, k + 122 + 3, 2, 2, 2, 0, 2, 0]) :: (fieldL (k + 1) ++ fieldL (k + 9) ++ readL (k + 17) ++ foreL (k + 29) ++ oddsL (k + 38) ++ replL (k + 122)))) := hcl
  have hW : Wo G ad12 CA 6 (L0 ++ (.inl (10, [k + 1 + 3, k + 9 + 3, k + 17 + 3, k + 29 + 3, k + 38 + 3, k + 122 + 3, 2, 2, 2, 0, 2, 0]) :: (fieldL (k + 1) ++ fieldL (k + 9) ++ readL (k + 17) ++ foreL (k + 29) ++ oddsL (k + 38) ++ replL (k + 122)))) (AG ad _ s.heap.size) s M12 H locs := hW
  refine lv_aload_n hx hb dX10_init_70 rfl (lv_at hl 0 rfl) ?_
  refine nwO (n := k + 207) hx hb hts hown hA hk (by simp only [List.length_append, List.length_cons, List.length_nil, len_field, len_read, len_fore, len_odds, len_repl, len_told, len_sheet]) hW hcl nX10_47 (Nat.le_of_ble_eq_true rfl) (Nat.le_of_ble_eq_true rfl) dX10_init_71 (fun ad13 H hx13 hcl hW => ?_)
  rw [← hx13 k (by omega)] at hl
  rw [← hx13 k (by omega)]
  have hc13 : ∀ j, j < k + 1 → ad13 j = ad j := fun j hj => (hx13 j (by omega)).trans (hc12 j hj)
  obtain ⟨M13, hM13⟩ : ∃ z, z = updR M12 (k + 207) zr := ⟨_, rfl⟩
  rw [← hM13] at hW
  have hsM13 : ∀ q, q < k + 207 → M13 q = M12 q := fun q hq => by rw [hM13]; exact updR_ne (by omega)
  have hzM13 : M13 (k + 207) = zr := by rw [hM13]; exact updR_eq
  refine lv_dup hx hb dX10_init_74 rfl ?_
  refine rw_initG hx hb hml hts hown hW hA hAO (k + 207) (c_X9_init (l := l) (G := G) (ad := ad13) (CA := CA) (L0 ++ (.inl (10, [k + 1 + 3, k + 9 + 3, k + 17 + 3, k + 29 + 3, k + 38 + 3, k + 122 + 3, 2, 2, 2, 0, 2, 0]) :: (fieldL (k + 1) ++ fieldL (k + 9) ++ readL (k + 17) ++ foreL (k + 29) ++ oddsL (k + 38) ++ replL (k + 122)))) (L0 ++ (.inl (10, [k + 1 + 3, k + 9 + 3, k + 17 + 3, k + 29 + 3, k + 38 + 3, k + 122 + 3, 2, 2, 2, 0, 2, 0]) :: (fieldL (k + 1) ++ fieldL (k + 9) ++ readL (k + 17) ++ foreL (k + 29) ++ oddsL (k + 38) ++ replL (k + 122) ++ [.inl (9, [2, 2, 0])]))) (L0 ++ (.inl (10, [k + 1 + 3, k + 9 + 3, k + 17 + 3, k + 29 + 3, k + 38 + 3, k + 122 + 3, 2, 2, 2, 0, 2, 0]) :: (fieldL (k + 1) ++ fieldL (k + 9) ++ readL (k + 17) ++ foreL (k + 29) ++ oddsL (k + 38) ++ replL (k + 122) ++ toldL (k + 207)))) (k + 207) (by rw [len_oT hk]; simp only [List.length_append, List.length_cons, List.length_nil, len_field, len_read, len_fore, len_odds, len_repl, len_told, len_sheet]) app_oT.symm app_oT.symm hcl M13 _) iX10_49 ⟨Nat.le_of_ble_eq_true rfl, Nat.le_of_ble_eq_true rfl⟩ ⟨Nat.le_of_ble_eq_true rfl, Nat.le_of_ble_eq_true rfl⟩ hl.1 (Nat.le_of_ble_eq_true rfl) dX10_init_75 (fun ad14 M14 H locs hx0 hp hW _ _ => ?_)
  have hx14 : ∀ j, j < k + 208 → ad14 j = ad13 j := fun j hj => hx0 j (by rw [len_oT hk]; simp only [List.length_append, List.length_cons, List.length_nil, len_field, len_read, len_fore, len_odds, len_repl, len_told, len_sheet]; omega)
  rw [← hx14 k (by omega)] at hl
  rw [← hx14 k (by omega), ← hx14 (k + 207) (by omega)]
  have hc14 : ∀ j, j < k + 1 → ad14 j = ad j := fun j hj => (hx14 j (by omega)).trans (hc13 j hj)
  obtain ⟨hcl, hpM14⟩ := hp
  have hsM14 : ∀ q, q < k + 207 → M14 q = M13 q := fun q hq => hpM14 q (by omega)
  refine nwP hx hb hts hown hnm hk hW hcl 6 rfl (k + 207) (by simp only [List.length_append, List.length_cons, List.length_nil, len_field, len_read, len_fore, len_odds, len_repl, len_told, len_sheet]; omega) qX10_50 (fun _ => ⟨rfl, rfl⟩) dX10_init_78 (fun H locs hcl hW => ?_)
  have hcl : CloL (L0 ++ (.inl (10, [k + 1 + 3, k + 9 + 3, k + 17 + 3, k + 29 + 3, k + 38 + 3, k + 122 + 3, k + 207 + 3, 2, 2, 0, 2, 0]) :: (fieldL (k + 1) ++ fieldL (k + 9) ++ readL (k + 17) ++ foreL (k + 29) ++ oddsL (k + 38) ++ replL (k + 122) ++ toldL (k + 207)))) := hcl
  have hW : Wo G ad14 CA 6 (L0 ++ (.inl (10, [k + 1 + 3, k + 9 + 3, k + 17 + 3, k + 29 + 3, k + 38 + 3, k + 122 + 3, k + 207 + 3, 2, 2, 0, 2, 0]) :: (fieldL (k + 1) ++ fieldL (k + 9) ++ readL (k + 17) ++ foreL (k + 29) ++ oddsL (k + 38) ++ replL (k + 122) ++ toldL (k + 207)))) (AG ad _ s.heap.size) s M14 H locs := hW
  refine lv_aload_n hx hb dX10_init_81 rfl (lv_at hl 0 rfl) ?_
  refine nwO (n := k + 210) hx hb hts hown hA hk (by simp only [List.length_append, List.length_cons, List.length_nil, len_field, len_read, len_fore, len_odds, len_repl, len_told, len_sheet]) hW hcl nX10_7 (Nat.le_of_ble_eq_true rfl) (Nat.le_of_ble_eq_true rfl) dX10_init_82 (fun ad15 H hx15 hcl hW => ?_)
  rw [← hx15 k (by omega)] at hl
  rw [← hx15 k (by omega)]
  have hc15 : ∀ j, j < k + 1 → ad15 j = ad j := fun j hj => (hx15 j (by omega)).trans (hc14 j hj)
  obtain ⟨M15, hM15⟩ : ∃ z, z = updR M14 (k + 210) zr := ⟨_, rfl⟩
  rw [← hM15] at hW
  have hsM15 : ∀ q, q < k + 210 → M15 q = M14 q := fun q hq => by rw [hM15]; exact updR_ne (by omega)
  have hzM15 : M15 (k + 210) = zr := by rw [hM15]; exact updR_eq
  refine lv_dup hx hb dX10_init_85 rfl ?_
  refine rw_initG hx hb hml hts hown hW hA hAO (k + 210) (c_X0_init (l := l) (G := G) (ad := ad15) (CA := CA) (L0 ++ (.inl (10, [k + 1 + 3, k + 9 + 3, k + 17 + 3, k + 29 + 3, k + 38 + 3, k + 122 + 3, k + 207 + 3, 2, 2, 0, 2, 0]) :: (fieldL (k + 1) ++ fieldL (k + 9) ++ readL (k + 17) ++ foreL (k + 29) ++ oddsL (k + 38) ++ replL (k + 122) ++ toldL (k + 207)))) (L0 ++ (.inl (10, [k + 1 + 3, k + 9 + 3, k + 17 + 3, k + 29 + 3, k + 38 + 3, k + 122 + 3, k + 207 + 3, 2, 2, 0, 2, 0]) :: (fieldL (k + 1) ++ fieldL (k + 9) ++ readL (k + 17) ++ foreL (k + 29) ++ oddsL (k + 38) ++ replL (k + 122) ++ toldL (k + 207) ++ [.inl (0, [0, 0, 0, 0, 0, 2, 2, 2, 2, 2])]))) (L0 ++ (.inl (10, [k + 1 + 3, k + 9 + 3, k + 17 + 3, k + 29 + 3, k + 38 + 3, k + 122 + 3, k + 207 + 3, 2, 2, 0, 2, 0]) :: (fieldL (k + 1) ++ fieldL (k + 9) ++ readL (k + 17) ++ foreL (k + 29) ++ oddsL (k + 38) ++ replL (k + 122) ++ toldL (k + 207) ++ fieldL (k + 210)))) (k + 210) (by rw [len_oT hk]; simp only [List.length_append, List.length_cons, List.length_nil, len_field, len_read, len_fore, len_odds, len_repl, len_told, len_sheet]) app_oT.symm app_oT.symm hcl M15 _) iX10_9 ⟨Nat.le_of_ble_eq_true rfl, Nat.le_of_ble_eq_true rfl⟩ ⟨Nat.le_of_ble_eq_true rfl, Nat.le_of_ble_eq_true rfl⟩ hl.1 (Nat.le_of_ble_eq_true rfl) dX10_init_86 (fun ad16 M16 H locs hx0 hp hW _ _ => ?_)
  have hx16 : ∀ j, j < k + 211 → ad16 j = ad15 j := fun j hj => hx0 j (by rw [len_oT hk]; simp only [List.length_append, List.length_cons, List.length_nil, len_field, len_read, len_fore, len_odds, len_repl, len_told, len_sheet]; omega)
  rw [← hx16 k (by omega)] at hl
  rw [← hx16 k (by omega), ← hx16 (k + 210) (by omega)]
  have hc16 : ∀ j, j < k + 1 → ad16 j = ad j := fun j hj => (hx16 j (by omega)).trans (hc15 j hj)
  obtain ⟨hcl, hpM16⟩ := hp
  have hsM16 : ∀ q, q < k + 210 → M16 q = M15 q := fun q hq => hpM16.2 q (by omega)
  refine nwP hx hb hts hown hnm hk hW hcl 7 rfl (k + 210) (by simp only [List.length_append, List.length_cons, List.length_nil, len_field, len_read, len_fore, len_odds, len_repl, len_told, len_sheet]; omega) qX10_54 (fun _ => ⟨rfl, rfl⟩) dX10_init_89 (fun H locs hcl hW => ?_)
  have hcl : CloL (L0 ++ (.inl (10, [k + 1 + 3, k + 9 + 3, k + 17 + 3, k + 29 + 3, k + 38 + 3, k + 122 + 3, k + 207 + 3, k + 210 + 3, 2, 0, 2, 0]) :: (fieldL (k + 1) ++ fieldL (k + 9) ++ readL (k + 17) ++ foreL (k + 29) ++ oddsL (k + 38) ++ replL (k + 122) ++ toldL (k + 207) ++ fieldL (k + 210)))) := hcl
  have hW : Wo G ad16 CA 6 (L0 ++ (.inl (10, [k + 1 + 3, k + 9 + 3, k + 17 + 3, k + 29 + 3, k + 38 + 3, k + 122 + 3, k + 207 + 3, k + 210 + 3, 2, 0, 2, 0]) :: (fieldL (k + 1) ++ fieldL (k + 9) ++ readL (k + 17) ++ foreL (k + 29) ++ oddsL (k + 38) ++ replL (k + 122) ++ toldL (k + 207) ++ fieldL (k + 210)))) (AG ad _ s.heap.size) s M16 H locs := hW
  refine lv_aload_n hx hb dX10_init_92 rfl (lv_at hl 0 rfl) ?_
  refine nwO (n := k + 218) hx hb hts hown hA hk (by simp only [List.length_append, List.length_cons, List.length_nil, len_field, len_read, len_fore, len_odds, len_repl, len_told, len_sheet]) hW hcl nX10_7 (Nat.le_of_ble_eq_true rfl) (Nat.le_of_ble_eq_true rfl) dX10_init_93 (fun ad17 H hx17 hcl hW => ?_)
  rw [← hx17 k (by omega)] at hl
  rw [← hx17 k (by omega)]
  have hc17 : ∀ j, j < k + 1 → ad17 j = ad j := fun j hj => (hx17 j (by omega)).trans (hc16 j hj)
  obtain ⟨M17, hM17⟩ : ∃ z, z = updR M16 (k + 218) zr := ⟨_, rfl⟩
  rw [← hM17] at hW
  have hsM17 : ∀ q, q < k + 218 → M17 q = M16 q := fun q hq => by rw [hM17]; exact updR_ne (by omega)
  have hzM17 : M17 (k + 218) = zr := by rw [hM17]; exact updR_eq
  refine lv_dup hx hb dX10_init_96 rfl ?_
  refine rw_initG hx hb hml hts hown hW hA hAO (k + 218) (c_X0_init (l := l) (G := G) (ad := ad17) (CA := CA) (L0 ++ (.inl (10, [k + 1 + 3, k + 9 + 3, k + 17 + 3, k + 29 + 3, k + 38 + 3, k + 122 + 3, k + 207 + 3, k + 210 + 3, 2, 0, 2, 0]) :: (fieldL (k + 1) ++ fieldL (k + 9) ++ readL (k + 17) ++ foreL (k + 29) ++ oddsL (k + 38) ++ replL (k + 122) ++ toldL (k + 207) ++ fieldL (k + 210)))) (L0 ++ (.inl (10, [k + 1 + 3, k + 9 + 3, k + 17 + 3, k + 29 + 3, k + 38 + 3, k + 122 + 3, k + 207 + 3, k + 210 + 3, 2, 0, 2, 0]) :: (fieldL (k + 1) ++ fieldL (k + 9) ++ readL (k + 17) ++ foreL (k + 29) ++ oddsL (k + 38) ++ replL (k + 122) ++ toldL (k + 207) ++ fieldL (k + 210) ++ [.inl (0, [0, 0, 0, 0, 0, 2, 2, 2, 2, 2])]))) (L0 ++ (.inl (10, [k + 1 + 3, k + 9 + 3, k + 17 + 3, k + 29 + 3, k + 38 + 3, k + 122 + 3, k + 207 + 3, k + 210 + 3, 2, 0, 2, 0]) :: (fieldL (k + 1) ++ fieldL (k + 9) ++ readL (k + 17) ++ foreL (k + 29) ++ oddsL (k + 38) ++ replL (k + 122) ++ toldL (k + 207) ++ fieldL (k + 210) ++ fieldL (k + 218)))) (k + 218) (by rw [len_oT hk]; simp only [List.length_append, List.length_cons, List.length_nil, len_field, len_read, len_fore, len_odds, len_repl, len_told, len_sheet]) app_oT.symm app_oT.symm hcl M17 _) iX10_9 ⟨Nat.le_of_ble_eq_true rfl, Nat.le_of_ble_eq_true rfl⟩ ⟨Nat.le_of_ble_eq_true rfl, Nat.le_of_ble_eq_true rfl⟩ hl.1 (Nat.le_of_ble_eq_true rfl) dX10_init_97 (fun ad18 M18 H locs hx0 hp hW _ _ => ?_)
  have hx18 : ∀ j, j < k + 219 → ad18 j = ad17 j := fun j hj => hx0 j (by rw [len_oT hk]; simp only [List.length_append, List.length_cons, List.length_nil, len_field, len_read, len_fore, len_odds, len_repl, len_told, len_sheet]; omega)
  rw [← hx18 k (by omega)] at hl
  rw [← hx18 k (by omega), ← hx18 (k + 218) (by omega)]
  have hc18 : ∀ j, j < k + 1 → ad18 j = ad j := fun j hj => (hx18 j (by omega)).trans (hc17 j hj)
  obtain ⟨hcl, hpM18⟩ := hp
  have hsM18 : ∀ q, q < k + 218 → M18 q = M17 q := fun q hq => hpM18.2 q (by omega)
  refine nwP hx hb hts hown hnm hk hW hcl 8 rfl (k + 218) (by simp only [List.length_append, List.length_cons, List.length_nil, len_field, len_read, len_fore, len_odds, len_repl, len_told, len_sheet]; omega) qX10_57 (fun _ => ⟨rfl, rfl⟩) dX10_init_100 (fun H locs hcl hW => ?_)
  have hcl : CloL (L0 ++ (.inl (10, [k + 1 + 3, k + 9 + 3, k + 17 + 3, k + 29 + 3, k + 38 + 3, k + 122 + 3, k + 207 + 3, k + 210 + 3, k + 218 + 3, 0, 2, 0]) :: (fieldL (k + 1) ++ fieldL (k + 9) ++ readL (k + 17) ++ foreL (k + 29) ++ oddsL (k + 38) ++ replL (k + 122) ++ toldL (k + 207) ++ fieldL (k + 210) ++ fieldL (k + 218)))) := hcl
  have hW : Wo G ad18 CA 6 (L0 ++ (.inl (10, [k + 1 + 3, k + 9 + 3, k + 17 + 3, k + 29 + 3, k + 38 + 3, k + 122 + 3, k + 207 + 3, k + 210 + 3, k + 218 + 3, 0, 2, 0]) :: (fieldL (k + 1) ++ fieldL (k + 9) ++ readL (k + 17) ++ foreL (k + 29) ++ oddsL (k + 38) ++ replL (k + 122) ++ toldL (k + 207) ++ fieldL (k + 210) ++ fieldL (k + 218)))) (AG ad _ s.heap.size) s M18 H locs := hW
  refine lv_aload_n hx hb dX10_init_103 rfl (lv_at hl 0 rfl) ?_
  refine rw_iconst hx hb dX10_init_104 ?_
  refine nwQ (n := k + 226) hx hb hts hown hA hk (by simp only [List.length_append, List.length_cons, List.length_nil, len_field, len_read, len_fore, len_odds, len_repl, len_told, len_sheet]) hW hcl (wm_2 _ (List.mem_of_getElem? (i := 16) rfl)) hAO.2 5 (Or.inr ⟨rfl, rfl⟩) (N := 4) rfl (by decide) (Nat.le_of_ble_eq_true rfl) (Nat.le_of_ble_eq_true rfl) dX10_init_105 (fun ad19 H hx19 hcl hW => ?_)
  rw [← hx19 k (by omega)] at hl
  rw [← hx19 k (by omega)]
  have hc19 : ∀ j, j < k + 1 → ad19 j = ad j := fun j hj => (hx19 j (by omega)).trans (hc18 j hj)
  obtain ⟨M19, hM19⟩ : ∃ z, z = updR M18 (k + 226) zr := ⟨_, rfl⟩
  rw [← hM19] at hW
  have hsM19 : ∀ q, q < k + 226 → M19 q = M18 q := fun q hq => by rw [hM19]; exact updR_ne (by omega)
  refine nwP hx hb hts hown hnm hk hW hcl 10 rfl (k + 226) (by simp only [List.length_append, List.length_cons, List.length_nil, len_field, len_read, len_fore, len_odds, len_repl, len_told, len_sheet]; omega) qX10_62 (fun _ => ⟨rfl, rfl⟩) dX10_init_108 (fun H locs hcl hW => ?_)
  have hcl : CloL (L0 ++ (.inl (10, [k + 1 + 3, k + 9 + 3, k + 17 + 3, k + 29 + 3, k + 38 + 3, k + 122 + 3, k + 207 + 3, k + 210 + 3, k + 218 + 3, 0, k + 226 + 3, 0]) :: (fieldL (k + 1) ++ fieldL (k + 9) ++ readL (k + 17) ++ foreL (k + 29) ++ oddsL (k + 38) ++ replL (k + 122) ++ toldL (k + 207) ++ fieldL (k + 210) ++ fieldL (k + 218) ++ [.inr (5, 4, [])]))) := hcl
  have hW : Wo G ad19 CA 6 (L0 ++ (.inl (10, [k + 1 + 3, k + 9 + 3, k + 17 + 3, k + 29 + 3, k + 38 + 3, k + 122 + 3, k + 207 + 3, k + 210 + 3, k + 218 + 3, 0, k + 226 + 3, 0]) :: (fieldL (k + 1) ++ fieldL (k + 9) ++ readL (k + 17) ++ foreL (k + 29) ++ oddsL (k + 38) ++ replL (k + 122) ++ toldL (k + 207) ++ fieldL (k + 210) ++ fieldL (k + 218) ++ [.inr (5, 4, [])]))) (AG ad _ s.heap.size) s M19 H locs := hW
  refine rw_iconst hx hb dX10_init_111 ?_
  refine lv_istore_n (lv' := [(1, .int (iN 0)), (0, .ref (ad19 k))]) hx hb dX10_init_112 rfl hl (by decide) rfl (fun ls hl => ?_)
  refine lv_iload_n hx hb dX10_init_113 rfl (lv_at hl 0 rfl) ?_
  refine rw_iconst hx hb dX10_init_114 ?_
  refine rw_icmp_ge (tgt := 137) hx hb dX10_init_115 (by decide) (by decide) (by decide) (fun c => absurd c (by decide)) (fun _ => ?_)
  refine lv_aload_n hx hb dX10_init_118 rfl (lv_at hl 1 rfl) ?_
  refine rw_getR hx hb hts hown hW k (get_o0 hk) 10 (k + 226) rfl fX10_62 dX10_init_119 ?_
  refine lv_iload_n hx hb dX10_init_122 rfl (lv_at hl 0 rfl) ?_
  refine nwO (n := k + 227) hx hb hts hown hA hk (by simp only [List.length_append, List.length_cons, List.length_nil, len_field, len_read, len_fore, len_odds, len_repl, len_told, len_sheet]) hW hcl nX10_60 (Nat.le_of_ble_eq_true rfl) (Nat.le_of_ble_eq_true rfl) dX10_init_123 (fun ad20 H hx20 hcl hW => ?_)
  rw [← hx20 k (by omega)] at hl
  rw [← hx20 (k + 226) (by omega)]
  have hc20 : ∀ j, j < k + 1 → ad20 j = ad j := fun j hj => (hx20 j (by omega)).trans (hc19 j hj)
  obtain ⟨M20, hM20⟩ : ∃ z, z = updR M19 (k + 227) zr := ⟨_, rfl⟩
  rw [← hM20] at hW
  have hsM20 : ∀ q, q < k + 227 → M20 q = M19 q := fun q hq => by rw [hM20]; exact updR_ne (by omega)
  have hzM20 : M20 (k + 227) = zr := by rw [hM20]; exact updR_eq
  refine lv_dup hx hb dX10_init_126 rfl ?_
  refine rw_initG hx hb hml hts hown hW hA hAO (k + 227) (c_X5_init (l := l) (G := G) (ad := ad20) (CA := CA) (L0 ++ (.inl (10, [k + 1 + 3, k + 9 + 3, k + 17 + 3, k + 29 + 3, k + 38 + 3, k + 122 + 3, k + 207 + 3, k + 210 + 3, k + 218 + 3, 0, k + 226 + 3, 0]) :: (fieldL (k + 1) ++ fieldL (k + 9) ++ readL (k + 17) ++ foreL (k + 29) ++ oddsL (k + 38) ++ replL (k + 122) ++ toldL (k + 207) ++ fieldL (k + 210) ++ fieldL (k + 218) ++ [.inr (5, 4, [])]))) (L0 ++ (.inl (10, [k + 1 + 3, k + 9 + 3, k + 17 + 3, k + 29 + 3, k + 38 + 3, k + 122 + 3, k + 207 + 3, k + 210 + 3, k + 218 + 3, 0, k + 226 + 3, 0]) :: (fieldL (k + 1) ++ fieldL (k + 9) ++ readL (k + 17) ++ foreL (k + 29) ++ oddsL (k + 38) ++ replL (k + 122) ++ toldL (k + 207) ++ fieldL (k + 210) ++ fieldL (k + 218) ++ [.inr (5, 4, [])] ++ [.inl (5, [0, 0, 2])]))) (L0 ++ (.inl (10, [k + 1 + 3, k + 9 + 3, k + 17 + 3, k + 29 + 3, k + 38 + 3, k + 122 + 3, k + 207 + 3, k + 210 + 3, k + 218 + 3, 0, k + 226 + 3, 0]) :: (fieldL (k + 1) ++ fieldL (k + 9) ++ readL (k + 17) ++ foreL (k + 29) ++ oddsL (k + 38) ++ replL (k + 122) ++ toldL (k + 207) ++ fieldL (k + 210) ++ fieldL (k + 218) ++ [.inr (5, 4, [])] ++ sheetL (k + 227)))) (k + 227) (by rw [len_oT hk]; simp only [List.length_append, List.length_cons, List.length_nil, len_field, len_read, len_fore, len_odds, len_repl, len_told, len_sheet]) app_oT.symm app_oT.symm hcl M20 _ hzM20) iX10_66 ⟨Nat.le_of_ble_eq_true rfl, Nat.le_of_ble_eq_true rfl⟩ ⟨Nat.le_of_ble_eq_true rfl, Nat.le_of_ble_eq_true rfl⟩ hl.1 (Nat.le_of_ble_eq_true rfl) dX10_init_127 (fun ad21 M21 H locs hx0 hp hW _ _ => ?_)
  have hx21 : ∀ j, j < k + 228 → ad21 j = ad20 j := fun j hj => hx0 j (by rw [len_oT hk]; simp only [List.length_append, List.length_cons, List.length_nil, len_field, len_read, len_fore, len_odds, len_repl, len_told, len_sheet]; omega)
  rw [← hx21 k (by omega)] at hl
  rw [← hx21 (k + 226) (by omega), ← hx21 (k + 227) (by omega)]
  have hc21 : ∀ j, j < k + 1 → ad21 j = ad j := fun j hj => (hx21 j (by omega)).trans (hc20 j hj)
  obtain ⟨hcl, hpM21⟩ := hp
  have hsM21 : ∀ q, q < k + 227 → M21 q = M20 q := fun q hq => hpM21.1 q (by omega)
  refine nwS hx hb hk hW hcl 225 5 (getL (getA (by simp only [List.length_append, List.length_cons, List.length_nil, len_field, len_read, len_fore, len_odds, len_repl, len_told, len_sheet]))) 226 (getA (by simp only [List.length_append, List.length_cons, List.length_nil, len_field, len_read, len_fore, len_odds, len_repl, len_told, len_sheet])) (Or.inr ⟨rfl, rfl⟩) rfl (Nat.le_of_ble_eq_true rfl) (by decide) dX10_init_130 (fun H locs hcl hW => ?_)
  have hset : (fieldL (k + 1) ++ fieldL (k + 9) ++ readL (k + 17) ++ foreL (k + 29) ++ oddsL (k + 38) ++ replL (k + 122) ++ toldL (k + 207) ++ fieldL (k + 210) ++ fieldL (k + 218) ++ [.inr (5, 4, [])] ++ sheetL (k + 227) : List LD).set 225 (.inr (5, 4, [k + 227])) = fieldL (k + 1) ++ fieldL (k + 9) ++ readL (k + 17) ++ foreL (k + 29) ++ oddsL (k + 38) ++ replL (k + 122) ++ toldL (k + 207) ++ fieldL (k + 210) ++ fieldL (k + 218) ++ [.inr (5, 4, [k + 227])] ++ sheetL (k + 227) := by
    refine (setL (by simp only [List.length_append, List.length_cons, List.length_nil, len_field, len_read, len_fore, len_odds, len_repl, len_told, len_sheet]; omega)).trans (congrArg (fun z : List LD => z ++ sheetL (k + 227)) ?_)
    exact setA (by simp only [List.length_append, List.length_cons, List.length_nil, len_field, len_read, len_fore, len_odds, len_repl, len_told, len_sheet])
  replace hcl : CloL (L0 ++ (.inl (10, [k + 1 + 3, k + 9 + 3, k + 17 + 3, k + 29 + 3, k + 38 + 3, k + 122 + 3, k + 207 + 3, k + 210 + 3, k + 218 + 3, 0, k + 226 + 3, 0]) :: (fieldL (k + 1) ++ fieldL (k + 9) ++ readL (k + 17) ++ foreL (k + 29) ++ oddsL (k + 38) ++ replL (k + 122) ++ toldL (k + 207) ++ fieldL (k + 210) ++ fieldL (k + 218) ++ [.inr (5, 4, [k + 227])] ++ sheetL (k + 227)))) := by have z := hcl; rw [show (fieldL (k + 1) ++ fieldL (k + 9) ++ readL (k + 17) ++ foreL (k + 29) ++ oddsL (k + 38) ++ replL (k + 122) ++ toldL (k + 207) ++ fieldL (k + 210) ++ fieldL (k + 218) ++ [.inr (5, 4, [])] ++ sheetL (k + 227) : List LD).set 225 (.inr (5, 4, [] ++ [k + 227])) = fieldL (k + 1) ++ fieldL (k + 9) ++ readL (k + 17) ++ foreL (k + 29) ++ oddsL (k + 38) ++ replL (k + 122) ++ toldL (k + 207) ++ fieldL (k + 210) ++ fieldL (k + 218) ++ [.inr (5, 4, [k + 227])] ++ sheetL (k + 227) from hset] at z; exact z
  replace hW : Wo G ad21 CA 6 (L0 ++ (.inl (10, [k + 1 + 3, k + 9 + 3, k + 17 + 3, k + 29 + 3, k + 38 + 3, k + 122 + 3, k + 207 + 3, k + 210 + 3, k + 218 + 3, 0, k + 226 + 3, 0]) :: (fieldL (k + 1) ++ fieldL (k + 9) ++ readL (k + 17) ++ foreL (k + 29) ++ oddsL (k + 38) ++ replL (k + 122) ++ toldL (k + 207) ++ fieldL (k + 210) ++ fieldL (k + 218) ++ [.inr (5, 4, [k + 227])] ++ sheetL (k + 227)))) (AG ad (L0 ++ (.inl (10, [2, 2, 2, 2, 2, 2, 2, 2, 2, 0, 2, 0]) :: [])) s.heap.size) s M21 H locs := by have z := hW; rw [show (fieldL (k + 1) ++ fieldL (k + 9) ++ readL (k + 17) ++ foreL (k + 29) ++ oddsL (k + 38) ++ replL (k + 122) ++ toldL (k + 207) ++ fieldL (k + 210) ++ fieldL (k + 218) ++ [.inr (5, 4, [])] ++ sheetL (k + 227) : List LD).set 225 (.inr (5, 4, [] ++ [k + 227])) = fieldL (k + 1) ++ fieldL (k + 9) ++ readL (k + 17) ++ foreL (k + 29) ++ oddsL (k + 38) ++ replL (k + 122) ++ toldL (k + 207) ++ fieldL (k + 210) ++ fieldL (k + 218) ++ [.inr (5, 4, [k + 227])] ++ sheetL (k + 227) from hset] at z; exact z
  refine rw_iinc (lv' := [(1, .int (iN 1)), (0, .ref (ad21 k))]) hx hb dX10_init_131 hl (k := 0) rfl (by decide) rfl (fun ls hl => ?_)
  refine lv_goto (tgt := 113) hx hb dX10_init_134 (by decide) ?_
  refine lv_iload_n hx hb dX10_init_113 rfl (lv_at hl 0 rfl) ?_
  refine rw_iconst hx hb dX10_init_114 ?_
  refine rw_icmp_ge (tgt := 137) hx hb dX10_init_115 (by decide) (by decide) (by decide) (fun c => absurd c (by decide)) (fun _ => ?_)
  refine lv_aload_n hx hb dX10_init_118 rfl (lv_at hl 1 rfl) ?_
  refine rw_getR hx hb hts hown hW k (get_o0 hk) 10 (k + 226) rfl fX10_62 dX10_init_119 ?_
  refine lv_iload_n hx hb dX10_init_122 rfl (lv_at hl 0 rfl) ?_
  refine nwO (n := k + 229) hx hb hts hown hA hk (by simp only [List.length_append, List.length_cons, List.length_nil, len_field, len_read, len_fore, len_odds, len_repl, len_told, len_sheet]) hW hcl nX10_60 (Nat.le_of_ble_eq_true rfl) (Nat.le_of_ble_eq_true rfl) dX10_init_123 (fun ad22 H hx22 hcl hW => ?_)
  rw [← hx22 k (by omega)] at hl
  rw [← hx22 (k + 226) (by omega)]
  have hc22 : ∀ j, j < k + 1 → ad22 j = ad j := fun j hj => (hx22 j (by omega)).trans (hc21 j hj)
  obtain ⟨M22, hM22⟩ : ∃ z, z = updR M21 (k + 229) zr := ⟨_, rfl⟩
  rw [← hM22] at hW
  have hsM22 : ∀ q, q < k + 229 → M22 q = M21 q := fun q hq => by rw [hM22]; exact updR_ne (by omega)
  have hzM22 : M22 (k + 229) = zr := by rw [hM22]; exact updR_eq
  refine lv_dup hx hb dX10_init_126 rfl ?_
  refine rw_initG hx hb hml hts hown hW hA hAO (k + 229) (c_X5_init (l := l) (G := G) (ad := ad22) (CA := CA) (L0 ++ (.inl (10, [k + 1 + 3, k + 9 + 3, k + 17 + 3, k + 29 + 3, k + 38 + 3, k + 122 + 3, k + 207 + 3, k + 210 + 3, k + 218 + 3, 0, k + 226 + 3, 0]) :: (fieldL (k + 1) ++ fieldL (k + 9) ++ readL (k + 17) ++ foreL (k + 29) ++ oddsL (k + 38) ++ replL (k + 122) ++ toldL (k + 207) ++ fieldL (k + 210) ++ fieldL (k + 218) ++ [.inr (5, 4, [k + 227])] ++ sheetL (k + 227)))) (L0 ++ (.inl (10, [k + 1 + 3, k + 9 + 3, k + 17 + 3, k + 29 + 3, k + 38 + 3, k + 122 + 3, k + 207 + 3, k + 210 + 3, k + 218 + 3, 0, k + 226 + 3, 0]) :: (fieldL (k + 1) ++ fieldL (k + 9) ++ readL (k + 17) ++ foreL (k + 29) ++ oddsL (k + 38) ++ replL (k + 122) ++ toldL (k + 207) ++ fieldL (k + 210) ++ fieldL (k + 218) ++ [.inr (5, 4, [k + 227])] ++ sheetL (k + 227) ++ [.inl (5, [0, 0, 2])]))) (L0 ++ (.inl (10, [k + 1 + 3, k + 9 + 3, k + 17 + 3, k + 29 + 3, k + 38 + 3, k + 122 + 3, k + 207 + 3, k + 210 + 3, k + 218 + 3, 0, k + 226 + 3, 0]) :: (fieldL (k + 1) ++ fieldL (k + 9) ++ readL (k + 17) ++ foreL (k + 29) ++ oddsL (k + 38) ++ replL (k + 122) ++ toldL (k + 207) ++ fieldL (k + 210) ++ fieldL (k + 218) ++ [.inr (5, 4, [k + 227])] ++ sheetL (k + 227) ++ sheetL (k + 229)))) (k + 229) (by rw [len_oT hk]; simp only [List.length_append, List.length_cons, List.length_nil, len_field, len_read, len_fore, len_odds, len_repl, len_told, len_sheet]) app_oT.symm app_oT.symm hcl M22 _ hzM22) iX10_66 ⟨Nat.le_of_ble_eq_true rfl, Nat.le_of_ble_eq_true rfl⟩ ⟨Nat.le_of_ble_eq_true rfl, Nat.le_of_ble_eq_true rfl⟩ hl.1 (Nat.le_of_ble_eq_true rfl) dX10_init_127 (fun ad23 M23 H locs hx0 hp hW _ _ => ?_)
  have hx23 : ∀ j, j < k + 230 → ad23 j = ad22 j := fun j hj => hx0 j (by rw [len_oT hk]; simp only [List.length_append, List.length_cons, List.length_nil, len_field, len_read, len_fore, len_odds, len_repl, len_told, len_sheet]; omega)
  rw [← hx23 k (by omega)] at hl
  rw [← hx23 (k + 226) (by omega), ← hx23 (k + 229) (by omega)]
  have hc23 : ∀ j, j < k + 1 → ad23 j = ad j := fun j hj => (hx23 j (by omega)).trans (hc22 j hj)
  obtain ⟨hcl, hpM23⟩ := hp
  have hsM23 : ∀ q, q < k + 229 → M23 q = M22 q := fun q hq => hpM23.1 q (by omega)
  refine nwS hx hb hk hW hcl 225 5 (getL (getL (getA (by simp only [List.length_append, List.length_cons, List.length_nil, len_field, len_read, len_fore, len_odds, len_repl, len_told, len_sheet])))) 228 (getA (by simp only [List.length_append, List.length_cons, List.length_nil, len_field, len_read, len_fore, len_odds, len_repl, len_told, len_sheet])) (Or.inr ⟨rfl, rfl⟩) rfl (Nat.le_of_ble_eq_true rfl) (by decide) dX10_init_130 (fun H locs hcl hW => ?_)
  have hset : (fieldL (k + 1) ++ fieldL (k + 9) ++ readL (k + 17) ++ foreL (k + 29) ++ oddsL (k + 38) ++ replL (k + 122) ++ toldL (k + 207) ++ fieldL (k + 210) ++ fieldL (k + 218) ++ [.inr (5, 4, [k + 227])] ++ sheetL (k + 227) ++ sheetL (k + 229) : List LD).set 225 (.inr (5, 4, [k + 227, k + 229])) = fieldL (k + 1) ++ fieldL (k + 9) ++ readL (k + 17) ++ foreL (k + 29) ++ oddsL (k + 38) ++ replL (k + 122) ++ toldL (k + 207) ++ fieldL (k + 210) ++ fieldL (k + 218) ++ [.inr (5, 4, [k + 227, k + 229])] ++ sheetL (k + 227) ++ sheetL (k + 229) := by
    refine (setL (by simp only [List.length_append, List.length_cons, List.length_nil, len_field, len_read, len_fore, len_odds, len_repl, len_told, len_sheet]; omega)).trans (congrArg (fun z : List LD => z ++ sheetL (k + 229)) ?_)
    refine (setL (by simp only [List.length_append, List.length_cons, List.length_nil, len_field, len_read, len_fore, len_odds, len_repl, len_told, len_sheet]; omega)).trans (congrArg (fun z : List LD => z ++ sheetL (k + 227)) ?_)
    exact setA (by simp only [List.length_append, List.length_cons, List.length_nil, len_field, len_read, len_fore, len_odds, len_repl, len_told, len_sheet])
  replace hcl : CloL (L0 ++ (.inl (10, [k + 1 + 3, k + 9 + 3, k + 17 + 3, k + 29 + 3, k + 38 + 3, k + 122 + 3, k + 207 + 3, k + 210 + 3, k + 218 + 3, 0, k + 226 + 3, 0]) :: (fieldL (k + 1) ++ fieldL (k + 9) ++ readL (k + 17) ++ foreL (k + 29) ++ oddsL (k + 38) ++ replL (k + 122) ++ toldL (k + 207) ++ fieldL (k + 210) ++ fieldL (k + 218) ++ [.inr (5, 4, [k + 227, k + 229])] ++ sheetL (k + 227) ++ sheetL (k + 229)))) := by have z := hcl; rw [show (fieldL (k + 1) ++ fieldL (k + 9) ++ readL (k + 17) ++ foreL (k + 29) ++ oddsL (k + 38) ++ replL (k + 122) ++ toldL (k + 207) ++ fieldL (k + 210) ++ fieldL (k + 218) ++ [.inr (5, 4, [k + 227])] ++ sheetL (k + 227) ++ sheetL (k + 229) : List LD).set 225 (.inr (5, 4, [k + 227] ++ [k + 229])) = fieldL (k + 1) ++ fieldL (k + 9) ++ readL (k + 17) ++ foreL (k + 29) ++ oddsL (k + 38) ++ replL (k + 122) ++ toldL (k + 207) ++ fieldL (k + 210) ++ fieldL (k + 218) ++ [.inr (5, 4, [k + 227, k + 229])] ++ sheetL (k + 227) ++ sheetL (k + 229) from hset] at z; exact z
  replace hW : Wo G ad23 CA 6 (L0 ++ (.inl (10, [k + 1 + 3, k + 9 + 3, k + 17 + 3, k + 29 + 3, k + 38 + 3, k + 122 + 3, k + 207 + 3, k + 210 + 3, k + 218 + 3, 0, k + 226 + 3, 0]) :: (fieldL (k + 1) ++ fieldL (k + 9) ++ readL (k + 17) ++ foreL (k + 29) ++ oddsL (k + 38) ++ replL (k + 122) ++ toldL (k + 207) ++ fieldL (k + 210) ++ fieldL (k + 218) ++ [.inr (5, 4, [k + 227, k + 229])] ++ sheetL (k + 227) ++ sheetL (k + 229)))) (AG ad (L0 ++ (.inl (10, [2, 2, 2, 2, 2, 2, 2, 2, 2, 0, 2, 0]) :: [])) s.heap.size) s M23 H locs := by have z := hW; rw [show (fieldL (k + 1) ++ fieldL (k + 9) ++ readL (k + 17) ++ foreL (k + 29) ++ oddsL (k + 38) ++ replL (k + 122) ++ toldL (k + 207) ++ fieldL (k + 210) ++ fieldL (k + 218) ++ [.inr (5, 4, [k + 227])] ++ sheetL (k + 227) ++ sheetL (k + 229) : List LD).set 225 (.inr (5, 4, [k + 227] ++ [k + 229])) = fieldL (k + 1) ++ fieldL (k + 9) ++ readL (k + 17) ++ foreL (k + 29) ++ oddsL (k + 38) ++ replL (k + 122) ++ toldL (k + 207) ++ fieldL (k + 210) ++ fieldL (k + 218) ++ [.inr (5, 4, [k + 227, k + 229])] ++ sheetL (k + 227) ++ sheetL (k + 229) from hset] at z; exact z
  refine rw_iinc (lv' := [(1, .int (iN 2)), (0, .ref (ad23 k))]) hx hb dX10_init_131 hl (k := 0) rfl (by decide) rfl (fun ls hl => ?_)
  refine lv_goto (tgt := 113) hx hb dX10_init_134 (by decide) ?_
  refine lv_iload_n hx hb dX10_init_113 rfl (lv_at hl 0 rfl) ?_
  refine rw_iconst hx hb dX10_init_114 ?_
  refine rw_icmp_ge (tgt := 137) hx hb dX10_init_115 (by decide) (by decide) (by decide) (fun c => absurd c (by decide)) (fun _ => ?_)
  refine lv_aload_n hx hb dX10_init_118 rfl (lv_at hl 1 rfl) ?_
  refine rw_getR hx hb hts hown hW k (get_o0 hk) 10 (k + 226) rfl fX10_62 dX10_init_119 ?_
  refine lv_iload_n hx hb dX10_init_122 rfl (lv_at hl 0 rfl) ?_
  refine nwO (n := k + 231) hx hb hts hown hA hk (by simp only [List.length_append, List.length_cons, List.length_nil, len_field, len_read, len_fore, len_odds, len_repl, len_told, len_sheet]) hW hcl nX10_60 (Nat.le_of_ble_eq_true rfl) (Nat.le_of_ble_eq_true rfl) dX10_init_123 (fun ad24 H hx24 hcl hW => ?_)
  rw [← hx24 k (by omega)] at hl
  rw [← hx24 (k + 226) (by omega)]
  have hc24 : ∀ j, j < k + 1 → ad24 j = ad j := fun j hj => (hx24 j (by omega)).trans (hc23 j hj)
  obtain ⟨M24, hM24⟩ : ∃ z, z = updR M23 (k + 231) zr := ⟨_, rfl⟩
  rw [← hM24] at hW
  have hsM24 : ∀ q, q < k + 231 → M24 q = M23 q := fun q hq => by rw [hM24]; exact updR_ne (by omega)
  have hzM24 : M24 (k + 231) = zr := by rw [hM24]; exact updR_eq
  refine lv_dup hx hb dX10_init_126 rfl ?_
  refine rw_initG hx hb hml hts hown hW hA hAO (k + 231) (c_X5_init (l := l) (G := G) (ad := ad24) (CA := CA) (L0 ++ (.inl (10, [k + 1 + 3, k + 9 + 3, k + 17 + 3, k + 29 + 3, k + 38 + 3, k + 122 + 3, k + 207 + 3, k + 210 + 3, k + 218 + 3, 0, k + 226 + 3, 0]) :: (fieldL (k + 1) ++ fieldL (k + 9) ++ readL (k + 17) ++ foreL (k + 29) ++ oddsL (k + 38) ++ replL (k + 122) ++ toldL (k + 207) ++ fieldL (k + 210) ++ fieldL (k + 218) ++ [.inr (5, 4, [k + 227, k + 229])] ++ sheetL (k + 227) ++ sheetL (k + 229)))) (L0 ++ (.inl (10, [k + 1 + 3, k + 9 + 3, k + 17 + 3, k + 29 + 3, k + 38 + 3, k + 122 + 3, k + 207 + 3, k + 210 + 3, k + 218 + 3, 0, k + 226 + 3, 0]) :: (fieldL (k + 1) ++ fieldL (k + 9) ++ readL (k + 17) ++ foreL (k + 29) ++ oddsL (k + 38) ++ replL (k + 122) ++ toldL (k + 207) ++ fieldL (k + 210) ++ fieldL (k + 218) ++ [.inr (5, 4, [k + 227, k + 229])] ++ sheetL (k + 227) ++ sheetL (k + 229) ++ [.inl (5, [0, 0, 2])]))) (L0 ++ (.inl (10, [k + 1 + 3, k + 9 + 3, k + 17 + 3, k + 29 + 3, k + 38 + 3, k + 122 + 3, k + 207 + 3, k + 210 + 3, k + 218 + 3, 0, k + 226 + 3, 0]) :: (fieldL (k + 1) ++ fieldL (k + 9) ++ readL (k + 17) ++ foreL (k + 29) ++ oddsL (k + 38) ++ replL (k + 122) ++ toldL (k + 207) ++ fieldL (k + 210) ++ fieldL (k + 218) ++ [.inr (5, 4, [k + 227, k + 229])] ++ sheetL (k + 227) ++ sheetL (k + 229) ++ sheetL (k + 231)))) (k + 231) (by rw [len_oT hk]; simp only [List.length_append, List.length_cons, List.length_nil, len_field, len_read, len_fore, len_odds, len_repl, len_told, len_sheet]) app_oT.symm app_oT.symm hcl M24 _ hzM24) iX10_66 ⟨Nat.le_of_ble_eq_true rfl, Nat.le_of_ble_eq_true rfl⟩ ⟨Nat.le_of_ble_eq_true rfl, Nat.le_of_ble_eq_true rfl⟩ hl.1 (Nat.le_of_ble_eq_true rfl) dX10_init_127 (fun ad25 M25 H locs hx0 hp hW _ _ => ?_)
  have hx25 : ∀ j, j < k + 232 → ad25 j = ad24 j := fun j hj => hx0 j (by rw [len_oT hk]; simp only [List.length_append, List.length_cons, List.length_nil, len_field, len_read, len_fore, len_odds, len_repl, len_told, len_sheet]; omega)
  rw [← hx25 k (by omega)] at hl
  rw [← hx25 (k + 226) (by omega), ← hx25 (k + 231) (by omega)]
  have hc25 : ∀ j, j < k + 1 → ad25 j = ad j := fun j hj => (hx25 j (by omega)).trans (hc24 j hj)
  obtain ⟨hcl, hpM25⟩ := hp
  have hsM25 : ∀ q, q < k + 231 → M25 q = M24 q := fun q hq => hpM25.1 q (by omega)
  refine nwS hx hb hk hW hcl 225 5 (getL (getL (getL (getA (by simp only [List.length_append, List.length_cons, List.length_nil, len_field, len_read, len_fore, len_odds, len_repl, len_told, len_sheet]))))) 230 (getA (by simp only [List.length_append, List.length_cons, List.length_nil, len_field, len_read, len_fore, len_odds, len_repl, len_told, len_sheet])) (Or.inr ⟨rfl, rfl⟩) rfl (Nat.le_of_ble_eq_true rfl) (by decide) dX10_init_130 (fun H locs hcl hW => ?_)
  have hset : (fieldL (k + 1) ++ fieldL (k + 9) ++ readL (k + 17) ++ foreL (k + 29) ++ oddsL (k + 38) ++ replL (k + 122) ++ toldL (k + 207) ++ fieldL (k + 210) ++ fieldL (k + 218) ++ [.inr (5, 4, [k + 227, k + 229])] ++ sheetL (k + 227) ++ sheetL (k + 229) ++ sheetL (k + 231) : List LD).set 225 (.inr (5, 4, [k + 227, k + 229, k + 231])) = fieldL (k + 1) ++ fieldL (k + 9) ++ readL (k + 17) ++ foreL (k + 29) ++ oddsL (k + 38) ++ replL (k + 122) ++ toldL (k + 207) ++ fieldL (k + 210) ++ fieldL (k + 218) ++ [.inr (5, 4, [k + 227, k + 229, k + 231])] ++ sheetL (k + 227) ++ sheetL (k + 229) ++ sheetL (k + 231) := by
    refine (setL (by simp only [List.length_append, List.length_cons, List.length_nil, len_field, len_read, len_fore, len_odds, len_repl, len_told, len_sheet]; omega)).trans (congrArg (fun z : List LD => z ++ sheetL (k + 231)) ?_)
    refine (setL (by simp only [List.length_append, List.length_cons, List.length_nil, len_field, len_read, len_fore, len_odds, len_repl, len_told, len_sheet]; omega)).trans (congrArg (fun z : List LD => z ++ sheetL (k + 229)) ?_)
    refine (setL (by simp only [List.length_append, List.length_cons, List.length_nil, len_field, len_read, len_fore, len_odds, len_repl, len_told, len_sheet]; omega)).trans (congrArg (fun z : List LD => z ++ sheetL (k + 227)) ?_)
    exact setA (by simp only [List.length_append, List.length_cons, List.length_nil, len_field, len_read, len_fore, len_odds, len_repl, len_told, len_sheet])
  replace hcl : CloL (L0 ++ (.inl (10, [k + 1 + 3, k + 9 + 3, k + 17 + 3, k + 29 + 3, k + 38 + 3, k + 122 + 3, k + 207 + 3, k + 210 + 3, k + 218 + 3, 0, k + 226 + 3, 0]) :: (fieldL (k + 1) ++ fieldL (k + 9) ++ readL (k + 17) ++ foreL (k + 29) ++ oddsL (k + 38) ++ replL (k + 122) ++ toldL (k + 207) ++ fieldL (k + 210) ++ fieldL (k + 218) ++ [.inr (5, 4, [k + 227, k + 229, k + 231])] ++ sheetL (k + 227) ++ sheetL (k + 229) ++ sheetL (k + 231)))) := by have z := hcl; rw [show (fieldL (k + 1) ++ fieldL (k + 9) ++ readL (k + 17) ++ foreL (k + 29) ++ oddsL (k + 38) ++ replL (k + 122) ++ toldL (k + 207) ++ fieldL (k + 210) ++ fieldL (k + 218) ++ [.inr (5, 4, [k + 227, k + 229])] ++ sheetL (k + 227) ++ sheetL (k + 229) ++ sheetL (k + 231) : List LD).set 225 (.inr (5, 4, [k + 227, k + 229] ++ [k + 231])) = fieldL (k + 1) ++ fieldL (k + 9) ++ readL (k + 17) ++ foreL (k + 29) ++ oddsL (k + 38) ++ replL (k + 122) ++ toldL (k + 207) ++ fieldL (k + 210) ++ fieldL (k + 218) ++ [.inr (5, 4, [k + 227, k + 229, k + 231])] ++ sheetL (k + 227) ++ sheetL (k + 229) ++ sheetL (k + 231) from hset] at z; exact z
  replace hW : Wo G ad25 CA 6 (L0 ++ (.inl (10, [k + 1 + 3, k + 9 + 3, k + 17 + 3, k + 29 + 3, k + 38 + 3, k + 122 + 3, k + 207 + 3, k + 210 + 3, k + 218 + 3, 0, k + 226 + 3, 0]) :: (fieldL (k + 1) ++ fieldL (k + 9) ++ readL (k + 17) ++ foreL (k + 29) ++ oddsL (k + 38) ++ replL (k + 122) ++ toldL (k + 207) ++ fieldL (k + 210) ++ fieldL (k + 218) ++ [.inr (5, 4, [k + 227, k + 229, k + 231])] ++ sheetL (k + 227) ++ sheetL (k + 229) ++ sheetL (k + 231)))) (AG ad (L0 ++ (.inl (10, [2, 2, 2, 2, 2, 2, 2, 2, 2, 0, 2, 0]) :: [])) s.heap.size) s M25 H locs := by have z := hW; rw [show (fieldL (k + 1) ++ fieldL (k + 9) ++ readL (k + 17) ++ foreL (k + 29) ++ oddsL (k + 38) ++ replL (k + 122) ++ toldL (k + 207) ++ fieldL (k + 210) ++ fieldL (k + 218) ++ [.inr (5, 4, [k + 227, k + 229])] ++ sheetL (k + 227) ++ sheetL (k + 229) ++ sheetL (k + 231) : List LD).set 225 (.inr (5, 4, [k + 227, k + 229] ++ [k + 231])) = fieldL (k + 1) ++ fieldL (k + 9) ++ readL (k + 17) ++ foreL (k + 29) ++ oddsL (k + 38) ++ replL (k + 122) ++ toldL (k + 207) ++ fieldL (k + 210) ++ fieldL (k + 218) ++ [.inr (5, 4, [k + 227, k + 229, k + 231])] ++ sheetL (k + 227) ++ sheetL (k + 229) ++ sheetL (k + 231) from hset] at z; exact z
  refine rw_iinc (lv' := [(1, .int (iN 3)), (0, .ref (ad25 k))]) hx hb dX10_init_131 hl (k := 0) rfl (by decide) rfl (fun ls hl => ?_)
  refine lv_goto (tgt := 113) hx hb dX10_init_134 (by decide) ?_
  refine lv_iload_n hx hb dX10_init_113 rfl (lv_at hl 0 rfl) ?_
  refine rw_iconst hx hb dX10_init_114 ?_
  refine rw_icmp_ge (tgt := 137) hx hb dX10_init_115 (by decide) (by decide) (by decide) (fun c => absurd c (by decide)) (fun _ => ?_)
  refine lv_aload_n hx hb dX10_init_118 rfl (lv_at hl 1 rfl) ?_
  refine rw_getR hx hb hts hown hW k (get_o0 hk) 10 (k + 226) rfl fX10_62 dX10_init_119 ?_
  refine lv_iload_n hx hb dX10_init_122 rfl (lv_at hl 0 rfl) ?_
  refine nwO (n := k + 233) hx hb hts hown hA hk (by simp only [List.length_append, List.length_cons, List.length_nil, len_field, len_read, len_fore, len_odds, len_repl, len_told, len_sheet]) hW hcl nX10_60 (Nat.le_of_ble_eq_true rfl) (Nat.le_of_ble_eq_true rfl) dX10_init_123 (fun ad26 H hx26 hcl hW => ?_)
  rw [← hx26 k (by omega)] at hl
  rw [← hx26 (k + 226) (by omega)]
  have hc26 : ∀ j, j < k + 1 → ad26 j = ad j := fun j hj => (hx26 j (by omega)).trans (hc25 j hj)
  obtain ⟨M26, hM26⟩ : ∃ z, z = updR M25 (k + 233) zr := ⟨_, rfl⟩
  rw [← hM26] at hW
  have hsM26 : ∀ q, q < k + 233 → M26 q = M25 q := fun q hq => by rw [hM26]; exact updR_ne (by omega)
  have hzM26 : M26 (k + 233) = zr := by rw [hM26]; exact updR_eq
  refine lv_dup hx hb dX10_init_126 rfl ?_
  refine rw_initG hx hb hml hts hown hW hA hAO (k + 233) (c_X5_init (l := l) (G := G) (ad := ad26) (CA := CA) (L0 ++ (.inl (10, [k + 1 + 3, k + 9 + 3, k + 17 + 3, k + 29 + 3, k + 38 + 3, k + 122 + 3, k + 207 + 3, k + 210 + 3, k + 218 + 3, 0, k + 226 + 3, 0]) :: (fieldL (k + 1) ++ fieldL (k + 9) ++ readL (k + 17) ++ foreL (k + 29) ++ oddsL (k + 38) ++ replL (k + 122) ++ toldL (k + 207) ++ fieldL (k + 210) ++ fieldL (k + 218) ++ [.inr (5, 4, [k + 227, k + 229, k + 231])] ++ sheetL (k + 227) ++ sheetL (k + 229) ++ sheetL (k + 231)))) (L0 ++ (.inl (10, [k + 1 + 3, k + 9 + 3, k + 17 + 3, k + 29 + 3, k + 38 + 3, k + 122 + 3, k + 207 + 3, k + 210 + 3, k + 218 + 3, 0, k + 226 + 3, 0]) :: (fieldL (k + 1) ++ fieldL (k + 9) ++ readL (k + 17) ++ foreL (k + 29) ++ oddsL (k + 38) ++ replL (k + 122) ++ toldL (k + 207) ++ fieldL (k + 210) ++ fieldL (k + 218) ++ [.inr (5, 4, [k + 227, k + 229, k + 231])] ++ sheetL (k + 227) ++ sheetL (k + 229) ++ sheetL (k + 231) ++ [.inl (5, [0, 0, 2])]))) (L0 ++ (.inl (10, [k + 1 + 3, k + 9 + 3, k + 17 + 3, k + 29 + 3, k + 38 + 3, k + 122 + 3, k + 207 + 3, k + 210 + 3, k + 218 + 3, 0, k + 226 + 3, 0]) :: (fieldL (k + 1) ++ fieldL (k + 9) ++ readL (k + 17) ++ foreL (k + 29) ++ oddsL (k + 38) ++ replL (k + 122) ++ toldL (k + 207) ++ fieldL (k + 210) ++ fieldL (k + 218) ++ [.inr (5, 4, [k + 227, k + 229, k + 231])] ++ sheetL (k + 227) ++ sheetL (k + 229) ++ sheetL (k + 231) ++ sheetL (k + 233)))) (k + 233) (by rw [len_oT hk]; simp only [List.length_append, List.length_cons, List.length_nil, len_field, len_read, len_fore, len_odds, len_repl, len_told, len_sheet]) app_oT.symm app_oT.symm hcl M26 _ hzM26) iX10_66 ⟨Nat.le_of_ble_eq_true rfl, Nat.le_of_ble_eq_true rfl⟩ ⟨Nat.le_of_ble_eq_true rfl, Nat.le_of_ble_eq_true rfl⟩ hl.1 (Nat.le_of_ble_eq_true rfl) dX10_init_127 (fun ad27 M27 H locs hx0 hp hW _ _ => ?_)
  have hx27 : ∀ j, j < k + 234 → ad27 j = ad26 j := fun j hj => hx0 j (by rw [len_oT hk]; simp only [List.length_append, List.length_cons, List.length_nil, len_field, len_read, len_fore, len_odds, len_repl, len_told, len_sheet]; omega)
  rw [← hx27 k (by omega)] at hl
  rw [← hx27 (k + 226) (by omega), ← hx27 (k + 233) (by omega)]
  have hc27 : ∀ j, j < k + 1 → ad27 j = ad j := fun j hj => (hx27 j (by omega)).trans (hc26 j hj)
  obtain ⟨hcl, hpM27⟩ := hp
  have hsM27 : ∀ q, q < k + 233 → M27 q = M26 q := fun q hq => hpM27.1 q (by omega)
  refine nwS hx hb hk hW hcl 225 5 (getL (getL (getL (getL (getA (by simp only [List.length_append, List.length_cons, List.length_nil, len_field, len_read, len_fore, len_odds, len_repl, len_told, len_sheet])))))) 232 (getA (by simp only [List.length_append, List.length_cons, List.length_nil, len_field, len_read, len_fore, len_odds, len_repl, len_told, len_sheet])) (Or.inr ⟨rfl, rfl⟩) rfl (Nat.le_of_ble_eq_true rfl) (by decide) dX10_init_130 (fun H locs hcl hW => ?_)
  have hset : (fieldL (k + 1) ++ fieldL (k + 9) ++ readL (k + 17) ++ foreL (k + 29) ++ oddsL (k + 38) ++ replL (k + 122) ++ toldL (k + 207) ++ fieldL (k + 210) ++ fieldL (k + 218) ++ [.inr (5, 4, [k + 227, k + 229, k + 231])] ++ sheetL (k + 227) ++ sheetL (k + 229) ++ sheetL (k + 231) ++ sheetL (k + 233) : List LD).set 225 (.inr (5, 4, [k + 227, k + 229, k + 231, k + 233])) = fieldL (k + 1) ++ fieldL (k + 9) ++ readL (k + 17) ++ foreL (k + 29) ++ oddsL (k + 38) ++ replL (k + 122) ++ toldL (k + 207) ++ fieldL (k + 210) ++ fieldL (k + 218) ++ [.inr (5, 4, [k + 227, k + 229, k + 231, k + 233])] ++ sheetL (k + 227) ++ sheetL (k + 229) ++ sheetL (k + 231) ++ sheetL (k + 233) := by
    refine (setL (by simp only [List.length_append, List.length_cons, List.length_nil, len_field, len_read, len_fore, len_odds, len_repl, len_told, len_sheet]; omega)).trans (congrArg (fun z : List LD => z ++ sheetL (k + 233)) ?_)
    refine (setL (by simp only [List.length_append, List.length_cons, List.length_nil, len_field, len_read, len_fore, len_odds, len_repl, len_told, len_sheet]; omega)).trans (congrArg (fun z : List LD => z ++ sheetL (k + 231)) ?_)
    refine (setL (by simp only [List.length_append, List.length_cons, List.length_nil, len_field, len_read, len_fore, len_odds, len_repl, len_told, len_sheet]; omega)).trans (congrArg (fun z : List LD => z ++ sheetL (k + 229)) ?_)
    refine (setL (by simp only [List.length_append, List.length_cons, List.length_nil, len_field, len_read, len_fore, len_odds, len_repl, len_told, len_sheet]; omega)).trans (congrArg (fun z : List LD => z ++ sheetL (k + 227)) ?_)
    exact setA (by simp only [List.length_append, List.length_cons, List.length_nil, len_field, len_read, len_fore, len_odds, len_repl, len_told, len_sheet])
  replace hcl : CloL (L0 ++ (.inl (10, [k + 1 + 3, k + 9 + 3, k + 17 + 3, k + 29 + 3, k + 38 + 3, k + 122 + 3, k + 207 + 3, k + 210 + 3, k + 218 + 3, 0, k + 226 + 3, 0]) :: (fieldL (k + 1) ++ fieldL (k + 9) ++ readL (k + 17) ++ foreL (k + 29) ++ oddsL (k + 38) ++ replL (k + 122) ++ toldL (k + 207) ++ fieldL (k + 210) ++ fieldL (k + 218) ++ [.inr (5, 4, [k + 227, k + 229, k + 231, k + 233])] ++ sheetL (k + 227) ++ sheetL (k + 229) ++ sheetL (k + 231) ++ sheetL (k + 233)))) := by have z := hcl; rw [show (fieldL (k + 1) ++ fieldL (k + 9) ++ readL (k + 17) ++ foreL (k + 29) ++ oddsL (k + 38) ++ replL (k + 122) ++ toldL (k + 207) ++ fieldL (k + 210) ++ fieldL (k + 218) ++ [.inr (5, 4, [k + 227, k + 229, k + 231])] ++ sheetL (k + 227) ++ sheetL (k + 229) ++ sheetL (k + 231) ++ sheetL (k + 233) : List LD).set 225 (.inr (5, 4, [k + 227, k + 229, k + 231] ++ [k + 233])) = fieldL (k + 1) ++ fieldL (k + 9) ++ readL (k + 17) ++ foreL (k + 29) ++ oddsL (k + 38) ++ replL (k + 122) ++ toldL (k + 207) ++ fieldL (k + 210) ++ fieldL (k + 218) ++ [.inr (5, 4, [k + 227, k + 229, k + 231, k + 233])] ++ sheetL (k + 227) ++ sheetL (k + 229) ++ sheetL (k + 231) ++ sheetL (k + 233) from hset] at z; exact z
  replace hW : Wo G ad27 CA 6 (L0 ++ (.inl (10, [k + 1 + 3, k + 9 + 3, k + 17 + 3, k + 29 + 3, k + 38 + 3, k + 122 + 3, k + 207 + 3, k + 210 + 3, k + 218 + 3, 0, k + 226 + 3, 0]) :: (fieldL (k + 1) ++ fieldL (k + 9) ++ readL (k + 17) ++ foreL (k + 29) ++ oddsL (k + 38) ++ replL (k + 122) ++ toldL (k + 207) ++ fieldL (k + 210) ++ fieldL (k + 218) ++ [.inr (5, 4, [k + 227, k + 229, k + 231, k + 233])] ++ sheetL (k + 227) ++ sheetL (k + 229) ++ sheetL (k + 231) ++ sheetL (k + 233)))) (AG ad (L0 ++ (.inl (10, [2, 2, 2, 2, 2, 2, 2, 2, 2, 0, 2, 0]) :: [])) s.heap.size) s M27 H locs := by have z := hW; rw [show (fieldL (k + 1) ++ fieldL (k + 9) ++ readL (k + 17) ++ foreL (k + 29) ++ oddsL (k + 38) ++ replL (k + 122) ++ toldL (k + 207) ++ fieldL (k + 210) ++ fieldL (k + 218) ++ [.inr (5, 4, [k + 227, k + 229, k + 231])] ++ sheetL (k + 227) ++ sheetL (k + 229) ++ sheetL (k + 231) ++ sheetL (k + 233) : List LD).set 225 (.inr (5, 4, [k + 227, k + 229, k + 231] ++ [k + 233])) = fieldL (k + 1) ++ fieldL (k + 9) ++ readL (k + 17) ++ foreL (k + 29) ++ oddsL (k + 38) ++ replL (k + 122) ++ toldL (k + 207) ++ fieldL (k + 210) ++ fieldL (k + 218) ++ [.inr (5, 4, [k + 227, k + 229, k + 231, k + 233])] ++ sheetL (k + 227) ++ sheetL (k + 229) ++ sheetL (k + 231) ++ sheetL (k + 233) from hset] at z; exact z
  refine rw_iinc (lv' := [(1, .int (iN 4)), (0, .ref (ad27 k))]) hx hb dX10_init_131 hl (k := 0) rfl (by decide) rfl (fun ls hl => ?_)
  refine lv_goto (tgt := 113) hx hb dX10_init_134 (by decide) ?_
  refine lv_iload_n hx hb dX10_init_113 rfl (lv_at hl 0 rfl) ?_
  refine rw_iconst hx hb dX10_init_114 ?_
  refine rw_icmp_ge (tgt := 137) hx hb dX10_init_115 (by decide) (by decide) (by decide) (fun _ => ?_) (fun c => absurd (by decide) c)
  have hW : Wo G ad27 CA 6 (L0 ++ kegL k) (AG ad _ s.heap.size) s M27 H locs := hW
  have hcl : CloL (L0 ++ kegL k) := hcl
  refine rw_vretG hx hb hr hlocks hW (fun j hj => hc27 j (by rw [List.length_append, hk] at hj; exact hj)) (by rw [List.length_append, List.length_append]; exact Nat.add_le_add_left (by unfold kegL; rw [List.length_cons]; exact Nat.succ_le_succ (Nat.zero_le _)) _) dX10_init_137 ⟨hcl, ?_⟩
  refine ⟨fun q hq => by rw [hsM27 q (by omega), hsM26 q (by omega), hsM25 q (by omega), hsM24 q (by omega), hsM23 q (by omega), hsM22 q (by omega), hsM21 q (by omega), hsM20 q (by omega), hsM19 q (by omega), hsM18 q (by omega), hsM17 q (by omega), hsM16 q (by omega), hsM15 q (by omega), hsM14 q (by omega), hsM13 q (by omega), hsM12 q (by omega), hsM11 q (by omega), hsM10 q (by omega), hsM9 q (by omega), hsM8 q (by omega), hsM7 q (by omega), hsM6 q (by omega), hsM5 q (by omega), hsM4 q (by omega), hsM3 q (by omega), hsM2 q (by omega), hsM1 q (by omega)], ?_, ?_, ?_, ?_, ?_, ?_, ?_, ?_, ?_⟩
  · rw [fld_eq8 (M := M2) (fun q h1 h2 => by rw [hsM27 q (by omega), hsM26 q (by omega), hsM25 q (by omega), hsM24 q (by omega), hsM23 q (by omega), hsM22 q (by omega), hsM21 q (by omega), hsM20 q (by omega), hsM19 q (by omega), hsM18 q (by omega), hsM17 q (by omega), hsM16 q (by omega), hsM15 q (by omega), hsM14 q (by omega), hsM13 q (by omega), hsM12 q (by omega), hsM11 q (by omega), hsM10 q (by omega), hsM9 q (by omega), hsM8 q (by omega), hsM7 q (by omega), hsM6 q (by omega), hsM5 q (by omega), hsM4 q (by omega), hsM3 q (by omega)]), hpM2.1]
  · rw [hsM27 _ (by omega), hsM26 _ (by omega), hsM25 _ (by omega), hsM24 _ (by omega), hsM23 _ (by omega), hsM22 _ (by omega), hsM21 _ (by omega), hsM20 _ (by omega), hsM19 _ (by omega), hsM18 _ (by omega), hsM17 _ (by omega), hsM16 _ (by omega), hsM15 _ (by omega), hsM14 _ (by omega), hsM13 _ (by omega), hsM12 _ (by omega), hsM11 _ (by omega), hsM10 _ (by omega), hsM9 _ (by omega), hsM8 _ (by omega), hsM7 _ (by omega), hpM6.1 _ (by omega)]; exact hzM5
  · rw [hsM27 _ (by omega), hsM26 _ (by omega), hsM25 _ (by omega), hsM24 _ (by omega), hsM23 _ (by omega), hsM22 _ (by omega), hsM21 _ (by omega), hsM20 _ (by omega), hsM19 _ (by omega), hsM18 _ (by omega), hsM17 _ (by omega), hsM16 _ (by omega), hsM15 _ (by omega), hsM14 _ (by omega), hsM13 _ (by omega), hsM12 _ (by omega), hsM11 _ (by omega), hsM10 _ (by omega), hsM9 _ (by omega), hsM8 _ (by omega), hsM7 _ (by omega)]; exact hpM6.2.1
  · rw [hsM27 _ (by omega), hsM26 _ (by omega), hsM25 _ (by omega), hsM24 _ (by omega), hsM23 _ (by omega), hsM22 _ (by omega), hsM21 _ (by omega), hsM20 _ (by omega), hsM19 _ (by omega), hsM18 _ (by omega), hsM17 _ (by omega), hsM16 _ (by omega), hsM15 _ (by omega), hsM14 _ (by omega), hsM13 _ (by omega), hsM12 _ (by omega), hsM11 _ (by omega), hsM10 _ (by omega), hsM9 _ (by omega), hsM8 _ (by omega), hsM7 _ (by omega)]; exact hpM6.2.2
  · rw [hsM27 _ (by omega), hsM26 _ (by omega), hsM25 _ (by omega), hsM24 _ (by omega), hsM23 _ (by omega), hsM22 _ (by omega), hsM21 _ (by omega), hsM20 _ (by omega), hsM19 _ (by omega), hsM18 _ (by omega), hsM17 _ (by omega), hsM16 _ (by omega), hsM15 _ (by omega), hpM14 _ (by omega)]; exact hzM13
  · exact ⟨by rw [hsM27 _ (by omega), hsM26 _ (by omega), hsM25 _ (by omega), hsM24 _ (by omega), hsM23 _ (by omega), hsM22 _ (by omega), hpM21.2.1], by rw [hsM27 _ (by omega), hsM26 _ (by omega), hsM25 _ (by omega), hsM24 _ (by omega), hsM23 _ (by omega), hsM22 _ (by omega), hpM21.2.2.1], by rw [hsM27 _ (by omega), hsM26 _ (by omega), hsM25 _ (by omega), hsM24 _ (by omega), hsM23 _ (by omega), hsM22 _ (by omega), hpM21.2.2.2]⟩
  · exact ⟨by rw [hsM27 _ (by omega), hsM26 _ (by omega), hsM25 _ (by omega), hsM24 _ (by omega), hpM23.2.1], by rw [hsM27 _ (by omega), hsM26 _ (by omega), hsM25 _ (by omega), hsM24 _ (by omega), hpM23.2.2.1], by rw [hsM27 _ (by omega), hsM26 _ (by omega), hsM25 _ (by omega), hsM24 _ (by omega), hpM23.2.2.2]⟩
  · exact ⟨by rw [hsM27 _ (by omega), hsM26 _ (by omega), hpM25.2.1], by rw [hsM27 _ (by omega), hsM26 _ (by omega), hpM25.2.2.1], by rw [hsM27 _ (by omega), hsM26 _ (by omega), hpM25.2.2.2]⟩
  · exact ⟨by rw [hpM27.2.1], by rw [hpM27.2.2.1], by rw [hpM27.2.2.2]⟩
