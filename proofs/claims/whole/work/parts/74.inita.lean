abbrev P_X6_init (k : Nat) (M MM : Mem) : Prop := ∀ q, q ≤ k → MM q = M q
set_option maxRecDepth 100000 in
set_option maxHeartbeats 8000000 in
theorem c_X6_init {l : Launch} {G : va_G} {ad : Nat → Nat} {CA : Nat → ClassId} (L0 Ly Ly' : List LD) (k : Nat) (hk : L0.length = k) (hLy : Ly = L0 ++ [.inl (6, [0, 2, 0, 0, 0])]) (hLy' : Ly' = L0 ++ sideL k) (hcl : CloL Ly) (M : Mem) (sz : Nat)  : MtG l yX6_init cX6_init 1 1 1 5 12 G ad CA Ly Ly' [.ref (ad k)] M (fun MM => CloL Ly' ∧ P_X6_init k M MM) sz := by
  subst hLy hLy'
  refine MtG.of (by decide) (Nat.le_of_ble_eq_true rfl) (fun p e s m args below meth c hx hb hr hml hts hown hlocks hnm hAO hA hW ls hl => ?_)
  have hl : lv_has ls 1 [(0, .ref (ad k))] := hl
  have hcl : CloL (L0 ++ (.inl (6, [0, 2, 0, 0, 0]) :: [])) := hcl
  obtain ⟨H, hH⟩ : ∃ z, z = s.heap := ⟨_, rfl⟩
  obtain ⟨locs, hlo⟩ : ∃ z : List Loc, z = [] := ⟨_, rfl⟩
  rw [← hlo]
  have hW9 := hW
  rw [← hlo] at hW9
  clear hW
  have hW : Wo G ad CA 6 (L0 ++ (.inl (6, [0, 2, 0, 0, 0]) :: [])) (AG ad _ s.heap.size) s M s.heap locs := hW9
  show WfG l 1 1 5 12 G ad CA _ _ _ p e s m args below meth c s.heap locs 0 0 (F0 m 0 ls [])
  clear hW9
  have hc0 : ∀ j, j < k + 1 → ad j = ad j := fun _ _ => rfl
  refine lv_aload_n hx hb dX6_init_0 rfl (lv_at hl 0 rfl) ?_
  refine W.objInit hx hb hown (hts _ (wm_3 _ (List.mem_of_getElem? (i := 11) rfl))) (hts _ (wm_1 _ (List.mem_of_getElem? (i := 11) rfl))) (hts _ (wm_1 _ (List.mem_of_getElem? (i := 12) rfl))) rfl (by rw [hml]; exact hl.1) rfl dX6_init_1 (Nat.le_of_ble_eq_true rfl) (Nat.le_of_ble_eq_true rfl) ?_
  refine W.eq (g2 := F0 m 4 ls []) rfl ?_
  refine lv_aload_n hx hb dX6_init_4 rfl (lv_at hl 0 rfl) ?_
  refine rw_iconst hx hb dX6_init_5 ?_
  refine nwA (n := k + 1) hx hb hts hA hk rfl hW hcl 0 (wm_3 _ (List.mem_of_getElem? (i := 0) rfl)) (Or.inl ⟨rfl, rfl⟩) (N := 5) rfl (by decide) (Nat.le_of_ble_eq_true rfl) (Nat.le_of_ble_eq_true rfl) dX6_init_6 (fun ad1 H hx1 hcl hW => ?_)
  rw [← hx1 k (by omega)] at hl
  rw [← hx1 k (by omega)]
  have hc1 : ∀ j, j < k + 1 → ad1 j = ad j := fun j hj => (hx1 j (by omega)).trans (hc0 j hj)
  obtain ⟨M1, hM1⟩ : ∃ z, z = updR M (k + 1) zr := ⟨_, rfl⟩
  rw [← hM1] at hW
  have hsM1 : ∀ q, q < k + 1 → M1 q = M q := fun q hq => by rw [hM1]; exact updR_ne (by omega)
  refine nwP hx hb hts hown hnm hk hW hcl 1 rfl (k + 1) (by show _ < k + (1 + 1); omega) qX6_9 (fun _ => ⟨rfl, rfl⟩) dX6_init_8 (fun H locs hcl hW => ?_)
  have hcl : CloL (L0 ++ (.inl (6, [0, k + 1 + 3, 0, 0, 0]) :: ([.inr (0, 5, [])]))) := hcl
  have hW : Wo G ad1 CA 6 (L0 ++ (.inl (6, [0, k + 1 + 3, 0, 0, 0]) :: ([.inr (0, 5, [])]))) (AG ad _ s.heap.size) s M1 H locs := hW
  have hW : Wo G ad1 CA 6 (L0 ++ sideL k) (AG ad _ s.heap.size) s M1 H locs := hW
  have hcl : CloL (L0 ++ sideL k) := hcl
  refine rw_vretG hx hb hr hlocks hW (fun j hj => hc1 j (by rw [List.length_append, hk] at hj; exact hj)) (by rw [List.length_append, List.length_append]; exact Nat.add_le_add_left (Nat.le_of_ble_eq_true rfl) _) dX6_init_11 ⟨hcl, ?_⟩
  exact fun q hq => by rw [hsM1 q (by omega)]
abbrev P_X0_init (k : Nat) (M MM : Mem) : Prop := fld MM k = clearF ∧ ∀ q, q < k → MM q = M q
set_option maxRecDepth 100000 in
set_option maxHeartbeats 8000000 in
theorem c_X0_init {l : Launch} {G : va_G} {ad : Nat → Nat} {CA : Nat → ClassId} (L0 Ly Ly' : List LD) (k : Nat) (hk : L0.length = k) (hLy : Ly = L0 ++ [.inl (0, [0, 0, 0, 0, 0, 2, 2, 2, 2, 2])]) (hLy' : Ly' = L0 ++ fieldL k) (hcl : CloL Ly) (M : Mem) (sz : Nat)  : MtG l yX0_init cX0_init 1 3 7 47 200 G ad CA Ly Ly' [.ref (ad k)] M (fun MM => CloL Ly' ∧ P_X0_init k M MM) sz := by
  subst hLy hLy'
  refine MtG.of (by decide) (Nat.le_of_ble_eq_true rfl) (fun p e s m args below meth c hx hb hr hml hts hown hlocks hnm hAO hA hW ls hl => ?_)
  have hl : lv_has ls 1 [(0, .ref (ad k))] := hl
  have hcl : CloL (L0 ++ (.inl (0, [0, 0, 0, 0, 0, 2, 2, 2, 2, 2]) :: [])) := hcl
  obtain ⟨H, hH⟩ : ∃ z, z = s.heap := ⟨_, rfl⟩
  obtain ⟨locs, hlo⟩ : ∃ z : List Loc, z = [] := ⟨_, rfl⟩
  rw [← hlo]
  have hW9 := hW
  rw [← hlo] at hW9
  clear hW
  have hW : Wo G ad CA 6 (L0 ++ (.inl (0, [0, 0, 0, 0, 0, 2, 2, 2, 2, 2]) :: [])) (AG ad _ s.heap.size) s M s.heap locs := hW9
  show WfG l 3 7 47 200 G ad CA _ _ _ p e s m args below meth c s.heap locs 0 0 (F0 m 0 ls [])
  clear hW9
  have hc0 : ∀ j, j < k + 1 → ad j = ad j := fun _ _ => rfl
  refine lv_aload_n hx hb dX0_init_0 rfl (lv_at hl 0 rfl) ?_
  refine W.objInit hx hb hown (hts _ (wm_2 _ (List.mem_of_getElem? (i := 23) rfl))) (hts _ (wm_1 _ (List.mem_of_getElem? (i := 11) rfl))) (hts _ (wm_1 _ (List.mem_of_getElem? (i := 12) rfl))) rfl (by rw [hml]; exact hl.1) rfl dX0_init_1 (Nat.le_of_ble_eq_true rfl) (Nat.le_of_ble_eq_true rfl) ?_
  refine W.eq (g2 := F0 m 4 ls []) rfl ?_
  refine lv_aload_n hx hb dX0_init_4 rfl (lv_at hl 0 rfl) ?_
  refine rw_bipush hx hb dX0_init_5 (by decide) ?_
  refine nwA (n := k + 1) hx hb hts hA hk rfl hW hcl 0 (wm_3 _ (List.mem_of_getElem? (i := 0) rfl)) (Or.inl ⟨rfl, rfl⟩) (N := 9) rfl (by decide) (Nat.le_of_ble_eq_true rfl) (Nat.le_of_ble_eq_true rfl) dX0_init_7 (fun ad1 H hx1 hcl hW => ?_)
  rw [← hx1 k (by omega)] at hl
  rw [← hx1 k (by omega)]
  have hc1 : ∀ j, j < k + 1 → ad1 j = ad j := fun j hj => (hx1 j (by omega)).trans (hc0 j hj)
  obtain ⟨M1, hM1⟩ : ∃ z, z = updR M (k + 1) zr := ⟨_, rfl⟩
  rw [← hM1] at hW
  have hsM1 : ∀ q, q < k + 1 → M1 q = M q := fun q hq => by rw [hM1]; exact updR_ne (by omega)
  refine nwP hx hb hts hown hnm hk hW hcl 5 rfl (k + 1) (by show _ < k + (1 + 1); omega) qX0_9 (fun _ => ⟨rfl, rfl⟩) dX0_init_9 (fun H locs hcl hW => ?_)
  have hcl : CloL (L0 ++ (.inl (0, [0, 0, 0, 0, 0, k + 1 + 3, 2, 2, 2, 2]) :: ([.inr (0, 9, [])]))) := hcl
  have hW : Wo G ad1 CA 6 (L0 ++ (.inl (0, [0, 0, 0, 0, 0, k + 1 + 3, 2, 2, 2, 2]) :: ([.inr (0, 9, [])]))) (AG ad _ s.heap.size) s M1 H locs := hW
  refine lv_aload_n hx hb dX0_init_12 rfl (lv_at hl 0 rfl) ?_
  refine rw_bipush hx hb dX0_init_13 (by decide) ?_
  refine nwA (n := k + 2) hx hb hts hA hk rfl hW hcl 0 (wm_3 _ (List.mem_of_getElem? (i := 0) rfl)) (Or.inl ⟨rfl, rfl⟩) (N := 9) rfl (by decide) (Nat.le_of_ble_eq_true rfl) (Nat.le_of_ble_eq_true rfl) dX0_init_15 (fun ad2 H hx2 hcl hW => ?_)
  rw [← hx2 k (by omega)] at hl
  rw [← hx2 k (by omega)]
  have hc2 : ∀ j, j < k + 1 → ad2 j = ad j := fun j hj => (hx2 j (by omega)).trans (hc1 j hj)
  obtain ⟨M2, hM2⟩ : ∃ z, z = updR M1 (k + 2) zr := ⟨_, rfl⟩
  rw [← hM2] at hW
  have hsM2 : ∀ q, q < k + 2 → M2 q = M1 q := fun q hq => by rw [hM2]; exact updR_ne (by omega)
  refine nwP hx hb hts hown hnm hk hW hcl 6 rfl (k + 2) (by show _ < k + (2 + 1); omega) qX0_15 (fun _ => ⟨rfl, rfl⟩) dX0_init_17 (fun H locs hcl hW => ?_)
  have hcl : CloL (L0 ++ (.inl (0, [0, 0, 0, 0, 0, k + 1 + 3, k + 2 + 3, 2, 2, 2]) :: ([.inr (0, 9, [])] ++ [.inr (0, 9, [])]))) := hcl
  have hW : Wo G ad2 CA 6 (L0 ++ (.inl (0, [0, 0, 0, 0, 0, k + 1 + 3, k + 2 + 3, 2, 2, 2]) :: ([.inr (0, 9, [])] ++ [.inr (0, 9, [])]))) (AG ad _ s.heap.size) s M2 H locs := hW
  refine lv_aload_n hx hb dX0_init_20 rfl (lv_at hl 0 rfl) ?_
  refine rw_bipush hx hb dX0_init_21 (by decide) ?_
  refine nwA (n := k + 3) hx hb hts hA hk rfl hW hcl 0 (wm_3 _ (List.mem_of_getElem? (i := 0) rfl)) (Or.inl ⟨rfl, rfl⟩) (N := 9) rfl (by decide) (Nat.le_of_ble_eq_true rfl) (Nat.le_of_ble_eq_true rfl) dX0_init_23 (fun ad3 H hx3 hcl hW => ?_)
  rw [← hx3 k (by omega)] at hl
  rw [← hx3 k (by omega)]
  have hc3 : ∀ j, j < k + 1 → ad3 j = ad j := fun j hj => (hx3 j (by omega)).trans (hc2 j hj)
  obtain ⟨M3, hM3⟩ : ∃ z, z = updR M2 (k + 3) zr := ⟨_, rfl⟩
  rw [← hM3] at hW
  have hsM3 : ∀ q, q < k + 3 → M3 q = M2 q := fun q hq => by rw [hM3]; exact updR_ne (by omega)
  refine nwP hx hb hts hown hnm hk hW hcl 7 rfl (k + 3) (by show _ < k + (3 + 1); omega) qX0_18 (fun _ => ⟨rfl, rfl⟩) dX0_init_25 (fun H locs hcl hW => ?_)
  have hcl : CloL (L0 ++ (.inl (0, [0, 0, 0, 0, 0, k + 1 + 3, k + 2 + 3, k + 3 + 3, 2, 2]) :: ([.inr (0, 9, [])] ++ [.inr (0, 9, [])] ++ [.inr (0, 9, [])]))) := hcl
  have hW : Wo G ad3 CA 6 (L0 ++ (.inl (0, [0, 0, 0, 0, 0, k + 1 + 3, k + 2 + 3, k + 3 + 3, 2, 2]) :: ([.inr (0, 9, [])] ++ [.inr (0, 9, [])] ++ [.inr (0, 9, [])]))) (AG ad _ s.heap.size) s M3 H locs := hW
  refine lv_aload_n hx hb dX0_init_28 rfl (lv_at hl 0 rfl) ?_
  refine nwO (n := k + 4) hx hb hts hown hA hk rfl hW hcl nX0_21 (Nat.le_of_ble_eq_true rfl) (Nat.le_of_ble_eq_true rfl) dX0_init_29 (fun ad4 H hx4 hcl hW => ?_)
  rw [← hx4 k (by omega)] at hl
  rw [← hx4 k (by omega)]
  have hc4 : ∀ j, j < k + 1 → ad4 j = ad j := fun j hj => (hx4 j (by omega)).trans (hc3 j hj)
  obtain ⟨M4, hM4⟩ : ∃ z, z = updR M3 (k + 4) zr := ⟨_, rfl⟩
  rw [← hM4] at hW
  have hsM4 : ∀ q, q < k + 4 → M4 q = M3 q := fun q hq => by rw [hM4]; exact updR_ne (by omega)
  have hzM4 : M4 (k + 4) = zr := by rw [hM4]; exact updR_eq
  refine lv_dup hx hb dX0_init_32 rfl ?_
  refine rw_initG hx hb hml hts hown hW hA hAO (k + 4) (c_X6_init (l := l) (G := G) (ad := ad4) (CA := CA) (L0 ++ (.inl (0, [0, 0, 0, 0, 0, k + 1 + 3, k + 2 + 3, k + 3 + 3, 2, 2]) :: ([.inr (0, 9, [])] ++ [.inr (0, 9, [])] ++ [.inr (0, 9, [])]))) (L0 ++ (.inl (0, [0, 0, 0, 0, 0, k + 1 + 3, k + 2 + 3, k + 3 + 3, 2, 2]) :: ([.inr (0, 9, [])] ++ [.inr (0, 9, [])] ++ [.inr (0, 9, [])] ++ [.inl (6, [0, 2, 0, 0, 0])]))) (L0 ++ (.inl (0, [0, 0, 0, 0, 0, k + 1 + 3, k + 2 + 3, k + 3 + 3, 2, 2]) :: ([.inr (0, 9, [])] ++ [.inr (0, 9, [])] ++ [.inr (0, 9, [])] ++ sideL (k + 4)))) (k + 4) (by rw [len_oT hk]; rfl) app_oT.symm app_oT.symm hcl M4 _) iX0_23 ⟨Nat.le_of_ble_eq_true rfl, Nat.le_of_ble_eq_true rfl⟩ ⟨Nat.le_of_ble_eq_true rfl, Nat.le_of_ble_eq_true rfl⟩ hl.1 (Nat.le_of_ble_eq_true rfl) dX0_init_33 (fun ad5 M5 H locs hx0 hp hW _ _ => ?_)
  have hx5 : ∀ j, j < k + 5 → ad5 j = ad4 j := fun j hj => hx0 j (by rw [len_oT hk]; exact hj)
  rw [← hx5 k (by omega)] at hl
  rw [← hx5 k (by omega), ← hx5 (k + 4) (by omega)]
  have hc5 : ∀ j, j < k + 1 → ad5 j = ad j := fun j hj => (hx5 j (by omega)).trans (hc4 j hj)
  obtain ⟨hcl, hpM5⟩ := hp
  have hsM5 : ∀ q, q < k + 4 → M5 q = M4 q := fun q hq => hpM5 q (by omega)
  refine nwP hx hb hts hown hnm hk hW hcl 8 rfl (k + 4) (by show _ < k + (5 + 1); omega) qX0_24 (fun _ => ⟨rfl, rfl⟩) dX0_init_36 (fun H locs hcl hW => ?_)
  have hcl : CloL (L0 ++ (.inl (0, [0, 0, 0, 0, 0, k + 1 + 3, k + 2 + 3, k + 3 + 3, k + 4 + 3, 2]) :: ([.inr (0, 9, [])] ++ [.inr (0, 9, [])] ++ [.inr (0, 9, [])] ++ sideL (k + 4)))) := hcl
  have hW : Wo G ad5 CA 6 (L0 ++ (.inl (0, [0, 0, 0, 0, 0, k + 1 + 3, k + 2 + 3, k + 3 + 3, k + 4 + 3, 2]) :: ([.inr (0, 9, [])] ++ [.inr (0, 9, [])] ++ [.inr (0, 9, [])] ++ sideL (k + 4)))) (AG ad _ s.heap.size) s M5 H locs := hW
  refine lv_aload_n hx hb dX0_init_39 rfl (lv_at hl 0 rfl) ?_
  refine nwO (n := k + 6) hx hb hts hown hA hk rfl hW hcl nX0_21 (Nat.le_of_ble_eq_true rfl) (Nat.le_of_ble_eq_true rfl) dX0_init_40 (fun ad6 H hx6 hcl hW => ?_)
  rw [← hx6 k (by omega)] at hl
  rw [← hx6 k (by omega)]
  have hc6 : ∀ j, j < k + 1 → ad6 j = ad j := fun j hj => (hx6 j (by omega)).trans (hc5 j hj)
  obtain ⟨M6, hM6⟩ : ∃ z, z = updR M5 (k + 6) zr := ⟨_, rfl⟩
  rw [← hM6] at hW
  have hsM6 : ∀ q, q < k + 6 → M6 q = M5 q := fun q hq => by rw [hM6]; exact updR_ne (by omega)
  have hzM6 : M6 (k + 6) = zr := by rw [hM6]; exact updR_eq
  refine lv_dup hx hb dX0_init_43 rfl ?_
  refine rw_initG hx hb hml hts hown hW hA hAO (k + 6) (c_X6_init (l := l) (G := G) (ad := ad6) (CA := CA) (L0 ++ (.inl (0, [0, 0, 0, 0, 0, k + 1 + 3, k + 2 + 3, k + 3 + 3, k + 4 + 3, 2]) :: ([.inr (0, 9, [])] ++ [.inr (0, 9, [])] ++ [.inr (0, 9, [])] ++ sideL (k + 4)))) (L0 ++ (.inl (0, [0, 0, 0, 0, 0, k + 1 + 3, k + 2 + 3, k + 3 + 3, k + 4 + 3, 2]) :: ([.inr (0, 9, [])] ++ [.inr (0, 9, [])] ++ [.inr (0, 9, [])] ++ sideL (k + 4) ++ [.inl (6, [0, 2, 0, 0, 0])]))) (L0 ++ (.inl (0, [0, 0, 0, 0, 0, k + 1 + 3, k + 2 + 3, k + 3 + 3, k + 4 + 3, 2]) :: ([.inr (0, 9, [])] ++ [.inr (0, 9, [])] ++ [.inr (0, 9, [])] ++ sideL (k + 4) ++ sideL (k + 6)))) (k + 6) (by rw [len_oT hk]; rfl) app_oT.symm app_oT.symm hcl M6 _) iX0_23 ⟨Nat.le_of_ble_eq_true rfl, Nat.le_of_ble_eq_true rfl⟩ ⟨Nat.le_of_ble_eq_true rfl, Nat.le_of_ble_eq_true rfl⟩ hl.1 (Nat.le_of_ble_eq_true rfl) dX0_init_44 (fun ad7 M7 H locs hx0 hp hW _ _ => ?_)
  have hx7 : ∀ j, j < k + 7 → ad7 j = ad6 j := fun j hj => hx0 j (by rw [len_oT hk]; exact hj)
  rw [← hx7 k (by omega)] at hl
  rw [← hx7 k (by omega), ← hx7 (k + 6) (by omega)]
  have hc7 : ∀ j, j < k + 1 → ad7 j = ad j := fun j hj => (hx7 j (by omega)).trans (hc6 j hj)
  obtain ⟨hcl, hpM7⟩ := hp
  have hsM7 : ∀ q, q < k + 6 → M7 q = M6 q := fun q hq => hpM7 q (by omega)
  refine nwP hx hb hts hown hnm hk hW hcl 9 rfl (k + 6) (by show _ < k + (7 + 1); omega) qX0_28 (fun _ => ⟨rfl, rfl⟩) dX0_init_47 (fun H locs hcl hW => ?_)
  have hcl : CloL (L0 ++ (.inl (0, [0, 0, 0, 0, 0, k + 1 + 3, k + 2 + 3, k + 3 + 3, k + 4 + 3, k + 6 + 3]) :: ([.inr (0, 9, [])] ++ [.inr (0, 9, [])] ++ [.inr (0, 9, [])] ++ sideL (k + 4) ++ sideL (k + 6)))) := hcl
  have hW : Wo G ad7 CA 6 (L0 ++ (.inl (0, [0, 0, 0, 0, 0, k + 1 + 3, k + 2 + 3, k + 3 + 3, k + 4 + 3, k + 6 + 3]) :: ([.inr (0, 9, [])] ++ [.inr (0, 9, [])] ++ [.inr (0, 9, [])] ++ sideL (k + 4) ++ sideL (k + 6)))) (AG ad _ s.heap.size) s M7 H locs := hW
  refine lv_aload_n hx hb dX0_init_50 rfl (lv_at hl 0 rfl) ?_
  have hFk : FAt (L0 ++ (.inl (0, [0, 0, 0, 0, 0, k + 1 + 3, k + 2 + 3, k + 3 + 3, k + 4 + 3, k + 6 + 3]) :: ([.inr (0, 9, [])] ++ [.inr (0, 9, [])] ++ [.inr (0, 9, [])] ++ sideL (k + 4) ++ sideL (k + 6)))) k := fat_L hk
  refine rw_callV hx hb hml hts hown hW ⟨Nat.le_of_ble_eq_true rfl, Nat.le_of_ble_eq_true rfl⟩ [] (k) hFk.1 rfl (c_X0_clear (l := l) (G := G) (ad := ad7) (CA := CA) (nt := 6) (by decide) k hFk M7) kX0_31 rfl ⟨Nat.le_of_ble_eq_true rfl, Nat.le_of_ble_eq_true rfl⟩ hl.1 rfl (Nat.le_of_ble_eq_true rfl) dX0_init_51 (fun vv MC H locs hpc hW => ?_)
  obtain ⟨rfl, hpc⟩ := hpc
  refine rw_stk (st' := []) rfl ?_
  have hW : Wo G ad7 CA 6 (L0 ++ fieldL k) (AG ad _ s.heap.size) s MC H locs := hW
  have hcl : CloL (L0 ++ fieldL k) := hcl
  refine rw_vretG hx hb hr hlocks hW (fun j hj => hc7 j (by rw [List.length_append, hk] at hj; exact hj)) (by rw [List.length_append, List.length_append]; exact Nat.add_le_add_left (Nat.le_of_ble_eq_true rfl) _) dX0_init_54 ⟨hcl, ?_⟩
  exact ⟨hpc.1, fun q hq => by rw [hpc.2 q (by omega), hsM7 q (by omega), hsM6 q (by omega), hsM5 q (by omega), hsM4 q (by omega), hsM3 q (by omega), hsM2 q (by omega), hsM1 q (by omega)]⟩
abbrev P_X5_init (k : Nat) (M MM : Mem) : Prop := (∀ q, q < k → MM q = M q) ∧ MM k 0 = -1 ∧ MM k 1 = 0 ∧ MM (k + 1) = zr
set_option maxRecDepth 100000 in
set_option maxHeartbeats 8000000 in
theorem c_X5_init {l : Launch} {G : va_G} {ad : Nat → Nat} {CA : Nat → ClassId} (L0 Ly Ly' : List LD) (k : Nat) (hk : L0.length = k) (hLy : Ly = L0 ++ [.inl (5, [0, 0, 2])]) (hLy' : Ly' = L0 ++ sheetL k) (hcl : CloL Ly) (M : Mem) (sz : Nat) (hzk : M k = zr) : MtG l yX5_init cX5_init 1 1 1 40 12 G ad CA Ly Ly' [.ref (ad k)] M (fun MM => CloL Ly' ∧ P_X5_init k M MM) sz := by
  subst hLy hLy'
  refine MtG.of (by decide) (Nat.le_of_ble_eq_true rfl) (fun p e s m args below meth c hx hb hr hml hts hown hlocks hnm hAO hA hW ls hl => ?_)
  have hl : lv_has ls 1 [(0, .ref (ad k))] := hl
  have hcl : CloL (L0 ++ (.inl (5, [0, 0, 2]) :: [])) := hcl
  obtain ⟨H, hH⟩ : ∃ z, z = s.heap := ⟨_, rfl⟩
  obtain ⟨locs, hlo⟩ : ∃ z : List Loc, z = [] := ⟨_, rfl⟩
  rw [← hlo]
  have hW9 := hW
  rw [← hlo] at hW9
  clear hW
  have hW : Wo G ad CA 6 (L0 ++ (.inl (5, [0, 0, 2]) :: [])) (AG ad _ s.heap.size) s M s.heap locs := hW9
  show WfG l 1 1 40 12 G ad CA _ _ _ p e s m args below meth c s.heap locs 0 0 (F0 m 0 ls [])
  clear hW9
  have hc0 : ∀ j, j < k + 1 → ad j = ad j := fun _ _ => rfl
  refine lv_aload_n hx hb dX5_init_0 rfl (lv_at hl 0 rfl) ?_
  refine W.objInit hx hb hown (hts _ (wm_6 _ (List.mem_of_getElem? (i := 13) rfl))) (hts _ (wm_1 _ (List.mem_of_getElem? (i := 11) rfl))) (hts _ (wm_1 _ (List.mem_of_getElem? (i := 12) rfl))) rfl (by rw [hml]; exact hl.1) rfl dX5_init_1 (Nat.le_of_ble_eq_true rfl) (Nat.le_of_ble_eq_true rfl) ?_
  refine W.eq (g2 := F0 m 4 ls []) rfl ?_
  refine lv_aload_n hx hb dX5_init_4 rfl (lv_at hl 0 rfl) ?_
  refine rw_iconst hx hb dX5_init_5 ?_
  refine rw_putI hx hb hts hown hW k (get_o0 hk) 0 0 rfl rfl qX5_11 (v := (-1)) dX5_init_6 (fun H locs hW => ?_)
  obtain ⟨M1, hM1⟩ : ∃ z, z = upd2 M k 0 (-1) := ⟨_, rfl⟩
  rw [← hM1] at hW
  have hsM1 : ∀ q, q < k → M1 q = M q := fun q hq => by rw [hM1]; exact upd2_ne1 (by omega)
  have hqM1 : ∀ q, q ≠ k → M1 q = M q := fun q hq => by rw [hM1]; exact upd2_ne1 (by omega)
  refine lv_aload_n hx hb dX5_init_9 rfl (lv_at hl 0 rfl) ?_
  refine rw_bipush hx hb dX5_init_10 (by decide) ?_
  refine nwA (n := k + 1) hx hb hts hA hk rfl hW hcl 0 (wm_3 _ (List.mem_of_getElem? (i := 0) rfl)) (Or.inl ⟨rfl, rfl⟩) (N := 40) rfl (by decide) (Nat.le_of_ble_eq_true rfl) (Nat.le_of_ble_eq_true rfl) dX5_init_12 (fun ad1 H hx1 hcl hW => ?_)
  rw [← hx1 k (by omega)] at hl
  rw [← hx1 k (by omega)]
  have hc1 : ∀ j, j < k + 1 → ad1 j = ad j := fun j hj => (hx1 j (by omega)).trans (hc0 j hj)
  obtain ⟨M2, hM2⟩ : ∃ z, z = updR M1 (k + 1) zr := ⟨_, rfl⟩
  rw [← hM2] at hW
  have hsM2 : ∀ q, q < k + 1 → M2 q = M1 q := fun q hq => by rw [hM2]; exact updR_ne (by omega)
  refine nwP hx hb hts hown hnm hk hW hcl 2 rfl (k + 1) (by show _ < k + (1 + 1); omega) qX5_15 (fun _ => ⟨rfl, rfl⟩) dX5_init_14 (fun H locs hcl hW => ?_)
  have hcl : CloL (L0 ++ (.inl (5, [0, 0, k + 1 + 3]) :: ([.inr (0, 40, [])]))) := hcl
  have hW : Wo G ad1 CA 6 (L0 ++ (.inl (5, [0, 0, k + 1 + 3]) :: ([.inr (0, 40, [])]))) (AG ad _ s.heap.size) s M2 H locs := hW
  have hW : Wo G ad1 CA 6 (L0 ++ sheetL k) (AG ad _ s.heap.size) s M2 H locs := hW
  have hcl : CloL (L0 ++ sheetL k) := hcl
  refine rw_vretG hx hb hr hlocks hW (fun j hj => hc1 j (by rw [List.length_append, hk] at hj; exact hj)) (by rw [List.length_append, List.length_append]; exact Nat.add_le_add_left (Nat.le_of_ble_eq_true rfl) _) dX5_init_17 ⟨hcl, ?_⟩
  refine ⟨fun q hq => by rw [hsM2 q (by omega), hsM1 q (by omega)], ?_, ?_, ?_⟩
  · rw [hM2, updR_ne (by omega), hM1, upd2_eq]
  · rw [hM2, updR_ne (by omega), hM1, upd2_ne2 (by decide), hzk]
  · rw [hM2]; exact updR_eq
abbrev P_X8_init (k : Nat) (M MM : Mem) : Prop := (∀ q, q ≤ k → MM q = M q) ∧ MM (k + 1) = zr
set_option maxRecDepth 100000 in
set_option maxHeartbeats 8000000 in
theorem c_X8_init {l : Launch} {G : va_G} {ad : Nat → Nat} {CA : Nat → ClassId} (L0 Ly Ly' : List LD) (k : Nat) (hk : L0.length = k) (hLy : Ly = L0 ++ [.inl (8, [2, 0, 0, 0, 0, 0])]) (hLy' : Ly' = L0 ++ tapeL k) (hcl : CloL Ly) (M : Mem) (sz : Nat)  : MtG l yX8_init cX8_init 1 1 1 320 12 G ad CA Ly Ly' [.ref (ad k)] M (fun MM => CloL Ly' ∧ P_X8_init k M MM) sz := by
  subst hLy hLy'
  refine MtG.of (by decide) (Nat.le_of_ble_eq_true rfl) (fun p e s m args below meth c hx hb hr hml hts hown hlocks hnm hAO hA hW ls hl => ?_)
  have hl : lv_has ls 1 [(0, .ref (ad k))] := hl
  have hcl : CloL (L0 ++ (.inl (8, [2, 0, 0, 0, 0, 0]) :: [])) := hcl
  obtain ⟨H, hH⟩ : ∃ z, z = s.heap := ⟨_, rfl⟩
  obtain ⟨locs, hlo⟩ : ∃ z : List Loc, z = [] := ⟨_, rfl⟩
  rw [← hlo]
  have hW9 := hW
  rw [← hlo] at hW9
  clear hW
  have hW : Wo G ad CA 6 (L0 ++ (.inl (8, [2, 0, 0, 0, 0, 0]) :: [])) (AG ad _ s.heap.size) s M s.heap locs := hW9
  show WfG l 1 1 320 12 G ad CA _ _ _ p e s m args below meth c s.heap locs 0 0 (F0 m 0 ls [])
  clear hW9
  have hc0 : ∀ j, j < k + 1 → ad j = ad j := fun _ _ => rfl
  refine lv_aload_n hx hb dX8_init_0 rfl (lv_at hl 0 rfl) ?_
  refine W.objInit hx hb hown (hts _ (wm_4 _ (List.mem_of_getElem? (i := 18) rfl))) (hts _ (wm_1 _ (List.mem_of_getElem? (i := 11) rfl))) (hts _ (wm_1 _ (List.mem_of_getElem? (i := 12) rfl))) rfl (by rw [hml]; exact hl.1) rfl dX8_init_1 (Nat.le_of_ble_eq_true rfl) (Nat.le_of_ble_eq_true rfl) ?_
  refine W.eq (g2 := F0 m 4 ls []) rfl ?_
  refine lv_aload_n hx hb dX8_init_4 rfl (lv_at hl 0 rfl) ?_
  refine rw_sipush hx hb dX8_init_5 (by decide) ?_
  refine nwA (n := k + 1) hx hb hts hA hk rfl hW hcl 2 (wm_4 _ (List.mem_of_getElem? (i := 19) rfl)) (Or.inr (Or.inr (Or.inl ⟨rfl, rfl⟩))) (N := 320) rfl (by decide) (Nat.le_of_ble_eq_true rfl) (Nat.le_of_ble_eq_true rfl) dX8_init_8 (fun ad1 H hx1 hcl hW => ?_)
  rw [← hx1 k (by omega)] at hl
  rw [← hx1 k (by omega)]
  have hc1 : ∀ j, j < k + 1 → ad1 j = ad j := fun j hj => (hx1 j (by omega)).trans (hc0 j hj)
  obtain ⟨M1, hM1⟩ : ∃ z, z = updR M (k + 1) zr := ⟨_, rfl⟩
  rw [← hM1] at hW
  have hsM1 : ∀ q, q < k + 1 → M1 q = M q := fun q hq => by rw [hM1]; exact updR_ne (by omega)
  refine nwP hx hb hts hown hnm hk hW hcl 0 rfl (k + 1) (by show _ < k + (1 + 1); omega) qX8_9 (fun _ => ⟨rfl, rfl⟩) dX8_init_10 (fun H locs hcl hW => ?_)
  have hcl : CloL (L0 ++ (.inl (8, [k + 1 + 3, 0, 0, 0, 0, 0]) :: ([.inr (2, 320, [])]))) := hcl
  have hW : Wo G ad1 CA 6 (L0 ++ (.inl (8, [k + 1 + 3, 0, 0, 0, 0, 0]) :: ([.inr (2, 320, [])]))) (AG ad _ s.heap.size) s M1 H locs := hW
  have hW : Wo G ad1 CA 6 (L0 ++ tapeL k) (AG ad _ s.heap.size) s M1 H locs := hW
  have hcl : CloL (L0 ++ tapeL k) := hcl
  refine rw_vretG hx hb hr hlocks hW (fun j hj => hc1 j (by rw [List.length_append, hk] at hj; exact hj)) (by rw [List.length_append, List.length_append]; exact Nat.add_le_add_left (Nat.le_of_ble_eq_true rfl) _) dX8_init_13 ⟨hcl, ?_⟩
  exact ⟨fun q hq => by rw [hsM1 q (by omega)], by rw [hM1]; exact updR_eq⟩
abbrev P_X9_init (k : Nat) (M MM : Mem) : Prop := ∀ q, q ≤ k → MM q = M q
set_option maxRecDepth 100000 in
set_option maxHeartbeats 8000000 in
theorem c_X9_init {l : Launch} {G : va_G} {ad : Nat → Nat} {CA : Nat → ClassId} (L0 Ly Ly' : List LD) (k : Nat) (hk : L0.length = k) (hLy : Ly = L0 ++ [.inl (9, [2, 2, 0])]) (hLy' : Ly' = L0 ++ toldL k) (hcl : CloL Ly) (M : Mem) (sz : Nat)  : MtG l yX9_init cX9_init 1 1 2 16 12 G ad CA Ly Ly' [.ref (ad k)] M (fun MM => CloL Ly' ∧ P_X9_init k M MM) sz := by
  subst hLy hLy'
  refine MtG.of (by decide) (Nat.le_of_ble_eq_true rfl) (fun p e s m args below meth c hx hb hr hml hts hown hlocks hnm hAO hA hW ls hl => ?_)
  have hl : lv_has ls 1 [(0, .ref (ad k))] := hl
  have hcl : CloL (L0 ++ (.inl (9, [2, 2, 0]) :: [])) := hcl
  obtain ⟨H, hH⟩ : ∃ z, z = s.heap := ⟨_, rfl⟩
  obtain ⟨locs, hlo⟩ : ∃ z : List Loc, z = [] := ⟨_, rfl⟩
  rw [← hlo]
  have hW9 := hW
  rw [← hlo] at hW9
  clear hW
  have hW : Wo G ad CA 6 (L0 ++ (.inl (9, [2, 2, 0]) :: [])) (AG ad _ s.heap.size) s M s.heap locs := hW9
  show WfG l 1 2 16 12 G ad CA _ _ _ p e s m args below meth c s.heap locs 0 0 (F0 m 0 ls [])
  clear hW9
  have hc0 : ∀ j, j < k + 1 → ad j = ad j := fun _ _ => rfl
  refine lv_aload_n hx hb dX9_init_0 rfl (lv_at hl 0 rfl) ?_
  refine W.objInit hx hb hown (hts _ (wm_6 _ (List.mem_of_getElem? (i := 8) rfl))) (hts _ (wm_1 _ (List.mem_of_getElem? (i := 11) rfl))) (hts _ (wm_1 _ (List.mem_of_getElem? (i := 12) rfl))) rfl (by rw [hml]; exact hl.1) rfl dX9_init_1 (Nat.le_of_ble_eq_true rfl) (Nat.le_of_ble_eq_true rfl) ?_
  refine W.eq (g2 := F0 m 4 ls []) rfl ?_
  refine lv_aload_n hx hb dX9_init_4 rfl (lv_at hl 0 rfl) ?_
  refine rw_bipush hx hb dX9_init_5 (by decide) ?_
  refine nwA (n := k + 1) hx hb hts hA hk rfl hW hcl 0 (wm_3 _ (List.mem_of_getElem? (i := 0) rfl)) (Or.inl ⟨rfl, rfl⟩) (N := 8) rfl (by decide) (Nat.le_of_ble_eq_true rfl) (Nat.le_of_ble_eq_true rfl) dX9_init_7 (fun ad1 H hx1 hcl hW => ?_)
  rw [← hx1 k (by omega)] at hl
  rw [← hx1 k (by omega)]
  have hc1 : ∀ j, j < k + 1 → ad1 j = ad j := fun j hj => (hx1 j (by omega)).trans (hc0 j hj)
  obtain ⟨M1, hM1⟩ : ∃ z, z = updR M (k + 1) zr := ⟨_, rfl⟩
  rw [← hM1] at hW
  have hsM1 : ∀ q, q < k + 1 → M1 q = M q := fun q hq => by rw [hM1]; exact updR_ne (by omega)
  refine nwP hx hb hts hown hnm hk hW hcl 0 rfl (k + 1) (by show _ < k + (1 + 1); omega) qX9_9 (fun _ => ⟨rfl, rfl⟩) dX9_init_9 (fun H locs hcl hW => ?_)
  have hcl : CloL (L0 ++ (.inl (9, [k + 1 + 3, 2, 0]) :: ([.inr (0, 8, [])]))) := hcl
  have hW : Wo G ad1 CA 6 (L0 ++ (.inl (9, [k + 1 + 3, 2, 0]) :: ([.inr (0, 8, [])]))) (AG ad _ s.heap.size) s M1 H locs := hW
  refine lv_aload_n hx hb dX9_init_12 rfl (lv_at hl 0 rfl) ?_
  refine rw_bipush hx hb dX9_init_13 (by decide) ?_
  refine nwA (n := k + 2) hx hb hts hA hk rfl hW hcl 0 (wm_3 _ (List.mem_of_getElem? (i := 0) rfl)) (Or.inl ⟨rfl, rfl⟩) (N := 8) rfl (by decide) (Nat.le_of_ble_eq_true rfl) (Nat.le_of_ble_eq_true rfl) dX9_init_15 (fun ad2 H hx2 hcl hW => ?_)
  rw [← hx2 k (by omega)] at hl
  rw [← hx2 k (by omega)]
  have hc2 : ∀ j, j < k + 1 → ad2 j = ad j := fun j hj => (hx2 j (by omega)).trans (hc1 j hj)
  obtain ⟨M2, hM2⟩ : ∃ z, z = updR M1 (k + 2) zr := ⟨_, rfl⟩
  rw [← hM2] at hW
  have hsM2 : ∀ q, q < k + 2 → M2 q = M1 q := fun q hq => by rw [hM2]; exact updR_ne (by omega)
  refine nwP hx hb hts hown hnm hk hW hcl 1 rfl (k + 2) (by show _ < k + (2 + 1); omega) qX9_15 (fun _ => ⟨rfl, rfl⟩) dX9_init_17 (fun H locs hcl hW => ?_)
  have hcl : CloL (L0 ++ (.inl (9, [k + 1 + 3, k + 2 + 3, 0]) :: ([.inr (0, 8, [])] ++ [.inr (0, 8, [])]))) := hcl
  have hW : Wo G ad2 CA 6 (L0 ++ (.inl (9, [k + 1 + 3, k + 2 + 3, 0]) :: ([.inr (0, 8, [])] ++ [.inr (0, 8, [])]))) (AG ad _ s.heap.size) s M2 H locs := hW
  have hW : Wo G ad2 CA 6 (L0 ++ toldL k) (AG ad _ s.heap.size) s M2 H locs := hW
  have hcl : CloL (L0 ++ toldL k) := hcl
  refine rw_vretG hx hb hr hlocks hW (fun j hj => hc2 j (by rw [List.length_append, hk] at hj; exact hj)) (by rw [List.length_append, List.length_append]; exact Nat.add_le_add_left (Nat.le_of_ble_eq_true rfl) _) dX9_init_20 ⟨hcl, ?_⟩
  exact fun q hq => by rw [hsM2 q (by omega), hsM1 q (by omega)]
abbrev P_X1_init (k : Nat) (M MM : Mem) : Prop := ∀ q, q ≤ k → MM q = M q
set_option maxRecDepth 100000 in
set_option maxHeartbeats 8000000 in
theorem c_X1_init {l : Launch} {G : va_G} {ad : Nat → Nat} {CA : Nat → ClassId} (L0 Ly Ly' : List LD) (k : Nat) (hk : L0.length = k) (hLy : Ly = L0 ++ [.inl (1, [2])]) (hLy' : Ly' = L0 ++ foreL k) (hcl : CloL Ly) (M : Mem) (sz : Nat)  : MtG l yX1_init cX1_init 1 4 8 57 220 G ad CA Ly Ly' [.ref (ad k)] M (fun MM => CloL Ly' ∧ P_X1_init k M MM) sz := by
  subst hLy hLy'
  refine MtG.of (by decide) (Nat.le_of_ble_eq_true rfl) (fun p e s m args below meth c hx hb hr hml hts hown hlocks hnm hAO hA hW ls hl => ?_)
  have hl : lv_has ls 1 [(0, .ref (ad k))] := hl
  have hcl : CloL (L0 ++ (.inl (1, [2]) :: [])) := hcl
  obtain ⟨H, hH⟩ : ∃ z, z = s.heap := ⟨_, rfl⟩
  obtain ⟨locs, hlo⟩ : ∃ z : List Loc, z = [] := ⟨_, rfl⟩
  rw [← hlo]
  have hW9 := hW
  rw [← hlo] at hW9
  clear hW
  have hW : Wo G ad CA 6 (L0 ++ (.inl (1, [2]) :: [])) (AG ad _ s.heap.size) s M s.heap locs := hW9
  show WfG l 4 8 57 220 G ad CA _ _ _ p e s m args below meth c s.heap locs 0 0 (F0 m 0 ls [])
  clear hW9
  have hc0 : ∀ j, j < k + 1 → ad j = ad j := fun _ _ => rfl
  refine lv_aload_n hx hb dX1_init_0 rfl (lv_at hl 0 rfl) ?_
  refine W.objInit hx hb hown (hts _ (wm_5 _ (List.mem_of_getElem? (i := 0) rfl))) (hts _ (wm_1 _ (List.mem_of_getElem? (i := 11) rfl))) (hts _ (wm_1 _ (List.mem_of_getElem? (i := 12) rfl))) rfl (by rw [hml]; exact hl.1) rfl dX1_init_1 (Nat.le_of_ble_eq_true rfl) (Nat.le_of_ble_eq_true rfl) ?_
  refine W.eq (g2 := F0 m 4 ls []) rfl ?_
  refine lv_aload_n hx hb dX1_init_4 rfl (lv_at hl 0 rfl) ?_
  refine nwO (n := k + 1) hx hb hts hown hA hk rfl hW hcl nX1_9 (Nat.le_of_ble_eq_true rfl) (Nat.le_of_ble_eq_true rfl) dX1_init_5 (fun ad1 H hx1 hcl hW => ?_)
  rw [← hx1 k (by omega)] at hl
  rw [← hx1 k (by omega)]
  have hc1 : ∀ j, j < k + 1 → ad1 j = ad j := fun j hj => (hx1 j (by omega)).trans (hc0 j hj)
  obtain ⟨M1, hM1⟩ : ∃ z, z = updR M (k + 1) zr := ⟨_, rfl⟩
  rw [← hM1] at hW
  have hsM1 : ∀ q, q < k + 1 → M1 q = M q := fun q hq => by rw [hM1]; exact updR_ne (by omega)
  have hzM1 : M1 (k + 1) = zr := by rw [hM1]; exact updR_eq
  refine lv_dup hx hb dX1_init_8 rfl ?_
  refine rw_initG hx hb hml hts hown hW hA hAO (k + 1) (c_X0_init (l := l) (G := G) (ad := ad1) (CA := CA) (L0 ++ (.inl (1, [2]) :: ([]))) (L0 ++ (.inl (1, [2]) :: ([.inl (0, [0, 0, 0, 0, 0, 2, 2, 2, 2, 2])]))) (L0 ++ (.inl (1, [2]) :: (fieldL (k + 1)))) (k + 1) (by rw [len_oT hk]; rfl) app_o1 app_o1 hcl M1 _) iX1_11 ⟨Nat.le_of_ble_eq_true rfl, Nat.le_of_ble_eq_true rfl⟩ ⟨Nat.le_of_ble_eq_true rfl, Nat.le_of_ble_eq_true rfl⟩ hl.1 (Nat.le_of_ble_eq_true rfl) dX1_init_9 (fun ad2 M2 H locs hx0 hp hW _ _ => ?_)
  have hx2 : ∀ j, j < k + 2 → ad2 j = ad1 j := fun j hj => hx0 j (by rw [len_oT hk]; exact hj)
  rw [← hx2 k (by omega)] at hl
  rw [← hx2 k (by omega), ← hx2 (k + 1) (by omega)]
  have hc2 : ∀ j, j < k + 1 → ad2 j = ad j := fun j hj => (hx2 j (by omega)).trans (hc1 j hj)
  obtain ⟨hcl, hpM2⟩ := hp
  have hsM2 : ∀ q, q < k + 1 → M2 q = M1 q := fun q hq => hpM2.2 q (by omega)
  refine nwP hx hb hts hown hnm hk hW hcl 0 rfl (k + 1) (by show _ < k + (8 + 1); omega) qX1_12 (fun _ => ⟨rfl, rfl⟩) dX1_init_12 (fun H locs hcl hW => ?_)
  have hcl : CloL (L0 ++ (.inl (1, [k + 1 + 3]) :: (fieldL (k + 1)))) := hcl
  have hW : Wo G ad2 CA 6 (L0 ++ (.inl (1, [k + 1 + 3]) :: (fieldL (k + 1)))) (AG ad _ s.heap.size) s M2 H locs := hW
  have hW : Wo G ad2 CA 6 (L0 ++ foreL k) (AG ad _ s.heap.size) s M2 H locs := hW
  have hcl : CloL (L0 ++ foreL k) := hcl
  refine rw_vretG hx hb hr hlocks hW (fun j hj => hc2 j (by rw [List.length_append, hk] at hj; exact hj)) (by rw [List.length_append, List.length_append]; exact Nat.add_le_add_left (Nat.le_of_ble_eq_true rfl) _) dX1_init_15 ⟨hcl, ?_⟩
  exact fun q hq => by rw [hsM2 q (by omega), hsM1 q (by omega)]
