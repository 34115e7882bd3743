theorem row_5_all : ∀ j : Fin 15, (updI (updI (updI (updI (updI (updI (updI (updI (updI (updI (updI (updI (updI (updI (updI zr 0 0) 1 5) 2 9) 3 14) 4 19) 5 22) 6 26) 7 31) 8 35) 9 40) 10 43) 11 47) 12 53) 13 57) 14 64) (j.val : Int) = (cutI) (j.val : Int) := by decide +kernel
theorem row_5 : ∀ i, 0 ≤ i → i < 15 → (updI (updI (updI (updI (updI (updI (updI (updI (updI (updI (updI (updI (updI (updI (updI zr 0 0) 1 5) 2 9) 3 14) 4 19) 5 22) 6 26) 7 31) 8 35) 9 40) 10 43) 11 47) 12 53) 13 57) 14 64) i = (cutI) i := by
  intro i h0 h1
  have q := row_5_all ⟨i.toNat, by omega⟩
  rw [show ((i.toNat : Nat) : Int) = i by omega] at q
  exact q
theorem row_6_all : ∀ j : Fin 64, (updI (updI (updI (updI (updI (updI (updI (updI (updI (updI (updI (updI (updI (updI (updI (updI (updI (updI (updI (updI (updI (updI (updI (updI (updI (updI (updI (updI (updI (updI (updI (updI (updI (updI (updI (updI (updI (updI (updI (updI (updI (updI (updI (updI (updI (updI (updI (updI (updI (updI (updI (updI (updI (updI (updI (updI (updI (updI (updI (updI (updI (updI (updI (updI zr 0 99) 1 101) 2 108) 3 108) 4 115) 5 114) 6 111) 7 111) 8 109) 9 115) 10 108) 11 111) 12 112) 13 101) 14 104) 15 101) 16 100) 17 103) 18 101) 19 107) 20 101) 21 103) 22 115) 23 105) 24 100) 25 101) 26 102) 27 111) 28 111) 29 108) 30 115) 31 114) 32 101) 33 115) 34 116) 35 98) 36 114) 37 101) 38 97) 39 107) 40 97) 41 108) 42 108) 43 104) 44 97) 45 108) 46 102) 47 115) 48 116) 49 101) 50 97) 51 100) 52 121) 53 108) 54 97) 55 116) 56 101) 57 102) 58 111) 59 108) 60 108) 61 111) 62 119) 63 115) (j.val : Int) = (letT) (j.val : Int) := by decide +kernel
theorem row_6 : ∀ i, 0 ≤ i → i < 64 → (updI (updI (updI (updI (updI (updI (updI (updI (updI (updI (updI (updI (updI (updI (updI (updI (updI (updI (updI (updI (updI (updI (updI (updI (updI (updI (updI (updI (updI (updI (updI (updI (updI (updI (updI (updI (updI (updI (updI (updI (updI (updI (updI (updI (updI (updI (updI (updI (updI (updI (updI (updI (updI (updI (updI (updI (updI (updI (updI (updI (updI (updI (updI (updI zr 0 99) 1 101) 2 108) 3 108) 4 115) 5 114) 6 111) 7 111) 8 109) 9 115) 10 108) 11 111) 12 112) 13 101) 14 104) 15 101) 16 100) 17 103) 18 101) 19 107) 20 101) 21 103) 22 115) 23 105) 24 100) 25 101) 26 102) 27 111) 28 111) 29 108) 30 115) 31 114) 32 101) 33 115) 34 116) 35 98) 36 114) 37 101) 38 97) 39 107) 40 97) 41 108) 42 108) 43 104) 44 97) 45 108) 46 102) 47 115) 48 116) 49 101) 50 97) 51 100) 52 121) 53 108) 54 97) 55 116) 56 101) 57 102) 58 111) 59 108) 60 108) 61 111) 62 119) 63 115) i = (letT) i := by
  intro i h0 h1
  have q := row_6_all ⟨i.toNat, by omega⟩
  rw [show ((i.toNat : Nat) : Int) = i by omega] at q
  exact q
theorem row_11_all : ∀ j : Fin 4, (updI (updI (updI (updI zr 0 (-4)) 1 (-4)) 2 (-4)) 3 (-4)) (j.val : Int) = (fun _ => -4) (j.val : Int) := by decide +kernel
theorem row_11 : ∀ i, 0 ≤ i → i < 4 → (updI (updI (updI (updI zr 0 (-4)) 1 (-4)) 2 (-4)) 3 (-4)) i = (fun _ => -4) i := by
  intro i h0 h1
  have q := row_11_all ⟨i.toNat, by omega⟩
  rw [show ((i.toNat : Nat) : Int) = i by omega] at q
  exact q
abbrev P_X11_init (k : Nat) (M MM : Mem) : Prop := (∀ q, q < k → MM q = M q) ∧ MM k = updI zr 1 5 ∧ MM (k + 1) = zr ∧ MM (k + 4) = zr ∧ MM (k + 9) = zr ∧ MM (k + 10) = zr ∧ MM (k + 12) = zr ∧ MM (k + 13) = zr ∧ (∀ i, 0 ≤ i → i < 15 → MM (k + 5) i = cutI i) ∧ (∀ i, 0 ≤ i → i < 64 → MM (k + 6) i = letT i) ∧ (∀ i, 0 ≤ i → i < 4 → MM (k + 11) i = -4)
set_option maxRecDepth 100000 in
set_option maxHeartbeats 8000000 in
theorem c_X11_init {l : Launch} {G : va_G} {ad : Nat → Nat} {CA : Nat → ClassId} (L0 Ly Ly' : List LD) (k : Nat) (hk : L0.length = k) (hLy : Ly = L0 ++ [.inl (11, [2, 0, 2, 0, 0, 0, 2, 0, 2, 0, 0, 0, 0, 0, 0, 0, 0, 2, 2, 2, 2, 2, 0, 2, 2, 2, 2, 0])]) (hLy' : Ly' = L0 ++ modL k) (hcl : CloL Ly) (M : Mem) (sz : Nat) (hzk : M k = zr) : MtG l yX11_init cX11_init 1 1 13 884 12 G ad CA Ly Ly' [.ref (ad k)] M (fun MM => CloL Ly' ∧ P_X11_init k M MM) sz := by
  subst hLy hLy'
  refine MtG.of (by decide) (Nat.le_of_ble_eq_true rfl) (fun p e s m args below meth c hx hb hr hml hts hown hlocks hnm hAO hA hW ls hl => ?_)
  have hl : lv_has ls 1 [(0, .ref (ad k))] := hl
  have hcl : CloL (L0 ++ (.inl (11, [2, 0, 2, 0, 0, 0, 2, 0, 2, 0, 0, 0, 0, 0, 0, 0, 0, 2, 2, 2, 2, 2, 0, 2, 2, 2, 2, 0]) :: [])) := hcl
  obtain ⟨H, hH⟩ : ∃ z, z = s.heap := ⟨_, rfl⟩
  obtain ⟨locs, hlo⟩ : ∃ z : List Loc, z = [] := ⟨_, rfl⟩
  rw [← hlo]
  have hW9 := hW
  rw [← hlo] at hW9
  clear hW
  have hW : Wo G ad CA 6 (L0 ++ (.inl (11, [2, 0, 2, 0, 0, 0, 2, 0, 2, 0, 0, 0, 0, 0, 0, 0, 0, 2, 2, 2, 2, 2, 0, 2, 2, 2, 2, 0]) :: [])) (AG ad _ s.heap.size) s M s.heap locs := hW9
  show WfG l 1 13 884 12 G ad CA _ _ _ p e s m args below meth c s.heap locs 0 0 (F0 m 0 ls [])
  clear hW9
  have hc0 : ∀ j, j < k + 1 → ad j = ad j := fun _ _ => rfl
  refine lv_aload_n hx hb dX11_init_0 rfl (lv_at hl 0 rfl) ?_
  refine W.objInit hx hb hown (hts _ (wm_6 _ (List.mem_of_getElem? (i := 19) rfl))) (hts _ (wm_1 _ (List.mem_of_getElem? (i := 11) rfl))) (hts _ (wm_1 _ (List.mem_of_getElem? (i := 12) rfl))) rfl (by rw [hml]; exact hl.1) rfl dX11_init_1 (Nat.le_of_ble_eq_true rfl) (Nat.le_of_ble_eq_true rfl) ?_
  refine W.eq (g2 := F0 m 4 ls []) rfl ?_
  refine lv_aload_n hx hb dX11_init_4 rfl (lv_at hl 0 rfl) ?_
  refine rw_sipush hx hb dX11_init_5 (by decide) ?_
  refine nwA (n := k + 1) hx hb hts hA hk rfl hW hcl 0 (wm_3 _ (List.mem_of_getElem? (i := 0) rfl)) (Or.inl ⟨rfl, rfl⟩) (N := 235) rfl (by decide) (Nat.le_of_ble_eq_true rfl) (Nat.le_of_ble_eq_true rfl) dX11_init_8 (fun ad1 H hx1 hcl hW => ?_)
  rw [← hx1 k (by omega)] at hl
  rw [← hx1 k (by omega)]
  have hc1 : ∀ j, j < k + 1 → ad1 j = ad j := fun j hj => (hx1 j (by omega)).trans (hc0 j hj)
  obtain ⟨M1, hM1⟩ : ∃ z, z = updR M (k + 1) zr := ⟨_, rfl⟩
  rw [← hM1] at hW
  have hsM1 : ∀ q, q < k + 1 → M1 q = M q := fun q hq => by rw [hM1]; exact updR_ne (by omega)
  have hrM1 : M1 (k + 1) = zr := by rw [hM1]; exact updR_eq
  refine nwP hx hb hts hown hnm hk hW hcl 0 rfl (k + 1) (by show _ < k + (1 + 1); omega) qX11_7 (fun _ => ⟨rfl, rfl⟩) dX11_init_10 (fun H locs hcl hW => ?_)
  have hcl : CloL (L0 ++ (.inl (11, [k + 1 + 3, 0, 2, 0, 0, 0, 2, 0, 2, 0, 0, 0, 0, 0, 0, 0, 0, 2, 2, 2, 2, 2, 0, 2, 2, 2, 2, 0]) :: ([.inr (0, 235, [])]))) := hcl
  have hW : Wo G ad1 CA 6 (L0 ++ (.inl (11, [k + 1 + 3, 0, 2, 0, 0, 0, 2, 0, 2, 0, 0, 0, 0, 0, 0, 0, 0, 2, 2, 2, 2, 2, 0, 2, 2, 2, 2, 0]) :: ([.inr (0, 235, [])]))) (AG ad _ s.heap.size) s M1 H locs := hW
  refine lv_aload_n hx hb dX11_init_13 rfl (lv_at hl 0 rfl) ?_
  refine rw_iconst hx hb dX11_init_14 ?_
  refine rw_putI hx hb hts hown hW k (get_o0 hk) 1 1 rfl rfl qX11_13 (v := 5) dX11_init_15 (fun H locs hW => ?_)
  obtain ⟨M2, hM2⟩ : ∃ z, z = upd2 M1 k 1 5 := ⟨_, rfl⟩
  rw [← hM2] at hW
  have hsM2 : ∀ q, q < k → M2 q = M1 q := fun q hq => by rw [hM2]; exact upd2_ne1 (by omega)
  have hqM2 : ∀ q, q ≠ k → M2 q = M1 q := fun q hq => by rw [hM2]; exact upd2_ne1 (by omega)
  refine lv_aload_n hx hb dX11_init_18 rfl (lv_at hl 0 rfl) ?_
  refine rw_bipush hx hb dX11_init_19 (by decide) ?_
  refine nwA (n := k + 2) hx hb hts hA hk rfl hW hcl 0 (wm_3 _ (List.mem_of_getElem? (i := 0) rfl)) (Or.inl ⟨rfl, rfl⟩) (N := 47) rfl (by decide) (Nat.le_of_ble_eq_true rfl) (Nat.le_of_ble_eq_true rfl) dX11_init_21 (fun ad2 H hx2 hcl hW => ?_)
  rw [← hx2 k (by omega)] at hl
  rw [← hx2 k (by omega)]
  have hc2 : ∀ j, j < k + 1 → ad2 j = ad j := fun j hj => (hx2 j (by omega)).trans (hc1 j hj)
  obtain ⟨M3, hM3⟩ : ∃ z, z = updR M2 (k + 2) zr := ⟨_, rfl⟩
  rw [← hM3] at hW
  have hsM3 : ∀ q, q < k + 2 → M3 q = M2 q := fun q hq => by rw [hM3]; exact updR_ne (by omega)
  have hrM3 : M3 (k + 2) = zr := by rw [hM3]; exact updR_eq
  refine nwP hx hb hts hown hnm hk hW hcl 2 rfl (k + 2) (by show _ < k + (2 + 1); omega) qX11_17 (fun _ => ⟨rfl, rfl⟩) dX11_init_23 (fun H locs hcl hW => ?_)
  have hcl : CloL (L0 ++ (.inl (11, [k + 1 + 3, 0, k + 2 + 3, 0, 0, 0, 2, 0, 2, 0, 0, 0, 0, 0, 0, 0, 0, 2, 2, 2, 2, 2, 0, 2, 2, 2, 2, 0]) :: ([.inr (0, 235, [])] ++ [.inr (0, 47, [])]))) := hcl
  have hW : Wo G ad2 CA 6 (L0 ++ (.inl (11, [k + 1 + 3, 0, k + 2 + 3, 0, 0, 0, 2, 0, 2, 0, 0, 0, 0, 0, 0, 0, 0, 2, 2, 2, 2, 2, 0, 2, 2, 2, 2, 0]) :: ([.inr (0, 235, [])] ++ [.inr (0, 47, [])]))) (AG ad _ s.heap.size) s M3 H locs := hW
  refine lv_aload_n hx hb dX11_init_26 rfl (lv_at hl 0 rfl) ?_
  refine rw_bipush hx hb dX11_init_27 (by decide) ?_
  refine nwA (n := k + 3) hx hb hts hA hk rfl hW hcl 0 (wm_3 _ (List.mem_of_getElem? (i := 0) rfl)) (Or.inl ⟨rfl, rfl⟩) (N := 9) rfl (by decide) (Nat.le_of_ble_eq_true rfl) (Nat.le_of_ble_eq_true rfl) dX11_init_29 (fun ad3 H hx3 hcl hW => ?_)
  rw [← hx3 k (by omega)] at hl
  rw [← hx3 k (by omega)]
  have hc3 : ∀ j, j < k + 1 → ad3 j = ad j := fun j hj => (hx3 j (by omega)).trans (hc2 j hj)
  obtain ⟨M4, hM4⟩ : ∃ z, z = updR M3 (k + 3) zr := ⟨_, rfl⟩
  rw [← hM4] at hW
  have hsM4 : ∀ q, q < k + 3 → M4 q = M3 q := fun q hq => by rw [hM4]; exact updR_ne (by omega)
  have hrM4 : M4 (k + 3) = zr := by rw [hM4]; exact updR_eq
  refine nwP hx hb hts hown hnm hk hW hcl 6 rfl (k + 3) (by show _ < k + (3 + 1); omega) qX11_20 (fun _ => ⟨rfl, rfl⟩) dX11_init_31 (fun H locs hcl hW => ?_)
  have hcl : CloL (L0 ++ (.inl (11, [k + 1 + 3, 0, k + 2 + 3, 0, 0, 0, k + 3 + 3, 0, 2, 0, 0, 0, 0, 0, 0, 0, 0, 2, 2, 2, 2, 2, 0, 2, 2, 2, 2, 0]) :: ([.inr (0, 235, [])] ++ [.inr (0, 47, [])] ++ [.inr (0, 9, [])]))) := hcl
  have hW : Wo G ad3 CA 6 (L0 ++ (.inl (11, [k + 1 + 3, 0, k + 2 + 3, 0, 0, 0, k + 3 + 3, 0, 2, 0, 0, 0, 0, 0, 0, 0, 0, 2, 2, 2, 2, 2, 0, 2, 2, 2, 2, 0]) :: ([.inr (0, 235, [])] ++ [.inr (0, 47, [])] ++ [.inr (0, 9, [])]))) (AG ad _ s.heap.size) s M4 H locs := hW
  refine lv_aload_n hx hb dX11_init_34 rfl (lv_at hl 0 rfl) ?_
  refine rw_sipush hx hb dX11_init_35 (by decide) ?_
  refine nwA (n := k + 4) hx hb hts hA hk rfl hW hcl 0 (wm_3 _ (List.mem_of_getElem? (i := 0) rfl)) (Or.inl ⟨rfl, rfl⟩) (N := 320) rfl (by decide) (Nat.le_of_ble_eq_true rfl) (Nat.le_of_ble_eq_true rfl) dX11_init_38 (fun ad4 H hx4 hcl hW => ?_)
  rw [← hx4 k (by omega)] at hl
  rw [← hx4 k (by omega)]
  have hc4 : ∀ j, j < k + 1 → ad4 j = ad j := fun j hj => (hx4 j (by omega)).trans (hc3 j hj)
  obtain ⟨M5, hM5⟩ : ∃ z, z = updR M4 (k + 4) zr := ⟨_, rfl⟩
  rw [← hM5] at hW
  have hsM5 : ∀ q, q < k + 4 → M5 q = M4 q := fun q hq => by rw [hM5]; exact updR_ne (by omega)
  have hrM5 : M5 (k + 4) = zr := by rw [hM5]; exact updR_eq
  refine nwP hx hb hts hown hnm hk hW hcl 8 rfl (k + 4) (by show _ < k + (4 + 1); omega) qX11_23 (fun _ => ⟨rfl, rfl⟩) dX11_init_40 (fun H locs hcl hW => ?_)
  have hcl : CloL (L0 ++ (.inl (11, [k + 1 + 3, 0, k + 2 + 3, 0, 0, 0, k + 3 + 3, 0, k + 4 + 3, 0, 0, 0, 0, 0, 0, 0, 0, 2, 2, 2, 2, 2, 0, 2, 2, 2, 2, 0]) :: ([.inr (0, 235, [])] ++ [.inr (0, 47, [])] ++ [.inr (0, 9, [])] ++ [.inr (0, 320, [])]))) := hcl
  have hW : Wo G ad4 CA 6 (L0 ++ (.inl (11, [k + 1 + 3, 0, k + 2 + 3, 0, 0, 0, k + 3 + 3, 0, k + 4 + 3, 0, 0, 0, 0, 0, 0, 0, 0, 2, 2, 2, 2, 2, 0, 2, 2, 2, 2, 0]) :: ([.inr (0, 235, [])] ++ [.inr (0, 47, [])] ++ [.inr (0, 9, [])] ++ [.inr (0, 320, [])]))) (AG ad _ s.heap.size) s M5 H locs := hW
  refine lv_aload_n hx hb dX11_init_43 rfl (lv_at hl 0 rfl) ?_
  refine rw_bipush hx hb dX11_init_44 (by decide) ?_
  refine nwA (n := k + 5) hx hb hts hA hk rfl hW hcl 0 (wm_3 _ (List.mem_of_getElem? (i := 0) rfl)) (Or.inl ⟨rfl, rfl⟩) (N := 15) rfl (by decide) (Nat.le_of_ble_eq_true rfl) (Nat.le_of_ble_eq_true rfl) dX11_init_46 (fun ad5 H hx5 hcl hW => ?_)
  rw [← hx5 k (by omega)] at hl
  rw [← hx5 k (by omega)]
  have hc5 : ∀ j, j < k + 1 → ad5 j = ad j := fun j hj => (hx5 j (by omega)).trans (hc4 j hj)
  obtain ⟨M6, hM6⟩ : ∃ z, z = updR M5 (k + 5) zr := ⟨_, rfl⟩
  rw [← hM6] at hW
  have hsM6 : ∀ q, q < k + 5 → M6 q = M5 q := fun q hq => by rw [hM6]; exact updR_ne (by omega)
  have hrM6 : M6 (k + 5) = zr := by rw [hM6]; exact updR_eq
  refine lv_dup hx hb dX11_init_48 rfl ?_
  refine rw_iconst hx hb dX11_init_49 ?_
  refine rw_iconst hx hb dX11_init_50 ?_
  refine rw_iast hx hb hW (by decide) (k + 5) (get_oT hk (j := 4) rfl) (v := 0) (by decide) (by decide) (by decide) dX11_init_51 (fun H locs hW => ?_)
  obtain ⟨M7, hM7⟩ : ∃ z, z = upd2 M6 (k + 5) 0 0 := ⟨_, rfl⟩
  rw [← hM7] at hW
  have hsM7 : ∀ q, q < k + 5 → M7 q = M6 q := fun q hq => by rw [hM7]; exact upd2_ne1 (by omega)
  have hrM7 : M7 (k + 5) = (updI zr 0 0) := by rw [hM7, upd2_row, hrM6]
  refine lv_dup hx hb dX11_init_52 rfl ?_
  refine rw_iconst hx hb dX11_init_53 ?_
  refine rw_iconst hx hb dX11_init_54 ?_
  refine rw_iast hx hb hW (by decide) (k + 5) (get_oT hk (j := 4) rfl) (v := 5) (by decide) (by decide) (by decide) dX11_init_55 (fun H locs hW => ?_)
  obtain ⟨M8, hM8⟩ : ∃ z, z = upd2 M7 (k + 5) 1 5 := ⟨_, rfl⟩
  rw [← hM8] at hW
  have hsM8 : ∀ q, q < k + 5 → M8 q = M7 q := fun q hq => by rw [hM8]; exact upd2_ne1 (by omega)
  have hrM8 : M8 (k + 5) = (updI (updI zr 0 0) 1 5) := by rw [hM8, upd2_row, hrM7]
  refine lv_dup hx hb dX11_init_56 rfl ?_
  refine rw_iconst hx hb dX11_init_57 ?_
  refine rw_bipush hx hb dX11_init_58 (by decide) ?_
  refine rw_iast hx hb hW (by decide) (k + 5) (get_oT hk (j := 4) rfl) (v := 9) (by decide) (by decide) (by decide) dX11_init_60 (fun H locs hW => ?_)
  obtain ⟨M9, hM9⟩ : ∃ z, z = upd2 M8 (k + 5) 2 9 := ⟨_, rfl⟩
  rw [← hM9] at hW
  have hsM9 : ∀ q, q < k + 5 → M9 q = M8 q := fun q hq => by rw [hM9]; exact upd2_ne1 (by omega)
  have hrM9 : M9 (k + 5) = (updI (updI (updI zr 0 0) 1 5) 2 9) := by rw [hM9, upd2_row, hrM8]
  refine lv_dup hx hb dX11_init_61 rfl ?_
  refine rw_iconst hx hb dX11_init_62 ?_
  refine rw_bipush hx hb dX11_init_63 (by decide) ?_
  refine rw_iast hx hb hW (by decide) (k + 5) (get_oT hk (j := 4) rfl) (v := 14) (by decide) (by decide) (by decide) dX11_init_65 (fun H locs hW => ?_)
  obtain ⟨M10, hM10⟩ : ∃ z, z = upd2 M9 (k + 5) 3 14 := ⟨_, rfl⟩
  rw [← hM10] at hW
  have hsM10 : ∀ q, q < k + 5 → M10 q = M9 q := fun q hq => by rw [hM10]; exact upd2_ne1 (by omega)
  have hrM10 : M10 (k + 5) = (updI (updI (updI (updI zr 0 0) 1 5) 2 9) 3 14) := by rw [hM10, upd2_row, hrM9]
  refine lv_dup hx hb dX11_init_66 rfl ?_
  refine rw_iconst hx hb dX11_init_67 ?_
  refine rw_bipush hx hb dX11_init_68 (by decide) ?_
  refine rw_iast hx hb hW (by decide) (k + 5) (get_oT hk (j := 4) rfl) (v := 19) (by decide) (by decide) (by decide) dX11_init_70 (fun H locs hW => ?_)
  obtain ⟨M11, hM11⟩ : ∃ z, z = upd2 M10 (k + 5) 4 19 := ⟨_, rfl⟩
  rw [← hM11] at hW
  have hsM11 : ∀ q, q < k + 5 → M11 q = M10 q := fun q hq => by rw [hM11]; exact upd2_ne1 (by omega)
  have hrM11 : M11 (k + 5) = (updI (updI (updI (updI (updI zr 0 0) 1 5) 2 9) 3 14) 4 19) := by rw [hM11, upd2_row, hrM10]
  refine lv_dup hx hb dX11_init_71 rfl ?_
  refine rw_iconst hx hb dX11_init_72 ?_
  refine rw_bipush hx hb dX11_init_73 (by decide) ?_
  refine rw_iast hx hb hW (by decide) (k + 5) (get_oT hk (j := 4) rfl) (v := 22) (by decide) (by decide) (by decide) dX11_init_75 (fun H locs hW => ?_)
  obtain ⟨M12, hM12⟩ : ∃ z, z = upd2 M11 (k + 5) 5 22 := ⟨_, rfl⟩
  rw [← hM12] at hW
  have hsM12 : ∀ q, q < k + 5 → M12 q = M11 q := fun q hq => by rw [hM12]; exact upd2_ne1 (by omega)
  have hrM12 : M12 (k + 5) = (updI (updI (updI (updI (updI (updI zr 0 0) 1 5) 2 9) 3 14) 4 19) 5 22) := by rw [hM12, upd2_row, hrM11]
  refine lv_dup hx hb dX11_init_76 rfl ?_
  refine rw_bipush hx hb dX11_init_77 (by decide) ?_
  refine rw_bipush hx hb dX11_init_79 (by decide) ?_
  refine rw_iast hx hb hW (by decide) (k + 5) (get_oT hk (j := 4) rfl) (v := 26) (by decide) (by decide) (by decide) dX11_init_81 (fun H locs hW => ?_)
  obtain ⟨M13, hM13⟩ : ∃ z, z = upd2 M12 (k + 5) 6 26 := ⟨_, rfl⟩
  rw [← hM13] at hW
  have hsM13 : ∀ q, q < k + 5 → M13 q = M12 q := fun q hq => by rw [hM13]; exact upd2_ne1 (by omega)
  have hrM13 : M13 (k + 5) = (updI (updI (updI (updI (updI (updI (updI zr 0 0) 1 5) 2 9) 3 14) 4 19) 5 22) 6 26) := by rw [hM13, upd2_row, hrM12]
  refine lv_dup hx hb dX11_init_82 rfl ?_
  refine rw_bipush hx hb dX11_init_83 (by decide) ?_
  refine rw_bipush hx hb dX11_init_85 (by decide) ?_
  refine rw_iast hx hb hW (by decide) (k + 5) (get_oT hk (j := 4) rfl) (v := 31) (by decide) (by decide) (by decide) dX11_init_87 (fun H locs hW => ?_)
  obtain ⟨M14, hM14⟩ : ∃ z, z = upd2 M13 (k + 5) 7 31 := ⟨_, rfl⟩
  rw [← hM14] at hW
  have hsM14 : ∀ q, q < k + 5 → M14 q = M13 q := fun q hq => by rw [hM14]; exact upd2_ne1 (by omega)
  have hrM14 : M14 (k + 5) = (updI (updI (updI (updI (updI (updI (updI (updI zr 0 0) 1 5) 2 9) 3 14) 4 19) 5 22) 6 26) 7 31) := by rw [hM14, upd2_row, hrM13]
  refine lv_dup hx hb dX11_init_88 rfl ?_
  refine rw_bipush hx hb dX11_init_89 (by decide) ?_
  refine rw_bipush hx hb dX11_init_91 (by decide) ?_
  refine rw_iast hx hb hW (by decide) (k + 5) (get_oT hk (j := 4) rfl) (v := 35) (by decide) (by decide) (by decide) dX11_init_93 (fun H locs hW => ?_)
  obtain ⟨M15, hM15⟩ : ∃ z, z = upd2 M14 (k + 5) 8 35 := ⟨_, rfl⟩
  rw [← hM15] at hW
  have hsM15 : ∀ q, q < k + 5 → M15 q = M14 q := fun q hq => by rw [hM15]; exact upd2_ne1 (by omega)
  have hrM15 : M15 (k + 5) = (updI (updI (updI (updI (updI (updI (updI (updI (updI zr 0 0) 1 5) 2 9) 3 14) 4 19) 5 22) 6 26) 7 31) 8 35) := by rw [hM15, upd2_row, hrM14]
  refine lv_dup hx hb dX11_init_94 rfl ?_
  refine rw_bipush hx hb dX11_init_95 (by decide) ?_
  refine rw_bipush hx hb dX11_init_97 (by decide) ?_
  refine rw_iast hx hb hW (by decide) (k + 5) (get_oT hk (j := 4) rfl) (v := 40) (by decide) (by decide) (by decide) dX11_init_99 (fun H locs hW => ?_)
  obtain ⟨M16, hM16⟩ : ∃ z, z = upd2 M15 (k + 5) 9 40 := ⟨_, rfl⟩
  rw [← hM16] at hW
  have hsM16 : ∀ q, q < k + 5 → M16 q = M15 q := fun q hq => by rw [hM16]; exact upd2_ne1 (by omega)
  have hrM16 : M16 (k + 5) = (updI (updI (updI (updI (updI (updI (updI (updI (updI (updI zr 0 0) 1 5) 2 9) 3 14) 4 19) 5 22) 6 26) 7 31) 8 35) 9 40) := by rw [hM16, upd2_row, hrM15]
  refine lv_dup hx hb dX11_init_100 rfl ?_
  refine rw_bipush hx hb dX11_init_101 (by decide) ?_
  refine rw_bipush hx hb dX11_init_103 (by decide) ?_
  refine rw_iast hx hb hW (by decide) (k + 5) (get_oT hk (j := 4) rfl) (v := 43) (by decide) (by decide) (by decide) dX11_init_105 (fun H locs hW => ?_)
  obtain ⟨M17, hM17⟩ : ∃ z, z = upd2 M16 (k + 5) 10 43 := ⟨_, rfl⟩
  rw [← hM17] at hW
  have hsM17 : ∀ q, q < k + 5 → M17 q = M16 q := fun q hq => by rw [hM17]; exact upd2_ne1 (by omega)
  have hrM17 : M17 (k + 5) = (updI (updI (updI (updI (updI (updI (updI (updI (updI (updI (updI zr 0 0) 1 5) 2 9) 3 14) 4 19) 5 22) 6 26) 7 31) 8 35) 9 40) 10 43) := by rw [hM17, upd2_row, hrM16]
  refine lv_dup hx hb dX11_init_106 rfl ?_
  refine rw_bipush hx hb dX11_init_107 (by decide) ?_
  refine rw_bipush hx hb dX11_init_109 (by decide) ?_
  refine rw_iast hx hb hW (by decide) (k + 5) (get_oT hk (j := 4) rfl) (v := 47) (by decide) (by decide) (by decide) dX11_init_111 (fun H locs hW => ?_)
  obtain ⟨M18, hM18⟩ : ∃ z, z = upd2 M17 (k + 5) 11 47 := ⟨_, rfl⟩
  rw [← hM18] at hW
  have hsM18 : ∀ q, q < k + 5 → M18 q = M17 q := fun q hq => by rw [hM18]; exact upd2_ne1 (by omega)
  have hrM18 : M18 (k + 5) = (updI (updI (updI (updI (updI (updI (updI (updI (updI (updI (updI (updI zr 0 0) 1 5) 2 9) 3 14) 4 19) 5 22) 6 26) 7 31) 8 35) 9 40) 10 43) 11 47) := by rw [hM18, upd2_row, hrM17]
  refine lv_dup hx hb dX11_init_112 rfl ?_
  refine rw_bipush hx hb dX11_init_113 (by decide) ?_
  refine rw_bipush hx hb dX11_init_115 (by decide) ?_
  refine rw_iast hx hb hW (by decide) (k + 5) (get_oT hk (j := 4) rfl) (v := 53) (by decide) (by decide) (by decide) dX11_init_117 (fun H locs hW => ?_)
  obtain ⟨M19, hM19⟩ : ∃ z, z = upd2 M18 (k + 5) 12 53 := ⟨_, rfl⟩
  rw [← hM19] at hW
  have hsM19 : ∀ q, q < k + 5 → M19 q = M18 q := fun q hq => by rw [hM19]; exact upd2_ne1 (by omega)
  have hrM19 : M19 (k + 5) = (updI (updI (updI (updI (updI (updI (updI (updI (updI (updI (updI (updI (updI zr 0 0) 1 5) 2 9) 3 14) 4 19) 5 22) 6 26) 7 31) 8 35) 9 40) 10 43) 11 47) 12 53) := by rw [hM19, upd2_row, hrM18]
  refine lv_dup hx hb dX11_init_118 rfl ?_
  refine rw_bipush hx hb dX11_init_119 (by decide) ?_
  refine rw_bipush hx hb dX11_init_121 (by decide) ?_
  refine rw_iast hx hb hW (by decide) (k + 5) (get_oT hk (j := 4) rfl) (v := 57) (by decide) (by decide) (by decide) dX11_init_123 (fun H locs hW => ?_)
  obtain ⟨M20, hM20⟩ : ∃ z, z = upd2 M19 (k + 5) 13 57 := ⟨_, rfl⟩
  rw [← hM20] at hW
  have hsM20 : ∀ q, q < k + 5 → M20 q = M19 q := fun q hq => by rw [hM20]; exact upd2_ne1 (by omega)
  have hrM20 : M20 (k + 5) = (updI (updI (updI (updI (updI (updI (updI (updI (updI (updI (updI (updI (updI (updI zr 0 0) 1 5) 2 9) 3 14) 4 19) 5 22) 6 26) 7 31) 8 35) 9 40) 10 43) 11 47) 12 53) 13 57) := by rw [hM20, upd2_row, hrM19]
  refine lv_dup hx hb dX11_init_124 rfl ?_
  refine rw_bipush hx hb dX11_init_125 (by decide) ?_
  refine rw_bipush hx hb dX11_init_127 (by decide) ?_
  refine rw_iast hx hb hW (by decide) (k + 5) (get_oT hk (j := 4) rfl) (v := 64) (by decide) (by decide) (by decide) dX11_init_129 (fun H locs hW => ?_)
  obtain ⟨M21, hM21⟩ : ∃ z, z = upd2 M20 (k + 5) 14 64 := ⟨_, rfl⟩
  rw [← hM21] at hW
  have hsM21 : ∀ q, q < k + 5 → M21 q = M20 q := fun q hq => by rw [hM21]; exact upd2_ne1 (by omega)
  have hrM21 : M21 (k + 5) = (updI (updI (updI (updI (updI (updI (updI (updI (updI (updI (updI (updI (updI (updI (updI zr 0 0) 1 5) 2 9) 3 14) 4 19) 5 22) 6 26) 7 31) 8 35) 9 40) 10 43) 11 47) 12 53) 13 57) 14 64) := by rw [hM21, upd2_row, hrM20]
  refine nwP hx hb hts hown hnm hk hW hcl 17 rfl (k + 5) (by show _ < k + (5 + 1); omega) qX11_26 (fun _ => ⟨rfl, rfl⟩) dX11_init_130 (fun H locs hcl hW => ?_)
  have hcl : CloL (L0 ++ (.inl (11, [k + 1 + 3, 0, k + 2 + 3, 0, 0, 0, k + 3 + 3, 0, k + 4 + 3, 0, 0, 0, 0, 0, 0, 0, 0, k + 5 + 3, 2, 2, 2, 2, 0, 2, 2, 2, 2, 0]) :: ([.inr (0, 235, [])] ++ [.inr (0, 47, [])] ++ [.inr (0, 9, [])] ++ [.inr (0, 320, [])] ++ [.inr (0, 15, [])]))) := hcl
  have hW : Wo G ad5 CA 6 (L0 ++ (.inl (11, [k + 1 + 3, 0, k + 2 + 3, 0, 0, 0, k + 3 + 3, 0, k + 4 + 3, 0, 0, 0, 0, 0, 0, 0, 0, k + 5 + 3, 2, 2, 2, 2, 0, 2, 2, 2, 2, 0]) :: ([.inr (0, 235, [])] ++ [.inr (0, 47, [])] ++ [.inr (0, 9, [])] ++ [.inr (0, 320, [])] ++ [.inr (0, 15, [])]))) (AG ad _ s.heap.size) s M21 H locs := hW
  refine lv_aload_n hx hb dX11_init_133 rfl (lv_at hl 0 rfl) ?_
  refine rw_bipush hx hb dX11_init_134 (by decide) ?_
  refine nwA (n := k + 6) hx hb hts hA hk rfl hW hcl 0 (wm_3 _ (List.mem_of_getElem? (i := 0) rfl)) (Or.inl ⟨rfl, rfl⟩) (N := 64) rfl (by decide) (Nat.le_of_ble_eq_true rfl) (Nat.le_of_ble_eq_true rfl) dX11_init_136 (fun ad6 H hx6 hcl hW => ?_)
  rw [← hx6 k (by omega)] at hl
  rw [← hx6 k (by omega)]
  have hc6 : ∀ j, j < k + 1 → ad6 j = ad j := fun j hj => (hx6 j (by omega)).trans (hc5 j hj)
  obtain ⟨M22, hM22⟩ : ∃ z, z = updR M21 (k + 6) zr := ⟨_, rfl⟩
  rw [← hM22] at hW
  have hsM22 : ∀ q, q < k + 6 → M22 q = M21 q := fun q hq => by rw [hM22]; exact updR_ne (by omega)
  have hrM22 : M22 (k + 6) = zr := by rw [hM22]; exact updR_eq
  refine lv_dup hx hb dX11_init_138 rfl ?_
  refine rw_iconst hx hb dX11_init_139 ?_
  refine rw_bipush hx hb dX11_init_140 (by decide) ?_
  refine rw_iast hx hb hW (by decide) (k + 6) (get_oT hk (j := 5) rfl) (v := 99) (by decide) (by decide) (by decide) dX11_init_142 (fun H locs hW => ?_)
  obtain ⟨M23, hM23⟩ : ∃ z, z = upd2 M22 (k + 6) 0 99 := ⟨_, rfl⟩
  rw [← hM23] at hW
  have hsM23 : ∀ q, q < k + 6 → M23 q = M22 q := fun q hq => by rw [hM23]; exact upd2_ne1 (by omega)
  have hrM23 : M23 (k + 6) = (updI zr 0 99) := by rw [hM23, upd2_row, hrM22]
  refine lv_dup hx hb dX11_init_143 rfl ?_
  refine rw_iconst hx hb dX11_init_144 ?_
  refine rw_bipush hx hb dX11_init_145 (by decide) ?_
  refine rw_iast hx hb hW (by decide) (k + 6) (get_oT hk (j := 5) rfl) (v := 101) (by decide) (by decide) (by decide) dX11_init_147 (fun H locs hW => ?_)
  obtain ⟨M24, hM24⟩ : ∃ z, z = upd2 M23 (k + 6) 1 101 := ⟨_, rfl⟩
  rw [← hM24] at hW
  have hsM24 : ∀ q, q < k + 6 → M24 q = M23 q := fun q hq => by rw [hM24]; exact upd2_ne1 (by omega)
  have hrM24 : M24 (k + 6) = (updI (updI zr 0 99) 1 101) := by rw [hM24, upd2_row, hrM23]
  refine lv_dup hx hb dX11_init_148 rfl ?_
  refine rw_iconst hx hb dX11_init_149 ?_
  refine rw_bipush hx hb dX11_init_150 (by decide) ?_
  refine rw_iast hx hb hW (by decide) (k + 6) (get_oT hk (j := 5) rfl) (v := 108) (by decide) (by decide) (by decide) dX11_init_152 (fun H locs hW => ?_)
  obtain ⟨M25, hM25⟩ : ∃ z, z = upd2 M24 (k + 6) 2 108 := ⟨_, rfl⟩
  rw [← hM25] at hW
  have hsM25 : ∀ q, q < k + 6 → M25 q = M24 q := fun q hq => by rw [hM25]; exact upd2_ne1 (by omega)
  have hrM25 : M25 (k + 6) = (updI (updI (updI zr 0 99) 1 101) 2 108) := by rw [hM25, upd2_row, hrM24]
  refine lv_dup hx hb dX11_init_153 rfl ?_
  refine rw_iconst hx hb dX11_init_154 ?_
  refine rw_bipush hx hb dX11_init_155 (by decide) ?_
  refine rw_iast hx hb hW (by decide) (k + 6) (get_oT hk (j := 5) rfl) (v := 108) (by decide) (by decide) (by decide) dX11_init_157 (fun H locs hW => ?_)
  obtain ⟨M26, hM26⟩ : ∃ z, z = upd2 M25 (k + 6) 3 108 := ⟨_, rfl⟩
  rw [← hM26] at hW
  have hsM26 : ∀ q, q < k + 6 → M26 q = M25 q := fun q hq => by rw [hM26]; exact upd2_ne1 (by omega)
  have hrM26 : M26 (k + 6) = (updI (updI (updI (updI zr 0 99) 1 101) 2 108) 3 108) := by rw [hM26, upd2_row, hrM25]
  refine lv_dup hx hb dX11_init_158 rfl ?_
  refine rw_iconst hx hb dX11_init_159 ?_
  refine rw_bipush hx hb dX11_init_160 (by decide) ?_
  refine rw_iast hx hb hW (by decide) (k + 6) (get_oT hk (j := 5) rfl) (v := 115) (by decide) (by decide) (by decide) dX11_init_162 (fun H locs hW => ?_)
  obtain ⟨M27, hM27⟩ : ∃ z, z = upd2 M26 (k + 6) 4 115 := ⟨_, rfl⟩
  rw [← hM27] at hW
  have hsM27 : ∀ q, q < k + 6 → M27 q = M26 q := fun q hq => by rw [hM27]; exact upd2_ne1 (by omega)
  have hrM27 : M27 (k + 6) = (updI (updI (updI (updI (updI zr 0 99) 1 101) 2 108) 3 108) 4 115) := by rw [hM27, upd2_row, hrM26]
  refine lv_dup hx hb dX11_init_163 rfl ?_
  refine rw_iconst hx hb dX11_init_164 ?_
  refine rw_bipush hx hb dX11_init_165 (by decide) ?_
  refine rw_iast hx hb hW (by decide) (k + 6) (get_oT hk (j := 5) rfl) (v := 114) (by decide) (by decide) (by decide) dX11_init_167 (fun H locs hW => ?_)
  obtain ⟨M28, hM28⟩ : ∃ z, z = upd2 M27 (k + 6) 5 114 := ⟨_, rfl⟩
  rw [← hM28] at hW
  have hsM28 : ∀ q, q < k + 6 → M28 q = M27 q := fun q hq => by rw [hM28]; exact upd2_ne1 (by omega)
  have hrM28 : M28 (k + 6) = (updI (updI (updI (updI (updI (updI zr 0 99) 1 101) 2 108) 3 108) 4 115) 5 114) := by rw [hM28, upd2_row, hrM27]
  refine lv_dup hx hb dX11_init_168 rfl ?_
  refine rw_bipush hx hb dX11_init_169 (by decide) ?_
  refine rw_bipush hx hb dX11_init_171 (by decide) ?_
  refine rw_iast hx hb hW (by decide) (k + 6) (get_oT hk (j := 5) rfl) (v := 111) (by decide) (by decide) (by decide) dX11_init_173 (fun H locs hW => ?_)
  obtain ⟨M29, hM29⟩ : ∃ z, z = upd2 M28 (k + 6) 6 111 := ⟨_, rfl⟩
  rw [← hM29] at hW
  have hsM29 : ∀ q, q < k + 6 → M29 q = M28 q := fun q hq => by rw [hM29]; exact upd2_ne1 (by omega)
  have hrM29 : M29 (k + 6) = (updI (updI (updI (updI (updI (updI (updI zr 0 99) 1 101) 2 108) 3 108) 4 115) 5 114) 6 111) := by rw [hM29, upd2_row, hrM28]
  refine lv_dup hx hb dX11_init_174 rfl ?_
  refine rw_bipush hx hb dX11_init_175 (by decide) ?_
  refine rw_bipush hx hb dX11_init_177 (by decide) ?_
  refine rw_iast hx hb hW (by decide) (k + 6) (get_oT hk (j := 5) rfl) (v := 111) (by decide) (by decide) (by decide) dX11_init_179 (fun H locs hW => ?_)
  obtain ⟨M30, hM30⟩ : ∃ z, z = upd2 M29 (k + 6) 7 111 := ⟨_, rfl⟩
  rw [← hM30] at hW
  have hsM30 : ∀ q, q < k + 6 → M30 q = M29 q := fun q hq => by rw [hM30]; exact upd2_ne1 (by omega)
  have hrM30 : M30 (k + 6) = (updI (updI (updI (updI (updI (updI (updI (updI zr 0 99) 1 101) 2 108) 3 108) 4 115) 5 114) 6 111) 7 111) := by rw [hM30, upd2_row, hrM29]
  refine lv_dup hx hb dX11_init_180 rfl ?_
  refine rw_bipush hx hb dX11_init_181 (by decide) ?_
  refine rw_bipush hx hb dX11_init_183 (by decide) ?_
  refine rw_iast hx hb hW (by decide) (k + 6) (get_oT hk (j := 5) rfl) (v := 109) (by decide) (by decide) (by decide) dX11_init_185 (fun H locs hW => ?_)
  obtain ⟨M31, hM31⟩ : ∃ z, z = upd2 M30 (k + 6) 8 109 := ⟨_, rfl⟩
  rw [← hM31] at hW
  have hsM31 : ∀ q, q < k + 6 → M31 q = M30 q := fun q hq => by rw [hM31]; exact upd2_ne1 (by omega)
  have hrM31 : M31 (k + 6) = (updI (updI (updI (updI (updI (updI (updI (updI (updI zr 0 99) 1 101) 2 108) 3 108) 4 115) 5 114) 6 111) 7 111) 8 109) := by rw [hM31, upd2_row, hrM30]
  refine lv_dup hx hb dX11_init_186 rfl ?_
  refine rw_bipush hx hb dX11_init_187 (by decide) ?_
  refine rw_bipush hx hb dX11_init_189 (by decide) ?_
  refine rw_iast hx hb hW (by decide) (k + 6) (get_oT hk (j := 5) rfl) (v := 115) (by decide) (by decide) (by decide) dX11_init_191 (fun H locs hW => ?_)
  obtain ⟨M32, hM32⟩ : ∃ z, z = upd2 M31 (k + 6) 9 115 := ⟨_, rfl⟩
  rw [← hM32] at hW
  have hsM32 : ∀ q, q < k + 6 → M32 q = M31 q := fun q hq => by rw [hM32]; exact upd2_ne1 (by omega)
  have hrM32 : M32 (k + 6) = (updI (updI (updI (updI (updI (updI (updI (updI (updI (updI zr 0 99) 1 101) 2 108) 3 108) 4 115) 5 114) 6 111) 7 111) 8 109) 9 115) := by rw [hM32, upd2_row, hrM31]
  refine lv_dup hx hb dX11_init_192 rfl ?_
  refine rw_bipush hx hb dX11_init_193 (by decide) ?_
  refine rw_bipush hx hb dX11_init_195 (by decide) ?_
  refine rw_iast hx hb hW (by decide) (k + 6) (get_oT hk (j := 5) rfl) (v := 108) (by decide) (by decide) (by decide) dX11_init_197 (fun H locs hW => ?_)
  obtain ⟨M33, hM33⟩ : ∃ z, z = upd2 M32 (k + 6) 10 108 := ⟨_, rfl⟩
  rw [← hM33] at hW
  have hsM33 : ∀ q, q < k + 6 → M33 q = M32 q := fun q hq => by rw [hM33]; exact upd2_ne1 (by omega)
  have hrM33 : M33 (k + 6) = (updI (updI (updI (updI (updI (updI (updI (updI (updI (updI (updI zr 0 99) 1 101) 2 108) 3 108) 4 115) 5 114) 6 111) 7 111) 8 109) 9 115) 10 108) := by rw [hM33, upd2_row, hrM32]
  refine lv_dup hx hb dX11_init_198 rfl ?_
  refine rw_bipush hx hb dX11_init_199 (by decide) ?_
  refine rw_bipush hx hb dX11_init_201 (by decide) ?_
  refine rw_iast hx hb hW (by decide) (k + 6) (get_oT hk (j := 5) rfl) (v := 111) (by decide) (by decide) (by decide) dX11_init_203 (fun H locs hW => ?_)
  obtain ⟨M34, hM34⟩ : ∃ z, z = upd2 M33 (k + 6) 11 111 := ⟨_, rfl⟩
  rw [← hM34] at hW
  have hsM34 : ∀ q, q < k + 6 → M34 q = M33 q := fun q hq => by rw [hM34]; exact upd2_ne1 (by omega)
  have hrM34 : M34 (k + 6) = (updI (updI (updI (updI (updI (updI (updI (updI (updI (updI (updI (updI zr 0 99) 1 101) 2 108) 3 108) 4 115) 5 114) 6 111) 7 111) 8 109) 9 115) 10 108) 11 111) := by rw [hM34, upd2_row, hrM33]
  refine lv_dup hx hb dX11_init_204 rfl ?_
  refine rw_bipush hx hb dX11_init_205 (by decide) ?_
  refine rw_bipush hx hb dX11_init_207 (by decide) ?_
  refine rw_iast hx hb hW (by decide) (k + 6) (get_oT hk (j := 5) rfl) (v := 112) (by decide) (by decide) (by decide) dX11_init_209 (fun H locs hW => ?_)
  obtain ⟨M35, hM35⟩ : ∃ z, z = upd2 M34 (k + 6) 12 112 := ⟨_, rfl⟩
  rw [← hM35] at hW
  have hsM35 : ∀ q, q < k + 6 → M35 q = M34 q := fun q hq => by rw [hM35]; exact upd2_ne1 (by omega)
  have hrM35 : M35 (k + 6) = (updI (updI (updI (updI (updI (updI (updI (updI (updI (updI (updI (updI (updI zr 0 99) 1 101) 2 108) 3 108) 4 115) 5 114) 6 111) 7 111) 8 109) 9 115) 10 108) 11 111) 12 112) := by rw [hM35, upd2_row, hrM34]
  refine lv_dup hx hb dX11_init_210 rfl ?_
  refine rw_bipush hx hb dX11_init_211 (by decide) ?_
  refine rw_bipush hx hb dX11_init_213 (by decide) ?_
  refine rw_iast hx hb hW (by decide) (k + 6) (get_oT hk (j := 5) rfl) (v := 101) (by decide) (by decide) (by decide) dX11_init_215 (fun H locs hW => ?_)
  obtain ⟨M36, hM36⟩ : ∃ z, z = upd2 M35 (k + 6) 13 101 := ⟨_, rfl⟩
  rw [← hM36] at hW
  have hsM36 : ∀ q, q < k + 6 → M36 q = M35 q := fun q hq => by rw [hM36]; exact upd2_ne1 (by omega)
  have hrM36 : M36 (k + 6) = (updI (updI (updI (updI (updI (updI (updI (updI (updI (updI (updI (updI (updI (updI zr 0 99) 1 101) 2 108) 3 108) 4 115) 5 114) 6 111) 7 111) 8 109) 9 115) 10 108) 11 111) 12 112) 13 101) := by rw [hM36, upd2_row, hrM35]
  refine lv_dup hx hb dX11_init_216 rfl ?_
  refine rw_bipush hx hb dX11_init_217 (by decide) ?_
  refine rw_bipush hx hb dX11_init_219 (by decide) ?_
  refine rw_iast hx hb hW (by decide) (k + 6) (get_oT hk (j := 5) rfl) (v := 104) (by decide) (by decide) (by decide) dX11_init_221 (fun H locs hW => ?_)
  obtain ⟨M37, hM37⟩ : ∃ z, z = upd2 M36 (k + 6) 14 104 := ⟨_, rfl⟩
  rw [← hM37] at hW
  have hsM37 : ∀ q, q < k + 6 → M37 q = M36 q := fun q hq => by rw [hM37]; exact upd2_ne1 (by omega)
  have hrM37 : M37 (k + 6) = (updI (updI (updI (updI (updI (updI (updI (updI (updI (updI (updI (updI (updI (updI (updI zr 0 99) 1 101) 2 108) 3 108) 4 115) 5 114) 6 111) 7 111) 8 109) 9 115) 10 108) 11 111) 12 112) 13 101) 14 104) := by rw [hM37, upd2_row, hrM36]
  refine lv_dup hx hb dX11_init_222 rfl ?_
  refine rw_bipush hx hb dX11_init_223 (by decide) ?_
  refine rw_bipush hx hb dX11_init_225 (by decide) ?_
  refine rw_iast hx hb hW (by decide) (k + 6) (get_oT hk (j := 5) rfl) (v := 101) (by decide) (by decide) (by decide) dX11_init_227 (fun H locs hW => ?_)
  obtain ⟨M38, hM38⟩ : ∃ z, z = upd2 M37 (k + 6) 15 101 := ⟨_, rfl⟩
  rw [← hM38] at hW
  have hsM38 : ∀ q, q < k + 6 → M38 q = M37 q := fun q hq => by rw [hM38]; exact upd2_ne1 (by omega)
  have hrM38 : M38 (k + 6) = (updI (updI (updI (updI (updI (updI (updI (updI (updI (updI (updI (updI (updI (updI (updI (updI zr 0 99) 1 101) 2 108) 3 108) 4 115) 5 114) 6 111) 7 111) 8 109) 9 115) 10 108) 11 111) 12 112) 13 101) 14 104) 15 101) := by rw [hM38, upd2_row, hrM37]
  refine lv_dup hx hb dX11_init_228 rfl ?_
  refine rw_bipush hx hb dX11_init_229 (by decide) ?_
  refine rw_bipush hx hb dX11_init_231 (by decide) ?_
  refine rw_iast hx hb hW (by decide) (k + 6) (get_oT hk (j := 5) rfl) (v := 100) (by decide) (by decide) (by decide) dX11_init_233 (fun H locs hW => ?_)
  obtain ⟨M39, hM39⟩ : ∃ z, z = upd2 M38 (k + 6) 16 100 := ⟨_, rfl⟩
  rw [← hM39] at hW
  have hsM39 : ∀ q, q < k + 6 → M39 q = M38 q := fun q hq => by rw [hM39]; exact upd2_ne1 (by omega)
  have hrM39 : M39 (k + 6) = (updI (updI (updI (updI (updI (updI (updI (updI (updI (updI (updI (updI (updI (updI (updI (updI (updI zr 0 99) 1 101) 2 108) 3 108) 4 115) 5 114) 6 111) 7 111) 8 109) 9 115) 10 108) 11 111) 12 112) 13 101) 14 104) 15 101) 16 100) := by rw [hM39, upd2_row, hrM38]
  refine lv_dup hx hb dX11_init_234 rfl ?_
  refine rw_bipush hx hb dX11_init_235 (by decide) ?_
  refine rw_bipush hx hb dX11_init_237 (by decide) ?_
  refine rw_iast hx hb hW (by decide) (k + 6) (get_oT hk (j := 5) rfl) (v := 103) (by decide) (by decide) (by decide) dX11_init_239 (fun H locs hW => ?_)
  obtain ⟨M40, hM40⟩ : ∃ z, z = upd2 M39 (k + 6) 17 103 := ⟨_, rfl⟩
  rw [← hM40] at hW
  have hsM40 : ∀ q, q < k + 6 → M40 q = M39 q := fun q hq => by rw [hM40]; exact upd2_ne1 (by omega)
  have hrM40 : M40 (k + 6) = (updI (updI (updI (updI (updI (updI (updI (updI (updI (updI (updI (updI (updI (updI (updI (updI (updI (updI zr 0 99) 1 101) 2 108) 3 108) 4 115) 5 114) 6 111) 7 111) 8 109) 9 115) 10 108) 11 111) 12 112) 13 101) 14 104) 15 101) 16 100) 17 103) := by rw [hM40, upd2_row, hrM39]
  refine lv_dup hx hb dX11_init_240 rfl ?_
  refine rw_bipush hx hb dX11_init_241 (by decide) ?_
  refine rw_bipush hx hb dX11_init_243 (by decide) ?_
  refine rw_iast hx hb hW (by decide) (k + 6) (get_oT hk (j := 5) rfl) (v := 101) (by decide) (by decide) (by decide) dX11_init_245 (fun H locs hW => ?_)
  obtain ⟨M41, hM41⟩ : ∃ z, z = upd2 M40 (k + 6) 18 101 := ⟨_, rfl⟩
  rw [← hM41] at hW
  have hsM41 : ∀ q, q < k + 6 → M41 q = M40 q := fun q hq => by rw [hM41]; exact upd2_ne1 (by omega)
  have hrM41 : M41 (k + 6) = (updI (updI (updI (updI (updI (updI (updI (updI (updI (updI (updI (updI (updI (updI (updI (updI (updI (updI (updI zr 0 99) 1 101) 2 108) 3 108) 4 115) 5 114) 6 111) 7 111) 8 109) 9 115) 10 108) 11 111) 12 112) 13 101) 14 104) 15 101) 16 100) 17 103) 18 101) := by rw [hM41, upd2_row, hrM40]
  refine lv_dup hx hb dX11_init_246 rfl ?_
  refine rw_bipush hx hb dX11_init_247 (by decide) ?_
  refine rw_bipush hx hb dX11_init_249 (by decide) ?_
  refine rw_iast hx hb hW (by decide) (k + 6) (get_oT hk (j := 5) rfl) (v := 107) (by decide) (by decide) (by decide) dX11_init_251 (fun H locs hW => ?_)
  obtain ⟨M42, hM42⟩ : ∃ z, z = upd2 M41 (k + 6) 19 107 := ⟨_, rfl⟩
  rw [← hM42] at hW
  have hsM42 : ∀ q, q < k + 6 → M42 q = M41 q := fun q hq => by rw [hM42]; exact upd2_ne1 (by omega)
  have hrM42 : M42 (k + 6) = (updI (updI (updI (updI (updI (updI (updI (updI (updI (updI (updI (updI (updI (updI (updI (updI (updI (updI (updI (updI zr 0 99) 1 101) 2 108) 3 108) 4 115) 5 114) 6 111) 7 111) 8 109) 9 115) 10 108) 11 111) 12 112) 13 101) 14 104) 15 101) 16 100) 17 103) 18 101) 19 107) := by rw [hM42, upd2_row, hrM41]
  refine lv_dup hx hb dX11_init_252 rfl ?_
  refine rw_bipush hx hb dX11_init_253 (by decide) ?_
  refine rw_bipush hx hb dX11_init_255 (by decide) ?_
  refine rw_iast hx hb hW (by decide) (k + 6) (get_oT hk (j := 5) rfl) (v := 101) (by decide) (by decide) (by decide) dX11_init_257 (fun H locs hW => ?_)
  obtain ⟨M43, hM43⟩ : ∃ z, z = upd2 M42 (k + 6) 20 101 := ⟨_, rfl⟩
  rw [← hM43] at hW
  have hsM43 : ∀ q, q < k + 6 → M43 q = M42 q := fun q hq => by rw [hM43]; exact upd2_ne1 (by omega)
  have hrM43 : M43 (k + 6) = (updI (updI (updI (updI (updI (updI (updI (updI (updI (updI (updI (updI (updI (updI (updI (updI (updI (updI (updI (updI (updI zr 0 99) 1 101) 2 108) 3 108) 4 115) 5 114) 6 111) 7 111) 8 109) 9 115) 10 108) 11 111) 12 112) 13 101) 14 104) 15 101) 16 100) 17 103) 18 101) 19 107) 20 101) := by rw [hM43, upd2_row, hrM42]
  refine lv_dup hx hb dX11_init_258 rfl ?_
  refine rw_bipush hx hb dX11_init_259 (by decide) ?_
  refine rw_bipush hx hb dX11_init_261 (by decide) ?_
  refine rw_iast hx hb hW (by decide) (k + 6) (get_oT hk (j := 5) rfl) (v := 103) (by decide) (by decide) (by decide) dX11_init_263 (fun H locs hW => ?_)
  obtain ⟨M44, hM44⟩ : ∃ z, z = upd2 M43 (k + 6) 21 103 := ⟨_, rfl⟩
  rw [← hM44] at hW
  have hsM44 : ∀ q, q < k + 6 → M44 q = M43 q := fun q hq => by rw [hM44]; exact upd2_ne1 (by omega)
  have hrM44 : M44 (k + 6) = (updI (updI (updI (updI (updI (updI (updI (updI (updI (updI (updI (updI (updI (updI (updI (updI (updI (updI (updI (updI (updI (updI zr 0 99) 1 101) 2 108) 3 108) 4 115) 5 114) 6 111) 7 111) 8 109) 9 115) 10 108) 11 111) 12 112) 13 101) 14 104) 15 101) 16 100) 17 103) 18 101) 19 107) 20 101) 21 103) := by rw [hM44, upd2_row, hrM43]
  refine lv_dup hx hb dX11_init_264 rfl ?_
  refine rw_bipush hx hb dX11_init_265 (by decide) ?_
  refine rw_bipush hx hb dX11_init_267 (by decide) ?_
  refine rw_iast hx hb hW (by decide) (k + 6) (get_oT hk (j := 5) rfl) (v := 115) (by decide) (by decide) (by decide) dX11_init_269 (fun H locs hW => ?_)
  obtain ⟨M45, hM45⟩ : ∃ z, z = upd2 M44 (k + 6) 22 115 := ⟨_, rfl⟩
  rw [← hM45] at hW
  have hsM45 : ∀ q, q < k + 6 → M45 q = M44 q := fun q hq => by rw [hM45]; exact upd2_ne1 (by omega)
  have hrM45 : M45 (k + 6) = (updI (updI (updI (updI (updI (updI (updI (updI (updI (updI (updI (updI (updI (updI (updI (updI (updI (updI (updI (updI (updI (updI (updI zr 0 99) 1 101) 2 108) 3 108) 4 115) 5 114) 6 111) 7 111) 8 109) 9 115) 10 108) 11 111) 12 112) 13 101) 14 104) 15 101) 16 100) 17 103) 18 101) 19 107) 20 101) 21 103) 22 115) := by rw [hM45, upd2_row, hrM44]
  refine lv_dup hx hb dX11_init_270 rfl ?_
  refine rw_bipush hx hb dX11_init_271 (by decide) ?_
  refine rw_bipush hx hb dX11_init_273 (by decide) ?_
  refine rw_iast hx hb hW (by decide) (k + 6) (get_oT hk (j := 5) rfl) (v := 105) (by decide) (by decide) (by decide) dX11_init_275 (fun H locs hW => ?_)
  obtain ⟨M46, hM46⟩ : ∃ z, z = upd2 M45 (k + 6) 23 105 := ⟨_, rfl⟩
  rw [← hM46] at hW
  have hsM46 : ∀ q, q < k + 6 → M46 q = M45 q := fun q hq => by rw [hM46]; exact upd2_ne1 (by omega)
  have hrM46 : M46 (k + 6) = (updI (updI (updI (updI (updI (updI (updI (updI (updI (updI (updI (updI (updI (updI (updI (updI (updI (updI (updI (updI (updI (updI (updI (updI zr 0 99) 1 101) 2 108) 3 108) 4 115) 5 114) 6 111) 7 111) 8 109) 9 115) 10 108) 11 111) 12 112) 13 101) 14 104) 15 101) 16 100) 17 103) 18 101) 19 107) 20 101) 21 103) 22 115) 23 105) := by rw [hM46, upd2_row, hrM45]
  refine lv_dup hx hb dX11_init_276 rfl ?_
  refine rw_bipush hx hb dX11_init_277 (by decide) ?_
  refine rw_bipush hx hb dX11_init_279 (by decide) ?_
  refine rw_iast hx hb hW (by decide) (k + 6) (get_oT hk (j := 5) rfl) (v := 100) (by decide) (by decide) (by decide) dX11_init_281 (fun H locs hW => ?_)
  obtain ⟨M47, hM47⟩ : ∃ z, z = upd2 M46 (k + 6) 24 100 := ⟨_, rfl⟩
  rw [← hM47] at hW
  have hsM47 : ∀ q, q < k + 6 → M47 q = M46 q := fun q hq => by rw [hM47]; exact upd2_ne1 (by omega)
  have hrM47 : M47 (k + 6) = (updI (updI (updI (updI (updI (updI (updI (updI (updI (updI (updI (updI (updI (updI (updI (updI (updI (updI (updI (updI (updI (updI (updI (updI (updI zr 0 99) 1 101) 2 108) 3 108) 4 115) 5 114) 6 111) 7 111) 8 109) 9 115) 10 108) 11 111) 12 112) 13 101) 14 104) 15 101) 16 100) 17 103) 18 101) 19 107) 20 101) 21 103) 22 115) 23 105) 24 100) := by rw [hM47, upd2_row, hrM46]
  refine lv_dup hx hb dX11_init_282 rfl ?_
  refine rw_bipush hx hb dX11_init_283 (by decide) ?_
  refine rw_bipush hx hb dX11_init_285 (by decide) ?_
  refine rw_iast hx hb hW (by decide) (k + 6) (get_oT hk (j := 5) rfl) (v := 101) (by decide) (by decide) (by decide) dX11_init_287 (fun H locs hW => ?_)
  obtain ⟨M48, hM48⟩ : ∃ z, z = upd2 M47 (k + 6) 25 101 := ⟨_, rfl⟩
  rw [← hM48] at hW
  have hsM48 : ∀ q, q < k + 6 → M48 q = M47 q := fun q hq => by rw [hM48]; exact upd2_ne1 (by omega)
  have hrM48 : M48 (k + 6) = (updI (updI (updI (updI (updI (updI (updI (updI (updI (updI (updI (updI (updI (updI (updI (updI (updI (updI (updI (updI (updI (updI (updI (updI (updI (updI zr 0 99) 1 101) 2 108) 3 108) 4 115) 5 114) 6 111) 7 111) 8 109) 9 115) 10 108) 11 111) 12 112) 13 101) 14 104) 15 101) 16 100) 17 103) 18 101) 19 107) 20 101) 21 103) 22 115) 23 105) 24 100) 25 101) := by rw [hM48, upd2_row, hrM47]
  refine lv_dup hx hb dX11_init_288 rfl ?_
  refine rw_bipush hx hb dX11_init_289 (by decide) ?_
  refine rw_bipush hx hb dX11_init_291 (by decide) ?_
  refine rw_iast hx hb hW (by decide) (k + 6) (get_oT hk (j := 5) rfl) (v := 102) (by decide) (by decide) (by decide) dX11_init_293 (fun H locs hW => ?_)
  obtain ⟨M49, hM49⟩ : ∃ z, z = upd2 M48 (k + 6) 26 102 := ⟨_, rfl⟩
  rw [← hM49] at hW
  have hsM49 : ∀ q, q < k + 6 → M49 q = M48 q := fun q hq => by rw [hM49]; exact upd2_ne1 (by omega)
  have hrM49 : M49 (k + 6) = (updI (updI (updI (updI (updI (updI (updI (updI (updI (updI (updI (updI (updI (updI (updI (updI (updI (updI (updI (updI (updI (updI (updI (updI (updI (updI (updI zr 0 99) 1 101) 2 108) 3 108) 4 115) 5 114) 6 111) 7 111) 8 109) 9 115) 10 108) 11 111) 12 112) 13 101) 14 104) 15 101) 16 100) 17 103) 18 101) 19 107) 20 101) 21 103) 22 115) 23 105) 24 100) 25 101) 26 102) := by rw [hM49, upd2_row, hrM48]
  refine lv_dup hx hb dX11_init_294 rfl ?_
  refine rw_bipush hx hb dX11_init_295 (by decide) ?_
  refine rw_bipush hx hb dX11_init_297 (by decide) ?_
  refine rw_iast hx hb hW (by decide) (k + 6) (get_oT hk (j := 5) rfl) (v := 111) (by decide) (by decide) (by decide) dX11_init_299 (fun H locs hW => ?_)
  obtain ⟨M50, hM50⟩ : ∃ z, z = upd2 M49 (k + 6) 27 111 := ⟨_, rfl⟩
  rw [← hM50] at hW
  have hsM50 : ∀ q, q < k + 6 → M50 q = M49 q := fun q hq => by rw [hM50]; exact upd2_ne1 (by omega)
  have hrM50 : M50 (k + 6) = (updI (updI (updI (updI (updI (updI (updI (updI (updI (updI (updI (updI (updI (updI (updI (updI (updI (updI (updI (updI (updI (updI (updI (updI (updI (updI (updI (updI zr 0 99) 1 101) 2 108) 3 108) 4 115) 5 114) 6 111) 7 111) 8 109) 9 115) 10 108) 11 111) 12 112) 13 101) 14 104) 15 101) 16 100) 17 103) 18 101) 19 107) 20 101) 21 103) 22 115) 23 105) 24 100) 25 101) 26 102) 27 111) := by rw [hM50, upd2_row, hrM49]
  refine lv_dup hx hb dX11_init_300 rfl ?_
  refine rw_bipush hx hb dX11_init_301 (by decide) ?_
  refine rw_bipush hx hb dX11_init_303 (by decide) ?_
  refine rw_iast hx hb hW (by decide) (k + 6) (get_oT hk (j := 5) rfl) (v := 111) (by decide) (by decide) (by decide) dX11_init_305 (fun H locs hW => ?_)
  obtain ⟨M51, hM51⟩ : ∃ z, z = upd2 M50 (k + 6) 28 111 := ⟨_, rfl⟩
  rw [← hM51] at hW
  have hsM51 : ∀ q, q < k + 6 → M51 q = M50 q := fun q hq => by rw [hM51]; exact upd2_ne1 (by omega)
  have hrM51 : M51 (k + 6) = (updI (updI (updI (updI (updI (updI (updI (updI (updI (updI (updI (updI (updI (updI (updI (updI (updI (updI (updI (updI (updI (updI (updI (updI (updI (updI (updI (updI (updI zr 0 99) 1 101) 2 108) 3 108) 4 115) 5 114) 6 111) 7 111) 8 109) 9 115) 10 108) 11 111) 12 112) 13 101) 14 104) 15 101) 16 100) 17 103) 18 101) 19 107) 20 101) 21 103) 22 115) 23 105) 24 100) 25 101) 26 102) 27 111) 28 111) := by rw [hM51, upd2_row, hrM50]
  refine lv_dup hx hb dX11_init_306 rfl ?_
  refine rw_bipush hx hb dX11_init_307 (by decide) ?_
  refine rw_bipush hx hb dX11_init_309 (by decide) ?_
  refine rw_iast hx hb hW (by decide) (k + 6) (get_oT hk (j := 5) rfl) (v := 108) (by decide) (by decide) (by decide) dX11_init_311 (fun H locs hW => ?_)
  obtain ⟨M52, hM52⟩ : ∃ z, z = upd2 M51 (k + 6) 29 108 := ⟨_, rfl⟩
  rw [← hM52] at hW
  have hsM52 : ∀ q, q < k + 6 → M52 q = M51 q := fun q hq => by rw [hM52]; exact upd2_ne1 (by omega)
  have hrM52 : M52 (k + 6) = (updI (updI (updI (updI (updI (updI (updI (updI (updI (updI (updI (updI (updI (updI (updI (updI (updI (updI (updI (updI (updI (updI (updI (updI (updI (updI (updI (updI (updI (updI zr 0 99) 1 101) 2 108) 3 108) 4 115) 5 114) 6 111) 7 111) 8 109) 9 115) 10 108) 11 111) 12 112) 13 101) 14 104) 15 101) 16 100) 17 103) 18 101) 19 107) 20 101) 21 103) 22 115) 23 105) 24 100) 25 101) 26 102) 27 111) 28 111) 29 108) := by rw [hM52, upd2_row, hrM51]
  refine lv_dup hx hb dX11_init_312 rfl ?_
  refine rw_bipush hx hb dX11_init_313 (by decide) ?_
  refine rw_bipush hx hb dX11_init_315 (by decide) ?_
  refine rw_iast hx hb hW (by decide) (k + 6) (get_oT hk (j := 5) rfl) (v := 115) (by decide) (by decide) (by decide) dX11_init_317 (fun H locs hW => ?_)
  obtain ⟨M53, hM53⟩ : ∃ z, z = upd2 M52 (k + 6) 30 115 := ⟨_, rfl⟩
  rw [← hM53] at hW
  have hsM53 : ∀ q, q < k + 6 → M53 q = M52 q := fun q hq => by rw [hM53]; exact upd2_ne1 (by omega)
  have hrM53 : M53 (k + 6) = (updI (updI (updI (updI (updI (updI (updI (updI (updI (updI (updI (updI (updI (updI (updI (updI (updI (updI (updI (updI (updI (updI (updI (updI (updI (updI (updI (updI (updI (updI (updI zr 0 99) 1 101) 2 108) 3 108) 4 115) 5 114) 6 111) 7 111) 8 109) 9 115) 10 108) 11 111) 12 112) 13 101) 14 104) 15 101) 16 100) 17 103) 18 101) 19 107) 20 101) 21 103) 22 115) 23 105) 24 100) 25 101) 26 102) 27 111) 28 111) 29 108) 30 115) := by rw [hM53, upd2_row, hrM52]
  refine lv_dup hx hb dX11_init_318 rfl ?_
  refine rw_bipush hx hb dX11_init_319 (by decide) ?_
  refine rw_bipush hx hb dX11_init_321 (by decide) ?_
  refine rw_iast hx hb hW (by decide) (k + 6) (get_oT hk (j := 5) rfl) (v := 114) (by decide) (by decide) (by decide) dX11_init_323 (fun H locs hW => ?_)
  obtain ⟨M54, hM54⟩ : ∃ z, z = upd2 M53 (k + 6) 31 114 := ⟨_, rfl⟩
  rw [← hM54] at hW
  have hsM54 : ∀ q, q < k + 6 → M54 q = M53 q := fun q hq => by rw [hM54]; exact upd2_ne1 (by omega)
  have hrM54 : M54 (k + 6) = (updI (updI (updI (updI (updI (updI (updI (updI (updI (updI (updI (updI (updI (updI (updI (updI (updI (updI (updI (updI (updI (updI (updI (updI (updI (updI (updI (updI (updI (updI (updI (updI zr 0 99) 1 101) 2 108) 3 108) 4 115) 5 114) 6 111) 7 111) 8 109) 9 115) 10 108) 11 111) 12 112) 13 101) 14 104) 15 101) 16 100) 17 103) 18 101) 19 107) 20 101) 21 103) 22 115) 23 105) 24 100) 25 101) 26 102) 27 111) 28 111) 29 108) 30 115) 31 114) := by rw [hM54, upd2_row, hrM53]
  refine lv_dup hx hb dX11_init_324 rfl ?_
  refine rw_bipush hx hb dX11_init_325 (by decide) ?_
  refine rw_bipush hx hb dX11_init_327 (by decide) ?_
  refine rw_iast hx hb hW (by decide) (k + 6) (get_oT hk (j := 5) rfl) (v := 101) (by decide) (by decide) (by decide) dX11_init_329 (fun H locs hW => ?_)
  obtain ⟨M55, hM55⟩ : ∃ z, z = upd2 M54 (k + 6) 32 101 := ⟨_, rfl⟩
  rw [← hM55] at hW
  have hsM55 : ∀ q, q < k + 6 → M55 q = M54 q := fun q hq => by rw [hM55]; exact upd2_ne1 (by omega)
  have hrM55 : M55 (k + 6) = (updI (updI (updI (updI (updI (updI (updI (updI (updI (updI (updI (updI (updI (updI (updI (updI (updI (updI (updI (updI (updI (updI (updI (updI (updI (updI (updI (updI (updI (updI (updI (updI (updI zr 0 99) 1 101) 2 108) 3 108) 4 115) 5 114) 6 111) 7 111) 8 109) 9 115) 10 108) 11 111) 12 112) 13 101) 14 104) 15 101) 16 100) 17 103) 18 101) 19 107) 20 101) 21 103) 22 115) 23 105) 24 100) 25 101) 26 102) 27 111) 28 111) 29 108) 30 115) 31 114) 32 101) := by rw [hM55, upd2_row, hrM54]
  refine lv_dup hx hb dX11_init_330 rfl ?_
  refine rw_bipush hx hb dX11_init_331 (by decide) ?_
  refine rw_bipush hx hb dX11_init_333 (by decide) ?_
  refine rw_iast hx hb hW (by decide) (k + 6) (get_oT hk (j := 5) rfl) (v := 115) (by decide) (by decide) (by decide) dX11_init_335 (fun H locs hW => ?_)
  obtain ⟨M56, hM56⟩ : ∃ z, z = upd2 M55 (k + 6) 33 115 := ⟨_, rfl⟩
  rw [← hM56] at hW
  have hsM56 : ∀ q, q < k + 6 → M56 q = M55 q := fun q hq => by rw [hM56]; exact upd2_ne1 (by omega)
  have hrM56 : M56 (k + 6) = (updI (updI (updI (updI (updI (updI (updI (updI (updI (updI (updI (updI (updI (updI (updI (updI (updI (updI (updI (updI (updI (updI (updI (updI (updI (updI (updI (updI (updI (updI (updI (updI (updI (updI zr 0 99) 1 101) 2 108) 3 108) 4 115) 5 114) 6 111) 7 111) 8 109) 9 115) 10 108) 11 111) 12 112) 13 101) 14 104) 15 101) 16 100) 17 103) 18 101) 19 107) 20 101) 21 103) 22 115) 23 105) 24 100) 25 101) 26 102) 27 111) 28 111) 29 108) 30 115) 31 114) 32 101) 33 115) := by rw [hM56, upd2_row, hrM55]
  refine lv_dup hx hb dX11_init_336 rfl ?_
  refine rw_bipush hx hb dX11_init_337 (by decide) ?_
  refine rw_bipush hx hb dX11_init_339 (by decide) ?_
  refine rw_iast hx hb hW (by decide) (k + 6) (get_oT hk (j := 5) rfl) (v := 116) (by decide) (by decide) (by decide) dX11_init_341 (fun H locs hW => ?_)
  obtain ⟨M57, hM57⟩ : ∃ z, z = upd2 M56 (k + 6) 34 116 := ⟨_, rfl⟩
  rw [← hM57] at hW
  have hsM57 : ∀ q, q < k + 6 → M57 q = M56 q := fun q hq => by rw [hM57]; exact upd2_ne1 (by omega)
  have hrM57 : M57 (k + 6) = (updI (updI (updI (updI (updI (updI (updI (updI (updI (updI (updI (updI (updI (updI (updI (updI (updI (updI (updI (updI (updI (updI (updI (updI (updI (updI (updI (updI (updI (updI (updI (updI (updI (updI (updI zr 0 99) 1 101) 2 108) 3 108) 4 115) 5 114) 6 111) 7 111) 8 109) 9 115) 10 108) 11 111) 12 112) 13 101) 14 104) 15 101) 16 100) 17 103) 18 101) 19 107) 20 101) 21 103) 22 115) 23 105) 24 100) 25 101) 26 102) 27 111) 28 111) 29 108) 30 115) 31 114) 32 101) 33 115) 34 116) := by rw [hM57, upd2_row, hrM56]
  refine lv_dup hx hb dX11_init_342 rfl ?_
  refine rw_bipush hx hb dX11_init_343 (by decide) ?_
  refine rw_bipush hx hb dX11_init_345 (by decide) ?_
  refine rw_iast hx hb hW (by decide) (k + 6) (get_oT hk (j := 5) rfl) (v := 98) (by decide) (by decide) (by decide) dX11_init_347 (fun H locs hW => ?_)
  obtain ⟨M58, hM58⟩ : ∃ z, z = upd2 M57 (k + 6) 35 98 := ⟨_, rfl⟩
  rw [← hM58] at hW
  have hsM58 : ∀ q, q < k + 6 → M58 q = M57 q := fun q hq => by rw [hM58]; exact upd2_ne1 (by omega)
  have hrM58 : M58 (k + 6) = (updI (updI (updI (updI (updI (updI (updI (updI (updI (updI (updI (updI (updI (updI (updI (updI (updI (updI (updI (updI (updI (updI (updI (updI (updI (updI (updI (updI (updI (updI (updI (updI (updI (updI (updI (updI zr 0 99) 1 101) 2 108) 3 108) 4 115) 5 114) 6 111) 7 111) 8 109) 9 115) 10 108) 11 111) 12 112) 13 101) 14 104) 15 101) 16 100) 17 103) 18 101) 19 107) 20 101) 21 103) 22 115) 23 105) 24 100) 25 101) 26 102) 27 111) 28 111) 29 108) 30 115) 31 114) 32 101) 33 115) 34 116) 35 98) := by rw [hM58, upd2_row, hrM57]
  refine lv_dup hx hb dX11_init_348 rfl ?_
  refine rw_bipush hx hb dX11_init_349 (by decide) ?_
  refine rw_bipush hx hb dX11_init_351 (by decide) ?_
  refine rw_iast hx hb hW (by decide) (k + 6) (get_oT hk (j := 5) rfl) (v := 114) (by decide) (by decide) (by decide) dX11_init_353 (fun H locs hW => ?_)
  obtain ⟨M59, hM59⟩ : ∃ z, z = upd2 M58 (k + 6) 36 114 := ⟨_, rfl⟩
  rw [← hM59] at hW
  have hsM59 : ∀ q, q < k + 6 → M59 q = M58 q := fun q hq => by rw [hM59]; exact upd2_ne1 (by omega)
  have hrM59 : M59 (k + 6) = (updI (updI (updI (updI (updI (updI (updI (updI (updI (updI (updI (updI (updI (updI (updI (updI (updI (updI (updI (updI (updI (updI (updI (updI (updI (updI (updI (updI (updI (updI (updI (updI (updI (updI (updI (updI (updI zr 0 99) 1 101) 2 108) 3 108) 4 115) 5 114) 6 111) 7 111) 8 109) 9 115) 10 108) 11 111) 12 112) 13 101) 14 104) 15 101) 16 100) 17 103) 18 101) 19 107) 20 101) 21 103) 22 115) 23 105) 24 100) 25 101) 26 102) 27 111) 28 111) 29 108) 30 115) 31 114) 32 101) 33 115) 34 116) 35 98) 36 114) := by rw [hM59, upd2_row, hrM58]
  refine lv_dup hx hb dX11_init_354 rfl ?_
  refine rw_bipush hx hb dX11_init_355 (by decide) ?_
  refine rw_bipush hx hb dX11_init_357 (by decide) ?_
  refine rw_iast hx hb hW (by decide) (k + 6) (get_oT hk (j := 5) rfl) (v := 101) (by decide) (by decide) (by decide) dX11_init_359 (fun H locs hW => ?_)
  obtain ⟨M60, hM60⟩ : ∃ z, z = upd2 M59 (k + 6) 37 101 := ⟨_, rfl⟩
  rw [← hM60] at hW
  have hsM60 : ∀ q, q < k + 6 → M60 q = M59 q := fun q hq => by rw [hM60]; exact upd2_ne1 (by omega)
  have hrM60 : M60 (k + 6) = (updI (updI (updI (updI (updI (updI (updI (updI (updI (updI (updI (updI (updI (updI (updI (updI (updI (updI (updI (updI (updI (updI (updI (updI (updI (updI (updI (updI (updI (updI (updI (updI (updI (updI (updI (updI (updI (updI zr 0 99) 1 101) 2 108) 3 108) 4 115) 5 114) 6 111) 7 111) 8 109) 9 115) 10 108) 11 111) 12 112) 13 101) 14 104) 15 101) 16 100) 17 103) 18 101) 19 107) 20 101) 21 103) 22 115) 23 105) 24 100) 25 101) 26 102) 27 111) 28 111) 29 108) 30 115) 31 114) 32 101) 33 115) 34 116) 35 98) 36 114) 37 101) := by rw [hM60, upd2_row, hrM59]
  refine lv_dup hx hb dX11_init_360 rfl ?_
  refine rw_bipush hx hb dX11_init_361 (by decide) ?_
  refine rw_bipush hx hb dX11_init_363 (by decide) ?_
  refine rw_iast hx hb hW (by decide) (k + 6) (get_oT hk (j := 5) rfl) (v := 97) (by decide) (by decide) (by decide) dX11_init_365 (fun H locs hW => ?_)
  obtain ⟨M61, hM61⟩ : ∃ z, z = upd2 M60 (k + 6) 38 97 := ⟨_, rfl⟩
  rw [← hM61] at hW
  have hsM61 : ∀ q, q < k + 6 → M61 q = M60 q := fun q hq => by rw [hM61]; exact upd2_ne1 (by omega)
  have hrM61 : M61 (k + 6) = (updI (updI (updI (updI (updI (updI (updI (updI (updI (updI (updI (updI (updI (updI (updI (updI (updI (updI (updI (updI (updI (updI (updI (updI (updI (updI (updI (updI (updI (updI (updI (updI (updI (updI (updI (updI (updI (updI (updI zr 0 99) 1 101) 2 108) 3 108) 4 115) 5 114) 6 111) 7 111) 8 109) 9 115) 10 108) 11 111) 12 112) 13 101) 14 104) 15 101) 16 100) 17 103) 18 101) 19 107) 20 101) 21 103) 22 115) 23 105) 24 100) 25 101) 26 102) 27 111) 28 111) 29 108) 30 115) 31 114) 32 101) 33 115) 34 116) 35 98) 36 114) 37 101) 38 97) := by rw [hM61, upd2_row, hrM60]
  refine lv_dup hx hb dX11_init_366 rfl ?_
  refine rw_bipush hx hb dX11_init_367 (by decide) ?_
  refine rw_bipush hx hb dX11_init_369 (by decide) ?_
  refine rw_iast hx hb hW (by decide) (k + 6) (get_oT hk (j := 5) rfl) (v := 107) (by decide) (by decide) (by decide) dX11_init_371 (fun H locs hW => ?_)
  obtain ⟨M62, hM62⟩ : ∃ z, z = upd2 M61 (k + 6) 39 107 := ⟨_, rfl⟩
  rw [← hM62] at hW
  have hsM62 : ∀ q, q < k + 6 → M62 q = M61 q := fun q hq => by rw [hM62]; exact upd2_ne1 (by omega)
  have hrM62 : M62 (k + 6) = (updI (updI (updI (updI (updI (updI (updI (updI (updI (updI (updI (updI (updI (updI (updI (updI (updI (updI (updI (updI (updI (updI (updI (updI (updI (updI (updI (updI (updI (updI (updI (updI (updI (updI (updI (updI (updI (updI (updI (updI zr 0 99) 1 101) 2 108) 3 108) 4 115) 5 114) 6 111) 7 111) 8 109) 9 115) 10 108) 11 111) 12 112) 13 101) 14 104) 15 101) 16 100) 17 103) 18 101) 19 107) 20 101) 21 103) 22 115) 23 105) 24 100) 25 101) 26 102) 27 111) 28 111) 29 108) 30 115) 31 114) 32 101) 33 115) 34 116) 35 98) 36 114) 37 101) 38 97) 39 107) := by rw [hM62, upd2_row, hrM61]
  refine lv_dup hx hb dX11_init_372 rfl ?_
  refine rw_bipush hx hb dX11_init_373 (by decide) ?_
  refine rw_bipush hx hb dX11_init_375 (by decide) ?_
  refine rw_iast hx hb hW (by decide) (k + 6) (get_oT hk (j := 5) rfl) (v := 97) (by decide) (by decide) (by decide) dX11_init_377 (fun H locs hW => ?_)
  obtain ⟨M63, hM63⟩ : ∃ z, z = upd2 M62 (k + 6) 40 97 := ⟨_, rfl⟩
  rw [← hM63] at hW
  have hsM63 : ∀ q, q < k + 6 → M63 q = M62 q := fun q hq => by rw [hM63]; exact upd2_ne1 (by omega)
  have hrM63 : M63 (k + 6) = (updI (updI (updI (updI (updI (updI (updI (updI (updI (updI (updI (updI (updI (updI (updI (updI (updI (updI (updI (updI (updI (updI (updI (updI (updI (updI (updI (updI (updI (updI (updI (updI (updI (updI (updI (updI (updI (updI (updI (updI (updI zr 0 99) 1 101) 2 108) 3 108) 4 115) 5 114) 6 111) 7 111) 8 109) 9 115) 10 108) 11 111) 12 112) 13 101) 14 104) 15 101) 16 100) 17 103) 18 101) 19 107) 20 101) 21 103) 22 115) 23 105) 24 100) 25 101) 26 102) 27 111) 28 111) 29 108) 30 115) 31 114) 32 101) 33 115) 34 116) 35 98) 36 114) 37 101) 38 97) 39 107) 40 97) := by rw [hM63, upd2_row, hrM62]
  refine lv_dup hx hb dX11_init_378 rfl ?_
  refine rw_bipush hx hb dX11_init_379 (by decide) ?_
  refine rw_bipush hx hb dX11_init_381 (by decide) ?_
  refine rw_iast hx hb hW (by decide) (k + 6) (get_oT hk (j := 5) rfl) (v := 108) (by decide) (by decide) (by decide) dX11_init_383 (fun H locs hW => ?_)
  obtain ⟨M64, hM64⟩ : ∃ z, z = upd2 M63 (k + 6) 41 108 := ⟨_, rfl⟩
  rw [← hM64] at hW
  have hsM64 : ∀ q, q < k + 6 → M64 q = M63 q := fun q hq => by rw [hM64]; exact upd2_ne1 (by omega)
  have hrM64 : M64 (k + 6) = (updI (updI (updI (updI (updI (updI (updI (updI (updI (updI (updI (updI (updI (updI (updI (updI (updI (updI (updI (updI (updI (updI (updI (updI (updI (updI (updI (updI (updI (updI (updI (updI (updI (updI (updI (updI (updI (updI (updI (updI (updI (updI zr 0 99) 1 101) 2 108) 3 108) 4 115) 5 114) 6 111) 7 111) 8 109) 9 115) 10 108) 11 111) 12 112) 13 101) 14 104) 15 101) 16 100) 17 103) 18 101) 19 107) 20 101) 21 103) 22 115) 23 105) 24 100) 25 101) 26 102) 27 111) 28 111) 29 108) 30 115) 31 114) 32 101) 33 115) 34 116) 35 98) 36 114) 37 101) 38 97) 39 107) 40 97) 41 108) := by rw [hM64, upd2_row, hrM63]
  refine lv_dup hx hb dX11_init_384 rfl ?_
  refine rw_bipush hx hb dX11_init_385 (by decide) ?_
  refine rw_bipush hx hb dX11_init_387 (by decide) ?_
  refine rw_iast hx hb hW (by decide) (k + 6) (get_oT hk (j := 5) rfl) (v := 108) (by decide) (by decide) (by decide) dX11_init_389 (fun H locs hW => ?_)
  obtain ⟨M65, hM65⟩ : ∃ z, z = upd2 M64 (k + 6) 42 108 := ⟨_, rfl⟩
  rw [← hM65] at hW
  have hsM65 : ∀ q, q < k + 6 → M65 q = M64 q := fun q hq => by rw [hM65]; exact upd2_ne1 (by omega)
  have hrM65 : M65 (k + 6) = (updI (updI (updI (updI (updI (updI (updI (updI (updI (updI (updI (updI (updI (updI (updI (updI (updI (updI (updI (updI (updI (updI (updI (updI (updI (updI (updI (updI (updI (updI (updI (updI (updI (updI (updI (updI (updI (updI (updI (updI (updI (updI (updI zr 0 99) 1 101) 2 108) 3 108) 4 115) 5 114) 6 111) 7 111) 8 109) 9 115) 10 108) 11 111) 12 112) 13 101) 14 104) 15 101) 16 100) 17 103) 18 101) 19 107) 20 101) 21 103) 22 115) 23 105) 24 100) 25 101) 26 102) 27 111) 28 111) 29 108) 30 115) 31 114) 32 101) 33 115) 34 116) 35 98) 36 114) 37 101) 38 97) 39 107) 40 97) 41 108) 42 108) := by rw [hM65, upd2_row, hrM64]
  refine lv_dup hx hb dX11_init_390 rfl ?_
  refine rw_bipush hx hb dX11_init_391 (by decide) ?_
  refine rw_bipush hx hb dX11_init_393 (by decide) ?_
  refine rw_iast hx hb hW (by decide) (k + 6) (get_oT hk (j := 5) rfl) (v := 104) (by decide) (by decide) (by decide) dX11_init_395 (fun H locs hW => ?_)
  obtain ⟨M66, hM66⟩ : ∃ z, z = upd2 M65 (k + 6) 43 104 := ⟨_, rfl⟩
  rw [← hM66] at hW
  have hsM66 : ∀ q, q < k + 6 → M66 q = M65 q := fun q hq => by rw [hM66]; exact upd2_ne1 (by omega)
  have hrM66 : M66 (k + 6) = (updI (updI (updI (updI (updI (updI (updI (updI (updI (updI (updI (updI (updI (updI (updI (updI (updI (updI (updI (updI (updI (updI (updI (updI (updI (updI (updI (updI (updI (updI (updI (updI (updI (updI (updI (updI (updI (updI (updI (updI (updI (updI (updI (updI zr 0 99) 1 101) 2 108) 3 108) 4 115) 5 114) 6 111) 7 111) 8 109) 9 115) 10 108) 11 111) 12 112) 13 101) 14 104) 15 101) 16 100) 17 103) 18 101) 19 107) 20 101) 21 103) 22 115) 23 105) 24 100) 25 101) 26 102) 27 111) 28 111) 29 108) 30 115) 31 114) 32 101) 33 115) 34 116) 35 98) 36 114) 37 101) 38 97) 39 107) 40 97) 41 108) 42 108) 43 104) := by rw [hM66, upd2_row, hrM65]
  refine lv_dup hx hb dX11_init_396 rfl ?_
  refine rw_bipush hx hb dX11_init_397 (by decide) ?_
  refine rw_bipush hx hb dX11_init_399 (by decide) ?_
  refine rw_iast hx hb hW (by decide) (k + 6) (get_oT hk (j := 5) rfl) (v := 97) (by decide) (by decide) (by decide) dX11_init_401 (fun H locs hW => ?_)
  obtain ⟨M67, hM67⟩ : ∃ z, z = upd2 M66 (k + 6) 44 97 := ⟨_, rfl⟩
  rw [← hM67] at hW
  have hsM67 : ∀ q, q < k + 6 → M67 q = M66 q := fun q hq => by rw [hM67]; exact upd2_ne1 (by omega)
  have hrM67 : M67 (k + 6) = (updI (updI (updI (updI (updI (updI (updI (updI (updI (updI (updI (updI (updI (updI (updI (updI (updI (updI (updI (updI (updI (updI (updI (updI (updI (updI (updI (updI (updI (updI (updI (updI (updI (updI (updI (updI (updI (updI (updI (updI (updI (updI (updI (updI (updI zr 0 99) 1 101) 2 108) 3 108) 4 115) 5 114) 6 111) 7 111) 8 109) 9 115) 10 108) 11 111) 12 112) 13 101) 14 104) 15 101) 16 100) 17 103) 18 101) 19 107) 20 101) 21 103) 22 115) 23 105) 24 100) 25 101) 26 102) 27 111) 28 111) 29 108) 30 115) 31 114) 32 101) 33 115) 34 116) 35 98) 36 114) 37 101) 38 97) 39 107) 40 97) 41 108) 42 108) 43 104) 44 97) := by rw [hM67, upd2_row, hrM66]
  refine lv_dup hx hb dX11_init_402 rfl ?_
  refine rw_bipush hx hb dX11_init_403 (by decide) ?_
  refine rw_bipush hx hb dX11_init_405 (by decide) ?_
  refine rw_iast hx hb hW (by decide) (k + 6) (get_oT hk (j := 5) rfl) (v := 108) (by decide) (by decide) (by decide) dX11_init_407 (fun H locs hW => ?_)
  obtain ⟨M68, hM68⟩ : ∃ z, z = upd2 M67 (k + 6) 45 108 := ⟨_, rfl⟩
  rw [← hM68] at hW
  have hsM68 : ∀ q, q < k + 6 → M68 q = M67 q := fun q hq => by rw [hM68]; exact upd2_ne1 (by omega)
  have hrM68 : M68 (k + 6) = (updI (updI (updI (updI (updI (updI (updI (updI (updI (updI (updI (updI (updI (updI (updI (updI (updI (updI (updI (updI (updI (updI (updI (updI (updI (updI (updI (updI (updI (updI (updI (updI (updI (updI (updI (updI (updI (updI (updI (updI (updI (updI (updI (updI (updI (updI zr 0 99) 1 101) 2 108) 3 108) 4 115) 5 114) 6 111) 7 111) 8 109) 9 115) 10 108) 11 111) 12 112) 13 101) 14 104) 15 101) 16 100) 17 103) 18 101) 19 107) 20 101) 21 103) 22 115) 23 105) 24 100) 25 101) 26 102) 27 111) 28 111) 29 108) 30 115) 31 114) 32 101) 33 115) 34 116) 35 98) 36 114) 37 101) 38 97) 39 107) 40 97) 41 108) 42 108) 43 104) 44 97) 45 108) := by rw [hM68, upd2_row, hrM67]
  refine lv_dup hx hb dX11_init_408 rfl ?_
  refine rw_bipush hx hb dX11_init_409 (by decide) ?_
  refine rw_bipush hx hb dX11_init_411 (by decide) ?_
  refine rw_iast hx hb hW (by decide) (k + 6) (get_oT hk (j := 5) rfl) (v := 102) (by decide) (by decide) (by decide) dX11_init_413 (fun H locs hW => ?_)
  obtain ⟨M69, hM69⟩ : ∃ z, z = upd2 M68 (k + 6) 46 102 := ⟨_, rfl⟩
  rw [← hM69] at hW
  have hsM69 : ∀ q, q < k + 6 → M69 q = M68 q := fun q hq => by rw [hM69]; exact upd2_ne1 (by omega)
  have hrM69 : M69 (k + 6) = (updI (updI (updI (updI (updI (updI (updI (updI (updI (updI (updI (updI (updI (updI (updI (updI (updI (updI (updI (updI (updI (updI (updI (updI (updI (updI (updI (updI (updI (updI (updI (updI (updI (updI (updI (updI (updI (updI (updI (updI (updI (updI (updI (updI (updI (updI (updI zr 0 99) 1 101) 2 108) 3 108) 4 115) 5 114) 6 111) 7 111) 8 109) 9 115) 10 108) 11 111) 12 112) 13 101) 14 104) 15 101) 16 100) 17 103) 18 101) 19 107) 20 101) 21 103) 22 115) 23 105) 24 100) 25 101) 26 102) 27 111) 28 111) 29 108) 30 115) 31 114) 32 101) 33 115) 34 116) 35 98) 36 114) 37 101) 38 97) 39 107) 40 97) 41 108) 42 108) 43 104) 44 97) 45 108) 46 102) := by rw [hM69, upd2_row, hrM68]
  refine lv_dup hx hb dX11_init_414 rfl ?_
  refine rw_bipush hx hb dX11_init_415 (by decide) ?_
  refine rw_bipush hx hb dX11_init_417 (by decide) ?_
  refine rw_iast hx hb hW (by decide) (k + 6) (get_oT hk (j := 5) rfl) (v := 115) (by decide) (by decide) (by decide) dX11_init_419 (fun H locs hW => ?_)
  obtain ⟨M70, hM70⟩ : ∃ z, z = upd2 M69 (k + 6) 47 115 := ⟨_, rfl⟩
  rw [← hM70] at hW
  have hsM70 : ∀ q, q < k + 6 → M70 q = M69 q := fun q hq => by rw [hM70]; exact upd2_ne1 (by omega)
  have hrM70 : M70 (k + 6) = (updI (updI (updI (updI (updI (updI (updI (updI (updI (updI (updI (updI (updI (updI (updI (updI (updI (updI (updI (updI (updI (updI (updI (updI (updI (updI (updI (updI (updI (updI (updI (updI (updI (updI (updI (updI (updI (updI (updI (updI (updI (updI (updI (updI (updI (updI (updI (updI zr 0 99) 1 101) 2 108) 3 108) 4 115) 5 114) 6 111) 7 111) 8 109) 9 115) 10 108) 11 111) 12 112) 13 101) 14 104) 15 101) 16 100) 17 103) 18 101) 19 107) 20 101) 21 103) 22 115) 23 105) 24 100) 25 101) 26 102) 27 111) 28 111) 29 108) 30 115) 31 114) 32 101) 33 115) 34 116) 35 98) 36 114) 37 101) 38 97) 39 107) 40 97) 41 108) 42 108) 43 104) 44 97) 45 108) 46 102) 47 115) := by rw [hM70, upd2_row, hrM69]
  refine lv_dup hx hb dX11_init_420 rfl ?_
  refine rw_bipush hx hb dX11_init_421 (by decide) ?_
  refine rw_bipush hx hb dX11_init_423 (by decide) ?_
  refine rw_iast hx hb hW (by decide) (k + 6) (get_oT hk (j := 5) rfl) (v := 116) (by decide) (by decide) (by decide) dX11_init_425 (fun H locs hW => ?_)
  obtain ⟨M71, hM71⟩ : ∃ z, z = upd2 M70 (k + 6) 48 116 := ⟨_, rfl⟩
  rw [← hM71] at hW
  have hsM71 : ∀ q, q < k + 6 → M71 q = M70 q := fun q hq => by rw [hM71]; exact upd2_ne1 (by omega)
  have hrM71 : M71 (k + 6) = (updI (updI (updI (updI (updI (updI (updI (updI (updI (updI (updI (updI (updI (updI (updI (updI (updI (updI (updI (updI (updI (updI (updI (updI (updI (updI (updI (updI (updI (updI (updI (updI (updI (updI (updI (updI (updI (updI (updI (updI (updI (updI (updI (updI (updI (updI (updI (updI (updI zr 0 99) 1 101) 2 108) 3 108) 4 115) 5 114) 6 111) 7 111) 8 109) 9 115) 10 108) 11 111) 12 112) 13 101) 14 104) 15 101) 16 100) 17 103) 18 101) 19 107) 20 101) 21 103) 22 115) 23 105) 24 100) 25 101) 26 102) 27 111) 28 111) 29 108) 30 115) 31 114) 32 101) 33 115) 34 116) 35 98) 36 114) 37 101) 38 97) 39 107) 40 97) 41 108) 42 108) 43 104) 44 97) 45 108) 46 102) 47 115) 48 116) := by rw [hM71, upd2_row, hrM70]
  refine lv_dup hx hb dX11_init_426 rfl ?_
  refine rw_bipush hx hb dX11_init_427 (by decide) ?_
  refine rw_bipush hx hb dX11_init_429 (by decide) ?_
  refine rw_iast hx hb hW (by decide) (k + 6) (get_oT hk (j := 5) rfl) (v := 101) (by decide) (by decide) (by decide) dX11_init_431 (fun H locs hW => ?_)
  obtain ⟨M72, hM72⟩ : ∃ z, z = upd2 M71 (k + 6) 49 101 := ⟨_, rfl⟩
  rw [← hM72] at hW
  have hsM72 : ∀ q, q < k + 6 → M72 q = M71 q := fun q hq => by rw [hM72]; exact upd2_ne1 (by omega)
  have hrM72 : M72 (k + 6) = (updI (updI (updI (updI (updI (updI (updI (updI (updI (updI (updI (updI (updI (updI (updI (updI (updI (updI (updI (updI (updI (updI (updI (updI (updI (updI (updI (updI (updI (updI (updI (updI (updI (updI (updI (updI (updI (updI (updI (updI (updI (updI (updI (updI (updI (updI (updI (updI (updI (updI zr 0 99) 1 101) 2 108) 3 108) 4 115) 5 114) 6 111) 7 111) 8 109) 9 115) 10 108) 11 111) 12 112) 13 101) 14 104) 15 101) 16 100) 17 103) 18 101) 19 107) 20 101) 21 103) 22 115) 23 105) 24 100) 25 101) 26 102) 27 111) 28 111) 29 108) 30 115) 31 114) 32 101) 33 115) 34 116) 35 98) 36 114) 37 101) 38 97) 39 107) 40 97) 41 108) 42 108) 43 104) 44 97) 45 108) 46 102) 47 115) 48 116) 49 101) := by rw [hM72, upd2_row, hrM71]
  refine lv_dup hx hb dX11_init_432 rfl ?_
  refine rw_bipush hx hb dX11_init_433 (by decide) ?_
  refine rw_bipush hx hb dX11_init_435 (by decide) ?_
  refine rw_iast hx hb hW (by decide) (k + 6) (get_oT hk (j := 5) rfl) (v := 97) (by decide) (by decide) (by decide) dX11_init_437 (fun H locs hW => ?_)
  obtain ⟨M73, hM73⟩ : ∃ z, z = upd2 M72 (k + 6) 50 97 := ⟨_, rfl⟩
  rw [← hM73] at hW
  have hsM73 : ∀ q, q < k + 6 → M73 q = M72 q := fun q hq => by rw [hM73]; exact upd2_ne1 (by omega)
  have hrM73 : M73 (k + 6) = (updI (updI (updI (updI (updI (updI (updI (updI (updI (updI (updI (updI (updI (updI (updI (updI (updI (updI (updI (updI (updI (updI (updI (updI (updI (updI (updI (updI (updI (updI (updI (updI (updI (updI (updI (updI (updI (updI (updI (updI (updI (updI (updI (updI (updI (updI (updI (updI (updI (updI (updI zr 0 99) 1 101) 2 108) 3 108) 4 115) 5 114) 6 111) 7 111) 8 109) 9 115) 10 108) 11 111) 12 112) 13 101) 14 104) 15 101) 16 100) 17 103) 18 101) 19 107) 20 101) 21 103) 22 115) 23 105) 24 100) 25 101) 26 102) 27 111) 28 111) 29 108) 30 115) 31 114) 32 101) 33 115) 34 116) 35 98) 36 114) 37 101) 38 97) 39 107) 40 97) 41 108) 42 108) 43 104) 44 97) 45 108) 46 102) 47 115) 48 116) 49 101) 50 97) := by rw [hM73, upd2_row, hrM72]
  refine lv_dup hx hb dX11_init_438 rfl ?_
  refine rw_bipush hx hb dX11_init_439 (by decide) ?_
  refine rw_bipush hx hb dX11_init_441 (by decide) ?_
  refine rw_iast hx hb hW (by decide) (k + 6) (get_oT hk (j := 5) rfl) (v := 100) (by decide) (by decide) (by decide) dX11_init_443 (fun H locs hW => ?_)
  obtain ⟨M74, hM74⟩ : ∃ z, z = upd2 M73 (k + 6) 51 100 := ⟨_, rfl⟩
  rw [← hM74] at hW
  have hsM74 : ∀ q, q < k + 6 → M74 q = M73 q := fun q hq => by rw [hM74]; exact upd2_ne1 (by omega)
  have hrM74 : M74 (k + 6) = (updI (updI (updI (updI (updI (updI (updI (updI (updI (updI (updI (updI (updI (updI (updI (updI (updI (updI (updI (updI (updI (updI (updI (updI (updI (updI (updI (updI (updI (updI (updI (updI (updI (updI (updI (updI (updI (updI (updI (updI (updI (updI (updI (updI (updI (updI (updI (updI (updI (updI (updI (updI zr 0 99) 1 101) 2 108) 3 108) 4 115) 5 114) 6 111) 7 111) 8 109) 9 115) 10 108) 11 111) 12 112) 13 101) 14 104) 15 101) 16 100) 17 103) 18 101) 19 107) 20 101) 21 103) 22 115) 23 105) 24 100) 25 101) 26 102) 27 111) 28 111) 29 108) 30 115) 31 114) 32 101) 33 115) 34 116) 35 98) 36 114) 37 101) 38 97) 39 107) 40 97) 41 108) 42 108) 43 104) 44 97) 45 108) 46 102) 47 115) 48 116) 49 101) 50 97) 51 100) := by rw [hM74, upd2_row, hrM73]
  refine lv_dup hx hb dX11_init_444 rfl ?_
  refine rw_bipush hx hb dX11_init_445 (by decide) ?_
  refine rw_bipush hx hb dX11_init_447 (by decide) ?_
  refine rw_iast hx hb hW (by decide) (k + 6) (get_oT hk (j := 5) rfl) (v := 121) (by decide) (by decide) (by decide) dX11_init_449 (fun H locs hW => ?_)
  obtain ⟨M75, hM75⟩ : ∃ z, z = upd2 M74 (k + 6) 52 121 := ⟨_, rfl⟩
  rw [← hM75] at hW
  have hsM75 : ∀ q, q < k + 6 → M75 q = M74 q := fun q hq => by rw [hM75]; exact upd2_ne1 (by omega)
  have hrM75 : M75 (k + 6) = (updI (updI (updI (updI (updI (updI (updI (updI (updI (updI (updI (updI (updI (updI (updI (updI (updI (updI (updI (updI (updI (updI (updI (updI (updI (updI (updI (updI (updI (updI (updI (updI (updI (updI (updI (updI (updI (updI (updI (updI (updI (updI (updI (updI (updI (updI (updI (updI (updI (updI (updI (updI (updI zr 0 99) 1 101) 2 108) 3 108) 4 115) 5 114) 6 111) 7 111) 8 109) 9 115) 10 108) 11 111) 12 112) 13 101) 14 104) 15 101) 16 100) 17 103) 18 101) 19 107) 20 101) 21 103) 22 115) 23 105) 24 100) 25 101) 26 102) 27 111) 28 111) 29 108) 30 115) 31 114) 32 101) 33 115) 34 116) 35 98) 36 114) 37 101) 38 97) 39 107) 40 97) 41 108) 42 108) 43 104) 44 97) 45 108) 46 102) 47 115) 48 116) 49 101) 50 97) 51 100) 52 121) := by rw [hM75, upd2_row, hrM74]
  refine lv_dup hx hb dX11_init_450 rfl ?_
  refine rw_bipush hx hb dX11_init_451 (by decide) ?_
  refine rw_bipush hx hb dX11_init_453 (by decide) ?_
  refine rw_iast hx hb hW (by decide) (k + 6) (get_oT hk (j := 5) rfl) (v := 108) (by decide) (by decide) (by decide) dX11_init_455 (fun H locs hW => ?_)
  obtain ⟨M76, hM76⟩ : ∃ z, z = upd2 M75 (k + 6) 53 108 := ⟨_, rfl⟩
  rw [← hM76] at hW
  have hsM76 : ∀ q, q < k + 6 → M76 q = M75 q := fun q hq => by rw [hM76]; exact upd2_ne1 (by omega)
  have hrM76 : M76 (k + 6) = (updI (updI (updI (updI (updI (updI (updI (updI (updI (updI (updI (updI (updI (updI (updI (updI (updI (updI (updI (updI (updI (updI (updI (updI (updI (updI (updI (updI (updI (updI (updI (updI (updI (updI (updI (updI (updI (updI (updI (updI (updI (updI (updI (updI (updI (updI (updI (updI (updI (updI (updI (updI (updI (updI zr 0 99) 1 101) 2 108) 3 108) 4 115) 5 114) 6 111) 7 111) 8 109) 9 115) 10 108) 11 111) 12 112) 13 101) 14 104) 15 101) 16 100) 17 103) 18 101) 19 107) 20 101) 21 103) 22 115) 23 105) 24 100) 25 101) 26 102) 27 111) 28 111) 29 108) 30 115) 31 114) 32 101) 33 115) 34 116) 35 98) 36 114) 37 101) 38 97) 39 107) 40 97) 41 108) 42 108) 43 104) 44 97) 45 108) 46 102) 47 115) 48 116) 49 101) 50 97) 51 100) 52 121) 53 108) := by rw [hM76, upd2_row, hrM75]
  refine lv_dup hx hb dX11_init_456 rfl ?_
  refine rw_bipush hx hb dX11_init_457 (by decide) ?_
  refine rw_bipush hx hb dX11_init_459 (by decide) ?_
  refine rw_iast hx hb hW (by decide) (k + 6) (get_oT hk (j := 5) rfl) (v := 97) (by decide) (by decide) (by decide) dX11_init_461 (fun H locs hW => ?_)
  obtain ⟨M77, hM77⟩ : ∃ z, z = upd2 M76 (k + 6) 54 97 := ⟨_, rfl⟩
  rw [← hM77] at hW
  have hsM77 : ∀ q, q < k + 6 → M77 q = M76 q := fun q hq => by rw [hM77]; exact upd2_ne1 (by omega)
  have hrM77 : M77 (k + 6) = (updI (updI (updI (updI (updI (updI (updI (updI (updI (updI (updI (updI (updI (updI (updI (updI (updI (updI (updI (updI (updI (updI (updI (updI (updI (updI (updI (updI (updI (updI (updI (updI (updI (updI (updI (updI (updI (updI (updI (updI (updI (updI (updI (updI (updI (updI (updI (updI (updI (updI (updI (updI (updI (updI (updI zr 0 99) 1 101) 2 108) 3 108) 4 115) 5 114) 6 111) 7 111) 8 109) 9 115) 10 108) 11 111) 12 112) 13 101) 14 104) 15 101) 16 100) 17 103) 18 101) 19 107) 20 101) 21 103) 22 115) 23 105) 24 100) 25 101) 26 102) 27 111) 28 111) 29 108) 30 115) 31 114) 32 101) 33 115) 34 116) 35 98) 36 114) 37 101) 38 97) 39 107) 40 97) 41 108) 42 108) 43 104) 44 97) 45 108) 46 102) 47 115) 48 116) 49 101) 50 97) 51 100) 52 121) 53 108) 54 97) := by rw [hM77, upd2_row, hrM76]
  refine lv_dup hx hb dX11_init_462 rfl ?_
  refine rw_bipush hx hb dX11_init_463 (by decide) ?_
  refine rw_bipush hx hb dX11_init_465 (by decide) ?_
  refine rw_iast hx hb hW (by decide) (k + 6) (get_oT hk (j := 5) rfl) (v := 116) (by decide) (by decide) (by decide) dX11_init_467 (fun H locs hW => ?_)
  obtain ⟨M78, hM78⟩ : ∃ z, z = upd2 M77 (k + 6) 55 116 := ⟨_, rfl⟩
  rw [← hM78] at hW
  have hsM78 : ∀ q, q < k + 6 → M78 q = M77 q := fun q hq => by rw [hM78]; exact upd2_ne1 (by omega)
  have hrM78 : M78 (k + 6) = (updI (updI (updI (updI (updI (updI (updI (updI (updI (updI (updI (updI (updI (updI (updI (updI (updI (updI (updI (updI (updI (updI (updI (updI (updI (updI (updI (updI (updI (updI (updI (updI (updI (updI (updI (updI (updI (updI (updI (updI (updI (updI (updI (updI (updI (updI (updI (updI (updI (updI (updI (updI (updI (updI (updI (updI zr 0 99) 1 101) 2 108) 3 108) 4 115) 5 114) 6 111) 7 111) 8 109) 9 115) 10 108) 11 111) 12 112) 13 101) 14 104) 15 101) 16 100) 17 103) 18 101) 19 107) 20 101) 21 103) 22 115) 23 105) 24 100) 25 101) 26 102) 27 111) 28 111) 29 108) 30 115) 31 114) 32 101) 33 115) 34 116) 35 98) 36 114) 37 101) 38 97) 39 107) 40 97) 41 108) 42 108) 43 104) 44 97) 45 108) 46 102) 47 115) 48 116) 49 101) 50 97) 51 100) 52 121) 53 108) 54 97) 55 116) := by rw [hM78, upd2_row, hrM77]
  refine lv_dup hx hb dX11_init_468 rfl ?_
  refine rw_bipush hx hb dX11_init_469 (by decide) ?_
  refine rw_bipush hx hb dX11_init_471 (by decide) ?_
  refine rw_iast hx hb hW (by decide) (k + 6) (get_oT hk (j := 5) rfl) (v := 101) (by decide) (by decide) (by decide) dX11_init_473 (fun H locs hW => ?_)
  obtain ⟨M79, hM79⟩ : ∃ z, z = upd2 M78 (k + 6) 56 101 := ⟨_, rfl⟩
  rw [← hM79] at hW
  have hsM79 : ∀ q, q < k + 6 → M79 q = M78 q := fun q hq => by rw [hM79]; exact upd2_ne1 (by omega)
  have hrM79 : M79 (k + 6) = (updI (updI (updI (updI (updI (updI (updI (updI (updI (updI (updI (updI (updI (updI (updI (updI (updI (updI (updI (updI (updI (updI (updI (updI (updI (updI (updI (updI (updI (updI (updI (updI (updI (updI (updI (updI (updI (updI (updI (updI (updI (updI (updI (updI (updI (updI (updI (updI (updI (updI (updI (updI (updI (updI (updI (updI (updI zr 0 99) 1 101) 2 108) 3 108) 4 115) 5 114) 6 111) 7 111) 8 109) 9 115) 10 108) 11 111) 12 112) 13 101) 14 104) 15 101) 16 100) 17 103) 18 101) 19 107) 20 101) 21 103) 22 115) 23 105) 24 100) 25 101) 26 102) 27 111) 28 111) 29 108) 30 115) 31 114) 32 101) 33 115) 34 116) 35 98) 36 114) 37 101) 38 97) 39 107) 40 97) 41 108) 42 108) 43 104) 44 97) 45 108) 46 102) 47 115) 48 116) 49 101) 50 97) 51 100) 52 121) 53 108) 54 97) 55 116) 56 101) := by rw [hM79, upd2_row, hrM78]
  refine lv_dup hx hb dX11_init_474 rfl ?_
  refine rw_bipush hx hb dX11_init_475 (by decide) ?_
  refine rw_bipush hx hb dX11_init_477 (by decide) ?_
  refine rw_iast hx hb hW (by decide) (k + 6) (get_oT hk (j := 5) rfl) (v := 102) (by decide) (by decide) (by decide) dX11_init_479 (fun H locs hW => ?_)
  obtain ⟨M80, hM80⟩ : ∃ z, z = upd2 M79 (k + 6) 57 102 := ⟨_, rfl⟩
  rw [← hM80] at hW
  have hsM80 : ∀ q, q < k + 6 → M80 q = M79 q := fun q hq => by rw [hM80]; exact upd2_ne1 (by omega)
  have hrM80 : M80 (k + 6) = (updI (updI (updI (updI (updI (updI (updI (updI (updI (updI (updI (updI (updI (updI (updI (updI (updI (updI (updI (updI (updI (updI (updI (updI (updI (updI (updI (updI (updI (updI (updI (updI (updI (updI (updI (updI (updI (updI (updI (updI (updI (updI (updI (updI (updI (updI (updI (updI (updI (updI (updI (updI (updI (updI (updI (updI (updI (updI zr 0 99) 1 101) 2 108) 3 108) 4 115) 5 114) 6 111) 7 111) 8 109) 9 115) 10 108) 11 111) 12 112) 13 101) 14 104) 15 101) 16 100) 17 103) 18 101) 19 107) 20 101) 21 103) 22 115) 23 105) 24 100) 25 101) 26 102) 27 111) 28 111) 29 108) 30 115) 31 114) 32 101) 33 115) 34 116) 35 98) 36 114) 37 101) 38 97) 39 107) 40 97) 41 108) 42 108) 43 104) 44 97) 45 108) 46 102) 47 115) 48 116) 49 101) 50 97) 51 100) 52 121) 53 108) 54 97) 55 116) 56 101) 57 102) := by rw [hM80, upd2_row, hrM79]
  refine lv_dup hx hb dX11_init_480 rfl ?_
  refine rw_bipush hx hb dX11_init_481 (by decide) ?_
  refine rw_bipush hx hb dX11_init_483 (by decide) ?_
  refine rw_iast hx hb hW (by decide) (k + 6) (get_oT hk (j := 5) rfl) (v := 111) (by decide) (by decide) (by decide) dX11_init_485 (fun H locs hW => ?_)
  obtain ⟨M81, hM81⟩ : ∃ z, z = upd2 M80 (k + 6) 58 111 := ⟨_, rfl⟩
  rw [← hM81] at hW
  have hsM81 : ∀ q, q < k + 6 → M81 q = M80 q := fun q hq => by rw [hM81]; exact upd2_ne1 (by omega)
  have hrM81 : M81 (k + 6) = (updI (updI (updI (updI (updI (updI (updI (updI (updI (updI (updI (updI (updI (updI (updI (updI (updI (updI (updI (updI (updI (updI (updI (updI (updI (updI (updI (updI (updI (updI (updI (updI (updI (updI (updI (updI (updI (updI (updI (updI (updI (updI (updI (updI (updI (updI (updI (updI (updI (updI (updI (updI (updI (updI (updI (updI (updI (updI (updI zr 0 99) 1 101) 2 108) 3 108) 4 115) 5 114) 6 111) 7 111) 8 109) 9 115) 10 108) 11 111) 12 112) 13 101) 14 104) 15 101) 16 100) 17 103) 18 101) 19 107) 20 101) 21 103) 22 115) 23 105) 24 100) 25 101) 26 102) 27 111) 28 111) 29 108) 30 115) 31 114) 32 101) 33 115) 34 116) 35 98) 36 114) 37 101) 38 97) 39 107) 40 97) 41 108) 42 108) 43 104) 44 97) 45 108) 46 102) 47 115) 48 116) 49 101) 50 97) 51 100) 52 121) 53 108) 54 97) 55 116) 56 101) 57 102) 58 111) := by rw [hM81, upd2_row, hrM80]
  refine lv_dup hx hb dX11_init_486 rfl ?_
  refine rw_bipush hx hb dX11_init_487 (by decide) ?_
  refine rw_bipush hx hb dX11_init_489 (by decide) ?_
  refine rw_iast hx hb hW (by decide) (k + 6) (get_oT hk (j := 5) rfl) (v := 108) (by decide) (by decide) (by decide) dX11_init_491 (fun H locs hW => ?_)
  obtain ⟨M82, hM82⟩ : ∃ z, z = upd2 M81 (k + 6) 59 108 := ⟨_, rfl⟩
  rw [← hM82] at hW
  have hsM82 : ∀ q, q < k + 6 → M82 q = M81 q := fun q hq => by rw [hM82]; exact upd2_ne1 (by omega)
  have hrM82 : M82 (k + 6) = (updI (updI (updI (updI (updI (updI (updI (updI (updI (updI (updI (updI (updI (updI (updI (updI (updI (updI (updI (updI (updI (updI (updI (updI (updI (updI (updI (updI (updI (updI (updI (updI (updI (updI (updI (updI (updI (updI (updI (updI (updI (updI (updI (updI (updI (updI (updI (updI (updI (updI (updI (updI (updI (updI (updI (updI (updI (updI (updI (updI zr 0 99) 1 101) 2 108) 3 108) 4 115) 5 114) 6 111) 7 111) 8 109) 9 115) 10 108) 11 111) 12 112) 13 101) 14 104) 15 101) 16 100) 17 103) 18 101) 19 107) 20 101) 21 103) 22 115) 23 105) 24 100) 25 101) 26 102) 27 111) 28 111) 29 108) 30 115) 31 114) 32 101) 33 115) 34 116) 35 98) 36 114) 37 101) 38 97) 39 107) 40 97) 41 108) 42 108) 43 104) 44 97) 45 108) 46 102) 47 115) 48 116) 49 101) 50 97) 51 100) 52 121) 53 108) 54 97) 55 116) 56 101) 57 102) 58 111) 59 108) := by rw [hM82, upd2_row, hrM81]
  refine lv_dup hx hb dX11_init_492 rfl ?_
  refine rw_bipush hx hb dX11_init_493 (by decide) ?_
  refine rw_bipush hx hb dX11_init_495 (by decide) ?_
  refine rw_iast hx hb hW (by decide) (k + 6) (get_oT hk (j := 5) rfl) (v := 108) (by decide) (by decide) (by decide) dX11_init_497 (fun H locs hW => ?_)
  obtain ⟨M83, hM83⟩ : ∃ z, z = upd2 M82 (k + 6) 60 108 := ⟨_, rfl⟩
  rw [← hM83] at hW
  have hsM83 : ∀ q, q < k + 6 → M83 q = M82 q := fun q hq => by rw [hM83]; exact upd2_ne1 (by omega)
  have hrM83 : M83 (k + 6) = (updI (updI (updI (updI (updI (updI (updI (updI (updI (updI (updI (updI (updI (updI (updI (updI (updI (updI (updI (updI (updI (updI (updI (updI (updI (updI (updI (updI (updI (updI (updI (updI (updI (updI (updI (updI (updI (updI (updI (updI (updI (updI (updI (updI (updI (updI (updI (updI (updI (updI (updI (updI (updI (updI (updI (updI (updI (updI (updI (updI (updI zr 0 99) 1 101) 2 108) 3 108) 4 115) 5 114) 6 111) 7 111) 8 109) 9 115) 10 108) 11 111) 12 112) 13 101) 14 104) 15 101) 16 100) 17 103) 18 101) 19 107) 20 101) 21 103) 22 115) 23 105) 24 100) 25 101) 26 102) 27 111) 28 111) 29 108) 30 115) 31 114) 32 101) 33 115) 34 116) 35 98) 36 114) 37 101) 38 97) 39 107) 40 97) 41 108) 42 108) 43 104) 44 97) 45 108) 46 102) 47 115) 48 116) 49 101) 50 97) 51 100) 52 121) 53 108) 54 97) 55 116) 56 101) 57 102) 58 111) 59 108) 60 108) := by rw [hM83, upd2_row, hrM82]
  refine lv_dup hx hb dX11_init_498 rfl ?_
  refine rw_bipush hx hb dX11_init_499 (by decide) ?_
  refine rw_bipush hx hb dX11_init_501 (by decide) ?_
  refine rw_iast hx hb hW (by decide) (k + 6) (get_oT hk (j := 5) rfl) (v := 111) (by decide) (by decide) (by decide) dX11_init_503 (fun H locs hW => ?_)
  obtain ⟨M84, hM84⟩ : ∃ z, z = upd2 M83 (k + 6) 61 111 := ⟨_, rfl⟩
  rw [← hM84] at hW
  have hsM84 : ∀ q, q < k + 6 → M84 q = M83 q := fun q hq => by rw [hM84]; exact upd2_ne1 (by omega)
  have hrM84 : M84 (k + 6) = (updI (updI (updI (updI (updI (updI (updI (updI (updI (updI (updI (updI (updI (updI (updI (updI (updI (updI (updI (updI (updI (updI (updI (updI (updI (updI (updI (updI (updI (updI (updI (updI (updI (updI (updI (updI (updI (updI (updI (updI (updI (updI (updI (updI (updI (updI (updI (updI (updI (updI (updI (updI (updI (updI (updI (updI (updI (updI (updI (updI (updI (updI zr 0 99) 1 101) 2 108) 3 108) 4 115) 5 114) 6 111) 7 111) 8 109) 9 115) 10 108) 11 111) 12 112) 13 101) 14 104) 15 101) 16 100) 17 103) 18 101) 19 107) 20 101) 21 103) 22 115) 23 105) 24 100) 25 101) 26 102) 27 111) 28 111) 29 108) 30 115) 31 114) 32 101) 33 115) 34 116) 35 98) 36 114) 37 101) 38 97) 39 107) 40 97) 41 108) 42 108) 43 104) 44 97) 45 108) 46 102) 47 115) 48 116) 49 101) 50 97) 51 100) 52 121) 53 108) 54 97) 55 116) 56 101) 57 102) 58 111) 59 108) 60 108) 61 111) := by rw [hM84, upd2_row, hrM83]
  refine lv_dup hx hb dX11_init_504 rfl ?_
  refine rw_bipush hx hb dX11_init_505 (by decide) ?_
  refine rw_bipush hx hb dX11_init_507 (by decide) ?_
  refine rw_iast hx hb hW (by decide) (k + 6) (get_oT hk (j := 5) rfl) (v := 119) (by decide) (by decide) (by decide) dX11_init_509 (fun H locs hW => ?_)
  obtain ⟨M85, hM85⟩ : ∃ z, z = upd2 M84 (k + 6) 62 119 := ⟨_, rfl⟩
  rw [← hM85] at hW
  have hsM85 : ∀ q, q < k + 6 → M85 q = M84 q := fun q hq => by rw [hM85]; exact upd2_ne1 (by omega)
  have hrM85 : M85 (k + 6) = (updI (updI (updI (updI (updI (updI (updI (updI (updI (updI (updI (updI (updI (updI (updI (updI (updI (updI (updI (updI (updI (updI (updI (updI (updI (updI (updI (updI (updI (updI (updI (updI (updI (updI (updI (updI (updI (updI (updI (updI (updI (updI (updI (updI (updI (updI (updI (updI (updI (updI (updI (updI (updI (updI (updI (updI (updI (updI (updI (updI (updI (updI (updI zr 0 99) 1 101) 2 108) 3 108) 4 115) 5 114) 6 111) 7 111) 8 109) 9 115) 10 108) 11 111) 12 112) 13 101) 14 104) 15 101) 16 100) 17 103) 18 101) 19 107) 20 101) 21 103) 22 115) 23 105) 24 100) 25 101) 26 102) 27 111) 28 111) 29 108) 30 115) 31 114) 32 101) 33 115) 34 116) 35 98) 36 114) 37 101) 38 97) 39 107) 40 97) 41 108) 42 108) 43 104) 44 97) 45 108) 46 102) 47 115) 48 116) 49 101) 50 97) 51 100) 52 121) 53 108) 54 97) 55 116) 56 101) 57 102) 58 111) 59 108) 60 108) 61 111) 62 119) := by rw [hM85, upd2_row, hrM84]
  refine lv_dup hx hb dX11_init_510 rfl ?_
  refine rw_bipush hx hb dX11_init_511 (by decide) ?_
  refine rw_bipush hx hb dX11_init_513 (by decide) ?_
  refine rw_iast hx hb hW (by decide) (k + 6) (get_oT hk (j := 5) rfl) (v := 115) (by decide) (by decide) (by decide) dX11_init_515 (fun H locs hW => ?_)
  obtain ⟨M86, hM86⟩ : ∃ z, z = upd2 M85 (k + 6) 63 115 := ⟨_, rfl⟩
  rw [← hM86] at hW
  have hsM86 : ∀ q, q < k + 6 → M86 q = M85 q := fun q hq => by rw [hM86]; exact upd2_ne1 (by omega)
  have hrM86 : M86 (k + 6) = (updI (updI (updI (updI (updI (updI (updI (updI (updI (updI (updI (updI (updI (updI (updI (updI (updI (updI (updI (updI (updI (updI (updI (updI (updI (updI (updI (updI (updI (updI (updI (updI (updI (updI (updI (updI (updI (updI (updI (updI (updI (updI (updI (updI (updI (updI (updI (updI (updI (updI (updI (updI (updI (updI (updI (updI (updI (updI (updI (updI (updI (updI (updI (updI zr 0 99) 1 101) 2 108) 3 108) 4 115) 5 114) 6 111) 7 111) 8 109) 9 115) 10 108) 11 111) 12 112) 13 101) 14 104) 15 101) 16 100) 17 103) 18 101) 19 107) 20 101) 21 103) 22 115) 23 105) 24 100) 25 101) 26 102) 27 111) 28 111) 29 108) 30 115) 31 114) 32 101) 33 115) 34 116) 35 98) 36 114) 37 101) 38 97) 39 107) 40 97) 41 108) 42 108) 43 104) 44 97) 45 108) 46 102) 47 115) 48 116) 49 101) 50 97) 51 100) 52 121) 53 108) 54 97) 55 116) 56 101) 57 102) 58 111) 59 108) 60 108) 61 111) 62 119) 63 115) := by rw [hM86, upd2_row, hrM85]
  refine nwP hx hb hts hown hnm hk hW hcl 18 rfl (k + 6) (by show _ < k + (6 + 1); omega) qX11_29 (fun _ => ⟨rfl, rfl⟩) dX11_init_516 (fun H locs hcl hW => ?_)
  have hcl : CloL (L0 ++ (.inl (11, [k + 1 + 3, 0, k + 2 + 3, 0, 0, 0, k + 3 + 3, 0, k + 4 + 3, 0, 0, 0, 0, 0, 0, 0, 0, k + 5 + 3, k + 6 + 3, 2, 2, 2, 0, 2, 2, 2, 2, 0]) :: ([.inr (0, 235, [])] ++ [.inr (0, 47, [])] ++ [.inr (0, 9, [])] ++ [.inr (0, 320, [])] ++ [.inr (0, 15, [])] ++ [.inr (0, 64, [])]))) := hcl
  have hW : Wo G ad6 CA 6 (L0 ++ (.inl (11, [k + 1 + 3, 0, k + 2 + 3, 0, 0, 0, k + 3 + 3, 0, k + 4 + 3, 0, 0, 0, 0, 0, 0, 0, 0, k + 5 + 3, k + 6 + 3, 2, 2, 2, 0, 2, 2, 2, 2, 0]) :: ([.inr (0, 235, [])] ++ [.inr (0, 47, [])] ++ [.inr (0, 9, [])] ++ [.inr (0, 320, [])] ++ [.inr (0, 15, [])] ++ [.inr (0, 64, [])]))) (AG ad _ s.heap.size) s M86 H locs := hW
  refine lv_aload_n hx hb dX11_init_519 rfl (lv_at hl 0 rfl) ?_
  refine rw_iconst hx hb dX11_init_520 ?_
  refine nwA (n := k + 7) hx hb hts hA hk rfl hW hcl 0 (wm_3 _ (List.mem_of_getElem? (i := 0) rfl)) (Or.inl ⟨rfl, rfl⟩) (N := 4) rfl (by decide) (Nat.le_of_ble_eq_true rfl) (Nat.le_of_ble_eq_true rfl) dX11_init_521 (fun ad7 H hx7 hcl hW => ?_)
  rw [← hx7 k (by omega)] at hl
  rw [← hx7 k (by omega)]
  have hc7 : ∀ j, j < k + 1 → ad7 j = ad j := fun j hj => (hx7 j (by omega)).trans (hc6 j hj)
  obtain ⟨M87, hM87⟩ : ∃ z, z = updR M86 (k + 7) zr := ⟨_, rfl⟩
  rw [← hM87] at hW
  have hsM87 : ∀ q, q < k + 7 → M87 q = M86 q := fun q hq => by rw [hM87]; exact updR_ne (by omega)
  have hrM87 : M87 (k + 7) = zr := by rw [hM87]; exact updR_eq
  refine nwP hx hb hts hown hnm hk hW hcl 19 rfl (k + 7) (by show _ < k + (7 + 1); omega) qX11_32 (fun _ => ⟨rfl, rfl⟩) dX11_init_523 (fun H locs hcl hW => ?_)
  have hcl : CloL (L0 ++ (.inl (11, [k + 1 + 3, 0, k + 2 + 3, 0, 0, 0, k + 3 + 3, 0, k + 4 + 3, 0, 0, 0, 0, 0, 0, 0, 0, k + 5 + 3, k + 6 + 3, k + 7 + 3, 2, 2, 0, 2, 2, 2, 2, 0]) :: ([.inr (0, 235, [])] ++ [.inr (0, 47, [])] ++ [.inr (0, 9, [])] ++ [.inr (0, 320, [])] ++ [.inr (0, 15, [])] ++ [.inr (0, 64, [])] ++ [.inr (0, 4, [])]))) := hcl
  have hW : Wo G ad7 CA 6 (L0 ++ (.inl (11, [k + 1 + 3, 0, k + 2 + 3, 0, 0, 0, k + 3 + 3, 0, k + 4 + 3, 0, 0, 0, 0, 0, 0, 0, 0, k + 5 + 3, k + 6 + 3, k + 7 + 3, 2, 2, 0, 2, 2, 2, 2, 0]) :: ([.inr (0, 235, [])] ++ [.inr (0, 47, [])] ++ [.inr (0, 9, [])] ++ [.inr (0, 320, [])] ++ [.inr (0, 15, [])] ++ [.inr (0, 64, [])] ++ [.inr (0, 4, [])]))) (AG ad _ s.heap.size) s M87 H locs := hW
  refine lv_aload_n hx hb dX11_init_526 rfl (lv_at hl 0 rfl) ?_
  refine rw_iconst hx hb dX11_init_527 ?_
  refine nwA (n := k + 8) hx hb hts hA hk rfl hW hcl 0 (wm_3 _ (List.mem_of_getElem? (i := 0) rfl)) (Or.inl ⟨rfl, rfl⟩) (N := 4) rfl (by decide) (Nat.le_of_ble_eq_true rfl) (Nat.le_of_ble_eq_true rfl) dX11_init_528 (fun ad8 H hx8 hcl hW => ?_)
  rw [← hx8 k (by omega)] at hl
  rw [← hx8 k (by omega)]
  have hc8 : ∀ j, j < k + 1 → ad8 j = ad j := fun j hj => (hx8 j (by omega)).trans (hc7 j hj)
  obtain ⟨M88, hM88⟩ : ∃ z, z = updR M87 (k + 8) zr := ⟨_, rfl⟩
  rw [← hM88] at hW
  have hsM88 : ∀ q, q < k + 8 → M88 q = M87 q := fun q hq => by rw [hM88]; exact updR_ne (by omega)
  have hrM88 : M88 (k + 8) = zr := by rw [hM88]; exact updR_eq
  refine nwP hx hb hts hown hnm hk hW hcl 20 rfl (k + 8) (by show _ < k + (8 + 1); omega) qX11_35 (fun _ => ⟨rfl, rfl⟩) dX11_init_530 (fun H locs hcl hW => ?_)
  have hcl : CloL (L0 ++ (.inl (11, [k + 1 + 3, 0, k + 2 + 3, 0, 0, 0, k + 3 + 3, 0, k + 4 + 3, 0, 0, 0, 0, 0, 0, 0, 0, k + 5 + 3, k + 6 + 3, k + 7 + 3, k + 8 + 3, 2, 0, 2, 2, 2, 2, 0]) :: ([.inr (0, 235, [])] ++ [.inr (0, 47, [])] ++ [.inr (0, 9, [])] ++ [.inr (0, 320, [])] ++ [.inr (0, 15, [])] ++ [.inr (0, 64, [])] ++ [.inr (0, 4, [])] ++ [.inr (0, 4, [])]))) := hcl
  have hW : Wo G ad8 CA 6 (L0 ++ (.inl (11, [k + 1 + 3, 0, k + 2 + 3, 0, 0, 0, k + 3 + 3, 0, k + 4 + 3, 0, 0, 0, 0, 0, 0, 0, 0, k + 5 + 3, k + 6 + 3, k + 7 + 3, k + 8 + 3, 2, 0, 2, 2, 2, 2, 0]) :: ([.inr (0, 235, [])] ++ [.inr (0, 47, [])] ++ [.inr (0, 9, [])] ++ [.inr (0, 320, [])] ++ [.inr (0, 15, [])] ++ [.inr (0, 64, [])] ++ [.inr (0, 4, [])] ++ [.inr (0, 4, [])]))) (AG ad _ s.heap.size) s M88 H locs := hW
  refine lv_aload_n hx hb dX11_init_533 rfl (lv_at hl 0 rfl) ?_
  refine rw_bipush hx hb dX11_init_534 (by decide) ?_
  refine nwA (n := k + 9) hx hb hts hA hk rfl hW hcl 0 (wm_3 _ (List.mem_of_getElem? (i := 0) rfl)) (Or.inl ⟨rfl, rfl⟩) (N := 16) rfl (by decide) (Nat.le_of_ble_eq_true rfl) (Nat.le_of_ble_eq_true rfl) dX11_init_536 (fun ad9 H hx9 hcl hW => ?_)
  rw [← hx9 k (by omega)] at hl
  rw [← hx9 k (by omega)]
  have hc9 : ∀ j, j < k + 1 → ad9 j = ad j := fun j hj => (hx9 j (by omega)).trans (hc8 j hj)
  obtain ⟨M89, hM89⟩ : ∃ z, z = updR M88 (k + 9) zr := ⟨_, rfl⟩
  rw [← hM89] at hW
  have hsM89 : ∀ q, q < k + 9 → M89 q = M88 q := fun q hq => by rw [hM89]; exact updR_ne (by omega)
  have hrM89 : M89 (k + 9) = zr := by rw [hM89]; exact updR_eq
  refine nwP hx hb hts hown hnm hk hW hcl 21 rfl (k + 9) (by show _ < k + (9 + 1); omega) qX11_38 (fun _ => ⟨rfl, rfl⟩) dX11_init_538 (fun H locs hcl hW => ?_)
  have hcl : CloL (L0 ++ (.inl (11, [k + 1 + 3, 0, k + 2 + 3, 0, 0, 0, k + 3 + 3, 0, k + 4 + 3, 0, 0, 0, 0, 0, 0, 0, 0, k + 5 + 3, k + 6 + 3, k + 7 + 3, k + 8 + 3, k + 9 + 3, 0, 2, 2, 2, 2, 0]) :: ([.inr (0, 235, [])] ++ [.inr (0, 47, [])] ++ [.inr (0, 9, [])] ++ [.inr (0, 320, [])] ++ [.inr (0, 15, [])] ++ [.inr (0, 64, [])] ++ [.inr (0, 4, [])] ++ [.inr (0, 4, [])] ++ [.inr (0, 16, [])]))) := hcl
  have hW : Wo G ad9 CA 6 (L0 ++ (.inl (11, [k + 1 + 3, 0, k + 2 + 3, 0, 0, 0, k + 3 + 3, 0, k + 4 + 3, 0, 0, 0, 0, 0, 0, 0, 0, k + 5 + 3, k + 6 + 3, k + 7 + 3, k + 8 + 3, k + 9 + 3, 0, 2, 2, 2, 2, 0]) :: ([.inr (0, 235, [])] ++ [.inr (0, 47, [])] ++ [.inr (0, 9, [])] ++ [.inr (0, 320, [])] ++ [.inr (0, 15, [])] ++ [.inr (0, 64, [])] ++ [.inr (0, 4, [])] ++ [.inr (0, 4, [])] ++ [.inr (0, 16, [])]))) (AG ad _ s.heap.size) s M89 H locs := hW
  refine lv_aload_n hx hb dX11_init_541 rfl (lv_at hl 0 rfl) ?_
  refine rw_iconst hx hb dX11_init_542 ?_
  refine nwA (n := k + 10) hx hb hts hA hk rfl hW hcl 3 (wm_7 _ (List.mem_of_getElem? (i := 6) rfl)) (Or.inr (Or.inr (Or.inr ⟨rfl, rfl⟩))) (N := 2) rfl (by decide) (Nat.le_of_ble_eq_true rfl) (Nat.le_of_ble_eq_true rfl) dX11_init_543 (fun ad10 H hx10 hcl hW => ?_)
  rw [← hx10 k (by omega)] at hl
  rw [← hx10 k (by omega)]
  have hc10 : ∀ j, j < k + 1 → ad10 j = ad j := fun j hj => (hx10 j (by omega)).trans (hc9 j hj)
  obtain ⟨M90, hM90⟩ : ∃ z, z = updR M89 (k + 10) zr := ⟨_, rfl⟩
  rw [← hM90] at hW
  have hsM90 : ∀ q, q < k + 10 → M90 q = M89 q := fun q hq => by rw [hM90]; exact updR_ne (by omega)
  have hrM90 : M90 (k + 10) = zr := by rw [hM90]; exact updR_eq
  refine nwP hx hb hts hown hnm hk hW hcl 23 rfl (k + 10) (by show _ < k + (10 + 1); omega) qX11_41 (fun _ => ⟨rfl, rfl⟩) dX11_init_545 (fun H locs hcl hW => ?_)
  have hcl : CloL (L0 ++ (.inl (11, [k + 1 + 3, 0, k + 2 + 3, 0, 0, 0, k + 3 + 3, 0, k + 4 + 3, 0, 0, 0, 0, 0, 0, 0, 0, k + 5 + 3, k + 6 + 3, k + 7 + 3, k + 8 + 3, k + 9 + 3, 0, k + 10 + 3, 2, 2, 2, 0]) :: ([.inr (0, 235, [])] ++ [.inr (0, 47, [])] ++ [.inr (0, 9, [])] ++ [.inr (0, 320, [])] ++ [.inr (0, 15, [])] ++ [.inr (0, 64, [])] ++ [.inr (0, 4, [])] ++ [.inr (0, 4, [])] ++ [.inr (0, 16, [])] ++ [.inr (3, 2, [])]))) := hcl
  have hW : Wo G ad10 CA 6 (L0 ++ (.inl (11, [k + 1 + 3, 0, k + 2 + 3, 0, 0, 0, k + 3 + 3, 0, k + 4 + 3, 0, 0, 0, 0, 0, 0, 0, 0, k + 5 + 3, k + 6 + 3, k + 7 + 3, k + 8 + 3, k + 9 + 3, 0, k + 10 + 3, 2, 2, 2, 0]) :: ([.inr (0, 235, [])] ++ [.inr (0, 47, [])] ++ [.inr (0, 9, [])] ++ [.inr (0, 320, [])] ++ [.inr (0, 15, [])] ++ [.inr (0, 64, [])] ++ [.inr (0, 4, [])] ++ [.inr (0, 4, [])] ++ [.inr (0, 16, [])] ++ [.inr (3, 2, [])]))) (AG ad _ s.heap.size) s M90 H locs := hW
  refine lv_aload_n hx hb dX11_init_548 rfl (lv_at hl 0 rfl) ?_
  refine rw_iconst hx hb dX11_init_549 ?_
  refine nwA (n := k + 11) hx hb hts hA hk rfl hW hcl 0 (wm_3 _ (List.mem_of_getElem? (i := 0) rfl)) (Or.inl ⟨rfl, rfl⟩) (N := 4) rfl (by decide) (Nat.le_of_ble_eq_true rfl) (Nat.le_of_ble_eq_true rfl) dX11_init_550 (fun ad11 H hx11 hcl hW => ?_)
  rw [← hx11 k (by omega)] at hl
  rw [← hx11 k (by omega)]
  have hc11 : ∀ j, j < k + 1 → ad11 j = ad j := fun j hj => (hx11 j (by omega)).trans (hc10 j hj)
  obtain ⟨M91, hM91⟩ : ∃ z, z = updR M90 (k + 11) zr := ⟨_, rfl⟩
  rw [← hM91] at hW
  have hsM91 : ∀ q, q < k + 11 → M91 q = M90 q := fun q hq => by rw [hM91]; exact updR_ne (by omega)
  have hrM91 : M91 (k + 11) = zr := by rw [hM91]; exact updR_eq
  refine lv_dup hx hb dX11_init_552 rfl ?_
  refine rw_iconst hx hb dX11_init_553 ?_
  refine rw_bipush hx hb dX11_init_554 (by decide) ?_
  refine rw_iast hx hb hW (by decide) (k + 11) (get_oT hk (j := 10) rfl) (v := (-4)) (by decide) (by decide) (by decide) dX11_init_556 (fun H locs hW => ?_)
  obtain ⟨M92, hM92⟩ : ∃ z, z = upd2 M91 (k + 11) 0 (-4) := ⟨_, rfl⟩
  rw [← hM92] at hW
  have hsM92 : ∀ q, q < k + 11 → M92 q = M91 q := fun q hq => by rw [hM92]; exact upd2_ne1 (by omega)
  have hrM92 : M92 (k + 11) = (updI zr 0 (-4)) := by rw [hM92, upd2_row, hrM91]
  refine lv_dup hx hb dX11_init_557 rfl ?_
  refine rw_iconst hx hb dX11_init_558 ?_
  refine rw_bipush hx hb dX11_init_559 (by decide) ?_
  refine rw_iast hx hb hW (by decide) (k + 11) (get_oT hk (j := 10) rfl) (v := (-4)) (by decide) (by decide) (by decide) dX11_init_561 (fun H locs hW => ?_)
  obtain ⟨M93, hM93⟩ : ∃ z, z = upd2 M92 (k + 11) 1 (-4) := ⟨_, rfl⟩
  rw [← hM93] at hW
  have hsM93 : ∀ q, q < k + 11 → M93 q = M92 q := fun q hq => by rw [hM93]; exact upd2_ne1 (by omega)
  have hrM93 : M93 (k + 11) = (updI (updI zr 0 (-4)) 1 (-4)) := by rw [hM93, upd2_row, hrM92]
  refine lv_dup hx hb dX11_init_562 rfl ?_
  refine rw_iconst hx hb dX11_init_563 ?_
  refine rw_bipush hx hb dX11_init_564 (by decide) ?_
  refine rw_iast hx hb hW (by decide) (k + 11) (get_oT hk (j := 10) rfl) (v := (-4)) (by decide) (by decide) (by decide) dX11_init_566 (fun H locs hW => ?_)
  obtain ⟨M94, hM94⟩ : ∃ z, z = upd2 M93 (k + 11) 2 (-4) := ⟨_, rfl⟩
  rw [← hM94] at hW
  have hsM94 : ∀ q, q < k + 11 → M94 q = M93 q := fun q hq => by rw [hM94]; exact upd2_ne1 (by omega)
  have hrM94 : M94 (k + 11) = (updI (updI (updI zr 0 (-4)) 1 (-4)) 2 (-4)) := by rw [hM94, upd2_row, hrM93]
  refine lv_dup hx hb dX11_init_567 rfl ?_
  refine rw_iconst hx hb dX11_init_568 ?_
  refine rw_bipush hx hb dX11_init_569 (by decide) ?_
  refine rw_iast hx hb hW (by decide) (k + 11) (get_oT hk (j := 10) rfl) (v := (-4)) (by decide) (by decide) (by decide) dX11_init_571 (fun H locs hW => ?_)
  obtain ⟨M95, hM95⟩ : ∃ z, z = upd2 M94 (k + 11) 3 (-4) := ⟨_, rfl⟩
  rw [← hM95] at hW
  have hsM95 : ∀ q, q < k + 11 → M95 q = M94 q := fun q hq => by rw [hM95]; exact upd2_ne1 (by omega)
  have hrM95 : M95 (k + 11) = (updI (updI (updI (updI zr 0 (-4)) 1 (-4)) 2 (-4)) 3 (-4)) := by rw [hM95, upd2_row, hrM94]
  refine nwP hx hb hts hown hnm hk hW hcl 24 rfl (k + 11) (by show _ < k + (11 + 1); omega) qX11_45 (fun _ => ⟨rfl, rfl⟩) dX11_init_572 (fun H locs hcl hW => ?_)
  have hcl : CloL (L0 ++ (.inl (11, [k + 1 + 3, 0, k + 2 + 3, 0, 0, 0, k + 3 + 3, 0, k + 4 + 3, 0, 0, 0, 0, 0, 0, 0, 0, k + 5 + 3, k + 6 + 3, k + 7 + 3, k + 8 + 3, k + 9 + 3, 0, k + 10 + 3, k + 11 + 3, 2, 2, 0]) :: ([.inr (0, 235, [])] ++ [.inr (0, 47, [])] ++ [.inr (0, 9, [])] ++ [.inr (0, 320, [])] ++ [.inr (0, 15, [])] ++ [.inr (0, 64, [])] ++ [.inr (0, 4, [])] ++ [.inr (0, 4, [])] ++ [.inr (0, 16, [])] ++ [.inr (3, 2, [])] ++ [.inr (0, 4, [])]))) := hcl
  have hW : Wo G ad11 CA 6 (L0 ++ (.inl (11, [k + 1 + 3, 0, k + 2 + 3, 0, 0, 0, k + 3 + 3, 0, k + 4 + 3, 0, 0, 0, 0, 0, 0, 0, 0, k + 5 + 3, k + 6 + 3, k + 7 + 3, k + 8 + 3, k + 9 + 3, 0, k + 10 + 3, k + 11 + 3, 2, 2, 0]) :: ([.inr (0, 235, [])] ++ [.inr (0, 47, [])] ++ [.inr (0, 9, [])] ++ [.inr (0, 320, [])] ++ [.inr (0, 15, [])] ++ [.inr (0, 64, [])] ++ [.inr (0, 4, [])] ++ [.inr (0, 4, [])] ++ [.inr (0, 16, [])] ++ [.inr (3, 2, [])] ++ [.inr (0, 4, [])]))) (AG ad _ s.heap.size) s M95 H locs := hW
  refine lv_aload_n hx hb dX11_init_575 rfl (lv_at hl 0 rfl) ?_
  refine rw_iconst hx hb dX11_init_576 ?_
  refine nwA (n := k + 12) hx hb hts hA hk rfl hW hcl 0 (wm_3 _ (List.mem_of_getElem? (i := 0) rfl)) (Or.inl ⟨rfl, rfl⟩) (N := 4) rfl (by decide) (Nat.le_of_ble_eq_true rfl) (Nat.le_of_ble_eq_true rfl) dX11_init_577 (fun ad12 H hx12 hcl hW => ?_)
  rw [← hx12 k (by omega)] at hl
  rw [← hx12 k (by omega)]
  have hc12 : ∀ j, j < k + 1 → ad12 j = ad j := fun j hj => (hx12 j (by omega)).trans (hc11 j hj)
  obtain ⟨M96, hM96⟩ : ∃ z, z = updR M95 (k + 12) zr := ⟨_, rfl⟩
  rw [← hM96] at hW
  have hsM96 : ∀ q, q < k + 12 → M96 q = M95 q := fun q hq => by rw [hM96]; exact updR_ne (by omega)
  have hrM96 : M96 (k + 12) = zr := by rw [hM96]; exact updR_eq
  refine nwP hx hb hts hown hnm hk hW hcl 25 rfl (k + 12) (by show _ < k + (12 + 1); omega) qX11_48 (fun _ => ⟨rfl, rfl⟩) dX11_init_579 (fun H locs hcl hW => ?_)
  have hcl : CloL (L0 ++ (.inl (11, [k + 1 + 3, 0, k + 2 + 3, 0, 0, 0, k + 3 + 3, 0, k + 4 + 3, 0, 0, 0, 0, 0, 0, 0, 0, k + 5 + 3, k + 6 + 3, k + 7 + 3, k + 8 + 3, k + 9 + 3, 0, k + 10 + 3, k + 11 + 3, k + 12 + 3, 2, 0]) :: ([.inr (0, 235, [])] ++ [.inr (0, 47, [])] ++ [.inr (0, 9, [])] ++ [.inr (0, 320, [])] ++ [.inr (0, 15, [])] ++ [.inr (0, 64, [])] ++ [.inr (0, 4, [])] ++ [.inr (0, 4, [])] ++ [.inr (0, 16, [])] ++ [.inr (3, 2, [])] ++ [.inr (0, 4, [])] ++ [.inr (0, 4, [])]))) := hcl
  have hW : Wo G ad12 CA 6 (L0 ++ (.inl (11, [k + 1 + 3, 0, k + 2 + 3, 0, 0, 0, k + 3 + 3, 0, k + 4 + 3, 0, 0, 0, 0, 0, 0, 0, 0, k + 5 + 3, k + 6 + 3, k + 7 + 3, k + 8 + 3, k + 9 + 3, 0, k + 10 + 3, k + 11 + 3, k + 12 + 3, 2, 0]) :: ([.inr (0, 235, [])] ++ [.inr (0, 47, [])] ++ [.inr (0, 9, [])] ++ [.inr (0, 320, [])] ++ [.inr (0, 15, [])] ++ [.inr (0, 64, [])] ++ [.inr (0, 4, [])] ++ [.inr (0, 4, [])] ++ [.inr (0, 16, [])] ++ [.inr (3, 2, [])] ++ [.inr (0, 4, [])] ++ [.inr (0, 4, [])]))) (AG ad _ s.heap.size) s M96 H locs := hW
  refine lv_aload_n hx hb dX11_init_582 rfl (lv_at hl 0 rfl) ?_
  refine rw_sipush hx hb dX11_init_583 (by decide) ?_
  refine nwA (n := k + 13) hx hb hts hA hk rfl hW hcl 0 (wm_3 _ (List.mem_of_getElem? (i := 0) rfl)) (Or.inl ⟨rfl, rfl⟩) (N := 160) rfl (by decide) (Nat.le_of_ble_eq_true rfl) (Nat.le_of_ble_eq_true rfl) dX11_init_586 (fun ad13 H hx13 hcl hW => ?_)
  rw [← hx13 k (by omega)] at hl
  rw [← hx13 k (by omega)]
  have hc13 : ∀ j, j < k + 1 → ad13 j = ad j := fun j hj => (hx13 j (by omega)).trans (hc12 j hj)
  obtain ⟨M97, hM97⟩ : ∃ z, z = updR M96 (k + 13) zr := ⟨_, rfl⟩
  rw [← hM97] at hW
  have hsM97 : ∀ q, q < k + 13 → M97 q = M96 q := fun q hq => by rw [hM97]; exact updR_ne (by omega)
  have hrM97 : M97 (k + 13) = zr := by rw [hM97]; exact updR_eq
  refine nwP hx hb hts hown hnm hk hW hcl 26 rfl (k + 13) (by show _ < k + (13 + 1); omega) qX11_51 (fun _ => ⟨rfl, rfl⟩) dX11_init_588 (fun H locs hcl hW => ?_)
  have hcl : CloL (L0 ++ (.inl (11, [k + 1 + 3, 0, k + 2 + 3, 0, 0, 0, k + 3 + 3, 0, k + 4 + 3, 0, 0, 0, 0, 0, 0, 0, 0, k + 5 + 3, k + 6 + 3, k + 7 + 3, k + 8 + 3, k + 9 + 3, 0, k + 10 + 3, k + 11 + 3, k + 12 + 3, k + 13 + 3, 0]) :: ([.inr (0, 235, [])] ++ [.inr (0, 47, [])] ++ [.inr (0, 9, [])] ++ [.inr (0, 320, [])] ++ [.inr (0, 15, [])] ++ [.inr (0, 64, [])] ++ [.inr (0, 4, [])] ++ [.inr (0, 4, [])] ++ [.inr (0, 16, [])] ++ [.inr (3, 2, [])] ++ [.inr (0, 4, [])] ++ [.inr (0, 4, [])] ++ [.inr (0, 160, [])]))) := hcl
  have hW : Wo G ad13 CA 6 (L0 ++ (.inl (11, [k + 1 + 3, 0, k + 2 + 3, 0, 0, 0, k + 3 + 3, 0, k + 4 + 3, 0, 0, 0, 0, 0, 0, 0, 0, k + 5 + 3, k + 6 + 3, k + 7 + 3, k + 8 + 3, k + 9 + 3, 0, k + 10 + 3, k + 11 + 3, k + 12 + 3, k + 13 + 3, 0]) :: ([.inr (0, 235, [])] ++ [.inr (0, 47, [])] ++ [.inr (0, 9, [])] ++ [.inr (0, 320, [])] ++ [.inr (0, 15, [])] ++ [.inr (0, 64, [])] ++ [.inr (0, 4, [])] ++ [.inr (0, 4, [])] ++ [.inr (0, 16, [])] ++ [.inr (3, 2, [])] ++ [.inr (0, 4, [])] ++ [.inr (0, 4, [])] ++ [.inr (0, 160, [])]))) (AG ad _ s.heap.size) s M97 H locs := hW
  have hW : Wo G ad13 CA 6 (L0 ++ modL k) (AG ad _ s.heap.size) s M97 H locs := hW
  have hcl : CloL (L0 ++ modL k) := hcl
  refine rw_vretG hx hb hr hlocks hW (fun j hj => hc13 j (by rw [List.length_append, hk] at hj; exact hj)) (by rw [List.length_append, List.length_append]; exact Nat.add_le_add_left (Nat.le_of_ble_eq_true rfl) _) dX11_init_591 ⟨hcl, ?_⟩
  refine ⟨fun q hq => by rw [hsM97 q (by omega), hsM96 q (by omega), hsM95 q (by omega), hsM94 q (by omega), hsM93 q (by omega), hsM92 q (by omega), hsM91 q (by omega), hsM90 q (by omega), hsM89 q (by omega), hsM88 q (by omega), hsM87 q (by omega), hsM86 q (by omega), hsM85 q (by omega), hsM84 q (by omega), hsM83 q (by omega), hsM82 q (by omega), hsM81 q (by omega), hsM80 q (by omega), hsM79 q (by omega), hsM78 q (by omega), hsM77 q (by omega), hsM76 q (by omega), hsM75 q (by omega), hsM74 q (by omega), hsM73 q (by omega), hsM72 q (by omega), hsM71 q (by omega), hsM70 q (by omega), hsM69 q (by omega), hsM68 q (by omega), hsM67 q (by omega), hsM66 q (by omega), hsM65 q (by omega), hsM64 q (by omega), hsM63 q (by omega), hsM62 q (by omega), hsM61 q (by omega), hsM60 q (by omega), hsM59 q (by omega), hsM58 q (by omega), hsM57 q (by omega), hsM56 q (by omega), hsM55 q (by omega), hsM54 q (by omega), hsM53 q (by omega), hsM52 q (by omega), hsM51 q (by omega), hsM50 q (by omega), hsM49 q (by omega), hsM48 q (by omega), hsM47 q (by omega), hsM46 q (by omega), hsM45 q (by omega), hsM44 q (by omega), hsM43 q (by omega), hsM42 q (by omega), hsM41 q (by omega), hsM40 q (by omega), hsM39 q (by omega), hsM38 q (by omega), hsM37 q (by omega), hsM36 q (by omega), hsM35 q (by omega), hsM34 q (by omega), hsM33 q (by omega), hsM32 q (by omega), hsM31 q (by omega), hsM30 q (by omega), hsM29 q (by omega), hsM28 q (by omega), hsM27 q (by omega), hsM26 q (by omega), hsM25 q (by omega), hsM24 q (by omega), hsM23 q (by omega), hsM22 q (by omega), hsM21 q (by omega), hsM20 q (by omega), hsM19 q (by omega), hsM18 q (by omega), hsM17 q (by omega), hsM16 q (by omega), hsM15 q (by omega), hsM14 q (by omega), hsM13 q (by omega), hsM12 q (by omega), hsM11 q (by omega), hsM10 q (by omega), hsM9 q (by omega), hsM8 q (by omega), hsM7 q (by omega), hsM6 q (by omega), hsM5 q (by omega), hsM4 q (by omega), hsM3 q (by omega), hsM2 q (by omega), hsM1 q (by omega)], ?_, ?_, ?_, ?_, ?_, ?_, ?_, ?_, ?_, ?_⟩
  · rw [hsM97 _ (by omega), hsM96 _ (by omega), hsM95 _ (by omega), hsM94 _ (by omega), hsM93 _ (by omega), hsM92 _ (by omega), hsM91 _ (by omega), hsM90 _ (by omega), hsM89 _ (by omega), hsM88 _ (by omega), hsM87 _ (by omega), hsM86 _ (by omega), hsM85 _ (by omega), hsM84 _ (by omega), hsM83 _ (by omega), hsM82 _ (by omega), hsM81 _ (by omega), hsM80 _ (by omega), hsM79 _ (by omega), hsM78 _ (by omega), hsM77 _ (by omega), hsM76 _ (by omega), hsM75 _ (by omega), hsM74 _ (by omega), hsM73 _ (by omega), hsM72 _ (by omega), hsM71 _ (by omega), hsM70 _ (by omega), hsM69 _ (by omega), hsM68 _ (by omega), hsM67 _ (by omega), hsM66 _ (by omega), hsM65 _ (by omega), hsM64 _ (by omega), hsM63 _ (by omega), hsM62 _ (by omega), hsM61 _ (by omega), hsM60 _ (by omega), hsM59 _ (by omega), hsM58 _ (by omega), hsM57 _ (by omega), hsM56 _ (by omega), hsM55 _ (by omega), hsM54 _ (by omega), hsM53 _ (by omega), hsM52 _ (by omega), hsM51 _ (by omega), hsM50 _ (by omega), hsM49 _ (by omega), hsM48 _ (by omega), hsM47 _ (by omega), hsM46 _ (by omega), hsM45 _ (by omega), hsM44 _ (by omega), hsM43 _ (by omega), hsM42 _ (by omega), hsM41 _ (by omega), hsM40 _ (by omega), hsM39 _ (by omega), hsM38 _ (by omega), hsM37 _ (by omega), hsM36 _ (by omega), hsM35 _ (by omega), hsM34 _ (by omega), hsM33 _ (by omega), hsM32 _ (by omega), hsM31 _ (by omega), hsM30 _ (by omega), hsM29 _ (by omega), hsM28 _ (by omega), hsM27 _ (by omega), hsM26 _ (by omega), hsM25 _ (by omega), hsM24 _ (by omega), hsM23 _ (by omega), hsM22 _ (by omega), hsM21 _ (by omega), hsM20 _ (by omega), hsM19 _ (by omega), hsM18 _ (by omega), hsM17 _ (by omega), hsM16 _ (by omega), hsM15 _ (by omega), hsM14 _ (by omega), hsM13 _ (by omega), hsM12 _ (by omega), hsM11 _ (by omega), hsM10 _ (by omega), hsM9 _ (by omega), hsM8 _ (by omega), hsM7 _ (by omega), hsM6 _ (by omega), hsM5 _ (by omega), hsM4 _ (by omega), hsM3 _ (by omega), hM2, upd2_row, hsM1 _ (by omega), hzk]
  · rw [hsM97 _ (by omega), hsM96 _ (by omega), hsM95 _ (by omega), hsM94 _ (by omega), hsM93 _ (by omega), hsM92 _ (by omega), hsM91 _ (by omega), hsM90 _ (by omega), hsM89 _ (by omega), hsM88 _ (by omega), hsM87 _ (by omega), hsM86 _ (by omega), hsM85 _ (by omega), hsM84 _ (by omega), hsM83 _ (by omega), hsM82 _ (by omega), hsM81 _ (by omega), hsM80 _ (by omega), hsM79 _ (by omega), hsM78 _ (by omega), hsM77 _ (by omega), hsM76 _ (by omega), hsM75 _ (by omega), hsM74 _ (by omega), hsM73 _ (by omega), hsM72 _ (by omega), hsM71 _ (by omega), hsM70 _ (by omega), hsM69 _ (by omega), hsM68 _ (by omega), hsM67 _ (by omega), hsM66 _ (by omega), hsM65 _ (by omega), hsM64 _ (by omega), hsM63 _ (by omega), hsM62 _ (by omega), hsM61 _ (by omega), hsM60 _ (by omega), hsM59 _ (by omega), hsM58 _ (by omega), hsM57 _ (by omega), hsM56 _ (by omega), hsM55 _ (by omega), hsM54 _ (by omega), hsM53 _ (by omega), hsM52 _ (by omega), hsM51 _ (by omega), hsM50 _ (by omega), hsM49 _ (by omega), hsM48 _ (by omega), hsM47 _ (by omega), hsM46 _ (by omega), hsM45 _ (by omega), hsM44 _ (by omega), hsM43 _ (by omega), hsM42 _ (by omega), hsM41 _ (by omega), hsM40 _ (by omega), hsM39 _ (by omega), hsM38 _ (by omega), hsM37 _ (by omega), hsM36 _ (by omega), hsM35 _ (by omega), hsM34 _ (by omega), hsM33 _ (by omega), hsM32 _ (by omega), hsM31 _ (by omega), hsM30 _ (by omega), hsM29 _ (by omega), hsM28 _ (by omega), hsM27 _ (by omega), hsM26 _ (by omega), hsM25 _ (by omega), hsM24 _ (by omega), hsM23 _ (by omega), hsM22 _ (by omega), hsM21 _ (by omega), hsM20 _ (by omega), hsM19 _ (by omega), hsM18 _ (by omega), hsM17 _ (by omega), hsM16 _ (by omega), hsM15 _ (by omega), hsM14 _ (by omega), hsM13 _ (by omega), hsM12 _ (by omega), hsM11 _ (by omega), hsM10 _ (by omega), hsM9 _ (by omega), hsM8 _ (by omega), hsM7 _ (by omega), hsM6 _ (by omega), hsM5 _ (by omega), hsM4 _ (by omega), hsM3 _ (by omega), hqM2 _ (by omega)]; exact hrM1
  · rw [hsM97 _ (by omega), hsM96 _ (by omega), hsM95 _ (by omega), hsM94 _ (by omega), hsM93 _ (by omega), hsM92 _ (by omega), hsM91 _ (by omega), hsM90 _ (by omega), hsM89 _ (by omega), hsM88 _ (by omega), hsM87 _ (by omega), hsM86 _ (by omega), hsM85 _ (by omega), hsM84 _ (by omega), hsM83 _ (by omega), hsM82 _ (by omega), hsM81 _ (by omega), hsM80 _ (by omega), hsM79 _ (by omega), hsM78 _ (by omega), hsM77 _ (by omega), hsM76 _ (by omega), hsM75 _ (by omega), hsM74 _ (by omega), hsM73 _ (by omega), hsM72 _ (by omega), hsM71 _ (by omega), hsM70 _ (by omega), hsM69 _ (by omega), hsM68 _ (by omega), hsM67 _ (by omega), hsM66 _ (by omega), hsM65 _ (by omega), hsM64 _ (by omega), hsM63 _ (by omega), hsM62 _ (by omega), hsM61 _ (by omega), hsM60 _ (by omega), hsM59 _ (by omega), hsM58 _ (by omega), hsM57 _ (by omega), hsM56 _ (by omega), hsM55 _ (by omega), hsM54 _ (by omega), hsM53 _ (by omega), hsM52 _ (by omega), hsM51 _ (by omega), hsM50 _ (by omega), hsM49 _ (by omega), hsM48 _ (by omega), hsM47 _ (by omega), hsM46 _ (by omega), hsM45 _ (by omega), hsM44 _ (by omega), hsM43 _ (by omega), hsM42 _ (by omega), hsM41 _ (by omega), hsM40 _ (by omega), hsM39 _ (by omega), hsM38 _ (by omega), hsM37 _ (by omega), hsM36 _ (by omega), hsM35 _ (by omega), hsM34 _ (by omega), hsM33 _ (by omega), hsM32 _ (by omega), hsM31 _ (by omega), hsM30 _ (by omega), hsM29 _ (by omega), hsM28 _ (by omega), hsM27 _ (by omega), hsM26 _ (by omega), hsM25 _ (by omega), hsM24 _ (by omega), hsM23 _ (by omega), hsM22 _ (by omega), hsM21 _ (by omega), hsM20 _ (by omega), hsM19 _ (by omega), hsM18 _ (by omega), hsM17 _ (by omega), hsM16 _ (by omega), hsM15 _ (by omega), hsM14 _ (by omega), hsM13 _ (by omega), hsM12 _ (by omega), hsM11 _ (by omega), hsM10 _ (by omega), hsM9 _ (by omega), hsM8 _ (by omega), hsM7 _ (by omega), hsM6 _ (by omega)]; exact hrM5
  · rw [hsM97 _ (by omega), hsM96 _ (by omega), hsM95 _ (by omega), hsM94 _ (by omega), hsM93 _ (by omega), hsM92 _ (by omega), hsM91 _ (by omega), hsM90 _ (by omega)]; exact hrM89
  · rw [hsM97 _ (by omega), hsM96 _ (by omega), hsM95 _ (by omega), hsM94 _ (by omega), hsM93 _ (by omega), hsM92 _ (by omega), hsM91 _ (by omega)]; exact hrM90
  · rw [hsM97 _ (by omega)]; exact hrM96
  · exact hrM97
  · rw [hsM97 _ (by omega), hsM96 _ (by omega), hsM95 _ (by omega), hsM94 _ (by omega), hsM93 _ (by omega), hsM92 _ (by omega), hsM91 _ (by omega), hsM90 _ (by omega), hsM89 _ (by omega), hsM88 _ (by omega), hsM87 _ (by omega), hsM86 _ (by omega), hsM85 _ (by omega), hsM84 _ (by omega), hsM83 _ (by omega), hsM82 _ (by omega), hsM81 _ (by omega), hsM80 _ (by omega), hsM79 _ (by omega), hsM78 _ (by omega), hsM77 _ (by omega), hsM76 _ (by omega), hsM75 _ (by omega), hsM74 _ (by omega), hsM73 _ (by omega), hsM72 _ (by omega), hsM71 _ (by omega), hsM70 _ (by omega), hsM69 _ (by omega), hsM68 _ (by omega), hsM67 _ (by omega), hsM66 _ (by omega), hsM65 _ (by omega), hsM64 _ (by omega), hsM63 _ (by omega), hsM62 _ (by omega), hsM61 _ (by omega), hsM60 _ (by omega), hsM59 _ (by omega), hsM58 _ (by omega), hsM57 _ (by omega), hsM56 _ (by omega), hsM55 _ (by omega), hsM54 _ (by omega), hsM53 _ (by omega), hsM52 _ (by omega), hsM51 _ (by omega), hsM50 _ (by omega), hsM49 _ (by omega), hsM48 _ (by omega), hsM47 _ (by omega), hsM46 _ (by omega), hsM45 _ (by omega), hsM44 _ (by omega), hsM43 _ (by omega), hsM42 _ (by omega), hsM41 _ (by omega), hsM40 _ (by omega), hsM39 _ (by omega), hsM38 _ (by omega), hsM37 _ (by omega), hsM36 _ (by omega), hsM35 _ (by omega), hsM34 _ (by omega), hsM33 _ (by omega), hsM32 _ (by omega), hsM31 _ (by omega), hsM30 _ (by omega), hsM29 _ (by omega), hsM28 _ (by omega), hsM27 _ (by omega), hsM26 _ (by omega), hsM25 _ (by omega), hsM24 _ (by omega), hsM23 _ (by omega), hsM22 _ (by omega), hrM21]; exact row_5
  · rw [hsM97 _ (by omega), hsM96 _ (by omega), hsM95 _ (by omega), hsM94 _ (by omega), hsM93 _ (by omega), hsM92 _ (by omega), hsM91 _ (by omega), hsM90 _ (by omega), hsM89 _ (by omega), hsM88 _ (by omega), hsM87 _ (by omega), hrM86]; exact row_6
  · rw [hsM97 _ (by omega), hsM96 _ (by omega), hrM95]; exact row_11
