/-! the law from its entry to its loop -/
set_option maxRecDepth 100000 in
theorem nL_7 : FN2 RL 7 10 12 [2, 2, 2, 2, 2, 2, 2, 2, 2, 0, 2, 0] := ⟨RX10, TX10, tyX10, rfl, inlX10, tyX10_ok, (wm_1 _ (List.mem_of_getElem? (i := 0) rfl)), (wm_1 _ (List.mem_of_getElem? (i := 1) rfl)), (wm_1 _ (List.mem_of_getElem? (i := 2) rfl)), by decide, fun j hj ad => match j, hj with | 0, _ => rfl | 1, _ => rfl | 2, _ => rfl | 3, _ => rfl | 4, _ => rfl | 5, _ => rfl | 6, _ => rfl | 7, _ => rfl | 8, _ => rfl | 9, _ => rfl | 10, _ => rfl | 11, _ => rfl | q + 12, h => absurd h (by omega)⟩
set_option maxRecDepth 100000 in
theorem nL_10 : FN2 RL 10 11 28 [2, 0, 2, 0, 0, 0, 2, 0, 2, 0, 0, 0, 0, 0, 0, 0, 0, 2, 2, 2, 2, 2, 0, 2, 2, 2, 2, 0] := ⟨RX11, TX11, tyX11, rfl, inlX11, tyX11_ok, (wm_1 _ (List.mem_of_getElem? (i := 3) rfl)), (wm_1 _ (List.mem_of_getElem? (i := 4) rfl)), (wm_1 _ (List.mem_of_getElem? (i := 5) rfl)), by decide, fun j hj ad => match j, hj with | 0, _ => rfl | 1, _ => rfl | 2, _ => rfl | 3, _ => rfl | 4, _ => rfl | 5, _ => rfl | 6, _ => rfl | 7, _ => rfl | 8, _ => rfl | 9, _ => rfl | 10, _ => rfl | 11, _ => rfl | 12, _ => rfl | 13, _ => rfl | 14, _ => rfl | 15, _ => rfl | 16, _ => rfl | 17, _ => rfl | 18, _ => rfl | 19, _ => rfl | 20, _ => rfl | 21, _ => rfl | 22, _ => rfl | 23, _ => rfl | 24, _ => rfl | 25, _ => rfl | 26, _ => rfl | 27, _ => rfl | q + 28, h => absurd h (by omega)⟩
set_option maxRecDepth 100000 in
theorem iL_9 : CI RL 9 yX10_init cX10_init 2 := ⟨Or.inl (wm_1 _ (List.mem_of_getElem? (i := 7) rfl)), (wm_1 _ (List.mem_of_getElem? (i := 8) rfl)), (wm_1 _ (List.mem_of_getElem? (i := 2) rfl)), (wm_1 _ (List.mem_of_getElem? (i := 9) rfl)), rfl, by decide, by decide, by decide +kernel⟩
set_option maxRecDepth 100000 in
theorem iL_12 : CI RL 12 yX11_init cX11_init 1 := ⟨Or.inl (wm_6 _ (List.mem_of_getElem? (i := 16) rfl)), (wm_6 _ (List.mem_of_getElem? (i := 17) rfl)), (wm_1 _ (List.mem_of_getElem? (i := 5) rfl)), (wm_6 _ (List.mem_of_getElem? (i := 18) rfl)), rfl, by decide, by decide, by decide +kernel⟩
theorem Wo.empty {G : va_G} {CA : Nat → ClassId} {s : State} {ad : Nat → Nat} {M : Mem} (hK : va_K G vwCl (tyL CA 6) s) (hN : NWs s) : Wo G ad CA 6 [] (AL s) s M s.heap [] :=
  ⟨fun k q h => by simp [wls] at h, hK, fun i j h => absurd h (Nat.not_lt_zero _), fun k h => absurd h (Nat.not_lt_zero _), va_S.rf, hN⟩
theorem CloL.o1 {ci : Nat} {dc : List Nat} {Ly : List LD} (h : CloL Ly) (hd : ∀ c ∈ dc, c < 3) : CloL (Ly ++ [.inl (ci, dc)]) := h.app (show ∀ c ∈ dc, c < Ly.length + 1 + 3 from fun c hc => by have := hd c hc; omega)
section LS
variable {p : Program} {l : Launch} {e : Env} {s : State} {m : MethodId} {args : Array Value} {below : List Frame} {meth : Method} {c : Code} {Q : State → Prop}
variable {ls : Array Slot} {G : va_G} {CA : Nat → ClassId} {b L : Nat} {xs : Nat → Int32} {adK adV : Nat → Nat}
set_option maxRecDepth 100000
set_option maxHeartbeats 4000000
theorem law_start (C : LC p s m args c b L xs) (hE : SEL adK adV s) (hAO : AOs s) (hK : va_K G vwCl (tyL CA 6) s) (hN : NWs s) (hl : lv_has ls 4 [(0, .ref b)])
    (kend : ∀ (H1 : Heap) (locs1 : List Loc) (ls1 : Array Slot), va_S (AL s) s.heap H1 locs1 → W p l e room_1 s m args below meth c H1 locs1 (0 + 1 + 234 + 1 + 13) (0 + 12 + 2070 + 28 + 884) Q (F0 m 1415 ls1 [])) : W p l e room_1 s m args below meth c s.heap [] 0 0 Q (F0 m 0 ls []) := by
  obtain ⟨hx, hb, hml, hts, hown, hX, hbl, hL⟩ := id C
  have hA : ∀ q, s.heap.size ≤ q → AL s q := fun q h => h
  have hW0 := Wo.empty (ad := fun _ => 0) (M := fun _ => zr) hK hN
  refine rw_newO hx hb hts hown hW0 (fun d h => by simp at h) hA nL_7 (Nat.le_of_ble_eq_true rfl) (Nat.le_of_ble_eq_true rfl) dL_law_0 (fun q1 H1 hW1 => ?_)
  obtain ⟨ad1, had1⟩ : ∃ z, z = adN (fun _ => 0) ([] : List LD).length q1 := ⟨_, rfl⟩
  obtain ⟨M1, hM1⟩ : ∃ z : Mem, z = updR (fun _ => zr) ([] : List LD).length (fun _ => 0) := ⟨_, rfl⟩
  have e1 : M1 0 = zr := by rw [hM1]; exact updR_eq
  rw [← had1, ← hM1] at hW1
  rw [← had1]
  have hW1 : Wo G ad1 CA 6 [.inl (10, [2, 2, 2, 2, 2, 2, 2, 2, 2, 0, 2, 0])] (AL s) s M1 H1 [] := hW1
  refine rw_stk (st' := [.ref (ad1 0)]) rfl ?_
  refine lv_dup hx hb dL_law_3 rfl ?_
  refine rw_initG hx hb hml hts hown hW1 hA hAO 0 (c_X10_init (l := l) (G := G) (ad := ad1) (CA := CA) [] _ (kegL 0) 0 rfl rfl rfl (CloL.o1 (Ly := []) (fun d h => by simp at h) (by decide)) M1 _) iL_9 ⟨Nat.le_of_ble_eq_true rfl, Nat.le_of_ble_eq_true rfl⟩ ⟨Nat.le_of_ble_eq_true rfl, Nat.le_of_ble_eq_true rfl⟩ hl.1 (Nat.le_of_ble_eq_true rfl) dL_law_4 (fun ad2 M2 H2 locs2 hx2 hp2 hW2 _ _ => ?_)
  obtain ⟨hcl2, k0, k1, k17, k18, k19, k207, sh0, sh1, sh2, sh3⟩ := hp2
  rw [← hx2 0 (by show 0 < 1; omega)]
  refine lv_astore_n (lv' := [(1, .ref (ad2 0)), (0, .ref b)]) hx hb dL_law_7 rfl hl (by decide) rfl (fun ls hl => ?_)
  have lk : (kegL 0).length = 235 := len_keg
  refine rw_newO hx hb hts hown hW2 hcl2 hA nL_10 (Nat.le_of_ble_eq_true rfl) (Nat.le_of_ble_eq_true rfl) dL_law_8 (fun q3 H3 hW3 => ?_)
  rw [lk] at hW3 ⊢
  obtain ⟨ad3, had3⟩ : ∃ z, z = adN ad2 235 q3 := ⟨_, rfl⟩
  obtain ⟨M3, hM3⟩ : ∃ z : Mem, z = updR M2 235 (fun _ => 0) := ⟨_, rfl⟩
  have e3 : M3 235 = zr := by rw [hM3]; exact updR_eq
  have o3 : ∀ q, q < 235 → M3 q = M2 q := fun q hq => by rw [hM3]; exact updR_ne (by omega)
  have x3 : ∀ q, q < 235 → ad3 q = ad2 q := fun q hq => by rw [had3]; exact adN_lt hq
  rw [← had3, ← hM3] at hW3
  rw [← had3]
  rw [← x3 0 (by omega)] at hl
  refine lv_dup hx hb dL_law_11 rfl ?_
  refine rw_initG hx hb hml hts hown hW3 hA hAO 235 (c_X11_init (l := l) (G := G) (ad := ad3) (CA := CA) (kegL 0) _ (kegL 0 ++ modL 235) 235 lk rfl rfl (CloL.o1 hcl2 (by decide)) M3 _ e3) iL_12 ⟨Nat.le_of_ble_eq_true rfl, Nat.le_of_ble_eq_true rfl⟩ ⟨Nat.le_of_ble_eq_true rfl, Nat.le_of_ble_eq_true rfl⟩ hl.1 (Nat.le_of_ble_eq_true rfl) dL_law_12 (fun ad4 M4 H4 locs4 hx4 hp4 hW4 _ _ => ?_)
  obtain ⟨-, j0, t0, t1, t4, t9, t10, t12, t13, t5, t6, t11⟩ := hp4
  have x4 : ∀ q, q < 236 → ad4 q = ad3 q := fun q hq => hx4 q (by rw [List.length_append, lk]; exact hq)
  rw [← x4 0 (by omega)] at hl
  rw [← x4 235 (by omega)]
  refine lv_astore_n (lv' := [(2, .ref (ad4 235)), (1, .ref (ad4 0)), (0, .ref b)]) hx hb dL_law_15 rfl hl (by decide) rfl (fun ls hl => ?_)
  refine rw_iconst hx hb dL_law_16 ?_
  refine lv_istore_n (lv' := [(3, .int (iN 0)), (2, .ref (ad4 235)), (1, .ref (ad4 0)), (0, .ref b)]) hx hb dL_law_17 rfl hl (by decide) rfl (fun ls hl => ?_)
  have hT := Tw.of hW4
  have o4 : ∀ q, q < 235 → M4 q = M2 q := fun q hq => (j0 q hq).trans (o3 q hq)
  have hR : RR M4 (fun k => M4 (235 + k)) := by
    refine RR.start (by rw [o4 0 (by omega), k0 0 (by omega), e1]) ?_ (by rw [o4 17 (by omega)]; exact k17) (by rw [o4 18 (by omega)]; exact k18) (by rw [o4 19 (by omega)]; exact k19) (by rw [o4 207 (by omega)]; exact k207) ?_ ?_ ?_ ?_ t0 t1 t4 t9 t10 t12 t13 t5 t6 t11
    · rw [fld_of (M := M2) (M' := M4) (o := 1) (fun q j a b => by rw [o4 q (by omega)])]; exact k1
    · rw [o4 227 (by omega), o4 228 (by omega)]; exact sh0
    · rw [o4 229 (by omega), o4 230 (by omega)]; exact sh1
    · rw [o4 231 (by omega), o4 232 (by omega)]; exact sh2
    · rw [o4 233 (by omega), o4 234 (by omega)]; exact sh3
  exact law_loop C hE ⟨Nat.le_of_ble_eq_true rfl, Nat.le_of_ble_eq_true rfl⟩ (fun M' S' H1 locs1 ls1 hT1 => kend H1 locs1 ls1 hT1.1.S) (L + 1) 0 _ _ _ _ ls (by omega) (by omega) (by omega) hT hR hl
end LS
