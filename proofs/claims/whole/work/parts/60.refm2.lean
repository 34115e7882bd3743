abbrev P_X11_nameHere (M : Mem) : Option Value → Mem → Prop := oI (fun zz MM => zz = nameV (M 4) (M 0 9) (M 0 14) (M 0 13) (M 0 15) ∧ MM = M)
set_option maxRecDepth 100000 in
set_option maxHeartbeats 4000000 in
theorem c_X11_nameHere {l : Launch} {G : va_G} {ad : Nat → Nat} {CA : Nat → ClassId} {nt : Nat} (hnt : 6 ≤ nt) (M : Mem) (hTp : 0 ≤ M 0 9 ∧ M 0 9 ≤ 320) (hbt : ∀ i, 0 ≤ M 4 i ∧ M 4 i ≤ 255) (hc5 : ∀ i, 0 ≤ i → i < 15 → M 5 i = cutI i) (hc6 : ∀ i, 0 ≤ i → i < 64 → M 6 i = letT i) (hst : 0 ≤ M 0 14 ∧ M 0 14 ≤ M 0 13 ∧ M 0 13 ≤ M 0 9) (hk15 : 0 ≤ M 0 15 ∧ M 0 15 ≤ 3) : Mt l yX11_nameHere cX11_nameHere 4 (some .int) 1 21 G ad CA nt LyM [.ref (ad 0)] M (P_X11_nameHere M) := by
  refine Mt.of (by decide) (Nat.le_of_ble_eq_true rfl) (fun p e s m args below meth c hx hb hr hml hts hown hlocks hnm hW ls hl => ?_)
  have hl : lv_has ls 4 [(0, .ref (ad 0))] := hl
  have hnt4 : 4 ≤ nt := by omega
  obtain ⟨H, hH⟩ : ∃ z, z = s.heap := ⟨_, rfl⟩
  obtain ⟨locs, hlo⟩ : ∃ z : List Loc, z = [] := ⟨_, rfl⟩
  rw [← hH, ← hlo] at hW ⊢
  have hC_2 : ∀ N : Nat, ∀ (n : Int) (H : Heap) (locs : List Loc) (ls : Array Slot), (14 - n).toNat < N → (0 ≤ n ∧ n ≤ 14) → (firstN (M 4) (M 0 9) (M 0 14) (M 0 13) (14 - n).toNat n = firstN (M 4) (M 0 9) (M 0 14) (M 0 13) 14 0) → Wo G ad CA nt LyM (wA ad LyM) s M H locs → lv_has ls 4 [(0, .ref (ad 0)), (1, .int (iN n))] → Wf l 1 21 G ad CA nt LyM (P_X11_nameHere M) p e s m args below meth c H locs (F0 m 2 ls []) := by
    intro N
    induction N with
    | zero => intro n H locs ls hN; exact absurd hN (Nat.not_lt_zero _)
    | succ N ih2 =>
      intro n H locs ls hN hn hf hW hl
      refine lv_iload_n hx hb dX11_nameHere_2 rfl (lv_at hl 1 rfl) ?_
      refine rw_bipush hx hb dX11_nameHere_3 (by decide) ?_
      refine rw_icmp_ge (tgt := 118) hx hb dX11_nameHere_5 (by decide) (by omega) (by decide) (fun c_5 => ?_) (fun c_5 => ?_)
      · refine rw_bipush hx hb dX11_nameHere_118 (by decide) ?_
        refine rw_iret hx hb hr hlocks hW dX11_nameHere_120 (⟨(-4), rfl, ?_⟩)
        refine ⟨?_, rfl⟩
        unfold nameV
        by_cases k1 : M 0 15 = 1
        · rw [if_pos k1, ← hf]; first | (exfalso; omega) | (rw [show n = 14 from (by omega)]; rfl)
        · rw [if_neg k1]
      · refine lv_aload_n hx hb dX11_nameHere_8 rfl (lv_at hl 0 rfl) ?_
        refine rw_getI hx hb hts hown hW 0 lm_0 15 15 rfl rfl fX11_70 dX11_nameHere_9 (v := (M 0 15)) rfl ?_
        refine rw_iconst hx hb dX11_nameHere_12 ?_
        refine rw_icmp_ne (tgt := 118) hx hb dX11_nameHere_13 (by decide) (by omega) (by decide) (fun c_13 => ?_) (fun c_13 => ?_)
        · refine rw_bipush hx hb dX11_nameHere_118 (by decide) ?_
          refine rw_iret hx hb hr hlocks hW dX11_nameHere_120 (⟨(-4), rfl, ?_⟩)
          refine ⟨?_, rfl⟩
          unfold nameV
          by_cases k1 : M 0 15 = 1
          · rw [if_pos k1, ← hf]; first | (exfalso; omega) | (rw [show n = 14 from (by omega)]; rfl)
          · rw [if_neg k1]
        · have hcr := cutI_rng (n := n) (by omega)
          refine lv_aload_n hx hb dX11_nameHere_16 rfl (lv_at hl 0 rfl) ?_
          refine rw_getI hx hb hts hown hW 0 lm_0 13 13 rfl rfl fX11_73 dX11_nameHere_17 (v := (M 0 13)) rfl ?_
          refine lv_aload_n hx hb dX11_nameHere_20 rfl (lv_at hl 0 rfl) ?_
          refine rw_getI hx hb hts hown hW 0 lm_0 14 14 rfl rfl fX11_64 dX11_nameHere_21 (v := (M 0 14)) rfl ?_
          refine rw_isub hx hb dX11_nameHere_24 ?_
          refine lv_aload_n hx hb dX11_nameHere_25 rfl (lv_at hl 0 rfl) ?_
          refine rw_getR hx hb hts hown hW 0 lm_0 17 5 rfl fX11_26 dX11_nameHere_26 ?_
          refine lv_iload_n hx hb dX11_nameHere_29 rfl (lv_at hl 1 rfl) ?_
          refine rw_iconst hx hb dX11_nameHere_30 ?_
          refine rw_iadd hx hb dX11_nameHere_31 ?_
          refine rw_iald hx hb hW hnt4 5 lm_5 (by omega) (by omega) (by decide) dX11_nameHere_32 (v := (cutI (n + 1))) (hc5 _ (by omega) (by omega)) ?_
          refine lv_aload_n hx hb dX11_nameHere_33 rfl (lv_at hl 0 rfl) ?_
          refine rw_getR hx hb hts hown hW 0 lm_0 17 5 rfl fX11_26 dX11_nameHere_34 ?_
          refine lv_iload_n hx hb dX11_nameHere_37 rfl (lv_at hl 1 rfl) ?_
          refine rw_iald hx hb hW hnt4 5 lm_5 (by omega) (by omega) (by decide) dX11_nameHere_38 (v := (cutI n)) (hc5 _ (by omega) (by omega)) ?_
          refine rw_isub hx hb dX11_nameHere_39 ?_
          refine rw_icmp_ne (tgt := 47) hx hb dX11_nameHere_40 (by decide) (by omega) (by omega) (fun c_40 => ?_) (fun c_40 => ?_)
          · refine rw_iconst hx hb dX11_nameHere_47 ?_
            refine lv_istore_n (lv' := [(2, .int (iN 0)), (0, .ref (ad 0)), (1, .int (iN n))]) hx hb dX11_nameHere_48 rfl hl (by decide) rfl (fun ls hl => ?_)
            refine rw_iconst hx hb dX11_nameHere_49 ?_
            refine lv_istore_n (lv' := [(3, .int (iN 0)), (2, .int (iN 0)), (0, .ref (ad 0)), (1, .int (iN n))]) hx hb dX11_nameHere_50 rfl hl (by decide) rfl (fun ls hl => ?_)
            have hC_51 : ∀ N : Nat, ∀ (b : Int) (k : Int) (H : Heap) (locs : List Loc) (ls : Array Slot), (M 0 13 - M 0 14 - k).toNat < N → (0 ≤ k) → (b = 0 ∨ b = 1) → (b = 1 → cutI (n + 1) - cutI n = M 0 13 - M 0 14 ∧ k ≤ M 0 13 - M 0 14 ∧ ∀ i, 0 ≤ i → i < k → byteF (M 4) (M 0 9) (M 0 14 + i) = letT (cutI n + i)) → (b = 0 → ¬ partR (M 4) (M 0 9) (M 0 14) (M 0 13) n) → Wo G ad CA nt LyM (wA ad LyM) s M H locs → lv_has ls 4 [(0, .ref (ad 0)), (1, .int (iN n)), (2, .int (iN b)), (3, .int (iN k))] → Wf l 1 21 G ad CA nt LyM (P_X11_nameHere M) p e s m args below meth c H locs (F0 m 51 ls []) := by
              intro N
              induction N with
              | zero => intro b k H locs ls hN; exact absurd hN (Nat.not_lt_zero _)
              | succ N ih51 =>
                intro b k H locs ls hN hk hb01 hyes hno hW hl
                refine lv_iload_n hx hb dX11_nameHere_51 rfl (lv_at hl 2 rfl) ?_
                refine rw_if_eq (tgt := 106) hx hb dX11_nameHere_52 (by decide) (by omega) (fun c_52 => ?_) (fun c_52 => ?_)
                · refine lv_iload_n hx hb dX11_nameHere_106 rfl (lv_at hl 2 rfl) ?_
                  refine rw_if_eq (tgt := 112) hx hb dX11_nameHere_107 (by decide) (by omega) (fun c_107 => ?_) (fun c_107 => ?_)
                  · refine rw_iinc (lv' := [(1, .int (iN (n + 1))), (0, .ref (ad 0)), (2, .int (iN b)), (3, .int (iN k))]) hx hb dX11_nameHere_112 hl (k := 1) rfl (by decide) rfl (fun ls hl => ?_)
                    refine lv_goto (tgt := 2) hx hb dX11_nameHere_115 (by decide) ?_
                    exact ih2 (n + 1) H locs ls (by omega) (by omega) (by rw [← hf, show (14 - n).toNat = (14 - (n + 1)).toNat + 1 by omega, firstN_miss (hno (by assumption))]) hW (lv_sub hl [1, 0] rfl)
                  · refine lv_iload_n hx hb dX11_nameHere_110 rfl (lv_at hl 1 rfl) ?_
                    refine rw_iret hx hb hr hlocks hW dX11_nameHere_111 (⟨n, rfl, ?_⟩)
                    by_cases hb1 : b = 1
                    · obtain ⟨q1, q2, q3⟩ := hyes hb1
                      refine ⟨?_, rfl⟩
                      unfold nameV
                      rw [if_pos (by omega), ← hf, show (14 - n).toNat = (13 - n).toNat + 1 by omega, firstN_hit ⟨q1, fun i h1 h2 => q3 i h1 (by omega)⟩]
                    · exfalso; omega
                · obtain ⟨q1, q2, q3⟩ := hyes (by omega)
                  refine lv_iload_n hx hb dX11_nameHere_55 rfl (lv_at hl 3 rfl) ?_
                  refine lv_aload_n hx hb dX11_nameHere_56 rfl (lv_at hl 0 rfl) ?_
                  refine rw_getI hx hb hts hown hW 0 lm_0 13 13 rfl rfl fX11_73 dX11_nameHere_57 (v := (M 0 13)) rfl ?_
                  refine lv_aload_n hx hb dX11_nameHere_60 rfl (lv_at hl 0 rfl) ?_
                  refine rw_getI hx hb hts hown hW 0 lm_0 14 14 rfl rfl fX11_64 dX11_nameHere_61 (v := (M 0 14)) rfl ?_
                  refine rw_isub hx hb dX11_nameHere_64 ?_
                  refine rw_icmp_ge (tgt := 106) hx hb dX11_nameHere_65 (by decide) (by omega) (by omega) (fun c_65 => ?_) (fun c_65 => ?_)
                  · refine lv_iload_n hx hb dX11_nameHere_106 rfl (lv_at hl 2 rfl) ?_
                    refine rw_if_eq (tgt := 112) hx hb dX11_nameHere_107 (by decide) (by omega) (fun c_107 => ?_) (fun c_107 => ?_)
                    · refine rw_iinc (lv' := [(1, .int (iN (n + 1))), (0, .ref (ad 0)), (2, .int (iN b)), (3, .int (iN k))]) hx hb dX11_nameHere_112 hl (k := 1) rfl (by decide) rfl (fun ls hl => ?_)
                      refine lv_goto (tgt := 2) hx hb dX11_nameHere_115 (by decide) ?_
                      exact ih2 (n + 1) H locs ls (by omega) (by omega) (by rw [← hf, show (14 - n).toNat = (14 - (n + 1)).toNat + 1 by omega, firstN_miss (hno (by assumption))]) hW (lv_sub hl [1, 0] rfl)
                    · refine lv_iload_n hx hb dX11_nameHere_110 rfl (lv_at hl 1 rfl) ?_
                      refine rw_iret hx hb hr hlocks hW dX11_nameHere_111 (⟨n, rfl, ?_⟩)
                      by_cases hb1 : b = 1
                      · obtain ⟨q1, q2, q3⟩ := hyes hb1
                        refine ⟨?_, rfl⟩
                        unfold nameV
                        rw [if_pos (by omega), ← hf, show (14 - n).toNat = (13 - n).toNat + 1 by omega, firstN_hit ⟨q1, fun i h1 h2 => q3 i h1 (by omega)⟩]
                      · exfalso; omega
                  · refine lv_aload_n hx hb dX11_nameHere_68 rfl (lv_at hl 0 rfl) ?_
                    refine lv_aload_n hx hb dX11_nameHere_69 rfl (lv_at hl 0 rfl) ?_
                    refine rw_getI hx hb hts hown hW 0 lm_0 14 14 rfl rfl fX11_64 dX11_nameHere_70 (v := (M 0 14)) rfl ?_
                    refine lv_iload_n hx hb dX11_nameHere_73 rfl (lv_at hl 3 rfl) ?_
                    refine rw_iadd hx hb dX11_nameHere_74 ?_
                    refine rw_callV hx hb hml hts hown hW ⟨Nat.le_refl 0, Nat.le_refl 0⟩ [.int (iN ((M 0 14) + k))] 0 lm_0 rfl (c_X11_byteAt (l := l) (G := G) (ad := ad) (CA := CA) (nt := nt) (by omega) ((M 0 14) + k) (by first | omega | decide) M (by first | omega | decide)) kX11_76 rfl ⟨Nat.le_of_ble_eq_true rfl, Nat.le_of_ble_eq_true rfl⟩ hl.1 rfl (Nat.le_of_ble_eq_true rfl) dX11_nameHere_75 (fun v1 M2 H locs hp3 hW => ?_)
                    obtain ⟨a4, rfl, ha4, hp3⟩ := hp3
                    rw [hp3] at hW
                    refine rw_stk (st' := [.int (iN a4)]) rfl ?_
                    have hbA : a4 = byteF (M 4) (M 0 9) (M 0 14 + k) := by rw [byteF_in (by omega), ha4, if_pos (by omega)]
                    have hrg : 0 ≤ a4 ∧ a4 ≤ 255 := by rw [ha4, if_pos (by omega)]; exact hbt _
                    have hlr := letT_rng (cutI n + k)
                    refine lv_aload_n hx hb dX11_nameHere_78 rfl (lv_at hl 0 rfl) ?_
                    refine rw_getR hx hb hts hown hW 0 lm_0 18 6 rfl fX11_29 dX11_nameHere_79 ?_
                    refine lv_aload_n hx hb dX11_nameHere_82 rfl (lv_at hl 0 rfl) ?_
                    refine rw_getR hx hb hts hown hW 0 lm_0 17 5 rfl fX11_26 dX11_nameHere_83 ?_
                    refine lv_iload_n hx hb dX11_nameHere_86 rfl (lv_at hl 1 rfl) ?_
                    refine rw_iald hx hb hW hnt4 5 lm_5 (by omega) (by omega) (by decide) dX11_nameHere_87 (v := (cutI n)) (hc5 _ (by omega) (by omega)) ?_
                    refine lv_iload_n hx hb dX11_nameHere_88 rfl (lv_at hl 3 rfl) ?_
                    refine rw_iadd hx hb dX11_nameHere_89 ?_
                    refine rw_iald hx hb hW hnt4 6 lm_6 (by omega) (by omega) (by decide) dX11_nameHere_90 (v := (letT (cutI n + k))) (hc6 _ (by omega) (by omega)) ?_
                    refine rw_icmp_ne (tgt := 98) hx hb dX11_nameHere_91 (by decide) (by omega) (by omega) (fun c_91 => ?_) (fun c_91 => ?_)
                    · refine rw_iconst hx hb dX11_nameHere_98 ?_
                      refine lv_istore_n (lv' := [(2, .int (iN 0)), (0, .ref (ad 0)), (1, .int (iN n)), (3, .int (iN k))]) hx hb dX11_nameHere_99 rfl hl (by decide) rfl (fun ls hl => ?_)
                      refine rw_iinc (lv' := [(3, .int (iN (k + 1))), (2, .int (iN 0)), (0, .ref (ad 0)), (1, .int (iN n))]) hx hb dX11_nameHere_100 hl (k := 3) rfl (by decide) rfl (fun ls hl => ?_)
                      refine lv_goto (tgt := 51) hx hb dX11_nameHere_103 (by decide) ?_
                      exact ih51 0 (k + 1) H locs ls (by omega) (by omega) (by omega) (fun z => absurd z (by decide)) (fun _ w => by have := w.2 k (by omega) (by omega); omega) hW (lv_sub hl [2, 3, 1, 0] rfl)
                    · refine rw_iconst hx hb dX11_nameHere_94 ?_
                      refine lv_goto (tgt := 99) hx hb dX11_nameHere_95 (by decide) ?_
                      refine lv_istore_n (lv' := [(2, .int (iN 1)), (0, .ref (ad 0)), (1, .int (iN n)), (3, .int (iN k))]) hx hb dX11_nameHere_99 rfl hl (by decide) rfl (fun ls hl => ?_)
                      refine rw_iinc (lv' := [(3, .int (iN (k + 1))), (2, .int (iN 1)), (0, .ref (ad 0)), (1, .int (iN n))]) hx hb dX11_nameHere_100 hl (k := 3) rfl (by decide) rfl (fun ls hl => ?_)
                      refine lv_goto (tgt := 51) hx hb dX11_nameHere_103 (by decide) ?_
                      exact ih51 1 (k + 1) H locs ls (by omega) (by omega) (by omega) (fun _ => ⟨q1, by omega, fun i h1 h2 => by by_cases e : i = k; rw [e, ← hbA]; omega; exact q3 i h1 (by omega)⟩) (fun z => absurd z (by decide)) hW (lv_sub hl [2, 3, 1, 0] rfl)
            exact hC_51 _ 0 0 H locs ls (Nat.lt_succ_self _) (by omega) (by omega) (fun z => absurd z (by decide)) (fun _ w => by have := w.1; omega) hW (lv_sub hl [2, 3, 1, 0] rfl)
          · refine rw_iconst hx hb dX11_nameHere_43 ?_
            refine lv_goto (tgt := 48) hx hb dX11_nameHere_44 (by decide) ?_
            refine lv_istore_n (lv' := [(2, .int (iN 1)), (0, .ref (ad 0)), (1, .int (iN n))]) hx hb dX11_nameHere_48 rfl hl (by decide) rfl (fun ls hl => ?_)
            refine rw_iconst hx hb dX11_nameHere_49 ?_
            refine lv_istore_n (lv' := [(3, .int (iN 0)), (2, .int (iN 1)), (0, .ref (ad 0)), (1, .int (iN n))]) hx hb dX11_nameHere_50 rfl hl (by decide) rfl (fun ls hl => ?_)
            have hC_51 : ∀ N : Nat, ∀ (b : Int) (k : Int) (H : Heap) (locs : List Loc) (ls : Array Slot), (M 0 13 - M 0 14 - k).toNat < N → (0 ≤ k) → (b = 0 ∨ b = 1) → (b = 1 → cutI (n + 1) - cutI n = M 0 13 - M 0 14 ∧ k ≤ M 0 13 - M 0 14 ∧ ∀ i, 0 ≤ i → i < k → byteF (M 4) (M 0 9) (M 0 14 + i) = letT (cutI n + i)) → (b = 0 → ¬ partR (M 4) (M 0 9) (M 0 14) (M 0 13) n) → Wo G ad CA nt LyM (wA ad LyM) s M H locs → lv_has ls 4 [(0, .ref (ad 0)), (1, .int (iN n)), (2, .int (iN b)), (3, .int (iN k))] → Wf l 1 21 G ad CA nt LyM (P_X11_nameHere M) p e s m args below meth c H locs (F0 m 51 ls []) := by
              intro N
              induction N with
              | zero => intro b k H locs ls hN; exact absurd hN (Nat.not_lt_zero _)
              | succ N ih51 =>
                intro b k H locs ls hN hk hb01 hyes hno hW hl
                refine lv_iload_n hx hb dX11_nameHere_51 rfl (lv_at hl 2 rfl) ?_
                refine rw_if_eq (tgt := 106) hx hb dX11_nameHere_52 (by decide) (by omega) (fun c_52 => ?_) (fun c_52 => ?_)
                · refine lv_iload_n hx hb dX11_nameHere_106 rfl (lv_at hl 2 rfl) ?_
                  refine rw_if_eq (tgt := 112) hx hb dX11_nameHere_107 (by decide) (by omega) (fun c_107 => ?_) (fun c_107 => ?_)
                  · refine rw_iinc (lv' := [(1, .int (iN (n + 1))), (0, .ref (ad 0)), (2, .int (iN b)), (3, .int (iN k))]) hx hb dX11_nameHere_112 hl (k := 1) rfl (by decide) rfl (fun ls hl => ?_)
                    refine lv_goto (tgt := 2) hx hb dX11_nameHere_115 (by decide) ?_
                    exact ih2 (n + 1) H locs ls (by omega) (by omega) (by rw [← hf, show (14 - n).toNat = (14 - (n + 1)).toNat + 1 by omega, firstN_miss (hno (by assumption))]) hW (lv_sub hl [1, 0] rfl)
                  · refine lv_iload_n hx hb dX11_nameHere_110 rfl (lv_at hl 1 rfl) ?_
                    refine rw_iret hx hb hr hlocks hW dX11_nameHere_111 (⟨n, rfl, ?_⟩)
                    by_cases hb1 : b = 1
                    · obtain ⟨q1, q2, q3⟩ := hyes hb1
                      refine ⟨?_, rfl⟩
                      unfold nameV
                      rw [if_pos (by omega), ← hf, show (14 - n).toNat = (13 - n).toNat + 1 by omega, firstN_hit ⟨q1, fun i h1 h2 => q3 i h1 (by omega)⟩]
                    · exfalso; omega
                · obtain ⟨q1, q2, q3⟩ := hyes (by omega)
                  refine lv_iload_n hx hb dX11_nameHere_55 rfl (lv_at hl 3 rfl) ?_
                  refine lv_aload_n hx hb dX11_nameHere_56 rfl (lv_at hl 0 rfl) ?_
                  refine rw_getI hx hb hts hown hW 0 lm_0 13 13 rfl rfl fX11_73 dX11_nameHere_57 (v := (M 0 13)) rfl ?_
                  refine lv_aload_n hx hb dX11_nameHere_60 rfl (lv_at hl 0 rfl) ?_
                  refine rw_getI hx hb hts hown hW 0 lm_0 14 14 rfl rfl fX11_64 dX11_nameHere_61 (v := (M 0 14)) rfl ?_
                  refine rw_isub hx hb dX11_nameHere_64 ?_
                  refine rw_icmp_ge (tgt := 106) hx hb dX11_nameHere_65 (by decide) (by omega) (by omega) (fun c_65 => ?_) (fun c_65 => ?_)
                  · refine lv_iload_n hx hb dX11_nameHere_106 rfl (lv_at hl 2 rfl) ?_
                    refine rw_if_eq (tgt := 112) hx hb dX11_nameHere_107 (by decide) (by omega) (fun c_107 => ?_) (fun c_107 => ?_)
                    · refine rw_iinc (lv' := [(1, .int (iN (n + 1))), (0, .ref (ad 0)), (2, .int (iN b)), (3, .int (iN k))]) hx hb dX11_nameHere_112 hl (k := 1) rfl (by decide) rfl (fun ls hl => ?_)
                      refine lv_goto (tgt := 2) hx hb dX11_nameHere_115 (by decide) ?_
                      exact ih2 (n + 1) H locs ls (by omega) (by omega) (by rw [← hf, show (14 - n).toNat = (14 - (n + 1)).toNat + 1 by omega, firstN_miss (hno (by assumption))]) hW (lv_sub hl [1, 0] rfl)
                    · refine lv_iload_n hx hb dX11_nameHere_110 rfl (lv_at hl 1 rfl) ?_
                      refine rw_iret hx hb hr hlocks hW dX11_nameHere_111 (⟨n, rfl, ?_⟩)
                      by_cases hb1 : b = 1
                      · obtain ⟨q1, q2, q3⟩ := hyes hb1
                        refine ⟨?_, rfl⟩
                        unfold nameV
                        rw [if_pos (by omega), ← hf, show (14 - n).toNat = (13 - n).toNat + 1 by omega, firstN_hit ⟨q1, fun i h1 h2 => q3 i h1 (by omega)⟩]
                      · exfalso; omega
                  · refine lv_aload_n hx hb dX11_nameHere_68 rfl (lv_at hl 0 rfl) ?_
                    refine lv_aload_n hx hb dX11_nameHere_69 rfl (lv_at hl 0 rfl) ?_
                    refine rw_getI hx hb hts hown hW 0 lm_0 14 14 rfl rfl fX11_64 dX11_nameHere_70 (v := (M 0 14)) rfl ?_
                    refine lv_iload_n hx hb dX11_nameHere_73 rfl (lv_at hl 3 rfl) ?_
                    refine rw_iadd hx hb dX11_nameHere_74 ?_
                    refine rw_callV hx hb hml hts hown hW ⟨Nat.le_refl 0, Nat.le_refl 0⟩ [.int (iN ((M 0 14) + k))] 0 lm_0 rfl (c_X11_byteAt (l := l) (G := G) (ad := ad) (CA := CA) (nt := nt) (by omega) ((M 0 14) + k) (by first | omega | decide) M (by first | omega | decide)) kX11_76 rfl ⟨Nat.le_of_ble_eq_true rfl, Nat.le_of_ble_eq_true rfl⟩ hl.1 rfl (Nat.le_of_ble_eq_true rfl) dX11_nameHere_75 (fun v5 M6 H locs hp7 hW => ?_)
                    obtain ⟨a8, rfl, ha8, hp7⟩ := hp7
                    rw [hp7] at hW
                    refine rw_stk (st' := [.int (iN a8)]) rfl ?_
                    have hbA : a8 = byteF (M 4) (M 0 9) (M 0 14 + k) := by rw [byteF_in (by omega), ha8, if_pos (by omega)]
                    have hrg : 0 ≤ a8 ∧ a8 ≤ 255 := by rw [ha8, if_pos (by omega)]; exact hbt _
                    have hlr := letT_rng (cutI n + k)
                    refine lv_aload_n hx hb dX11_nameHere_78 rfl (lv_at hl 0 rfl) ?_
                    refine rw_getR hx hb hts hown hW 0 lm_0 18 6 rfl fX11_29 dX11_nameHere_79 ?_
                    refine lv_aload_n hx hb dX11_nameHere_82 rfl (lv_at hl 0 rfl) ?_
                    refine rw_getR hx hb hts hown hW 0 lm_0 17 5 rfl fX11_26 dX11_nameHere_83 ?_
                    refine lv_iload_n hx hb dX11_nameHere_86 rfl (lv_at hl 1 rfl) ?_
                    refine rw_iald hx hb hW hnt4 5 lm_5 (by omega) (by omega) (by decide) dX11_nameHere_87 (v := (cutI n)) (hc5 _ (by omega) (by omega)) ?_
                    refine lv_iload_n hx hb dX11_nameHere_88 rfl (lv_at hl 3 rfl) ?_
                    refine rw_iadd hx hb dX11_nameHere_89 ?_
                    refine rw_iald hx hb hW hnt4 6 lm_6 (by omega) (by omega) (by decide) dX11_nameHere_90 (v := (letT (cutI n + k))) (hc6 _ (by omega) (by omega)) ?_
                    refine rw_icmp_ne (tgt := 98) hx hb dX11_nameHere_91 (by decide) (by omega) (by omega) (fun c_91 => ?_) (fun c_91 => ?_)
                    · refine rw_iconst hx hb dX11_nameHere_98 ?_
                      refine lv_istore_n (lv' := [(2, .int (iN 0)), (0, .ref (ad 0)), (1, .int (iN n)), (3, .int (iN k))]) hx hb dX11_nameHere_99 rfl hl (by decide) rfl (fun ls hl => ?_)
                      refine rw_iinc (lv' := [(3, .int (iN (k + 1))), (2, .int (iN 0)), (0, .ref (ad 0)), (1, .int (iN n))]) hx hb dX11_nameHere_100 hl (k := 3) rfl (by decide) rfl (fun ls hl => ?_)
                      refine lv_goto (tgt := 51) hx hb dX11_nameHere_103 (by decide) ?_
                      exact ih51 0 (k + 1) H locs ls (by omega) (by omega) (by omega) (fun z => absurd z (by decide)) (fun _ w => by have := w.2 k (by omega) (by omega); omega) hW (lv_sub hl [2, 3, 1, 0] rfl)
                    · refine rw_iconst hx hb dX11_nameHere_94 ?_
                      refine lv_goto (tgt := 99) hx hb dX11_nameHere_95 (by decide) ?_
                      refine lv_istore_n (lv' := [(2, .int (iN 1)), (0, .ref (ad 0)), (1, .int (iN n)), (3, .int (iN k))]) hx hb dX11_nameHere_99 rfl hl (by decide) rfl (fun ls hl => ?_)
                      refine rw_iinc (lv' := [(3, .int (iN (k + 1))), (2, .int (iN 1)), (0, .ref (ad 0)), (1, .int (iN n))]) hx hb dX11_nameHere_100 hl (k := 3) rfl (by decide) rfl (fun ls hl => ?_)
                      refine lv_goto (tgt := 51) hx hb dX11_nameHere_103 (by decide) ?_
                      exact ih51 1 (k + 1) H locs ls (by omega) (by omega) (by omega) (fun _ => ⟨q1, by omega, fun i h1 h2 => by by_cases e : i = k; rw [e, ← hbA]; omega; exact q3 i h1 (by omega)⟩) (fun z => absurd z (by decide)) hW (lv_sub hl [2, 3, 1, 0] rfl)
            exact hC_51 _ 1 0 H locs ls (Nat.lt_succ_self _) (by omega) (by omega) (fun _ => ⟨by omega, by omega, fun i h1 h2 => absurd h2 (by omega)⟩) (fun z => absurd z (by decide)) hW (lv_sub hl [2, 3, 1, 0] rfl)
  refine rw_iconst hx hb dX11_nameHere_0 ?_
  refine lv_istore_n (lv' := [(1, .int (iN 0)), (0, .ref (ad 0))]) hx hb dX11_nameHere_1 rfl hl (by decide) rfl (fun ls hl => ?_)
  exact hC_2 _ 0 H locs ls (Nat.lt_succ_self _) (by omega) (by rfl) hW (lv_sub hl [1, 0] rfl)
