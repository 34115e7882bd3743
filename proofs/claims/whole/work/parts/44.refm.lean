abbrev P_X11_minutes (pz : Int) (x : Int) (y : Int) (w : Int) (M : Mem) : Option Value → Mem → Prop := oV (fun MM => pg MM pz = passF (pg M pz) x y w ∧ SameS M MM pz)
set_option maxRecDepth 100000 in
set_option maxHeartbeats 4000000 in
theorem c_X11_minutes {l : Launch} {G : va_G} {ad : Nat → Nat} {CA : Nat → ClassId} {nt : Nat} (hnt : 6 ≤ nt) (pz : Int) (hp : 0 ≤ pz ∧ pz ≤ 188) (x : Int) (y : Int) (w : Int) (hw : w = 0 ∨ w = 1) (M : Mem) (hI : InvF (pg M pz)) (hov : pg M pz 27 < pg M pz 47) (hx1 : 0 ≤ x ∧ x ≤ sdF (pg M pz) 0 0) (hy1 : 0 ≤ y ∧ y ≤ sdF (pg M pz) 1 0) : Mt l yX11_minutes cX11_minutes 9 none 3 71 G ad CA nt LyM [.ref (ad 0), .int (iN pz), .int (iN x), .int (iN y), .int (iN w)] M (P_X11_minutes pz x y w M) := by
  refine Mt.of (by decide) (Nat.le_of_ble_eq_true rfl) (fun p e s m args below meth c hx hb hr hml hts hown hlocks hnm hW ls hl => ?_)
  have hl : lv_has ls 9 [(0, .ref (ad 0)), (1, .int (iN pz)), (2, .int (iN x)), (3, .int (iN y)), (4, .int (iN w))] := hl
  have hnt4 : 4 ≤ nt := by omega
  obtain ⟨H, hH⟩ : ∃ z, z = s.heap := ⟨_, rfl⟩
  obtain ⟨locs, hlo⟩ : ∃ z : List Loc, z = [] := ⟨_, rfl⟩
  rw [← hH, ← hlo] at hW ⊢
  have hc := hI.1
  have hk := hI.2.1
  have h47 : pg M pz 47 = M 0 1 := rfl
  have hrr := hI.2.2.1
  have hm := hI.2.2.2.2.1
  have hz0 := InvF.sd _ hI (s := 0) (Or.inl rfl)
  have hz1 := InvF.sd _ hI (s := 1) (Or.inr rfl)
  have hf0 := hz0.1
  have hf1 := hz1.1
  have hq0 := hz0.2.2.2.2.2
  have hq1 := hz1.2.2.2.2.2
  have hg0 := hz0.2.1
  have hg1 := hz1.2.1
  have hg2 := hz0.2.2.1
  have hg3 := hz1.2.2.1
  have hg4 := hz0.2.2.2.1
  have hg5 := hz1.2.2.2.1
  have hg6 := hz0.2.2.2.2.1
  have hg7 := hz1.2.2.2.2.1
  have hkk : pg M pz 27 < 9 := by omega
  have hhh := hI.2.2.2.2.2.2.2.1
  have hb1 := hhh (pg M pz 27) (by omega) (by omega)
  rw [pg_h M pz (by omega)] at hb1
  have hh1 : hedgeF (pg M pz) (pg M pz 27) = if pg M pz 27 < pg M pz 47 - 1 then M 1 (pz + 3 * pg M pz 27 + 2) else 0 := by unfold hedgeF; rw [pg_h M pz (by omega)]; (repeat' split) <;> omega
  have hb2 : pg M pz 27 = 0 ∨ (0 ≤ M 1 (pz + 3 * pg M pz 27 - 1) ∧ M 1 (pz + 3 * pg M pz 27 - 1) ≤ 9) := by
    by_cases e : pg M pz 27 = 0
    · exact Or.inl e
    · have q := hhh (pg M pz 27 - 1) (by omega) (by omega)
      rw [pg_h M pz (by omega), show pz + 3 * (pg M pz 27 - 1) + 2 = pz + 3 * pg M pz 27 - 1 by omega] at q
      exact Or.inr q
  have hh2 : hedgeF (pg M pz) (pg M pz 27 - 1) = if pg M pz 27 = 0 then 0 else M 1 (pz + 3 * pg M pz 27 - 1) := by
    unfold hedgeF
    by_cases e : pg M pz 27 = 0
    · rw [if_neg (by omega), if_pos e]
    · rw [if_pos (by omega), if_neg e, pg_h M pz (by omega), show pz + 3 * (pg M pz 27 - 1) + 2 = pz + 3 * pg M pz 27 - 1 by omega]
  have hnr := netF_rng hI hov (x := x) (y := y) (by omega) (by omega)
  have hC_151 : ∀ (t : Int) (H : Heap) (locs : List Loc) (ls : Array Slot), (t = kegF (pg M pz) x y w) → Wo G ad CA nt LyM (wA ad LyM) s M H locs → lv_has ls 9 [(0, .ref (ad 0)), (1, .int (iN pz)), (2, .int (iN x)), (3, .int (iN y)), (8, .int (iN t))] → Wf l 3 71 G ad CA nt LyM (P_X11_minutes pz x y w M) p e s m args below meth c H locs (F0 m 151 ls []) := by
    intro t H locs ls ht hW hl
    refine lv_aload_n hx hb dX11_minutes_151 rfl (lv_at hl 0 rfl) ?_
    refine rw_getR hx hb hts hown hW 0 lm_0 0 1 rfl fX11_7 dX11_minutes_152 ?_
    refine lv_iload_n hx hb dX11_minutes_155 rfl (lv_at hl 1 rfl) ?_
    refine rw_bipush hx hb dX11_minutes_156 (by decide) ?_
    refine rw_iadd hx hb dX11_minutes_158 ?_
    refine lv_iload hx hb dX11_minutes_159 (lv_at hl 4 rfl) ?_
    refine rw_iconst hx hb dX11_minutes_161 ?_
    refine rw_isub hx hb dX11_minutes_162 ?_
    refine rw_iast hx hb hW hnt4 1 lm_1 (v := t - 2) (by omega) (by omega) (by decide) dX11_minutes_163 (fun H locs hW => ?_)
    obtain ⟨M1, hM1⟩ : ∃ z, z = upd2 M 1 (pz + 27) (t - 2) := ⟨_, rfl⟩
    rw [← hM1] at hW
    refine lv_aload_n hx hb dX11_minutes_164 rfl (lv_at hl 0 rfl) ?_
    refine lv_iload_n hx hb dX11_minutes_165 rfl (lv_at hl 1 rfl) ?_
    refine rw_iconst hx hb dX11_minutes_166 ?_
    refine lv_iload_n hx hb dX11_minutes_167 rfl (lv_at hl 2 rfl) ?_
    have hM1 := hM1
    refine rw_callV hx hb hml hts hown hW ⟨Nat.le_refl 0, Nat.le_refl 0⟩ [.int (iN pz), .int (iN 0), .int (iN x)] 0 lm_0 rfl (c_X11_restThen (l := l) (G := G) (ad := ad) (CA := CA) (nt := nt) (by omega) pz (by first | omega | decide) 0 (by decide) x M1 (by rw [pg_44, hM1, upd2_ne2 (by omega), ← pg_44]; exact hrr)) kX11_184 rfl ⟨Nat.le_of_ble_eq_true rfl, Nat.le_of_ble_eq_true rfl⟩ hl.1 rfl (Nat.le_of_ble_eq_true rfl) dX11_minutes_168 (fun v2 M3 H locs hp4 hW => ?_)
    obtain ⟨rfl, hM3⟩ := hp4
    refine rw_stk (st' := []) rfl ?_
    refine lv_aload_n hx hb dX11_minutes_171 rfl (lv_at hl 0 rfl) ?_
    refine lv_iload_n hx hb dX11_minutes_172 rfl (lv_at hl 1 rfl) ?_
    refine rw_iconst hx hb dX11_minutes_173 ?_
    refine lv_iload_n hx hb dX11_minutes_174 rfl (lv_at hl 3 rfl) ?_
    refine rw_callV hx hb hml hts hown hW ⟨Nat.le_refl 0, Nat.le_refl 0⟩ [.int (iN pz), .int (iN 1), .int (iN y)] 0 lm_0 rfl (c_X11_restThen (l := l) (G := G) (ad := ad) (CA := CA) (nt := nt) (by omega) pz (by first | omega | decide) 1 (by decide) y M3 (by rw [pg_44, hM3.2.2 _ (by omega), hM1, upd2_ne2 (by omega), ← pg_44]; exact hrr)) kX11_184 rfl ⟨Nat.le_of_ble_eq_true rfl, Nat.le_of_ble_eq_true rfl⟩ hl.1 rfl (Nat.le_of_ble_eq_true rfl) dX11_minutes_175 (fun v5 M6 H locs hp7 hW => ?_)
    obtain ⟨rfl, hM6⟩ := hp7
    refine rw_stk (st' := []) rfl ?_
    refine lv_aload_n hx hb dX11_minutes_178 rfl (lv_at hl 0 rfl) ?_
    refine rw_getR hx hb hts hown hW 0 lm_0 0 1 rfl fX11_7 dX11_minutes_179 ?_
    refine lv_iload_n hx hb dX11_minutes_182 rfl (lv_at hl 1 rfl) ?_
    refine rw_bipush hx hb dX11_minutes_183 (by decide) ?_
    refine rw_iadd hx hb dX11_minutes_185 ?_
    refine lv_dup2_11 hx hb dX11_minutes_186 rfl rfl ?_
    refine rw_iald hx hb hW hnt4 1 lm_1 (by omega) (by omega) (by decide) dX11_minutes_187 (v := (M6 1 (pz + 46))) rfl ?_
    refine rw_iconst hx hb dX11_minutes_188 ?_
    refine rw_iadd hx hb dX11_minutes_189 ?_
    refine rw_iast hx hb hW hnt4 1 lm_1 (v := (M6 1 (pz + 46)) + 1) (by omega) (by omega) (by decide) dX11_minutes_190 (fun H locs hW => ?_)
    obtain ⟨M8, hM8⟩ : ∃ z, z = upd2 M6 1 (pz + 46) ((M6 1 (pz + 46)) + 1) := ⟨_, rfl⟩
    rw [← hM8] at hW
    refine rw_vret hx hb hr hlocks hW dX11_minutes_191 (⟨rfl, ?_⟩)
    exact pass_rows (k := t) hp.1 hM1 hM3.1 ⟨hM3.2.1, fun j q => hM3.2.2 j (by omega)⟩ hM6.1 ⟨hM6.2.1, fun j q => hM6.2.2 j (by omega)⟩ hM8 ht
  have hC_99 : ∀ (d : Int) (H : Heap) (locs : List Loc) (ls : Array Slot), (d = wayF (pg M pz) (netF (pg M pz) x y)) → Wo G ad CA nt LyM (wA ad LyM) s M H locs → lv_has ls 9 [(0, .ref (ad 0)), (1, .int (iN pz)), (2, .int (iN x)), (3, .int (iN y)), (4, .int (iN w)), (5, .int (iN (pg M pz 27))), (7, .int (iN d))] → Wf l 3 71 G ad CA nt LyM (P_X11_minutes pz x y w M) p e s m args below meth c H locs (F0 m 99 ls []) := by
    intro d H locs ls hd hW hl
    have hdr := wayF_rng (pg M pz) (netF (pg M pz) x y)
    rw [← hd] at hdr
    refine lv_iload hx hb dX11_minutes_99 (lv_at hl 6 rfl) ?_
    refine rw_if_ne (tgt := 109) hx hb dX11_minutes_101 (by decide) (by omega) (fun c_101 => ?_) (fun c_101 => ?_)
    · refine lv_aload_n hx hb dX11_minutes_109 rfl (lv_at hl 0 rfl) ?_
      refine lv_iload hx hb dX11_minutes_110 (lv_at hl 5 rfl) ?_
      refine lv_iload hx hb dX11_minutes_112 (lv_at hl 6 rfl) ?_
      refine rw_callV hx hb hml hts hown hW ⟨Nat.le_refl 0, Nat.le_refl 0⟩ [.int (iN (pg M pz 27)), .int (iN d)] 0 lm_0 rfl (c_X11_onward (l := l) (G := G) (ad := ad) (CA := CA) (nt := nt) (by omega) (pg M pz 27) (by first | omega | decide) d (by first | omega | decide) M hc) kX11_181 rfl ⟨Nat.le_of_ble_eq_true rfl, Nat.le_of_ble_eq_true rfl⟩ hl.1 rfl (Nat.le_of_ble_eq_true rfl) dX11_minutes_114 (fun v9 M10 H locs hp11 hW => ?_)
      obtain ⟨_, rfl, rfl, hp11⟩ := hp11
      rw [hp11] at hW
      refine rw_stk (st' := [.int (iN (if (pg M pz 27) + d < 0 then 20 else if M 0 1 ≤ (pg M pz 27) + d then 21 else (pg M pz 27) + d))]) rfl ?_
      refine lv_istore (lv' := [(8, .int (iN (if (pg M pz 27) + d < 0 then 20 else if M 0 1 ≤ (pg M pz 27) + d then 21 else (pg M pz 27) + d))), (0, .ref (ad 0)), (1, .int (iN pz)), (2, .int (iN x)), (3, .int (iN y)), (4, .int (iN w)), (5, .int (iN (pg M pz 27))), (7, .int (iN d))]) hx hb dX11_minutes_117 hl (by decide) rfl (fun ls hl => ?_)
      refine lv_iload hx hb dX11_minutes_119 (lv_at hl 5 rfl) ?_
      refine rw_if_eq (tgt := 147) hx hb dX11_minutes_121 (by decide) (by omega) (fun c_121 => ?_) (fun c_121 => ?_)
      · refine lv_iload hx hb dX11_minutes_147 (lv_at hl 0 rfl) ?_
        refine lv_istore (lv' := [(8, .int (iN (if (pg M pz 27) + d < 0 then 20 else if M 0 1 ≤ (pg M pz 27) + d then 21 else (pg M pz 27) + d))), (0, .ref (ad 0)), (1, .int (iN pz)), (2, .int (iN x)), (3, .int (iN y)), (4, .int (iN w)), (5, .int (iN (pg M pz 27))), (7, .int (iN d))]) hx hb dX11_minutes_149 hl (by decide) rfl (fun ls hl => ?_)
        exact hC_151 (if (pg M pz 27) + d < 0 then 20 else if M 0 1 ≤ (pg M pz 27) + d then 21 else (pg M pz 27) + d) H locs ls (by unfold kegF shiftK; rw [← hd]; (repeat' split) <;> omega) hW (lv_sub hl [1, 2, 3, 4, 0] rfl)
      · refine lv_iload hx hb dX11_minutes_124 (lv_at hl 7 rfl) ?_
        refine rw_if_eq (tgt := 147) hx hb dX11_minutes_126 (by decide) (by omega) (fun c_126 => ?_) (fun c_126 => ?_)
        · refine lv_iload hx hb dX11_minutes_147 (lv_at hl 0 rfl) ?_
          refine lv_istore (lv' := [(8, .int (iN (if (pg M pz 27) + d < 0 then 20 else if M 0 1 ≤ (pg M pz 27) + d then 21 else (pg M pz 27) + d))), (0, .ref (ad 0)), (1, .int (iN pz)), (2, .int (iN x)), (3, .int (iN y)), (4, .int (iN w)), (5, .int (iN (pg M pz 27))), (7, .int (iN d))]) hx hb dX11_minutes_149 hl (by decide) rfl (fun ls hl => ?_)
          exact hC_151 (if (pg M pz 27) + d < 0 then 20 else if M 0 1 ≤ (pg M pz 27) + d then 21 else (pg M pz 27) + d) H locs ls (by unfold kegF shiftK; rw [← hd]; (repeat' split) <;> omega) hW (lv_sub hl [1, 2, 3, 4, 0] rfl)
        · refine lv_iload hx hb dX11_minutes_129 (lv_at hl 0 rfl) ?_
          refine rw_bipush hx hb dX11_minutes_131 (by decide) ?_
          refine rw_icmp_ge (tgt := 147) hx hb dX11_minutes_133 (by decide) (by omega) (by decide) (fun c_133 => ?_) (fun c_133 => ?_)
          · refine lv_iload hx hb dX11_minutes_147 (lv_at hl 0 rfl) ?_
            refine lv_istore (lv' := [(8, .int (iN (if (pg M pz 27) + d < 0 then 20 else if M 0 1 ≤ (pg M pz 27) + d then 21 else (pg M pz 27) + d))), (0, .ref (ad 0)), (1, .int (iN pz)), (2, .int (iN x)), (3, .int (iN y)), (4, .int (iN w)), (5, .int (iN (pg M pz 27))), (7, .int (iN d))]) hx hb dX11_minutes_149 hl (by decide) rfl (fun ls hl => ?_)
            exact hC_151 (if (pg M pz 27) + d < 0 then 20 else if M 0 1 ≤ (pg M pz 27) + d then 21 else (pg M pz 27) + d) H locs ls (by unfold kegF shiftK; rw [← hd]; (repeat' split) <;> omega) hW (lv_sub hl [1, 2, 3, 4, 0] rfl)
          · refine lv_aload_n hx hb dX11_minutes_136 rfl (lv_at hl 1 rfl) ?_
            refine lv_iload hx hb dX11_minutes_137 (lv_at hl 0 rfl) ?_
            refine lv_iload hx hb dX11_minutes_139 (lv_at hl 7 rfl) ?_
            refine rw_callV hx hb hml hts hown hW ⟨Nat.le_refl 0, Nat.le_refl 0⟩ [.int (iN (if (pg M pz 27) + d < 0 then 20 else if M 0 1 ≤ (pg M pz 27) + d then 21 else (pg M pz 27) + d)), .int (iN d)] 0 lm_0 rfl (c_X11_onward (l := l) (G := G) (ad := ad) (CA := CA) (nt := nt) (by omega) (if (pg M pz 27) + d < 0 then 20 else if M 0 1 ≤ (pg M pz 27) + d then 21 else (pg M pz 27) + d) (by first | omega | decide) d (by first | omega | decide) M hc) kX11_181 rfl ⟨Nat.le_of_ble_eq_true rfl, Nat.le_of_ble_eq_true rfl⟩ hl.1 rfl (Nat.le_of_ble_eq_true rfl) dX11_minutes_141 (fun v12 M13 H locs hp14 hW => ?_)
            obtain ⟨_, rfl, rfl, hp14⟩ := hp14
            rw [hp14] at hW
            refine rw_stk (st' := [.int (iN (if (if (pg M pz 27) + d < 0 then 20 else if M 0 1 ≤ (pg M pz 27) + d then 21 else (pg M pz 27) + d) + d < 0 then 20 else if M 0 1 ≤ (if (pg M pz 27) + d < 0 then 20 else if M 0 1 ≤ (pg M pz 27) + d then 21 else (pg M pz 27) + d) + d then 21 else (if (pg M pz 27) + d < 0 then 20 else if M 0 1 ≤ (pg M pz 27) + d then 21 else (pg M pz 27) + d) + d))]) rfl ?_
            refine lv_goto (tgt := 149) hx hb dX11_minutes_144 (by decide) ?_
            refine lv_istore (lv' := [(8, .int (iN (if (if (pg M pz 27) + d < 0 then 20 else if M 0 1 ≤ (pg M pz 27) + d then 21 else (pg M pz 27) + d) + d < 0 then 20 else if M 0 1 ≤ (if (pg M pz 27) + d < 0 then 20 else if M 0 1 ≤ (pg M pz 27) + d then 21 else (pg M pz 27) + d) + d then 21 else (if (pg M pz 27) + d < 0 then 20 else if M 0 1 ≤ (pg M pz 27) + d then 21 else (pg M pz 27) + d) + d))), (0, .ref (ad 0)), (1, .int (iN pz)), (2, .int (iN x)), (3, .int (iN y)), (4, .int (iN w)), (5, .int (iN (pg M pz 27))), (7, .int (iN d))]) hx hb dX11_minutes_149 hl (by decide) rfl (fun ls hl => ?_)
            exact hC_151 (if (if (pg M pz 27) + d < 0 then 20 else if M 0 1 ≤ (pg M pz 27) + d then 21 else (pg M pz 27) + d) + d < 0 then 20 else if M 0 1 ≤ (if (pg M pz 27) + d < 0 then 20 else if M 0 1 ≤ (pg M pz 27) + d then 21 else (pg M pz 27) + d) + d then 21 else (if (pg M pz 27) + d < 0 then 20 else if M 0 1 ≤ (pg M pz 27) + d then 21 else (pg M pz 27) + d) + d) H locs ls (by unfold kegF shiftK; rw [← hd]; (repeat' split) <;> omega) hW (lv_sub hl [1, 2, 3, 4, 0] rfl)
    · refine lv_iload hx hb dX11_minutes_104 (lv_at hl 5 rfl) ?_
      refine lv_goto (tgt := 117) hx hb dX11_minutes_106 (by decide) ?_
      refine lv_istore (lv' := [(8, .int (iN (pg M pz 27))), (0, .ref (ad 0)), (1, .int (iN pz)), (2, .int (iN x)), (3, .int (iN y)), (4, .int (iN w)), (5, .int (iN (pg M pz 27))), (7, .int (iN d))]) hx hb dX11_minutes_117 hl (by decide) rfl (fun ls hl => ?_)
      refine lv_iload hx hb dX11_minutes_119 (lv_at hl 5 rfl) ?_
      refine rw_if_eq (tgt := 147) hx hb dX11_minutes_121 (by decide) (by omega) (fun c_121 => ?_) (fun c_121 => ?_)
      · refine lv_iload hx hb dX11_minutes_147 (lv_at hl 0 rfl) ?_
        refine lv_istore (lv' := [(8, .int (iN (pg M pz 27))), (0, .ref (ad 0)), (1, .int (iN pz)), (2, .int (iN x)), (3, .int (iN y)), (4, .int (iN w)), (5, .int (iN (pg M pz 27))), (7, .int (iN d))]) hx hb dX11_minutes_149 hl (by decide) rfl (fun ls hl => ?_)
        exact hC_151 (pg M pz 27) H locs ls (by unfold kegF shiftK; rw [← hd]; (repeat' split) <;> omega) hW (lv_sub hl [1, 2, 3, 4, 0] rfl)
      · refine lv_iload hx hb dX11_minutes_124 (lv_at hl 7 rfl) ?_
        refine rw_if_eq (tgt := 147) hx hb dX11_minutes_126 (by decide) (by omega) (fun c_126 => ?_) (fun c_126 => ?_)
        · refine lv_iload hx hb dX11_minutes_147 (lv_at hl 0 rfl) ?_
          refine lv_istore (lv' := [(8, .int (iN (pg M pz 27))), (0, .ref (ad 0)), (1, .int (iN pz)), (2, .int (iN x)), (3, .int (iN y)), (4, .int (iN w)), (5, .int (iN (pg M pz 27))), (7, .int (iN d))]) hx hb dX11_minutes_149 hl (by decide) rfl (fun ls hl => ?_)
          exact hC_151 (pg M pz 27) H locs ls (by unfold kegF shiftK; rw [← hd]; (repeat' split) <;> omega) hW (lv_sub hl [1, 2, 3, 4, 0] rfl)
        · refine lv_iload hx hb dX11_minutes_129 (lv_at hl 0 rfl) ?_
          refine rw_bipush hx hb dX11_minutes_131 (by decide) ?_
          refine rw_icmp_ge (tgt := 147) hx hb dX11_minutes_133 (by decide) (by omega) (by decide) (fun c_133 => ?_) (fun c_133 => ?_)
          · refine lv_iload hx hb dX11_minutes_147 (lv_at hl 0 rfl) ?_
            refine lv_istore (lv' := [(8, .int (iN (pg M pz 27))), (0, .ref (ad 0)), (1, .int (iN pz)), (2, .int (iN x)), (3, .int (iN y)), (4, .int (iN w)), (5, .int (iN (pg M pz 27))), (7, .int (iN d))]) hx hb dX11_minutes_149 hl (by decide) rfl (fun ls hl => ?_)
            exact hC_151 (pg M pz 27) H locs ls (by unfold kegF shiftK; rw [← hd]; (repeat' split) <;> omega) hW (lv_sub hl [1, 2, 3, 4, 0] rfl)
          · refine lv_aload_n hx hb dX11_minutes_136 rfl (lv_at hl 1 rfl) ?_
            refine lv_iload hx hb dX11_minutes_137 (lv_at hl 0 rfl) ?_
            refine lv_iload hx hb dX11_minutes_139 (lv_at hl 7 rfl) ?_
            refine rw_callV hx hb hml hts hown hW ⟨Nat.le_refl 0, Nat.le_refl 0⟩ [.int (iN (pg M pz 27)), .int (iN d)] 0 lm_0 rfl (c_X11_onward (l := l) (G := G) (ad := ad) (CA := CA) (nt := nt) (by omega) (pg M pz 27) (by first | omega | decide) d (by first | omega | decide) M hc) kX11_181 rfl ⟨Nat.le_of_ble_eq_true rfl, Nat.le_of_ble_eq_true rfl⟩ hl.1 rfl (Nat.le_of_ble_eq_true rfl) dX11_minutes_141 (fun v15 M16 H locs hp17 hW => ?_)
            obtain ⟨_, rfl, rfl, hp17⟩ := hp17
            rw [hp17] at hW
            refine rw_stk (st' := [.int (iN (if (pg M pz 27) + d < 0 then 20 else if M 0 1 ≤ (pg M pz 27) + d then 21 else (pg M pz 27) + d))]) rfl ?_
            refine lv_goto (tgt := 149) hx hb dX11_minutes_144 (by decide) ?_
            refine lv_istore (lv' := [(8, .int (iN (if (pg M pz 27) + d < 0 then 20 else if M 0 1 ≤ (pg M pz 27) + d then 21 else (pg M pz 27) + d))), (0, .ref (ad 0)), (1, .int (iN pz)), (2, .int (iN x)), (3, .int (iN y)), (4, .int (iN w)), (5, .int (iN (pg M pz 27))), (7, .int (iN d))]) hx hb dX11_minutes_149 hl (by decide) rfl (fun ls hl => ?_)
            exact hC_151 (if (pg M pz 27) + d < 0 then 20 else if M 0 1 ≤ (pg M pz 27) + d then 21 else (pg M pz 27) + d) H locs ls (by unfold kegF shiftK; rw [← hd]; (repeat' split) <;> omega) hW (lv_sub hl [1, 2, 3, 4, 0] rfl)
  refine lv_aload_n hx hb dX11_minutes_0 rfl (lv_at hl 0 rfl) ?_
  refine lv_iload_n hx hb dX11_minutes_1 rfl (lv_at hl 1 rfl) ?_
  refine rw_callV hx hb hml hts hown hW ⟨Nat.le_refl 0, Nat.le_refl 0⟩ [.int (iN pz)] 0 lm_0 rfl (c_X11_keg (l := l) (G := G) (ad := ad) (CA := CA) (nt := nt) (by omega) pz (by first | omega | decide) M) kX11_146 rfl ⟨Nat.le_of_ble_eq_true rfl, Nat.le_of_ble_eq_true rfl⟩ hl.1 rfl (Nat.le_of_ble_eq_true rfl) dX11_minutes_2 (fun v18 M19 H locs hp20 hW => ?_)
  obtain ⟨_, rfl, rfl, hp20⟩ := hp20
  rw [hp20] at hW
  refine rw_stk (st' := [.int (iN (pg M pz 27))]) rfl ?_
  refine lv_istore (lv' := [(5, .int (iN (pg M pz 27))), (0, .ref (ad 0)), (1, .int (iN pz)), (2, .int (iN x)), (3, .int (iN y)), (4, .int (iN w))]) hx hb dX11_minutes_5 hl (by decide) rfl (fun ls hl => ?_)
  refine lv_aload_n hx hb dX11_minutes_7 rfl (lv_at hl 1 rfl) ?_
  refine lv_iload_n hx hb dX11_minutes_8 rfl (lv_at hl 2 rfl) ?_
  refine lv_iload_n hx hb dX11_minutes_9 rfl (lv_at hl 3 rfl) ?_
  refine lv_iload_n hx hb dX11_minutes_10 rfl (lv_at hl 4 rfl) ?_
  refine rw_callV hx hb hml hts hown hW ⟨Nat.le_refl 0, Nat.le_refl 0⟩ [.int (iN pz), .int (iN x), .int (iN y)] 0 lm_0 rfl (c_X11_netOf (l := l) (G := G) (ad := ad) (CA := CA) (nt := nt) (by omega) pz (by first | omega | decide) x y (by first | omega | decide) (by first | omega | decide) M hI (by first | omega | decide)) kX11_178 rfl ⟨Nat.le_of_ble_eq_true rfl, Nat.le_of_ble_eq_true rfl⟩ hl.1 rfl (Nat.le_of_ble_eq_true rfl) dX11_minutes_11 (fun v21 M22 H locs hp23 hW => ?_)
  obtain ⟨_, rfl, rfl, hp23⟩ := hp23
  rw [hp23] at hW
  refine rw_stk (st' := [.int (iN (netF (pg M pz) x y))]) rfl ?_
  refine lv_istore (lv' := [(6, .int (iN (netF (pg M pz) x y))), (5, .int (iN (pg M pz 27))), (0, .ref (ad 0)), (1, .int (iN pz)), (2, .int (iN x)), (3, .int (iN y)), (4, .int (iN w))]) hx hb dX11_minutes_14 hl (by decide) rfl (fun ls hl => ?_)
  refine rw_iconst hx hb dX11_minutes_16 ?_
  refine lv_istore (lv' := [(7, .int (iN 0)), (6, .int (iN (netF (pg M pz) x y))), (5, .int (iN (pg M pz 27))), (0, .ref (ad 0)), (1, .int (iN pz)), (2, .int (iN x)), (3, .int (iN y)), (4, .int (iN w))]) hx hb dX11_minutes_17 hl (by decide) rfl (fun ls hl => ?_)
  refine lv_iload hx hb dX11_minutes_19 (lv_at hl 1 rfl) ?_
  refine rw_if_le (tgt := 63) hx hb dX11_minutes_21 (by decide) (by omega) (fun c_21 => ?_) (fun c_21 => ?_)
  · refine lv_iload hx hb dX11_minutes_63 (lv_at hl 1 rfl) ?_
    refine rw_if_ge (tgt := 99) hx hb dX11_minutes_65 (by decide) (by omega) (fun c_65 => ?_) (fun c_65 => ?_)
    · exact hC_99 0 H locs ls (by unfold wayF; rw [hh1, hh2]; (repeat' split) <;> omega) hW (lv_sub hl [3, 4, 5, 6, 7, 2, 0] rfl)
    · refine lv_iload hx hb dX11_minutes_68 (lv_at hl 2 rfl) ?_
      refine rw_if_eq (tgt := 92) hx hb dX11_minutes_70 (by decide) (by omega) (fun c_70 => ?_) (fun c_70 => ?_)
      · refine rw_iconst hx hb dX11_minutes_92 ?_
        refine lv_goto (tgt := 97) hx hb dX11_minutes_93 (by decide) ?_
        refine lv_istore (lv' := [(7, .int (iN (-1))), (6, .int (iN (netF (pg M pz) x y))), (5, .int (iN (pg M pz 27))), (0, .ref (ad 0)), (1, .int (iN pz)), (2, .int (iN x)), (3, .int (iN y)), (4, .int (iN w))]) hx hb dX11_minutes_97 hl (by decide) rfl (fun ls hl => ?_)
        exact hC_99 (-1) H locs ls (by unfold wayF; rw [hh1, hh2]; (repeat' split) <;> omega) hW (lv_sub hl [3, 4, 5, 6, 7, 2, 0] rfl)
      · refine lv_iload hx hb dX11_minutes_73 (lv_at hl 1 rfl) ?_
        refine rw_ineg hx hb dX11_minutes_75 ?_
        refine lv_aload_n hx hb dX11_minutes_76 rfl (lv_at hl 3 rfl) ?_
        refine rw_getR hx hb hts hown hW 0 lm_0 0 1 rfl fX11_7 dX11_minutes_77 ?_
        refine lv_iload_n hx hb dX11_minutes_80 rfl (lv_at hl 4 rfl) ?_
        refine rw_iconst hx hb dX11_minutes_81 ?_
        refine lv_iload hx hb dX11_minutes_82 (lv_at hl 2 rfl) ?_
        refine rw_imul hx hb dX11_minutes_84 ?_
        refine rw_iadd hx hb dX11_minutes_85 ?_
        refine rw_iconst hx hb dX11_minutes_86 ?_
        refine rw_isub hx hb dX11_minutes_87 ?_
        refine rw_iald hx hb hW hnt4 1 lm_1 (by omega) (by omega) (by decide) dX11_minutes_88 (v := (M 1 ((pz + (3 * (pg M pz 27))) - 1))) rfl ?_
        refine rw_icmp_le (tgt := 96) hx hb dX11_minutes_89 (by decide) (by omega) (by omega) (fun c_89 => ?_) (fun c_89 => ?_)
        · refine rw_iconst hx hb dX11_minutes_96 ?_
          refine lv_istore (lv' := [(7, .int (iN 0)), (6, .int (iN (netF (pg M pz) x y))), (5, .int (iN (pg M pz 27))), (0, .ref (ad 0)), (1, .int (iN pz)), (2, .int (iN x)), (3, .int (iN y)), (4, .int (iN w))]) hx hb dX11_minutes_97 hl (by decide) rfl (fun ls hl => ?_)
          exact hC_99 0 H locs ls (by unfold wayF; rw [hh1, hh2]; (repeat' split) <;> omega) hW (lv_sub hl [3, 4, 5, 6, 7, 2, 0] rfl)
        · refine rw_iconst hx hb dX11_minutes_92 ?_
          refine lv_goto (tgt := 97) hx hb dX11_minutes_93 (by decide) ?_
          refine lv_istore (lv' := [(7, .int (iN (-1))), (6, .int (iN (netF (pg M pz) x y))), (5, .int (iN (pg M pz 27))), (0, .ref (ad 0)), (1, .int (iN pz)), (2, .int (iN x)), (3, .int (iN y)), (4, .int (iN w))]) hx hb dX11_minutes_97 hl (by decide) rfl (fun ls hl => ?_)
          exact hC_99 (-1) H locs ls (by unfold wayF; rw [hh1, hh2]; (repeat' split) <;> omega) hW (lv_sub hl [3, 4, 5, 6, 7, 2, 0] rfl)
  · refine lv_iload hx hb dX11_minutes_24 (lv_at hl 2 rfl) ?_
    refine lv_aload_n hx hb dX11_minutes_26 rfl (lv_at hl 3 rfl) ?_
    refine rw_getI hx hb hts hown hW 0 lm_0 1 1 rfl rfl fX11_13 dX11_minutes_27 (v := (M 0 1)) rfl ?_
    refine rw_iconst hx hb dX11_minutes_30 ?_
    refine rw_isub hx hb dX11_minutes_31 ?_
    refine rw_icmp_eq (tgt := 53) hx hb dX11_minutes_32 (by decide) (by omega) (by omega) (fun c_32 => ?_) (fun c_32 => ?_)
    · refine rw_iconst hx hb dX11_minutes_53 ?_
      refine lv_goto (tgt := 58) hx hb dX11_minutes_54 (by decide) ?_
      refine lv_istore (lv' := [(7, .int (iN 1)), (6, .int (iN (netF (pg M pz) x y))), (5, .int (iN (pg M pz 27))), (0, .ref (ad 0)), (1, .int (iN pz)), (2, .int (iN x)), (3, .int (iN y)), (4, .int (iN w))]) hx hb dX11_minutes_58 hl (by decide) rfl (fun ls hl => ?_)
      refine lv_goto (tgt := 99) hx hb dX11_minutes_60 (by decide) ?_
      exact hC_99 1 H locs ls (by unfold wayF; rw [hh1, hh2]; (repeat' split) <;> omega) hW (lv_sub hl [3, 4, 5, 6, 7, 2, 0] rfl)
    · refine lv_iload hx hb dX11_minutes_35 (lv_at hl 1 rfl) ?_
      refine lv_aload_n hx hb dX11_minutes_37 rfl (lv_at hl 3 rfl) ?_
      refine rw_getR hx hb hts hown hW 0 lm_0 0 1 rfl fX11_7 dX11_minutes_38 ?_
      refine lv_iload_n hx hb dX11_minutes_41 rfl (lv_at hl 4 rfl) ?_
      refine rw_iconst hx hb dX11_minutes_42 ?_
      refine lv_iload hx hb dX11_minutes_43 (lv_at hl 2 rfl) ?_
      refine rw_imul hx hb dX11_minutes_45 ?_
      refine rw_iadd hx hb dX11_minutes_46 ?_
      refine rw_iconst hx hb dX11_minutes_47 ?_
      refine rw_iadd hx hb dX11_minutes_48 ?_
      refine rw_iald hx hb hW hnt4 1 lm_1 (by omega) (by omega) (by decide) dX11_minutes_49 (v := (M 1 ((pz + (3 * (pg M pz 27))) + 2))) rfl ?_
      refine rw_icmp_le (tgt := 57) hx hb dX11_minutes_50 (by decide) (by omega) (by omega) (fun c_50 => ?_) (fun c_50 => ?_)
      · refine rw_iconst hx hb dX11_minutes_57 ?_
        refine lv_istore (lv' := [(7, .int (iN 0)), (6, .int (iN (netF (pg M pz) x y))), (5, .int (iN (pg M pz 27))), (0, .ref (ad 0)), (1, .int (iN pz)), (2, .int (iN x)), (3, .int (iN y)), (4, .int (iN w))]) hx hb dX11_minutes_58 hl (by decide) rfl (fun ls hl => ?_)
        refine lv_goto (tgt := 99) hx hb dX11_minutes_60 (by decide) ?_
        exact hC_99 0 H locs ls (by unfold wayF; rw [hh1, hh2]; (repeat' split) <;> omega) hW (lv_sub hl [3, 4, 5, 6, 7, 2, 0] rfl)
      · refine rw_iconst hx hb dX11_minutes_53 ?_
        refine lv_goto (tgt := 58) hx hb dX11_minutes_54 (by decide) ?_
        refine lv_istore (lv' := [(7, .int (iN 1)), (6, .int (iN (netF (pg M pz) x y))), (5, .int (iN (pg M pz 27))), (0, .ref (ad 0)), (1, .int (iN pz)), (2, .int (iN x)), (3, .int (iN y)), (4, .int (iN w))]) hx hb dX11_minutes_58 hl (by decide) rfl (fun ls hl => ?_)
        refine lv_goto (tgt := 99) hx hb dX11_minutes_60 (by decide) ?_
        exact hC_99 1 H locs ls (by unfold wayF; rw [hh1, hh2]; (repeat' split) <;> omega) hW (lv_sub hl [3, 4, 5, 6, 7, 2, 0] rfl)
