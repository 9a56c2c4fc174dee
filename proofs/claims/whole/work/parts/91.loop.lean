/-! the law's loop, and the law from its entry (out of wip/whole/src/91.loop.txt by wip/whole/gen/mk90.py) -/
set_option maxHeartbeats 4000000 in
theorem law_switch {p : Program} {l : Launch} {e : Env} {s : State} {m : MethodId} {below : List Frame} {meth : Method} {c : Code} {b L : Nat} {xs : Nat → Int32} {Q : State → Prop} {D : va_G} {ls : Array Slot} {q1 q2 n : Nat} (C0 : lw_At p s m meth c b L xs) (hAm : Amb_ D s) (hL : L ≤ 3072) (hn : 6 * n + 6 ≤ L) (hl : lv_has ls 4 [(0, .ref b), (1, .ref q1), (2, .ref q2), (3, .int (nI (6 * n)))]) (hN : LG_ p l e s m below meth c b D Q ls q1 q2 (n + 1) 1320) (j : Nat) (h : j < 36) (α β : Nat → Nat → Nat) (gX gM : GS_) (H : Heap) (locs : List Loc) (cells slots : Nat) (hR : Rel gX gM n) (hLW : LW_ D s α β gX gM H locs) (hq1 : LQ_ α gX 9 q1) (hq2 : LQ_ β gM 10 q2) (hce : cells ≤ 400 + 1000 * n) (hsl : slots ≤ 100000 + 14000 * n) : W p l e room_1 s m #[Value.ref b] below meth c H locs cells slots Q (F0 m 33 ls [.int (nI j)]) := by
  obtain ⟨hx, hb, hr, hml, hown, hts, hX, hbl, hlocks, hgv⟩ := id C0
  match j, h with
    | 0, _ => exact lv_tableIn (off := 159) (tgt := 192) hx hb dL_law_33 (by decide) (by decide) (by decide +kernel) (by decide) (lb_0 C0 hAm hL hn hl hN α β gX gM H locs cells slots hR hLW hq1 hq2 hce hsl)
    | 1, _ => exact lv_tableIn (off := 222) (tgt := 255) hx hb dL_law_33 (by decide) (by decide) (by decide +kernel) (by decide) (lb_1 C0 hAm hL hn hl hN α β gX gM H locs cells slots hR hLW hq1 hq2 hce hsl)
    | 2, _ => exact lv_tableIn (off := 255) (tgt := 288) hx hb dL_law_33 (by decide) (by decide) (by decide +kernel) (by decide) (lb_2 C0 hAm hL hn hl hN α β gX gM H locs cells slots hR hLW hq1 hq2 hce hsl)
    | 3, _ => exact lv_tableIn (off := 278) (tgt := 311) hx hb dL_law_33 (by decide) (by decide) (by decide +kernel) (by decide) (lb_3 C0 hAm hL hn hl hN α β gX gM H locs cells slots hR hLW hq1 hq2 hce hsl)
    | 4, _ => exact lv_tableIn (off := 291) (tgt := 324) hx hb dL_law_33 (by decide) (by decide) (by decide +kernel) (by decide) (lb_4 C0 hAm hL hn hl hN α β gX gM H locs cells slots hR hLW hq1 hq2 hce hsl)
    | 5, _ => exact lv_tableIn (off := 304) (tgt := 337) hx hb dL_law_33 (by decide) (by decide) (by decide +kernel) (by decide) (lb_5 C0 hAm hL hn hl hN α β gX gM H locs cells slots hR hLW hq1 hq2 hce hsl)
    | 6, _ => exact lv_tableIn (off := 337) (tgt := 370) hx hb dL_law_33 (by decide) (by decide) (by decide +kernel) (by decide) (lb_6 C0 hAm hL hn hl hN α β gX gM H locs cells slots hR hLW hq1 hq2 hce hsl)
    | 7, _ => exact lv_tableIn (off := 370) (tgt := 403) hx hb dL_law_33 (by decide) (by decide) (by decide +kernel) (by decide) (lb_7 C0 hAm hL hn hl hN α β gX gM H locs cells slots hR hLW hq1 hq2 hce hsl)
    | 8, _ => exact lv_tableIn (off := 393) (tgt := 426) hx hb dL_law_33 (by decide) (by decide) (by decide +kernel) (by decide) (lb_8 C0 hAm hL hn hl hN α β gX gM H locs cells slots hR hLW hq1 hq2 hce hsl)
    | 9, _ => exact lv_tableIn (off := 426) (tgt := 459) hx hb dL_law_33 (by decide) (by decide) (by decide +kernel) (by decide) (lb_9 C0 hAm hL hn hl hN α β gX gM H locs cells slots hR hLW hq1 hq2 hce hsl)
    | 10, _ => exact lv_tableIn (off := 479) (tgt := 512) hx hb dL_law_33 (by decide) (by decide) (by decide +kernel) (by decide) (lb_10 C0 hAm hL hn hl hN α β gX gM H locs cells slots hR hLW hq1 hq2 hce hsl)
    | 11, _ => exact lv_tableIn (off := 512) (tgt := 545) hx hb dL_law_33 (by decide) (by decide) (by decide +kernel) (by decide) (lb_11 C0 hAm hL hn hl hN α β gX gM H locs cells slots hR hLW hq1 hq2 hce hsl)
    | 12, _ => exact lv_tableIn (off := 535) (tgt := 568) hx hb dL_law_33 (by decide) (by decide) (by decide +kernel) (by decide) (lb_12 C0 hAm hL hn hl hN α β gX gM H locs cells slots hR hLW hq1 hq2 hce hsl)
    | 13, _ => exact lv_tableIn (off := 578) (tgt := 611) hx hb dL_law_33 (by decide) (by decide) (by decide +kernel) (by decide) (lb_13 C0 hAm hL hn hl hN α β gX gM H locs cells slots hR hLW hq1 hq2 hce hsl)
    | 14, _ => exact lv_tableIn (off := 611) (tgt := 644) hx hb dL_law_33 (by decide) (by decide) (by decide +kernel) (by decide) (lb_14 C0 hAm hL hn hl hN α β gX gM H locs cells slots hR hLW hq1 hq2 hce hsl)
    | 15, _ => exact lv_tableIn (off := 654) (tgt := 687) hx hb dL_law_33 (by decide) (by decide) (by decide +kernel) (by decide) (lb_15 C0 hAm hL hn hl hN α β gX gM H locs cells slots hR hLW hq1 hq2 hce hsl)
    | 16, _ => exact lv_tableIn (off := 697) (tgt := 730) hx hb dL_law_33 (by decide) (by decide) (by decide +kernel) (by decide) (lb_16 C0 hAm hL hn hl hN α β gX gM H locs cells slots hR hLW hq1 hq2 hce hsl)
    | 17, _ => exact lv_tableIn (off := 730) (tgt := 763) hx hb dL_law_33 (by decide) (by decide) (by decide +kernel) (by decide) (lb_17 C0 hAm hL hn hl hN α β gX gM H locs cells slots hR hLW hq1 hq2 hce hsl)
    | 18, _ => exact lv_tableIn (off := 793) (tgt := 826) hx hb dL_law_33 (by decide) (by decide) (by decide +kernel) (by decide) (lb_18 C0 hAm hL hn hl hN α β gX gM H locs cells slots hR hLW hq1 hq2 hce hsl)
    | 19, _ => exact lv_tableIn (off := 826) (tgt := 859) hx hb dL_law_33 (by decide) (by decide) (by decide +kernel) (by decide) (lb_19 C0 hAm hL hn hl hN α β gX gM H locs cells slots hR hLW hq1 hq2 hce hsl)
    | 20, _ => exact lv_tableIn (off := 859) (tgt := 892) hx hb dL_law_33 (by decide) (by decide) (by decide +kernel) (by decide) (lb_20 C0 hAm hL hn hl hN α β gX gM H locs cells slots hR hLW hq1 hq2 hce hsl)
    | 21, _ => exact lv_tableIn (off := 892) (tgt := 925) hx hb dL_law_33 (by decide) (by decide) (by decide +kernel) (by decide) (lb_21 C0 hAm hL hn hl hN α β gX gM H locs cells slots hR hLW hq1 hq2 hce hsl)
    | 22, _ => exact lv_tableIn (off := 925) (tgt := 958) hx hb dL_law_33 (by decide) (by decide) (by decide +kernel) (by decide) (lb_22 C0 hAm hL hn hl hN α β gX gM H locs cells slots hR hLW hq1 hq2 hce hsl)
    | 23, _ => exact lv_tableIn (off := 948) (tgt := 981) hx hb dL_law_33 (by decide) (by decide) (by decide +kernel) (by decide) (lb_23 C0 hAm hL hn hl hN α β gX gM H locs cells slots hR hLW hq1 hq2 hce hsl)
    | 24, _ => exact lv_tableIn (off := 971) (tgt := 1004) hx hb dL_law_33 (by decide) (by decide) (by decide +kernel) (by decide) (lb_24 C0 hAm hL hn hl hN α β gX gM H locs cells slots hR hLW hq1 hq2 hce hsl)
    | 25, _ => exact lv_tableIn (off := 994) (tgt := 1027) hx hb dL_law_33 (by decide) (by decide) (by decide +kernel) (by decide) (lb_25 C0 hAm hL hn hl hN α β gX gM H locs cells slots hR hLW hq1 hq2 hce hsl)
    | 26, _ => exact lv_tableIn (off := 1017) (tgt := 1050) hx hb dL_law_33 (by decide) (by decide) (by decide +kernel) (by decide) (lb_26 C0 hAm hL hn hl hN α β gX gM H locs cells slots hR hLW hq1 hq2 hce hsl)
    | 27, _ => exact lv_tableIn (off := 1040) (tgt := 1073) hx hb dL_law_33 (by decide) (by decide) (by decide +kernel) (by decide) (lb_27 C0 hAm hL hn hl hN α β gX gM H locs cells slots hR hLW hq1 hq2 hce hsl)
    | 28, _ => exact lv_tableIn (off := 1063) (tgt := 1096) hx hb dL_law_33 (by decide) (by decide) (by decide +kernel) (by decide) (lb_28 C0 hAm hL hn hl hN α β gX gM H locs cells slots hR hLW hq1 hq2 hce hsl)
    | 29, _ => exact lv_tableIn (off := 1096) (tgt := 1129) hx hb dL_law_33 (by decide) (by decide) (by decide +kernel) (by decide) (lb_29 C0 hAm hL hn hl hN α β gX gM H locs cells slots hR hLW hq1 hq2 hce hsl)
    | 30, _ => exact lv_tableIn (off := 1119) (tgt := 1152) hx hb dL_law_33 (by decide) (by decide) (by decide +kernel) (by decide) (lb_30 C0 hAm hL hn hl hN α β gX gM H locs cells slots hR hLW hq1 hq2 hce hsl)
    | 31, _ => exact lv_tableIn (off := 1152) (tgt := 1185) hx hb dL_law_33 (by decide) (by decide) (by decide +kernel) (by decide) (lb_31 C0 hAm hL hn hl hN α β gX gM H locs cells slots hR hLW hq1 hq2 hce hsl)
    | 32, _ => exact lv_tableIn (off := 1185) (tgt := 1218) hx hb dL_law_33 (by decide) (by decide) (by decide +kernel) (by decide) (lb_32 C0 hAm hL hn hl hN α β gX gM H locs cells slots hR hLW hq1 hq2 hce hsl)
    | 33, _ => exact lv_tableIn (off := 1218) (tgt := 1251) hx hb dL_law_33 (by decide) (by decide) (by decide +kernel) (by decide) (lb_33 C0 hAm hL hn hl hN α β gX gM H locs cells slots hR hLW hq1 hq2 hce hsl)
    | 34, _ => exact lv_tableIn (off := 1241) (tgt := 1274) hx hb dL_law_33 (by decide) (by decide) (by decide +kernel) (by decide) (lb_34 C0 hAm hL hn hl hN α β gX gM H locs cells slots hR hLW hq1 hq2 hce hsl)
    | 35, _ => exact lv_tableIn (off := 1264) (tgt := 1297) hx hb dL_law_33 (by decide) (by decide) (by decide +kernel) (by decide) (lb_35 C0 hAm hL hn hl hN α β gX gM H locs cells slots hR hLW hq1 hq2 hce hsl)
    | j + 36, h => omega
theorem lt_small : ∀ L, L < 6 → Int32.ofNat L - nI 6 < nI 0 := by decide +kernel
set_option maxHeartbeats 4000000 in
theorem law_loop {p : Program} {l : Launch} {e : Env} {s : State} {m : MethodId} {below : List Frame} {meth : Method} {c : Code} {b L : Nat} {xs : Nat → Int32} {D : va_G} {q1 q2 : Nat} (C0 : lw_At p s m meth c b L xs) (hAm : Amb_ D s) (hL : L ≤ 3072) : ∀ (f n : Nat) (ls : Array Slot), 6 * n ≤ L → L < 6 * n + 6 * f → lv_has ls 4 [(0, .ref b), (1, .ref q1), (2, .ref q2), (3, .int (nI (6 * n)))] → LG_ p l e s m below meth c b D (lw_Z below #[Value.ref b] s) ls q1 q2 n 18 := by
  intro f
  induction f with
  | zero =>
    intro n ls h1 h2
    omega
  | succ f ih =>
    intro n ls h1 h2 hl α β gX gM H locs cells slots hR hLW hq1 hq2 hce hsl
    obtain ⟨hx, hb, hr, hml, hown, hts, hX, hbl, hlocks, hgv⟩ := id C0
    have hS := hLW.2.2.2.2.2
    refine lv_iload_n hx hb dL_law_18 rfl (lv_at hl 3 rfl) ?_
    refine lv_aload_n hx hb dL_law_19 rfl (lv_at hl 0 rfl) ?_
    refine va_slen hx hb hX hbl (Nat.not_le.mpr hbl) hS dL_law_20 ?_
    refine lv_bipush (v := nI 6) hx hb dL_law_21 (by decide) ?_
    refine lv_isub hx hb dL_law_23 ?_
    refine lv_icmp_gt (tgt := 1326) hx hb dL_law_24 (by decide) (fun hc => ?_) (fun hc => ?_)
    · refine va_forget (fun q hq => hS.2.2 q hq) ?_
      refine W.widen (k := 600000) (n := 7302250) (by omega) (by omega) ?_
      refine lv_iconst (v := 1) hx hb dL_law_1326 (by decide) ?_
      exact lw_ret hx hb hr hlocks dL_law_1327
    · have hn : 6 * n + 6 ≤ L := by
        rcases Nat.lt_or_ge L 6 with h | h
        · have : n = 0 := by omega
          subst this
          exact absurd (lt_small L h) hc
        · rcases Nat.lt_or_ge L (6 * n + 6) with h3 | h3
          · refine absurd ?_ hc
            show nI L - nI 6 < nI (6 * n)
            rw [nI_sub h]
            exact nI_lt (by omega) (by omega)
          · exact h3
      have hN : LG_ p l e s m below meth c b D (lw_Z below #[Value.ref b] s) ls q1 q2 (n + 1) 1320 := by
        intro α β gX gM H locs cells slots hR hLW hq1 hq2 hce hsl
        refine lv_iinc (v := nI (6 * (n + 1))) (lv' := [(3, .int (nI (6 * (n + 1)))), (0, .ref b), (1, .ref q1), (2, .ref q2)]) hx hb dL_law_1320 hl (k := 3) rfl ?_ (by decide) rfl (fun ls2 hl2 => ?_)
        · show nI (6 * n) + nI 6 = nI (6 * (n + 1))
          rw [nI_add]
          rfl
        · refine lv_goto (tgt := 18) hx hb dL_law_1323 (by decide) ?_
          exact ih (n + 1) ls2 (by omega) (by omega) (lv_sub hl2 [1, 2, 3, 0] rfl) α β gX gM H locs cells slots hR hLW hq1 hq2 hce hsl
      refine lv_aload_n hx hb dL_law_27 rfl (lv_at hl 0 rfl) ?_
      refine lv_iload_n hx hb dL_law_28 rfl (lv_at hl 3 rfl) ?_
      refine va_sld hx hb hX hbl (Nat.not_le.mpr hbl) hS (nI_in (by omega) (by omega)) dL_law_29 ?_
      refine lv_bipush (v := 63) hx hb dL_law_30 (by decide) ?_
      refine lv_iand hx hb dL_law_32 ?_
      obtain ⟨j, hj, ej⟩ := pk_andE (xs (nI (6 * n)).toNatClampNeg) (m := 63) 6 (by decide)
      rw [ej]
      clear ej
      rcases Nat.lt_or_ge j 36 with h | h
      · exact law_switch C0 hAm hL hn hl hN j h α β gX gM H locs cells slots hR hLW hq1 hq2 hce hsl
      · refine lv_tableOut (tgt := 1320) hx hb dL_law_33 (Or.inr ?_) (by decide) ?_
        · rw [nI_toInt (by omega)]
          omega
        · exact hN α β gX gM H locs cells slots (Rel_id hR KS_rfl rfl rfl rfl) hLW hq1 hq2 (by omega) (by omega)
theorem rep_Z {D : va_G} {α : Nat → Nat → Nat} {H : Heap} : Rep_ D α gZ H :=
  ⟨fun t i h => absurd h (Nat.not_lt_zero _), fun t i t' i' h => absurd h (Nat.not_lt_zero _), fun f t' i j _ h => absurd h (Nat.not_lt_zero _), fun t t' i j v _ h => absurd h (Nat.not_lt_zero _), fun t C T N i _ h => absurd h (Nat.not_lt_zero _), fun t i _ h => absurd h (Nat.not_lt_zero _), fun t t' i _ h => absurd h (Nat.not_lt_zero _)⟩
theorem i_q : ghs gX0 = 1 ∧ gsl gX0 = 5 ∧ ghs gM0 = 1 ∧ gsl gM0 = 22 := ⟨rfl, rfl, rfl, rfl⟩
set_option maxHeartbeats 4000000 in
/-- THE LAW, from its entry -/
theorem whole_start {p : Program} {e : Env} {s : State} {m : MethodId} {below : List Frame} {meth : Method} {c : Code} (l : Launch) (hflags : l.flags = flags0) {b L : Nat} {xs : Nat → Int32} (hL : L ≤ 3072) (C0 : lw_At p s m meth c b L xs) : W p l e room_1 s m #[Value.ref b] below meth c s.heap [] 0 0 (lw_Z below #[Value.ref b] s) (entryFrame m ([Value.ref b] : List Value).toArray 4) := by
  obtain ⟨hx, hb, hr, hml, hown, hts, hX, hbl, hlocks, hgv⟩ := id C0
  obtain ⟨D, hAm⟩ := amb_start C0
  have hl := lv_entry ([.ref b]) (n := 4) (Nat.le_of_ble_eq_true rfl)
  rw [lg_entry_eq]
  generalize (lg_sl ([.ref b]) ++ List.replicate (4 - (lg_sl ([.ref b])).length) Slot.unset).toArray = ls at hl ⊢
  have hl : lv_has ls 4 [(0, .ref b)] := hl
  obtain ⟨n1, n2, n3, n4⟩ := i_xn
  obtain ⟨q1, q2, q3, q4⟩ := i_q
  have hLW0 : LW_ D s (fun _ _ => 0) (fun _ _ => 0) gZ gZ s.heap [] := ⟨rep_Z, rep_Z, fun t i h => absurd h (Nat.not_lt_zero _), fun t i h => absurd h (Nat.not_lt_zero _), fun t i t' i' h => absurd h (Nat.not_lt_zero _), va_S.rf⟩
  refine lw_new cf_9 clL_7 in_9.1 in_9.2 dL_law_0 C0 hAm hLW0 rfl (by omega) (by omega) (fun α1 H1 a1 hLW1 hQ1 => ?_)
  have hLW1 : LW_ D s α1 (fun _ _ => 0) gX0 gZ H1 [] := hLW1
  have hQ1 : LQ_ α1 gX0 9 a1 := hQ1
  refine lv_dup hx hb dL_law_3 rfl ?_
  have M1 := t9_init 0 gX0
  rw [i_x] at M1
  refine lw_init (g1 := gX1) M1 cw_cX9_init mlL_9 dL_law_4 (by decide) (by decide) C0 hAm hl.1 hLW1 hQ1 (Nat.le_of_ble_eq_true rfl) (by omega) (by omega) (fun α2 H2 locs2 hLW2 hQ2 => ?_)
  refine lv_astore_n (lv' := [(1, .ref a1), (0, .ref b)]) hx hb dL_law_7 rfl hl (by decide) rfl (fun ls hl => ?_)
  refine lw_new cf_10 clL_10 in_10.1 in_10.2 dL_law_8 C0 hAm (LW_swap hLW2) rfl (by omega) (by omega) (fun β1 H3 a2 hLW3 hQ3 => ?_)
  have hLW3 : LW_ D s β1 α2 gM0 gX1 H3 locs2 := hLW3
  have hQ3 : LQ_ β1 gM0 10 a2 := hQ3
  refine lv_dup hx hb dL_law_11 rfl ?_
  have M2 := t10_init 0 gM0
  rw [i_m] at M2
  refine lw_init (g1 := gM1) M2 cw_cX10_init mlL_12 dL_law_12 (by decide) (by decide) C0 hAm hl.1 hLW3 hQ3 (Nat.le_of_ble_eq_true rfl) (by omega) (by omega) (fun β2 H4 locs4 hLW4 hQ4 => ?_)
  refine lv_astore_n (lv' := [(2, .ref a2), (1, .ref a1), (0, .ref b)]) hx hb dL_law_15 rfl hl (by decide) rfl (fun ls hl => ?_)
  refine lv_iconst (v := nI 0) hx hb dL_law_16 (by decide) ?_
  refine lv_istore_n (lv' := [(3, .int (nI 0)), (2, .ref a2), (1, .ref a1), (0, .ref b)]) hx hb dL_law_17 rfl hl (by decide) rfl (fun ls hl => ?_)
  exact law_loop C0 hAm hL (L + 1) 0 ls (Nat.zero_le _) (by omega) (lv_sub hl [3, 2, 1, 0] rfl) α2 β2 gX1 gM1 H4 locs4 _ _ i_Rel (LW_swap hLW4) hQ2 hQ4 (by omega) (by omega)
