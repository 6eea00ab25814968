/-! THE LAW: its loop -/
section LLoop
variable {p : Program} {l : Launch} {e : Env} {s : State} {m : MethodId} {below : List Frame} {meth : Method} {c : Code} {D : va_G} {tc : Nat → ClassId} {u : Nat}
theorem and63 (x : Int32) : ∃ k : Nat, k < 64 ∧ x &&& 63 = nI k := by
  have h : (x &&& 63).toBitVec.toNat < 64 := by
    rw [Int32.toBitVec_and, BitVec.toNat_and]
    exact Nat.lt_of_le_of_lt Nat.and_le_right (by decide)
  refine ⟨(x &&& 63).toBitVec.toNat, h, ?_⟩
  rw [← Int32.toBitVec_inj, ← BitVec.toNat_inj]
  show _ = (BitVec.ofNat 32 (x &&& 63).toBitVec.toNat).toNat
  rw [BitVec.toNat_ofNat]
  omega
theorem lsub7 {L : Nat} (h : L ≤ 3584) : (nI L - nI 7).toInt = (L : Int) - 7 := by
  rw [Int32.toInt_sub, nI_toInt (by omega), nI_toInt (by decide), Int.bmod_eq_of_le] <;> omega
theorem lgt7 {i L : Nat} (h : L ≤ 3584) (hi : i ≤ 3591) : nI L - nI 7 < nI i ↔ L < i + 7 := by
  rw [Int32.lt_iff_toInt_lt, lsub7 h, nI_toInt (by omega)]
  omega
theorem dlw_18 : decode code 18 = .ok (.iload_n 3, 1) := by decide +kernel
theorem dlw_19 : decode code 19 = .ok (.aload_n 0, 1) := by decide +kernel
theorem dlw_20 : decode code 20 = .ok (.arraylength, 1) := by decide +kernel
theorem dlw_21 : decode code 21 = .ok (.bipush 7, 2) := by decide +kernel
theorem dlw_23 : decode code 23 = .ok (.isub, 1) := by decide +kernel
theorem dlw_24 : decode code 24 = .ok (.if_icmp .gt 1688, 3) := by decide +kernel
theorem dlw_27 : decode code 27 = .ok (.aload_n 0, 1) := by decide +kernel
theorem dlw_28 : decode code 28 = .ok (.iload_n 3, 1) := by decide +kernel
theorem dlw_29 : decode code 29 = .ok (.iaload, 1) := by decide +kernel
theorem dlw_30 : decode code 30 = .ok (.bipush 63, 2) := by decide +kernel
theorem dlw_32 : decode code 32 = .ok (.iand, 1) := by decide +kernel
theorem dlw_33 : decode code 33 = .ok (.tableswitch 1673 0 35 #[159, 213, 237, 261, 305, 355, 379, 423, 483, 527, 571, 615, 689, 753, 787, 831, 855, 889, 923, 973, 1007, 1083, 1117, 1141, 1195, 1271, 1305, 1349, 1383, 1397, 1431, 1491, 1567, 1581, 1625, 1649], 159) := by decide +kernel
theorem dlw_1706 : decode code 1706 = .ok (.iinc 3 7, 3) := by decide +kernel
theorem dlw_1709 : decode code 1709 = .ok (.goto (-1691), 3) := by decide +kernel
theorem dlw_1712 : decode code 1712 = .ok (.iconst 1, 1) := by decide +kernel
theorem dlw_1713 : decode code 1713 = .ok (.ireturn, 1) := by decide +kernel
/-- the switch -/
theorem law_sw {Z : State → Prop} {b L : Nat} {xs : Nat → Int32} (hC : LC p s m meth c b L xs D tc u) (hL : L ≤ 3584) {i ks : Nat} {S T : eg_S} (hi : i + 6 < L) (hks : ks ≤ room_1.slots) (R : Rel S T) (kk : ∀ S' T', Rel S' T' → LW Z p l e s m below meth c D tc u b 122 ks i 1706 [] S' T') (k : Nat) : LW Z p l e s m below meth c D tc u b 122 ks i 33 [.int (nI k)] S T ∨ 64 ≤ k := by
  have hx := hC.1.1
  have hb := hC.1.2.1
  match k with
  | 0 => exact Or.inl (fun d0 H locs ls g1 g2 g3 g4 g5 => lv_tableIn (off := 159) (tgt := 192) hx hb dlw_33 (by decide) (by decide) (by decide +kernel) (by decide) (cs_0 hC hL hi hks R kk d0 H locs ls g1 g2 g3 g4 g5))
  | 1 => exact Or.inl (fun d0 H locs ls g1 g2 g3 g4 g5 => lv_tableIn (off := 213) (tgt := 246) hx hb dlw_33 (by decide) (by decide) (by decide +kernel) (by decide) (cs_1 hC hL hi hks R kk d0 H locs ls g1 g2 g3 g4 g5))
  | 2 => exact Or.inl (fun d0 H locs ls g1 g2 g3 g4 g5 => lv_tableIn (off := 237) (tgt := 270) hx hb dlw_33 (by decide) (by decide) (by decide +kernel) (by decide) (cs_2 hC hL hi hks R kk d0 H locs ls g1 g2 g3 g4 g5))
  | 3 => exact Or.inl (fun d0 H locs ls g1 g2 g3 g4 g5 => lv_tableIn (off := 261) (tgt := 294) hx hb dlw_33 (by decide) (by decide) (by decide +kernel) (by decide) (cs_3 hC hL hi hks R kk d0 H locs ls g1 g2 g3 g4 g5))
  | 4 => exact Or.inl (fun d0 H locs ls g1 g2 g3 g4 g5 => lv_tableIn (off := 305) (tgt := 338) hx hb dlw_33 (by decide) (by decide) (by decide +kernel) (by decide) (cs_4 hC hL hi hks R kk d0 H locs ls g1 g2 g3 g4 g5))
  | 5 => exact Or.inl (fun d0 H locs ls g1 g2 g3 g4 g5 => lv_tableIn (off := 355) (tgt := 388) hx hb dlw_33 (by decide) (by decide) (by decide +kernel) (by decide) (cs_5 hC hL hi hks R kk d0 H locs ls g1 g2 g3 g4 g5))
  | 6 => exact Or.inl (fun d0 H locs ls g1 g2 g3 g4 g5 => lv_tableIn (off := 379) (tgt := 412) hx hb dlw_33 (by decide) (by decide) (by decide +kernel) (by decide) (cs_6 hC hL hi hks R kk d0 H locs ls g1 g2 g3 g4 g5))
  | 7 => exact Or.inl (fun d0 H locs ls g1 g2 g3 g4 g5 => lv_tableIn (off := 423) (tgt := 456) hx hb dlw_33 (by decide) (by decide) (by decide +kernel) (by decide) (cs_7 hC hL hi hks R kk d0 H locs ls g1 g2 g3 g4 g5))
  | 8 => exact Or.inl (fun d0 H locs ls g1 g2 g3 g4 g5 => lv_tableIn (off := 483) (tgt := 516) hx hb dlw_33 (by decide) (by decide) (by decide +kernel) (by decide) (cs_8 hC hL hi hks R kk d0 H locs ls g1 g2 g3 g4 g5))
  | 9 => exact Or.inl (fun d0 H locs ls g1 g2 g3 g4 g5 => lv_tableIn (off := 527) (tgt := 560) hx hb dlw_33 (by decide) (by decide) (by decide +kernel) (by decide) (cs_9 hC hL hi hks R kk d0 H locs ls g1 g2 g3 g4 g5))
  | 10 => exact Or.inl (fun d0 H locs ls g1 g2 g3 g4 g5 => lv_tableIn (off := 571) (tgt := 604) hx hb dlw_33 (by decide) (by decide) (by decide +kernel) (by decide) (cs_10 hC hL hi hks R kk d0 H locs ls g1 g2 g3 g4 g5))
  | 11 => exact Or.inl (fun d0 H locs ls g1 g2 g3 g4 g5 => lv_tableIn (off := 615) (tgt := 648) hx hb dlw_33 (by decide) (by decide) (by decide +kernel) (by decide) (cs_11 hC hL hi hks R kk d0 H locs ls g1 g2 g3 g4 g5))
  | 12 => exact Or.inl (fun d0 H locs ls g1 g2 g3 g4 g5 => lv_tableIn (off := 689) (tgt := 722) hx hb dlw_33 (by decide) (by decide) (by decide +kernel) (by decide) (cs_12 hC hL hi hks R kk d0 H locs ls g1 g2 g3 g4 g5))
  | 13 => exact Or.inl (fun d0 H locs ls g1 g2 g3 g4 g5 => lv_tableIn (off := 753) (tgt := 786) hx hb dlw_33 (by decide) (by decide) (by decide +kernel) (by decide) (cs_13 hC hL hi hks R kk d0 H locs ls g1 g2 g3 g4 g5))
  | 14 => exact Or.inl (fun d0 H locs ls g1 g2 g3 g4 g5 => lv_tableIn (off := 787) (tgt := 820) hx hb dlw_33 (by decide) (by decide) (by decide +kernel) (by decide) (cs_14 hC hL hi hks R kk d0 H locs ls g1 g2 g3 g4 g5))
  | 15 => exact Or.inl (fun d0 H locs ls g1 g2 g3 g4 g5 => lv_tableIn (off := 831) (tgt := 864) hx hb dlw_33 (by decide) (by decide) (by decide +kernel) (by decide) (cs_15 hC hL hi hks R kk d0 H locs ls g1 g2 g3 g4 g5))
  | 16 => exact Or.inl (fun d0 H locs ls g1 g2 g3 g4 g5 => lv_tableIn (off := 855) (tgt := 888) hx hb dlw_33 (by decide) (by decide) (by decide +kernel) (by decide) (cs_16 hC hL hi hks R kk d0 H locs ls g1 g2 g3 g4 g5))
  | 17 => exact Or.inl (fun d0 H locs ls g1 g2 g3 g4 g5 => lv_tableIn (off := 889) (tgt := 922) hx hb dlw_33 (by decide) (by decide) (by decide +kernel) (by decide) (cs_17 hC hL hi hks R kk d0 H locs ls g1 g2 g3 g4 g5))
  | 18 => exact Or.inl (fun d0 H locs ls g1 g2 g3 g4 g5 => lv_tableIn (off := 923) (tgt := 956) hx hb dlw_33 (by decide) (by decide) (by decide +kernel) (by decide) (cs_18 hC hL hi hks R kk d0 H locs ls g1 g2 g3 g4 g5))
  | 19 => exact Or.inl (fun d0 H locs ls g1 g2 g3 g4 g5 => lv_tableIn (off := 973) (tgt := 1006) hx hb dlw_33 (by decide) (by decide) (by decide +kernel) (by decide) (cs_19 hC hL hi hks R kk d0 H locs ls g1 g2 g3 g4 g5))
  | 20 => exact Or.inl (fun d0 H locs ls g1 g2 g3 g4 g5 => lv_tableIn (off := 1007) (tgt := 1040) hx hb dlw_33 (by decide) (by decide) (by decide +kernel) (by decide) (cs_20 hC hL hi hks R kk d0 H locs ls g1 g2 g3 g4 g5))
  | 21 => exact Or.inl (fun d0 H locs ls g1 g2 g3 g4 g5 => lv_tableIn (off := 1083) (tgt := 1116) hx hb dlw_33 (by decide) (by decide) (by decide +kernel) (by decide) (cs_21 hC hL hi hks R kk d0 H locs ls g1 g2 g3 g4 g5))
  | 22 => exact Or.inl (fun d0 H locs ls g1 g2 g3 g4 g5 => lv_tableIn (off := 1117) (tgt := 1150) hx hb dlw_33 (by decide) (by decide) (by decide +kernel) (by decide) (cs_22 hC hL hi hks R kk d0 H locs ls g1 g2 g3 g4 g5))
  | 23 => exact Or.inl (fun d0 H locs ls g1 g2 g3 g4 g5 => lv_tableIn (off := 1141) (tgt := 1174) hx hb dlw_33 (by decide) (by decide) (by decide +kernel) (by decide) (cs_23 hC hL hi hks R kk d0 H locs ls g1 g2 g3 g4 g5))
  | 24 => exact Or.inl (fun d0 H locs ls g1 g2 g3 g4 g5 => lv_tableIn (off := 1195) (tgt := 1228) hx hb dlw_33 (by decide) (by decide) (by decide +kernel) (by decide) (cs_24 hC hL hi hks R kk d0 H locs ls g1 g2 g3 g4 g5))
  | 25 => exact Or.inl (fun d0 H locs ls g1 g2 g3 g4 g5 => lv_tableIn (off := 1271) (tgt := 1304) hx hb dlw_33 (by decide) (by decide) (by decide +kernel) (by decide) (cs_25 hC hL hi hks R kk d0 H locs ls g1 g2 g3 g4 g5))
  | 26 => exact Or.inl (fun d0 H locs ls g1 g2 g3 g4 g5 => lv_tableIn (off := 1305) (tgt := 1338) hx hb dlw_33 (by decide) (by decide) (by decide +kernel) (by decide) (cs_26 hC hL hi hks R kk d0 H locs ls g1 g2 g3 g4 g5))
  | 27 => exact Or.inl (fun d0 H locs ls g1 g2 g3 g4 g5 => lv_tableIn (off := 1349) (tgt := 1382) hx hb dlw_33 (by decide) (by decide) (by decide +kernel) (by decide) (cs_27 hC hL hi hks R kk d0 H locs ls g1 g2 g3 g4 g5))
  | 28 => exact Or.inl (fun d0 H locs ls g1 g2 g3 g4 g5 => lv_tableIn (off := 1383) (tgt := 1416) hx hb dlw_33 (by decide) (by decide) (by decide +kernel) (by decide) (cs_28 hC hL hi hks R kk d0 H locs ls g1 g2 g3 g4 g5))
  | 29 => exact Or.inl (fun d0 H locs ls g1 g2 g3 g4 g5 => lv_tableIn (off := 1397) (tgt := 1430) hx hb dlw_33 (by decide) (by decide) (by decide +kernel) (by decide) (cs_29 hC hL hi hks R kk d0 H locs ls g1 g2 g3 g4 g5))
  | 30 => exact Or.inl (fun d0 H locs ls g1 g2 g3 g4 g5 => lv_tableIn (off := 1431) (tgt := 1464) hx hb dlw_33 (by decide) (by decide) (by decide +kernel) (by decide) (cs_30 hC hL hi hks R kk d0 H locs ls g1 g2 g3 g4 g5))
  | 31 => exact Or.inl (fun d0 H locs ls g1 g2 g3 g4 g5 => lv_tableIn (off := 1491) (tgt := 1524) hx hb dlw_33 (by decide) (by decide) (by decide +kernel) (by decide) (cs_31 hC hL hi hks R kk d0 H locs ls g1 g2 g3 g4 g5))
  | 32 => exact Or.inl (fun d0 H locs ls g1 g2 g3 g4 g5 => lv_tableIn (off := 1567) (tgt := 1600) hx hb dlw_33 (by decide) (by decide) (by decide +kernel) (by decide) (cs_32 hC hL hi hks R kk d0 H locs ls g1 g2 g3 g4 g5))
  | 33 => exact Or.inl (fun d0 H locs ls g1 g2 g3 g4 g5 => lv_tableIn (off := 1581) (tgt := 1614) hx hb dlw_33 (by decide) (by decide) (by decide +kernel) (by decide) (cs_33 hC hL hi hks R kk d0 H locs ls g1 g2 g3 g4 g5))
  | 34 => exact Or.inl (fun d0 H locs ls g1 g2 g3 g4 g5 => lv_tableIn (off := 1625) (tgt := 1658) hx hb dlw_33 (by decide) (by decide) (by decide +kernel) (by decide) (cs_34 hC hL hi hks R kk d0 H locs ls g1 g2 g3 g4 g5))
  | 35 => exact Or.inl (fun d0 H locs ls g1 g2 g3 g4 g5 => lv_tableIn (off := 1649) (tgt := 1682) hx hb dlw_33 (by decide) (by decide) (by decide +kernel) (by decide) (cs_35 hC hL hi hks R kk d0 H locs ls g1 g2 g3 g4 g5))
  | k + 36 =>
    by_cases h : k + 36 < 64
    · exact Or.inl (fun d0 H locs ls g1 g2 g3 g4 g5 => lv_tableOut (tgt := 1706) hx hb dlw_33 (Or.inr (by rw [nI_toInt (by omega)]; omega)) (by decide) (kk S T R d0 H locs ls g1 g2 g3 g4 g5))
    · exact Or.inr (by omega)
set_option maxHeartbeats 1000000 in
theorem law_loop {b L : Nat} {xs : Nat → Int32} (hC : LC p s m meth c b L xs D tc u) (hL : L ≤ 3584) {ks : Nat} (hks : ks ≤ room_1.slots) : ∀ (n i : Nat) (S T : eg_S), i ≤ L + 7 → L + 7 < i + n → Rel S T → LW (lw_Z below #[Value.ref b] s) p l e s m below meth c D tc u b 122 ks i 18 [] S T := by
  intro n
  induction n with
  | zero => intro i S T h1 h2; omega
  | succ n ih =>
    intro i S T hi hn R d0 H locs ls g1 g2 g3 g4 g5
    obtain ⟨⟨hx, hb, hr, hml, hown, hts, hXs, hbl, hlocks, hgv⟩, hK0, hX, hNst⟩ := id hC
    have hX1 : va_X b L xs (s.setDrawn d0) s.heap := hXs
    refine lv_iload_n hx hb dlw_18 rfl (lv_at g5 0 rfl) ?_
    refine lv_aload_n hx hb dlw_19 rfl (lv_at g5 3 rfl) ?_
    refine va_slen hx hb hX1 hbl (Nat.not_le.mpr hbl) g4 dlw_20 ?_
    refine lv_bipush (v := nI 7) hx hb dlw_21 (by decide) ?_
    refine lv_isub hx hb dlw_23 ?_
    refine lv_icmp_gt (tgt := 1712) hx hb dlw_24 (by decide) (fun z => ?_) (fun z => ?_)
    · refine lv_iconst (v := 1) hx hb dlw_1712 (by decide) ?_
      refine va_forget (fun q hq => g4.2.2 q hq) ?_
      refine W.widen (k := 600000) (n := 7302250) (Nat.le_of_ble_eq_true rfl) hks ?_
      exact lw_ret g1 hx hb hr hlocks dlw_1713
    · have hi6 : i + 6 < L := by
        have h7 : ¬ L < i + 7 := fun q => z ((lgt7 hL (by omega)).mpr q)
        omega
      refine lv_aload_n hx hb dlw_27 rfl (lv_at g5 3 rfl) ?_
      refine lv_iload_n hx hb dlw_28 rfl (lv_at g5 0 rfl) ?_
      refine va_sld hx hb hX1 hbl (Nat.not_le.mpr hbl) g4 (i := nI i) (vp_in_nI (by omega) (by omega)) dlw_29 ?_
      rw [nI_clamp (by omega)]
      refine lv_bipush (v := 63) hx hb dlw_30 (by decide) ?_
      refine lv_iand hx hb dlw_32 ?_
      obtain ⟨k, hk, ek⟩ := and63 (xs i)
      rw [ek]
      have kk : ∀ S' T', Rel S' T' → LW (lw_Z below #[Value.ref b] s) p l e s m below meth c D tc u b 122 ks i 1706 [] S' T' := by
        intro S' T' R' d0 H locs ls g1 g2 g3 g4 g5
        refine lv_iinc (v := nI (i + 7)) (lv' := lvL s b (i + 7)) hx hb dlw_1706 g5 (k := 0) rfl (by rw [show Int32.ofInt 7 = nI 7 by decide]; exact nI_add i 7) (by decide) rfl (fun ls hl => ?_)
        refine lv_goto (tgt := 18) hx hb dlw_1709 (by decide) ?_
        exact ih (i + 7) S' T' (by omega) (by omega) R' d0 H locs ls g1 g2 g3 g4 hl
      rcases law_sw hC hL hi6 hks R kk k with h | h
      · exact h d0 H locs ls g1 g2 g3 g4 g5
      · omega
end LLoop
