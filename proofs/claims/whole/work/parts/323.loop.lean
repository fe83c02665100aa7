/-! ===== the law's loop ===== -/
theorem and63 (x : Int32) : ∃ c, c < 64 ∧ x &&& 63 = nI c := by
  refine ⟨(x &&& 63).toBitVec.toNat, ?_, ?_⟩
  · show (_ &&& 63#32 : BitVec 32).toNat < 64
    rw [BitVec.toNat_and]
    exact Nat.lt_of_le_of_lt Nat.and_le_right (by decide)
  · apply Int32.toBitVec_inj.mp
    show _ = BitVec.ofNat 32 _
    rw [BitVec.ofNat_toNat, BitVec.setWidth_eq]
theorem six_le {L i : Nat} (hL : L ≤ 3072) (hi : i ≤ 4000) (h : ¬ nI L - 6 < nI i) : i + 6 ≤ L := by
  rw [Int32.lt_iff_toInt_lt, Int32.toInt_sub, nI_toInt (by omega), nI_toInt (by omega), show (6 : Int32).toInt = 6 by decide, Int.bmod_eq_of_le (by omega) (by omega)] at h
  omega
theorem six_gt {L i : Nat} (hL : L ≤ 3072) (hi : i ≤ 4000) (h : L < i + 6) : nI L - 6 < nI i := by
  rw [Int32.lt_iff_toInt_lt, Int32.toInt_sub, nI_toInt (by omega), nI_toInt (by omega), show (6 : Int32).toInt = 6 by decide, Int.bmod_eq_of_le (by omega) (by omega)]
  omega
/-- what man's case owes: at most mc cells of ms slots more -/
def yMan (G : zG) (Y : zY) (L mc ms : Nat) : Prop := ∀ (M : zM) (i k n : Nat) (a5 a6 : Option Value) (o : Int64), Rel M → i + 6 ≤ L ∧ L ≤ 3072 → k + mc ≤ 601024 → n + ms ≤ 7293034 → (∀ M2 o2 b5 b6, Rel M2 → ZL G Y (k + mc) (n + ms) 1359 (lvL i b5 b6) [] M2 o2) → ZL G Y k n 352 (lvL i a5 a6) [] M o
theorem law_loop {G : zG} {Y : zY} {L mc ms : Nat} {xs : Nat → Int32} (hY : yC G Y L xs) (hL : L ≤ 3072) (HM : yMan G Y L mc ms) : ∀ (t : Nat) (M : zM) (i k n : Nat) (a5 a6 : Option Value) (o : Int64), Rel M → i ≤ 4000 → L ≤ i + 6 * t + 5 → k + t * mc ≤ 601024 → n + t * ms ≤ 7293034 → ZL G Y k n 23 (lvL i a5 a6) [] M o := by
  intro t
  induction t with
  | zero =>
    intro M i k n a5 a6 o h hi ht hk hn
    refine y_iload hY dL_law_23 rfl _ rfl ?_
    refine y_aload_n hY dL_law_25 rfl _ rfl ?_
    refine y_slen hY dL_law_26 _ rfl ?_
    refine y_bipush hY dL_law_27 (v := 6) (by decide) _ rfl ?_
    refine y_isub hY dL_law_29 _ rfl ?_
    refine y_icmp_gt hY dL_law_30 1365 _ (by decide) rfl (fun _ => ?_) (fun w => ?_)
    · refine y_iconst hY dL_law_1365 (v := 1) (by decide) _ rfl ?_
      exact y_ret1 hY (by omega) (by omega) dL_law_1366
    · exact absurd (six_gt hL hi (by omega)) w
  | succ t ih =>
    intro M i k n a5 a6 o h hi ht hk hn
    rw [Nat.add_mul, Nat.one_mul] at hk hn
    refine y_iload hY dL_law_23 rfl _ rfl ?_
    refine y_aload_n hY dL_law_25 rfl _ rfl ?_
    refine y_slen hY dL_law_26 _ rfl ?_
    refine y_bipush hY dL_law_27 (v := 6) (by decide) _ rfl ?_
    refine y_isub hY dL_law_29 _ rfl ?_
    refine y_icmp_gt hY dL_law_30 1365 _ (by decide) rfl (fun _ => ?_) (fun w => ?_)
    · refine y_iconst hY dL_law_1365 (v := 1) (by decide) _ rfl ?_
      exact y_ret1 hY (by omega) (by omega) dL_law_1366
    have h6 : i + 6 ≤ L ∧ L ≤ 3072 := ⟨six_le hL hi w, hL⟩
    have K : ∀ M2 o2 b5 b6, Rel M2 → ZL G Y (k + mc) (n + ms) 1359 (lvL i b5 b6) [] M2 o2 := fun M2 o2 b5 b6 h2 => by
      refine y_iinc hY dL_law_1359 (x := nI i) (v := nI (i + 6)) rfl (nI_add i 6) (by decide) _ rfl ?_
      refine y_goto hY dL_law_1362 23 (by decide) ?_
      exact ih M2 (i + 6) (k + mc) (n + ms) b5 b6 o2 h2 (by omega) (by omega) (by omega) (by omega)
    refine y_aload_n hY dL_law_33 rfl _ rfl ?_
    refine y_iload hY dL_law_34 rfl _ rfl ?_
    refine y_sld hY dL_law_36 (zok_in (zok_nI (show i < L by omega) (by omega))) _ rfl ?_
    refine y_bipush hY dL_law_37 (v := 63) (by decide) _ rfl ?_
    refine y_iand hY dL_law_39 _ rfl ?_
    obtain ⟨c, hc, ec⟩ := and63 (xs (nI i).toNatClampNeg)
    rw [ec]
    by_cases h34 : 34 ≤ c
    · refine y_tabOut hY dL_law_40 (Or.inr (by rw [nI_toInt (by omega)]; omega)) 1359 (by decide) ?_
      exact y_widen (by omega) (by omega) (K M o a5 a6 h)
    rcases (show c = 0 ∨ c = 1 ∨ c = 2 ∨ c = 3 ∨ c = 4 ∨ c = 5 ∨ c = 6 ∨ c = 7 ∨ c = 8 ∨ c = 9 ∨ c = 10 ∨ c = 11 ∨ c = 12 ∨ c = 13 ∨ c = 14 ∨ c = 15 ∨ c = 16 ∨ c = 17 ∨ c = 18 ∨ c = 19 ∨ c = 20 ∨ c = 21 ∨ c = 22 ∨ c = 23 ∨ c = 24 ∨ c = 25 ∨ c = 26 ∨ c = 27 ∨ c = 28 ∨ c = 29 ∨ c = 30 ∨ c = 31 ∨ c = 32 ∨ c = 33 by omega) with rfl | rfl | rfl | rfl | rfl | rfl | rfl | rfl | rfl | rfl | rfl | rfl | rfl | rfl | rfl | rfl | rfl | rfl | rfl | rfl | rfl | rfl | rfl | rfl | rfl | rfl | rfl | rfl | rfl | rfl | rfl | rfl | rfl | rfl
    · refine y_tabIn hY dL_law_40 (off := 152) (by decide) (by decide) (by decide) 192 (by decide) ?_
      exact y_widen (by omega) (by omega) (cl_feed hY h6 (by omega) (by omega) h (fun M2 h2 => K M2 o a5 a6 h2))
    · refine y_tabIn hY dL_law_40 (off := 225) (by decide) (by decide) (by decide) 265 (by decide) ?_
      exact y_widen (by omega) (by omega) (cl_text hY h6 (by omega) (by omega) h (fun M2 h2 => K M2 o a5 a6 h2))
    · refine y_tabIn hY dL_law_40 (off := 250) (by decide) (by decide) (by decide) 290 (by decide) ?_
      exact y_widen (by omega) (by omega) (cl_fault hY h6 (by omega) (by omega) h (fun M2 h2 => K M2 o a5 a6 h2))
    · refine y_tabIn hY dL_law_40 (off := 275) (by decide) (by decide) (by decide) 315 (by decide) ?_
      exact y_widen (by omega) (by omega) (cl_named hY h6 (by omega) (by omega) h (fun M2 h2 => K M2 o a5 a6 h2))
    · refine y_tabIn hY dL_law_40 (off := 312) (by decide) (by decide) (by decide) 352 (by decide) ?_
      exact HM M i k n a5 a6 o h h6 (by omega) (by omega) K
    · refine y_tabIn hY dL_law_40 (off := 380) (by decide) (by decide) (by decide) 420 (by decide) ?_
      exact y_widen (by omega) (by omega) (cl_thing hY h6 (by omega) (by omega) h (fun M2 h2 => K M2 o a5 a6 h2))
    · refine y_tabIn hY dL_law_40 (off := 417) (by decide) (by decide) (by decide) 457 (by decide) ?_
      exact y_widen (by omega) (by omega) (cl_law hY h6 (by omega) (by omega) h (fun M2 h2 => K M2 o a5 a6 h2))
    · refine y_tabIn hY dL_law_40 (off := 455) (by decide) (by decide) (by decide) 495 (by decide) ?_
      exact y_widen (by omega) (by omega) (cl_pay hY h6 (by omega) (by omega) h (fun M2 h2 => K M2 o a5 a6 h2))
    · refine y_tabIn hY dL_law_40 (off := 492) (by decide) (by decide) (by decide) 532 (by decide) ?_
      exact y_widen (by omega) (by omega) (cl_swap hY h6 (by omega) (by omega) h (fun M2 h2 => K M2 o a5 a6 h2))
    · refine y_tabIn hY dL_law_40 (off := 529) (by decide) (by decide) (by decide) 569 (by decide) ?_
      exact y_widen (by omega) (by omega) (cl_hold hY h6 (by omega) (by omega) h (fun M2 h2 => K M2 o a5 a6 h2))
    · refine y_tabIn hY dL_law_40 (off := 582) (by decide) (by decide) (by decide) 622 (by decide) ?_
      exact y_widen (by omega) (by omega) (cl_wet hY h6 (by omega) (by omega) h (fun M2 h2 => K M2 o a5 a6 h2))
    · refine y_tabIn hY dL_law_40 (off := 619) (by decide) (by decide) (by decide) 659 (by decide) ?_
      exact y_widen (by omega) (by omega) (cl_go hY h6 (by omega) (by omega) h (fun M2 h2 => K M2 o a5 a6 h2))
    · refine y_tabIn hY dL_law_40 (off := 644) (by decide) (by decide) (by decide) 684 (by decide) ?_
      exact y_widen (by omega) (by omega) (cl_ahead hY h6 (by omega) (by omega) h (fun M2 h2 => K M2 o a5 a6 h2))
    · refine y_tabIn hY dL_law_40 (off := 681) (by decide) (by decide) (by decide) 721 (by decide) ?_
      exact y_widen (by omega) (by omega) (cl_goes hY h6 (by omega) (by omega) h (fun M2 h2 => K M2 o a5 a6 h2))
    · refine y_tabIn hY dL_law_40 (off := 706) (by decide) (by decide) (by decide) 746 (by decide) ?_
      exact y_widen (by omega) (by omega) (cl_out hY h6 (by omega) (by omega) h (fun M2 h2 => K M2 o a5 a6 h2))
    · refine y_tabIn hY dL_law_40 (off := 731) (by decide) (by decide) (by decide) 771 (by decide) ?_
      exact y_widen (by omega) (by omega) (cl_premium hY h6 (by omega) (by omega) h (fun M2 h2 => K M2 o a5 a6 h2))
    · refine y_tabIn hY dL_law_40 (off := 756) (by decide) (by decide) (by decide) 796 (by decide) ?_
      exact y_widen (by omega) (by omega) (cl_cover hY h6 (by omega) (by omega) h (fun M2 h2 => K M2 o a5 a6 h2))
    · refine y_tabIn hY dL_law_40 (off := 781) (by decide) (by decide) (by decide) 821 (by decide) ?_
      exact y_widen (by omega) (by omega) (cl_match hY h6 (by omega) (by omega) h (fun M2 h2 => K M2 o a5 a6 h2))
    · refine y_tabIn hY dL_law_40 (off := 806) (by decide) (by decide) (by decide) 846 (by decide) ?_
      exact y_widen (by omega) (by omega) (cl_order hY h6 (by omega) (by omega) h (fun M2 h2 => K M2 o a5 a6 h2))
    · refine y_tabIn hY dL_law_40 (off := 831) (by decide) (by decide) (by decide) 871 (by decide) ?_
      exact y_widen (by omega) (by omega) (cl_rests hY h6 (by omega) (by omega) h (fun M2 h2 => K M2 o a5 a6 h2))
    · refine y_tabIn hY dL_law_40 (off := 868) (by decide) (by decide) (by decide) 908 (by decide) ?_
      exact y_widen (by omega) (by omega) (cl_rest hY h6 (by omega) (by omega) h (fun M2 h2 => K M2 o a5 a6 h2))
    · refine y_tabIn hY dL_law_40 (off := 917) (by decide) (by decide) (by decide) 957 (by decide) ?_
      exact y_widen (by omega) (by omega) (cl_comesBack hY h6 (by omega) (by omega) h (fun M2 h2 => K M2 o a5 a6 h2))
    · refine y_tabIn hY dL_law_40 (off := 955) (by decide) (by decide) (by decide) 995 (by decide) ?_
      exact y_widen (by omega) (by omega) (cl_widow hY h6 (by omega) (by omega) h (fun M2 h2 => K M2 o a5 a6 h2))
    · refine y_tabIn hY dL_law_40 (off := 992) (by decide) (by decide) (by decide) 1032 (by decide) ?_
      exact y_widen (by omega) (by omega) (cl_next hY h6 (by omega) (by omega) h (fun M2 h2 => K M2 o a5 a6 h2))
    · refine y_tabIn hY dL_law_40 (off := 1017) (by decide) (by decide) (by decide) 1057 (by decide) ?_
      exact y_widen (by omega) (by omega) (cl_see hY h6 (by omega) (by omega) h (fun M2 h2 => K M2 o a5 a6 h2))
    · refine y_tabIn hY dL_law_40 (off := 1082) (by decide) (by decide) (by decide) 1122 (by decide) ?_
      exact y_widen (by omega) (by omega) (cl_strike hY h6 (by omega) (by omega) h (fun M2 h2 => K M2 o a5 a6 h2))
    · refine y_tabIn hY dL_law_40 (off := 1107) (by decide) (by decide) (by decide) 1147 (by decide) ?_
      exact y_widen (by omega) (by omega) (cl_known hY h6 (by omega) (by omega) h (fun M2 h2 => K M2 o a5 a6 h2))
    · refine y_tabIn hY dL_law_40 (off := 1132) (by decide) (by decide) (by decide) 1172 (by decide) ?_
      exact y_widen (by omega) (by omega) (cl_rues hY h6 (by omega) (by omega) h (fun M2 h2 => K M2 o a5 a6 h2))
    · refine y_tabIn hY dL_law_40 (off := 1157) (by decide) (by decide) (by decide) 1197 (by decide) ?_
      exact y_widen (by omega) (by omega) (cl_chance hY h6 (by omega) (by omega) h (fun M2 h2 => K M2 o a5 a6 h2))
    · refine y_tabIn hY dL_law_40 (off := 1206) (by decide) (by decide) (by decide) 1246 (by decide) ?_
      exact y_widen (by omega) (by omega) (cl_tried hY h6 (by omega) (by omega) h (fun M2 h2 => K M2 o a5 a6 h2))
    · refine y_tabIn hY dL_law_40 (off := 1255) (by decide) (by decide) (by decide) 1295 (by decide) ?_
      exact y_widen (by omega) (by omega) (cl_undo hY h6 (by omega) (by omega) h (fun M2 h2 => K M2 o a5 a6 h2))
    · refine y_tabIn hY dL_law_40 (off := 1268) (by decide) (by decide) (by decide) 1308 (by decide) ?_
      exact y_widen (by omega) (by omega) (cl_keep hY h6 (by omega) (by omega) h (fun M2 h2 => K M2 o a5 a6 h2))
    · refine y_tabIn hY dL_law_40 (off := 1281) (by decide) (by decide) (by decide) 1321 (by decide) ?_
      exact y_widen (by omega) (by omega) (cl_back hY h6 (by omega) (by omega) h (fun M2 h2 => K M2 o a5 a6 h2))
    · refine y_tabIn hY dL_law_40 (off := 1294) (by decide) (by decide) (by decide) 1334 (by decide) ?_
      exact y_widen (by omega) (by omega) (cl_count hY h6 (by omega) (by omega) h (fun M2 h2 => K M2 o a5 a6 h2))
