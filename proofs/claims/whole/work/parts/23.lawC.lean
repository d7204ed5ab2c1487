def wc_471 (L : Nat) (xs : Nat → Int32) (J : Int32 → (Nat → Int32) → (Nat → Nat) → (Nat → Int32) → (Nat → Nat → Int32) → Int32 → (Nat → Nat) → (Nat → Int32) → (Nat → Nat → Int32) → (Nat → Nat) → (Nat → Int32) → (Nat → Nat → Int32) → (Nat → Nat) → (Nat → Int32) → (Nat → Nat → Int32) → (Nat → Int32) → (Nat → Int32) → Int32 → (Nat → Int32) → Int64 → Prop) (x3 : Int32) (a_errors : Nat → Int32) (a0 : Nat → Nat) (n0 : Nat → Int32) (r0 : Nat → Nat → Int32) (n_saved : Int32) (a1 : Nat → Nat) (n1 : Nat → Int32) (r1 : Nat → Nat → Int32) (a2 : Nat → Nat) (n2 : Nat → Int32) (r2 : Nat → Nat → Int32) (a3 : Nat → Nat) (n3 : Nat → Int32) (r3 : Nat → Nat → Int32) (a_now_m : Nat → Int32) (a_past_m : Nat → Int32) (n_saved_m : Int32) (a_errors_m : Nat → Int32) (n_hash_m : Int64) : Prop := (vp_in (x3 + 1) L ∧ (vp_in (x3 + 2) L ∧ (vp_in (x3 + 3) L ∧ (wp_X8_solve a_errors (xs (Int32.toNatClampNeg (x3 + 1))) (xs (Int32.toNatClampNeg (x3 + 2))) (xs (Int32.toNatClampNeg (x3 + 3))) (fun (v1 : Int32) (g2 : Nat → Int32) => (vp_in (x3 + 1) L ∧ (vp_in (x3 + 2) L ∧ (vp_in (x3 + 3) L ∧ (wp_X9_solve a_now_m a_past_m n_saved_m a_errors_m n_hash_m (xs (Int32.toNatClampNeg (x3 + 1))) (xs (Int32.toNatClampNeg (x3 + 2))) (xs (Int32.toNatClampNeg (x3 + 3))) (fun (v3 : Int32) (g4 : Nat → Int32) => ((v1 = v3 → J (x3 + 5) g2 a0 n0 r0 n_saved a1 n1 r1 a2 n2 r2 a3 n3 r3 a_now_m a_past_m n_saved_m g4 n_hash_m) ∧ (¬ (v1 = v3) → False))))))))))))
set_option maxRecDepth 100000 in
set_option maxHeartbeats 4000000 in
theorem bc_471 {p : Program} {l : Launch} {e : Env} {s : State} {m : MethodId} {below : List Frame} {meth : Method} {c : Code} {E : EN} {A : Nat → Prop} {b L : Nat} {xs : Nat → Int32} (hC : Cx p s m #[.ref b] meth c E A cL_law 4 "CookieServerLaw") (hr : meth.sig.returnType = ret) (hX : va_X b L xs s s.heap ∧ b < s.heap.size ∧ ¬ A b) (hA9 : ∀ q, A q → s.heap.size ≤ q) (h0 : Nat) (hh : Nat) (he : Nat) (ha : Nat) (m0 : Nat) (m1 : Nat) (m2 : Nat) (m3 : Nat) (J : Int32 → (Nat → Int32) → (Nat → Nat) → (Nat → Int32) → (Nat → Nat → Int32) → Int32 → (Nat → Nat) → (Nat → Int32) → (Nat → Nat → Int32) → (Nat → Nat) → (Nat → Int32) → (Nat → Nat → Int32) → (Nat → Nat) → (Nat → Int32) → (Nat → Nat → Int32) → (Nat → Int32) → (Nat → Int32) → Int32 → (Nat → Int32) → Int64 → Prop) (hJ : ∀ (x3 : Int32) (a_errors : Nat → Int32) (a0 : Nat → Nat) (n0 : Nat → Int32) (r0 : Nat → Nat → Int32) (n_saved : Int32) (a1 : Nat → Nat) (n1 : Nat → Int32) (r1 : Nat → Nat → Int32) (a2 : Nat → Nat) (n2 : Nat → Int32) (r2 : Nat → Nat → Int32) (a3 : Nat → Nat) (n3 : Nat → Int32) (r3 : Nat → Nat → Int32) (a_now_m : Nat → Int32) (a_past_m : Nat → Int32) (n_saved_m : Int32) (a_errors_m : Nat → Int32) (n_hash_m : Int64), J x3 a_errors a0 n0 r0 n_saved a1 n1 r1 a2 n2 r2 a3 n3 r3 a_now_m a_past_m n_saved_m a_errors_m n_hash_m → V p l e room_1 s m #[.ref b] below meth c E A 4 76 3239 (lw_Z below #[.ref b] s) 18 [(0, .ref b), (1, .ref h0), (2, .ref m0), (3, .int x3)] [] (LW E h0 hh he ha m0 m1 m2 m3 a_errors a0 n0 r0 n_saved a1 n1 r1 a2 n2 r2 a3 n3 r3 a_now_m a_past_m n_saved_m a_errors_m n_hash_m)) (x3 : Int32) (a_errors : Nat → Int32) (a0 : Nat → Nat) (n0 : Nat → Int32) (r0 : Nat → Nat → Int32) (n_saved : Int32) (a1 : Nat → Nat) (n1 : Nat → Int32) (r1 : Nat → Nat → Int32) (a2 : Nat → Nat) (n2 : Nat → Int32) (r2 : Nat → Nat → Int32) (a3 : Nat → Nat) (n3 : Nat → Int32) (r3 : Nat → Nat → Int32) (a_now_m : Nat → Int32) (a_past_m : Nat → Int32) (n_saved_m : Int32) (a_errors_m : Nat → Int32) (n_hash_m : Int64) (hw : wc_471 L xs J x3 a_errors a0 n0 r0 n_saved a1 n1 r1 a2 n2 r2 a3 n3 r3 a_now_m a_past_m n_saved_m a_errors_m n_hash_m) : V p l e room_1 s m #[.ref b] below meth c E A 4 76 3239 (lw_Z below #[.ref b] s) 471 [(0, .ref b), (1, .ref h0), (2, .ref m0), (3, .int x3)] [] (LW E h0 hh he ha m0 m1 m2 m3 a_errors a0 n0 r0 n_saved a1 n1 r1 a2 n2 r2 a3 n3 r3 a_now_m a_past_m n_saved_m a_errors_m n_hash_m) := by
  rw [wc_471] at hw
  refine V_aload_n hC 1 rfl rfl dL_law_471 ?_
  refine V_aload_n hC 0 rfl rfl dL_law_472 ?_
  refine V_iload_n hC 3 rfl rfl dL_law_473 ?_
  refine V_iconst hC 1 dL_law_474 (by decide) ?_
  refine V_iadd hC dL_law_475 ?_
  refine V_sld hC hX hw.1 dL_law_476 ?_
  have hw := hw.2
  refine V_aload_n hC 0 rfl rfl dL_law_477 ?_
  refine V_iload_n hC 3 rfl rfl dL_law_478 ?_
  refine V_iconst hC 2 dL_law_479 (by decide) ?_
  refine V_iadd hC dL_law_480 ?_
  refine V_sld hC hX hw.1 dL_law_481 ?_
  have hw := hw.2
  refine V_aload_n hC 0 rfl rfl dL_law_482 ?_
  refine V_iload_n hC 3 rfl rfl dL_law_483 ?_
  refine V_iconst hC 3 dL_law_484 (by decide) ?_
  refine V_iadd hC dL_law_485 ?_
  refine V_sld hC hX hw.1 dL_law_486 ?_
  have hw := hw.2
  refine V_callP hC ((LW E h0 hh he ha m0 m1 m2 m3 a_errors a0 n0 r0 n_saved a1 n1 r1 a2 n2 r2 a3 n3 r3 a_now_m a_past_m n_saved_m a_errors_m n_hash_m).drop 2) 3 [.int (xs (Int32.toNatClampNeg (x3 + 1))), .int (xs (Int32.toNatClampNeg (x3 + 2))), .int (xs (Int32.toNatClampNeg (x3 + 3)))] [] (ct_X8_solve l E h0 (a0 0) hh he a_errors (xs (Int32.toNatClampNeg (x3 + 1))) (xs (Int32.toNatClampNeg (x3 + 2))) (xs (Int32.toNatClampNeg (x3 + 3))) _ hw) wd_488 wd_32 wd_485 wd_486 wd_487 (by decide +kernel) rfl ⟨Nat.le_of_ble_eq_true rfl, Nat.le_of_ble_eq_true rfl⟩ rfl rfl rfl rfl (Nat.le_of_ble_eq_true rfl) ⟨Nat.le_of_ble_eq_true rfl, Nat.le_of_ble_eq_true rfl⟩ dL_law_487 (fun v ws' hp => ?_)
  obtain ⟨v1, g2, rfl, rfl, hw⟩ := hp
  refine V_wst [.int v1] (LW E h0 hh he ha m0 m1 m2 m3 g2 a0 n0 r0 n_saved a1 n1 r1 a2 n2 r2 a3 n3 r3 a_now_m a_past_m n_saved_m a_errors_m n_hash_m) rfl rfl ?_
  refine V_aload_n hC 2 rfl rfl dL_law_490 ?_
  refine V_aload_n hC 0 rfl rfl dL_law_491 ?_
  refine V_iload_n hC 3 rfl rfl dL_law_492 ?_
  refine V_iconst hC 1 dL_law_493 (by decide) ?_
  refine V_iadd hC dL_law_494 ?_
  refine V_sld hC hX hw.1 dL_law_495 ?_
  have hw := hw.2
  refine V_aload_n hC 0 rfl rfl dL_law_496 ?_
  refine V_iload_n hC 3 rfl rfl dL_law_497 ?_
  refine V_iconst hC 2 dL_law_498 (by decide) ?_
  refine V_iadd hC dL_law_499 ?_
  refine V_sld hC hX hw.1 dL_law_500 ?_
  have hw := hw.2
  refine V_aload_n hC 0 rfl rfl dL_law_501 ?_
  refine V_iload_n hC 3 rfl rfl dL_law_502 ?_
  refine V_iconst hC 3 dL_law_503 (by decide) ?_
  refine V_iadd hC dL_law_504 ?_
  refine V_sld hC hX hw.1 dL_law_505 ?_
  have hw := hw.2
  refine V_callQ hC ((LW E h0 hh he ha m0 m1 m2 m3 g2 a0 n0 r0 n_saved a1 n1 r1 a2 n2 r2 a3 n3 r3 a_now_m a_past_m n_saved_m a_errors_m n_hash_m).take 72) 3 [.int (xs (Int32.toNatClampNeg (x3 + 1))), .int (xs (Int32.toNatClampNeg (x3 + 2))), .int (xs (Int32.toNatClampNeg (x3 + 3)))] [.int v1] (ct_X9_solve l E m0 m1 m2 m3 a_now_m a_past_m n_saved_m a_errors_m n_hash_m (xs (Int32.toNatClampNeg (x3 + 1))) (xs (Int32.toNatClampNeg (x3 + 2))) (xs (Int32.toNatClampNeg (x3 + 3))) _ hw) wd_780 wd_40 wd_777 wd_778 wd_779 (by decide +kernel) rfl ⟨Nat.le_of_ble_eq_true rfl, Nat.le_of_ble_eq_true rfl⟩ rfl rfl rfl rfl (Nat.le_of_ble_eq_true rfl) ⟨Nat.le_of_ble_eq_true rfl, Nat.le_of_ble_eq_true rfl⟩ dL_law_506 (fun v ws' hp => ?_)
  obtain ⟨v3, g4, rfl, rfl, hw⟩ := hp
  refine V_wst [.int v3, .int v1] (LW E h0 hh he ha m0 m1 m2 m3 g2 a0 n0 r0 n_saved a1 n1 r1 a2 n2 r2 a3 n3 r3 a_now_m a_past_m n_saved_m g4 n_hash_m) rfl rfl ?_
  refine V_icmp_eq hC 771 (by decide) dL_law_509 (fun c5 => ?_) (fun c5 => ?_)
  · have hw := hw.1 c5
    refine V_iinc hC (x3 + 5) 3 [(3, .int (x3 + 5)), (0, .ref b), (1, .ref h0), (2, .ref m0)] rfl (congrArg (fun z => x3 + z) (by decide : Int32.ofInt (5) = (5 : Int32))) (by decide) rfl dL_law_771 ?_
    refine V_goto hC 18 (by decide) dL_law_774 ?_
    refine V_lv [(0, .ref b), (1, .ref h0), (2, .ref m0), (3, .int (x3 + 5))] [1, 2, 3, 0] rfl ?_
    exact hJ (x3 + 5) g2 a0 n0 r0 n_saved a1 n1 r1 a2 n2 r2 a3 n3 r3 a_now_m a_past_m n_saved_m g4 n_hash_m hw
  · have hw := hw.2 c5
    refine V_iconst hC 0 dL_law_512 (by decide) ?_
    exact hw.elim
def wc_514 (L : Nat) (xs : Nat → Int32) (J : Int32 → (Nat → Int32) → (Nat → Nat) → (Nat → Int32) → (Nat → Nat → Int32) → Int32 → (Nat → Nat) → (Nat → Int32) → (Nat → Nat → Int32) → (Nat → Nat) → (Nat → Int32) → (Nat → Nat → Int32) → (Nat → Nat) → (Nat → Int32) → (Nat → Nat → Int32) → (Nat → Int32) → (Nat → Int32) → Int32 → (Nat → Int32) → Int64 → Prop) (x3 : Int32) (a_errors : Nat → Int32) (a0 : Nat → Nat) (n0 : Nat → Int32) (r0 : Nat → Nat → Int32) (n_saved : Int32) (a1 : Nat → Nat) (n1 : Nat → Int32) (r1 : Nat → Nat → Int32) (a2 : Nat → Nat) (n2 : Nat → Int32) (r2 : Nat → Nat → Int32) (a3 : Nat → Nat) (n3 : Nat → Int32) (r3 : Nat → Nat → Int32) (a_now_m : Nat → Int32) (a_past_m : Nat → Int32) (n_saved_m : Int32) (a_errors_m : Nat → Int32) (n_hash_m : Int64) : Prop := (vp_in (x3 + 1) L ∧ (wp_X8_cookieAge a_errors n0 r0 (xs (Int32.toNatClampNeg (x3 + 1))) (fun (v1 : Int32) (g2 : Nat → Int32) => (vp_in (x3 + 1) L ∧ (wp_X9_cookieAge a_now_m a_past_m n_saved_m a_errors_m n_hash_m (xs (Int32.toNatClampNeg (x3 + 1))) (fun (v3 : Int32) (g4 : Nat → Int32) => ((v1 = v3 → J (x3 + 5) g2 a0 n0 r0 n_saved a1 n1 r1 a2 n2 r2 a3 n3 r3 a_now_m a_past_m n_saved_m g4 n_hash_m) ∧ (¬ (v1 = v3) → False))))))))
set_option maxRecDepth 100000 in
set_option maxHeartbeats 4000000 in
theorem bc_514 {p : Program} {l : Launch} {e : Env} {s : State} {m : MethodId} {below : List Frame} {meth : Method} {c : Code} {E : EN} {A : Nat → Prop} {b L : Nat} {xs : Nat → Int32} (hC : Cx p s m #[.ref b] meth c E A cL_law 4 "CookieServerLaw") (hr : meth.sig.returnType = ret) (hX : va_X b L xs s s.heap ∧ b < s.heap.size ∧ ¬ A b) (hA9 : ∀ q, A q → s.heap.size ≤ q) (h0 : Nat) (hh : Nat) (he : Nat) (ha : Nat) (m0 : Nat) (m1 : Nat) (m2 : Nat) (m3 : Nat) (J : Int32 → (Nat → Int32) → (Nat → Nat) → (Nat → Int32) → (Nat → Nat → Int32) → Int32 → (Nat → Nat) → (Nat → Int32) → (Nat → Nat → Int32) → (Nat → Nat) → (Nat → Int32) → (Nat → Nat → Int32) → (Nat → Nat) → (Nat → Int32) → (Nat → Nat → Int32) → (Nat → Int32) → (Nat → Int32) → Int32 → (Nat → Int32) → Int64 → Prop) (hJ : ∀ (x3 : Int32) (a_errors : Nat → Int32) (a0 : Nat → Nat) (n0 : Nat → Int32) (r0 : Nat → Nat → Int32) (n_saved : Int32) (a1 : Nat → Nat) (n1 : Nat → Int32) (r1 : Nat → Nat → Int32) (a2 : Nat → Nat) (n2 : Nat → Int32) (r2 : Nat → Nat → Int32) (a3 : Nat → Nat) (n3 : Nat → Int32) (r3 : Nat → Nat → Int32) (a_now_m : Nat → Int32) (a_past_m : Nat → Int32) (n_saved_m : Int32) (a_errors_m : Nat → Int32) (n_hash_m : Int64), J x3 a_errors a0 n0 r0 n_saved a1 n1 r1 a2 n2 r2 a3 n3 r3 a_now_m a_past_m n_saved_m a_errors_m n_hash_m → V p l e room_1 s m #[.ref b] below meth c E A 4 76 3239 (lw_Z below #[.ref b] s) 18 [(0, .ref b), (1, .ref h0), (2, .ref m0), (3, .int x3)] [] (LW E h0 hh he ha m0 m1 m2 m3 a_errors a0 n0 r0 n_saved a1 n1 r1 a2 n2 r2 a3 n3 r3 a_now_m a_past_m n_saved_m a_errors_m n_hash_m)) (x3 : Int32) (a_errors : Nat → Int32) (a0 : Nat → Nat) (n0 : Nat → Int32) (r0 : Nat → Nat → Int32) (n_saved : Int32) (a1 : Nat → Nat) (n1 : Nat → Int32) (r1 : Nat → Nat → Int32) (a2 : Nat → Nat) (n2 : Nat → Int32) (r2 : Nat → Nat → Int32) (a3 : Nat → Nat) (n3 : Nat → Int32) (r3 : Nat → Nat → Int32) (a_now_m : Nat → Int32) (a_past_m : Nat → Int32) (n_saved_m : Int32) (a_errors_m : Nat → Int32) (n_hash_m : Int64) (hw : wc_514 L xs J x3 a_errors a0 n0 r0 n_saved a1 n1 r1 a2 n2 r2 a3 n3 r3 a_now_m a_past_m n_saved_m a_errors_m n_hash_m) : V p l e room_1 s m #[.ref b] below meth c E A 4 76 3239 (lw_Z below #[.ref b] s) 514 [(0, .ref b), (1, .ref h0), (2, .ref m0), (3, .int x3)] [] (LW E h0 hh he ha m0 m1 m2 m3 a_errors a0 n0 r0 n_saved a1 n1 r1 a2 n2 r2 a3 n3 r3 a_now_m a_past_m n_saved_m a_errors_m n_hash_m) := by
  rw [wc_514] at hw
  refine V_aload_n hC 1 rfl rfl dL_law_514 ?_
  refine V_aload_n hC 0 rfl rfl dL_law_515 ?_
  refine V_iload_n hC 3 rfl rfl dL_law_516 ?_
  refine V_iconst hC 1 dL_law_517 (by decide) ?_
  refine V_iadd hC dL_law_518 ?_
  refine V_sld hC hX hw.1 dL_law_519 ?_
  have hw := hw.2
  refine V_callP hC ((LW E h0 hh he ha m0 m1 m2 m3 a_errors a0 n0 r0 n_saved a1 n1 r1 a2 n2 r2 a3 n3 r3 a_now_m a_past_m n_saved_m a_errors_m n_hash_m).drop 19) 1 [.int (xs (Int32.toNatClampNeg (x3 + 1)))] [] (ct_X8_cookieAge l E h0 hh he a0 a_errors n0 r0 (xs (Int32.toNatClampNeg (x3 + 1))) _ hw) wd_492 wd_32 wd_489 wd_490 wd_491 (by decide +kernel) rfl ⟨Nat.le_of_ble_eq_true rfl, Nat.le_of_ble_eq_true rfl⟩ rfl rfl rfl rfl (Nat.le_of_ble_eq_true rfl) ⟨Nat.le_of_ble_eq_true rfl, Nat.le_of_ble_eq_true rfl⟩ dL_law_520 (fun v ws' hp => ?_)
  obtain ⟨v1, g2, rfl, rfl, hw⟩ := hp
  refine V_wst [.int v1] (LW E h0 hh he ha m0 m1 m2 m3 g2 a0 n0 r0 n_saved a1 n1 r1 a2 n2 r2 a3 n3 r3 a_now_m a_past_m n_saved_m a_errors_m n_hash_m) rfl rfl ?_
  refine V_aload_n hC 2 rfl rfl dL_law_523 ?_
  refine V_aload_n hC 0 rfl rfl dL_law_524 ?_
  refine V_iload_n hC 3 rfl rfl dL_law_525 ?_
  refine V_iconst hC 1 dL_law_526 (by decide) ?_
  refine V_iadd hC dL_law_527 ?_
  refine V_sld hC hX hw.1 dL_law_528 ?_
  have hw := hw.2
  refine V_callQ hC ((LW E h0 hh he ha m0 m1 m2 m3 g2 a0 n0 r0 n_saved a1 n1 r1 a2 n2 r2 a3 n3 r3 a_now_m a_past_m n_saved_m a_errors_m n_hash_m).take 72) 1 [.int (xs (Int32.toNatClampNeg (x3 + 1)))] [.int v1] (ct_X9_cookieAge l E m0 m1 m2 m3 a_now_m a_past_m n_saved_m a_errors_m n_hash_m (xs (Int32.toNatClampNeg (x3 + 1))) _ hw) wd_784 wd_40 wd_781 wd_782 wd_783 (by decide +kernel) rfl ⟨Nat.le_of_ble_eq_true rfl, Nat.le_of_ble_eq_true rfl⟩ rfl rfl rfl rfl (Nat.le_of_ble_eq_true rfl) ⟨Nat.le_of_ble_eq_true rfl, Nat.le_of_ble_eq_true rfl⟩ dL_law_529 (fun v ws' hp => ?_)
  obtain ⟨v3, g4, rfl, rfl, hw⟩ := hp
  refine V_wst [.int v3, .int v1] (LW E h0 hh he ha m0 m1 m2 m3 g2 a0 n0 r0 n_saved a1 n1 r1 a2 n2 r2 a3 n3 r3 a_now_m a_past_m n_saved_m g4 n_hash_m) rfl rfl ?_
  refine V_icmp_eq hC 771 (by decide) dL_law_532 (fun c5 => ?_) (fun c5 => ?_)
  · have hw := hw.1 c5
    refine V_iinc hC (x3 + 5) 3 [(3, .int (x3 + 5)), (0, .ref b), (1, .ref h0), (2, .ref m0)] rfl (congrArg (fun z => x3 + z) (by decide : Int32.ofInt (5) = (5 : Int32))) (by decide) rfl dL_law_771 ?_
    refine V_goto hC 18 (by decide) dL_law_774 ?_
    refine V_lv [(0, .ref b), (1, .ref h0), (2, .ref m0), (3, .int (x3 + 5))] [1, 2, 3, 0] rfl ?_
    exact hJ (x3 + 5) g2 a0 n0 r0 n_saved a1 n1 r1 a2 n2 r2 a3 n3 r3 a_now_m a_past_m n_saved_m g4 n_hash_m hw
  · have hw := hw.2 c5
    refine V_iconst hC 0 dL_law_535 (by decide) ?_
    exact hw.elim
def wc_537 (L : Nat) (xs : Nat → Int32) (J : Int32 → (Nat → Int32) → (Nat → Nat) → (Nat → Int32) → (Nat → Nat → Int32) → Int32 → (Nat → Nat) → (Nat → Int32) → (Nat → Nat → Int32) → (Nat → Nat) → (Nat → Int32) → (Nat → Nat → Int32) → (Nat → Nat) → (Nat → Int32) → (Nat → Nat → Int32) → (Nat → Int32) → (Nat → Int32) → Int32 → (Nat → Int32) → Int64 → Prop) (x3 : Int32) (a_errors : Nat → Int32) (a0 : Nat → Nat) (n0 : Nat → Int32) (r0 : Nat → Nat → Int32) (n_saved : Int32) (a1 : Nat → Nat) (n1 : Nat → Int32) (r1 : Nat → Nat → Int32) (a2 : Nat → Nat) (n2 : Nat → Int32) (r2 : Nat → Nat → Int32) (a3 : Nat → Nat) (n3 : Nat → Int32) (r3 : Nat → Nat → Int32) (a_now_m : Nat → Int32) (a_past_m : Nat → Int32) (n_saved_m : Int32) (a_errors_m : Nat → Int32) (n_hash_m : Int64) : Prop := (vp_in (x3 + 1) L ∧ (wp_X8_cookieSize a_errors (xs (Int32.toNatClampNeg (x3 + 1))) (fun (v1 : Int32) (g2 : Nat → Int32) => (vp_in (x3 + 1) L ∧ (wp_X9_cookieSize a_now_m a_past_m n_saved_m a_errors_m n_hash_m (xs (Int32.toNatClampNeg (x3 + 1))) (fun (v3 : Int32) (g4 : Nat → Int32) => ((v1 = v3 → J (x3 + 5) g2 a0 n0 r0 n_saved a1 n1 r1 a2 n2 r2 a3 n3 r3 a_now_m a_past_m n_saved_m g4 n_hash_m) ∧ (¬ (v1 = v3) → False))))))))
set_option maxRecDepth 100000 in
set_option maxHeartbeats 4000000 in
theorem bc_537 {p : Program} {l : Launch} {e : Env} {s : State} {m : MethodId} {below : List Frame} {meth : Method} {c : Code} {E : EN} {A : Nat → Prop} {b L : Nat} {xs : Nat → Int32} (hC : Cx p s m #[.ref b] meth c E A cL_law 4 "CookieServerLaw") (hr : meth.sig.returnType = ret) (hX : va_X b L xs s s.heap ∧ b < s.heap.size ∧ ¬ A b) (hA9 : ∀ q, A q → s.heap.size ≤ q) (h0 : Nat) (hh : Nat) (he : Nat) (ha : Nat) (m0 : Nat) (m1 : Nat) (m2 : Nat) (m3 : Nat) (J : Int32 → (Nat → Int32) → (Nat → Nat) → (Nat → Int32) → (Nat → Nat → Int32) → Int32 → (Nat → Nat) → (Nat → Int32) → (Nat → Nat → Int32) → (Nat → Nat) → (Nat → Int32) → (Nat → Nat → Int32) → (Nat → Nat) → (Nat → Int32) → (Nat → Nat → Int32) → (Nat → Int32) → (Nat → Int32) → Int32 → (Nat → Int32) → Int64 → Prop) (hJ : ∀ (x3 : Int32) (a_errors : Nat → Int32) (a0 : Nat → Nat) (n0 : Nat → Int32) (r0 : Nat → Nat → Int32) (n_saved : Int32) (a1 : Nat → Nat) (n1 : Nat → Int32) (r1 : Nat → Nat → Int32) (a2 : Nat → Nat) (n2 : Nat → Int32) (r2 : Nat → Nat → Int32) (a3 : Nat → Nat) (n3 : Nat → Int32) (r3 : Nat → Nat → Int32) (a_now_m : Nat → Int32) (a_past_m : Nat → Int32) (n_saved_m : Int32) (a_errors_m : Nat → Int32) (n_hash_m : Int64), J x3 a_errors a0 n0 r0 n_saved a1 n1 r1 a2 n2 r2 a3 n3 r3 a_now_m a_past_m n_saved_m a_errors_m n_hash_m → V p l e room_1 s m #[.ref b] below meth c E A 4 76 3239 (lw_Z below #[.ref b] s) 18 [(0, .ref b), (1, .ref h0), (2, .ref m0), (3, .int x3)] [] (LW E h0 hh he ha m0 m1 m2 m3 a_errors a0 n0 r0 n_saved a1 n1 r1 a2 n2 r2 a3 n3 r3 a_now_m a_past_m n_saved_m a_errors_m n_hash_m)) (x3 : Int32) (a_errors : Nat → Int32) (a0 : Nat → Nat) (n0 : Nat → Int32) (r0 : Nat → Nat → Int32) (n_saved : Int32) (a1 : Nat → Nat) (n1 : Nat → Int32) (r1 : Nat → Nat → Int32) (a2 : Nat → Nat) (n2 : Nat → Int32) (r2 : Nat → Nat → Int32) (a3 : Nat → Nat) (n3 : Nat → Int32) (r3 : Nat → Nat → Int32) (a_now_m : Nat → Int32) (a_past_m : Nat → Int32) (n_saved_m : Int32) (a_errors_m : Nat → Int32) (n_hash_m : Int64) (hw : wc_537 L xs J x3 a_errors a0 n0 r0 n_saved a1 n1 r1 a2 n2 r2 a3 n3 r3 a_now_m a_past_m n_saved_m a_errors_m n_hash_m) : V p l e room_1 s m #[.ref b] below meth c E A 4 76 3239 (lw_Z below #[.ref b] s) 537 [(0, .ref b), (1, .ref h0), (2, .ref m0), (3, .int x3)] [] (LW E h0 hh he ha m0 m1 m2 m3 a_errors a0 n0 r0 n_saved a1 n1 r1 a2 n2 r2 a3 n3 r3 a_now_m a_past_m n_saved_m a_errors_m n_hash_m) := by
  rw [wc_537] at hw
  refine V_aload_n hC 1 rfl rfl dL_law_537 ?_
  refine V_aload_n hC 0 rfl rfl dL_law_538 ?_
  refine V_iload_n hC 3 rfl rfl dL_law_539 ?_
  refine V_iconst hC 1 dL_law_540 (by decide) ?_
  refine V_iadd hC dL_law_541 ?_
  refine V_sld hC hX hw.1 dL_law_542 ?_
  have hw := hw.2
  refine V_callP hC ((LW E h0 hh he ha m0 m1 m2 m3 a_errors a0 n0 r0 n_saved a1 n1 r1 a2 n2 r2 a3 n3 r3 a_now_m a_past_m n_saved_m a_errors_m n_hash_m).drop 2) 1 [.int (xs (Int32.toNatClampNeg (x3 + 1)))] [] (ct_X8_cookieSize l E h0 (a0 0) hh he a_errors (xs (Int32.toNatClampNeg (x3 + 1))) _ hw) wd_496 wd_32 wd_493 wd_494 wd_495 (by decide +kernel) rfl ⟨Nat.le_of_ble_eq_true rfl, Nat.le_of_ble_eq_true rfl⟩ rfl rfl rfl rfl (Nat.le_of_ble_eq_true rfl) ⟨Nat.le_of_ble_eq_true rfl, Nat.le_of_ble_eq_true rfl⟩ dL_law_543 (fun v ws' hp => ?_)
  obtain ⟨v1, g2, rfl, rfl, hw⟩ := hp
  refine V_wst [.int v1] (LW E h0 hh he ha m0 m1 m2 m3 g2 a0 n0 r0 n_saved a1 n1 r1 a2 n2 r2 a3 n3 r3 a_now_m a_past_m n_saved_m a_errors_m n_hash_m) rfl rfl ?_
  refine V_aload_n hC 2 rfl rfl dL_law_546 ?_
  refine V_aload_n hC 0 rfl rfl dL_law_547 ?_
  refine V_iload_n hC 3 rfl rfl dL_law_548 ?_
  refine V_iconst hC 1 dL_law_549 (by decide) ?_
  refine V_iadd hC dL_law_550 ?_
  refine V_sld hC hX hw.1 dL_law_551 ?_
  have hw := hw.2
  refine V_callQ hC ((LW E h0 hh he ha m0 m1 m2 m3 g2 a0 n0 r0 n_saved a1 n1 r1 a2 n2 r2 a3 n3 r3 a_now_m a_past_m n_saved_m a_errors_m n_hash_m).take 72) 1 [.int (xs (Int32.toNatClampNeg (x3 + 1)))] [.int v1] (ct_X9_cookieSize l E m0 m1 m2 m3 a_now_m a_past_m n_saved_m a_errors_m n_hash_m (xs (Int32.toNatClampNeg (x3 + 1))) _ hw) wd_788 wd_40 wd_785 wd_786 wd_787 (by decide +kernel) rfl ⟨Nat.le_of_ble_eq_true rfl, Nat.le_of_ble_eq_true rfl⟩ rfl rfl rfl rfl (Nat.le_of_ble_eq_true rfl) ⟨Nat.le_of_ble_eq_true rfl, Nat.le_of_ble_eq_true rfl⟩ dL_law_552 (fun v ws' hp => ?_)
  obtain ⟨v3, g4, rfl, rfl, hw⟩ := hp
  refine V_wst [.int v3, .int v1] (LW E h0 hh he ha m0 m1 m2 m3 g2 a0 n0 r0 n_saved a1 n1 r1 a2 n2 r2 a3 n3 r3 a_now_m a_past_m n_saved_m g4 n_hash_m) rfl rfl ?_
  refine V_icmp_eq hC 771 (by decide) dL_law_555 (fun c5 => ?_) (fun c5 => ?_)
  · have hw := hw.1 c5
    refine V_iinc hC (x3 + 5) 3 [(3, .int (x3 + 5)), (0, .ref b), (1, .ref h0), (2, .ref m0)] rfl (congrArg (fun z => x3 + z) (by decide : Int32.ofInt (5) = (5 : Int32))) (by decide) rfl dL_law_771 ?_
    refine V_goto hC 18 (by decide) dL_law_774 ?_
    refine V_lv [(0, .ref b), (1, .ref h0), (2, .ref m0), (3, .int (x3 + 5))] [1, 2, 3, 0] rfl ?_
    exact hJ (x3 + 5) g2 a0 n0 r0 n_saved a1 n1 r1 a2 n2 r2 a3 n3 r3 a_now_m a_past_m n_saved_m g4 n_hash_m hw
  · have hw := hw.2 c5
    refine V_iconst hC 0 dL_law_558 (by decide) ?_
    exact hw.elim
def wc_560 (L : Nat) (xs : Nat → Int32) (J : Int32 → (Nat → Int32) → (Nat → Nat) → (Nat → Int32) → (Nat → Nat → Int32) → Int32 → (Nat → Nat) → (Nat → Int32) → (Nat → Nat → Int32) → (Nat → Nat) → (Nat → Int32) → (Nat → Nat → Int32) → (Nat → Nat) → (Nat → Int32) → (Nat → Nat → Int32) → (Nat → Int32) → (Nat → Int32) → Int32 → (Nat → Int32) → Int64 → Prop) (x3 : Int32) (a_errors : Nat → Int32) (a0 : Nat → Nat) (n0 : Nat → Int32) (r0 : Nat → Nat → Int32) (n_saved : Int32) (a1 : Nat → Nat) (n1 : Nat → Int32) (r1 : Nat → Nat → Int32) (a2 : Nat → Nat) (n2 : Nat → Int32) (r2 : Nat → Nat → Int32) (a3 : Nat → Nat) (n3 : Nat → Int32) (r3 : Nat → Nat → Int32) (a_now_m : Nat → Int32) (a_past_m : Nat → Int32) (n_saved_m : Int32) (a_errors_m : Nat → Int32) (n_hash_m : Int64) : Prop := (wp_X8_work a_errors n0 r0 (fun (v1 : Int32) => (wp_X9_work a_now_m a_past_m n_saved_m a_errors_m n_hash_m (fun (v2 : Int32) => ((v1 = v2 → J (x3 + 5) a_errors a0 n0 r0 n_saved a1 n1 r1 a2 n2 r2 a3 n3 r3 a_now_m a_past_m n_saved_m a_errors_m n_hash_m) ∧ (¬ (v1 = v2) → False))))))
set_option maxRecDepth 100000 in
set_option maxHeartbeats 4000000 in
theorem bc_560 {p : Program} {l : Launch} {e : Env} {s : State} {m : MethodId} {below : List Frame} {meth : Method} {c : Code} {E : EN} {A : Nat → Prop} {b L : Nat} {xs : Nat → Int32} (hC : Cx p s m #[.ref b] meth c E A cL_law 4 "CookieServerLaw") (hr : meth.sig.returnType = ret) (hX : va_X b L xs s s.heap ∧ b < s.heap.size ∧ ¬ A b) (hA9 : ∀ q, A q → s.heap.size ≤ q) (h0 : Nat) (hh : Nat) (he : Nat) (ha : Nat) (m0 : Nat) (m1 : Nat) (m2 : Nat) (m3 : Nat) (J : Int32 → (Nat → Int32) → (Nat → Nat) → (Nat → Int32) → (Nat → Nat → Int32) → Int32 → (Nat → Nat) → (Nat → Int32) → (Nat → Nat → Int32) → (Nat → Nat) → (Nat → Int32) → (Nat → Nat → Int32) → (Nat → Nat) → (Nat → Int32) → (Nat → Nat → Int32) → (Nat → Int32) → (Nat → Int32) → Int32 → (Nat → Int32) → Int64 → Prop) (hJ : ∀ (x3 : Int32) (a_errors : Nat → Int32) (a0 : Nat → Nat) (n0 : Nat → Int32) (r0 : Nat → Nat → Int32) (n_saved : Int32) (a1 : Nat → Nat) (n1 : Nat → Int32) (r1 : Nat → Nat → Int32) (a2 : Nat → Nat) (n2 : Nat → Int32) (r2 : Nat → Nat → Int32) (a3 : Nat → Nat) (n3 : Nat → Int32) (r3 : Nat → Nat → Int32) (a_now_m : Nat → Int32) (a_past_m : Nat → Int32) (n_saved_m : Int32) (a_errors_m : Nat → Int32) (n_hash_m : Int64), J x3 a_errors a0 n0 r0 n_saved a1 n1 r1 a2 n2 r2 a3 n3 r3 a_now_m a_past_m n_saved_m a_errors_m n_hash_m → V p l e room_1 s m #[.ref b] below meth c E A 4 76 3239 (lw_Z below #[.ref b] s) 18 [(0, .ref b), (1, .ref h0), (2, .ref m0), (3, .int x3)] [] (LW E h0 hh he ha m0 m1 m2 m3 a_errors a0 n0 r0 n_saved a1 n1 r1 a2 n2 r2 a3 n3 r3 a_now_m a_past_m n_saved_m a_errors_m n_hash_m)) (x3 : Int32) (a_errors : Nat → Int32) (a0 : Nat → Nat) (n0 : Nat → Int32) (r0 : Nat → Nat → Int32) (n_saved : Int32) (a1 : Nat → Nat) (n1 : Nat → Int32) (r1 : Nat → Nat → Int32) (a2 : Nat → Nat) (n2 : Nat → Int32) (r2 : Nat → Nat → Int32) (a3 : Nat → Nat) (n3 : Nat → Int32) (r3 : Nat → Nat → Int32) (a_now_m : Nat → Int32) (a_past_m : Nat → Int32) (n_saved_m : Int32) (a_errors_m : Nat → Int32) (n_hash_m : Int64) (hw : wc_560 L xs J x3 a_errors a0 n0 r0 n_saved a1 n1 r1 a2 n2 r2 a3 n3 r3 a_now_m a_past_m n_saved_m a_errors_m n_hash_m) : V p l e room_1 s m #[.ref b] below meth c E A 4 76 3239 (lw_Z below #[.ref b] s) 560 [(0, .ref b), (1, .ref h0), (2, .ref m0), (3, .int x3)] [] (LW E h0 hh he ha m0 m1 m2 m3 a_errors a0 n0 r0 n_saved a1 n1 r1 a2 n2 r2 a3 n3 r3 a_now_m a_past_m n_saved_m a_errors_m n_hash_m) := by
  rw [wc_560] at hw
  refine V_aload_n hC 1 rfl rfl dL_law_560 ?_
  refine V_callP hC ((LW E h0 hh he ha m0 m1 m2 m3 a_errors a0 n0 r0 n_saved a1 n1 r1 a2 n2 r2 a3 n3 r3 a_now_m a_past_m n_saved_m a_errors_m n_hash_m).drop 19) 0 [] [] (ct_X8_work l E h0 hh he a0 a_errors n0 r0 _ hw) wd_500 wd_32 wd_497 wd_498 wd_499 (by decide +kernel) rfl ⟨Nat.le_of_ble_eq_true rfl, Nat.le_of_ble_eq_true rfl⟩ rfl rfl rfl rfl (Nat.le_of_ble_eq_true rfl) ⟨Nat.le_of_ble_eq_true rfl, Nat.le_of_ble_eq_true rfl⟩ dL_law_561 (fun v ws' hp => ?_)
  obtain ⟨v1, rfl, rfl, hw⟩ := hp
  refine V_wst [.int v1] (LW E h0 hh he ha m0 m1 m2 m3 a_errors a0 n0 r0 n_saved a1 n1 r1 a2 n2 r2 a3 n3 r3 a_now_m a_past_m n_saved_m a_errors_m n_hash_m) rfl rfl ?_
  refine V_aload_n hC 2 rfl rfl dL_law_564 ?_
  refine V_callQ hC ((LW E h0 hh he ha m0 m1 m2 m3 a_errors a0 n0 r0 n_saved a1 n1 r1 a2 n2 r2 a3 n3 r3 a_now_m a_past_m n_saved_m a_errors_m n_hash_m).take 72) 0 [] [.int v1] (ct_X9_work l E m0 m1 m2 m3 a_now_m a_past_m n_saved_m a_errors_m n_hash_m _ hw) wd_792 wd_40 wd_789 wd_790 wd_791 (by decide +kernel) rfl ⟨Nat.le_of_ble_eq_true rfl, Nat.le_of_ble_eq_true rfl⟩ rfl rfl rfl rfl (Nat.le_of_ble_eq_true rfl) ⟨Nat.le_of_ble_eq_true rfl, Nat.le_of_ble_eq_true rfl⟩ dL_law_565 (fun v ws' hp => ?_)
  obtain ⟨v2, rfl, rfl, hw⟩ := hp
  refine V_wst [.int v2, .int v1] (LW E h0 hh he ha m0 m1 m2 m3 a_errors a0 n0 r0 n_saved a1 n1 r1 a2 n2 r2 a3 n3 r3 a_now_m a_past_m n_saved_m a_errors_m n_hash_m) rfl rfl ?_
  refine V_icmp_eq hC 771 (by decide) dL_law_568 (fun c3 => ?_) (fun c3 => ?_)
  · have hw := hw.1 c3
    refine V_iinc hC (x3 + 5) 3 [(3, .int (x3 + 5)), (0, .ref b), (1, .ref h0), (2, .ref m0)] rfl (congrArg (fun z => x3 + z) (by decide : Int32.ofInt (5) = (5 : Int32))) (by decide) rfl dL_law_771 ?_
    refine V_goto hC 18 (by decide) dL_law_774 ?_
    refine V_lv [(0, .ref b), (1, .ref h0), (2, .ref m0), (3, .int (x3 + 5))] [1, 2, 3, 0] rfl ?_
    exact hJ (x3 + 5) a_errors a0 n0 r0 n_saved a1 n1 r1 a2 n2 r2 a3 n3 r3 a_now_m a_past_m n_saved_m a_errors_m n_hash_m hw
  · have hw := hw.2 c3
    refine V_iconst hC 0 dL_law_571 (by decide) ?_
    exact hw.elim
def wc_573 (L : Nat) (xs : Nat → Int32) (J : Int32 → (Nat → Int32) → (Nat → Nat) → (Nat → Int32) → (Nat → Nat → Int32) → Int32 → (Nat → Nat) → (Nat → Int32) → (Nat → Nat → Int32) → (Nat → Nat) → (Nat → Int32) → (Nat → Nat → Int32) → (Nat → Nat) → (Nat → Int32) → (Nat → Nat → Int32) → (Nat → Int32) → (Nat → Int32) → Int32 → (Nat → Int32) → Int64 → Prop) (x3 : Int32) (a_errors : Nat → Int32) (a0 : Nat → Nat) (n0 : Nat → Int32) (r0 : Nat → Nat → Int32) (n_saved : Int32) (a1 : Nat → Nat) (n1 : Nat → Int32) (r1 : Nat → Nat → Int32) (a2 : Nat → Nat) (n2 : Nat → Int32) (r2 : Nat → Nat → Int32) (a3 : Nat → Nat) (n3 : Nat → Int32) (r3 : Nat → Nat → Int32) (a_now_m : Nat → Int32) (a_past_m : Nat → Int32) (n_saved_m : Int32) (a_errors_m : Nat → Int32) (n_hash_m : Int64) : Prop := (vp_in (x3 + 1) L ∧ (vp_in (x3 + 2) L ∧ (wp_X8_request a_errors n0 r0 n_saved a1 n1 r1 a2 n2 r2 a3 n3 r3 (xs (Int32.toNatClampNeg (x3 + 1))) (xs (Int32.toNatClampNeg (x3 + 2))) (fun (v1 : Int32) (g2 : Nat → Int32) (g3 : Nat → Int32) (g4 : Nat → Nat → Int32) (s5 : Int32) (g6 : Nat → Nat) (g7 : Nat → Int32) (g8 : Nat → Nat → Int32) (g9 : Nat → Nat) (g10 : Nat → Int32) (g11 : Nat → Nat → Int32) (g12 : Nat → Nat) (g13 : Nat → Int32) (g14 : Nat → Nat → Int32) => (vp_in (x3 + 1) L ∧ (vp_in (x3 + 2) L ∧ (wp_X9_request a_now_m a_past_m n_saved_m a_errors_m n_hash_m (xs (Int32.toNatClampNeg (x3 + 1))) (xs (Int32.toNatClampNeg (x3 + 2))) (fun (v15 : Int32) (g16 : Nat → Int32) (g17 : Nat → Int32) (s18 : Int32) (g19 : Nat → Int32) => ((v1 = v15 → J (x3 + 5) g2 a0 g3 g4 s5 g6 g7 g8 g9 g10 g11 g12 g13 g14 g16 g17 s18 g19 n_hash_m) ∧ (¬ (v1 = v15) → False))))))))))
set_option maxRecDepth 100000 in
set_option maxHeartbeats 4000000 in
theorem bc_573 {p : Program} {l : Launch} {e : Env} {s : State} {m : MethodId} {below : List Frame} {meth : Method} {c : Code} {E : EN} {A : Nat → Prop} {b L : Nat} {xs : Nat → Int32} (hC : Cx p s m #[.ref b] meth c E A cL_law 4 "CookieServerLaw") (hr : meth.sig.returnType = ret) (hX : va_X b L xs s s.heap ∧ b < s.heap.size ∧ ¬ A b) (hA9 : ∀ q, A q → s.heap.size ≤ q) (h0 : Nat) (hh : Nat) (he : Nat) (ha : Nat) (m0 : Nat) (m1 : Nat) (m2 : Nat) (m3 : Nat) (J : Int32 → (Nat → Int32) → (Nat → Nat) → (Nat → Int32) → (Nat → Nat → Int32) → Int32 → (Nat → Nat) → (Nat → Int32) → (Nat → Nat → Int32) → (Nat → Nat) → (Nat → Int32) → (Nat → Nat → Int32) → (Nat → Nat) → (Nat → Int32) → (Nat → Nat → Int32) → (Nat → Int32) → (Nat → Int32) → Int32 → (Nat → Int32) → Int64 → Prop) (hJ : ∀ (x3 : Int32) (a_errors : Nat → Int32) (a0 : Nat → Nat) (n0 : Nat → Int32) (r0 : Nat → Nat → Int32) (n_saved : Int32) (a1 : Nat → Nat) (n1 : Nat → Int32) (r1 : Nat → Nat → Int32) (a2 : Nat → Nat) (n2 : Nat → Int32) (r2 : Nat → Nat → Int32) (a3 : Nat → Nat) (n3 : Nat → Int32) (r3 : Nat → Nat → Int32) (a_now_m : Nat → Int32) (a_past_m : Nat → Int32) (n_saved_m : Int32) (a_errors_m : Nat → Int32) (n_hash_m : Int64), J x3 a_errors a0 n0 r0 n_saved a1 n1 r1 a2 n2 r2 a3 n3 r3 a_now_m a_past_m n_saved_m a_errors_m n_hash_m → V p l e room_1 s m #[.ref b] below meth c E A 4 76 3239 (lw_Z below #[.ref b] s) 18 [(0, .ref b), (1, .ref h0), (2, .ref m0), (3, .int x3)] [] (LW E h0 hh he ha m0 m1 m2 m3 a_errors a0 n0 r0 n_saved a1 n1 r1 a2 n2 r2 a3 n3 r3 a_now_m a_past_m n_saved_m a_errors_m n_hash_m)) (x3 : Int32) (a_errors : Nat → Int32) (a0 : Nat → Nat) (n0 : Nat → Int32) (r0 : Nat → Nat → Int32) (n_saved : Int32) (a1 : Nat → Nat) (n1 : Nat → Int32) (r1 : Nat → Nat → Int32) (a2 : Nat → Nat) (n2 : Nat → Int32) (r2 : Nat → Nat → Int32) (a3 : Nat → Nat) (n3 : Nat → Int32) (r3 : Nat → Nat → Int32) (a_now_m : Nat → Int32) (a_past_m : Nat → Int32) (n_saved_m : Int32) (a_errors_m : Nat → Int32) (n_hash_m : Int64) (hw : wc_573 L xs J x3 a_errors a0 n0 r0 n_saved a1 n1 r1 a2 n2 r2 a3 n3 r3 a_now_m a_past_m n_saved_m a_errors_m n_hash_m) : V p l e room_1 s m #[.ref b] below meth c E A 4 76 3239 (lw_Z below #[.ref b] s) 573 [(0, .ref b), (1, .ref h0), (2, .ref m0), (3, .int x3)] [] (LW E h0 hh he ha m0 m1 m2 m3 a_errors a0 n0 r0 n_saved a1 n1 r1 a2 n2 r2 a3 n3 r3 a_now_m a_past_m n_saved_m a_errors_m n_hash_m) := by
  rw [wc_573] at hw
  refine V_aload_n hC 1 rfl rfl dL_law_573 ?_
  refine V_aload_n hC 0 rfl rfl dL_law_574 ?_
  refine V_iload_n hC 3 rfl rfl dL_law_575 ?_
  refine V_iconst hC 1 dL_law_576 (by decide) ?_
  refine V_iadd hC dL_law_577 ?_
  refine V_sld hC hX hw.1 dL_law_578 ?_
  have hw := hw.2
  refine V_aload_n hC 0 rfl rfl dL_law_579 ?_
  refine V_iload_n hC 3 rfl rfl dL_law_580 ?_
  refine V_iconst hC 2 dL_law_581 (by decide) ?_
  refine V_iadd hC dL_law_582 ?_
  refine V_sld hC hX hw.1 dL_law_583 ?_
  have hw := hw.2
  refine V_callP hC ((LW E h0 hh he ha m0 m1 m2 m3 a_errors a0 n0 r0 n_saved a1 n1 r1 a2 n2 r2 a3 n3 r3 a_now_m a_past_m n_saved_m a_errors_m n_hash_m).drop 72) 2 [.int (xs (Int32.toNatClampNeg (x3 + 1))), .int (xs (Int32.toNatClampNeg (x3 + 2)))] [] (ct_X8_request l E h0 hh he a0 ha a_errors n0 r0 n_saved a1 n1 r1 a2 n2 r2 a3 n3 r3 (xs (Int32.toNatClampNeg (x3 + 1))) (xs (Int32.toNatClampNeg (x3 + 2))) _ hw) wd_504 wd_32 wd_501 wd_502 wd_503 (by decide +kernel) rfl ⟨Nat.le_of_ble_eq_true rfl, Nat.le_of_ble_eq_true rfl⟩ rfl rfl rfl rfl (Nat.le_of_ble_eq_true rfl) ⟨Nat.le_of_ble_eq_true rfl, Nat.le_of_ble_eq_true rfl⟩ dL_law_584 (fun v ws' hp => ?_)
  obtain ⟨v1, g2, g3, g4, s5, g6, g7, g8, g9, g10, g11, g12, g13, g14, rfl, rfl, hw⟩ := hp
  refine V_wst [.int v1] (LW E h0 hh he ha m0 m1 m2 m3 g2 a0 g3 g4 s5 g6 g7 g8 g9 g10 g11 g12 g13 g14 a_now_m a_past_m n_saved_m a_errors_m n_hash_m) rfl rfl ?_
  refine V_aload_n hC 2 rfl rfl dL_law_587 ?_
  refine V_aload_n hC 0 rfl rfl dL_law_588 ?_
  refine V_iload_n hC 3 rfl rfl dL_law_589 ?_
  refine V_iconst hC 1 dL_law_590 (by decide) ?_
  refine V_iadd hC dL_law_591 ?_
  refine V_sld hC hX hw.1 dL_law_592 ?_
  have hw := hw.2
  refine V_aload_n hC 0 rfl rfl dL_law_593 ?_
  refine V_iload_n hC 3 rfl rfl dL_law_594 ?_
  refine V_iconst hC 2 dL_law_595 (by decide) ?_
  refine V_iadd hC dL_law_596 ?_
  refine V_sld hC hX hw.1 dL_law_597 ?_
  have hw := hw.2
  refine V_callQ hC ((LW E h0 hh he ha m0 m1 m2 m3 g2 a0 g3 g4 s5 g6 g7 g8 g9 g10 g11 g12 g13 g14 a_now_m a_past_m n_saved_m a_errors_m n_hash_m).take 72) 2 [.int (xs (Int32.toNatClampNeg (x3 + 1))), .int (xs (Int32.toNatClampNeg (x3 + 2)))] [.int v1] (ct_X9_request l E m0 m1 m2 m3 a_now_m a_past_m n_saved_m a_errors_m n_hash_m (xs (Int32.toNatClampNeg (x3 + 1))) (xs (Int32.toNatClampNeg (x3 + 2))) _ hw) wd_796 wd_40 wd_793 wd_794 wd_795 (by decide +kernel) rfl ⟨Nat.le_of_ble_eq_true rfl, Nat.le_of_ble_eq_true rfl⟩ rfl rfl rfl rfl (Nat.le_of_ble_eq_true rfl) ⟨Nat.le_of_ble_eq_true rfl, Nat.le_of_ble_eq_true rfl⟩ dL_law_598 (fun v ws' hp => ?_)
  obtain ⟨v15, g16, g17, s18, g19, rfl, rfl, hw⟩ := hp
  refine V_wst [.int v15, .int v1] (LW E h0 hh he ha m0 m1 m2 m3 g2 a0 g3 g4 s5 g6 g7 g8 g9 g10 g11 g12 g13 g14 g16 g17 s18 g19 n_hash_m) rfl rfl ?_
  refine V_icmp_eq hC 771 (by decide) dL_law_601 (fun c20 => ?_) (fun c20 => ?_)
  · have hw := hw.1 c20
    refine V_iinc hC (x3 + 5) 3 [(3, .int (x3 + 5)), (0, .ref b), (1, .ref h0), (2, .ref m0)] rfl (congrArg (fun z => x3 + z) (by decide : Int32.ofInt (5) = (5 : Int32))) (by decide) rfl dL_law_771 ?_
    refine V_goto hC 18 (by decide) dL_law_774 ?_
    refine V_lv [(0, .ref b), (1, .ref h0), (2, .ref m0), (3, .int (x3 + 5))] [1, 2, 3, 0] rfl ?_
    exact hJ (x3 + 5) g2 a0 g3 g4 s5 g6 g7 g8 g9 g10 g11 g12 g13 g14 g16 g17 s18 g19 n_hash_m hw
  · have hw := hw.2 c20
    refine V_iconst hC 0 dL_law_604 (by decide) ?_
    exact hw.elim
def wc_606 (L : Nat) (xs : Nat → Int32) (J : Int32 → (Nat → Int32) → (Nat → Nat) → (Nat → Int32) → (Nat → Nat → Int32) → Int32 → (Nat → Nat) → (Nat → Int32) → (Nat → Nat → Int32) → (Nat → Nat) → (Nat → Int32) → (Nat → Nat → Int32) → (Nat → Nat) → (Nat → Int32) → (Nat → Nat → Int32) → (Nat → Int32) → (Nat → Int32) → Int32 → (Nat → Int32) → Int64 → Prop) (x3 : Int32) (a_errors : Nat → Int32) (a0 : Nat → Nat) (n0 : Nat → Int32) (r0 : Nat → Nat → Int32) (n_saved : Int32) (a1 : Nat → Nat) (n1 : Nat → Int32) (r1 : Nat → Nat → Int32) (a2 : Nat → Nat) (n2 : Nat → Int32) (r2 : Nat → Nat → Int32) (a3 : Nat → Nat) (n3 : Nat → Int32) (r3 : Nat → Nat → Int32) (a_now_m : Nat → Int32) (a_past_m : Nat → Int32) (n_saved_m : Int32) (a_errors_m : Nat → Int32) (n_hash_m : Int64) : Prop := (vp_in (x3 + 1) L ∧ (wp_X8_serve a_errors n0 r0 n_saved a1 n1 r1 a2 n2 r2 a3 n3 r3 (xs (Int32.toNatClampNeg (x3 + 1))) (fun (v1 : Int32) (g2 : Nat → Int32) (g3 : Nat → Int32) (g4 : Nat → Nat → Int32) (s5 : Int32) (g6 : Nat → Nat) (g7 : Nat → Int32) (g8 : Nat → Nat → Int32) (g9 : Nat → Nat) (g10 : Nat → Int32) (g11 : Nat → Nat → Int32) (g12 : Nat → Nat) (g13 : Nat → Int32) (g14 : Nat → Nat → Int32) => (vp_in (x3 + 1) L ∧ (wp_X9_serve a_now_m a_past_m n_saved_m a_errors_m n_hash_m (xs (Int32.toNatClampNeg (x3 + 1))) (fun (v15 : Int32) (g16 : Nat → Int32) (g17 : Nat → Int32) (s18 : Int32) (g19 : Nat → Int32) => ((v1 = v15 → J (x3 + 5) g2 a0 g3 g4 s5 g6 g7 g8 g9 g10 g11 g12 g13 g14 g16 g17 s18 g19 n_hash_m) ∧ (¬ (v1 = v15) → False))))))))
set_option maxRecDepth 100000 in
set_option maxHeartbeats 4000000 in
theorem bc_606 {p : Program} {l : Launch} {e : Env} {s : State} {m : MethodId} {below : List Frame} {meth : Method} {c : Code} {E : EN} {A : Nat → Prop} {b L : Nat} {xs : Nat → Int32} (hC : Cx p s m #[.ref b] meth c E A cL_law 4 "CookieServerLaw") (hr : meth.sig.returnType = ret) (hX : va_X b L xs s s.heap ∧ b < s.heap.size ∧ ¬ A b) (hA9 : ∀ q, A q → s.heap.size ≤ q) (h0 : Nat) (hh : Nat) (he : Nat) (ha : Nat) (m0 : Nat) (m1 : Nat) (m2 : Nat) (m3 : Nat) (J : Int32 → (Nat → Int32) → (Nat → Nat) → (Nat → Int32) → (Nat → Nat → Int32) → Int32 → (Nat → Nat) → (Nat → Int32) → (Nat → Nat → Int32) → (Nat → Nat) → (Nat → Int32) → (Nat → Nat → Int32) → (Nat → Nat) → (Nat → Int32) → (Nat → Nat → Int32) → (Nat → Int32) → (Nat → Int32) → Int32 → (Nat → Int32) → Int64 → Prop) (hJ : ∀ (x3 : Int32) (a_errors : Nat → Int32) (a0 : Nat → Nat) (n0 : Nat → Int32) (r0 : Nat → Nat → Int32) (n_saved : Int32) (a1 : Nat → Nat) (n1 : Nat → Int32) (r1 : Nat → Nat → Int32) (a2 : Nat → Nat) (n2 : Nat → Int32) (r2 : Nat → Nat → Int32) (a3 : Nat → Nat) (n3 : Nat → Int32) (r3 : Nat → Nat → Int32) (a_now_m : Nat → Int32) (a_past_m : Nat → Int32) (n_saved_m : Int32) (a_errors_m : Nat → Int32) (n_hash_m : Int64), J x3 a_errors a0 n0 r0 n_saved a1 n1 r1 a2 n2 r2 a3 n3 r3 a_now_m a_past_m n_saved_m a_errors_m n_hash_m → V p l e room_1 s m #[.ref b] below meth c E A 4 76 3239 (lw_Z below #[.ref b] s) 18 [(0, .ref b), (1, .ref h0), (2, .ref m0), (3, .int x3)] [] (LW E h0 hh he ha m0 m1 m2 m3 a_errors a0 n0 r0 n_saved a1 n1 r1 a2 n2 r2 a3 n3 r3 a_now_m a_past_m n_saved_m a_errors_m n_hash_m)) (x3 : Int32) (a_errors : Nat → Int32) (a0 : Nat → Nat) (n0 : Nat → Int32) (r0 : Nat → Nat → Int32) (n_saved : Int32) (a1 : Nat → Nat) (n1 : Nat → Int32) (r1 : Nat → Nat → Int32) (a2 : Nat → Nat) (n2 : Nat → Int32) (r2 : Nat → Nat → Int32) (a3 : Nat → Nat) (n3 : Nat → Int32) (r3 : Nat → Nat → Int32) (a_now_m : Nat → Int32) (a_past_m : Nat → Int32) (n_saved_m : Int32) (a_errors_m : Nat → Int32) (n_hash_m : Int64) (hw : wc_606 L xs J x3 a_errors a0 n0 r0 n_saved a1 n1 r1 a2 n2 r2 a3 n3 r3 a_now_m a_past_m n_saved_m a_errors_m n_hash_m) : V p l e room_1 s m #[.ref b] below meth c E A 4 76 3239 (lw_Z below #[.ref b] s) 606 [(0, .ref b), (1, .ref h0), (2, .ref m0), (3, .int x3)] [] (LW E h0 hh he ha m0 m1 m2 m3 a_errors a0 n0 r0 n_saved a1 n1 r1 a2 n2 r2 a3 n3 r3 a_now_m a_past_m n_saved_m a_errors_m n_hash_m) := by
  rw [wc_606] at hw
  refine V_aload_n hC 1 rfl rfl dL_law_606 ?_
  refine V_aload_n hC 0 rfl rfl dL_law_607 ?_
  refine V_iload_n hC 3 rfl rfl dL_law_608 ?_
  refine V_iconst hC 1 dL_law_609 (by decide) ?_
  refine V_iadd hC dL_law_610 ?_
  refine V_sld hC hX hw.1 dL_law_611 ?_
  have hw := hw.2
  refine V_callP hC ((LW E h0 hh he ha m0 m1 m2 m3 a_errors a0 n0 r0 n_saved a1 n1 r1 a2 n2 r2 a3 n3 r3 a_now_m a_past_m n_saved_m a_errors_m n_hash_m).drop 72) 1 [.int (xs (Int32.toNatClampNeg (x3 + 1)))] [] (ct_X8_serve l E h0 hh he a0 ha a_errors n0 r0 n_saved a1 n1 r1 a2 n2 r2 a3 n3 r3 (xs (Int32.toNatClampNeg (x3 + 1))) _ hw) wd_512 wd_32 wd_509 wd_510 wd_511 (by decide +kernel) rfl ⟨Nat.le_of_ble_eq_true rfl, Nat.le_of_ble_eq_true rfl⟩ rfl rfl rfl rfl (Nat.le_of_ble_eq_true rfl) ⟨Nat.le_of_ble_eq_true rfl, Nat.le_of_ble_eq_true rfl⟩ dL_law_612 (fun v ws' hp => ?_)
  obtain ⟨v1, g2, g3, g4, s5, g6, g7, g8, g9, g10, g11, g12, g13, g14, rfl, rfl, hw⟩ := hp
  refine V_wst [.int v1] (LW E h0 hh he ha m0 m1 m2 m3 g2 a0 g3 g4 s5 g6 g7 g8 g9 g10 g11 g12 g13 g14 a_now_m a_past_m n_saved_m a_errors_m n_hash_m) rfl rfl ?_
  refine V_aload_n hC 2 rfl rfl dL_law_615 ?_
  refine V_aload_n hC 0 rfl rfl dL_law_616 ?_
  refine V_iload_n hC 3 rfl rfl dL_law_617 ?_
  refine V_iconst hC 1 dL_law_618 (by decide) ?_
  refine V_iadd hC dL_law_619 ?_
  refine V_sld hC hX hw.1 dL_law_620 ?_
  have hw := hw.2
  refine V_callQ hC ((LW E h0 hh he ha m0 m1 m2 m3 g2 a0 g3 g4 s5 g6 g7 g8 g9 g10 g11 g12 g13 g14 a_now_m a_past_m n_saved_m a_errors_m n_hash_m).take 72) 1 [.int (xs (Int32.toNatClampNeg (x3 + 1)))] [.int v1] (ct_X9_serve l E m0 m1 m2 m3 a_now_m a_past_m n_saved_m a_errors_m n_hash_m (xs (Int32.toNatClampNeg (x3 + 1))) _ hw) wd_803 wd_40 wd_800 wd_801 wd_802 (by decide +kernel) rfl ⟨Nat.le_of_ble_eq_true rfl, Nat.le_of_ble_eq_true rfl⟩ rfl rfl rfl rfl (Nat.le_of_ble_eq_true rfl) ⟨Nat.le_of_ble_eq_true rfl, Nat.le_of_ble_eq_true rfl⟩ dL_law_621 (fun v ws' hp => ?_)
  obtain ⟨v15, g16, g17, s18, g19, rfl, rfl, hw⟩ := hp
  refine V_wst [.int v15, .int v1] (LW E h0 hh he ha m0 m1 m2 m3 g2 a0 g3 g4 s5 g6 g7 g8 g9 g10 g11 g12 g13 g14 g16 g17 s18 g19 n_hash_m) rfl rfl ?_
  refine V_icmp_eq hC 771 (by decide) dL_law_624 (fun c20 => ?_) (fun c20 => ?_)
  · have hw := hw.1 c20
    refine V_iinc hC (x3 + 5) 3 [(3, .int (x3 + 5)), (0, .ref b), (1, .ref h0), (2, .ref m0)] rfl (congrArg (fun z => x3 + z) (by decide : Int32.ofInt (5) = (5 : Int32))) (by decide) rfl dL_law_771 ?_
    refine V_goto hC 18 (by decide) dL_law_774 ?_
    refine V_lv [(0, .ref b), (1, .ref h0), (2, .ref m0), (3, .int (x3 + 5))] [1, 2, 3, 0] rfl ?_
    exact hJ (x3 + 5) g2 a0 g3 g4 s5 g6 g7 g8 g9 g10 g11 g12 g13 g14 g16 g17 s18 g19 n_hash_m hw
  · have hw := hw.2 c20
    refine V_iconst hC 0 dL_law_627 (by decide) ?_
    exact hw.elim
def wc_629 (L : Nat) (xs : Nat → Int32) (J : Int32 → (Nat → Int32) → (Nat → Nat) → (Nat → Int32) → (Nat → Nat → Int32) → Int32 → (Nat → Nat) → (Nat → Int32) → (Nat → Nat → Int32) → (Nat → Nat) → (Nat → Int32) → (Nat → Nat → Int32) → (Nat → Nat) → (Nat → Int32) → (Nat → Nat → Int32) → (Nat → Int32) → (Nat → Int32) → Int32 → (Nat → Int32) → Int64 → Prop) (x3 : Int32) (a_errors : Nat → Int32) (a0 : Nat → Nat) (n0 : Nat → Int32) (r0 : Nat → Nat → Int32) (n_saved : Int32) (a1 : Nat → Nat) (n1 : Nat → Int32) (r1 : Nat → Nat → Int32) (a2 : Nat → Nat) (n2 : Nat → Int32) (r2 : Nat → Nat → Int32) (a3 : Nat → Nat) (n3 : Nat → Int32) (r3 : Nat → Nat → Int32) (a_now_m : Nat → Int32) (a_past_m : Nat → Int32) (n_saved_m : Int32) (a_errors_m : Nat → Int32) (n_hash_m : Int64) : Prop := (vp_in (x3 + 1) L ∧ (wp_X8_queued a_errors n0 r0 (xs (Int32.toNatClampNeg (x3 + 1))) (fun (v1 : Int32) (g2 : Nat → Int32) => (vp_in (x3 + 1) L ∧ (wp_X9_queued a_now_m a_past_m n_saved_m a_errors_m n_hash_m (xs (Int32.toNatClampNeg (x3 + 1))) (fun (v3 : Int32) (g4 : Nat → Int32) => ((v1 = v3 → J (x3 + 5) g2 a0 n0 r0 n_saved a1 n1 r1 a2 n2 r2 a3 n3 r3 a_now_m a_past_m n_saved_m g4 n_hash_m) ∧ (¬ (v1 = v3) → False))))))))
set_option maxRecDepth 100000 in
set_option maxHeartbeats 4000000 in
theorem bc_629 {p : Program} {l : Launch} {e : Env} {s : State} {m : MethodId} {below : List Frame} {meth : Method} {c : Code} {E : EN} {A : Nat → Prop} {b L : Nat} {xs : Nat → Int32} (hC : Cx p s m #[.ref b] meth c E A cL_law 4 "CookieServerLaw") (hr : meth.sig.returnType = ret) (hX : va_X b L xs s s.heap ∧ b < s.heap.size ∧ ¬ A b) (hA9 : ∀ q, A q → s.heap.size ≤ q) (h0 : Nat) (hh : Nat) (he : Nat) (ha : Nat) (m0 : Nat) (m1 : Nat) (m2 : Nat) (m3 : Nat) (J : Int32 → (Nat → Int32) → (Nat → Nat) → (Nat → Int32) → (Nat → Nat → Int32) → Int32 → (Nat → Nat) → (Nat → Int32) → (Nat → Nat → Int32) → (Nat → Nat) → (Nat → Int32) → (Nat → Nat → Int32) → (Nat → Nat) → (Nat → Int32) → (Nat → Nat → Int32) → (Nat → Int32) → (Nat → Int32) → Int32 → (Nat → Int32) → Int64 → Prop) (hJ : ∀ (x3 : Int32) (a_errors : Nat → Int32) (a0 : Nat → Nat) (n0 : Nat → Int32) (r0 : Nat → Nat → Int32) (n_saved : Int32) (a1 : Nat → Nat) (n1 : Nat → Int32) (r1 : Nat → Nat → Int32) (a2 : Nat → Nat) (n2 : Nat → Int32) (r2 : Nat → Nat → Int32) (a3 : Nat → Nat) (n3 : Nat → Int32) (r3 : Nat → Nat → Int32) (a_now_m : Nat → Int32) (a_past_m : Nat → Int32) (n_saved_m : Int32) (a_errors_m : Nat → Int32) (n_hash_m : Int64), J x3 a_errors a0 n0 r0 n_saved a1 n1 r1 a2 n2 r2 a3 n3 r3 a_now_m a_past_m n_saved_m a_errors_m n_hash_m → V p l e room_1 s m #[.ref b] below meth c E A 4 76 3239 (lw_Z below #[.ref b] s) 18 [(0, .ref b), (1, .ref h0), (2, .ref m0), (3, .int x3)] [] (LW E h0 hh he ha m0 m1 m2 m3 a_errors a0 n0 r0 n_saved a1 n1 r1 a2 n2 r2 a3 n3 r3 a_now_m a_past_m n_saved_m a_errors_m n_hash_m)) (x3 : Int32) (a_errors : Nat → Int32) (a0 : Nat → Nat) (n0 : Nat → Int32) (r0 : Nat → Nat → Int32) (n_saved : Int32) (a1 : Nat → Nat) (n1 : Nat → Int32) (r1 : Nat → Nat → Int32) (a2 : Nat → Nat) (n2 : Nat → Int32) (r2 : Nat → Nat → Int32) (a3 : Nat → Nat) (n3 : Nat → Int32) (r3 : Nat → Nat → Int32) (a_now_m : Nat → Int32) (a_past_m : Nat → Int32) (n_saved_m : Int32) (a_errors_m : Nat → Int32) (n_hash_m : Int64) (hw : wc_629 L xs J x3 a_errors a0 n0 r0 n_saved a1 n1 r1 a2 n2 r2 a3 n3 r3 a_now_m a_past_m n_saved_m a_errors_m n_hash_m) : V p l e room_1 s m #[.ref b] below meth c E A 4 76 3239 (lw_Z below #[.ref b] s) 629 [(0, .ref b), (1, .ref h0), (2, .ref m0), (3, .int x3)] [] (LW E h0 hh he ha m0 m1 m2 m3 a_errors a0 n0 r0 n_saved a1 n1 r1 a2 n2 r2 a3 n3 r3 a_now_m a_past_m n_saved_m a_errors_m n_hash_m) := by
  rw [wc_629] at hw
  refine V_aload_n hC 1 rfl rfl dL_law_629 ?_
  refine V_aload_n hC 0 rfl rfl dL_law_630 ?_
  refine V_iload_n hC 3 rfl rfl dL_law_631 ?_
  refine V_iconst hC 1 dL_law_632 (by decide) ?_
  refine V_iadd hC dL_law_633 ?_
  refine V_sld hC hX hw.1 dL_law_634 ?_
  have hw := hw.2
  refine V_callP hC ((LW E h0 hh he ha m0 m1 m2 m3 a_errors a0 n0 r0 n_saved a1 n1 r1 a2 n2 r2 a3 n3 r3 a_now_m a_past_m n_saved_m a_errors_m n_hash_m).drop 19) 1 [.int (xs (Int32.toNatClampNeg (x3 + 1)))] [] (ct_X8_queued l E h0 hh he a0 a_errors n0 r0 (xs (Int32.toNatClampNeg (x3 + 1))) _ hw) wd_536 wd_32 wd_533 wd_534 wd_535 (by decide +kernel) rfl ⟨Nat.le_of_ble_eq_true rfl, Nat.le_of_ble_eq_true rfl⟩ rfl rfl rfl rfl (Nat.le_of_ble_eq_true rfl) ⟨Nat.le_of_ble_eq_true rfl, Nat.le_of_ble_eq_true rfl⟩ dL_law_635 (fun v ws' hp => ?_)
  obtain ⟨v1, g2, rfl, rfl, hw⟩ := hp
  refine V_wst [.int v1] (LW E h0 hh he ha m0 m1 m2 m3 g2 a0 n0 r0 n_saved a1 n1 r1 a2 n2 r2 a3 n3 r3 a_now_m a_past_m n_saved_m a_errors_m n_hash_m) rfl rfl ?_
  refine V_aload_n hC 2 rfl rfl dL_law_638 ?_
  refine V_aload_n hC 0 rfl rfl dL_law_639 ?_
  refine V_iload_n hC 3 rfl rfl dL_law_640 ?_
  refine V_iconst hC 1 dL_law_641 (by decide) ?_
  refine V_iadd hC dL_law_642 ?_
  refine V_sld hC hX hw.1 dL_law_643 ?_
  have hw := hw.2
  refine V_callQ hC ((LW E h0 hh he ha m0 m1 m2 m3 g2 a0 n0 r0 n_saved a1 n1 r1 a2 n2 r2 a3 n3 r3 a_now_m a_past_m n_saved_m a_errors_m n_hash_m).take 72) 1 [.int (xs (Int32.toNatClampNeg (x3 + 1)))] [.int v1] (ct_X9_queued l E m0 m1 m2 m3 a_now_m a_past_m n_saved_m a_errors_m n_hash_m (xs (Int32.toNatClampNeg (x3 + 1))) _ hw) wd_819 wd_40 wd_816 wd_817 wd_818 (by decide +kernel) rfl ⟨Nat.le_of_ble_eq_true rfl, Nat.le_of_ble_eq_true rfl⟩ rfl rfl rfl rfl (Nat.le_of_ble_eq_true rfl) ⟨Nat.le_of_ble_eq_true rfl, Nat.le_of_ble_eq_true rfl⟩ dL_law_644 (fun v ws' hp => ?_)
  obtain ⟨v3, g4, rfl, rfl, hw⟩ := hp
  refine V_wst [.int v3, .int v1] (LW E h0 hh he ha m0 m1 m2 m3 g2 a0 n0 r0 n_saved a1 n1 r1 a2 n2 r2 a3 n3 r3 a_now_m a_past_m n_saved_m g4 n_hash_m) rfl rfl ?_
  refine V_icmp_eq hC 771 (by decide) dL_law_647 (fun c5 => ?_) (fun c5 => ?_)
  · have hw := hw.1 c5
    refine V_iinc hC (x3 + 5) 3 [(3, .int (x3 + 5)), (0, .ref b), (1, .ref h0), (2, .ref m0)] rfl (congrArg (fun z => x3 + z) (by decide : Int32.ofInt (5) = (5 : Int32))) (by decide) rfl dL_law_771 ?_
    refine V_goto hC 18 (by decide) dL_law_774 ?_
    refine V_lv [(0, .ref b), (1, .ref h0), (2, .ref m0), (3, .int (x3 + 5))] [1, 2, 3, 0] rfl ?_
    exact hJ (x3 + 5) g2 a0 n0 r0 n_saved a1 n1 r1 a2 n2 r2 a3 n3 r3 a_now_m a_past_m n_saved_m g4 n_hash_m hw
  · have hw := hw.2 c5
    refine V_iconst hC 0 dL_law_650 (by decide) ?_
    exact hw.elim
def wc_652 (L : Nat) (xs : Nat → Int32) (J : Int32 → (Nat → Int32) → (Nat → Nat) → (Nat → Int32) → (Nat → Nat → Int32) → Int32 → (Nat → Nat) → (Nat → Int32) → (Nat → Nat → Int32) → (Nat → Nat) → (Nat → Int32) → (Nat → Nat → Int32) → (Nat → Nat) → (Nat → Int32) → (Nat → Nat → Int32) → (Nat → Int32) → (Nat → Int32) → Int32 → (Nat → Int32) → Int64 → Prop) (x3 : Int32) (a_errors : Nat → Int32) (a0 : Nat → Nat) (n0 : Nat → Int32) (r0 : Nat → Nat → Int32) (n_saved : Int32) (a1 : Nat → Nat) (n1 : Nat → Int32) (r1 : Nat → Nat → Int32) (a2 : Nat → Nat) (n2 : Nat → Int32) (r2 : Nat → Nat → Int32) (a3 : Nat → Nat) (n3 : Nat → Int32) (r3 : Nat → Nat → Int32) (a_now_m : Nat → Int32) (a_past_m : Nat → Int32) (n_saved_m : Int32) (a_errors_m : Nat → Int32) (n_hash_m : Int64) : Prop := (vp_in (x3 + 1) L ∧ (wp_X8_credit a_errors n0 r0 (xs (Int32.toNatClampNeg (x3 + 1))) (fun (v1 : Int32) (g2 : Nat → Int32) => (vp_in (x3 + 1) L ∧ (wp_X9_credit a_now_m a_past_m n_saved_m a_errors_m n_hash_m (xs (Int32.toNatClampNeg (x3 + 1))) (fun (v3 : Int32) (g4 : Nat → Int32) => ((v1 = v3 → J (x3 + 5) g2 a0 n0 r0 n_saved a1 n1 r1 a2 n2 r2 a3 n3 r3 a_now_m a_past_m n_saved_m g4 n_hash_m) ∧ (¬ (v1 = v3) → False))))))))
set_option maxRecDepth 100000 in
set_option maxHeartbeats 4000000 in
theorem bc_652 {p : Program} {l : Launch} {e : Env} {s : State} {m : MethodId} {below : List Frame} {meth : Method} {c : Code} {E : EN} {A : Nat → Prop} {b L : Nat} {xs : Nat → Int32} (hC : Cx p s m #[.ref b] meth c E A cL_law 4 "CookieServerLaw") (hr : meth.sig.returnType = ret) (hX : va_X b L xs s s.heap ∧ b < s.heap.size ∧ ¬ A b) (hA9 : ∀ q, A q → s.heap.size ≤ q) (h0 : Nat) (hh : Nat) (he : Nat) (ha : Nat) (m0 : Nat) (m1 : Nat) (m2 : Nat) (m3 : Nat) (J : Int32 → (Nat → Int32) → (Nat → Nat) → (Nat → Int32) → (Nat → Nat → Int32) → Int32 → (Nat → Nat) → (Nat → Int32) → (Nat → Nat → Int32) → (Nat → Nat) → (Nat → Int32) → (Nat → Nat → Int32) → (Nat → Nat) → (Nat → Int32) → (Nat → Nat → Int32) → (Nat → Int32) → (Nat → Int32) → Int32 → (Nat → Int32) → Int64 → Prop) (hJ : ∀ (x3 : Int32) (a_errors : Nat → Int32) (a0 : Nat → Nat) (n0 : Nat → Int32) (r0 : Nat → Nat → Int32) (n_saved : Int32) (a1 : Nat → Nat) (n1 : Nat → Int32) (r1 : Nat → Nat → Int32) (a2 : Nat → Nat) (n2 : Nat → Int32) (r2 : Nat → Nat → Int32) (a3 : Nat → Nat) (n3 : Nat → Int32) (r3 : Nat → Nat → Int32) (a_now_m : Nat → Int32) (a_past_m : Nat → Int32) (n_saved_m : Int32) (a_errors_m : Nat → Int32) (n_hash_m : Int64), J x3 a_errors a0 n0 r0 n_saved a1 n1 r1 a2 n2 r2 a3 n3 r3 a_now_m a_past_m n_saved_m a_errors_m n_hash_m → V p l e room_1 s m #[.ref b] below meth c E A 4 76 3239 (lw_Z below #[.ref b] s) 18 [(0, .ref b), (1, .ref h0), (2, .ref m0), (3, .int x3)] [] (LW E h0 hh he ha m0 m1 m2 m3 a_errors a0 n0 r0 n_saved a1 n1 r1 a2 n2 r2 a3 n3 r3 a_now_m a_past_m n_saved_m a_errors_m n_hash_m)) (x3 : Int32) (a_errors : Nat → Int32) (a0 : Nat → Nat) (n0 : Nat → Int32) (r0 : Nat → Nat → Int32) (n_saved : Int32) (a1 : Nat → Nat) (n1 : Nat → Int32) (r1 : Nat → Nat → Int32) (a2 : Nat → Nat) (n2 : Nat → Int32) (r2 : Nat → Nat → Int32) (a3 : Nat → Nat) (n3 : Nat → Int32) (r3 : Nat → Nat → Int32) (a_now_m : Nat → Int32) (a_past_m : Nat → Int32) (n_saved_m : Int32) (a_errors_m : Nat → Int32) (n_hash_m : Int64) (hw : wc_652 L xs J x3 a_errors a0 n0 r0 n_saved a1 n1 r1 a2 n2 r2 a3 n3 r3 a_now_m a_past_m n_saved_m a_errors_m n_hash_m) : V p l e room_1 s m #[.ref b] below meth c E A 4 76 3239 (lw_Z below #[.ref b] s) 652 [(0, .ref b), (1, .ref h0), (2, .ref m0), (3, .int x3)] [] (LW E h0 hh he ha m0 m1 m2 m3 a_errors a0 n0 r0 n_saved a1 n1 r1 a2 n2 r2 a3 n3 r3 a_now_m a_past_m n_saved_m a_errors_m n_hash_m) := by
  rw [wc_652] at hw
  refine V_aload_n hC 1 rfl rfl dL_law_652 ?_
  refine V_aload_n hC 0 rfl rfl dL_law_653 ?_
  refine V_iload_n hC 3 rfl rfl dL_law_654 ?_
  refine V_iconst hC 1 dL_law_655 (by decide) ?_
  refine V_iadd hC dL_law_656 ?_
  refine V_sld hC hX hw.1 dL_law_657 ?_
  have hw := hw.2
  refine V_callP hC ((LW E h0 hh he ha m0 m1 m2 m3 a_errors a0 n0 r0 n_saved a1 n1 r1 a2 n2 r2 a3 n3 r3 a_now_m a_past_m n_saved_m a_errors_m n_hash_m).drop 19) 1 [.int (xs (Int32.toNatClampNeg (x3 + 1)))] [] (ct_X8_credit l E h0 hh he a0 a_errors n0 r0 (xs (Int32.toNatClampNeg (x3 + 1))) _ hw) wd_540 wd_32 wd_537 wd_538 wd_539 (by decide +kernel) rfl ⟨Nat.le_of_ble_eq_true rfl, Nat.le_of_ble_eq_true rfl⟩ rfl rfl rfl rfl (Nat.le_of_ble_eq_true rfl) ⟨Nat.le_of_ble_eq_true rfl, Nat.le_of_ble_eq_true rfl⟩ dL_law_658 (fun v ws' hp => ?_)
  obtain ⟨v1, g2, rfl, rfl, hw⟩ := hp
  refine V_wst [.int v1] (LW E h0 hh he ha m0 m1 m2 m3 g2 a0 n0 r0 n_saved a1 n1 r1 a2 n2 r2 a3 n3 r3 a_now_m a_past_m n_saved_m a_errors_m n_hash_m) rfl rfl ?_
  refine V_aload_n hC 2 rfl rfl dL_law_661 ?_
  refine V_aload_n hC 0 rfl rfl dL_law_662 ?_
  refine V_iload_n hC 3 rfl rfl dL_law_663 ?_
  refine V_iconst hC 1 dL_law_664 (by decide) ?_
  refine V_iadd hC dL_law_665 ?_
  refine V_sld hC hX hw.1 dL_law_666 ?_
  have hw := hw.2
  refine V_callQ hC ((LW E h0 hh he ha m0 m1 m2 m3 g2 a0 n0 r0 n_saved a1 n1 r1 a2 n2 r2 a3 n3 r3 a_now_m a_past_m n_saved_m a_errors_m n_hash_m).take 72) 1 [.int (xs (Int32.toNatClampNeg (x3 + 1)))] [.int v1] (ct_X9_credit l E m0 m1 m2 m3 a_now_m a_past_m n_saved_m a_errors_m n_hash_m (xs (Int32.toNatClampNeg (x3 + 1))) _ hw) wd_823 wd_40 wd_820 wd_821 wd_822 (by decide +kernel) rfl ⟨Nat.le_of_ble_eq_true rfl, Nat.le_of_ble_eq_true rfl⟩ rfl rfl rfl rfl (Nat.le_of_ble_eq_true rfl) ⟨Nat.le_of_ble_eq_true rfl, Nat.le_of_ble_eq_true rfl⟩ dL_law_667 (fun v ws' hp => ?_)
  obtain ⟨v3, g4, rfl, rfl, hw⟩ := hp
  refine V_wst [.int v3, .int v1] (LW E h0 hh he ha m0 m1 m2 m3 g2 a0 n0 r0 n_saved a1 n1 r1 a2 n2 r2 a3 n3 r3 a_now_m a_past_m n_saved_m g4 n_hash_m) rfl rfl ?_
  refine V_icmp_eq hC 771 (by decide) dL_law_670 (fun c5 => ?_) (fun c5 => ?_)
  · have hw := hw.1 c5
    refine V_iinc hC (x3 + 5) 3 [(3, .int (x3 + 5)), (0, .ref b), (1, .ref h0), (2, .ref m0)] rfl (congrArg (fun z => x3 + z) (by decide : Int32.ofInt (5) = (5 : Int32))) (by decide) rfl dL_law_771 ?_
    refine V_goto hC 18 (by decide) dL_law_774 ?_
    refine V_lv [(0, .ref b), (1, .ref h0), (2, .ref m0), (3, .int (x3 + 5))] [1, 2, 3, 0] rfl ?_
    exact hJ (x3 + 5) g2 a0 n0 r0 n_saved a1 n1 r1 a2 n2 r2 a3 n3 r3 a_now_m a_past_m n_saved_m g4 n_hash_m hw
  · have hw := hw.2 c5
    refine V_iconst hC 0 dL_law_673 (by decide) ?_
    exact hw.elim
def wc_675 (L : Nat) (xs : Nat → Int32) (J : Int32 → (Nat → Int32) → (Nat → Nat) → (Nat → Int32) → (Nat → Nat → Int32) → Int32 → (Nat → Nat) → (Nat → Int32) → (Nat → Nat → Int32) → (Nat → Nat) → (Nat → Int32) → (Nat → Nat → Int32) → (Nat → Nat) → (Nat → Int32) → (Nat → Nat → Int32) → (Nat → Int32) → (Nat → Int32) → Int32 → (Nat → Int32) → Int64 → Prop) (x3 : Int32) (a_errors : Nat → Int32) (a0 : Nat → Nat) (n0 : Nat → Int32) (r0 : Nat → Nat → Int32) (n_saved : Int32) (a1 : Nat → Nat) (n1 : Nat → Int32) (r1 : Nat → Nat → Int32) (a2 : Nat → Nat) (n2 : Nat → Int32) (r2 : Nat → Nat → Int32) (a3 : Nat → Nat) (n3 : Nat → Int32) (r3 : Nat → Nat → Int32) (a_now_m : Nat → Int32) (a_past_m : Nat → Int32) (n_saved_m : Int32) (a_errors_m : Nat → Int32) (n_hash_m : Int64) : Prop := (vp_in (x3 + 1) L ∧ (wp_X8_served a_errors n0 r0 (xs (Int32.toNatClampNeg (x3 + 1))) (fun (v1 : Int32) (g2 : Nat → Int32) => (vp_in (x3 + 1) L ∧ (wp_X9_served a_now_m a_past_m n_saved_m a_errors_m n_hash_m (xs (Int32.toNatClampNeg (x3 + 1))) (fun (v3 : Int32) (g4 : Nat → Int32) => ((v1 = v3 → J (x3 + 5) g2 a0 n0 r0 n_saved a1 n1 r1 a2 n2 r2 a3 n3 r3 a_now_m a_past_m n_saved_m g4 n_hash_m) ∧ (¬ (v1 = v3) → False))))))))
set_option maxRecDepth 100000 in
set_option maxHeartbeats 4000000 in
theorem bc_675 {p : Program} {l : Launch} {e : Env} {s : State} {m : MethodId} {below : List Frame} {meth : Method} {c : Code} {E : EN} {A : Nat → Prop} {b L : Nat} {xs : Nat → Int32} (hC : Cx p s m #[.ref b] meth c E A cL_law 4 "CookieServerLaw") (hr : meth.sig.returnType = ret) (hX : va_X b L xs s s.heap ∧ b < s.heap.size ∧ ¬ A b) (hA9 : ∀ q, A q → s.heap.size ≤ q) (h0 : Nat) (hh : Nat) (he : Nat) (ha : Nat) (m0 : Nat) (m1 : Nat) (m2 : Nat) (m3 : Nat) (J : Int32 → (Nat → Int32) → (Nat → Nat) → (Nat → Int32) → (Nat → Nat → Int32) → Int32 → (Nat → Nat) → (Nat → Int32) → (Nat → Nat → Int32) → (Nat → Nat) → (Nat → Int32) → (Nat → Nat → Int32) → (Nat → Nat) → (Nat → Int32) → (Nat → Nat → Int32) → (Nat → Int32) → (Nat → Int32) → Int32 → (Nat → Int32) → Int64 → Prop) (hJ : ∀ (x3 : Int32) (a_errors : Nat → Int32) (a0 : Nat → Nat) (n0 : Nat → Int32) (r0 : Nat → Nat → Int32) (n_saved : Int32) (a1 : Nat → Nat) (n1 : Nat → Int32) (r1 : Nat → Nat → Int32) (a2 : Nat → Nat) (n2 : Nat → Int32) (r2 : Nat → Nat → Int32) (a3 : Nat → Nat) (n3 : Nat → Int32) (r3 : Nat → Nat → Int32) (a_now_m : Nat → Int32) (a_past_m : Nat → Int32) (n_saved_m : Int32) (a_errors_m : Nat → Int32) (n_hash_m : Int64), J x3 a_errors a0 n0 r0 n_saved a1 n1 r1 a2 n2 r2 a3 n3 r3 a_now_m a_past_m n_saved_m a_errors_m n_hash_m → V p l e room_1 s m #[.ref b] below meth c E A 4 76 3239 (lw_Z below #[.ref b] s) 18 [(0, .ref b), (1, .ref h0), (2, .ref m0), (3, .int x3)] [] (LW E h0 hh he ha m0 m1 m2 m3 a_errors a0 n0 r0 n_saved a1 n1 r1 a2 n2 r2 a3 n3 r3 a_now_m a_past_m n_saved_m a_errors_m n_hash_m)) (x3 : Int32) (a_errors : Nat → Int32) (a0 : Nat → Nat) (n0 : Nat → Int32) (r0 : Nat → Nat → Int32) (n_saved : Int32) (a1 : Nat → Nat) (n1 : Nat → Int32) (r1 : Nat → Nat → Int32) (a2 : Nat → Nat) (n2 : Nat → Int32) (r2 : Nat → Nat → Int32) (a3 : Nat → Nat) (n3 : Nat → Int32) (r3 : Nat → Nat → Int32) (a_now_m : Nat → Int32) (a_past_m : Nat → Int32) (n_saved_m : Int32) (a_errors_m : Nat → Int32) (n_hash_m : Int64) (hw : wc_675 L xs J x3 a_errors a0 n0 r0 n_saved a1 n1 r1 a2 n2 r2 a3 n3 r3 a_now_m a_past_m n_saved_m a_errors_m n_hash_m) : V p l e room_1 s m #[.ref b] below meth c E A 4 76 3239 (lw_Z below #[.ref b] s) 675 [(0, .ref b), (1, .ref h0), (2, .ref m0), (3, .int x3)] [] (LW E h0 hh he ha m0 m1 m2 m3 a_errors a0 n0 r0 n_saved a1 n1 r1 a2 n2 r2 a3 n3 r3 a_now_m a_past_m n_saved_m a_errors_m n_hash_m) := by
  rw [wc_675] at hw
  refine V_aload_n hC 1 rfl rfl dL_law_675 ?_
  refine V_aload_n hC 0 rfl rfl dL_law_676 ?_
  refine V_iload_n hC 3 rfl rfl dL_law_677 ?_
  refine V_iconst hC 1 dL_law_678 (by decide) ?_
  refine V_iadd hC dL_law_679 ?_
  refine V_sld hC hX hw.1 dL_law_680 ?_
  have hw := hw.2
  refine V_callP hC ((LW E h0 hh he ha m0 m1 m2 m3 a_errors a0 n0 r0 n_saved a1 n1 r1 a2 n2 r2 a3 n3 r3 a_now_m a_past_m n_saved_m a_errors_m n_hash_m).drop 19) 1 [.int (xs (Int32.toNatClampNeg (x3 + 1)))] [] (ct_X8_served l E h0 hh he a0 a_errors n0 r0 (xs (Int32.toNatClampNeg (x3 + 1))) _ hw) wd_544 wd_32 wd_541 wd_542 wd_543 (by decide +kernel) rfl ⟨Nat.le_of_ble_eq_true rfl, Nat.le_of_ble_eq_true rfl⟩ rfl rfl rfl rfl (Nat.le_of_ble_eq_true rfl) ⟨Nat.le_of_ble_eq_true rfl, Nat.le_of_ble_eq_true rfl⟩ dL_law_681 (fun v ws' hp => ?_)
  obtain ⟨v1, g2, rfl, rfl, hw⟩ := hp
  refine V_wst [.int v1] (LW E h0 hh he ha m0 m1 m2 m3 g2 a0 n0 r0 n_saved a1 n1 r1 a2 n2 r2 a3 n3 r3 a_now_m a_past_m n_saved_m a_errors_m n_hash_m) rfl rfl ?_
  refine V_aload_n hC 2 rfl rfl dL_law_684 ?_
  refine V_aload_n hC 0 rfl rfl dL_law_685 ?_
  refine V_iload_n hC 3 rfl rfl dL_law_686 ?_
  refine V_iconst hC 1 dL_law_687 (by decide) ?_
  refine V_iadd hC dL_law_688 ?_
  refine V_sld hC hX hw.1 dL_law_689 ?_
  have hw := hw.2
  refine V_callQ hC ((LW E h0 hh he ha m0 m1 m2 m3 g2 a0 n0 r0 n_saved a1 n1 r1 a2 n2 r2 a3 n3 r3 a_now_m a_past_m n_saved_m a_errors_m n_hash_m).take 72) 1 [.int (xs (Int32.toNatClampNeg (x3 + 1)))] [.int v1] (ct_X9_served l E m0 m1 m2 m3 a_now_m a_past_m n_saved_m a_errors_m n_hash_m (xs (Int32.toNatClampNeg (x3 + 1))) _ hw) wd_827 wd_40 wd_824 wd_825 wd_826 (by decide +kernel) rfl ⟨Nat.le_of_ble_eq_true rfl, Nat.le_of_ble_eq_true rfl⟩ rfl rfl rfl rfl (Nat.le_of_ble_eq_true rfl) ⟨Nat.le_of_ble_eq_true rfl, Nat.le_of_ble_eq_true rfl⟩ dL_law_690 (fun v ws' hp => ?_)
  obtain ⟨v3, g4, rfl, rfl, hw⟩ := hp
  refine V_wst [.int v3, .int v1] (LW E h0 hh he ha m0 m1 m2 m3 g2 a0 n0 r0 n_saved a1 n1 r1 a2 n2 r2 a3 n3 r3 a_now_m a_past_m n_saved_m g4 n_hash_m) rfl rfl ?_
  refine V_icmp_eq hC 771 (by decide) dL_law_693 (fun c5 => ?_) (fun c5 => ?_)
  · have hw := hw.1 c5
    refine V_iinc hC (x3 + 5) 3 [(3, .int (x3 + 5)), (0, .ref b), (1, .ref h0), (2, .ref m0)] rfl (congrArg (fun z => x3 + z) (by decide : Int32.ofInt (5) = (5 : Int32))) (by decide) rfl dL_law_771 ?_
    refine V_goto hC 18 (by decide) dL_law_774 ?_
    refine V_lv [(0, .ref b), (1, .ref h0), (2, .ref m0), (3, .int (x3 + 5))] [1, 2, 3, 0] rfl ?_
    exact hJ (x3 + 5) g2 a0 n0 r0 n_saved a1 n1 r1 a2 n2 r2 a3 n3 r3 a_now_m a_past_m n_saved_m g4 n_hash_m hw
  · have hw := hw.2 c5
    refine V_iconst hC 0 dL_law_696 (by decide) ?_
    exact hw.elim
def wc_698 (L : Nat) (xs : Nat → Int32) (J : Int32 → (Nat → Int32) → (Nat → Nat) → (Nat → Int32) → (Nat → Nat → Int32) → Int32 → (Nat → Nat) → (Nat → Int32) → (Nat → Nat → Int32) → (Nat → Nat) → (Nat → Int32) → (Nat → Nat → Int32) → (Nat → Nat) → (Nat → Int32) → (Nat → Nat → Int32) → (Nat → Int32) → (Nat → Int32) → Int32 → (Nat → Int32) → Int64 → Prop) (x3 : Int32) (a_errors : Nat → Int32) (a0 : Nat → Nat) (n0 : Nat → Int32) (r0 : Nat → Nat → Int32) (n_saved : Int32) (a1 : Nat → Nat) (n1 : Nat → Int32) (r1 : Nat → Nat → Int32) (a2 : Nat → Nat) (n2 : Nat → Int32) (r2 : Nat → Nat → Int32) (a3 : Nat → Nat) (n3 : Nat → Int32) (r3 : Nat → Nat → Int32) (a_now_m : Nat → Int32) (a_past_m : Nat → Int32) (n_saved_m : Int32) (a_errors_m : Nat → Int32) (n_hash_m : Int64) : Prop := (vp_in (x3 + 1) L ∧ (wp_X8_shareBits a_errors n0 r0 (xs (Int32.toNatClampNeg (x3 + 1))) (fun (v1 : Int32) (g2 : Nat → Int32) => (vp_in (x3 + 1) L ∧ (wp_X9_shareBits a_now_m a_past_m n_saved_m a_errors_m n_hash_m (xs (Int32.toNatClampNeg (x3 + 1))) (fun (v3 : Int32) (g4 : Nat → Int32) => ((v1 = v3 → J (x3 + 5) g2 a0 n0 r0 n_saved a1 n1 r1 a2 n2 r2 a3 n3 r3 a_now_m a_past_m n_saved_m g4 n_hash_m) ∧ (¬ (v1 = v3) → False))))))))
set_option maxRecDepth 100000 in
set_option maxHeartbeats 4000000 in
theorem bc_698 {p : Program} {l : Launch} {e : Env} {s : State} {m : MethodId} {below : List Frame} {meth : Method} {c : Code} {E : EN} {A : Nat → Prop} {b L : Nat} {xs : Nat → Int32} (hC : Cx p s m #[.ref b] meth c E A cL_law 4 "CookieServerLaw") (hr : meth.sig.returnType = ret) (hX : va_X b L xs s s.heap ∧ b < s.heap.size ∧ ¬ A b) (hA9 : ∀ q, A q → s.heap.size ≤ q) (h0 : Nat) (hh : Nat) (he : Nat) (ha : Nat) (m0 : Nat) (m1 : Nat) (m2 : Nat) (m3 : Nat) (J : Int32 → (Nat → Int32) → (Nat → Nat) → (Nat → Int32) → (Nat → Nat → Int32) → Int32 → (Nat → Nat) → (Nat → Int32) → (Nat → Nat → Int32) → (Nat → Nat) → (Nat → Int32) → (Nat → Nat → Int32) → (Nat → Nat) → (Nat → Int32) → (Nat → Nat → Int32) → (Nat → Int32) → (Nat → Int32) → Int32 → (Nat → Int32) → Int64 → Prop) (hJ : ∀ (x3 : Int32) (a_errors : Nat → Int32) (a0 : Nat → Nat) (n0 : Nat → Int32) (r0 : Nat → Nat → Int32) (n_saved : Int32) (a1 : Nat → Nat) (n1 : Nat → Int32) (r1 : Nat → Nat → Int32) (a2 : Nat → Nat) (n2 : Nat → Int32) (r2 : Nat → Nat → Int32) (a3 : Nat → Nat) (n3 : Nat → Int32) (r3 : Nat → Nat → Int32) (a_now_m : Nat → Int32) (a_past_m : Nat → Int32) (n_saved_m : Int32) (a_errors_m : Nat → Int32) (n_hash_m : Int64), J x3 a_errors a0 n0 r0 n_saved a1 n1 r1 a2 n2 r2 a3 n3 r3 a_now_m a_past_m n_saved_m a_errors_m n_hash_m → V p l e room_1 s m #[.ref b] below meth c E A 4 76 3239 (lw_Z below #[.ref b] s) 18 [(0, .ref b), (1, .ref h0), (2, .ref m0), (3, .int x3)] [] (LW E h0 hh he ha m0 m1 m2 m3 a_errors a0 n0 r0 n_saved a1 n1 r1 a2 n2 r2 a3 n3 r3 a_now_m a_past_m n_saved_m a_errors_m n_hash_m)) (x3 : Int32) (a_errors : Nat → Int32) (a0 : Nat → Nat) (n0 : Nat → Int32) (r0 : Nat → Nat → Int32) (n_saved : Int32) (a1 : Nat → Nat) (n1 : Nat → Int32) (r1 : Nat → Nat → Int32) (a2 : Nat → Nat) (n2 : Nat → Int32) (r2 : Nat → Nat → Int32) (a3 : Nat → Nat) (n3 : Nat → Int32) (r3 : Nat → Nat → Int32) (a_now_m : Nat → Int32) (a_past_m : Nat → Int32) (n_saved_m : Int32) (a_errors_m : Nat → Int32) (n_hash_m : Int64) (hw : wc_698 L xs J x3 a_errors a0 n0 r0 n_saved a1 n1 r1 a2 n2 r2 a3 n3 r3 a_now_m a_past_m n_saved_m a_errors_m n_hash_m) : V p l e room_1 s m #[.ref b] below meth c E A 4 76 3239 (lw_Z below #[.ref b] s) 698 [(0, .ref b), (1, .ref h0), (2, .ref m0), (3, .int x3)] [] (LW E h0 hh he ha m0 m1 m2 m3 a_errors a0 n0 r0 n_saved a1 n1 r1 a2 n2 r2 a3 n3 r3 a_now_m a_past_m n_saved_m a_errors_m n_hash_m) := by
  rw [wc_698] at hw
  refine V_aload_n hC 1 rfl rfl dL_law_698 ?_
  refine V_aload_n hC 0 rfl rfl dL_law_699 ?_
  refine V_iload_n hC 3 rfl rfl dL_law_700 ?_
  refine V_iconst hC 1 dL_law_701 (by decide) ?_
  refine V_iadd hC dL_law_702 ?_
  refine V_sld hC hX hw.1 dL_law_703 ?_
  have hw := hw.2
  refine V_callP hC ((LW E h0 hh he ha m0 m1 m2 m3 a_errors a0 n0 r0 n_saved a1 n1 r1 a2 n2 r2 a3 n3 r3 a_now_m a_past_m n_saved_m a_errors_m n_hash_m).drop 19) 1 [.int (xs (Int32.toNatClampNeg (x3 + 1)))] [] (ct_X8_shareBits l E h0 hh he a0 a_errors n0 r0 (xs (Int32.toNatClampNeg (x3 + 1))) _ hw) wd_548 wd_32 wd_545 wd_546 wd_547 (by decide +kernel) rfl ⟨Nat.le_of_ble_eq_true rfl, Nat.le_of_ble_eq_true rfl⟩ rfl rfl rfl rfl (Nat.le_of_ble_eq_true rfl) ⟨Nat.le_of_ble_eq_true rfl, Nat.le_of_ble_eq_true rfl⟩ dL_law_704 (fun v ws' hp => ?_)
  obtain ⟨v1, g2, rfl, rfl, hw⟩ := hp
  refine V_wst [.int v1] (LW E h0 hh he ha m0 m1 m2 m3 g2 a0 n0 r0 n_saved a1 n1 r1 a2 n2 r2 a3 n3 r3 a_now_m a_past_m n_saved_m a_errors_m n_hash_m) rfl rfl ?_
  refine V_aload_n hC 2 rfl rfl dL_law_707 ?_
  refine V_aload_n hC 0 rfl rfl dL_law_708 ?_
  refine V_iload_n hC 3 rfl rfl dL_law_709 ?_
  refine V_iconst hC 1 dL_law_710 (by decide) ?_
  refine V_iadd hC dL_law_711 ?_
  refine V_sld hC hX hw.1 dL_law_712 ?_
  have hw := hw.2
  refine V_callQ hC ((LW E h0 hh he ha m0 m1 m2 m3 g2 a0 n0 r0 n_saved a1 n1 r1 a2 n2 r2 a3 n3 r3 a_now_m a_past_m n_saved_m a_errors_m n_hash_m).take 72) 1 [.int (xs (Int32.toNatClampNeg (x3 + 1)))] [.int v1] (ct_X9_shareBits l E m0 m1 m2 m3 a_now_m a_past_m n_saved_m a_errors_m n_hash_m (xs (Int32.toNatClampNeg (x3 + 1))) _ hw) wd_831 wd_40 wd_828 wd_829 wd_830 (by decide +kernel) rfl ⟨Nat.le_of_ble_eq_true rfl, Nat.le_of_ble_eq_true rfl⟩ rfl rfl rfl rfl (Nat.le_of_ble_eq_true rfl) ⟨Nat.le_of_ble_eq_true rfl, Nat.le_of_ble_eq_true rfl⟩ dL_law_713 (fun v ws' hp => ?_)
  obtain ⟨v3, g4, rfl, rfl, hw⟩ := hp
  refine V_wst [.int v3, .int v1] (LW E h0 hh he ha m0 m1 m2 m3 g2 a0 n0 r0 n_saved a1 n1 r1 a2 n2 r2 a3 n3 r3 a_now_m a_past_m n_saved_m g4 n_hash_m) rfl rfl ?_
  refine V_icmp_eq hC 771 (by decide) dL_law_716 (fun c5 => ?_) (fun c5 => ?_)
  · have hw := hw.1 c5
    refine V_iinc hC (x3 + 5) 3 [(3, .int (x3 + 5)), (0, .ref b), (1, .ref h0), (2, .ref m0)] rfl (congrArg (fun z => x3 + z) (by decide : Int32.ofInt (5) = (5 : Int32))) (by decide) rfl dL_law_771 ?_
    refine V_goto hC 18 (by decide) dL_law_774 ?_
    refine V_lv [(0, .ref b), (1, .ref h0), (2, .ref m0), (3, .int (x3 + 5))] [1, 2, 3, 0] rfl ?_
    exact hJ (x3 + 5) g2 a0 n0 r0 n_saved a1 n1 r1 a2 n2 r2 a3 n3 r3 a_now_m a_past_m n_saved_m g4 n_hash_m hw
  · have hw := hw.2 c5
    refine V_iconst hC 0 dL_law_719 (by decide) ?_
    exact hw.elim
def wc_721 (L : Nat) (xs : Nat → Int32) (J : Int32 → (Nat → Int32) → (Nat → Nat) → (Nat → Int32) → (Nat → Nat → Int32) → Int32 → (Nat → Nat) → (Nat → Int32) → (Nat → Nat → Int32) → (Nat → Nat) → (Nat → Int32) → (Nat → Nat → Int32) → (Nat → Nat) → (Nat → Int32) → (Nat → Nat → Int32) → (Nat → Int32) → (Nat → Int32) → Int32 → (Nat → Int32) → Int64 → Prop) (x3 : Int32) (a_errors : Nat → Int32) (a0 : Nat → Nat) (n0 : Nat → Int32) (r0 : Nat → Nat → Int32) (n_saved : Int32) (a1 : Nat → Nat) (n1 : Nat → Int32) (r1 : Nat → Nat → Int32) (a2 : Nat → Nat) (n2 : Nat → Int32) (r2 : Nat → Nat → Int32) (a3 : Nat → Nat) (n3 : Nat → Int32) (r3 : Nat → Nat → Int32) (a_now_m : Nat → Int32) (a_past_m : Nat → Int32) (n_saved_m : Int32) (a_errors_m : Nat → Int32) (n_hash_m : Int64) : Prop := (wp_X8_undo a_errors a0 n0 r0 n_saved a1 n1 r1 a2 n2 r2 a3 n3 r3 (fun (v1 : Int32) (g2 : Nat → Int32) (g3 : Nat → Nat) (g4 : Nat → Int32) (g5 : Nat → Nat → Int32) (s6 : Int32) (g7 : Nat → Nat) (g8 : Nat → Int32) (g9 : Nat → Nat → Int32) (g10 : Nat → Nat) (g11 : Nat → Int32) (g12 : Nat → Nat → Int32) (g13 : Nat → Nat) (g14 : Nat → Int32) (g15 : Nat → Nat → Int32) => (wp_X9_undo a_now_m a_past_m n_saved_m a_errors_m n_hash_m (fun (v16 : Int32) (g17 : Nat → Int32) (s18 : Int32) (g19 : Nat → Int32) => ((v1 = v16 → J (x3 + 5) g2 g3 g4 g5 s6 g7 g8 g9 g10 g11 g12 g13 g14 g15 g17 a_past_m s18 g19 n_hash_m) ∧ (¬ (v1 = v16) → False))))))
set_option maxRecDepth 100000 in
set_option maxHeartbeats 4000000 in
theorem bc_721 {p : Program} {l : Launch} {e : Env} {s : State} {m : MethodId} {below : List Frame} {meth : Method} {c : Code} {E : EN} {A : Nat → Prop} {b L : Nat} {xs : Nat → Int32} (hC : Cx p s m #[.ref b] meth c E A cL_law 4 "CookieServerLaw") (hr : meth.sig.returnType = ret) (hX : va_X b L xs s s.heap ∧ b < s.heap.size ∧ ¬ A b) (hA9 : ∀ q, A q → s.heap.size ≤ q) (h0 : Nat) (hh : Nat) (he : Nat) (ha : Nat) (m0 : Nat) (m1 : Nat) (m2 : Nat) (m3 : Nat) (J : Int32 → (Nat → Int32) → (Nat → Nat) → (Nat → Int32) → (Nat → Nat → Int32) → Int32 → (Nat → Nat) → (Nat → Int32) → (Nat → Nat → Int32) → (Nat → Nat) → (Nat → Int32) → (Nat → Nat → Int32) → (Nat → Nat) → (Nat → Int32) → (Nat → Nat → Int32) → (Nat → Int32) → (Nat → Int32) → Int32 → (Nat → Int32) → Int64 → Prop) (hJ : ∀ (x3 : Int32) (a_errors : Nat → Int32) (a0 : Nat → Nat) (n0 : Nat → Int32) (r0 : Nat → Nat → Int32) (n_saved : Int32) (a1 : Nat → Nat) (n1 : Nat → Int32) (r1 : Nat → Nat → Int32) (a2 : Nat → Nat) (n2 : Nat → Int32) (r2 : Nat → Nat → Int32) (a3 : Nat → Nat) (n3 : Nat → Int32) (r3 : Nat → Nat → Int32) (a_now_m : Nat → Int32) (a_past_m : Nat → Int32) (n_saved_m : Int32) (a_errors_m : Nat → Int32) (n_hash_m : Int64), J x3 a_errors a0 n0 r0 n_saved a1 n1 r1 a2 n2 r2 a3 n3 r3 a_now_m a_past_m n_saved_m a_errors_m n_hash_m → V p l e room_1 s m #[.ref b] below meth c E A 4 76 3239 (lw_Z below #[.ref b] s) 18 [(0, .ref b), (1, .ref h0), (2, .ref m0), (3, .int x3)] [] (LW E h0 hh he ha m0 m1 m2 m3 a_errors a0 n0 r0 n_saved a1 n1 r1 a2 n2 r2 a3 n3 r3 a_now_m a_past_m n_saved_m a_errors_m n_hash_m)) (x3 : Int32) (a_errors : Nat → Int32) (a0 : Nat → Nat) (n0 : Nat → Int32) (r0 : Nat → Nat → Int32) (n_saved : Int32) (a1 : Nat → Nat) (n1 : Nat → Int32) (r1 : Nat → Nat → Int32) (a2 : Nat → Nat) (n2 : Nat → Int32) (r2 : Nat → Nat → Int32) (a3 : Nat → Nat) (n3 : Nat → Int32) (r3 : Nat → Nat → Int32) (a_now_m : Nat → Int32) (a_past_m : Nat → Int32) (n_saved_m : Int32) (a_errors_m : Nat → Int32) (n_hash_m : Int64) (hw : wc_721 L xs J x3 a_errors a0 n0 r0 n_saved a1 n1 r1 a2 n2 r2 a3 n3 r3 a_now_m a_past_m n_saved_m a_errors_m n_hash_m) : V p l e room_1 s m #[.ref b] below meth c E A 4 76 3239 (lw_Z below #[.ref b] s) 721 [(0, .ref b), (1, .ref h0), (2, .ref m0), (3, .int x3)] [] (LW E h0 hh he ha m0 m1 m2 m3 a_errors a0 n0 r0 n_saved a1 n1 r1 a2 n2 r2 a3 n3 r3 a_now_m a_past_m n_saved_m a_errors_m n_hash_m) := by
  rw [wc_721] at hw
  refine V_aload_n hC 1 rfl rfl dL_law_721 ?_
  refine V_callP hC ((LW E h0 hh he ha m0 m1 m2 m3 a_errors a0 n0 r0 n_saved a1 n1 r1 a2 n2 r2 a3 n3 r3 a_now_m a_past_m n_saved_m a_errors_m n_hash_m).drop 72) 0 [] [] (ct_X8_undo l E h0 hh he ha a_errors a0 n0 r0 n_saved a1 n1 r1 a2 n2 r2 a3 n3 r3 _ hw) wd_561 wd_32 wd_558 wd_559 wd_560 (by decide +kernel) rfl ⟨Nat.le_of_ble_eq_true rfl, Nat.le_of_ble_eq_true rfl⟩ rfl rfl rfl rfl (Nat.le_of_ble_eq_true rfl) ⟨Nat.le_of_ble_eq_true rfl, Nat.le_of_ble_eq_true rfl⟩ dL_law_722 (fun v ws' hp => ?_)
  obtain ⟨v1, g2, g3, g4, g5, s6, g7, g8, g9, g10, g11, g12, g13, g14, g15, rfl, rfl, hw⟩ := hp
  refine V_wst [.int v1] (LW E h0 hh he ha m0 m1 m2 m3 g2 g3 g4 g5 s6 g7 g8 g9 g10 g11 g12 g13 g14 g15 a_now_m a_past_m n_saved_m a_errors_m n_hash_m) rfl rfl ?_
  refine V_aload_n hC 2 rfl rfl dL_law_725 ?_
  refine V_callQ hC ((LW E h0 hh he ha m0 m1 m2 m3 g2 g3 g4 g5 s6 g7 g8 g9 g10 g11 g12 g13 g14 g15 a_now_m a_past_m n_saved_m a_errors_m n_hash_m).take 72) 0 [] [.int v1] (ct_X9_undo l E m0 m1 m2 m3 a_now_m a_past_m n_saved_m a_errors_m n_hash_m _ hw) wd_630 wd_40 wd_627 wd_628 wd_629 (by decide +kernel) rfl ⟨Nat.le_of_ble_eq_true rfl, Nat.le_of_ble_eq_true rfl⟩ rfl rfl rfl rfl (Nat.le_of_ble_eq_true rfl) ⟨Nat.le_of_ble_eq_true rfl, Nat.le_of_ble_eq_true rfl⟩ dL_law_726 (fun v ws' hp => ?_)
  obtain ⟨v16, g17, s18, g19, rfl, rfl, hw⟩ := hp
  refine V_wst [.int v16, .int v1] (LW E h0 hh he ha m0 m1 m2 m3 g2 g3 g4 g5 s6 g7 g8 g9 g10 g11 g12 g13 g14 g15 g17 a_past_m s18 g19 n_hash_m) rfl rfl ?_
  refine V_icmp_eq hC 771 (by decide) dL_law_729 (fun c20 => ?_) (fun c20 => ?_)
  · have hw := hw.1 c20
    refine V_iinc hC (x3 + 5) 3 [(3, .int (x3 + 5)), (0, .ref b), (1, .ref h0), (2, .ref m0)] rfl (congrArg (fun z => x3 + z) (by decide : Int32.ofInt (5) = (5 : Int32))) (by decide) rfl dL_law_771 ?_
    refine V_goto hC 18 (by decide) dL_law_774 ?_
    refine V_lv [(0, .ref b), (1, .ref h0), (2, .ref m0), (3, .int (x3 + 5))] [1, 2, 3, 0] rfl ?_
    exact hJ (x3 + 5) g2 g3 g4 g5 s6 g7 g8 g9 g10 g11 g12 g13 g14 g15 g17 a_past_m s18 g19 n_hash_m hw
  · have hw := hw.2 c20
    refine V_iconst hC 0 dL_law_732 (by decide) ?_
    exact hw.elim
def wc_734 (L : Nat) (xs : Nat → Int32) (J : Int32 → (Nat → Int32) → (Nat → Nat) → (Nat → Int32) → (Nat → Nat → Int32) → Int32 → (Nat → Nat) → (Nat → Int32) → (Nat → Nat → Int32) → (Nat → Nat) → (Nat → Int32) → (Nat → Nat → Int32) → (Nat → Nat) → (Nat → Int32) → (Nat → Nat → Int32) → (Nat → Int32) → (Nat → Int32) → Int32 → (Nat → Int32) → Int64 → Prop) (x3 : Int32) (a_errors : Nat → Int32) (a0 : Nat → Nat) (n0 : Nat → Int32) (r0 : Nat → Nat → Int32) (n_saved : Int32) (a1 : Nat → Nat) (n1 : Nat → Int32) (r1 : Nat → Nat → Int32) (a2 : Nat → Nat) (n2 : Nat → Int32) (r2 : Nat → Nat → Int32) (a3 : Nat → Nat) (n3 : Nat → Int32) (r3 : Nat → Nat → Int32) (a_now_m : Nat → Int32) (a_past_m : Nat → Int32) (n_saved_m : Int32) (a_errors_m : Nat → Int32) (n_hash_m : Int64) : Prop := (vp_in (x3 + 1) L ∧ (wp_X8_errorCount a_errors (xs (Int32.toNatClampNeg (x3 + 1))) (fun (v1 : Int32) (g2 : Nat → Int32) => (vp_in (x3 + 1) L ∧ (wp_X9_errorCount a_now_m a_past_m n_saved_m a_errors_m n_hash_m (xs (Int32.toNatClampNeg (x3 + 1))) (fun (v3 : Int32) (g4 : Nat → Int32) => ((v1 = v3 → J (x3 + 5) g2 a0 n0 r0 n_saved a1 n1 r1 a2 n2 r2 a3 n3 r3 a_now_m a_past_m n_saved_m g4 n_hash_m) ∧ (¬ (v1 = v3) → False))))))))
set_option maxRecDepth 100000 in
set_option maxHeartbeats 4000000 in
theorem bc_734 {p : Program} {l : Launch} {e : Env} {s : State} {m : MethodId} {below : List Frame} {meth : Method} {c : Code} {E : EN} {A : Nat → Prop} {b L : Nat} {xs : Nat → Int32} (hC : Cx p s m #[.ref b] meth c E A cL_law 4 "CookieServerLaw") (hr : meth.sig.returnType = ret) (hX : va_X b L xs s s.heap ∧ b < s.heap.size ∧ ¬ A b) (hA9 : ∀ q, A q → s.heap.size ≤ q) (h0 : Nat) (hh : Nat) (he : Nat) (ha : Nat) (m0 : Nat) (m1 : Nat) (m2 : Nat) (m3 : Nat) (J : Int32 → (Nat → Int32) → (Nat → Nat) → (Nat → Int32) → (Nat → Nat → Int32) → Int32 → (Nat → Nat) → (Nat → Int32) → (Nat → Nat → Int32) → (Nat → Nat) → (Nat → Int32) → (Nat → Nat → Int32) → (Nat → Nat) → (Nat → Int32) → (Nat → Nat → Int32) → (Nat → Int32) → (Nat → Int32) → Int32 → (Nat → Int32) → Int64 → Prop) (hJ : ∀ (x3 : Int32) (a_errors : Nat → Int32) (a0 : Nat → Nat) (n0 : Nat → Int32) (r0 : Nat → Nat → Int32) (n_saved : Int32) (a1 : Nat → Nat) (n1 : Nat → Int32) (r1 : Nat → Nat → Int32) (a2 : Nat → Nat) (n2 : Nat → Int32) (r2 : Nat → Nat → Int32) (a3 : Nat → Nat) (n3 : Nat → Int32) (r3 : Nat → Nat → Int32) (a_now_m : Nat → Int32) (a_past_m : Nat → Int32) (n_saved_m : Int32) (a_errors_m : Nat → Int32) (n_hash_m : Int64), J x3 a_errors a0 n0 r0 n_saved a1 n1 r1 a2 n2 r2 a3 n3 r3 a_now_m a_past_m n_saved_m a_errors_m n_hash_m → V p l e room_1 s m #[.ref b] below meth c E A 4 76 3239 (lw_Z below #[.ref b] s) 18 [(0, .ref b), (1, .ref h0), (2, .ref m0), (3, .int x3)] [] (LW E h0 hh he ha m0 m1 m2 m3 a_errors a0 n0 r0 n_saved a1 n1 r1 a2 n2 r2 a3 n3 r3 a_now_m a_past_m n_saved_m a_errors_m n_hash_m)) (x3 : Int32) (a_errors : Nat → Int32) (a0 : Nat → Nat) (n0 : Nat → Int32) (r0 : Nat → Nat → Int32) (n_saved : Int32) (a1 : Nat → Nat) (n1 : Nat → Int32) (r1 : Nat → Nat → Int32) (a2 : Nat → Nat) (n2 : Nat → Int32) (r2 : Nat → Nat → Int32) (a3 : Nat → Nat) (n3 : Nat → Int32) (r3 : Nat → Nat → Int32) (a_now_m : Nat → Int32) (a_past_m : Nat → Int32) (n_saved_m : Int32) (a_errors_m : Nat → Int32) (n_hash_m : Int64) (hw : wc_734 L xs J x3 a_errors a0 n0 r0 n_saved a1 n1 r1 a2 n2 r2 a3 n3 r3 a_now_m a_past_m n_saved_m a_errors_m n_hash_m) : V p l e room_1 s m #[.ref b] below meth c E A 4 76 3239 (lw_Z below #[.ref b] s) 734 [(0, .ref b), (1, .ref h0), (2, .ref m0), (3, .int x3)] [] (LW E h0 hh he ha m0 m1 m2 m3 a_errors a0 n0 r0 n_saved a1 n1 r1 a2 n2 r2 a3 n3 r3 a_now_m a_past_m n_saved_m a_errors_m n_hash_m) := by
  rw [wc_734] at hw
  refine V_aload_n hC 1 rfl rfl dL_law_734 ?_
  refine V_aload_n hC 0 rfl rfl dL_law_735 ?_
  refine V_iload_n hC 3 rfl rfl dL_law_736 ?_
  refine V_iconst hC 1 dL_law_737 (by decide) ?_
  refine V_iadd hC dL_law_738 ?_
  refine V_sld hC hX hw.1 dL_law_739 ?_
  have hw := hw.2
  refine V_callP hC ((LW E h0 hh he ha m0 m1 m2 m3 a_errors a0 n0 r0 n_saved a1 n1 r1 a2 n2 r2 a3 n3 r3 a_now_m a_past_m n_saved_m a_errors_m n_hash_m).drop 2) 1 [.int (xs (Int32.toNatClampNeg (x3 + 1)))] [] (ct_X8_errorCount l E h0 (a0 0) hh he a_errors (xs (Int32.toNatClampNeg (x3 + 1))) _ hw) wd_569 wd_32 wd_566 wd_567 wd_568 (by decide +kernel) rfl ⟨Nat.le_of_ble_eq_true rfl, Nat.le_of_ble_eq_true rfl⟩ rfl rfl rfl rfl (Nat.le_of_ble_eq_true rfl) ⟨Nat.le_of_ble_eq_true rfl, Nat.le_of_ble_eq_true rfl⟩ dL_law_740 (fun v ws' hp => ?_)
  obtain ⟨v1, g2, rfl, rfl, hw⟩ := hp
  refine V_wst [.int v1] (LW E h0 hh he ha m0 m1 m2 m3 g2 a0 n0 r0 n_saved a1 n1 r1 a2 n2 r2 a3 n3 r3 a_now_m a_past_m n_saved_m a_errors_m n_hash_m) rfl rfl ?_
  refine V_aload_n hC 2 rfl rfl dL_law_743 ?_
  refine V_aload_n hC 0 rfl rfl dL_law_744 ?_
  refine V_iload_n hC 3 rfl rfl dL_law_745 ?_
  refine V_iconst hC 1 dL_law_746 (by decide) ?_
  refine V_iadd hC dL_law_747 ?_
  refine V_sld hC hX hw.1 dL_law_748 ?_
  have hw := hw.2
  refine V_callQ hC ((LW E h0 hh he ha m0 m1 m2 m3 g2 a0 n0 r0 n_saved a1 n1 r1 a2 n2 r2 a3 n3 r3 a_now_m a_past_m n_saved_m a_errors_m n_hash_m).take 72) 1 [.int (xs (Int32.toNatClampNeg (x3 + 1)))] [.int v1] (ct_X9_errorCount l E m0 m1 m2 m3 a_now_m a_past_m n_saved_m a_errors_m n_hash_m (xs (Int32.toNatClampNeg (x3 + 1))) _ hw) wd_839 wd_40 wd_836 wd_837 wd_838 (by decide +kernel) rfl ⟨Nat.le_of_ble_eq_true rfl, Nat.le_of_ble_eq_true rfl⟩ rfl rfl rfl rfl (Nat.le_of_ble_eq_true rfl) ⟨Nat.le_of_ble_eq_true rfl, Nat.le_of_ble_eq_true rfl⟩ dL_law_749 (fun v ws' hp => ?_)
  obtain ⟨v3, g4, rfl, rfl, hw⟩ := hp
  refine V_wst [.int v3, .int v1] (LW E h0 hh he ha m0 m1 m2 m3 g2 a0 n0 r0 n_saved a1 n1 r1 a2 n2 r2 a3 n3 r3 a_now_m a_past_m n_saved_m g4 n_hash_m) rfl rfl ?_
  refine V_icmp_eq hC 771 (by decide) dL_law_752 (fun c5 => ?_) (fun c5 => ?_)
  · have hw := hw.1 c5
    refine V_iinc hC (x3 + 5) 3 [(3, .int (x3 + 5)), (0, .ref b), (1, .ref h0), (2, .ref m0)] rfl (congrArg (fun z => x3 + z) (by decide : Int32.ofInt (5) = (5 : Int32))) (by decide) rfl dL_law_771 ?_
    refine V_goto hC 18 (by decide) dL_law_774 ?_
    refine V_lv [(0, .ref b), (1, .ref h0), (2, .ref m0), (3, .int (x3 + 5))] [1, 2, 3, 0] rfl ?_
    exact hJ (x3 + 5) g2 a0 n0 r0 n_saved a1 n1 r1 a2 n2 r2 a3 n3 r3 a_now_m a_past_m n_saved_m g4 n_hash_m hw
  · have hw := hw.2 c5
    refine V_iconst hC 0 dL_law_755 (by decide) ?_
    exact hw.elim
def wc_757 (L : Nat) (xs : Nat → Int32) (J : Int32 → (Nat → Int32) → (Nat → Nat) → (Nat → Int32) → (Nat → Nat → Int32) → Int32 → (Nat → Nat) → (Nat → Int32) → (Nat → Nat → Int32) → (Nat → Nat) → (Nat → Int32) → (Nat → Nat → Int32) → (Nat → Nat) → (Nat → Int32) → (Nat → Nat → Int32) → (Nat → Int32) → (Nat → Int32) → Int32 → (Nat → Int32) → Int64 → Prop) (x3 : Int32) (a_errors : Nat → Int32) (a0 : Nat → Nat) (n0 : Nat → Int32) (r0 : Nat → Nat → Int32) (n_saved : Int32) (a1 : Nat → Nat) (n1 : Nat → Int32) (r1 : Nat → Nat → Int32) (a2 : Nat → Nat) (n2 : Nat → Int32) (r2 : Nat → Nat → Int32) (a3 : Nat → Nat) (n3 : Nat → Int32) (r3 : Nat → Nat → Int32) (a_now_m : Nat → Int32) (a_past_m : Nat → Int32) (n_saved_m : Int32) (a_errors_m : Nat → Int32) (n_hash_m : Int64) : Prop := (wp_X8_digest a_errors n0 r0 n_saved (fun (v1 : Int64) => (wp_X9_digest a_now_m a_past_m n_saved_m a_errors_m n_hash_m (fun (v2 : Int64) (g3 : Int64) => (((lg_cmp v1 v2) = 0 → J (x3 + 5) a_errors a0 n0 r0 n_saved a1 n1 r1 a2 n2 r2 a3 n3 r3 a_now_m a_past_m n_saved_m a_errors_m g3) ∧ (¬ ((lg_cmp v1 v2) = 0) → False))))))
set_option maxRecDepth 100000 in
set_option maxHeartbeats 4000000 in
theorem bc_757 {p : Program} {l : Launch} {e : Env} {s : State} {m : MethodId} {below : List Frame} {meth : Method} {c : Code} {E : EN} {A : Nat → Prop} {b L : Nat} {xs : Nat → Int32} (hC : Cx p s m #[.ref b] meth c E A cL_law 4 "CookieServerLaw") (hr : meth.sig.returnType = ret) (hX : va_X b L xs s s.heap ∧ b < s.heap.size ∧ ¬ A b) (hA9 : ∀ q, A q → s.heap.size ≤ q) (h0 : Nat) (hh : Nat) (he : Nat) (ha : Nat) (m0 : Nat) (m1 : Nat) (m2 : Nat) (m3 : Nat) (J : Int32 → (Nat → Int32) → (Nat → Nat) → (Nat → Int32) → (Nat → Nat → Int32) → Int32 → (Nat → Nat) → (Nat → Int32) → (Nat → Nat → Int32) → (Nat → Nat) → (Nat → Int32) → (Nat → Nat → Int32) → (Nat → Nat) → (Nat → Int32) → (Nat → Nat → Int32) → (Nat → Int32) → (Nat → Int32) → Int32 → (Nat → Int32) → Int64 → Prop) (hJ : ∀ (x3 : Int32) (a_errors : Nat → Int32) (a0 : Nat → Nat) (n0 : Nat → Int32) (r0 : Nat → Nat → Int32) (n_saved : Int32) (a1 : Nat → Nat) (n1 : Nat → Int32) (r1 : Nat → Nat → Int32) (a2 : Nat → Nat) (n2 : Nat → Int32) (r2 : Nat → Nat → Int32) (a3 : Nat → Nat) (n3 : Nat → Int32) (r3 : Nat → Nat → Int32) (a_now_m : Nat → Int32) (a_past_m : Nat → Int32) (n_saved_m : Int32) (a_errors_m : Nat → Int32) (n_hash_m : Int64), J x3 a_errors a0 n0 r0 n_saved a1 n1 r1 a2 n2 r2 a3 n3 r3 a_now_m a_past_m n_saved_m a_errors_m n_hash_m → V p l e room_1 s m #[.ref b] below meth c E A 4 76 3239 (lw_Z below #[.ref b] s) 18 [(0, .ref b), (1, .ref h0), (2, .ref m0), (3, .int x3)] [] (LW E h0 hh he ha m0 m1 m2 m3 a_errors a0 n0 r0 n_saved a1 n1 r1 a2 n2 r2 a3 n3 r3 a_now_m a_past_m n_saved_m a_errors_m n_hash_m)) (x3 : Int32) (a_errors : Nat → Int32) (a0 : Nat → Nat) (n0 : Nat → Int32) (r0 : Nat → Nat → Int32) (n_saved : Int32) (a1 : Nat → Nat) (n1 : Nat → Int32) (r1 : Nat → Nat → Int32) (a2 : Nat → Nat) (n2 : Nat → Int32) (r2 : Nat → Nat → Int32) (a3 : Nat → Nat) (n3 : Nat → Int32) (r3 : Nat → Nat → Int32) (a_now_m : Nat → Int32) (a_past_m : Nat → Int32) (n_saved_m : Int32) (a_errors_m : Nat → Int32) (n_hash_m : Int64) (hw : wc_757 L xs J x3 a_errors a0 n0 r0 n_saved a1 n1 r1 a2 n2 r2 a3 n3 r3 a_now_m a_past_m n_saved_m a_errors_m n_hash_m) : V p l e room_1 s m #[.ref b] below meth c E A 4 76 3239 (lw_Z below #[.ref b] s) 757 [(0, .ref b), (1, .ref h0), (2, .ref m0), (3, .int x3)] [] (LW E h0 hh he ha m0 m1 m2 m3 a_errors a0 n0 r0 n_saved a1 n1 r1 a2 n2 r2 a3 n3 r3 a_now_m a_past_m n_saved_m a_errors_m n_hash_m) := by
  rw [wc_757] at hw
  refine V_aload_n hC 1 rfl rfl dL_law_757 ?_
  refine V_callP hC ((LW E h0 hh he ha m0 m1 m2 m3 a_errors a0 n0 r0 n_saved a1 n1 r1 a2 n2 r2 a3 n3 r3 a_now_m a_past_m n_saved_m a_errors_m n_hash_m).drop 20) 0 [] [] (ct_X8_digest l E h0 hh he a0 ha a_errors n0 r0 n_saved _ hw) wd_573 wd_32 wd_570 wd_571 wd_572 (by decide +kernel) rfl ⟨Nat.le_of_ble_eq_true rfl, Nat.le_of_ble_eq_true rfl⟩ rfl rfl rfl rfl (Nat.le_of_ble_eq_true rfl) ⟨Nat.le_of_ble_eq_true rfl, Nat.le_of_ble_eq_true rfl⟩ dL_law_758 (fun v ws' hp => ?_)
  obtain ⟨v1, rfl, rfl, hw⟩ := hp
  refine V_wst [.long v1] (LW E h0 hh he ha m0 m1 m2 m3 a_errors a0 n0 r0 n_saved a1 n1 r1 a2 n2 r2 a3 n3 r3 a_now_m a_past_m n_saved_m a_errors_m n_hash_m) rfl rfl ?_
  refine V_aload_n hC 2 rfl rfl dL_law_761 ?_
  refine V_callQ hC ((LW E h0 hh he ha m0 m1 m2 m3 a_errors a0 n0 r0 n_saved a1 n1 r1 a2 n2 r2 a3 n3 r3 a_now_m a_past_m n_saved_m a_errors_m n_hash_m).take 72) 0 [] [.long v1] (ct_X9_digest l E m0 m1 m2 m3 a_now_m a_past_m n_saved_m a_errors_m n_hash_m _ hw) wd_843 wd_40 wd_840 wd_841 wd_842 (by decide +kernel) rfl ⟨Nat.le_of_ble_eq_true rfl, Nat.le_of_ble_eq_true rfl⟩ rfl rfl rfl rfl (Nat.le_of_ble_eq_true rfl) ⟨Nat.le_of_ble_eq_true rfl, Nat.le_of_ble_eq_true rfl⟩ dL_law_762 (fun v ws' hp => ?_)
  obtain ⟨v2, g3, rfl, rfl, hw⟩ := hp
  refine V_wst [.long v2, .long v1] (LW E h0 hh he ha m0 m1 m2 m3 a_errors a0 n0 r0 n_saved a1 n1 r1 a2 n2 r2 a3 n3 r3 a_now_m a_past_m n_saved_m a_errors_m g3) rfl rfl ?_
  refine V_lcmp hC dL_law_765 ?_
  refine V_if_eq hC 771 (by decide) dL_law_766 (fun c4 => ?_) (fun c4 => ?_)
  · have hw := hw.1 c4
    refine V_iinc hC (x3 + 5) 3 [(3, .int (x3 + 5)), (0, .ref b), (1, .ref h0), (2, .ref m0)] rfl (congrArg (fun z => x3 + z) (by decide : Int32.ofInt (5) = (5 : Int32))) (by decide) rfl dL_law_771 ?_
    refine V_goto hC 18 (by decide) dL_law_774 ?_
    refine V_lv [(0, .ref b), (1, .ref h0), (2, .ref m0), (3, .int (x3 + 5))] [1, 2, 3, 0] rfl ?_
    exact hJ (x3 + 5) a_errors a0 n0 r0 n_saved a1 n1 r1 a2 n2 r2 a3 n3 r3 a_now_m a_past_m n_saved_m a_errors_m g3 hw
  · have hw := hw.2 c4
    refine V_iconst hC 0 dL_law_769 (by decide) ?_
    exact hw.elim
