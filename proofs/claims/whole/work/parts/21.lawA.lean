section LAWV
variable {p : Program} {l : Launch} {e : Env} {R : Room} {s : State} {m : MethodId} {args : Array Value} {below : List Frame} {meth : Method} {c : Code} {E : EN} {A : Nat → Prop} {nL cells slots : Nat} {Q : State → Prop} {pc : Nat} {lv : List (Nat × Value)} {st : List Value} {ws : va_W} {cc : ByteArray} {own : String} {b L : Nat} {xs : Nat → Int32}
theorem V_lv (lv' : List (Nat × Value)) (ks : List Nat) (hlv : lv_pick lv ks = lv') (k : V p l e R s m args below meth c E A nL cells slots Q pc lv' st ws) : V p l e R s m args below meth c E A nL cells slots Q pc lv st ws := fun ls H locs hl hP hD hS => k ls H locs (lv_sub hl ks hlv) hP hD hS
theorem V_sld (hC : Cx p s m args meth c E A cc nL own) (hX : va_X b L xs s s.heap ∧ b < s.heap.size ∧ ¬ A b) {i : Int32} (hin : vp_in i L) (hd : decode cc pc = .ok (.iaload, 1)) (k : V p l e R s m args below meth c E A nL cells slots Q (pc + 1) lv (.int (xs i.toNatClampNeg) :: st) ws) : V p l e R s m args below meth c E A nL cells slots Q pc lv (.int i :: .ref b :: st) ws := fun ls H locs hl hP hD hS => va_sld hC.1 hC.2.1 hX.1 hX.2.1 hX.2.2 hS hin hd (k ls H locs hl hP hD hS)
theorem V_slen (hC : Cx p s m args meth c E A cc nL own) (hX : va_X b L xs s s.heap ∧ b < s.heap.size ∧ ¬ A b) (hd : decode cc pc = .ok (.arraylength, 1)) (k : V p l e R s m args below meth c E A nL cells slots Q (pc + 1) lv (.int (Int32.ofNat L) :: st) ws) : V p l e R s m args below meth c E A nL cells slots Q pc lv (.ref b :: st) ws := fun ls H locs hl hP hD hS => va_slen hC.1 hC.2.1 hX.1 hX.2.1 hX.2.2 hS hd (k ls H locs hl hP hD hS)
end LAWV
theorem nd_of {l : List Nat} (h : l.Nodup) : va_nd l = true := by
  induction l with
  | nil => rfl
  | cons a t ih =>
    have h1 := List.nodup_cons.mp h
    simp only [va_nd, Bool.and_eq_true, decide_eq_true_eq]
    exact ⟨h1.1, ih h1.2⟩
theorem rg1 {α : Type} (a b : List α) : (List.range a.length).map (fun i => (a ++ b)[i]?) = a.map some := by
  apply List.ext_getElem?
  intro i
  rw [List.getElem?_map, List.getElem?_map]
  by_cases h : i < a.length
  · rw [List.getElem?_range h]
    show some ((a ++ b)[i]?) = _
    rw [List.getElem?_append_left h, List.getElem?_eq_getElem h]
    rfl
  · rw [List.getElem?_eq_none (by rw [List.length_range]; omega), List.getElem?_eq_none (by omega)]
    rfl
theorem rg2 {α : Type} (a b : List α) : ((List.range b.length).map (· + a.length)).map (fun i => (a ++ b)[i]?) = b.map some := by
  apply List.ext_getElem?
  intro i
  rw [List.getElem?_map, List.getElem?_map, List.getElem?_map]
  by_cases h : i < b.length
  · rw [List.getElem?_range h]
    show some ((a ++ b)[i + a.length]?) = _
    rw [List.getElem?_append_right (by omega), Nat.add_sub_cancel, List.getElem?_eq_getElem h]
    rfl
  · rw [List.getElem?_eq_none (by rw [List.length_range]; omega), List.getElem?_eq_none (by omega)]
    rfl
theorem rg_nd1 (n : Nat) : va_nd (List.range n) = true := nd_of List.nodup_range
theorem rg_nd2 (n k : Nat) : va_nd ((List.range n).map (· + k)) = true := by
  apply nd_of
  rw [List.nodup_iff_pairwise_ne, List.pairwise_map]
  exact (List.nodup_iff_pairwise_ne.mp List.nodup_range).imp (fun h e => h (Nat.add_right_cancel e))
section LAWC
variable {p : Program} {l : Launch} {e : Env} {R : Room} {s : State} {m : MethodId} {args : Array Value} {below : List Frame} {meth : Method} {c : Code} {E : EN} {A : Nat → Prop} {nL cells slots : Nat} {Q : State → Prop} {pc : Nat} {lv : List (Nat × Value)} {st : List Value} {ws : va_W} {cc : ByteArray} {own : String}
theorem V_swap (a b : va_W) (k : V p l e R s m args below meth c E A nL cells slots Q pc lv st (b ++ a)) : V p l e R s m args below meth c E A nL cells slots Q pc lv st (a ++ b) := by
  intro ls H locs hl hP hD hS
  have hs : ((List.range b.length).map (· + a.length) ++ List.range a.length).map (fun i => (a ++ b)[i]?) = (b ++ a).map some := by
    rw [List.map_append, List.map_append, rg1, rg2]
  refine k ls H locs hl (hP.sub _ (fm_of hs)) (hD.sub _ ?_ hs) hS
  apply nd_of
  rw [List.nodup_append]
  refine ⟨?_, List.nodup_range, ?_⟩
  · rw [List.nodup_iff_pairwise_ne, List.pairwise_map]
    exact (List.nodup_iff_pairwise_ne.mp List.nodup_range).imp (fun h e => h (Nat.add_right_cancel e))
  · intro x hx y hy
    obtain ⟨z, -, rfl⟩ := List.mem_map.mp hx
    have := List.mem_range.mp hy
    omega
theorem V_callP (hC : Cx p s m args meth c E A cc nL own) {y : MethodName} {bytes : ByteArray} {maxL index : Nat} {ret : Option FieldType} {rm : Room} {wc : va_W} (wr : va_W) {post : Option Value → va_W → Prop} {b ci N : Nat} {C : String} {T : u_T} {fs : List Value} (nA : Nat) (As : List Value) (rest : List Value) (hM : Con l y bytes maxL ret rm E (.ref b :: As) wc post) (hcode : Cond.code y bytes maxL ret ∈ WA) (hini : Cond.initialized y.cls ∈ WA) (hlink : Cond.methodLink own index y ∈ WA) (him : Cond.instanceMethod y ∈ WA) (hsel : Cond.selects C y y ∈ WA) (hdd : y.cls ≠ "java/lang/invoke/MethodHandle" ∧ y.cls ≠ "java/lang/invoke/VarHandle" ∧ (parseMethodDescriptor y.desc).map (fun d => d.parameters.length) = some nA) (hAn : As.length = nA) (hR : rm.frames + 1 ≤ R.frames ∧ 8 + (maxL + 11) + rm.locals ≤ R.locals) (hws : ws = wc ++ wr) (hci : vwCl[ci]? = some (C, T, N)) (he : wc[0]? = some (b, .inr (ci, fs))) (hst : st = As.reverse ++ .ref b :: rest) (hcat : (rest.map fun v => v.category).sum ≤ 8) (hf : cells + rm.cells ≤ R.cells ∧ slots + rm.slots ≤ R.slots) (hd : decode cc pc = .ok (.invokevirtual index, 3))
    (kk : ∀ (v : Option Value) (ws' : va_W), post v ws' → V p l e R s m args below meth c E A nL (cells + rm.cells) (slots + rm.slots) Q (pc + 3) lv (v.toList ++ rest) (ws' ++ wr)) : V p l e R s m args below meth c E A nL cells slots Q pc lv st ws := by
  subst hws
  exact V_callV hC (wr := wr) nA As rest hM hcode hini hlink him hsel hdd hAn hR (List.range wc.length) ((List.range wr.length).map (· + wc.length)) (rg1 wc wr) (rg2 wc wr) (rg_nd1 _) (rg_nd2 _ _) (fun i hi hj => by
    obtain ⟨z, -, rfl⟩ := List.mem_map.mp hi
    have := List.mem_range.mp hj
    omega) hci he hst hcat hf hd (fun v ws' hp => V_swap _ _ (kk v ws' hp))
theorem V_callQ (hC : Cx p s m args meth c E A cc nL own) {y : MethodName} {bytes : ByteArray} {maxL index : Nat} {ret : Option FieldType} {rm : Room} {wc : va_W} (wr : va_W) {post : Option Value → va_W → Prop} {b ci N : Nat} {C : String} {T : u_T} {fs : List Value} (nA : Nat) (As : List Value) (rest : List Value) (hM : Con l y bytes maxL ret rm E (.ref b :: As) wc post) (hcode : Cond.code y bytes maxL ret ∈ WA) (hini : Cond.initialized y.cls ∈ WA) (hlink : Cond.methodLink own index y ∈ WA) (him : Cond.instanceMethod y ∈ WA) (hsel : Cond.selects C y y ∈ WA) (hdd : y.cls ≠ "java/lang/invoke/MethodHandle" ∧ y.cls ≠ "java/lang/invoke/VarHandle" ∧ (parseMethodDescriptor y.desc).map (fun d => d.parameters.length) = some nA) (hAn : As.length = nA) (hR : rm.frames + 1 ≤ R.frames ∧ 8 + (maxL + 11) + rm.locals ≤ R.locals) (hws : ws = wr ++ wc) (hci : vwCl[ci]? = some (C, T, N)) (he : wc[0]? = some (b, .inr (ci, fs))) (hst : st = As.reverse ++ .ref b :: rest) (hcat : (rest.map fun v => v.category).sum ≤ 8) (hf : cells + rm.cells ≤ R.cells ∧ slots + rm.slots ≤ R.slots) (hd : decode cc pc = .ok (.invokevirtual index, 3))
    (kk : ∀ (v : Option Value) (ws' : va_W), post v ws' → V p l e R s m args below meth c E A nL (cells + rm.cells) (slots + rm.slots) Q (pc + 3) lv (v.toList ++ rest) (wr ++ ws')) : V p l e R s m args below meth c E A nL cells slots Q pc lv st ws := by
  subst hws
  exact V_callV hC (wr := wr) nA As rest hM hcode hini hlink him hsel hdd hAn hR ((List.range wc.length).map (· + wr.length)) (List.range wr.length) (rg2 wr wc) (rg1 wr wc) (rg_nd2 _ _) (rg_nd1 _) (fun i hi hj => by
    obtain ⟨z, -, rfl⟩ := List.mem_map.mp hj
    have := List.mem_range.mp hi
    omega) hci he hst hcat hf hd kk
end LAWC
theorem V_wst {p : Program} {l : Launch} {e : Env} {R : Room} {s : State} {m : MethodId} {args : Array Value} {below : List Frame} {meth : Method} {c : Code} {E : EN} {A : Nat → Prop} {nL cells slots : Nat} {Q : State → Prop} {pc : Nat} {lv : List (Nat × Value)} {st : List Value} {ws : va_W} (st' : List Value) (ws' : va_W) (hst : st = st') (hws : ws = ws') (k : V p l e R s m args below meth c E A nL cells slots Q pc lv st' ws') : V p l e R s m args below meth c E A nL cells slots Q pc lv st ws := by
  subst hst
  subst hws
  exact k
theorem V_lawret {p : Program} {l : Launch} {e : Env} {s : State} {m : MethodId} {below : List Frame} {meth : Method} {c : Code} {E : EN} {A : Nat → Prop} {cells slots pc b L : Nat} {xs : Nat → Int32} {lv : List (Nat × Value)} {ws : va_W} (hC : Cx p s m #[.ref b] meth c E A cL_law 4 "CookieServerLaw") (hr : meth.sig.returnType = ret) (hX : va_X b L xs s s.heap ∧ b < s.heap.size ∧ ¬ A b) (hA9 : ∀ q, A q → s.heap.size ≤ q) (h1 : cells ≤ 600000) (h2 : slots ≤ 7302250) (hd : decode cL_law pc = .ok (.ireturn, 1)) : V p l e room_1 s m #[.ref b] below meth c E A 4 cells slots (lw_Z below #[.ref b] s) pc lv [.int 1] ws := fun ls H locs hl hP hD hS => va_forget (fun q hq => hA9 _ (hS.2.2 q hq)) (W.widen h1 h2 (W.base (lw_ret (Drawn.sameBut.refl s.drawn lw_cs) hC.1 hC.2.1 hr hC.2.2.2.2.2.2.2.1 hd)))
abbrev LW (E : EN) (h0 : Nat) (hh : Nat) (he : Nat) (ha : Nat) (m0 : Nat) (m1 : Nat) (m2 : Nat) (m3 : Nat) (a_errors : Nat → Int32) (a0 : Nat → Nat) (n0 : Nat → Int32) (r0 : Nat → Nat → Int32) (n_saved : Int32) (a1 : Nat → Nat) (n1 : Nat → Int32) (r1 : Nat → Nat → Int32) (a2 : Nat → Nat) (n2 : Nat → Int32) (r2 : Nat → Nat → Int32) (a3 : Nat → Nat) (n3 : Nat → Int32) (r3 : Nat → Nat → Int32) (a_now_m : Nat → Int32) (a_past_m : Nat → Int32) (n_saved_m : Int32) (a_errors_m : Nat → Int32) (n_hash_m : Int64) : va_W := [(h0, .inr (7, [.ref (a0 0), .ref hh, .ref he])), (he, .inl (E.2.1, 9, .inl a_errors)), ((a0 0), .inr (5, [.int (n0 0), .int (n0 1), .int (n0 2), .int (n0 3), .ref (a0 1), .ref (a0 3), .ref (a0 7), .ref (a0 9), .ref (a0 12)])), ((a0 1), .inr (2, [.ref (a0 2)])), ((a0 2), .inl (E.2.1, 16, .inl (r0 0))), ((a0 3), .inr (0, [.ref (a0 4), .ref (a0 5), .ref (a0 6), .int (n0 4)])), ((a0 4), .inl (E.2.1, 4, .inl (r0 1))), ((a0 5), .inl (E.2.1, 4, .inl (r0 2))), ((a0 6), .inl (E.2.1, 4, .inl (r0 3))), ((a0 7), .inr (3, [.ref (a0 8), .int (n0 5)])), ((a0 8), .inl (E.2.1, 128, .inl (r0 4))), ((a0 9), .inr (6, [.ref (a0 10), .ref (a0 11), .int (n0 6)])), ((a0 10), .inl (E.2.1, 20, .inl (r0 5))), ((a0 11), .inl (E.2.1, 20, .inl (r0 6))), ((a0 12), .inr (4, [.ref (a0 13), .ref (a0 14), .ref (a0 15), .ref (a0 16), .int (n0 7), .int (n0 8), .int (n0 9)])), ((a0 13), .inl (E.2.1, 128, .inl (r0 7))), ((a0 14), .inl (E.2.1, 16, .inl (r0 8))), ((a0 15), .inl (E.2.1, 16, .inl (r0 9))), ((a0 16), .inl (E.2.1, 16, .inl (r0 10))), (hh, .inr (1, [.ref ha, .int n_saved])), (ha, .inl (E.2.2.1, 3, .inr (.inr (.inr (.inr (rv0 (some (a1 0)) (some (a2 0)) (some (a3 0)))))))), ((a1 0), .inr (5, [.int (n1 0), .int (n1 1), .int (n1 2), .int (n1 3), .ref (a1 1), .ref (a1 3), .ref (a1 7), .ref (a1 9), .ref (a1 12)])), ((a1 1), .inr (2, [.ref (a1 2)])), ((a1 2), .inl (E.2.1, 16, .inl (r1 0))), ((a1 3), .inr (0, [.ref (a1 4), .ref (a1 5), .ref (a1 6), .int (n1 4)])), ((a1 4), .inl (E.2.1, 4, .inl (r1 1))), ((a1 5), .inl (E.2.1, 4, .inl (r1 2))), ((a1 6), .inl (E.2.1, 4, .inl (r1 3))), ((a1 7), .inr (3, [.ref (a1 8), .int (n1 5)])), ((a1 8), .inl (E.2.1, 128, .inl (r1 4))), ((a1 9), .inr (6, [.ref (a1 10), .ref (a1 11), .int (n1 6)])), ((a1 10), .inl (E.2.1, 20, .inl (r1 5))), ((a1 11), .inl (E.2.1, 20, .inl (r1 6))), ((a1 12), .inr (4, [.ref (a1 13), .ref (a1 14), .ref (a1 15), .ref (a1 16), .int (n1 7), .int (n1 8), .int (n1 9)])), ((a1 13), .inl (E.2.1, 128, .inl (r1 7))), ((a1 14), .inl (E.2.1, 16, .inl (r1 8))), ((a1 15), .inl (E.2.1, 16, .inl (r1 9))), ((a1 16), .inl (E.2.1, 16, .inl (r1 10))), ((a2 0), .inr (5, [.int (n2 0), .int (n2 1), .int (n2 2), .int (n2 3), .ref (a2 1), .ref (a2 3), .ref (a2 7), .ref (a2 9), .ref (a2 12)])), ((a2 1), .inr (2, [.ref (a2 2)])), ((a2 2), .inl (E.2.1, 16, .inl (r2 0))), ((a2 3), .inr (0, [.ref (a2 4), .ref (a2 5), .ref (a2 6), .int (n2 4)])), ((a2 4), .inl (E.2.1, 4, .inl (r2 1))), ((a2 5), .inl (E.2.1, 4, .inl (r2 2))), ((a2 6), .inl (E.2.1, 4, .inl (r2 3))), ((a2 7), .inr (3, [.ref (a2 8), .int (n2 5)])), ((a2 8), .inl (E.2.1, 128, .inl (r2 4))), ((a2 9), .inr (6, [.ref (a2 10), .ref (a2 11), .int (n2 6)])), ((a2 10), .inl (E.2.1, 20, .inl (r2 5))), ((a2 11), .inl (E.2.1, 20, .inl (r2 6))), ((a2 12), .inr (4, [.ref (a2 13), .ref (a2 14), .ref (a2 15), .ref (a2 16), .int (n2 7), .int (n2 8), .int (n2 9)])), ((a2 13), .inl (E.2.1, 128, .inl (r2 7))), ((a2 14), .inl (E.2.1, 16, .inl (r2 8))), ((a2 15), .inl (E.2.1, 16, .inl (r2 9))), ((a2 16), .inl (E.2.1, 16, .inl (r2 10))), ((a3 0), .inr (5, [.int (n3 0), .int (n3 1), .int (n3 2), .int (n3 3), .ref (a3 1), .ref (a3 3), .ref (a3 7), .ref (a3 9), .ref (a3 12)])), ((a3 1), .inr (2, [.ref (a3 2)])), ((a3 2), .inl (E.2.1, 16, .inl (r3 0))), ((a3 3), .inr (0, [.ref (a3 4), .ref (a3 5), .ref (a3 6), .int (n3 4)])), ((a3 4), .inl (E.2.1, 4, .inl (r3 1))), ((a3 5), .inl (E.2.1, 4, .inl (r3 2))), ((a3 6), .inl (E.2.1, 4, .inl (r3 3))), ((a3 7), .inr (3, [.ref (a3 8), .int (n3 5)])), ((a3 8), .inl (E.2.1, 128, .inl (r3 4))), ((a3 9), .inr (6, [.ref (a3 10), .ref (a3 11), .int (n3 6)])), ((a3 10), .inl (E.2.1, 20, .inl (r3 5))), ((a3 11), .inl (E.2.1, 20, .inl (r3 6))), ((a3 12), .inr (4, [.ref (a3 13), .ref (a3 14), .ref (a3 15), .ref (a3 16), .int (n3 7), .int (n3 8), .int (n3 9)])), ((a3 13), .inl (E.2.1, 128, .inl (r3 7))), ((a3 14), .inl (E.2.1, 16, .inl (r3 8))), ((a3 15), .inl (E.2.1, 16, .inl (r3 9))), ((a3 16), .inl (E.2.1, 16, .inl (r3 10))), (m0, .inr (8, [.ref m1, .ref m2, .int n_saved_m, .ref m3, .long n_hash_m])), (m1, .inl (E.2.1, 404, .inl a_now_m)), (m2, .inl (E.2.1, 1212, .inl a_past_m)), (m3, .inl (E.2.1, 9, .inl a_errors_m))]
