/-! ===== Arrays.fill ===== -/
theorem aln_of {h : xH} {a : Nat} {x : xA} (H : h.1[a]? = some (.inl x)) : aln h a = some (nI x.2.1) := by simp [aln, gA_of H, nI]
theorem get_set_self {l : List xC} {a : Nat} {c x : xC} (H : l[a]? = some x) : (l.set a c)[a]? = some c := List.getElem?_set_self (List.getElem?_eq_some_iff.mp H).1
theorem set_set_same {l : List xC} {a : Nat} {c x : xC} : (l.set a c).set a x = l.set a x := by rw [List.set_set]
theorem set_get_same {l : List xC} {a : Nat} {x : xC} (H : l[a]? = some x) : l.set a x = l := by
  apply List.ext_getElem?
  intro k
  by_cases e : a = k
  · subst e
    rw [get_set_self H, H]
  · rw [List.getElem?_set_ne e]
theorem fill_loop {hc : List xC} {hk : Nat × Nat} {a n : Nat} {f : Nat → Int32} {v : Int32} (H : hc[a]? = some (.inl (.int, n, .inl f))) (hn : n < 1000000) : f_J7_fill_53178_5 xFU (hc, hk) a v (nI 0) (nI n) = some (hc.set a (.inl (.int, n, .inl (fun j => if j < n then v else f j))), hk) := by
  have key := loop0 (F := fun k i (s : xH) => f_J7_fill_53178_5 k s a v (nI i) (nI n)) (N := n) (st := fun i => (hc.set a (.inl (.int, n, .inl (fun j => if j < i then v else f j))), hk))
    (r := some (hc.set a (.inl (.int, n, .inl (fun j => if j < n then v else f j))), hk)) (fun k i hi => ?_) (fun k => ?_) hn
  · have e0 : (fun j => if j < 0 then v else f j) = f := by funext j; simp
    rw [e0, set_get_same H] at key
    exact key
  · rw [f_J7_fill_53178_5, if_neg (by rw [nI_leI (by omega) (by omega)]; omega), stI_of (get_set_self H) (inB_nI hi (by omega)), Option.bind_some, nI_1, set_set_same, nI_clamp (by omega)]
    have e : va_up (fun j => if j < i then v else f j) i v = fun j => if j < i + 1 then v else f j := by
      funext j
      unfold va_up
      by_cases e1 : j = i
      · subst e1; simp
      · by_cases e2 : j < i
        · have : j < i + 1 := by omega
          simp [e1, e2, this]
        · have : ¬ j < i + 1 := by omega
          simp [e1, e2, this]
    rw [e]
  · rw [f_J7_fill_53178_5, if_pos (by rw [nI_leI (by omega) (by omega)]; omega)]
theorem fill_spec {hc : List xC} {hk : Nat × Nat} {a n : Nat} {f : Nat → Int32} {v : Int32} (H : hc[a]? = some (.inl (.int, n, .inl f))) (hn : n < 1000000) : f_J7_fill_53178 (hc, hk) a v = some (hc.set a (.inl (.int, n, .inl (fun j => if j < n then v else f j))), hk) := by
  unfold f_J7_fill_53178
  rw [aln_of (h := (hc, hk)) H, Option.bind_some, ← nI_0]
  exact fill_loop H hn
