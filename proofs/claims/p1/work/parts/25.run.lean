/-! ===== what the engine tells holds of the machine ===== -/
section XRUN
variable {p : Program} {l : Launch} {e : Env} {R : Room} {s : State} {m : MethodId} {args : Array Value} {below : List Frame} {meth : Method} {c : Code} {H : Heap} {locs : List Loc} {cells slots : Nat} {Q : State → Prop}
variable {cc : ByteArray} {D : va_G} {cl : List vw_C} {ad : Nat → Nat} {z : Nat} {ft : List (List FieldType)} {Ts : List Jvm.Cond} {own : String} {h h' : xH} {st st' : List Value} {a pc : Nat} {tg : List Nat} {L : Array Slot} {H0 : Heap}
theorem xcw_sh (ad : Nat → Nat) (r : List Value) : ((r.map (xsh ad)).map fun v => v.category).sum = xcw r := by
  unfold xcw
  congr 1
  rw [List.map_map]
  apply List.map_congr_left
  intro v _
  exact xsh_cat ad v
theorem xcp_len {xs ys : List Int32} {sp dp n : Nat} (h1 : sp + n ≤ xs.length) (h2 : dp + n ≤ ys.length) : (xcp xs ys sp dp n).length = ys.length := by
  unfold xcp
  simp
  omega
theorem xcp_get {xs ys : List Int32} {sp dp n : Nat} (h1 : sp + n ≤ xs.length) (h2 : dp + n ≤ ys.length) (j : Nat) : (xcp xs ys sp dp n)[j]? = if dp ≤ j ∧ j < dp + n then xs[sp + (j - dp)]? else ys[j]? := by
  unfold xcp
  have e : (ys.take dp).length = dp := by simp; omega
  have e2 : ((xs.drop sp).take n).length = n := by simp; omega
  by_cases a : j < dp
  · rw [List.getElem?_append_left (by omega), List.getElem?_take, if_pos a, if_neg (by omega)]
  · rw [List.getElem?_append_right (by omega), e]
    by_cases b : j < dp + n
    · rw [if_pos ⟨by omega, b⟩, List.getElem?_append_left (by omega), List.getElem?_take, if_pos (by omega), List.getElem?_drop]
    · rw [if_neg (by omega), List.getElem?_append_right (by omega), List.getElem?_drop, e2]
      have e3 : dp + n + (j - dp - n) = j := by omega
      rw [e3]
theorem xcopy_sound {ix : Nat} {xs ys : List Int32} {n dp sp : Int32} {d o : Nat} {r : List Value} (hx : p.tables.exec = Jvm.exec) (hb : c.code = cc) (hml : c.maxLocals = L.size) (hts : ∀ w ∈ Ts, w.before args s = true) (hown : s.vm.findClass own = some m.cls) (hw : xW D cl ad z s h H) (hS0 : va_S (fun q => z ≤ q) H0 H locs) (hsite : xBt Ts own ix 1) (hd : decode cc pc = .ok (.invokestatic ix, 3)) (hR : 1 ≤ R.frames ∧ 60 ≤ R.locals)
    (ho : h[o]? = some (.inr (.inl (0, xs)))) (hdo : h[d]? = some (.inr (.inl (0, ys)))) (hr8 : xcw r ≤ 8) (hd0 : 13 ≤ d) (h1 : ¬ sp < 0) (h2 : ¬ dp < 0) (h3 : ¬ n < 0) (h4 : sp.toNatClampNeg + n.toNatClampNeg ≤ xs.length) (h5 : dp.toNatClampNeg + n.toNatClampNeg ≤ ys.length)
    (kk : ∀ (H' : Heap) (locs' : List Loc), xW D cl ad z s (h.set d (.inr (.inl (0, xcp xs ys sp.toNatClampNeg dp.toNatClampNeg n.toNatClampNeg)))) H' → va_S (fun q => z ≤ q) H0 H' locs' → W p l e R s m args below meth c H' locs' cells slots Q (F0 m (pc + 3) L (r.map (xsh ad)))) : W p l e R s m args below meth c H locs cells slots Q (F0 m pc L ((Value.int n :: .int dp :: .ref d :: .int sp :: .ref o :: r).map (xsh ad))) := by
  have nn : ∀ z : Int32, ¬ z < 0 → z.toInt = (z.toNatClampNeg : Int) := by
    intro z hz
    have hz0 : (0 : Int) ≤ z.toInt := by
      have := Int32.not_lt.mp hz
      simpa using Int32.le_iff_toInt_le.mp this
    show z.toInt = ((z.toInt.toNat : Nat) : Int)
    omega
  intro T hT X
  have hdl : d < h.length := (List.getElem?_eq_some_iff.mp hdo).1
  obtain ⟨cs, s1, s2, s3, s4⟩ := hw.2.2.2.2.2 o _ ho
  obtain ⟨cd, d1, d2, d3, d4⟩ := hw.2.2.2.2.2 d _ hdo
  obtain ⟨s2a, ks, hks, sComp, hsk⟩ := id s2
  obtain ⟨d2a, kd, hkd, dComp, hdk⟩ := id d2
  have ss : cs.slots.size = xs.length := by rw [s4]; simp
  have ds : cd.slots.size = ys.length := by rw [d4]; simp
  have hval : ∀ j, j < xs.length → cs.slots[j]? = some (.int (xs.getD j 0)) := fun j hj => by rw [s4]; simp [hj]
  obtain ⟨vm', X', step⟩ := X.arraycopy hx hown (hts _ hsite.1) (hts _ hsite.2.1) (hts _ hsite.2.2.1) (hts _ hsite.2.2.2) (src := ad o) (dst := ad d) (cs := cs) (cd := cd) (srcPos := sp) (destPos := dp) (n := n) (by rw [hT]; exact s1) (by rw [hT]; exact d1)
    s2a d2a s3 d3 hks hkd hsk hdk rfl h1 h2 h3
    (by rw [nn sp h1, nn n h3, ss]; omega)
    (by rw [nn dp h2, nn n h3, ds]; omega)
    (fun vm₁ _ i hi => by
      have e : cs.slots.getD (sp.toNatClampNeg + i) .null = .int (xs.getD (sp.toNatClampNeg + i) 0) := by
        rw [Array.getD_eq_getD_getElem?, hval _ (by omega)]
        rfl
      exact ⟨by rw [e]; rfl, by rw [e]; exact trivial⟩)
    (g := F0 m pc L ((Value.int n :: .int dp :: .ref d :: .int sp :: .ref o :: r).map (xsh ad))) rfl (by rw [hml]) (rest := r.map (xsh ad)) rfl (by rw [hb]; exact hd) hR.1 (by
      rw [xcw_sh]
      have : nativeFrameWords "java/lang/System" "arraycopy" 5 ≤ 30 := by decide +kernel
      have := hR.2
      show 2 * 0 + _ + _ ≤ _
      omega)
  have ha : ad d < H.size := (Array.getElem?_eq_some_iff.mp d1).1
  have hheap : ((T.setVm vm').setCell (ad d) (copied cs cd sp dp n)).heap = H.setIfInBounds (ad d) (copied cs cd sp dp n) := by rw [← hT]; rfl
  have oq : ∀ q : Nat, q ≠ ad d → (H.setIfInBounds (ad d) (copied cs cd sp dp n))[q]? = H[q]? := fun q hq => by simp [Array.getElem?_setIfInBounds, Ne.symm hq]
  have hself : (H.setIfInBounds (ad d) (copied cs cd sp dp n))[ad d]? = some (copied cs cd sp dp n) := by simp [Array.getElem?_setIfInBounds, ha]
  have hcopy : (copied cs cd sp dp n).cls = cd.cls ∧ (copied cs cd sp dp n).vm = cd.vm ∧ (copied cs cd sp dp n).slots = ((xcp xs ys sp.toNatClampNeg dp.toNatClampNeg n.toNatClampNeg).map Value.int).toArray := by
    have f := Cell.storeRun_facts cd dp.toNatClampNeg (cs.stretch sp.toNatClampNeg n.toNatClampNeg)
    refine ⟨f.1, f.2.1, ?_⟩
    have hst : cs.stretch sp.toNatClampNeg n.toNatClampNeg = (List.range n.toNatClampNeg).map (fun i => Value.int (xs.getD (sp.toNatClampNeg + i) 0)) := by
      unfold Cell.stretch
      apply List.map_congr_left
      intro i hi
      have hi' := List.mem_range.mp hi
      rw [Array.getD_eq_getD_getElem?, hval _ (by omega)]
      rfl
    apply Array.ext_getElem?
    intro j
    rw [Cell.storeRun_get _ _ _ _ (by rw [hst, ds]; simp; exact h5), hst]
    have er : ((xcp xs ys sp.toNatClampNeg dp.toNatClampNeg n.toNatClampNeg).map Value.int).toArray[j]? = (if dp.toNatClampNeg ≤ j ∧ j < dp.toNatClampNeg + n.toNatClampNeg then xs[sp.toNatClampNeg + (j - dp.toNatClampNeg)]? else ys[j]?).map Value.int := by
      rw [← xcp_get h4 h5]
      simp
    rw [List.length_map, List.length_range, er]
    by_cases b : dp.toNatClampNeg ≤ j ∧ j < dp.toNatClampNeg + n.toNatClampNeg
    · rw [if_pos b, if_pos b, List.getElem?_map, List.getElem?_range (by omega)]
      have hlt : sp.toNatClampNeg + (j - dp.toNatClampNeg) < xs.length := by omega
      rw [List.getElem?_eq_getElem hlt]
      simp [List.getD_eq_getElem?_getD, hlt]
    · rw [if_neg b, if_neg b, d4]
      simp
  obtain ⟨t, a1, b1⟩ := kk _ _ (hw.set hdl hd0 (c' := .inr (.inl (0, xcp xs ys sp.toNatClampNeg dp.toNatClampNeg n.toNatClampNeg))) ⟨_, hself, ⟨by rw [hcopy.2.1]; exact d2a, kd, by rw [hcopy.1]; exact hkd, dComp, hdk⟩, by rw [hcopy.2.1]; exact d3, hcopy.2.2⟩ (by simp) oq) ⟨by simp; exact hS0.1, fun q g1 g2 => by
      rw [oq q (fun e => g2 (by rw [e]; exact hw.in hdl hd0))]
      exact hS0.2.1 q g1 g2, fun q hq => by
      rcases List.mem_append.mp hq with h | h
      · exact hS0.2.2 q h
      · obtain ⟨y, -, hy⟩ := List.mem_map.mp h
        rw [← hy]
        exact hw.in hdl hd0⟩ _ hheap X'
  exact ⟨t, step t a1, b1⟩
end XRUN
