/-! ===== the engine's heap instructions: each is a row of the kit ===== -/
section XHS
variable {p : Program} {l : Launch} {e : Env} {R : Room} {s : State} {m : MethodId} {args : Array Value} {below : List Frame} {meth : Method} {c : Code} {H : Heap} {locs : List Loc} {cells slots : Nat} {Q : State → Prop}
variable {cc : ByteArray} {D : va_G} {cl : List vw_C} {ad : Nat → Nat} {z : Nat} {ft : List (List FieldType)} {Ts : List Jvm.Cond} {Rs : xRs} {own : String} {h h' : xH} {st st' : List Value} {a pc : Nat} {tg : List Nat} {L : Array Slot} {H0 : Heap}
theorem xgf_sound {ini : Bool} {ix : Nat} (hx : p.tables.exec = Jvm.exec) (hb : c.code = cc) (hts : ∀ w ∈ Ts, w.before args s = true) (hown : s.vm.findClass own = some m.cls) (hK : va_K D cl [] s) (hcl : xClOk Ts cl ft) (hw : xW D cl ad z s h H) (hsite : xSite Ts Rs cl own ini a tg (.getfield ix)) (hd : decode cc pc = .ok (.getfield ix, 3)) (hr : xgf a (tg.headD 0) st h = some (st', h'))
    (kk : W p l e R s m args below meth c H locs cells slots Q (F0 m (pc + 3) L (st'.map (xsh ad)))) : h' = h ∧ W p l e R s m args below meth c H locs cells slots Q (F0 m pc L (st.map (xsh ad))) := by
  unfold xgf at hr
  split at hr
  · rename_i o r
    split at hr
    · rename_i ci vs ho
      split at hr
      · rename_i hci
        subst hci
        split at hr
        · rename_i v hv
          simp only [Option.some.injEq, Prod.mk.injEq] at hr
          obtain ⟨rfl, rfl⟩ := hr
          refine ⟨rfl, ?_⟩
          rcases hsite with ⟨r1, hc, hk, hlink⟩ | ⟨hck, hsite⟩
          rotate_left
          · rcases hw.2.2.2.2.2 o _ ho with ⟨r0, h1, -⟩ | ⟨-, v0, v1, hvs, hstr⟩
            · have h1 : cl[tg.headD 0]? = some r0 := h1
              rw [hck, hcl.1] at h1
              cases h1
            · have hvs : vs = [v0, v1] := hvs
              subst hvs
              rcases hsite with ⟨rfl, hlink⟩ | ⟨rfl, hlink⟩
              · cases hv
                obtain ⟨cf, kf, fi, f, cell, e1, e2, e3, e4, e5, -⟩ := hstr.2.1
                exact W.getf hx hb hown (hts _ hlink) e1 e2 e3 e4 e5 rfl rfl hd kk
              · cases hv
                obtain ⟨cf, kf, fi, f, cell, e1, e2, e3, e4, e5, -⟩ := hstr.2.2
                exact W.getf hx hb hown (hts _ hlink) e1 e2 e3 e4 e5 rfl rfl hd kk
          rcases hw.2.2.2.2.2 o _ ho with ⟨r0, h1, hlen, cell, q1, q2, q3, q4⟩ | ⟨h1, -⟩
          rotate_left
          · have h1 : tg.headD 0 = 1000 := h1
            rw [h1, hcl.1] at hc
            cases hc
          cases hc.symm.trans h1
          obtain ⟨hS, hfc, kC, hkC, hkind⟩ := hK.1 _ _ hc
          obtain ⟨cf, kf, fi, f, hi, hsl⟩ := hS a hk
          refine W.getf hx hb hown (hts _ hlink) hi (u_facts hfc hkC (u_lays hts (hcl.2 _ _ hc).1 hk) hi).1 q1 (by rw [q3]; exact fun h => by cases h) (v := xsh ad v) ?_ rfl rfl hd kk
          rw [hsl, q4 a hk]
          simp [vp_V, hv]
        · cases hr
      · cases hr
    · cases hr
  · cases hr
theorem xpf_sound {ini : Bool} {ix : Nat} (hx : p.tables.exec = Jvm.exec) (hb : c.code = cc) (hts : ∀ w ∈ Ts, w.before args s = true) (hown : s.vm.findClass own = some m.cls) (hK : va_K D cl [] s) (hcl : xClOk Ts cl ft) (hin2 : ini = true → meth.name = "<init>") (hw : xW D cl ad z s h H) (hS0 : va_S (fun q => z ≤ q) H0 H locs) (hsite : xSite Ts Rs cl own ini a tg (.putfield ix)) (hd : decode cc pc = .ok (.putfield ix, 3)) (hr : xpf (((ft.getD (tg.headD 0) []).getD a .int)) a (tg.headD 0) st h = some (st', h'))
    (kk : ∀ (H' : Heap) (locs' : List Loc), xW D cl ad z s h' H' → va_S (fun q => z ≤ q) H0 H' locs' → W p l e R s m args below meth c H' locs' cells slots Q (F0 m (pc + 3) L (st'.map (xsh ad)))) : h'.length = h.length ∧ xsz h' = xsz h ∧ W p l e R s m args below meth c H locs cells slots Q (F0 m pc L (st.map (xsh ad))) := by
  unfold xpf at hr
  split at hr
  · rename_i v o r
    split at hr
    · rename_i ci vs ho
      split at hr
      · rename_i hcs
        obtain ⟨hci, ho0, hkl, hfit, hnar⟩ := hcs
        subst hci
        simp only [Option.some.injEq, Prod.mk.injEq] at hr
        obtain ⟨rfl, rfl⟩ := hr
        refine ⟨by rw [List.length_set], xsz_set _ _ _ _ ho (by simp [xcz]), ?_⟩
        have hol : o < h.length := (List.getElem?_eq_some_iff.mp ho).1
        obtain ⟨⟨C, T, N⟩, hc, hk, hlink, hfo⟩ := hsite
        rcases hw.2.2.2.2.2 o _ ho with ⟨r0, h1, hlen, cell, q1, q2, q3, q4⟩ | ⟨h1, -⟩
        rotate_left
        · have h1 : tg.headD 0 = 1000 := h1
          rw [h1, hcl.1] at hc
          cases hc
        cases hc.symm.trans h1
        obtain ⟨hin, hnm, tys, hf1, hf2, hf3⟩ := hcl.2 _ _ hc
        have hap := va_apart (own := own) hts hin (fun k => tys.getD k .int) hf3 hnm hK hc
        obtain ⟨hS, hfc, kC, hkC, hkind⟩ := hK.1 _ _ hc
        obtain ⟨cf, kf, fi, f, hi, hsl⟩ := hS a hk
        have hty : (ft.getD (tg.headD 0) []).getD a .int = tys.getD a .int := by rw [List.getD_eq_getElem?_getD (l := ft), hf1]; rfl
        rw [hty] at hfit hnar
        have hfit' := xfits_sh ad _ _ hfit
        have hnar' := xnar_sh ad _ _ hnar
        have hst := (u_facts hfc hkC (u_lays hts hin hk) hi).1
        have hlay := hts _ (hin _ (u_in_lay hk))
        unfold u_lay at hlay
        have fin : ∀ (H' : Heap), H'[ad o]? = some (cell.setSlot (D.2 (tg.headD 0) a) (xsh ad v)) → H'.size = H.size → (∀ q, q ≠ ad o → H'[q]? = H[q]?) → W p l e R s m args below meth c H' (locs ++ [⟨ad o, D.2 (tg.headD 0) a⟩]) cells slots Q (F0 m (pc + 3) L (r.map (xsh ad))) := by
          intro H' e1 e2 e3
          refine kk H' _ (hw.set hol ho0 (Or.inl ⟨_, hc, by rw [List.length_set]; exact hlen, ?_⟩) e2 e3) (xS.put hS0 e2 e3 (hw.in hol ho0))
          rw [List.map_set]
          exact t_OB.to (V := updV (vp_V (vs.map (xsh ad))) a (xsh ad v)) ⟨_, e1, q2, q3, t_set q4 hap hk _⟩ (fun j _ => vp_updV_set (by rw [List.length_map]; exact hkl) _ j)
        rcases hfo with hff | ⟨hini, hdecl⟩
        · rw [if_neg (by rw [hff]; decide)] at hlay
          have h6 := u_store hfc hkC hkind hlay hi (hf3 a hk) hnar' hfit'
          refine W.putK hx hb (f := f) ⟨hown, hts _ hlink, ⟨_, _, _, hi⟩, hst⟩ (by rw [q2]; exact h6) q1 q3 (by rw [hsl]; exact k2_hasslot (q4 a hk)) rfl rfl hd fun H' e1 e2 e3 => ?_
          rw [hsl] at e1 ⊢
          exact fin H' e1 e2 e3
        · by_cases hff : (T a).2.2.2 = true
          · rw [if_pos hff] at hlay
            have hcf : m.cls = cf := by
              obtain ⟨_, _, c', _, _, _, -, -, hf', -, -, -, hown2, -⟩ := Cond.laysFinal_spec hlay
              have e1 : c' = cf := by have := hi.symm.trans hf'; simp at this; exact this.1.symm
              have hdecl : (T a).1 = own := hdecl
              rw [hdecl] at hown2
              rw [← e1]; exact Option.some.inj (hown.symm.trans hown2)
            have h6 := u_fits hfc hkC hkind (Or.inr hlay) hi (hf3 a hk) hnar' hfit'
            refine W.putFinK hx hb hown (hts _ hlink) hi hst hcf (hin2 hini) (by rw [q2]; exact h6) q1 q3 (by rw [hsl]; exact k2_hasslot (q4 a hk)) rfl rfl hd fun H' e1 e2 e3 => ?_
            rw [hsl] at e1 ⊢
            exact fin H' e1 e2 e3
          · rw [if_neg hff] at hlay
            have h6 := u_store hfc hkC hkind hlay hi (hf3 a hk) hnar' hfit'
            refine W.putK hx hb (f := f) ⟨hown, hts _ hlink, ⟨_, _, _, hi⟩, hst⟩ (by rw [q2]; exact h6) q1 q3 (by rw [hsl]; exact k2_hasslot (q4 a hk)) rfl rfl hd fun H' e1 e2 e3 => ?_
            rw [hsl] at e1 ⊢
            exact fin H' e1 e2 e3
      · cases hr
    · cases hr
  · cases hr
theorem xia_sound {t : Nat} (hx : p.tables.exec = Jvm.exec) (hb : c.code = cc) (hw : xW D cl ad z s h H) (hd : decode cc pc = .ok (if t = 0 then .iaload else .baload, 1)) (ht : t = 0 ∨ t = 1) (hr : xia t st h = some (st', h'))
    (kk : W p l e R s m args below meth c H locs cells slots Q (F0 m (pc + 1) L (st'.map (xsh ad)))) : h' = h ∧ W p l e R s m args below meth c H locs cells slots Q (F0 m pc L (st.map (xsh ad))) := by
  unfold xia at hr
  split at hr
  · rename_i j o r
    split at hr
    · rename_i u xs ho
      split at hr
      · rename_i hcs
        obtain ⟨hu, hj⟩ := hcs
        split at hr
        · rename_i v hv
          simp only [Option.some.injEq, Prod.mk.injEq] at hr
          obtain ⟨rfl, rfl⟩ := hr
          refine ⟨rfl, ?_⟩
          have hlt : j.toNatClampNeg < xs.length := (List.getElem?_eq_some_iff.mp hv).1
          by_cases hu2 : u = 2
          · subst hu2
            obtain ⟨cell, q1, q2, q3, q4, q5, q6⟩ := hw.2.2.2.2.2 o _ ho
            rw [List.length_map] at q4 q6
            have hv' : cell.slots[j.toNatClampNeg]? = some (.int v) := by rw [q6 _ hlt]; simp [hv]
            have ht1 : t = 1 := by omega
            subst ht1
            exact W.bald hx hb q1 q2 q3 (xix_ok hj (Nat.lt_of_lt_of_le hlt q4)) hv' rfl rfl hd kk
          have hut : u = t := by omega
          subst hut
          obtain ⟨cell, q1, q2, q3, q4⟩ := xAr.at hu2 (hw.2.2.2.2.2 o _ ho)
          have hs : cell.slots.size = xs.length := by rw [q4]; simp
          have hv' : cell.slots[j.toNatClampNeg]? = some (.int v) := by rw [q4]; simp [hv]
          rcases ht with rfl | rfl
          · exact W.iald hx hb q1 q2 q3 (by rw [hs]; exact xix_ok hj hlt) hv' rfl rfl hd kk
          · exact W.bald hx hb q1 q2 q3 (by rw [hs]; exact xix_ok hj hlt) hv' rfl rfl hd kk
        · cases hr
      · cases hr
    · cases hr
  · cases hr
theorem xla_sound (hx : p.tables.exec = Jvm.exec) (hb : c.code = cc) (hw : xW D cl ad z s h H) (hd : decode cc pc = .ok (.laload, 1)) (hr : xla st h = some (st', h'))
    (kk : W p l e R s m args below meth c H locs cells slots Q (F0 m (pc + 1) L (st'.map (xsh ad)))) : h' = h ∧ W p l e R s m args below meth c H locs cells slots Q (F0 m pc L (st.map (xsh ad))) := by
  unfold xla at hr
  split at hr
  · rename_i j o r
    split at hr
    · rename_i xs ho
      split at hr
      · rename_i hj
        split at hr
        · rename_i v hv
          simp only [Option.some.injEq, Prod.mk.injEq] at hr
          obtain ⟨rfl, rfl⟩ := hr
          refine ⟨rfl, ?_⟩
          obtain ⟨cell, q1, q2, q3, q4⟩ := hw.2.2.2.2.2 o _ ho
          have hlt : j.toNatClampNeg < xs.length := (List.getElem?_eq_some_iff.mp hv).1
          have hs : cell.slots.size = xs.length := by rw [q4]; simp
          have hv' : cell.slots[j.toNatClampNeg]? = some (.long v) := by rw [q4]; simp [hv]
          exact W.lald hx hb q1 q2 q3 (by rw [hs]; exact xix_ok hj hlt) hv' rfl rfl hd kk
        · cases hr
      · cases hr
    · cases hr
  · cases hr
theorem xaa_sound (hx : p.tables.exec = Jvm.exec) (hb : c.code = cc) (hw : xW D cl ad z s h H) (hd : decode cc pc = .ok (.aaload, 1)) (hr : xaa st h = some (st', h'))
    (kk : W p l e R s m args below meth c H locs cells slots Q (F0 m (pc + 1) L (st'.map (xsh ad)))) : h' = h ∧ W p l e R s m args below meth c H locs cells slots Q (F0 m pc L (st.map (xsh ad))) := by
  unfold xaa at hr
  split at hr
  · rename_i j o r
    split at hr
    · rename_i xs ho
      split at hr
      · rename_i hj
        split at hr
        · rename_i v hv
          simp only [Option.some.injEq, Prod.mk.injEq] at hr
          obtain ⟨rfl, rfl⟩ := hr
          refine ⟨rfl, ?_⟩
          obtain ⟨cell, q1, q2, q3, q4⟩ := hw.2.2.2.2.2 o _ ho
          have hlt : j.toNatClampNeg < xs.length := (List.getElem?_eq_some_iff.mp hv).1
          have hs : cell.slots.size = xs.length := by rw [q4]; simp
          have hv' : cell.slots[j.toNatClampNeg]? = some (.ref (ad v)) := by rw [q4]; simp [hv]
          exact W.aald hx hb q1 q2 rfl q3 (by rw [hs]; exact xix_ok hj hlt) hv' rfl rfl hd kk
        · cases hr
      · cases hr
    · cases hr
  · cases hr
theorem xArr.set {ty : FieldType} {q : Nat} {vs : List Value} {H' : Heap} {cell : Cell} {j : Nat} {v : Value} (q2 : s.isArrayOf cell ty) (q3 : cell.vm ≠ .unknown) (q4 : cell.slots = vs.toArray) (e : H'[q]? = some (cell.setSlot j v)) : xArr s H' q ty (vs.set j v) :=
  ⟨_, e, q2, q3, by show cell.slots.setIfInBounds j v = _; rw [q4]; simp⟩
theorem xis_sound {t : Nat} (hx : p.tables.exec = Jvm.exec) (hb : c.code = cc) (hw : xW D cl ad z s h H) (hS0 : va_S (fun q => z ≤ q) H0 H locs) (hd : decode cc pc = .ok (if t = 0 then .iastore else .bastore, 1)) (ht : t = 0 ∨ t = 1) (hr : xis t (fun x => if t = 0 then x else x.toInt8.toInt32) st h = some (st', h'))
    (kk : ∀ (H' : Heap) (locs' : List Loc), xW D cl ad z s h' H' → va_S (fun q => z ≤ q) H0 H' locs' → W p l e R s m args below meth c H' locs' cells slots Q (F0 m (pc + 1) L (st'.map (xsh ad)))) : h'.length = h.length ∧ xsz h' = xsz h ∧ W p l e R s m args below meth c H locs cells slots Q (F0 m pc L (st.map (xsh ad))) := by
  unfold xis at hr
  split at hr
  · rename_i x j o r
    split at hr
    · rename_i u xs ho
      split at hr
      · rename_i hcs
        obtain ⟨rfl, ho0, hj, hlt⟩ := hcs
        simp only [Option.some.injEq, Prod.mk.injEq] at hr
        obtain ⟨rfl, rfl⟩ := hr
        refine ⟨by rw [List.length_set], xsz_set _ _ _ _ ho (by simp [xcz]), ?_⟩
        have hol : o < h.length := (List.getElem?_eq_some_iff.mp ho).1
        obtain ⟨cell, q1, q2, q3, q4⟩ := xAr.at (by omega) (hw.2.2.2.2.2 o _ ho)
        have hs : cell.slots.size = xs.length := by rw [q4]; simp
        rcases ht with rfl | rfl
        · refine W.iast hx hb q1 q2 q3 (by rw [hs]; exact xix_ok hj hlt) rfl rfl hd fun H' e1 e2 e3 => ?_
          refine kk H' _ (hw.set hol ho0 ?_ e2 e3) (xS.put hS0 e2 e3 (hw.in hol ho0))
          show xArr s H' (ad o) .int ((xs.set j.toNatClampNeg x).map Value.int)
          rw [List.map_set]
          exact xArr.set q2 q3 q4 e1
        · refine W.bast hx hb q1 q2 q3 (by rw [hs]; exact xix_ok hj hlt) rfl rfl hd fun H' e1 e2 e3 => ?_
          refine kk H' _ (hw.set hol ho0 ?_ e2 e3) (xS.put hS0 e2 e3 (hw.in hol ho0))
          show xArr s H' (ad o) .byte ((xs.set j.toNatClampNeg x.toInt8.toInt32).map Value.int)
          rw [List.map_set]
          exact xArr.set q2 q3 q4 e1
      · cases hr
    · cases hr
  · cases hr
theorem xls_sound (hx : p.tables.exec = Jvm.exec) (hb : c.code = cc) (hw : xW D cl ad z s h H) (hS0 : va_S (fun q => z ≤ q) H0 H locs) (hd : decode cc pc = .ok (.lastore, 1)) (hr : xls st h = some (st', h'))
    (kk : ∀ (H' : Heap) (locs' : List Loc), xW D cl ad z s h' H' → va_S (fun q => z ≤ q) H0 H' locs' → W p l e R s m args below meth c H' locs' cells slots Q (F0 m (pc + 1) L (st'.map (xsh ad)))) : h'.length = h.length ∧ xsz h' = xsz h ∧ W p l e R s m args below meth c H locs cells slots Q (F0 m pc L (st.map (xsh ad))) := by
  unfold xls at hr
  split at hr
  · rename_i x j o r
    split at hr
    · rename_i xs ho
      split at hr
      · rename_i hcs
        obtain ⟨ho0, hj, hlt⟩ := hcs
        simp only [Option.some.injEq, Prod.mk.injEq] at hr
        obtain ⟨rfl, rfl⟩ := hr
        refine ⟨by rw [List.length_set], xsz_set _ _ _ _ ho (by simp [xcz]), ?_⟩
        have hol : o < h.length := (List.getElem?_eq_some_iff.mp ho).1
        obtain ⟨cell, q1, q2, q3, q4⟩ := hw.2.2.2.2.2 o _ ho
        have hs : cell.slots.size = xs.length := by rw [q4]; simp
        refine W.last hx hb q1 q2 q3 (by rw [hs]; exact xix_ok hj hlt) rfl rfl hd fun H' e1 e2 e3 => ?_
        refine kk H' _ (hw.set hol ho0 ?_ e2 e3) (xS.put hS0 e2 e3 (hw.in hol ho0))
        show xArr s H' (ad o) .long ((xs.set j.toNatClampNeg x).map Value.long)
        rw [List.map_set]
        exact xArr.set q2 q3 q4 e1
      · cases hr
    · cases hr
  · cases hr
theorem xal_sound (hx : p.tables.exec = Jvm.exec) (hb : c.code = cc) (hw : xW D cl ad z s h H) (hd : decode cc pc = .ok (.arraylength, 1)) (hr : xal st h = some (st', h'))
    (kk : W p l e R s m args below meth c H locs cells slots Q (F0 m (pc + 1) L (st'.map (xsh ad)))) : h' = h ∧ W p l e R s m args below meth c H locs cells slots Q (F0 m pc L (st.map (xsh ad))) := by
  unfold xal at hr
  split at hr
  · rename_i o r
    split at hr
    · rename_i u xs ho
      simp only [Option.some.injEq, Prod.mk.injEq] at hr
      obtain ⟨rfl, rfl⟩ := hr
      refine ⟨rfl, ?_⟩
      by_cases hu2 : u = 2
      · subst hu2
        obtain ⟨cell, q1, q2, q3, q4, q5, q6⟩ := hw.2.2.2.2.2 o _ ho
        rw [List.length_map] at q5
        exact W.alen (n := Int32.ofNat xs.length) hx hb q1 q2 q5 rfl rfl hd kk
      obtain ⟨cell, q1, q2, q3, q4⟩ := xAr.at hu2 (hw.2.2.2.2.2 o _ ho)
      exact W.alen (n := Int32.ofNat xs.length) hx hb q1 q2 (by rw [q4]; simp <;> rfl) rfl rfl hd kk
    · rename_i xs ho
      simp only [Option.some.injEq, Prod.mk.injEq] at hr
      obtain ⟨rfl, rfl⟩ := hr
      refine ⟨rfl, ?_⟩
      obtain ⟨cell, q1, q2, q3, q4⟩ := hw.2.2.2.2.2 o _ ho
      exact W.alen (n := Int32.ofNat xs.length) hx hb q1 q2 (by rw [q4]; simp <;> rfl) rfl rfl hd kk
    · rename_i xs ho
      simp only [Option.some.injEq, Prod.mk.injEq] at hr
      obtain ⟨rfl, rfl⟩ := hr
      refine ⟨rfl, ?_⟩
      obtain ⟨cell, q1, q2, q3, q4⟩ := hw.2.2.2.2.2 o _ ho
      exact W.alen (n := Int32.ofNat xs.length) hx hb q1 q2 (by rw [q4]; simp <;> rfl) rfl rfl hd kk
    · cases hr
  · cases hr
theorem xnw_sound {ini : Bool} {ix : Nat} (hx : p.tables.exec = Jvm.exec) (hb : c.code = cc) (hts : ∀ w ∈ Ts, w.before args s = true) (hown : s.vm.findClass own = some m.cls) (hK : va_K D cl [] s) (hcl : xClOk Ts cl ft) (hw : xW D cl ad z s h H) (hS0 : va_S (fun q => z ≤ q) H0 H locs) (hsite : xSite Ts Rs cl own ini a tg (.new ix)) (hd : decode cc pc = .ok (.new ix, 3)) (hr : xnw a ft st h = some (st', h')) (hR1 : cells + (h'.length - h.length) ≤ R.cells) (hR2 : slots + (xsz h' - xsz h) ≤ R.slots)
    (kk : ∀ (H' : Heap) (locs' : List Loc), xW D cl ad z s h' H' → va_S (fun q => z ≤ q) H0 H' locs' → W p l e R s m args below meth c H' locs' (cells + (h'.length - h.length)) (slots + (xsz h' - xsz h)) Q (F0 m (pc + 3) L (st'.map (xsh ad)))) : W p l e R s m args below meth c H locs cells slots Q (F0 m pc L (st.map (xsh ad))) := by
  unfold xnw at hr
  split at hr
  · rename_i tys hty
    split at hr
    · rename_i hl
      simp only [Option.some.injEq, Prod.mk.injEq] at hr
      obtain ⟨rfl, rfl⟩ := hr
      obtain ⟨⟨C, T, N⟩, hc, hs1, hs2, hs3⟩ := hsite
      obtain ⟨hin, hnm, tys', hf1, hf2, hf3⟩ := hcl.2 _ _ hc
      cases hty.symm.trans hf1
      have hf2 : tys.length = N := hf2
      have e1 : (h ++ [Sum.inl (a, tys.map defaultValue)] : xH).length - h.length = 1 := by simp
      have e2 : xsz (h ++ [Sum.inl (a, tys.map defaultValue)] : xH) - xsz h = N := by
        rw [xsz_app]
        show xsz h + ((tys.map defaultValue).length + 0) - xsz h = N
        rw [List.length_map]
        omega
      rw [e1] at hR1 kk
      rw [e2] at hR2 kk
      have hKn := hK.1 _ _ hc
      refine W.newcK hx hb hown (hts _ hs1) (hts _ hs2) (hts _ hs3) rfl hd hR1 hR2 hKn.2.1 rfl fun H' kC hkC e1 z1 o1 => ?_
      have hb1 := u_born (fun k => tys.getD k .int) hts hin hKn hkC e1 hf3
      obtain ⟨hw', ha⟩ := hw.push (c' := Sum.inl (a, tys.map defaultValue)) hl (Or.inl ⟨_, hc, by rw [List.length_map]; exact hf2, hb1.to (fun k hk => by
        have hk : k < N := hk
        have hkt : k < tys.length := by omega
        show defaultValue (tys.getD k .int) = ((tys.map defaultValue).map (xsh ad)).getD k .null
        rw [List.getD_eq_getElem?_getD, List.getD_eq_getElem?_getD, List.getElem?_map, List.getElem?_map, List.getElem?_eq_getElem hkt]
        show defaultValue tys[k] = xsh ad (defaultValue tys[k])
        cases tys[k] <;> rfl)⟩) z1 o1
      refine W.eq ?_ (kk H' _ hw' (xS.new hS0 (by omega) o1))
      show _ = F0 m (pc + 3) L ((.ref h.length :: st).map (xsh ad))
      rw [List.map_cons]
      show _ = F0 m (pc + 3) L (.ref (ad h.length) :: st.map (xsh ad))
      rw [ha]
    · cases hr
  · cases hr
theorem xna_one {ty : FieldType} {t : ArrayType} {n : Int32} {r : List Value} {c1 : xC} {N : Nat} (hx : p.tables.exec = Jvm.exec) (hb : c.code = cc) (hts : ∀ w ∈ Ts, w.before args s = true) (hw : xW D cl ad z s h H) (hS0 : va_S (fun q => z ≤ q) H0 H locs) (hsite : Jvm.Cond.arrayClass (newarray.typeOf t) ∈ Ts) (hd : decode cc pc = .ok (.newarray t, 2)) (hn : ¬ n < 0) (hN : n.toNatClampNeg = N) (h1 : N ≤ 10000) (hl : h.length < 1048576) (hcb : componentBytes (newarray.typeOf t) ≤ 8) (hcz : xcz c1 = N) (hc1 : ∀ (H' : Heap) (cA : ClassId), H'[H.size]? = some (arrV cA N (fun _ => defaultValue (newarray.typeOf t))) → ArrOfT s cA (newarray.typeOf t) → xAt D cl ad s H' H.size c1) (hR1 : cells + ((h ++ [c1]).length - h.length) ≤ R.cells) (hR2 : slots + (xsz (h ++ [c1]) - xsz h) ≤ R.slots)
    (kk : ∀ (H' : Heap) (locs' : List Loc), xW D cl ad z s (h ++ [c1]) H' → va_S (fun q => z ≤ q) H0 H' locs' → W p l e R s m args below meth c H' locs' (cells + ((h ++ [c1]).length - h.length)) (slots + (xsz (h ++ [c1]) - xsz h)) Q (F0 m (pc + 2) L ((.ref h.length :: r).map (xsh ad)))) : W p l e R s m args below meth c H locs cells slots Q (F0 m pc L ((.int n :: r).map (xsh ad))) := by
  have e1 : (h ++ [c1] : xH).length - h.length = 1 := by simp
  have e2 : xsz (h ++ [c1] : xH) - xsz h = N := by
    rw [xsz_app]
    show xsz h + (xcz c1 + 0) - xsz h = N
    omega
  rw [e1] at hR1 kk
  rw [e2] at hR2 kk
  have hbytes : N * componentBytes (newarray.typeOf t) ≤ 536870912 := Nat.le_trans (Nat.mul_le_mul h1 hcb) (by decide)
  refine W.newaK hx hb (hts _ hsite) rfl hd rfl hn hN hbytes hR1 hR2 rfl fun H' cA e1 z1 o1 hA => ?_
  obtain ⟨hw', ha⟩ := hw.push (c' := c1) hl (hc1 H' cA e1 hA) z1 o1
  refine W.eq ?_ (kk H' _ hw' (xS.new hS0 (by omega) o1))
  show _ = F0 m (pc + 2) L (.ref (ad h.length) :: r.map (xsh ad))
  rw [ha]
theorem xarrV {cA : ClassId} {N : Nat} {v : Value} : (arrV cA N (fun _ => v)).slots = (List.replicate N v).toArray := by
  apply Array.ext
  · simp [arrV]
  · intro j h1 h2
    simp [arrV]
theorem xArr.born {H' : Heap} {q N : Nat} {cA : ClassId} {ty : FieldType} {v : Value} {vs : List Value} (e : H'[q]? = some (arrV cA N (fun _ => v))) (hA : ArrOfT s cA ty) (hv : vs = List.replicate N v) : xArr s H' q ty vs :=
  ⟨_, e, hA _ _, (by intro q; cases q), by rw [xarrV, hv]⟩
theorem xna_sound {ini : Bool} {t : ArrayType} (hx : p.tables.exec = Jvm.exec) (hb : c.code = cc) (hts : ∀ w ∈ Ts, w.before args s = true) (hw : xW D cl ad z s h H) (hS0 : va_S (fun q => z ≤ q) H0 H locs) (hsite : xSite Ts Rs cl own ini a tg (.newarray t)) (hd : decode cc pc = .ok (.newarray t, 2)) (hr : xna t st h = some (st', h')) (hR1 : cells + (h'.length - h.length) ≤ R.cells) (hR2 : slots + (xsz h' - xsz h) ≤ R.slots)
    (kk : ∀ (H' : Heap) (locs' : List Loc), xW D cl ad z s h' H' → va_S (fun q => z ≤ q) H0 H' locs' → W p l e R s m args below meth c H' locs' (cells + (h'.length - h.length)) (slots + (xsz h' - xsz h)) Q (F0 m (pc + 2) L (st'.map (xsh ad)))) : W p l e R s m args below meth c H locs cells slots Q (F0 m pc L (st.map (xsh ad))) := by
  unfold xna at hr
  split at hr
  · rename_i n r
    split at hr
    · rename_i hcs
      obtain ⟨hn, h1, hl⟩ := hcs
      split at hr
      · simp only [Option.some.injEq, Prod.mk.injEq] at hr
        obtain ⟨rfl, rfl⟩ := hr
        exact xna_one (ty := .int) (c1 := (.inr (.inl (0, List.replicate n.toNatClampNeg 0)))) hx hb hts hw hS0 hsite hd hn rfl h1 hl (by decide) (by simp [xcz]) (fun H' cA e hA => xArr.born e hA (by rw [List.map_replicate]; rfl)) hR1 hR2 kk
      · simp only [Option.some.injEq, Prod.mk.injEq] at hr
        obtain ⟨rfl, rfl⟩ := hr
        exact xna_one (ty := .byte) (c1 := (.inr (.inl (1, List.replicate n.toNatClampNeg 0)))) hx hb hts hw hS0 hsite hd hn rfl h1 hl (by decide) (by simp [xcz]) (fun H' cA e hA => xArr.born e hA (by rw [List.map_replicate]; rfl)) hR1 hR2 kk
      · simp only [Option.some.injEq, Prod.mk.injEq] at hr
        obtain ⟨rfl, rfl⟩ := hr
        exact xna_one (ty := .long) (c1 := (.inr (.inr (.inl (List.replicate n.toNatClampNeg 0))))) hx hb hts hw hS0 hsite hd hn rfl h1 hl (by decide) (by simp [xcz]) (fun H' cA e hA => xArr.born e hA (by rw [List.map_replicate]; rfl)) hR1 hR2 kk
      · cases hr
    · cases hr
  · cases hr
end XHS
