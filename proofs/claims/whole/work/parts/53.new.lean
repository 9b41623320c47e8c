/-! a formula more: the table, the world, the addresses -/
section
variable {K : KT} {mon lst els els2 lg tm pr sz : Nat} {wat md md' : Int32} {n cap cap2 : Nat} {fE g : Nat → Option Nat} {kd wh fi se kd' wh' fi' se' : Nat → Nat} {lo hi fr rg xr lo' hi' fr' rg' xr' : Nat → Int32} {dc dc' ad ad' sa sa' : Nat → Nat} {stt stt' : Nat → Nat → Int64} {G : Int64} {N : Nat} {T : Nat → Int32} {Qp : Nat → Int64} {H H1 : Heap} {j : Nat}
/-- the tables agree below n -/
def agn (n : Nat) (kd wh fi se kd' wh' fi' se' : Nat → Nat) (lo hi fr rg xr lo' hi' fr' rg' xr' : Nat → Int32) (dc dc' ad ad' sa sa' : Nat → Nat) (stt stt' : Nat → Nat → Int64) : Prop :=
  ∀ j, j < n → kd' j = kd j ∧ wh' j = wh j ∧ fi' j = fi j ∧ se' j = se j ∧ lo' j = lo j ∧ hi' j = hi j ∧ fr' j = fr j ∧ rg' j = rg j ∧ xr' j = xr j ∧ dc' j = dc j ∧ ad' j = ad j ∧ sa' j = sa j ∧ stt' j = stt j
theorem agn_up (a1 a2 a3 a4 : Nat) (b1 b2 b3 b4 b5 : Int32) (c1 c2 c3 : Nat) (s1 : Nat → Int64) : agn n kd wh fi se (va_up kd n a1) (va_up wh n a2) (va_up fi n a3) (va_up se n a4) lo hi fr rg xr (va_up lo n b1) (va_up hi n b2) (va_up fr n b3) (va_up rg n b4) (va_up xr n b5) dc (va_up dc n c1) ad (va_up ad n c2) sa (va_up sa n c3) stt (va_up stt n s1) := fun j hj => by
  have h : j ≠ n := by omega
  simp only [va_up_ne _ _ h, and_self]
theorem fo_ag (hV : tabOk kd wh fi se lo hi n) (hg : agn n kd wh fi se kd' wh' fi' se' lo hi fr rg xr lo' hi' fr' rg' xr' dc dc' ad ad' sa sa' stt stt') (hj : j < n) : fo kd' wh' fi' se' lo' hi' fr' rg' xr' dc' ad' sa' j = fo kd wh fi se lo hi fr rg xr dc ad sa j := by
  obtain ⟨h1, h2, h3, h4, h5, h6, h7, h8, h9, h10, h11, h12, h13⟩ := hg j hj
  unfold fo xt
  rw [h1, h2, h3, h4, h5, h6, h7, h8, h9, h10, h12]
  by_cases c : kd j ≤ 2
  · have : kd j = 0 ∨ kd j = 1 ∨ kd j = 2 := by omega
    rcases this with e | e | e <;> simp [e]
  · have hp := (hV j hj).2.2.2.1 (by omega)
    rw [(hg (fi j) (by omega)).2.2.2.2.2.2.2.2.2.2.1, (hg (se j) (by omega)).2.2.2.2.2.2.2.2.2.2.1]
theorem cw_new (h : cw K mon lst els lg tm pr wat md n cap fE kd wh fi se lo hi fr rg xr dc ad sa stt G N T Qp H) (hV : tabOk kd wh fi se lo hi n) (hD : dst K mon lst els lg tm pr ad sa n cap) (hg : agn n kd wh fi se kd' wh' fi' se' lo hi fr rg xr lo' hi' fr' rg' xr' dc dc' ad ad' sa sa' stt stt')
    (hkp : ∀ q : Nat, q < H.size → ¬ (q = lst ∨ (0 < cap ∧ q = els)) → H1[q]? = H[q]?) (ha : va_at K.1 classes (lst, .inr (10, [.int md', .ref els2, .int (nI (n + 1))])) H1) (he : va_at K.1 classes (els2, .inl (kO K, cap2, .inr (.inr (.inr (.inr g))))) H1) (hg1 : ∀ k, k < n → g k = fE k) (hg2 : g n = some (ad' n)) (hc1 : n + 1 ≤ cap2) (hc2 : cap2 < 2147483648)
    (ho : va_at K.1 classes (ad' n, fo kd' wh' fi' se' lo' hi' fr' rg' xr' dc' ad' sa' n) H1) (hs : va_at K.1 classes (sa' n, .inl (kJ K, 24, .inr (.inl (stt' n)))) H1) : cw K mon lst els2 lg tm pr wat md' (n + 1) cap2 g kd' wh' fi' se' lo' hi' fr' rg' xr' dc' ad' sa' stt' G N T Qp H1 := by
  obtain ⟨hm, hls, hlg, ht, hq, hfm⟩ := h
  have fx : ∀ i, i < 6 → i ≠ 1 → i ≠ 2 → ¬ (ca mon lst els lg tm pr ad sa i = lst ∨ (0 < cap ∧ ca mon lst els lg tm pr ad sa i = els)) := fun i hi h1 h2 z => z.elim (hD.fix (i := i) (j := 1) hi (by omega) h1) (fun z => hD.fix (i := i) (j := 2) hi (by omega) h2 z.2)
  have fa : ∀ j, j < n → ¬ (ad j = lst ∨ (0 < cap ∧ ad j = els)) := fun j hj z => z.elim (fun z => hD.fad (i := 1) (by omega) hj z.symm) (fun z => hD.fad (i := 2) (by omega) hj z.2.symm)
  have fs : ∀ j, j < n → ¬ (sa j = lst ∨ (0 < cap ∧ sa j = els)) := fun j hj z => z.elim (fun z => hD.fsa (i := 1) (by omega) hj z.symm) (fun z => hD.fsa (i := 2) (by omega) hj z.2.symm)
  have hfm' : ∀ j, j < n + 1 → fmk K kd' wh' fi' se' lo' hi' fr' rg' xr' dc' ad' sa' stt' H1 j := by
    intro j hj
    by_cases e : j = n
    · subst e; exact ⟨ho, hs⟩
    · obtain ⟨-, -, -, -, -, -, -, -, -, -, h11, h12, h13⟩ := hg j (by omega)
      have a1 := (hfm j (by omega)).1.cl (A1 := fun q => q = lst ∨ (0 < cap ∧ q = els)) hkp (fa j (by omega))
      have a2 := (hfm j (by omega)).2.cl (A1 := fun q => q = lst ∨ (0 < cap ∧ q = els)) hkp (fs j (by omega))
      refine ⟨?_, ?_⟩
      · rw [fo_ag hV hg (by omega), h11]; exact a1
      · rw [h12, h13]; exact a2
  refine ⟨hm.cl (A1 := fun q => q = lst ∨ (0 < cap ∧ q = els)) hkp (fx 0 (by omega) (by omega) (by omega)), ⟨ha, hc2, hc1, fun _ => he, fun k hk => ⟨?_, fm_ex (hfm' k hk)⟩⟩, hlg.cl (A1 := fun q => q = lst ∨ (0 < cap ∧ q = els)) hkp (fx 3 (by omega) (by omega) (by omega)), ht.cl (A1 := fun q => q = lst ∨ (0 < cap ∧ q = els)) hkp (fx 4 (by omega) (by omega) (by omega)), hq.cl (A1 := fun q => q = lst ∨ (0 < cap ∧ q = els)) hkp (fx 5 (by omega) (by omega) (by omega)), hfm'⟩
  by_cases e : k = n
  · subst e; exact hg2
  · rw [hg1 k (by omega), (hls.2.2.2.2 k (by omega)).1, (hg k (by omega)).2.2.2.2.2.2.2.2.2.2.1]
/-- where the class's cells lie: below sz -/
theorem cw_lt (h : cw K mon lst els lg tm pr wat md n cap fE kd wh fi se lo hi fr rg xr dc ad sa stt G N T Qp H) (hc : 0 < cap ∨ els < H.size) : ∀ i, i < 6 + 2 * n → ca mon lst els lg tm pr ad sa i < H.size := by
  obtain ⟨hm, hls, hlg, ht, hq, hfm⟩ := h
  intro i hi
  by_cases h6 : i < 6
  · rcases (show i = 0 ∨ i = 1 ∨ i = 2 ∨ i = 3 ∨ i = 4 ∨ i = 5 by omega) with e | e | e | e | e | e <;> subst e
    · exact hm.lt
    · exact hls.1.lt
    · rcases hc with hc | hc
      · exact (hls.2.2.2.1 hc).lt
      · exact hc
    · exact hlg.lt
    · exact ht.lt
    · exact hq.lt
  · rcases (show i = 6 + 2 * ((i - 6) / 2) ∨ i = 7 + 2 * ((i - 6) / 2) by omega) with e | e
    · rw [e, ca_ad]; exact (hfm ((i - 6) / 2) (by omega)).1.lt
    · rw [e, ca_sa]; exact (hfm ((i - 6) / 2) (by omega)).2.lt
theorem dst_new (hD : dst K mon lst els lg tm pr ad sa n cap) (hlt : ∀ i, i < 6 + 2 * n → ca mon lst els lg tm pr ad sa i < sz) (hz : kz K ≤ sz) (h2 : (els2 = els ∧ cap2 = cap) ∨ sz + 2 ≤ els2) (hc : 0 < cap2) :
    dst K mon lst els2 lg tm pr (va_up ad n sz) (va_up sa n (sz + 1)) (n + 1) cap2 := by
  have val : ∀ i, i < 6 + 2 * (n + 1) → ca mon lst els2 lg tm pr (va_up ad n sz) (va_up sa n (sz + 1)) i = (if i = 2 then els2 else if i = 6 + 2 * n then sz else if i = 7 + 2 * n then sz + 1 else ca mon lst els lg tm pr ad sa i) := by
    intro i hi
    by_cases e2 : i = 2
    · subst e2; rfl
    · rw [if_neg e2]
      by_cases ea : i = 6 + 2 * n
      · rw [if_pos ea, ea, ca_ad, va_up_self]
      · rw [if_neg ea]
        by_cases es : i = 7 + 2 * n
        · rw [if_pos es, es, ca_sa, va_up_self]
        · rw [if_neg es]
          by_cases h6 : i < 6
          · rcases (show i = 0 ∨ i = 1 ∨ i = 3 ∨ i = 4 ∨ i = 5 by omega) with e | e | e | e | e <;> subst e <;> rfl
          · rcases (show i = 6 + 2 * ((i - 6) / 2) ∨ i = 7 + 2 * ((i - 6) / 2) by omega) with e | e
            · rw [e, ca_ad, ca_ad, va_up_ne _ _ (by omega)]
            · rw [e, ca_sa, ca_sa, va_up_ne _ _ (by omega)]
  refine ⟨fun i j hi hj e => ?_, fun i hi h => ?_, fun _ => ?_, fun h => absurd h (by omega)⟩
  · rw [val i hi, val j hj] at e
    have l1 : ∀ x, x < 6 + 2 * (n + 1) → x ≠ 6 + 2 * n → x ≠ 7 + 2 * n → ca mon lst els lg tm pr ad sa x < sz := fun x hx a b => hlt x (by omega)
    have ne2 : ∀ x, x < 6 + 2 * (n + 1) → x ≠ 2 → x ≠ 6 + 2 * n → x ≠ 7 + 2 * n → els2 ≠ ca mon lst els lg tm pr ad sa x := fun x hx a b c z => by
      rcases h2 with h2 | h2
      · exact a (hD.1 2 x (by omega) (by omega) (h2.1.symm.trans z)).symm
      · have := l1 x hx b c; omega
    have ns : els2 ≠ sz ∧ els2 ≠ sz + 1 := by
      rcases h2 with h2 | h2
      · have := hlt 2 (by omega)
        have e3 : ca mon lst els lg tm pr ad sa 2 = els := rfl
        omega
      · omega
    by_cases i2 : i = 2 <;> by_cases j2 : j = 2
    · omega
    · rw [if_pos i2, if_neg j2] at e
      by_cases ja : j = 6 + 2 * n
      · rw [if_pos ja] at e; exact absurd e ns.1
      · rw [if_neg ja] at e
        by_cases js : j = 7 + 2 * n
        · rw [if_pos js] at e; exact absurd e ns.2
        · rw [if_neg js] at e; exact absurd e (ne2 j hj j2 ja js)
    · rw [if_neg i2, if_pos j2] at e
      by_cases ja : i = 6 + 2 * n
      · rw [if_pos ja] at e; exact absurd e.symm ns.1
      · rw [if_neg ja] at e
        by_cases js : i = 7 + 2 * n
        · rw [if_pos js] at e; exact absurd e.symm ns.2
        · rw [if_neg js] at e; exact absurd e.symm (ne2 i hi i2 ja js)
    · rw [if_neg i2, if_neg j2] at e
      by_cases ia : i = 6 + 2 * n <;> by_cases ja : j = 6 + 2 * n
      · omega
      · rw [if_pos ia, if_neg ja] at e
        by_cases js : j = 7 + 2 * n
        · rw [if_pos js] at e; omega
        · rw [if_neg js] at e; have := l1 j hj ja js; omega
      · rw [if_neg ia, if_pos ja] at e
        by_cases is : i = 7 + 2 * n
        · rw [if_pos is] at e; omega
        · rw [if_neg is] at e; have := l1 i hi ia is; omega
      · rw [if_neg ia, if_neg ja] at e
        by_cases is : i = 7 + 2 * n <;> by_cases js : j = 7 + 2 * n
        · omega
        · rw [if_pos is, if_neg js] at e; have := l1 j hj ja js; omega
        · rw [if_neg is, if_pos js] at e; have := l1 i hi ia is; omega
        · rw [if_neg is, if_neg js] at e; exact hD.1 i j (by omega) (by omega) e
  · rw [val i hi, if_neg h]
    by_cases ia : i = 6 + 2 * n
    · rw [if_pos ia]; exact hz
    · rw [if_neg ia]
      by_cases is : i = 7 + 2 * n
      · rw [if_pos is]; omega
      · rw [if_neg is]; exact hD.2.1 i (by omega) h
  · rcases h2 with h2 | h2
    · rw [h2.1]; exact hD.2.2.1 (by omega)
    · omega
end
