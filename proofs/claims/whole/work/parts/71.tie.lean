/-! the tie of the two sides -/
def tie (wat : Int32) (n : Nat) (kd : Nat → Nat) (wh : Nat → Nat) (fi : Nat → Nat) (se : Nat → Nat) (lo : Nat → Int32) (hi : Nat → Int32) (fr : Nat → Int32) (rg : Nat → Int32) (xr : Nat → Int32) (dc : Nat → Nat) (stt : Nat → Nat → Int64) (G : Int64) (N : Nat) (T : Nat → Int32) (Qp : Nat → Int64) (J : Nat → Nat → Int32) (X : Nat → Int64) (t : Nat → Nat) (er : Nat → Bool) : Prop :=
  n ≤ 12 ∧ N ≤ 24 ∧ (wat = 0 ∨ wat = 1) ∧ (wat = 0 → N = 0 ∧ G = 0) ∧ tabOk kd wh fi se lo hi n ∧ mT kd wh fi se lo hi J n ∧ (∀ j, j < n → fr j = frE kd wh fi se fr j) ∧ (∀ j, j < n → rg j = rgE kd wh fi se rg j) ∧ (∀ j, j < n → xr j = bI (er j)) ∧ (∀ j, j < n → er j = erE kd wh fi se rg er j) ∧ (∀ j, j < n → dc j = rch kd fi se hi T dc N j) ∧ tmOk T t N ∧ J 7 = T ∧
  (∀ i, i < N → ∀ r x y, r < 3 → x < 4 → y < 4 → tb (Qp i) (16 * r + 4 * x + y) = bt (J 8 (24 * r + i)) (x + 4 * y)) ∧ (∀ r x y, r < 3 → x < 4 → y < 4 → tb G (16 * r + 4 * x + y) = bt (J 9 r) (x + 4 * y)) ∧ (∀ k, k < n → ∀ i, i < dc k → ∀ b, b < 64 → tb (stt k i) b = tb (X (24 * k + i)) b) ∧ (∀ k, k < n → ∀ i, i < N → ∀ b, b < 64 → tb (X (24 * k + i)) b = sat kd wh fi se lo hi (J 7) (J 8) X N k i b)
def capOk (cap n : Nat) : Prop := (cap = 0 ∧ n = 0) ∨ (cap = 10 ∧ n ≤ 10) ∨ cap = 15
/-- what holds between two calls of the law's loop -/
def inv (K : KT) (mon lst lg tm pr : Nat) (ma : Nat → Nat) (H : Heap) : Prop := ∃ (els : Nat) (wat : Int32) (md : Int32) (n : Nat) (cap : Nat) (fE : Nat → Option Nat) (kd : Nat → Nat) (wh : Nat → Nat) (fi : Nat → Nat) (se : Nat → Nat) (lo : Nat → Int32) (hi : Nat → Int32) (fr : Nat → Int32) (rg : Nat → Int32) (xr : Nat → Int32) (dc : Nat → Nat) (ad : Nat → Nat) (sa : Nat → Nat) (stt : Nat → Nat → Int64) (G : Int64) (N : Nat) (T : Nat → Int32) (Qp : Nat → Int64) (J : Nat → Nat → Int32) (X : Nat → Int64) (t : Nat → Nat) (er : Nat → Bool), cw K mon lst els lg tm pr wat md n cap fE kd wh fi se lo hi fr rg xr dc ad sa stt G N T Qp H ∧ dst K mon lst els lg tm pr ad sa n cap ∧ capOk cap n ∧ mW K ma n wat N J X H ∧ mD K ma ∧ (∀ q, ac K mon lst els lg tm pr ad sa n q → ¬ mA ma q) ∧ tie wat n kd wh fi se lo hi fr rg xr dc stt G N T Qp J X t er
section
variable {K : KT} {H H1 : Heap} {ma : Nat → Nat} {mon lst lg tm pr : Nat} {els : Nat} {wat : Int32} {md : Int32} {n : Nat} {cap : Nat} {fE : Nat → Option Nat} {kd : Nat → Nat} {wh : Nat → Nat} {fi : Nat → Nat} {se : Nat → Nat} {lo : Nat → Int32} {hi : Nat → Int32} {fr : Nat → Int32} {rg : Nat → Int32} {xr : Nat → Int32} {dc : Nat → Nat} {ad : Nat → Nat} {sa : Nat → Nat} {stt : Nat → Nat → Int64} {G : Int64} {N : Nat} {T : Nat → Int32} {Qp : Nat → Int64} {J : Nat → Nat → Int32} {X : Nat → Int64} {t : Nat → Nat} {er : Nat → Bool}
theorem cw.cl {A1 : Nat → Prop} (h : cw K mon lst els lg tm pr wat md n cap fE kd wh fi se lo hi fr rg xr dc ad sa stt G N T Qp H) (hD : dst K mon lst els lg tm pr ad sa n cap) (hk : ∀ x : Nat, x < H.size → ¬ A1 x → H1[x]? = H[x]?) (hs : ∀ q, ac K mon lst els lg tm pr ad sa n q → ¬ A1 q) : cw K mon lst els lg tm pr wat md n cap fE kd wh fi se lo hi fr rg xr dc ad sa stt G N T Qp H1 := by
  obtain ⟨hm, ⟨l1, l2, l3, l4, l5⟩, hg, ht, hq, hf⟩ := h
  refine ⟨hm.cl hk (hs _ (ac_fix hD (i := 0) (by omega) (by omega))), ⟨l1.cl hk (hs _ (ac_fix hD (i := 1) (by omega) (by omega))), l2, l3, fun h0 => (l4 h0).cl hk (hs _ (ac_els hD h0)), fun k hk2 => ?_⟩, hg.cl hk (hs _ (ac_fix hD (i := 3) (by omega) (by omega))), ht.cl hk (hs _ (ac_fix hD (i := 4) (by omega) (by omega))), hq.cl hk (hs _ (ac_fix hD (i := 5) (by omega) (by omega))), fun k hk2 => ?_⟩
  · obtain ⟨e, c, fs, h8, hz⟩ := l5 k hk2
    exact ⟨e, c, fs, h8, hz.cl hk (hs _ (ac_ad hD hk2))⟩
  · exact ⟨(hf k hk2).1.cl hk (hs _ (ac_ad hD hk2)), (hf k hk2).2.cl hk (hs _ (ac_sa hD hk2))⟩
theorem tie.jj {J' : Nat → Nat → Int32} (h : tie wat n kd wh fi se lo hi fr rg xr dc stt G N T Qp J X t er) (e : ∀ p, p < 11 → J' p = J p) : tie wat n kd wh fi se lo hi fr rg xr dc stt G N T Qp J' X t er := by
  obtain ⟨h12, h24, hwt, hw0, hV, hT, hfr, hrg, hxr, her, hrc, htm, hJ7, hQP, hGJ, hst, hXs⟩ := h
  refine ⟨h12, h24, hwt, hw0, hV, hT.to (fun p hp => e p (by omega)), hfr, hrg, hxr, her, hrc, htm, ?_, ?_, ?_, hst, ?_⟩
  · rw [e 7 (by decide)]; exact hJ7
  · rw [e 8 (by decide)]; exact hQP
  · rw [e 9 (by decide)]; exact hGJ
  · rw [e 7 (by decide), e 8 (by decide)]; exact hXs
theorem tie.rcJ (h : tie wat n kd wh fi se lo hi fr rg xr dc stt G N T Qp J X t er) : (∀ j, j < n → dc j = rch kd fi se hi (J 7) dc N j) ∧ (∀ j, j < n → dc j ≤ N) := by
  obtain ⟨h12, h24, hwt, hw0, hV, hT, hfr, hrg, hxr, her, hrc, htm, hJ7, hQP, hGJ, hst, hXs⟩ := h
  refine ⟨fun j hj => ?_, rch_all hV (Nat.le_refl n) hrc⟩
  rw [hJ7]; exact hrc j hj
theorem tie.st {dc' : Nat → Nat} {J' : Nat → Nat → Int32} (h : tie wat n kd wh fi se lo hi fr rg xr dc stt G N T Qp J X t er) (e : ∀ p, p ≠ 9 → J' p = J p) (e9 : ∀ r, r < 3 → J' 9 r = 0) (h0 : ∀ k, k < n → dc' k = 0) {w' : Int32} (hw' : w' = 0 ∨ w' = 1) : tie w' n kd wh fi se lo hi fr rg xr dc' stt 0 0 T Qp J' X t er := by
  obtain ⟨h12, h24, hwt, hw0, hV, hT, hfr, hrg, hxr, her, hrc, htm, hJ7, hQP, hGJ, hst, hXs⟩ := h
  refine ⟨h12, by omega, hw', fun _ => ⟨rfl, rfl⟩, hV, hT.to (fun p hp => e p (by omega)), hfr, hrg, hxr, her, fun j hj => ?_, ⟨fun i hi => absurd hi (by omega), fun i j _ hj => absurd hj (by omega)⟩, by rw [e 7 (by decide)]; exact hJ7, fun i hi => absurd hi (by omega), fun r x y hr hx hy => ?_, fun k hk i hi => absurd hi (by rw [h0 k hk]; omega), fun k hk i hi => absurd hi (by omega)⟩
  · rw [h0 j hj]
    exact (rch_0 _ _ (fun h3 => ⟨h0 _ (by have := ((hV j hj).2.2.2.1 h3).1; omega), h0 _ (by have := ((hV j hj).2.2.2.1 h3).2; omega)⟩)).symm
  · rw [tb_0, e9 r hr, b_0]
theorem tie.n0 (h : tie wat n kd wh fi se lo hi fr rg xr dc stt G N T Qp J X t er) : tie wat 0 kd wh fi se lo hi fr rg xr dc stt G N T Qp J X t er := by
  obtain ⟨h12, h24, hwt, hw0, hV, hT, hfr, hrg, hxr, her, hrc, htm, hJ7, hQP, hGJ, hst, hXs⟩ := h
  exact ⟨by omega, h24, hwt, hw0, fun k hk => absurd hk (by omega), fun k hk => absurd hk (by omega), fun k hk => absurd hk (by omega), fun k hk => absurd hk (by omega), fun k hk => absurd hk (by omega), fun k hk => absurd hk (by omega), fun k hk => absurd hk (by omega), htm, hJ7, hQP, hGJ, fun k hk => absurd hk (by omega), fun k hk => absurd hk (by omega)⟩
theorem dst.n0 (h : dst K mon lst els lg tm pr ad sa n cap) : dst K mon lst els lg tm pr ad sa 0 cap := ⟨fun i j hi hj => h.1 i j (by omega) (by omega), fun i hi => h.2.1 i (by omega), h.2.2⟩
theorem ac.n0 {q : Nat} (h : ac K mon lst els lg tm pr ad sa 0 q) : ac K mon lst els lg tm pr ad sa n q := by
  obtain ⟨h1, i, hi, e⟩ := h
  exact ⟨h1, i, by omega, e⟩
theorem mA.lt {q : Nat} (h : mA ma q) (hw : mW K ma n wat N J X H) : q < H.size := by
  obtain ⟨i, hi, rfl⟩ := h
  by_cases e0 : i = 0
  · subst e0; exact hw.1.lt
  · by_cases e1 : i = 10
    · subst e1; exact hw.2.2.lt
    · exact (hw.2.1 i (by omega) (by omega) e1).lt
theorem lw_lt {s : State} (h : cw K mon lst els lg tm pr wat md n cap fE kd wh fi se lo hi fr rg xr dc ad sa stt G N T Qp H) (hD : dst K mon lst els lg tm pr ad sa n cap) (hC : CX K s) (hz : kz K ≤ H.size) : ∀ i, i < 6 + 2 * n → ca mon lst els lg tm pr ad sa i < H.size := by
  refine cw_lt h ?_
  by_cases h0 : 0 < cap
  · exact Or.inl h0
  · right
    rw [hD.2.2.2 (by omega)]
    obtain ⟨cell, h1, h2, h3, h4, h5, h6, h7⟩ := hC.2.2.2.2.2.1
    omega
end
