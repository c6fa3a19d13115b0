section VA
variable {B : Nat} {σ : Sg}
theorem SgOK.mono {B' : Nat} (ok : SgOK B σ) (h : B ≤ B') : SgOK B' σ := by
  obtain ⟨a, b, c, d, e, f, g, i⟩ := ok
  exact ⟨a, b, c, d.mono h, e, fun i hi => (f i hi).mono h, g, fun j x hj hx => ⟨(i j x hj hx).1, (i j x hj hx).2.mono h⟩⟩
theorem SgOK.deed {m : Mo} (ok : SgOK B σ) (hm : MoB B m) : SgOK B (σ.deed m) := by
  obtain ⟨a, b, c, d, e, f, g, i⟩ := ok
  refine ⟨a, b, c, hm, ?_, fun j hj => ?_, g, i⟩
  · show pushN σ.np ≤ 10
    unfold pushN
    split <;> omega
  · have hj' : j < pushN σ.np := hj
    show MoB B (pushM σ.np σ.pm σ.m j)
    unfold pushN at hj'
    unfold pushM
    split
    · next q =>
      rw [if_pos q] at hj'
      show MoB B (if j = 9 then σ.m else σ.pm (j + 1))
      split
      · exact d
      · exact f (j + 1) (by omega)
    · next q =>
      rw [if_neg q] at hj'
      show MoB B (if j = σ.np then σ.m else σ.pm j)
      split
      · exact d
      · exact f j (by omega)
theorem SgOK.setTr {i : Nat} {t : Int × Nat × (Nat → Int)} (ok : SgOK B σ) (ht : -1 ≤ t.1 ∧ t.1 ≤ 3 ∧ t.2.1 ≤ 40) : SgOK B (σ.setTr i t) := by
  obtain ⟨a, b, c, d, e, f, g, i'⟩ := ok
  refine ⟨a, b, c, d, e, f, fun j hj => ?_, i'⟩
  show -1 ≤ (if j = i then t else σ.tr j).1 ∧ (if j = i then t else σ.tr j).1 ≤ 3 ∧ (if j = i then t else σ.tr j).2.1 ≤ 40
  split
  · exact ht
  · exact g j hj
theorem sHour_ok {v : Int} (ok : SgOK B σ) : SgOK (B + 40) (sHour σ v) := by
  unfold sHour
  split
  · refine (ok.mono (B' := B + 40) (by omega)).deed ?_
    obtain ⟨⟨a, b⟩, c⟩ := ok.2.2.2.1
    exact ⟨⟨fun p => ⟨(a p).1, tired_le _ _ _ _ _ _⟩, b⟩, by show σ.m.hrs + 1 ≤ B + 40; omega⟩
  · exact ok.mono (by omega)
theorem sChange_ok {p : Int} (ok : SgOK B σ) : SgOK (B + 40) (sChange σ p) := by
  unfold sChange
  split
  · refine (ok.mono (B' := B + 40) (by omega)).deed ?_
    obtain ⟨⟨a, b⟩, c⟩ := ok.2.2.2.1
    refine ⟨⟨fun q => ⟨?_, (a q).2⟩, b⟩, by show σ.m.hrs ≤ B + 40; omega⟩
    show (if q = _ then 1 - σ.m.sd _ else σ.m.sd q) ≤ 1
    have := (a q).1
    split <;> omega
  · exact ok.mono (by omega)
theorem sSoup_ok {p : Int} (ok : SgOK B σ) : SgOK (B + 40) (sSoup σ p) := by
  unfold sSoup
  split
  · refine (ok.mono (B' := B + 40) (by omega)).deed ?_
    obtain ⟨⟨a, b⟩, c⟩ := ok.2.2.2.1
    refine ⟨⟨fun q => ⟨(a q).1, ?_⟩, b⟩, by show σ.m.hrs ≤ B + 40; omega⟩
    show (if q = _ then 4 else σ.m.st q) ≤ 4
    have := (a q).2
    split <;> omega
  · exact ok.mono (by omega)
theorem sCold_ok {n : Int} (ok : SgOK B σ) : SgOK (B + 40) (sCold σ n) := by
  unfold sCold
  split
  · next hn =>
    refine (ok.mono (B' := B + 40) (by omega)).deed ?_
    obtain ⟨⟨a, b⟩, c⟩ := ok.2.2.2.1
    exact ⟨⟨a, by show n.toNat ≤ 9; omega⟩, by show σ.m.hrs ≤ B + 40; omega⟩
  · exact ok.mono (by omega)
theorem sUndo_ok {n : Int} (ok : SgOK B σ) : SgOK (B + 40) (sUndo σ n) := by
  unfold sUndo
  split
  · next hn =>
    refine SgOK.mono (B := B) ?_ (by omega)
    obtain ⟨a, b, c, d, e, f, g, i⟩ := ok
    refine ⟨a, b, c, f (σ.np - n.toNat) (by omega), by show σ.np - n.toNat ≤ 10; omega, fun j hj => f j ?_, g, i⟩
    have hj' : j < σ.np - n.toNat := hj
    omega
  · exact ok.mono (by omega)
theorem sPerform_ok {t : Int} (ok : SgOK B σ) : SgOK (B + 40) (sPerform σ t) := by
  unfold sPerform
  split
  · next hn =>
    refine (ok.mono (B' := B + 40) (by omega)).deed ?_
    have ht : 0 ≤ t ∧ t < 4 := by
      have h := hn.1
      unfold aTr at h
      split at h
      · assumption
      · omega
    have h40 := (ok.2.2.2.2.2.2.1 t.toNat (by omega)).2.2
    exact (tellD_ok (h := σ.h) (v := (σ.tr t.toNat).2.2) (σ.tr t.toNat).2.1 0 σ.m B ok.2.2.2.1).mono (by omega)
  · exact ok.mono (by omega)
theorem sWinter_ok {seed times : Int} (ok : SgOK B σ) : SgOK (B + 40) (sWinter σ seed times) := by
  unfold sWinter
  split
  · next hn =>
    refine (ok.mono (B' := B + 40) (by omega)).deed ?_
    exact (winD_ok (h := σ.h) times.toNat seed 0 σ.m B ok.2.2.2.1).1.mono (by omega)
  · exact ok.mono (by omega)
theorem sFeed_ok {a b c e f : Int} (ok : SgOK B σ) : SgOK (B + 40) (sFeed σ a b c e f) := by
  unfold sFeed
  split
  · next hn =>
    refine SgOK.mono (B := B) ?_ (by omega)
    obtain ⟨o1, o2, o3⟩ := ok
    exact ⟨hn, fun k => feedT_le o2 k, o3⟩
  · exact ok.mono (by omega)
theorem sNumbers_ok {t s n : Int} (ok : SgOK B σ) : SgOK (B + 40) (sNumbers σ t s n) := by
  unfold sNumbers
  split
  · next hn => exact (ok.setTr ⟨by show -1 ≤ s; omega, by show s ≤ 3; omega, by show n.toNat ≤ 40; omega⟩).mono (by omega)
  · exact ok.mono (by omega)
theorem aTr_r {t : Int} (h : aTr σ t = 0) : 0 ≤ t ∧ t < 4 := by
  unfold aTr at h
  split at h
  · assumption
  · omega
theorem sWrite_ok {t i v : Int} (ok : SgOK B σ) : SgOK (B + 40) (sWrite σ t i v) := by
  unfold sWrite
  split
  · next hn =>
    have ht := aTr_r hn.1
    exact SgOK.mono (B := B) (SgOK.setTr ok (ok.2.2.2.2.2.2.1 t.toNat (by omega))) (by omega)
  · exact ok.mono (by omega)
theorem sLists_ok {t side : Int} (ok : SgOK B σ) : SgOK (B + 40) (sLists σ t side) := by
  unfold sLists
  split
  · next hn =>
    have ht := aTr_r hn.2
    exact SgOK.mono (B := B) (SgOK.setTr ok (ok.2.2.2.2.2.2.1 t.toNat (by omega))) (by omega)
  · exact ok.mono (by omega)
theorem sImage_ok {i : Int} (ok : SgOK B σ) : SgOK (B + 40) (sImage σ i) := by
  unfold sImage
  split
  · next hn =>
    refine SgOK.mono (B := B) ?_ (by omega)
    obtain ⟨a, b, c, d, e, f, g, i'⟩ := ok
    refine ⟨a, b, c, d, e, f, g, fun j x hj hx => ?_⟩
    have hx' : (if j = i.toNat then some (σ.h, σ.m) else σ.im j) = some x := hx
    split at hx'
    · cases hx'
      exact ⟨c, d⟩
    · exact i' j x hj hx'
  · exact ok.mono (by omega)
theorem sRestore_ok {i : Int} (ok : SgOK B σ) : SgOK (B + 40) (sRestore σ i) := by
  unfold sRestore
  split
  · next hn =>
    split
    · next x hx =>
      refine SgOK.mono (B := B) ?_ (by omega)
      obtain ⟨a, b, c, d, e, f, g, i'⟩ := ok
      obtain ⟨h1, h2⟩ := i' i.toNat x (by omega) hx
      exact ⟨a, b, h1, h2, by show 0 ≤ 10; omega, fun j hj => absurd hj (by show ¬ j < 0; omega), g, i'⟩
    · exact ok.mono (by omega)
  · exact ok.mono (by omega)
end VA
