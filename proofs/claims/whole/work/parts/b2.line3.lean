section SB
variable {t : Nat → Nat} {n F : Nat}
theorem LI_fu {N k : Nat} {h : Hl} {m : Mo} (hN : kin t n (pls t n (N)) = 24 ∨ kin t n (pls t n (N)) = 25) (hk : k ≤ N) (hF : 10 * N + 10 ≤ F) : okZ (LI t n F k h m) := by
  unfold LI LIp LIt LIc
  repeat' split
  · exact okZ.bdd (by omega)
  · next q _ q1 =>
    have h1 := nxN hN hk q (by omega) (by omega)
    have h2 := nxN hN h1 q1 (by omega) (by omega)
    exact okZ.nu fun x q2 => by
      have h3 := nxN hN h2 q2 (by omega) (by omega)
      exact FL_fu hN F _ _ _ _ h3 (by omega)
  · exact okZ.bdd (by omega)
  · exact okZ.nu fun x q2 => okZ.gd
  · next q q1 =>
    have h1 := nxN hN hk q (by omega) (by omega)
    have h2 := nxN hN h1 q1 (by omega) (by omega)
    have hf := PR_fu (lw := 0) hN F 0 0 (k + 2) (by omega) h2 (by have : rk 0 = 3 := rfl; omega)
    rcases rs_cases (PR t n 0 F 0 0 (k + 2)) with ⟨w, k1, hr⟩ | ⟨k1, cs, hr⟩
    · rw [hr] at hf ⊢
      exact okZ.bdd fun e => hf k1 (by rw [e])
    · rw [hr]; exact okZ.gd
  · exact okZ.bdd (by omega)
  · next q q1 =>
    have h1 := nxN hN hk q (by omega) (by omega)
    have h2 := nxN hN h1 q1 (by omega) (by omega)
    have hf := PR_fu (lw := 1) hN F 5 0 (k + 2) (by omega) h2 (by have : rk 5 = 6 := rfl; omega)
    rcases rs_cases (PR t n 1 F 5 0 (k + 2)) with ⟨w, k1, hr⟩ | ⟨k1, cs, hr⟩
    · rw [hr] at hf ⊢
      exact okZ.bdd fun e => hf k1 (by rw [e])
    · rw [hr]; exact okZ.gd
  · exact okZ.bdd (by omega)
  · exact okZ.bdd (by omega)
theorem LI_go {N k k' : Nat} {h h' : Hl} {m m' : Mo} (hN : kin t n (pls t n (N)) = 24 ∨ kin t n (pls t n (N)) = 25) (hk : k ≤ N) (e : LI t n F k h m = Rz.good k' h' m') : k ≤ k' ∧ k' ≤ N := by
  unfold LI LIp LIt LIc at e
  split at e
  · next q =>
    have h1 := nxN hN hk q (by omega) (by omega)
    split at e
    · exact absurd e (fun e => zbad_good e)
    · split at e
      · next q1 =>
        have h2 := nxN hN h1 q1 (by omega) (by omega)
        obtain ⟨q2, x, _, _, e⟩ := nu_good e
        have h3 := nxN hN h2 q2 (by omega) (by omega)
        have := FL_go hN F _ _ _ _ _ _ _ h3 e
        omega
      · exact absurd e (fun e => zbad_good e)
  · split at e
    · next q =>
      have h1 := nxN hN hk q (by omega) (by omega)
      obtain ⟨q2, x, _, _, e⟩ := nu_good e
      have h3 := nxN hN h1 q2 (by omega) (by omega)
      obtain ⟨rfl, _⟩ := zgood_inj e
      omega
    · split at e
      · next q =>
        have h1 := nxN hN hk q (by omega) (by omega)
        split at e
        · next q1 =>
          have h2 := nxN hN h1 q1 (by omega) (by omega)
          obtain ⟨k1, cs, e1, e⟩ := lz_good e
          obtain ⟨rfl, _⟩ := zgood_inj e
          have := PR_le hN h2 (by omega) e1
          omega
        · exact absurd e (fun e => zbad_good e)
      · split at e
        · next q =>
          have h1 := nxN hN hk q (by omega) (by omega)
          split at e
          · next q1 =>
            have h2 := nxN hN h1 q1 (by omega) (by omega)
            obtain ⟨k1, cs, e1, e⟩ := lz_good e
            obtain ⟨rfl, _⟩ := zgood_inj e
            have := PR_le hN h2 (by omega) e1
            omega
          · exact absurd e (fun e => zbad_good e)
        · exact absurd e (fun e => zbad_good e)
theorem LNS_fu {N : Nat} (hN : kin t n (pls t n (N)) = 24 ∨ kin t n (pls t n (N)) = 25) (hF : 10 * N + 10 ≤ F) : ∀ f k h m, k ≤ N → N - k + 1 ≤ f → okZ (LNS t n F f k h m)
  | 0, k, h, m, hk, hf => absurd hf (by omega)
  | f + 1, k, h, m, hk, hf => by
    rw [LNS_s]
    split
    · exact okZ.gd
    · have := LI_fu (k := k) (h := h) (m := m) hN hk hF
      rcases rz_cases (LI t n F k h m) with ⟨w, k1, hr⟩ | ⟨k1, h1, m1, hr⟩
      · rw [hr] at this ⊢; exact this
      · have hg := LI_go hN hk hr
        rw [hr]
        show okZ (if kin t n (pls t n (k1)) = 30 then _ else _)
        split
        · next q =>
          have h2 := nxN hN hg.2 q (by omega) (by omega)
          exact LNS_fu hN hF f _ _ _ h2 (by omega)
        · exact okZ.bdd (by omega)
end SB
